/-! TILL NONE -/
def tlN (A : Nat → (Nat → Int32) → Int32) (a n R : Nat → Int32) : Nat → (Nat → Int32) → Nat × (Nat → Int32)
  | 0, f => (0, f)
  | m + 1, f => if (bou A a n R f 24).2.2 ≤ 0 then (0, f) else ((tlN A a n R m (swp f (bou A a n R f 24).1.toNatClampNeg (bou A a n R f 24).2.1.toNatClampNeg)).1 + 1, (tlN A a n R m (swp f (bou A a n R f 24).1.toNatClampNeg (bou A a n R f 24).2.1.toNatClampNeg)).2)
theorem tlN_fr {A : Nat → (Nat → Int32) → Int32} {a n R : Nat → Int32} : ∀ m f, (∀ h, h < 24 → ∃ o, o ≤ 12 ∧ f h = nI o) → ∀ h, h < 24 → ∃ o, o ≤ 12 ∧ (tlN A a n R m f).2 h = nI o
  | 0, f, h => h
  | m + 1, f, h => by
    rw [tlN]
    by_cases c : (bou A a n R f 24).2.2 ≤ 0
    · rw [if_pos c]; exact h
    · rw [if_neg c]
      rcases bou_ok (A := A) (a := a) (n := n) (R := R) (f := f) 24 (by omega) with ⟨o1, o2⟩ | ⟨p, q, hp, hq, o1, o2, o3⟩
      · exact absurd (by rw [o2]; decide) c
      · rw [o1, o2, cl_nI (by omega), cl_nI (by omega)]
        exact tlN_fr m _ (fr_swp h hp hq)
/-- the class behind some swaps -/
def T2 (σ s : QS) (f : Nat → Int32) : Prop := (∀ c, c ≠ 2 → ¬ (c = 0 ∨ c = 21 ∨ c = 30 ∨ c = 45 ∨ c = 46 ∨ 48 ≤ c ∧ c ≤ 53 ∨ 55 ≤ c ∧ c ≤ 64) → s c = σ c) ∧ s 0 2 = σ 0 2 ∧ s 2 = f ∧ DC s ∧ TC s
theorem T2.L {σ s : QS} {f : Nat → Int32} (h : T2 σ s f) : FrL σ s := fun c hc => h.1 c (by omega) (by omega)
theorem T2.X {σ s : QS} {f : Nat → Int32} (hI : INV σ) (h : T2 σ s f) (hf : ∀ h, h < 24 → ∃ o, o ≤ 12 ∧ f h = nI o) : XI s := by
  refine ⟨LC_fr h.L hI.2.1.1, ?_, h.2.2.2.1, h.2.2.2.2⟩
  rw [h.1 4 (by decide) (by decide), h.1 5 (by decide) (by decide), h.2.2.1]
  exact ⟨hf, hI.A.2.1, hI.A.2.2⟩
theorem T2.B {σ s : QS} {f : Nat → Int32} (h : T2 σ s f) : BS s = bou (cA σ 0) (σ 4) (σ 5) (σ 3) f 24 := by
  unfold BS
  rw [cA_fr h.L, h.1 4 (by decide) (by decide), h.1 5 (by decide) (by decide), h.1 3 (by decide) (by decide), h.2.2.1]
theorem T2.n {σ s t : QS} {f : Nat → Int32} (h : T2 σ s f) (dn : Dn s t) : T2 σ t f := by
  refine ⟨fun c h1 h2 => by rw [dn.1 c h2]; exact h.1 c h1 h2, dn.2.1.trans h.2.1, by rw [dn.1 2 (by decide)]; exact h.2.2.1, Or.inr ⟨dn.2.2.1, dn.2.2.2.1⟩, dn.2.2.2.2⟩
theorem EV.tillX {d : Nat} {σ : QS} (hI : INV σ) : ∀ m i f s, i + m = 10 → T2 σ s f → (∀ h, h < 24 → ∃ o, o ≤ 12 ∧ f h = nI o) → EV (d + 7) 86 1 [some (.inr 0), some (.inl (nI i))] [] s (qI (fun x t => x = nI (i + (tlN (cA σ 0) (σ 4) (σ 5) (σ 3) m f).1) ∧ T2 σ t (tlN (cA σ 0) (σ 4) (σ 5) (σ 3) m f).2)) := by
  intro m
  induction m with
  | zero =>
    intro i f s hi h hf
    exact pX_tillNone_1 ⟨fun _ => ⟨_, rfl, rfl, h⟩, fun q => absurd (nI_le' (a := 10) (by omega) (by omega)) q⟩
  | succ m ih =>
    intro i f s hi h hf
    have hX := h.X hI hf
    refine pX_tillNone_1 ⟨fun q => absurd q (nI_nle' (a := 10) (by omega) (by omega)), fun _ => ⟨_, EV.dayX hX, ?_⟩⟩
    rintro s1 ⟨hn, -⟩
    refine ⟨_, EV.seekT hX hn, ?_⟩
    rw [h.B]
    rintro y t ⟨dn, h6, h45, hy⟩
    have ht := h.n dn
    rw [tlN]
    generalize hb : bou (cA σ 0) (σ 4) (σ 5) (σ 3) f 24 = b at *
    by_cases c : b.2.2 ≤ 0
    · rw [if_pos c] at hy ⊢
      exact ⟨fun z => absurd hy z, fun _ => ⟨_, rfl, rfl, ht⟩⟩
    · rw [if_neg c] at hy ⊢
      obtain ⟨h4, h5⟩ := h45 c
      have ok := bou_ok (A := cA σ 0) (a := σ 4) (n := σ 5) (R := σ 3) (f := f) 24 (by omega)
      rw [hb] at ok
      rcases ok with ⟨o1, o2⟩ | ⟨p, q, hp, hq, o1, o2, o3⟩
      · exact absurd (by rw [o2]; decide) c
      have ip : vp_in (nI p) 24 := vp_in_nI hp (by decide)
      have iq : vp_in (nI q) 24 := vp_in_nI hq (by decide)
      refine ⟨fun _ => ?_, fun z => absurd (hy.symm.trans z) (by decide)⟩
      rw [h4, h5, o1, o2, cl_nI (show p < 2 ^ 31 by omega), cl_nI (show q < 2 ^ 31 by omega), nI_p1, q_set_same, ht.2.2.1]
      refine ⟨ip, iq, ip, iq, q_fit10, q_fit10, ?_⟩
      have g : T2 σ (q_set (q_set (q_set t 2 (swp f p q)) 0 (upd (t 0) 12 0)) 61 (upd (t 61) 3 0)) (swp f p q) := by
        refine ⟨fun c h1 h2 => ?_, ?_, ?_, Or.inl ?_, Or.inl ?_⟩
        · rw [q_set_ne _ _ (by omega), q_set_ne _ _ (by omega), q_set_ne _ _ h1]; exact ht.1 c h1 h2
        · rw [q_set_ne _ _ (by decide), q_set_eq, upd_ne _ _ (by decide)]; exact ht.2.1
        · rw [q_set_ne _ _ (by decide), q_set_ne _ _ (by decide), q_set_eq]
        · rw [q_set_ne _ _ (by decide), q_set_eq, upd_eq]
        · rw [q_set_eq, upd_eq]
      have := ih (i + 1) _ _ (by omega) g (fr_swp hf hp hq)
      rw [show i + 1 + (tlN (cA σ 0) (σ 4) (σ 5) (σ 3) m (swp f p q)).1 = i + ((tlN (cA σ 0) (σ 4) (σ 5) (σ 3) m (swp f p q)).1 + 1) by omega] at this
      exact this
/-- the reference behind some swaps -/
def Fm7 (σ s : QS) : Prop := (∀ c, c ≠ 69 → c ≠ 70 → ¬ (93 ≤ c ∧ c ≤ 107) → s c = σ c) ∧ ∀ k, ¬ (47 ≤ k ∧ k ≤ 52) → s 69 k = σ 69 k
theorem Fmm.m7 {σ s t : QS} (h : Fm7 σ s) (k : Fmm s t) : Fm7 σ t := ⟨fun c a b e => (k.1 c a e).trans (h.1 c a b e), fun c a => (k.2 c a).trans (h.2 c a)⟩
theorem Fm7.mc {σ s : QS} (h : Fm7 σ s) : Mc σ s := ⟨fun c hc => h.1 c (by omega) (by omega) (by omega), fun c hc => h.1 c (by omega) (by omega) (by omega)⟩
theorem EV.tillM {d : Nat} {σ s1 : QS} (hI : INV σ) (hs : Mc σ s1) : ∀ m i f s, i + m = 10 → Fm7 s1 s → s 70 = f → (∀ h, h < 24 → ∃ o, o ≤ 12 ∧ f h = nI o) → (0 < m → s 69 50 = (bou (cA σ 0) (σ 4) (σ 5) (σ 3) f 24).1 ∧ (¬ (bou (cA σ 0) (σ 4) (σ 5) (σ 3) f 24).1 = -1 → s 69 51 = (bou (cA σ 0) (σ 4) (σ 5) (σ 3) f 24).2.1)) → EV (d + 8) 174 1 [some (.inr 69), some (.inl (nI i))] [] s (qI (fun x t => x = nI (i + (tlN (cA σ 0) (σ 4) (σ 5) (σ 3) m f).1) ∧ Fm7 s1 t ∧ t 70 = (tlN (cA σ 0) (σ 4) (σ 5) (σ 3) m f).2)) := by
  intro m
  induction m with
  | zero =>
    intro i f s hi h ef hf hb
    have fin : qI (fun x t => x = nI (i + (tlN (cA σ 0) (σ 4) (σ 5) (σ 3) 0 f).1) ∧ Fm7 s1 t ∧ t 70 = (tlN (cA σ 0) (σ 4) (σ 5) (σ 3) 0 f).2) (some (nI i)) s := ⟨_, rfl, rfl, h, ef⟩
    exact pM_tillNone_1 ⟨fun _ => fin, fun _ => ⟨fun _ => fin, fun q => absurd (nI_le' (a := 10) (by omega) (by omega)) q⟩⟩
  | succ m ih =>
    intro i f s hi h ef hf hb
    obtain ⟨b1, b2⟩ := hb (by omega)
    rw [tlN]
    have ok := bou_ok (A := cA σ 0) (a := σ 4) (n := σ 5) (R := σ 3) (f := f) 24 (by omega)
    generalize hbb : bou (cA σ 0) (σ 4) (σ 5) (σ 3) f 24 = b at *
    rcases ok with ⟨o1, o2⟩ | ⟨p, q, hp, hq, o1, o2, o3⟩
    · rw [if_pos (by rw [o2]; decide)]
      exact pM_tillNone_1 ⟨fun _ => ⟨_, rfl, rfl, h, ef⟩, fun z => absurd (b1.trans o1) z⟩
    rw [if_neg o3]
    have n1 : ¬ b.1 = -1 := by rw [o1]; exact nI_nem (by omega)
    have e50 := b1.trans o1
    have e51 := (b2 n1).trans o2
    have ip : vp_in (nI p) 24 := vp_in_nI hp (by decide)
    have iq : vp_in (nI q) 24 := vp_in_nI hq (by decide)
    refine pM_tillNone_1 ?_
    rw [e50, e51, o1, o2, cl_nI (show p < 2 ^ 31 by omega), cl_nI (show q < 2 ^ 31 by omega), nI_p1, q_set_same, ef]
    have h2 : Fm7 s1 (q_set s 70 (swp f p q)) := ⟨fun c a b e => by rw [q_set_ne _ _ b]; exact h.1 c a b e, fun k hk => by rw [q_set_ne _ _ (by decide)]; exact h.2 k hk⟩
    have hf2 := fr_swp hf hp hq
    have eN : i + 1 + (tlN (cA σ 0) (σ 4) (σ 5) (σ 3) m (swp f p q)).1 = i + ((tlN (cA σ 0) (σ 4) (σ 5) (σ 3) m (swp f p q)).1 + 1) := by omega
    refine ⟨fun z => absurd z (nI_nem (by omega)), fun _ => ⟨fun z => absurd z (nI_nle' (a := 10) (by omega) (by omega)), fun _ => ⟨ip, iq, ip, iq, fun z => ?_, fun z => ?_⟩⟩⟩
    · have hm : m = 0 := by
        have := (nI_leI (a := 10) (by decide) (by omega)).mp z
        omega
      have := ih (i + 1) _ _ (by omega) h2 (q_set_eq _ _ _) hf2 (fun z => absurd z (by omega))
      rw [eN] at this
      exact this
    · refine ⟨_, EV.laysB hI ((hs.tr h.mc).set (Or.inr (Or.inl rfl)) _) (q_set_eq _ _ _) hf2, ?_⟩
      rintro u ⟨fm, -, z50, z52, z51⟩
      have u70 : u 70 = swp f p q := by rw [fm.1 70 (by decide) (by decide)]; exact q_set_eq _ _ _
      have := ih (i + 1) _ u (by omega) (Fmm.m7 h2 fm) u70 hf2 (fun _ => ⟨z50, z51⟩)
      rw [eN] at this
      exact this
theorem IB_sw {σ s t : QS} {f : Nat → Int32} (hI : IB σ) (h1 : T2 σ s f) (h2 : Fm7 s t) (e : t 70 = f) (hf : ∀ h, h < 24 → ∃ o, o ≤ 12 ∧ f h = nI o) : IB t := by
  have cl : ∀ c, c ≠ 0 → c ≠ 69 → c ≠ 2 → c ≠ 70 → (c ≤ 12 ∨ c = 42 ∨ c = 43 ∨ 69 ≤ c ∧ c ≤ 80 ∨ 110 ≤ c) → t c = σ c := fun c a b x y e => (h2.1 c b y (by omega)).trans (h1.1 c x (by omega))
  have c0 : t 0 2 = σ 0 2 := by rw [h2.1 0 (by decide) (by decide) (by decide)]; exact h1.2.1
  have cm : ∀ k, ¬ (47 ≤ k ∧ k ≤ 52) → t 69 k = σ 69 k := fun k hk => (h2.2 k hk).trans (by rw [h1.1 69 (by decide) (by decide)])
  have t2 : t 2 = f := by rw [h2.1 2 (by decide) (by decide) (by decide)]; exact h1.2.2.1
  obtain ⟨-, hR⟩ := hI
  refine ⟨⟨by rw [e, t2], by rw [t2]; exact hf⟩, ?_⟩
  unfold iKp at hR ⊢
  rw [c0, cm 0 (by decide), cm 12 (by decide), cm 55 (by decide), cm 56 (by decide), cl 1 (by decide) (by decide) (by decide) (by decide) (by decide), cl 3 (by decide) (by decide) (by decide) (by decide) (by decide), cl 4 (by decide) (by decide) (by decide) (by decide) (by decide), cl 5 (by decide) (by decide) (by decide) (by decide) (by decide), cl 6 (by decide) (by decide) (by decide) (by decide) (by decide), cl 7 (by decide) (by decide) (by decide) (by decide) (by decide), cl 8 (by decide) (by decide) (by decide) (by decide) (by decide), cl 9 (by decide) (by decide) (by decide) (by decide) (by decide), cl 10 (by decide) (by decide) (by decide) (by decide) (by decide), cl 11 (by decide) (by decide) (by decide) (by decide) (by decide), cl 12 (by decide) (by decide) (by decide) (by decide) (by decide), cl 42 (by decide) (by decide) (by decide) (by decide) (by decide), cl 43 (by decide) (by decide) (by decide) (by decide) (by decide), cl 71 (by decide) (by decide) (by decide) (by decide) (by decide), cl 72 (by decide) (by decide) (by decide) (by decide) (by decide), cl 73 (by decide) (by decide) (by decide) (by decide) (by decide), cl 74 (by decide) (by decide) (by decide) (by decide) (by decide), cl 75 (by decide) (by decide) (by decide) (by decide) (by decide), cl 76 (by decide) (by decide) (by decide) (by decide) (by decide), cl 77 (by decide) (by decide) (by decide) (by decide) (by decide), cl 78 (by decide) (by decide) (by decide) (by decide) (by decide), cl 79 (by decide) (by decide) (by decide) (by decide) (by decide), cl 80 (by decide) (by decide) (by decide) (by decide) (by decide), cl 110 (by decide) (by decide) (by decide) (by decide) (by decide), cl 111 (by decide) (by decide) (by decide) (by decide) (by decide), cl 112 (by decide) (by decide) (by decide) (by decide) (by decide), cl 113 (by decide) (by decide) (by decide) (by decide) (by decide), cl 114 (by decide) (by decide) (by decide) (by decide) (by decide), cl 115 (by decide) (by decide) (by decide) (by decide) (by decide), cl 116 (by decide) (by decide) (by decide) (by decide) (by decide), cl 117 (by decide) (by decide) (by decide) (by decide) (by decide)]
  exact hR
theorem sim_tillNone (σ : QS) (hI : INV σ) : SimI 86 174 [some (.inr 0), none] [some (.inr 69), none] σ := by
  have t0 : T2 σ σ (σ 2) := ⟨fun _ _ _ => rfl, rfl, rfl, hI.2.2.2.1, hI.2.2.2.2⟩
  refine ⟨nI (0 + (tlN (cA σ 0) (σ 4) (σ 5) (σ 3) 10 (σ 2)).1), pX_tillNone_0 ((EV.tillX hI 10 0 (σ 2) σ rfl t0 hI.fr).mono ?_)⟩
  rintro q s1 ⟨x, rfl, hx, ht⟩
  refine ⟨x, rfl, hx, ?_⟩
  have mc : Mc σ s1 := ⟨ht.L, fun c hc => ht.1 c (by omega) (by omega)⟩
  have s70 : s1 70 = σ 2 := (ht.1 70 (by decide) (by decide)).trans hI.1.1.1
  have hf2 := tlN_fr (A := cA σ 0) (a := σ 4) (n := σ 5) (R := σ 3) 10 (σ 2) hI.fr
  refine pM_tillNone_0 ⟨_, EV.laysB hI mc s70 hI.fr, ?_⟩
  rintro u ⟨fm, -, z50, z52, z51⟩
  have f7 : Fm7 s1 u := ⟨fun c a _ e => fm.1 c a e, fm.2⟩
  refine (EV.tillM hI mc 10 0 (σ 2) u rfl f7 ((fm.1 70 (by decide) (by decide)).trans s70) hI.fr (fun _ => ⟨z50, z51⟩)).mono ?_
  rintro q t ⟨y, rfl, hy, h7, e70⟩
  have lt : ∀ c, c ≤ 68 → t c = s1 c := fun c hc => h7.1 c (by omega) (by omega) (by omega)
  have hL : FrL s1 t := fun c hc => h7.1 c (by omega) (by omega) (by omega)
  have hL2 : FrL σ t := fun c hc => (hL c hc).trans (ht.L c hc)
  refine ⟨y, rfl, hy, IB_sw hI.1 ht h7 e70 hf2, LW_fr hL2 hI.2.1, LW_fr hL2 hI.2.2.1, ?_, ?_⟩
  · have hd := ht.2.2.2.1
    unfold DC at hd ⊢
    rw [lt 0 (by decide)]
    rcases hd with h | ⟨h, k⟩
    · exact Or.inl h
    · exact Or.inr ⟨h, dyS_cg hL (fun c hc => lt c (by omega)) k⟩
  · have hc := ht.2.2.2.2
    unfold TC at hc ⊢
    rw [lt 0 (by decide), lt 61 (by decide), BS_cg hL (lt 2 (by decide)) (lt 3 (by decide)) (lt 4 (by decide)) (lt 5 (by decide))]
    exact hc
