/-- the trial begun like the DAY, but for its owners -/
def Lk (s s2 : QS) (g : Nat → Int32) : Prop := (∀ c, ¬ (55 ≤ c ∧ c ≤ 58) → s2 c = s c) ∧ s2 55 = g ∧ (∀ i, i < 600 → s2 56 i = s 49 i) ∧ ∀ i, i < 24 → s2 57 i = s 50 i ∧ s2 58 i = s 51 i
def lkS (s : QS) : QS := q_set (q_set (q_set (q_set s 55 (cpN (s 48) (s 55) 24)) 56 (cpN (s 49) (s 56) 600)) 57 (cpN (s 50) (s 57) 24)) 58 (cpN (s 51) (s 58) 24)
theorem lkS_55 (s : QS) : lkS s 55 = cpN (s 48) (s 55) 24 := rfl
theorem lkS_ne {s : QS} {c : Nat} (h : ¬ (55 ≤ c ∧ c ≤ 58)) : lkS s c = s c := by
  unfold lkS
  rw [q_set_ne _ _ (by omega), q_set_ne _ _ (by omega), q_set_ne _ _ (by omega), q_set_ne _ _ (by omega)]
theorem lkS_k (s : QS) (g : Nat → Int32) : Lk s (q_set (lkS s) 55 g) g := by
  refine ⟨fun c hc => ?_, q_set_eq _ _ _, fun i hi => ?_, fun i hi => ⟨?_, ?_⟩⟩
  · rw [q_set_ne _ _ (by omega), lkS_ne hc]
  · show cpN (s 49) (s 56) 600 i = _
    exact cpN_lt hi
  · show cpN (s 50) (s 57) 24 i = _
    exact cpN_lt hi
  · show cpN (s 51) (s 58) 24 i = _
    exact cpN_lt hi
def Pfx (f f' : Nat → Int32) (k : Nat) : Prop := ∀ q, q < k → f q = f' q ∧ ah f q = ah f' q
theorem Pfx.of {f f' : Nat → Int32} {a b k : Nat} (h : ∀ q, q < 24 → q ≠ a → q ≠ b → f q = f' q) (h1 : k ≤ a) (h2 : k ≤ b) (h3 : a < 24) (h4 : 0 < k → a ≠ 23 ∧ b ≠ 23) : Pfx f f' k := by
  intro q hq
  refine ⟨h q (by omega) (by omega) (by omega), ?_⟩
  have h4 := h4 (by omega)
  unfold ah
  by_cases e : q = 0
  · subst e
    exact h 23 (by omega) (by omega) (by omega)
  · have : (q + 23) % 24 = q - 1 := by omega
    rw [this]
    exact h (q - 1) (by omega) (by omega) (by omega)
theorem EV.trial {d : Nat} {σ s s2 : QS} {f' g : Nat → Int32} {k : Nat} (hI : XI σ) (hn : Dn σ s) (hl : Lk s s2 g) (hg : ∀ h, h < 24 → g h = f' h) (hf : ∀ h, h < 24 → ∃ o, o ≤ 12 ∧ f' h = nI o) (hk : k ≤ 24) (hp : Pfx (σ 2) f' k) : EV (d + 5) 2 0 [some (.inr 54), some (.inl (nI k)), some (.inr 13), none] [] s2 (qV (fun t => Ky s t ∧ t 55 = g ∧ Dy (t 56) (t 57) (t 58) (cA σ 0) (cA σ 0) (σ 4) (σ 5) f' (σ 3) 24)) := by
  obtain ⟨hs, h5, h6, h7⟩ := hl
  have FL : FrL σ s2 := fun c hc => by rw [hs c (by omega), hn.1 c (by omega)]
  have e4 : s2 4 = σ 4 := by rw [hs 4 (by decide), hn.1 4 (by decide)]
  have e5 : s2 5 = σ 5 := by rw [hs 5 (by decide), hn.1 5 (by decide)]
  have D := hn.day.2.1
  have hcg : ∀ q, q < 24 → g q = f' q ∧ ah g q = ah f' q := ah_cg hg
  refine EV.mono (EV.runY0 (k := k) (R := σ 3) (LC_fr FL hI.1) (LC_fr FL hI.1) (by rw [e4, e5, h5]; exact ⟨fun h hh => by rw [hg h hh]; exact hf h hh, hI.2.1.2.1, hI.2.1.2.2⟩) hk ?_) ?_
  · rw [e4, e5, h5, cA_fr FL]
    have D1 : Dy (s2 56) (s2 57) (s2 58) (cA σ 0) (cA σ 0) (σ 4) (σ 5) (σ 2) (σ 3) k := ⟨fun h hh i hi => by rw [h6 _ (by omega)]; exact D.1 h (by omega) i hi, fun h hh => by rw [(h7 h (by omega)).1, (h7 h (by omega)).2]; exact D.2 h (by omega)⟩
    exact Dy_cg (fun q hq => ⟨(hp q hq).1.trans (hcg q (by omega)).1.symm, (hp q hq).2.trans (hcg q (by omega)).2.symm⟩) D1
  · rintro q t ⟨rfl, g1, g2, -⟩
    simp only [e4, e5, h5, cA_fr FL] at g2
    have tc : ∀ c, c ≠ 21 → c ≠ 30 → c ≠ 45 → c ≠ 46 → ¬ (55 ≤ c ∧ c ≤ 60) → t c = s c := fun c a1 a2 a3 a4 a5 => by rw [g1 c a1 a2 a3 a4 (by omega), hs c (by omega)]
    refine ⟨rfl, ⟨fun c hc => tc c (by omega) (by omega) (by omega) (by omega) (by omega), tc 0 (by decide) (by decide) (by decide) (by decide) (by decide), fun c hc => tc c (by omega) (by omega) (by omega) (by omega) (by omega), tc 61 (by decide) (by decide) (by decide) (by decide) (by decide)⟩, ?_, Dy_cg hcg g2⟩
    rw [g1 55 (by decide) (by decide) (by decide) (by decide) (by decide), h5]
theorem cpg {σ s : QS} (hn : Dn σ s) (x : Nat → Int32) : ∀ h, h < 24 → cpN (s 48) x 24 h = σ 2 h := fun h hh => by rw [cpN_lt hh]; exact hn.day.1 h hh
theorem fr_upd {f : Nat → Int32} (h : ∀ k, k < 24 → ∃ o, o ≤ 12 ∧ f k = nI o) (j : Nat) {x : Int32} {o : Nat} (ho : o ≤ 12) (e : x = nI o) : ∀ k, k < 24 → ∃ o, o ≤ 12 ∧ upd f j x k = nI o := fun k hk => by
  by_cases q : k = j
  · subst q; exact ⟨o, ho, by rw [upd_eq]; exact e⟩
  · rw [upd_ne _ _ q]; exact h k hk
theorem upd_cg {f f' : Nat → Int32} (h : ∀ k, k < 24 → f k = f' k) (j : Nat) (x : Int32) : ∀ k, k < 24 → upd f j x k = upd f' j x k := fun k hk => by
  by_cases q : k = j
  · subst q; rw [upd_eq, upd_eq]
  · rw [upd_ne _ _ q, upd_ne _ _ q]; exact h k hk
theorem valYt {σ s t : QS} {f' g : Nat → Int32} (ky : Ky s t) (h5 : t 55 = g) (hg : ∀ h, h < 24 → g h = f' h) (hd : Dy (t 56) (t 57) (t 58) (cA σ 0) (cA σ 0) (σ 4) (σ 5) f' (σ 3) 24) (o : Int32) : smO (t 55) (t 57) o 24 - smO (t 55) (t 58) o 24 = vOf (cA σ 0) (σ 4) (σ 5) (σ 3) f' o := by
  rw [h5]
  exact vOf_D hg hd o
theorem EV.priceX {d : Nat} {σ s : QS} {j : Nat} (hI : XI σ) (hn : Dn σ s) (hj : j < 24) : EV (d + 6) 58 0 [some (.inr 61), some (.inl (nI j)), none] [] s (qI (fun x t => x = vOf (cA σ 0) (σ 4) (σ 5) (σ 3) (σ 2) (σ 2 j) - vOf (cA σ 0) (σ 4) (σ 5) (σ 3) (upd (σ 2) j 12) (σ 2 j) ∧ Dn σ t)) := by
  have cj : (nI j).toNatClampNeg = j := cl_nI (by omega)
  have ij : vp_in (nI j) 24 := vp_in_nI hj (by decide)
  have hg : ∀ h, h < 24 → upd (cpN (s 48) (s 55) 24) j 12 h = upd (σ 2) j 12 h := upd_cg (cpg hn _) j 12
  have hf : ∀ h, h < 24 → ∃ o, o ≤ 12 ∧ upd (σ 2) j 12 h = nI o := fr_upd hI.2.1.1 j (o := 12) (by decide) rfl
  have e48 : s 48 j = σ 2 j := hn.day.1 j hj
  refine pA_price_0 ⟨ij, ex_V EV.like ?_⟩
  rw [cj, e48]
  have main : ∀ k, k ≤ j → (0 < k → j ≠ 23) → ∀ {P : Int32 → QS → Prop}, (∀ t, Dn σ t → P (vOf (cA σ 0) (σ 4) (σ 5) (σ 3) (σ 2) (σ 2 j) - vOf (cA σ 0) (σ 4) (σ 5) (σ 3) (upd (σ 2) j 12) (σ 2 j)) t) → ∃ R4 : QS → Prop, EV (d + 5) 2 0 [some (.inr 54), some (.inl (nI k)), some (.inr 13), none] [] (q_set (lkS s) 55 (upd (lkS s 55) j 12)) (qV R4) ∧ ∀ s5, R4 s5 → ∃ R6 : Int32 → QS → Prop, EV (d + 5) 6 0 [some (.inr 47), some (.inl (σ 2 j))] [] s5 (qI R6) ∧ ∀ y8 s7, R6 y8 s7 → ∃ R9 : Int32 → QS → Prop, EV (d + 5) 6 0 [some (.inr 54), some (.inl (σ 2 j))] [] s7 (qI R9) ∧ ∀ y11 s10, R9 y11 s10 → P (y8 - y11) s10 := by
    intro k hk h0 P hP
    refine ⟨_, EV.trial hI hn (lkS_k s _) hg hf (by omega) (Pfx.of (a := j) (b := j) (fun q _ h1 _ => (upd_ne _ _ h1).symm) hk hk hj (fun z => ⟨h0 z, h0 z⟩)), ?_⟩
    rintro t ⟨ky, t5, td⟩
    have dn := ky.dn hn
    refine ex_I EV.valD (ex_I EV.valY ?_)
    rw [vOf_D dn.day.1 dn.day.2.1, valYt ky t5 hg td]
    exact hP t dn
  exact ⟨ij, ⟨fun q => main j (Nat.le_refl _) (fun _ e => q (by rw [e]; rfl)) (P := fun x t => qI _ (some x) t) (fun t dn => ⟨_, rfl, rfl, dn⟩), fun q => main 0 (by omega) (fun z => absurd z (by omega)) (P := fun x t => qI _ (some x) t) (fun t dn => ⟨_, rfl, rfl, dn⟩)⟩⟩
theorem sim_price (σ : QS) (h : Int32) (hI : INV σ) : SimI 81 164 [some (.inr 0), some (.inl h)] [some (.inr 69), some (.inl h), none, none, none] σ := by
  by_cases h0 : h < 0
  · exact SimI.no (-1000000) hI (pX_price_0 ⟨fun _ => (no2 _ _), fun z => absurd h0 z⟩) (pM_price_0 ⟨fun _ => (no2 _ _), fun z => absurd h0 z⟩)
  by_cases h1 : 24 ≤ h
  · exact SimI.no (-1000000) hI (pX_price_0 ⟨fun z => absurd z h0, fun _ => ⟨fun _ => (no2 _ _), fun z => absurd h1 z⟩⟩) (pM_price_0 ⟨fun z => absurd z h0, fun _ => ⟨fun _ => (no2 _ _), fun z => absurd h1 z⟩⟩)
  obtain ⟨j, hj, rfl⟩ := ix_of (n := 24) rfl (by decide) h0 h1
  have cj : (nI j).toNatClampNeg = j := cl_nI (by omega)
  have ij : vp_in (nI j) 24 := vp_in_nI hj (by decide)
  have e70 : σ 70 = σ 2 := hI.1.1.1
  by_cases c : σ 2 j = 12
  · have c1 : σ 2 (nI j).toNatClampNeg = 12 := by rw [cj]; exact c
    have c2 : σ 70 (nI j).toNatClampNeg = 12 := by rw [e70]; exact c1
    exact SimI.no (-1000000) hI (pX_price_0 ⟨fun z => absurd z h0, fun _ => ⟨fun z => absurd z h1, fun _ => ⟨ij, ⟨fun _ => (no2 _ _), fun z => absurd c1 z⟩⟩⟩⟩) (pM_price_0 ⟨fun z => absurd z h0, fun _ => ⟨fun z => absurd z h1, fun _ => ⟨ij, ⟨fun z => absurd c2 z, fun _ => (no2 _ _)⟩⟩⟩⟩)
  have c1 : ¬ σ 2 (nI j).toNatClampNeg = 12 := by rw [cj]; exact c
  refine SimI.q (vOf (cA σ 0) (σ 4) (σ 5) (σ 3) (σ 2) (σ 2 j) - vOf (cA σ 0) (σ 4) (σ 5) (σ 3) (upd (σ 2) j 12) (σ 2 j)) hI (pX_price_0 ⟨fun z => absurd z h0, fun _ => ⟨fun z => absurd z h1, fun _ => ⟨ij, ⟨fun z => absurd z c1, fun _ => ⟨_, EV.dayI hI, ?_⟩⟩⟩⟩⟩) ?_
  · rintro s ⟨hn, -⟩
    refine ⟨_, EV.priceX hI.X hn hj, ?_⟩
    rintro y t ⟨hy, dn⟩
    exact QX.mk dn hy
  · intro s1 f1
    have f70 : s1 70 = σ 2 := hI.f f1.M
    have c2 : ¬ s1 70 (nI j).toNatClampNeg = 12 := by rw [f70]; exact c1
    refine pM_price_0 ⟨fun z => absurd z h0, fun _ => ⟨fun z => absurd z h1, fun _ => ⟨ij, ⟨fun _ => ⟨ij, ?_⟩, fun z => absurd z c2⟩⟩⟩⟩
    rw [cj, f70]
    refine ⟨_, EV.valI hI f1.mc f70 hI.fr, ?_⟩
    rintro y t ⟨hy, g1, g2⟩
    have t70 : t 70 = σ 2 := by rw [g1 70 (by decide)]; exact f70
    rw [t70]
    refine ⟨ij, _, EV.valI hI ((f1.mc.tr g1.mm.mc).set (Or.inr (Or.inl rfl)) _) (q_set_eq _ _ _) (fr_upd hI.fr j (o := 12) (by decide) rfl), ?_⟩
    rintro y2 t2 ⟨hy2, g3, g4⟩
    have u70 : t2 70 = upd (σ 2) j 12 := by rw [g3 70 (by decide), q_set_eq]
    refine ⟨ij, QM2.mk ?_ (by rw [hy, hy2])⟩
    have e : q_set t2 70 (upd (t2 70) j (σ 2 j)) = q_set t2 70 (σ 2) := by rw [u70, upd_same, upd_id rfl]
    rw [e]
    refine ⟨fun c a b => ?_, fun k hk => ?_⟩
    · by_cases q : c = 70
      · subst q; rw [q_set_eq, f70]
      · rw [q_set_ne _ _ q, g3 c (by omega), q_set_ne _ _ q, g1 c (by omega)]
    · rw [q_set_ne _ _ (by decide), g3 69 (by decide), q_set_ne _ _ (by decide), g1 69 (by decide)]
theorem EV.aheadX {d : Nat} {σ s : QS} {j : Nat} (hI : XI σ) (hn : Dn σ s) (hj : j + 1 < 24) : EV (d + 6) 59 0 [some (.inr 61), some (.inl (nI (j + 1)))] [] s (qI (fun x t => x = (uW (cA σ 0) (σ 4) (σ 5) (σ 2) (j + 1) (dR (cA σ 0) (σ 4) (σ 5) (σ 2) (σ 3) (j + 1)) - uF (cA σ 0) (cA σ 0) (σ 4) (σ 5) (σ 2) (j + 1) (dR (cA σ 0) (σ 4) (σ 5) (σ 2) (σ 3) (j + 1))) - (uW (cA σ 0) (σ 4) (σ 5) (upd (σ 2) j 12) (j + 1) (dR (cA σ 0) (σ 4) (σ 5) (upd (σ 2) j 12) (σ 3) (j + 1)) - uF (cA σ 0) (cA σ 0) (σ 4) (σ 5) (upd (σ 2) j 12) (j + 1) (dR (cA σ 0) (σ 4) (σ 5) (upd (σ 2) j 12) (σ 3) (j + 1))) ∧ Dn σ t)) := by
  have cj : (nI (j + 1)).toNatClampNeg = j + 1 := cl_nI (by omega)
  have cj0 : (nI j).toNatClampNeg = j := cl_nI (by omega)
  have ij : vp_in (nI (j + 1)) 24 := vp_in_nI hj (by decide)
  have em : nI (j + 1) - 1 = nI j := pk_sub (a := j + 1) (b := 1) (by omega)
  have hg : ∀ h, h < 24 → upd (cpN (s 48) (s 55) 24) j 12 h = upd (σ 2) j 12 h := upd_cg (cpg hn _) j 12
  have hf : ∀ h, h < 24 → ∃ o, o ≤ 12 ∧ upd (σ 2) j 12 h = nI o := fr_upd hI.2.1.1 j (o := 12) (by decide) rfl
  refine pA_ahead_0 (ex_V EV.like ?_)
  rw [em, cj, cj0]
  refine ⟨vp_in_nI (by omega) (by decide), _, EV.trial hI hn (lkS_k s _) hg hf (by omega) (Pfx.of (a := j) (b := j) (fun q _ h1 _ => (upd_ne _ _ h1).symm) (Nat.le_refl _) (Nat.le_refl _) (by omega) (fun z => by omega)), ?_⟩
  rintro t ⟨ky, t5, td⟩
  have dn := ky.dn hn
  refine ⟨ij, ij, ij, ij, _, rfl, ?_, dn⟩
  rw [(dn.day.2.1.2 (j + 1) hj).1, (dn.day.2.1.2 (j + 1) hj).2, (td.2 (j + 1) hj).1, (td.2 (j + 1) hj).2]
theorem sim_neighbour (σ : QS) (h : Int32) (hI : INV σ) : SimI 82 165 [some (.inr 0), some (.inl h)] [some (.inr 69), some (.inl h), none, none] σ := by
  by_cases h0 : h < 0
  · exact SimI.no (-1000000) hI (pX_neighbour_0 ⟨fun _ => (no2 _ _), fun z => absurd h0 z⟩) (pM_neighbour_0 ⟨fun _ => (no2 _ _), fun z => absurd h0 z⟩)
  by_cases h1 : 24 ≤ h
  · exact SimI.no (-1000000) hI (pX_neighbour_0 ⟨fun z => absurd z h0, fun _ => ⟨fun _ => (no2 _ _), fun z => absurd h1 z⟩⟩) (pM_neighbour_0 ⟨fun z => absurd z h0, fun _ => ⟨fun _ => (no2 _ _), fun z => absurd h1 z⟩⟩)
  obtain ⟨j, hj, rfl⟩ := ix_of (n := 24) rfl (by decide) h0 h1
  have cj : (nI j).toNatClampNeg = j := cl_nI (by omega)
  have ij : vp_in (nI j) 24 := vp_in_nI hj (by decide)
  have e70 : σ 70 = σ 2 := hI.1.1.1
  by_cases c : σ 2 j = 12
  · have c1 : σ 2 (nI j).toNatClampNeg = 12 := by rw [cj]; exact c
    have c2 : σ 70 (nI j).toNatClampNeg = 12 := by rw [e70]; exact c1
    exact SimI.no (-1000000) hI (pX_neighbour_0 ⟨fun z => absurd z h0, fun _ => ⟨fun z => absurd z h1, fun _ => ⟨ij, ⟨fun _ => (no2 _ _), fun z => absurd c1 z⟩⟩⟩⟩) (pM_neighbour_0 ⟨fun z => absurd z h0, fun _ => ⟨fun z => absurd z h1, fun _ => ⟨ij, ⟨fun z => absurd c2 z, fun _ => (no2 _ _)⟩⟩⟩⟩)
  have c1 : ¬ σ 2 (nI j).toNatClampNeg = 12 := by rw [cj]; exact c
  have c3 : ¬ σ 70 (nI j).toNatClampNeg = 12 := by rw [e70]; exact c1
  by_cases zz : nI j = 0
  · exact SimI.no 0 hI (pX_neighbour_0 ⟨fun z => absurd z h0, fun _ => ⟨fun z => absurd z h1, fun _ => ⟨ij, ⟨fun z => absurd z c1, fun _ => ⟨fun z => absurd zz z, fun _ => (no2 _ _)⟩⟩⟩⟩⟩) (pM_neighbour_0 ⟨fun z => absurd z h0, fun _ => ⟨fun z => absurd z h1, fun _ => ⟨ij, ⟨fun _ => ⟨fun z => absurd zz z, fun _ => (no2 _ _)⟩, fun z => absurd z c3⟩⟩⟩⟩)
  have j1 : 0 < j := by
    rcases Nat.eq_zero_or_pos j with q | q
    · subst q; exact absurd rfl zz
    · exact q
  obtain ⟨i, rfl⟩ : ∃ i, j = i + 1 := ⟨j - 1, by omega⟩
  have em : nI (i + 1) - 1 = nI i := pk_sub (a := i + 1) (b := 1) (by omega)
  have ci : (nI i).toNatClampNeg = i := cl_nI (by omega)
  have im : vp_in (nI (i + 1) - 1) 24 := by rw [em]; exact vp_in_nI (by omega) (by decide)
  refine SimI.q ((uW (cA σ 0) (σ 4) (σ 5) (σ 2) (i + 1) (dR (cA σ 0) (σ 4) (σ 5) (σ 2) (σ 3) (i + 1)) - uF (cA σ 0) (cA σ 0) (σ 4) (σ 5) (σ 2) (i + 1) (dR (cA σ 0) (σ 4) (σ 5) (σ 2) (σ 3) (i + 1))) - (uW (cA σ 0) (σ 4) (σ 5) (upd (σ 2) i 12) (i + 1) (dR (cA σ 0) (σ 4) (σ 5) (upd (σ 2) i 12) (σ 3) (i + 1)) - uF (cA σ 0) (cA σ 0) (σ 4) (σ 5) (upd (σ 2) i 12) (i + 1) (dR (cA σ 0) (σ 4) (σ 5) (upd (σ 2) i 12) (σ 3) (i + 1)))) hI (pX_neighbour_0 ⟨fun z => absurd z h0, fun _ => ⟨fun z => absurd z h1, fun _ => ⟨ij, ⟨fun z => absurd z c1, fun _ => ⟨fun _ => ⟨_, EV.dayI hI, ?_⟩, fun z => absurd z zz⟩⟩⟩⟩⟩) ?_
  · rintro s ⟨hn, -⟩
    refine ⟨_, EV.aheadX hI.X hn hj, ?_⟩
    rintro y t ⟨hy, dn⟩
    exact QX.mk dn hy
  · intro s1 f1
    have f70 : s1 70 = σ 2 := hI.f f1.M
    have c2 : ¬ s1 70 (nI (i + 1)).toNatClampNeg = 12 := by rw [f70]; exact c1
    refine pM_neighbour_0 ⟨fun z => absurd z h0, fun _ => ⟨fun z => absurd z h1, fun _ => ⟨ij, ⟨fun _ => ⟨fun _ => ⟨_, EV.runsI (w := 0) hI f1.mc (by decide) f70 hI.fr, ?_⟩, fun z => absurd z zz⟩, fun z => absurd z c2⟩⟩⟩⟩
    rw [cj, em, ci]
    rintro t ⟨g1, g2⟩
    have t70 : t 70 = σ 2 := by rw [g1 70 (by decide)]; exact f70
    rw [t70]
    rw [em] at im
    refine ⟨ij, ij, im, im, _, EV.runsI (w := 0) hI ((f1.mc.tr g1.mm.mc).set (Or.inr (Or.inl rfl)) _) (by decide) (q_set_eq _ _ _) (fr_upd hI.fr i (o := 12) (by decide) rfl), ?_⟩
    rintro t2 ⟨g3, g4⟩
    have u70 : t2 70 = upd (σ 2) i 12 := by rw [g3 70 (by decide), q_set_eq]
    refine ⟨im, ij, ij, QM2.mk ?_ (by rw [(g2.2.1 (i + 1) hj).1, (g2.2.1 (i + 1) hj).2.1, (g4.2.1 (i + 1) hj).1, (g4.2.1 (i + 1) hj).2.1])⟩
    have e : q_set t2 70 (upd (t2 70) i (σ 2 i)) = q_set t2 70 (σ 2) := by rw [u70, upd_same, upd_id rfl]
    rw [e]
    refine ⟨fun c a b => ?_, fun k hk => ?_⟩
    · by_cases q : c = 70
      · subst q; rw [q_set_eq, f70]
      · rw [q_set_ne _ _ q, g3 c (by omega), q_set_ne _ _ q, g1 c (by omega)]
    · rw [q_set_ne _ _ (by decide), g3 69 (by decide), q_set_ne _ _ (by decide), g1 69 (by decide)]
theorem EV.swapped {d : Nat} {σ s : QS} {a b : Nat} (hn : Dn σ s) (ha : a < 24) (hb : b < 24) : EV (d + 1) 62 0 [some (.inr 61), some (.inl (nI a)), some (.inl (nI b))] [] s (qI (fun y s2 => ∃ k, y = nI k ∧ k ≤ a ∧ k ≤ b ∧ (0 < k → a ≠ 23 ∧ b ≠ 23) ∧ Lk s s2 (upd (upd (cpN (s 48) (s 55) 24) a (σ 2 b)) b (σ 2 a)))) := by
  have ca : (nI a).toNatClampNeg = a := cl_nI (by omega)
  have cb : (nI b).toNatClampNeg = b := cl_nI (by omega)
  have ia : vp_in (nI a) 24 := vp_in_nI ha (by decide)
  have ib : vp_in (nI b) 24 := vp_in_nI hb (by decide)
  refine pA_swapped_0 (ex_V EV.like ?_)
  rw [ca, cb]
  show _ ∧ _ ∧ _ ∧ _ ∧ ((¬ nI a = 23 → (¬ nI b = 23 → qI _ (some (if nI b < nI a then nI b else nI a)) (q_set (q_set (lkS s) 55 (upd (lkS s 55) a (lkS s 48 b))) 55 (upd (upd (lkS s 55) a (lkS s 48 b)) b (lkS s 48 a)))) ∧ (nI b = 23 → qI _ (some (if 0 < nI a then 0 else nI a)) (q_set (q_set (lkS s) 55 (upd (lkS s 55) a (lkS s 48 b))) 55 (upd (upd (lkS s 55) a (lkS s 48 b)) b (lkS s 48 a))))) ∧ (nI a = 23 → (¬ nI b = 23 → qI _ (some (if nI b < 0 then nI b else 0)) (q_set (q_set (lkS s) 55 (upd (lkS s 55) a (lkS s 48 b))) 55 (upd (upd (lkS s 55) a (lkS s 48 b)) b (lkS s 48 a)))) ∧ (nI b = 23 → qI _ (some (if (0 : Int32) < 0 then 0 else 0)) (q_set (q_set (lkS s) 55 (upd (lkS s 55) a (lkS s 48 b))) 55 (upd (upd (lkS s 55) a (lkS s 48 b)) b (lkS s 48 a))))))
  rw [q_set_same, lkS_ne (c := 48) (by decide), hn.day.1 a ha, hn.day.1 b hb]
  have n23 : ∀ x, ¬ nI x = 23 → x ≠ 23 := fun x h e => h (by rw [e]; rfl)
  refine ⟨ib, ia, ia, ib, ⟨fun q1 => ⟨fun q2 => ⟨_, rfl, ?_⟩, fun q2 => ⟨_, rfl, 0, ?_, by omega, by omega, fun z => absurd z (by omega), lkS_k s _⟩⟩, fun q1 => ⟨fun q2 => ⟨_, rfl, 0, ?_, by omega, by omega, fun z => absurd z (by omega), lkS_k s _⟩, fun q2 => ⟨_, rfl, 0, rfl, by omega, by omega, fun z => absurd z (by omega), lkS_k s _⟩⟩⟩⟩
  · by_cases h : b < a
    · refine ⟨b, by rw [if_pos ((nI_ltI (by omega) (by omega)).mpr h)], by omega, by omega, fun _ => ⟨n23 _ q1, n23 _ q2⟩, lkS_k s _⟩
    · refine ⟨a, by rw [if_neg (fun z => h ((nI_ltI (by omega) (by omega)).mp z))], by omega, by omega, fun _ => ⟨n23 _ q1, n23 _ q2⟩, lkS_k s _⟩
  · by_cases h : 0 < a
    · rw [if_pos (show (0 : Int32) < nI a from (nI_ltI (a := 0) (by omega) (by omega)).mpr h)]; rfl
    · have : a = 0 := by omega
      subst this; rfl
  · rw [if_neg (nI_pos (by omega))]; rfl
theorem fr_swp {f : Nat → Int32} (h : ∀ k, k < 24 → ∃ o, o ≤ 12 ∧ f k = nI o) {a b : Nat} (ha : a < 24) (hb : b < 24) : ∀ k, k < 24 → ∃ o, o ≤ 12 ∧ swp f a b k = nI o := by
  obtain ⟨x, hx, ex⟩ := h a ha
  obtain ⟨y, hy, ey⟩ := h b hb
  exact fr_upd (fr_upd h a hy ey) b hx ex
theorem EV.trialS {d : Nat} {σ s s2 : QS} {a b k : Nat} (hI : XI σ) (hn : Dn σ s) (ha : a < 24) (hb : b < 24) (h1 : k ≤ a) (h2 : k ≤ b) (h3 : 0 < k → a ≠ 23 ∧ b ≠ 23) (hl : Lk s s2 (upd (upd (cpN (s 48) (s 55) 24) a (σ 2 b)) b (σ 2 a))) : EV (d + 5) 2 0 [some (.inr 54), some (.inl (nI k)), some (.inr 13), none] [] s2 (qV (fun t => Ky s t ∧ ∀ o, smO (t 55) (t 57) o 24 - smO (t 55) (t 58) o 24 = vOf (cA σ 0) (σ 4) (σ 5) (σ 3) (swp (σ 2) a b) o)) := by
  have hg : ∀ h, h < 24 → upd (upd (cpN (s 48) (s 55) 24) a (σ 2 b)) b (σ 2 a) h = swp (σ 2) a b h := upd_cg (upd_cg (cpg hn _) a _) b _
  refine (EV.trial hI hn hl hg (fr_swp hI.2.1.1 ha hb) (by omega) (Pfx.of (a := a) (b := b) (fun q _ e1 e2 => ?_) h1 h2 ha h3)).mono ?_
  · unfold swp; rw [upd_ne _ _ e2, upd_ne _ _ e1]
  · rintro q t ⟨rfl, ky, t5, td⟩
    exact ⟨rfl, ky, fun o => valYt ky t5 hg td o⟩
theorem EV.gainOf {d : Nat} {σ s t : QS} {a b : Nat} {o : Int32} (dn : Dn σ t) (hv : ∀ o, smO (t 55) (t 57) o 24 - smO (t 55) (t 58) o 24 = vOf (cA σ 0) (σ 4) (σ 5) (σ 3) (swp (σ 2) a b) o) : EV (d + 2) 61 0 [some (.inr 61), some (.inl o)] [] t (qis (gn (cA σ 0) (σ 4) (σ 5) (σ 3) (σ 2) a b o) t) := by
  refine pA_gainOf_0 (ex_I EV.valY (ex_I EV.valD ?_))
  rw [hv, vOf_D dn.day.1 dn.day.2.1]
  exact no2 _ _
theorem EV.gainX {d : Nat} {σ s : QS} {a b : Nat} {o : Int32} (hI : XI σ) (hn : Dn σ s) (ha : a < 24) (hb : b < 24) : EV (d + 6) 60 0 [some (.inr 61), some (.inl (nI a)), some (.inl (nI b)), some (.inl o)] [] s (qI (fun x t => x = gn (cA σ 0) (σ 4) (σ 5) (σ 3) (σ 2) a b o ∧ Dn σ t)) := by
  refine pA_gainBy_0 ⟨_, EV.swapped hn ha hb, ?_⟩
  rintro y s2 ⟨k, rfl, h1, h2, h3, hl⟩
  refine ⟨_, EV.trialS hI hn ha hb h1 h2 h3 hl, ?_⟩
  rintro t ⟨ky, hv⟩
  exact ex_I (EV.gainOf (s := s) (ky.dn hn) hv) ⟨_, rfl, rfl, ky.dn hn⟩
/-! the reference's side -/
def vNow (s : QS) (A : Nat → (Nat → Int32) → Int32) (a n R f : Nat → Int32) : Prop := ∀ o, o < 12 → s 107 o = vOf A a n R f (nI o)
theorem EV.laysV {d : Nat} {σ s : QS} {f : Nat → Int32} (hI : INV σ) (hs : Mc σ s) (ef : s 70 = f) (hf : ∀ h, h < 24 → ∃ o, o ≤ 12 ∧ f h = nI o) : EV (d + 6) 167 0 [some (.inr 69), none] [] s (qV (fun t => Fi 93 107 s t ∧ vNow t (cA σ 0) (σ 4) (σ 5) (σ 3) f)) := by
  refine pM_laysValues_0 ⟨_, EV.runsI (w := 0) hI hs (by decide) ef hf, ?_⟩
  rintro t ⟨g1, g2⟩
  have t70 : t 70 = f := by rw [g1 70 (by decide)]; exact ef
  have key := up_loop (P := fun j => ∀ u, Fi 107 107 t u → (∀ o, o < j → u 107 o = vOf (cA σ 0) (σ 4) (σ 5) (σ 3) f (nI o)) → EV (d + 6) 167 2 [some (.inr 69), some (.inl (nI j))] [] u (qV (fun t => Fi 93 107 s t ∧ vNow t (cA σ 0) (σ 4) (σ 5) (σ 3) f))) (n := 12) ?_ ?_ 0 (by omega)
  · exact key t Fi.rf (fun o ho => absurd ho (by omega))
  · intro u h1 h2
    exact pM_laysValues_2 ⟨fun _ => ⟨rfl, (g1.wk (by omega) (by omega)).tr (h1.wk (by omega) (by omega)), h2⟩, fun q => absurd (nI_le' (Nat.le_refl 12) (by omega)) q⟩
  · intro j hj ih u h1 h2
    refine pM_laysValues_2 ?_
    rw [cl_nI (by omega), nI_p1]
    refine ⟨fun q => absurd q (nI_nle' (a := 12) (by omega) (by omega)), fun _ => ex_I (EV.sumOf (w := 0) (by decide)) (ex_I (EV.sumOf (w := 1) (by decide)) ⟨vp_in_nI hj (by decide), ?_⟩)⟩
    have ev : smO (u 70) (w3r u 0) (nI j) 24 - smO (u 70) (w3r u 1) (nI j) 24 = vOf (cA σ 0) (σ 4) (σ 5) (σ 3) f (nI j) := by
      have := vOf_M (B := cA σ 0) g2 t70 (nI j)
      unfold w3r at this ⊢
      rw [h1 70 (by decide), h1 101 (by decide), h1 102 (by decide)]
      exact this
    rw [ev]
    refine ih _ (h1.set (by decide) _) (fun o ho => ?_)
    rw [q_set_eq]
    by_cases e : o = j
    · subst e; exact upd_eq _ _ _
    · rw [upd_ne _ _ e]; exact h2 o (by omega)
