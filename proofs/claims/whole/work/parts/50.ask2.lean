/-- the class's side of what holds between calls -/
def XI (σ : QS) : Prop := LC σ 0 ∧ iA (σ 4) (σ 5) (σ 2) ∧ DC σ ∧ TC σ
theorem INV.X {σ : QS} (h : INV σ) : XI σ := ⟨h.2.1.1, h.A, h.2.2.2.1, h.2.2.2.2⟩
theorem EV.dayX {d : Nat} {σ : QS} (hI : XI σ) : EV (d + 6) 104 0 [some (.inr 0)] [] σ (qV (fun s => Dn σ s ∧ Fy σ s)) := by
  refine (EV.runDay hI.1 hI.2.1 hI.2.2.1).mono ?_
  rintro q s ⟨rfl, h1, h2, h3⟩
  have e12 : s 0 12 = 1 := by rw [h2]; exact upd_eq _ _ _
  exact ⟨rfl, ⟨h1.c, by rw [h2]; exact upd_ne _ _ (by decide), e12, h3, TC_keep h1.c (h1 61 (by decide) (by decide) (by decide) (by decide) (by decide) (by decide)) e12 hI.2.2.2⟩, h1⟩
/-- a trial was run: nothing of the DAY has changed -/
def Ky (σ t : QS) : Prop := Fc σ t ∧ t 0 = σ 0 ∧ (∀ c, 48 ≤ c ∧ c ≤ 53 → t c = σ c) ∧ t 61 = σ 61
theorem Ky.rf {σ : QS} : Ky σ σ := ⟨Fc.rf, rfl, fun _ _ => rfl, rfl⟩
theorem Ky.dy {σ t : QS} (h : Ky σ t) (hd : dyS σ) : dyS t := by
  refine dyS_cg h.1.L (fun c hc => ?_) hd
  rcases hc with q | q
  · exact h.1 c (by omega)
  · exact h.2.2.1 c q
theorem Ky.tc {σ t : QS} (h : Ky σ t) (ht : TC σ) : TC t := by
  unfold TC at ht ⊢
  rw [h.2.2.2, h.2.1, BS_cg h.1.L (h.1 2 (by decide)) (h.1 3 (by decide)) (h.1 4 (by decide)) (h.1 5 (by decide))]
  exact ht
theorem Ky.dc {σ t : QS} (h : Ky σ t) (hd : DC σ) : DC t := by
  unfold DC at hd ⊢
  rw [h.2.1]
  rcases hd with q | ⟨q, k⟩
  · exact Or.inl q
  · exact Or.inr ⟨q, h.dy k⟩
theorem Ky.dn {σ s t : QS} (h : Ky s t) (hn : Dn σ s) : Dn σ t := ⟨hn.1.tr h.1, by rw [h.2.1]; exact hn.2.1, by rw [h.2.1]; exact hn.2.2.1, h.dy hn.2.2.2.1, h.tc hn.2.2.2.2⟩
theorem QX.ky {σ t : QS} {r x : Int32} (hI : INV σ) (h : Ky σ t) (e : x = r) : QX σ r (some x) t := ⟨x, rfl, e, h.1, by rw [h.2.1], h.dc hI.2.2.2.1, h.tc hI.2.2.2.2⟩
def smN (row : Nat → Int32) : Nat → Int32
  | 0 => 0
  | h + 1 => smN row h + row h
theorem smN_cg {row row' : Nat → Int32} : ∀ H, (∀ h, h < H → row h = row' h) → smN row H = smN row' H
  | 0, _ => rfl
  | H + 1, h => by rw [smN, smN, smN_cg H (fun k hk => h k (by omega)), h H (by omega)]
theorem EV.finesX0 {d : Nat} {σ : QS} (hI : INV σ) : EV (d + 6) 87 0 [some (.inr 0), some (.inl 0), none, none] [] σ (QX σ (smN (fun h => uF (cA σ 0) (cA σ 0) (σ 4) (σ 5) (σ 2) h (dR (cA σ 0) (σ 4) (σ 5) (σ 2) (σ 3) h)) 24)) := by
  refine pX_finesBy0_0 (ex_V EV.beginY ?_)
  generalize hs : q_set (q_set σ 55 (cpN (σ 2) (σ 55) 24)) 56 (cpN (σ 3) (σ 56) 24) = s
  have fs : ∀ c, c ≠ 55 → c ≠ 56 → s c = σ c := fun c h1 h2 => by rw [← hs, q_set_ne _ _ h2, q_set_ne _ _ h1]
  have s55 : s 55 = cpN (σ 2) (σ 55) 24 := by rw [← hs, q_set_ne _ _ (by decide), q_set_eq]
  have s56 : s 56 = cpN (σ 3) (σ 56) 24 := by rw [← hs, q_set_eq]
  have hL1 : FrL σ s := fun c hc => fs c (by omega) (by omega)
  have e4 : s 4 = σ 4 := fs 4 (by decide) (by decide)
  have e5 : s 5 = σ 5 := fs 5 (by decide) (by decide)
  refine ⟨_, EV.runY0 (k := 0) (R := σ 3) (LC_fr hL1 hI.2.1.1) (LC_fr hL1 hI.2.1.1) (by rw [e4, e5, s55]; exact iA_cp hI.A) (by decide) ?_, ?_⟩
  · refine ⟨fun h hh i hi => ?_, fun h hh => absurd hh (by omega)⟩
    have : h = 0 := by omega
    subst this
    rw [s56, cpN_lt (by omega), dR]
    congr 1
    omega
  · rintro t ⟨g1, g2, -⟩
    simp only [e4, e5, s55, cA_fr hL1] at g2
    have hcg : ∀ k, k < 24 → cpN (σ 2) (σ 55) 24 k = σ 2 k ∧ ah (cpN (σ 2) (σ 55) 24) k = ah (σ 2) k := ah_cg (fun k hk => cpN_lt hk)
    have g2 := Dy_cg hcg g2
    have ky : Ky σ t := by
      refine ⟨fun c hc => ?_, ?_, fun c hc => ?_, ?_⟩
      · rw [g1 c (by omega) (by omega) (by omega) (by omega) (by omega), fs c (by omega) (by omega)]
      · rw [g1 0 (by decide) (by decide) (by decide) (by decide) (by decide), fs 0 (by decide) (by decide)]
      · rw [g1 c (by omega) (by omega) (by omega) (by omega) (by omega), fs c (by omega) (by omega)]
      · rw [g1 61 (by decide) (by decide) (by decide) (by decide) (by decide), fs 61 (by decide) (by decide)]
    rw [← smN_cg (row := t 58) 24 (fun h hh => (g2.2 h hh).2)]
    have key := up_loop (P := fun j => EV (d + 6) 87 6 [some (.inr 0), some (.inl 0), some (.inl (smN (t 58) j)), some (.inl (nI j))] [] t (QX σ (smN (t 58) 24))) (n := 24) ?_ ?_ 0 (by omega)
    · exact key
    · exact pX_finesBy0_6 ⟨fun _ => QX.ky hI ky rfl, fun q => absurd (nI_le' (Nat.le_refl 24) (by omega)) q⟩
    · intro j hj ih
      refine pX_finesBy0_6 ?_
      rw [cl_nI (by omega), nI_p1]
      exact ⟨fun q => absurd q (nI_nle' (a := 24) (by omega) (by omega)), fun _ => ⟨vp_in_nI hj (by decide), ih⟩⟩
theorem EV.finesX1 {d : Nat} {σ : QS} (hI : INV σ) : EV (d + 6) 87 0 [some (.inr 0), some (.inl 1), none, none] [] σ (QX σ (smN (fun h => uF (cA σ 0) (cA σ 1) (σ 4) (σ 5) (σ 2) h (dR (cA σ 0) (σ 4) (σ 5) (σ 2) (σ 3) h)) 24)) := by
  refine pX_finesBy1_0 (ex_V EV.beginY ?_)
  generalize hs : q_set (q_set σ 55 (cpN (σ 2) (σ 55) 24)) 56 (cpN (σ 3) (σ 56) 24) = s
  have fs : ∀ c, c ≠ 55 → c ≠ 56 → s c = σ c := fun c h1 h2 => by rw [← hs, q_set_ne _ _ h2, q_set_ne _ _ h1]
  have s55 : s 55 = cpN (σ 2) (σ 55) 24 := by rw [← hs, q_set_ne _ _ (by decide), q_set_eq]
  have s56 : s 56 = cpN (σ 3) (σ 56) 24 := by rw [← hs, q_set_eq]
  have hL1 : FrL σ s := fun c hc => fs c (by omega) (by omega)
  have e4 : s 4 = σ 4 := fs 4 (by decide) (by decide)
  have e5 : s 5 = σ 5 := fs 5 (by decide) (by decide)
  refine ⟨_, EV.runY1 (k := 0) (R := σ 3) (LC_fr hL1 hI.2.1.1) (LC_fr hL1 hI.2.2.1.1) (by rw [e4, e5, s55]; exact iA_cp hI.A) (by decide) ?_, ?_⟩
  · refine ⟨fun h hh i hi => ?_, fun h hh => absurd hh (by omega)⟩
    have : h = 0 := by omega
    subst this
    rw [s56, cpN_lt (by omega), dR]
    congr 1
    omega
  · rintro t ⟨g1, g2, -⟩
    simp only [e4, e5, s55, cA_fr hL1] at g2
    have hcg : ∀ k, k < 24 → cpN (σ 2) (σ 55) 24 k = σ 2 k ∧ ah (cpN (σ 2) (σ 55) 24) k = ah (σ 2) k := ah_cg (fun k hk => cpN_lt hk)
    have g2 := Dy_cg hcg g2
    have ky : Ky σ t := by
      refine ⟨fun c hc => ?_, ?_, fun c hc => ?_, ?_⟩
      · rw [g1 c (by omega) (by omega) (by omega) (by omega) (by omega), fs c (by omega) (by omega)]
      · rw [g1 0 (by decide) (by decide) (by decide) (by decide) (by decide), fs 0 (by decide) (by decide)]
      · rw [g1 c (by omega) (by omega) (by omega) (by omega) (by omega), fs c (by omega) (by omega)]
      · rw [g1 61 (by decide) (by decide) (by decide) (by decide) (by decide), fs 61 (by decide) (by decide)]
    rw [← smN_cg (row := t 58) 24 (fun h hh => (g2.2 h hh).2)]
    have key := up_loop (P := fun j => EV (d + 6) 87 6 [some (.inr 0), some (.inl 1), some (.inl (smN (t 58) j)), some (.inl (nI j))] [] t (QX σ (smN (t 58) 24))) (n := 24) ?_ ?_ 0 (by omega)
    · exact key
    · exact pX_finesBy1_6 ⟨fun _ => QX.ky hI ky rfl, fun q => absurd (nI_le' (Nat.le_refl 24) (by omega)) q⟩
    · intro j hj ih
      refine pX_finesBy1_6 ?_
      rw [cl_nI (by omega), nI_p1]
      exact ⟨fun q => absurd q (nI_nle' (a := 24) (by omega) (by omega)), fun _ => ⟨vp_in_nI hj (by decide), ih⟩⟩
theorem EV.finesM2 {d : Nat} {σ s1 : QS} {w : Nat} (hI : INV σ) (hw : w < 2) (f1 : Fc σ s1) : EV (d + 6) 175 0 [some (.inr 69), some (.inl (nI w)), none, none] [] s1 (QM2 s1 (smN (fun h => uF (cA σ 0) (cA σ w) (σ 4) (σ 5) (σ 2) h (dR (cA σ 0) (σ 4) (σ 5) (σ 2) (σ 3) h)) 24)) := by
  refine pM_finesBy_0 ⟨fun z => absurd z (nI_pos (by omega)), fun _ => ⟨fun z => absurd z ?_, fun _ => ⟨_, EV.runsI hI f1.mc hw (hI.f f1.M) hI.fr, ?_⟩⟩⟩
  · exact fun z => by have := (nI_ltI (a := 1) (by decide) (by omega)).mp z; omega
  rintro t ⟨g1, g2⟩
  rw [← smN_cg (row := t 102) 24 (fun h hh => (g2.2.1 h hh).2.1)]
  have key := up_loop (P := fun j => EV (d + 6) 175 5 [some (.inr 69), some (.inl (nI w)), some (.inl (smN (t 102) j)), some (.inl (nI j))] [] t (QM2 s1 (smN (t 102) 24))) (n := 24) ?_ ?_ 0 (by omega)
  · exact key
  · exact pM_finesBy_5 ⟨fun _ => QM2.mk g1.mm rfl, fun q => absurd (nI_le' (Nat.le_refl 24) (by omega)) q⟩
  · intro j hj ih
    refine pM_finesBy_5 ?_
    rw [cl_nI (by omega), nI_p1]
    exact ⟨fun q => absurd q (nI_nle' (a := 24) (by omega) (by omega)), fun _ => ⟨vp_in_nI hj (by decide), ih⟩⟩
theorem sim_finesBy (σ : QS) (w : Int32) (hI : INV σ) : SimI 87 175 [some (.inr 0), some (.inl w), none, none] [some (.inr 69), some (.inl w), none, none] σ := by
  by_cases e0 : w = 0
  · subst e0
    exact SimI.q _ hI (EV.finesX0 hI) (fun s1 f1 => EV.finesM2 (w := 0) hI (by decide) f1)
  by_cases e1 : w = 1
  · subst e1
    exact SimI.q _ hI (EV.finesX1 hI) (fun s1 f1 => EV.finesM2 (w := 1) hI (by decide) f1)
  refine SimI.no (-1) hI (pX_finesBy_0 ⟨fun z => absurd z e0, fun _ => ⟨fun _ => no2 _ _, fun z => absurd z e1⟩⟩) ?_
  by_cases w0 : w < 0
  · exact pM_finesBy_0 ⟨fun _ => no2 _ _, fun z => absurd w0 z⟩
  by_cases w1 : 1 < w
  · exact pM_finesBy_0 ⟨fun z => absurd z w0, fun _ => ⟨fun _ => no2 _ _, fun z => absurd w1 z⟩⟩
  obtain ⟨k, hk, rfl⟩ := ix_of' (n := 1) rfl (by decide) w0 w1
  rcases (show k = 0 ∨ k = 1 by omega) with rfl | rfl
  · exact absurd rfl e0
  · exact absurd rfl e1
/-- a number of the tape -/
def tpn (b : Nat → Int32) (i : Nat) : Nat → Int32
  | 0 => 0
  | k + 1 => (tpn b i k <<< ((8 : Int32) &&& 31)) ||| b (i * 4 + k)
theorem tpn_cg {b b' : Nat → Int32} {i : Nat} (hi : i < 55) (h : ∀ k, k < 220 → b k = b' k) : ∀ n, n ≤ 4 → tpn b i n = tpn b' i n
  | 0, _ => rfl
  | n + 1, hn => by rw [tpn, tpn, tpn_cg hi h n (by omega), h _ (by omega)]
theorem EV.numX {d : Nat} {σ : QS} {i : Nat} (hi : i < 55) : EV d 57 0 [some (.inr 11), some (.inl (nI i)), none, none] [] σ (qis (tpn (σ 12) i 4) σ) := by
  refine pT_numberAt_0 ?_
  have key := up_loop (P := fun j => EV d 57 1 [some (.inr 11), some (.inl (nI i)), some (.inl (tpn (σ 12) i j)), some (.inl (nI j))] [] σ (qis (tpn (σ 12) i 4) σ)) (n := 4) ?_ ?_ 0 (by omega)
  · exact key
  · exact pT_numberAt_1 ⟨fun _ => no2 _ _, fun q => absurd (nI_le' (Nat.le_refl 4) (by omega)) q⟩
  · intro j hj ih
    refine pT_numberAt_1 ?_
    rw [show nI i * 4 = nI (i * 4) from pk_mul i 4, nI_add, cl_nI (by omega), nI_p1]
    exact ⟨fun q => absurd q (nI_nle' (a := 4) (by omega) (by omega)), fun _ => ⟨vp_in_nI (by omega) (by decide), ih⟩⟩
theorem EV.numM {d : Nat} {σ : QS} {i : Nat} (hi : i < 55) : EV d 196 0 [some (.inr 69), some (.inl (nI i)), none, none] [] σ (qis (tpn (fun k => σ 80 k &&& 255) i 4) σ) := by
  refine pM_tapeNumber_0 ?_
  rw [show 4 * nI i = nI (i * 4) from by rw [show 4 * nI i = nI (4 * i) from pk_mul 4 i, Nat.mul_comm]]
  have key := up_loop (P := fun j => EV d 196 1 [some (.inr 69), some (.inl (nI i)), some (.inl (tpn (fun k => σ 80 k &&& 255) i j)), some (.inl (nI (i * 4 + j)))] [] σ (qis (tpn (fun k => σ 80 k &&& 255) i 4) σ)) (n := 4) ?_ ?_ 0 (by omega)
  · exact key
  · refine pM_tapeNumber_1 ?_
    rw [show 4 * nI i + 4 = nI (i * 4 + 4) from by rw [show 4 * nI i = nI (4 * i) from pk_mul 4 i, Nat.mul_comm]; exact nI_add _ 4]
    exact ⟨fun _ => no2 _ _, fun q => absurd (nI_le' (Nat.le_refl _) (by omega)) q⟩
  · intro j hj ih
    refine pM_tapeNumber_1 ?_
    rw [show 4 * nI i + 4 = nI (i * 4 + 4) from by rw [show 4 * nI i = nI (4 * i) from pk_mul 4 i, Nat.mul_comm]; exact nI_add _ 4, cl_nI (by omega), nI_p1]
    exact ⟨fun q => absurd q (nI_nle' (by omega) (by omega)), fun _ => ⟨vp_in_nI (by omega) (by decide), ih⟩⟩
def fwr (b F : Nat → Int32) : Nat → Nat → Int32
  | 0, _ => -1
  | m + 1, r => if tpn b r 4 = F r then fwr b F m (r + 1) else nI r
theorem fwr_cg {b b' F F' : Nat → Int32} (h : ∀ k, k < 220 → b k = b' k) (hF : ∀ r, r < 8 → F r = F' r) : ∀ m r, r + m ≤ 8 → fwr b F m r = fwr b' F' m r
  | 0, _, _ => rfl
  | m + 1, r, hr => by rw [fwr, fwr, fwr_cg h hF m (r + 1) (by omega), hF r (by omega), tpn_cg (by omega) h 4 (by omega)]
theorem EV.fwX {d : Nat} {s : QS} {j n : Nat} (hj : j < 24) (hn : n ≤ 8) : EV (d + 1) 102 0 [some (.inr 0), some (.inl (nI j)), some (.inl (nI n)), none] [] s (qis (fwr (s 12) (fun r => s 49 (j * 24 + r * 3)) n 0) s) := by
  refine pX_firstWrongStore_0 ?_
  have key : ∀ m r, r + m = n → EV (d + 1) 102 1 [some (.inr 0), some (.inl (nI j)), some (.inl (nI n)), some (.inl (nI r))] [] s (qis (fwr (s 12) (fun r => s 49 (j * 24 + r * 3)) m r) s) := by
    intro m
    induction m with
    | zero =>
      intro r hr
      exact pX_firstWrongStore_1 ⟨fun _ => no2 _ _, fun q => absurd (nI_le' (by omega) (by omega)) q⟩
    | succ m ih =>
      intro r hr
      have ex : nI j * 24 + nI r * 3 + 0 = nI (j * 24 + r * 3) := by
        rw [show nI j * 24 = nI (j * 24) from pk_mul j 24, show nI r * 3 = nI (r * 3) from pk_mul r 3, nI_add, nI_p0]
      refine pX_firstWrongStore_1 ?_
      rw [ex, cl_nI (by omega), nI_p1]
      refine ⟨fun q => absurd q (nI_nle' (by omega) (by omega)), fun _ => ex_I (EV.numX (by omega)) ⟨vp_in_nI (by omega) (by decide), fun q => ?_, fun q => ?_⟩⟩
      · rw [fwr, if_pos q]; exact ih (r + 1) (by omega)
      · rw [fwr, if_neg q]; exact no2 _ _
  exact key n 0 (by omega)
theorem EV.fwM {d : Nat} {s t : QS} {j n : Nat} {r0 : Int32} (hj : j < 24) (hn : n ≤ 8) (hf : Fmm s t) (e0 : fwr (fun k => t 80 k &&& 255) (fun r => t 98 (8 * j + r)) n 0 = r0) : EV (d + 6) 197 8 [some (.inr 69), some (.inl (nI j)), some (.inl (nI n)), some (.inl 0)] [] t (QM2 s r0) := by
  subst e0
  have key : ∀ m r, r + m = n → EV (d + 6) 197 8 [some (.inr 69), some (.inl (nI j)), some (.inl (nI n)), some (.inl (nI r))] [] t (QM2 s (fwr (fun k => t 80 k &&& 255) (fun r => t 98 (8 * j + r)) m r)) := by
    intro m
    induction m with
    | zero =>
      intro r hr
      exact pM_check_8 ⟨fun _ => QM2.mk hf rfl, fun q => absurd (nI_le' (by omega) (by omega)) q⟩
    | succ m ih =>
      intro r hr
      have ex : 8 * nI j + nI r = nI (8 * j + r) := by rw [show 8 * nI j = nI (8 * j) from pk_mul 8 j, nI_add]
      refine pM_check_8 ?_
      rw [ex, cl_nI (by omega), nI_p1]
      refine ⟨fun q => absurd q (nI_nle' (by omega) (by omega)), fun _ => ex_I (EV.numM (by omega)) ⟨vp_in_nI (by omega) (by decide), fun q => ?_, fun q => ?_⟩⟩
      · rw [fwr, if_pos q]; exact ih (r + 1) (by omega)
      · rw [fwr, if_neg q]; exact QM2.mk hf rfl
  exact key n 0 (by omega)
theorem sim_check (σ : QS) (h n : Int32) (hI : INV σ) : SimI 100 197 [some (.inr 0), some (.inl h), some (.inl n), none] [some (.inr 69), some (.inl h), some (.inl n), none] σ := by
  by_cases h0 : h < 0
  · exact SimI.no (-2) hI (pX_check_0 ⟨fun _ => (no2 _ _), fun z => absurd h0 z⟩) (pM_check_0 ⟨fun _ => (no2 _ _), fun z => absurd h0 z⟩)
  by_cases h1 : 24 ≤ h
  · exact SimI.no (-2) hI (pX_check_0 ⟨fun z => absurd z h0, fun _ => ⟨fun _ => (no2 _ _), fun z => absurd h1 z⟩⟩) (pM_check_0 ⟨fun z => absurd z h0, fun _ => ⟨fun _ => (no2 _ _), fun z => absurd h1 z⟩⟩)
  by_cases n0 : n < 0
  · exact SimI.no (-2) hI (pX_check_0 ⟨fun z => absurd z h0, fun _ => ⟨fun z => absurd z h1, fun _ => ⟨fun _ => (no2 _ _), fun z => absurd n0 z⟩⟩⟩) (pM_check_0 ⟨fun z => absurd z h0, fun _ => ⟨fun z => absurd z h1, fun _ => ⟨fun _ => (no2 _ _), fun z => absurd n0 z⟩⟩⟩)
  by_cases n1 : 8 < n
  · exact SimI.no (-2) hI (pX_check_0 ⟨fun z => absurd z h0, fun _ => ⟨fun z => absurd z h1, fun _ => ⟨fun z => absurd z n0, fun _ => ⟨fun _ => (no2 _ _), fun z => absurd n1 z⟩⟩⟩⟩) (pM_check_0 ⟨fun z => absurd z h0, fun _ => ⟨fun z => absurd z h1, fun _ => ⟨fun z => absurd z n0, fun _ => ⟨fun _ => (no2 _ _), fun z => absurd n1 z⟩⟩⟩⟩)
  obtain ⟨j, hj, rfl⟩ := ix_of (n := 24) rfl (by decide) h0 h1
  obtain ⟨k, hk, rfl⟩ := ix_of' (n := 8) rfl (by decide) n0 n1
  have hB := hI.1
  obtain ⟨b1, b2, b3, b4, b5, ⟨t1, ⟨z, hz, t2⟩, t3⟩, b7, b8⟩ := hB
  have eX : (nI k * 4 ≤ σ 11 1) = (k * 4 ≤ z) := by rw [t2, show nI k * 4 = nI (k * 4) from pk_mul k 4]; exact nI_leP (by omega) (by omega)
  have eM : (nI k ≤ σ 69 12 / 4) = (k ≤ z / 4) := by rw [t1, t2, show nI z / 4 = nI (z / 4) from nI_div 4 (by omega) (by decide) (by decide)]; exact nI_leP (by omega) (by omega)
  by_cases c : k * 4 ≤ z
  rotate_left
  · have g1 : ¬ nI k * 4 ≤ σ 11 1 := by rw [eX]; exact c
    have g2 : ¬ nI k ≤ σ 69 12 / 4 := by rw [eM]; omega
    exact SimI.no (-2) hI (pX_check_0 ⟨fun z => absurd z h0, fun _ => ⟨fun z => absurd z h1, fun _ => ⟨fun z => absurd z n0, fun _ => ⟨fun z => absurd z n1, fun _ => ⟨fun z => absurd z g1, fun _ => (no2 _ _)⟩⟩⟩⟩⟩) (pM_check_0 ⟨fun z => absurd z h0, fun _ => ⟨fun z => absurd z h1, fun _ => ⟨fun z => absurd z n0, fun _ => ⟨fun z => absurd z n1, fun _ => ⟨(by decide), ⟨fun z => absurd z g2, fun _ => (no2 _ _)⟩⟩⟩⟩⟩⟩)
  have g1 : nI k * 4 ≤ σ 11 1 := by rw [eX]; exact c
  have g2 : nI k ≤ σ 69 12 / 4 := by rw [eM]; omega
  refine ⟨fwr (σ 12) (fun r => dR (cA σ 0) (σ 4) (σ 5) (σ 2) (σ 3) j (r * 3)) k 0, pX_check_0 ⟨fun z => absurd z h0, fun _ => ⟨fun z => absurd z h1, fun _ => ⟨fun z => absurd z n0, fun _ => ⟨fun z => absurd z n1, fun _ => ⟨fun _ => ⟨_, EV.dayI hI, ?_⟩, fun z => absurd g1 z⟩⟩⟩⟩⟩⟩
  rintro s ⟨hn, -⟩
  refine ex_I (EV.fwX hj hk) ⟨_, rfl, fwr_cg (fun q _ => by rw [hn.1 12 (by decide)]) (fun r hr => hn.day.2.1.1 j (by omega) (r * 3) (by omega)) k 0 (by omega), ?_⟩
  generalize hs1 : q_set s 11 (upd (s 11) 1 0) = s1
  have e1 : ∀ c, c ≠ 11 → s1 c = s c := fun c hc => by rw [← hs1, q_set_ne _ _ hc]
  have g3 : nI k ≤ s1 69 12 / 4 := by rw [e1 69 (by decide), hn.1 69 (by decide)]; exact g2
  have fM : ∀ c, 69 ≤ c → s1 c = σ c := fun c hc => by rw [e1 c (by omega), hn.1 c (by omega)]
  generalize hs2 : q_set s1 69 (upd (s1 69) 12 0) = s2
  have e2 : ∀ c, c ≠ 69 → s2 c = s1 c := fun c hc => by rw [← hs2, q_set_ne _ _ hc]
  have mc : Mc σ s2 := ⟨fun c hc => by rw [e2 c (by omega), e1 c (by omega), hn.1 c (by omega)], fun c hc => by rw [e2 c (by omega), fM c (by omega)]⟩
  generalize hσ1 : q_set (q_set σ 11 (upd (σ 11) 1 0)) 69 (upd (σ 69) 12 0) = σ1
  have e3 : ∀ c, c ≠ 11 → c ≠ 69 → σ1 c = σ c := fun c a b => by rw [← hσ1, q_set_ne _ _ b, q_set_ne _ _ a]
  have i1 : INV σ1 := by
    refine INV_fr hI ?_ (fun c hc => e3 c (by omega) (by omega)) (Or.inr ⟨by rw [e3 0 (by decide) (by decide)], fun c hc => e3 c (by omega) (by omega)⟩)
    rw [← hσ1]
    exact ⟨b1, b2, b3, b4, b5, ⟨rfl, ⟨0, by decide, rfl⟩, t3⟩, b7, b8⟩
  have fc : Fc σ1 s2 := by
    intro c hc
    by_cases q1 : c = 69
    · subst q1
      rw [← hs2, ← hσ1, q_set_eq, q_set_eq, fM 69 (by decide)]
    · by_cases q2 : c = 11
      · subst q2
        rw [e2 11 (by decide), ← hs1, ← hσ1, q_set_eq, q_set_ne _ _ (by decide), q_set_eq, hn.1 11 (by decide)]
      · rw [e2 c q1, e1 c q2, hn.1 c hc, e3 c q2 q1]
  have ky : Ky s s2 → True := fun _ => trivial
  have hL : FrL s s2 := fun c hc => by rw [e2 c (by omega), e1 c (by omega)]
  have dc : DC s2 := by
    refine Or.inr ⟨by rw [e2 0 (by decide), e1 0 (by decide)]; exact hn.2.2.1, dyS_cg hL (fun c hc => by rw [e2 c (by omega), e1 c (by omega)]) hn.2.2.2.1⟩
  have tc : TC s2 := by
    have := hn.2.2.2.2
    unfold TC at this ⊢
    rw [BS_cg hL (by rw [e2 2 (by decide), e1 2 (by decide)]) (by rw [e2 3 (by decide), e1 3 (by decide)]) (by rw [e2 4 (by decide), e1 4 (by decide)]) (by rw [e2 5 (by decide), e1 5 (by decide)]), e2 61 (by decide), e1 61 (by decide), e2 0 (by decide), e1 0 (by decide)]
    exact this
  refine pM_check_0 ⟨fun z => absurd z h0, fun _ => ⟨fun z => absurd z h1, fun _ => ⟨fun z => absurd z n0, fun _ => ⟨fun z => absurd z n1, fun _ => ⟨(by decide), ⟨fun _ => ?_, fun z => absurd g3 z⟩⟩⟩⟩⟩⟩
  rw [hs2]
  refine ⟨_, EV.runsI (w := 0) hI mc (by decide) (by rw [e2 70 (by decide), fM 70 (by decide)]; exact b1.1) hI.fr, ?_⟩
  rintro t ⟨f1, f2⟩
  refine (EV.fwM (s := s2) (r0 := fwr (σ 12) (fun r => dR (cA σ 0) (σ 4) (σ 5) (σ 2) (σ 3) j (r * 3)) k 0) hj hk f1.mm ?_).mono ?_
  · refine fwr_cg (fun q hq => ?_) (fun r hr => (f2.1 j (by omega) r hr).1) k 0 (by omega)
    rw [t3 q hq, f1 80 (by decide), e2 80 (by decide), fM 80 (by decide)]
  · rintro q u ⟨y, rfl, hy, g⟩
    exact ⟨y, rfl, hy, INV_day i1 fc (by rw [e2 0 (by decide), e1 0 (by decide), e3 0 (by decide) (by decide)]; exact hn.2.1) dc tc g⟩
