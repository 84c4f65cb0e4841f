/-! a DAY run (class) -/
def Dy (F W N : Nat → Int32) (A B : Nat → (Nat → Int32) → Int32) (a n f R : Nat → Int32) (H : Nat) : Prop := (∀ h, h ≤ H → ∀ i, i < 24 → F (h * 24 + i) = dR A a n f R h i) ∧ ∀ h, h < H → W h = uW A a n f h (dR A a n f R h) ∧ N h = uF A B a n f h (dR A a n f R h)
def Du (U X : Nat → Int32) (A : Nat → (Nat → Int32) → Int32) (a n f R : Nat → Int32) (H : Nat) : Prop := ∀ h, h < H → U h = uU A a n f h (dR A a n f R h) ∧ X h = uO A a n f h (dR A a n f R h)
theorem u_cg {A B : Nat → (Nat → Int32) → Int32} {a n f f' R : Nat → Int32} {h : Nat} (h1 : f h = f' h) (h2 : ah f h = ah f' h) : uA A a n f h R = uA A a n f' h R ∧ uR A a n f h R = uR A a n f' h R ∧ uW A a n f h R = uW A a n f' h R ∧ uF A B a n f h R = uF A B a n f' h R ∧ uU A a n f h R = uU A a n f' h R ∧ uO A a n f h R = uO A a n f' h R := by
  unfold uR uF uW uU uO uA
  rw [h1, h2]
  exact ⟨rfl, rfl, rfl, rfl, rfl, rfl⟩
theorem dR_cg {A : Nat → (Nat → Int32) → Int32} {a n f f' R : Nat → Int32} : ∀ H, (∀ h, h < H → f h = f' h ∧ ah f h = ah f' h) → dR A a n f R H = dR A a n f' R H
  | 0, _ => rfl
  | H + 1, h => by
    rw [dR, dR, dR_cg H (fun k hk => h k (by omega))]
    exact (u_cg (B := A) (h H (by omega)).1 (h H (by omega)).2).2.1
theorem Dy_cg {F W N : Nat → Int32} {A B : Nat → (Nat → Int32) → Int32} {a n f f' R : Nat → Int32} {H : Nat} (h : ∀ k, k < H → f k = f' k ∧ ah f k = ah f' k) (hD : Dy F W N A B a n f R H) : Dy F W N A B a n f' R H := by
  refine ⟨fun k hk i hi => ?_, fun k hk => ?_⟩
  · rw [← dR_cg k (fun q hq => h q (by omega))]
    exact hD.1 k hk i hi
  · obtain ⟨h1, h2⟩ := hD.2 k hk
    have c := u_cg (A := A) (B := B) (a := a) (n := n) (R := dR A a n f R k) (h k hk).1 (h k hk).2
    rw [← dR_cg k (fun q hq => h q (by omega)), ← c.2.2.1, ← c.2.2.2.1]
    exact ⟨h1, h2⟩
theorem Du_cg {U X : Nat → Int32} {A : Nat → (Nat → Int32) → Int32} {a n f f' R : Nat → Int32} {H : Nat} (h : ∀ k, k < H → f k = f' k ∧ ah f k = ah f' k) (hD : Du U X A a n f R H) : Du U X A a n f' R H := by
  intro k hk
  obtain ⟨h1, h2⟩ := hD k hk
  have c := u_cg (A := A) (B := A) (a := a) (n := n) (R := dR A a n f R k) (h k hk).1 (h k hk).2
  rw [← dR_cg k (fun q hq => h q (by omega)), ← c.2.2.2.2.1, ← c.2.2.2.2.2]
  exact ⟨h1, h2⟩
theorem ah_cg {f f' : Nat → Int32} (h : ∀ k, k < 24 → f k = f' k) : ∀ k, k < 24 → f k = f' k ∧ ah f k = ah f' k := fun k hk => ⟨h k hk, h _ (by omega)⟩
/-- sum of a row over an OWNER's HOURS -/
def smO (f row : Nat → Int32) (o : Int32) : Nat → Int32
  | 0 => 0
  | h + 1 => if f h = o then smO f row o h + row h else smO f row o h
theorem smO_cg {f f' row row' : Nat → Int32} {o : Int32} : ∀ H, (∀ h, h < H → f h = f' h ∧ row h = row' h) → smO f row o H = smO f' row' o H
  | 0, _ => rfl
  | H + 1, h => by
    rw [smO, smO, smO_cg H (fun k hk => h k (by omega)), (h H (by omega)).1, (h H (by omega)).2]
theorem EV.runD0 {d : Nat} {σ : QS} {R : Nat → Int32} {k : Nat} (hL : LC σ 0) (hLw : LC σ 0) (hA : iA (σ 4) (σ 5) (σ 48)) (hk : k ≤ 24) (hD : Dy (σ 49) (σ 50) (σ 51) (cA σ 0) (cA σ 0) (σ 4) (σ 5) (σ 48) R k) : EV (d + 5) 2 0 [some (.inr 47), some (.inl (nI k)), some (.inr 13), none] [] σ (qV (fun s => Fq 47 σ s ∧ Dy (s 49) (s 50) (s 51) (cA σ 0) (cA σ 0) (σ 4) (σ 5) (σ 48) R 24 ∧ (Du (σ 52) (σ 53) (cA σ 0) (σ 4) (σ 5) (σ 48) R k → Du (s 52) (s 53) (cA σ 0) (σ 4) (σ 5) (σ 48) R 24))) := by
  refine pD_run0_0 ?_
  have key := up_loop (P := fun j => ∀ s, Fq 47 σ s → Dy (s 49) (s 50) (s 51) (cA σ 0) (cA σ 0) (σ 4) (σ 5) (σ 48) R j → (Du (σ 52) (σ 53) (cA σ 0) (σ 4) (σ 5) (σ 48) R k → Du (s 52) (s 53) (cA σ 0) (σ 4) (σ 5) (σ 48) R j) → EV (d + 5) 2 1 [some (.inr 47), some (.inl (nI k)), some (.inr 13), some (.inl (nI j))] [] s (qV (fun s => Fq 47 σ s ∧ Dy (s 49) (s 50) (s 51) (cA σ 0) (cA σ 0) (σ 4) (σ 5) (σ 48) R 24 ∧ (Du (σ 52) (σ 53) (cA σ 0) (σ 4) (σ 5) (σ 48) R k → Du (s 52) (s 53) (cA σ 0) (σ 4) (σ 5) (σ 48) R 24)))) (n := 24) ?_ ?_ k hk
  · exact key σ Fq.rf hD (fun q => q)
  · intro s f1 f2 f3
    exact pD_run0_1 ⟨fun _ => ⟨rfl, f1, f2, f3⟩, fun q => absurd (nI_le' (Nat.le_refl 24) (by omega)) q⟩
  · intro j hj ih s f1 f2 f3
    have s4 : s 4 = σ 4 := f1 4 (by decide) (by decide) (by decide) (by decide) (by decide)
    have s5 : s 5 = σ 5 := f1 5 (by decide) (by decide) (by decide) (by decide) (by decide)
    have so : s 48 = σ 48 := f1 48 (by decide) (by decide) (by decide) (by decide) (by decide)
    have hL1 := f1.L (by decide)
    refine pD_run0_1 ⟨fun q => absurd q (nI_nle' (a := 24) (by omega) (by omega)), fun _ => ⟨_, EV.hourD0 (R := dR (cA σ 0) (σ 4) (σ 5) (σ 48) R j) (LC_fr hL1 hL) (LC_fr hL1 hLw) (by rw [s4, s5, so]; exact hA) hj (fun i hi => f2.1 j (Nat.le_refl _) i hi), ?_⟩⟩
    simp only [s4, s5, so, cA_fr hL1]
    rintro s3 ⟨g1, g2, g3, g4, g5, g6, g7⟩
    rw [nI_p1]
    refine ih s3 (f1.tr g1) ⟨fun h hh i hi => ?_, fun h hh => ?_⟩ (fun q h hh => ?_)
    · by_cases e : h = j + 1
      · subst e; rw [dR]; exact g3 i hi
      · rw [g2 _ (by omega)]; exact f2.1 h (by omega) i hi
    · rw [g4, g5]
      by_cases e : h = j
      · subst e; exact ⟨upd_eq _ _ _, upd_eq _ _ _⟩
      · rw [upd_ne _ _ e, upd_ne _ _ e]; exact f2.2 h (by omega)
    · rw [g6, g7]
      by_cases e : h = j
      · subst e; exact ⟨upd_eq _ _ _, upd_eq _ _ _⟩
      · rw [upd_ne _ _ e, upd_ne _ _ e]; exact f3 q h (by omega)
theorem EV.runY0 {d : Nat} {σ : QS} {R : Nat → Int32} {k : Nat} (hL : LC σ 0) (hLw : LC σ 0) (hA : iA (σ 4) (σ 5) (σ 55)) (hk : k ≤ 24) (hD : Dy (σ 56) (σ 57) (σ 58) (cA σ 0) (cA σ 0) (σ 4) (σ 5) (σ 55) R k) : EV (d + 5) 2 0 [some (.inr 54), some (.inl (nI k)), some (.inr 13), none] [] σ (qV (fun s => Fq 54 σ s ∧ Dy (s 56) (s 57) (s 58) (cA σ 0) (cA σ 0) (σ 4) (σ 5) (σ 55) R 24 ∧ (Du (σ 59) (σ 60) (cA σ 0) (σ 4) (σ 5) (σ 55) R k → Du (s 59) (s 60) (cA σ 0) (σ 4) (σ 5) (σ 55) R 24))) := by
  refine pY_run0_0 ?_
  have key := up_loop (P := fun j => ∀ s, Fq 54 σ s → Dy (s 56) (s 57) (s 58) (cA σ 0) (cA σ 0) (σ 4) (σ 5) (σ 55) R j → (Du (σ 59) (σ 60) (cA σ 0) (σ 4) (σ 5) (σ 55) R k → Du (s 59) (s 60) (cA σ 0) (σ 4) (σ 5) (σ 55) R j) → EV (d + 5) 2 1 [some (.inr 54), some (.inl (nI k)), some (.inr 13), some (.inl (nI j))] [] s (qV (fun s => Fq 54 σ s ∧ Dy (s 56) (s 57) (s 58) (cA σ 0) (cA σ 0) (σ 4) (σ 5) (σ 55) R 24 ∧ (Du (σ 59) (σ 60) (cA σ 0) (σ 4) (σ 5) (σ 55) R k → Du (s 59) (s 60) (cA σ 0) (σ 4) (σ 5) (σ 55) R 24)))) (n := 24) ?_ ?_ k hk
  · exact key σ Fq.rf hD (fun q => q)
  · intro s f1 f2 f3
    exact pY_run0_1 ⟨fun _ => ⟨rfl, f1, f2, f3⟩, fun q => absurd (nI_le' (Nat.le_refl 24) (by omega)) q⟩
  · intro j hj ih s f1 f2 f3
    have s4 : s 4 = σ 4 := f1 4 (by decide) (by decide) (by decide) (by decide) (by decide)
    have s5 : s 5 = σ 5 := f1 5 (by decide) (by decide) (by decide) (by decide) (by decide)
    have so : s 55 = σ 55 := f1 55 (by decide) (by decide) (by decide) (by decide) (by decide)
    have hL1 := f1.L (by decide)
    refine pY_run0_1 ⟨fun q => absurd q (nI_nle' (a := 24) (by omega) (by omega)), fun _ => ⟨_, EV.hourY0 (R := dR (cA σ 0) (σ 4) (σ 5) (σ 55) R j) (LC_fr hL1 hL) (LC_fr hL1 hLw) (by rw [s4, s5, so]; exact hA) hj (fun i hi => f2.1 j (Nat.le_refl _) i hi), ?_⟩⟩
    simp only [s4, s5, so, cA_fr hL1]
    rintro s3 ⟨g1, g2, g3, g4, g5, g6, g7⟩
    rw [nI_p1]
    refine ih s3 (f1.tr g1) ⟨fun h hh i hi => ?_, fun h hh => ?_⟩ (fun q h hh => ?_)
    · by_cases e : h = j + 1
      · subst e; rw [dR]; exact g3 i hi
      · rw [g2 _ (by omega)]; exact f2.1 h (by omega) i hi
    · rw [g4, g5]
      by_cases e : h = j
      · subst e; exact ⟨upd_eq _ _ _, upd_eq _ _ _⟩
      · rw [upd_ne _ _ e, upd_ne _ _ e]; exact f2.2 h (by omega)
    · rw [g6, g7]
      by_cases e : h = j
      · subst e; exact ⟨upd_eq _ _ _, upd_eq _ _ _⟩
      · rw [upd_ne _ _ e, upd_ne _ _ e]; exact f3 q h (by omega)
theorem EV.runY1 {d : Nat} {σ : QS} {R : Nat → Int32} {k : Nat} (hL : LC σ 0) (hLw : LC σ 1) (hA : iA (σ 4) (σ 5) (σ 55)) (hk : k ≤ 24) (hD : Dy (σ 56) (σ 57) (σ 58) (cA σ 0) (cA σ 1) (σ 4) (σ 5) (σ 55) R k) : EV (d + 5) 2 0 [some (.inr 54), some (.inl (nI k)), some (.inr 22), none] [] σ (qV (fun s => Fq 54 σ s ∧ Dy (s 56) (s 57) (s 58) (cA σ 0) (cA σ 1) (σ 4) (σ 5) (σ 55) R 24 ∧ (Du (σ 59) (σ 60) (cA σ 0) (σ 4) (σ 5) (σ 55) R k → Du (s 59) (s 60) (cA σ 0) (σ 4) (σ 5) (σ 55) R 24))) := by
  refine pY_run1_0 ?_
  have key := up_loop (P := fun j => ∀ s, Fq 54 σ s → Dy (s 56) (s 57) (s 58) (cA σ 0) (cA σ 1) (σ 4) (σ 5) (σ 55) R j → (Du (σ 59) (σ 60) (cA σ 0) (σ 4) (σ 5) (σ 55) R k → Du (s 59) (s 60) (cA σ 0) (σ 4) (σ 5) (σ 55) R j) → EV (d + 5) 2 1 [some (.inr 54), some (.inl (nI k)), some (.inr 22), some (.inl (nI j))] [] s (qV (fun s => Fq 54 σ s ∧ Dy (s 56) (s 57) (s 58) (cA σ 0) (cA σ 1) (σ 4) (σ 5) (σ 55) R 24 ∧ (Du (σ 59) (σ 60) (cA σ 0) (σ 4) (σ 5) (σ 55) R k → Du (s 59) (s 60) (cA σ 0) (σ 4) (σ 5) (σ 55) R 24)))) (n := 24) ?_ ?_ k hk
  · exact key σ Fq.rf hD (fun q => q)
  · intro s f1 f2 f3
    exact pY_run1_1 ⟨fun _ => ⟨rfl, f1, f2, f3⟩, fun q => absurd (nI_le' (Nat.le_refl 24) (by omega)) q⟩
  · intro j hj ih s f1 f2 f3
    have s4 : s 4 = σ 4 := f1 4 (by decide) (by decide) (by decide) (by decide) (by decide)
    have s5 : s 5 = σ 5 := f1 5 (by decide) (by decide) (by decide) (by decide) (by decide)
    have so : s 55 = σ 55 := f1 55 (by decide) (by decide) (by decide) (by decide) (by decide)
    have hL1 := f1.L (by decide)
    refine pY_run1_1 ⟨fun q => absurd q (nI_nle' (a := 24) (by omega) (by omega)), fun _ => ⟨_, EV.hourY1 (R := dR (cA σ 0) (σ 4) (σ 5) (σ 55) R j) (LC_fr hL1 hL) (LC_fr hL1 hLw) (by rw [s4, s5, so]; exact hA) hj (fun i hi => f2.1 j (Nat.le_refl _) i hi), ?_⟩⟩
    simp only [s4, s5, so, cA_fr hL1]
    rintro s3 ⟨g1, g2, g3, g4, g5, g6, g7⟩
    rw [nI_p1]
    refine ih s3 (f1.tr g1) ⟨fun h hh i hi => ?_, fun h hh => ?_⟩ (fun q h hh => ?_)
    · by_cases e : h = j + 1
      · subst e; rw [dR]; exact g3 i hi
      · rw [g2 _ (by omega)]; exact f2.1 h (by omega) i hi
    · rw [g4, g5]
      by_cases e : h = j
      · subst e; exact ⟨upd_eq _ _ _, upd_eq _ _ _⟩
      · rw [upd_ne _ _ e, upd_ne _ _ e]; exact f2.2 h (by omega)
    · rw [g6, g7]
      by_cases e : h = j
      · subst e; exact ⟨upd_eq _ _ _, upd_eq _ _ _⟩
      · rw [upd_ne _ _ e, upd_ne _ _ e]; exact f3 q h (by omega)
theorem EV.sumWD {d : Nat} {σ : QS} {o : Int32} : EV d 7 0 [some (.inr 47), some (.inl o), some (.inr 50), none, none] [] σ (qis (smO (σ 48) (σ 50) o 24) σ) := by
  refine pD_sumW_0 ?_
  have key := up_loop (P := fun j => EV d 7 1 [some (.inr 47), some (.inl o), some (.inr 50), some (.inl (smO (σ 48) (σ 50) o j)), some (.inl (nI j))] [] σ (qis (smO (σ 48) (σ 50) o 24) σ)) (n := 24) ?_ ?_ 0 (by omega)
  · exact key
  · exact pD_sumW_1 ⟨fun _ => ⟨rfl, rfl⟩, fun q => absurd (nI_le' (Nat.le_refl 24) (by omega)) q⟩
  · intro j hj ih
    refine pD_sumW_1 ?_
    rw [cl_nI (by omega), nI_p1]
    refine ⟨fun q => absurd q (nI_nle' (a := 24) (by omega) (by omega)), fun _ => ⟨vp_in_nI hj (by decide), fun q => ?_, fun q => ⟨vp_in_nI hj (by decide), ?_⟩⟩⟩
    · rw [smO, if_neg q] at ih; exact ih
    · rw [smO, if_pos q] at ih; exact ih
theorem EV.sumFD {d : Nat} {σ : QS} {o : Int32} : EV d 7 0 [some (.inr 47), some (.inl o), some (.inr 51), none, none] [] σ (qis (smO (σ 48) (σ 51) o 24) σ) := by
  refine pD_sumF_0 ?_
  have key := up_loop (P := fun j => EV d 7 1 [some (.inr 47), some (.inl o), some (.inr 51), some (.inl (smO (σ 48) (σ 51) o j)), some (.inl (nI j))] [] σ (qis (smO (σ 48) (σ 51) o 24) σ)) (n := 24) ?_ ?_ 0 (by omega)
  · exact key
  · exact pD_sumF_1 ⟨fun _ => ⟨rfl, rfl⟩, fun q => absurd (nI_le' (Nat.le_refl 24) (by omega)) q⟩
  · intro j hj ih
    refine pD_sumF_1 ?_
    rw [cl_nI (by omega), nI_p1]
    refine ⟨fun q => absurd q (nI_nle' (a := 24) (by omega) (by omega)), fun _ => ⟨vp_in_nI hj (by decide), fun q => ?_, fun q => ⟨vp_in_nI hj (by decide), ?_⟩⟩⟩
    · rw [smO, if_neg q] at ih; exact ih
    · rw [smO, if_pos q] at ih; exact ih
theorem EV.valD {d : Nat} {σ : QS} {o : Int32} : EV (d + 1) 6 0 [some (.inr 47), some (.inl o)] [] σ (qis (smO (σ 48) (σ 50) o 24 - smO (σ 48) (σ 51) o 24) σ) := pD_valueOf_0 (ex_I EV.sumWD (ex_I EV.sumFD ⟨rfl, rfl⟩))
theorem EV.beginD {d : Nat} {σ : QS} : EV d 0 0 [some (.inr 47)] [] σ (qvs (q_set (q_set σ 48 (cpN (σ 2) (σ 48) 24)) 49 (cpN (σ 3) (σ 49) 24))) := by
  refine pD_begin_0 ⟨⟨by decide, by decide, by decide, by decide, by decide, fun z => absurd z (by decide)⟩, ⟨by decide, by decide, by decide, by decide, by decide, fun z => absurd z (by decide)⟩, rfl, ?_⟩
  rw [← va_cpN, ← va_cpN]
  rfl
theorem EV.sumWY {d : Nat} {σ : QS} {o : Int32} : EV d 7 0 [some (.inr 54), some (.inl o), some (.inr 57), none, none] [] σ (qis (smO (σ 55) (σ 57) o 24) σ) := by
  refine pY_sumW_0 ?_
  have key := up_loop (P := fun j => EV d 7 1 [some (.inr 54), some (.inl o), some (.inr 57), some (.inl (smO (σ 55) (σ 57) o j)), some (.inl (nI j))] [] σ (qis (smO (σ 55) (σ 57) o 24) σ)) (n := 24) ?_ ?_ 0 (by omega)
  · exact key
  · exact pY_sumW_1 ⟨fun _ => ⟨rfl, rfl⟩, fun q => absurd (nI_le' (Nat.le_refl 24) (by omega)) q⟩
  · intro j hj ih
    refine pY_sumW_1 ?_
    rw [cl_nI (by omega), nI_p1]
    refine ⟨fun q => absurd q (nI_nle' (a := 24) (by omega) (by omega)), fun _ => ⟨vp_in_nI hj (by decide), fun q => ?_, fun q => ⟨vp_in_nI hj (by decide), ?_⟩⟩⟩
    · rw [smO, if_neg q] at ih; exact ih
    · rw [smO, if_pos q] at ih; exact ih
theorem EV.sumFY {d : Nat} {σ : QS} {o : Int32} : EV d 7 0 [some (.inr 54), some (.inl o), some (.inr 58), none, none] [] σ (qis (smO (σ 55) (σ 58) o 24) σ) := by
  refine pY_sumF_0 ?_
  have key := up_loop (P := fun j => EV d 7 1 [some (.inr 54), some (.inl o), some (.inr 58), some (.inl (smO (σ 55) (σ 58) o j)), some (.inl (nI j))] [] σ (qis (smO (σ 55) (σ 58) o 24) σ)) (n := 24) ?_ ?_ 0 (by omega)
  · exact key
  · exact pY_sumF_1 ⟨fun _ => ⟨rfl, rfl⟩, fun q => absurd (nI_le' (Nat.le_refl 24) (by omega)) q⟩
  · intro j hj ih
    refine pY_sumF_1 ?_
    rw [cl_nI (by omega), nI_p1]
    refine ⟨fun q => absurd q (nI_nle' (a := 24) (by omega) (by omega)), fun _ => ⟨vp_in_nI hj (by decide), fun q => ?_, fun q => ⟨vp_in_nI hj (by decide), ?_⟩⟩⟩
    · rw [smO, if_neg q] at ih; exact ih
    · rw [smO, if_pos q] at ih; exact ih
theorem EV.valY {d : Nat} {σ : QS} {o : Int32} : EV (d + 1) 6 0 [some (.inr 54), some (.inl o)] [] σ (qis (smO (σ 55) (σ 57) o 24 - smO (σ 55) (σ 58) o 24) σ) := pY_valueOf_0 (ex_I EV.sumWY (ex_I EV.sumFY ⟨rfl, rfl⟩))
theorem EV.beginY {d : Nat} {σ : QS} : EV d 0 0 [some (.inr 54)] [] σ (qvs (q_set (q_set σ 55 (cpN (σ 2) (σ 55) 24)) 56 (cpN (σ 3) (σ 56) 24))) := by
  refine pY_begin_0 ⟨⟨by decide, by decide, by decide, by decide, by decide, fun z => absurd z (by decide)⟩, ⟨by decide, by decide, by decide, by decide, by decide, fun z => absurd z (by decide)⟩, rfl, ?_⟩
  rw [← va_cpN, ← va_cpN]
  rfl
theorem EV.like {d : Nat} {σ : QS} : EV d 1 0 [some (.inr 54), some (.inr 47)] [] σ (qvs (q_set (q_set (q_set (q_set σ 55 (cpN (σ 48) (σ 55) 24)) 56 (cpN (σ 49) (σ 56) 600)) 57 (cpN (σ 50) (σ 57) 24)) 58 (cpN (σ 51) (σ 58) 24))) := by
  refine pY_like_0 ⟨⟨by decide, by decide, by decide, by decide, by decide, fun z => absurd z (by decide)⟩, ⟨by decide, by decide, by decide, by decide, by decide, fun z => absurd z (by decide)⟩, ⟨by decide, by decide, by decide, by decide, by decide, fun z => absurd z (by decide)⟩, ⟨by decide, by decide, by decide, by decide, by decide, fun z => absurd z (by decide)⟩, rfl, ?_⟩
  rw [← va_cpN, ← va_cpN, ← va_cpN, ← va_cpN]
  rfl
/-- the DAY's cells are those of the DAY -/
def dyS (σ : QS) : Prop := (∀ h, h < 24 → σ 48 h = σ 2 h) ∧ Dy (σ 49) (σ 50) (σ 51) (cA σ 0) (cA σ 0) (σ 4) (σ 5) (σ 2) (σ 3) 24 ∧ Du (σ 52) (σ 53) (cA σ 0) (σ 4) (σ 5) (σ 2) (σ 3) 24
def DC (σ : QS) : Prop := σ 0 12 = 0 ∨ σ 0 12 = 1 ∧ dyS σ
/-- as it was, but for the DAY's cells -/
def Fy (σ s : QS) : Prop := ∀ c, c ≠ 0 → c ≠ 21 → c ≠ 30 → c ≠ 45 → c ≠ 46 → ¬ (48 ≤ c ∧ c ≤ 53) → s c = σ c
theorem Fy.L {σ s : QS} (h : Fy σ s) : FrL σ s := fun c hc => h c (by omega) (by omega) (by omega) (by omega) (by omega) (by omega)
theorem iA_cp {a n f g : Nat → Int32} (h : iA a n f) : iA a n (cpN f g 24) := ⟨fun k hk => by rw [cpN_lt hk]; exact h.1 k hk, h.2.1, h.2.2⟩
theorem EV.runDay {d : Nat} {σ : QS} (hL : LC σ 0) (hA : iA (σ 4) (σ 5) (σ 2)) (hC : DC σ) : EV (d + 6) 104 0 [some (.inr 0)] [] σ (qV (fun s => Fy σ s ∧ s 0 = upd (σ 0) 12 1 ∧ dyS s)) := by
  refine pX_runDay_0 ⟨fun q1 => ex_V EV.beginD ?_, fun q1 => ?_⟩
  · generalize hs : q_set (q_set σ 48 (cpN (σ 2) (σ 48) 24)) 49 (cpN (σ 3) (σ 49) 24) = s
    have fs : ∀ c, c ≠ 48 → c ≠ 49 → s c = σ c := fun c h1 h2 => by rw [← hs, q_set_ne _ _ h2, q_set_ne _ _ h1]
    have s48 : s 48 = cpN (σ 2) (σ 48) 24 := by rw [← hs, q_set_ne _ _ (by decide), q_set_eq]
    have s49 : s 49 = cpN (σ 3) (σ 49) 24 := by rw [← hs, q_set_eq]
    have hL1 : FrL σ s := fun c hc => fs c (by omega) (by omega)
    have e4 : s 4 = σ 4 := fs 4 (by decide) (by decide)
    have e5 : s 5 = σ 5 := fs 5 (by decide) (by decide)
    refine ⟨_, EV.runD0 (k := 0) (R := σ 3) (LC_fr hL1 hL) (LC_fr hL1 hL) (by rw [e4, e5, s48]; exact iA_cp hA) (by decide) ?_, ?_⟩
    · refine ⟨fun h hh i hi => ?_, fun h hh => absurd hh (by omega)⟩
      have : h = 0 := by omega
      subst this
      rw [s49, cpN_lt (by omega), dR]
      congr 1
      omega
    · rintro s5 ⟨g1, g2, g3⟩
      rw [e4, e5, s48, cA_fr hL1] at g2 g3
      have g3 := g3 (fun h hh => absurd hh (by omega))
      have hcg : ∀ k, k < 24 → cpN (σ 2) (σ 48) 24 k = σ 2 k ∧ ah (cpN (σ 2) (σ 48) 24) k = ah (σ 2) k := ah_cg (fun k hk => cpN_lt hk)
      have g2 := Dy_cg hcg g2
      have g3 := Du_cg hcg g3
      have fy : Fy σ (q_set s5 0 (upd (s5 0) 12 1)) := fun c h0 h1 h2 h3 h4 h5 => by
        rw [q_set_ne _ _ h0, g1 c h1 h2 h3 h4 (by omega), fs c (by omega) (by omega)]
      refine ⟨q_fit11, rfl, fy, ?_, ?_, ?_, ?_⟩
      · rw [q_set_eq, g1 0 (by decide) (by decide) (by decide) (by decide) (by decide), fs 0 (by decide) (by decide)]
      · intro h hh
        rw [fy 2 (by decide) (by decide) (by decide) (by decide) (by decide) (by decide), q_set_ne _ _ (by decide), g1 48 (by decide) (by decide) (by decide) (by decide) (by decide), s48, cpN_lt hh]
      · rw [fy 2 (by decide) (by decide) (by decide) (by decide) (by decide) (by decide), fy 3 (by decide) (by decide) (by decide) (by decide) (by decide) (by decide), fy 4 (by decide) (by decide) (by decide) (by decide) (by decide) (by decide), fy 5 (by decide) (by decide) (by decide) (by decide) (by decide) (by decide), cA_fr fy.L]
        exact g2
      · rw [fy 2 (by decide) (by decide) (by decide) (by decide) (by decide) (by decide), fy 3 (by decide) (by decide) (by decide) (by decide) (by decide) (by decide), fy 4 (by decide) (by decide) (by decide) (by decide) (by decide) (by decide), fy 5 (by decide) (by decide) (by decide) (by decide) (by decide) (by decide), cA_fr fy.L]
        exact g3
  · rcases hC with h | ⟨h1, h2⟩
    · exact absurd h q1
    · exact ⟨rfl, fun _ _ _ _ _ _ _ => rfl, (upd_id h1).symm, h2⟩
