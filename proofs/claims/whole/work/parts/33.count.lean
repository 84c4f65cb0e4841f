theorem nI_m10 {n : Int32} (h0 : ¬ n < 10) (h1 : ¬ 22 ≤ n) : ∃ j, j < 12 ∧ n - 10 = nI j := by
  have g0 : ¬ n < 0 := by
    intro q; apply h0
    rw [i_lt] at q ⊢
    rw [show (0 : Int32).toInt = 0 from by decide] at q
    rw [show (10 : Int32).toInt = 10 from by decide]
    omega
  obtain ⟨j, hj, rfl⟩ := ix_of (n := 22) rfl (by decide) g0 h1
  have h10 : 10 ≤ j := by
    rcases Nat.lt_or_ge j 10 with z | z
    · exact absurd ((nI_ltI (b := 10) (by omega) (by decide)).mpr z) h0
    · exact z
  exact ⟨j - 10, by omega, pk_sub (b := 10) h10⟩
theorem nI_m30 {n : Int32} (h0 : ¬ n < 30) (h1 : ¬ 54 ≤ n) : ∃ j, j < 24 ∧ n - 30 = nI j := by
  have g0 : ¬ n < 0 := by
    intro q; apply h0
    rw [i_lt] at q ⊢
    rw [show (0 : Int32).toInt = 0 from by decide] at q
    rw [show (30 : Int32).toInt = 30 from by decide]
    omega
  obtain ⟨j, hj, rfl⟩ := ix_of (n := 54) rfl (by decide) g0 h1
  have h30 : 30 ≤ j := by
    rcases Nat.lt_or_ge j 30 with z | z
    · exact absurd ((nI_ltI (b := 30) (by omega) (by decide)).mpr z) h0
    · exact z
  exact ⟨j - 30, by omega, pk_sub (b := 30) h30⟩
theorem i_21 (n : Int32) : 22 ≤ n ↔ 21 < n := by
  rw [i_le, i_lt, show (22 : Int32).toInt = 22 from by decide, show (21 : Int32).toInt = 21 from by decide]
  omega
theorem i_53 (n : Int32) : 54 ≤ n ↔ 53 < n := by
  rw [i_le, i_lt, show (54 : Int32).toInt = 54 from by decide, show (53 : Int32).toInt = 53 from by decide]
  omega
theorem sim_count (σ : QS) (n : Int32) (hI : IB σ) (hc0 : σ 88 0 = σ 13 0) (hc1 : σ 88 1 = σ 22 0) : Sim 101 198 [some (.inr 0), some (.inl n)] [some (.inr 69), some (.inl n)] σ := by
  have no : ∀ r s, qis r s (some r) s := fun r s => ⟨rfl, rfl⟩
  have hI' := hI
  obtain ⟨a1, a2, a3, a4, a5, a6, a7, a8⟩ := hI'
  by_cases h0 : n = Int32.ofInt 0
  · subst h0
    refine Sim.no (σ 13 0) hI (pX_count0_0 ?_) (pM_count_0 ⟨fun _ => ⟨vp_in_nI (n := 0) (by decide) (by decide), ?_⟩, fun q => absurd rfl q⟩)
    · exact no _ _
    · exact ⟨congrArg some hc0, rfl⟩
  by_cases h1 : n = Int32.ofInt 1
  · subst h1
    refine Sim.no (σ 22 0) hI (pX_count1_0 ?_) (pM_count_0 ⟨fun q => absurd q h0, fun _ => ⟨fun _ => ⟨vp_in_nI (n := 1) (by decide) (by decide), ?_⟩, fun q => absurd rfl q⟩⟩)
    · exact no _ _
    · exact ⟨congrArg some hc1, rfl⟩
  by_cases h2 : n = Int32.ofInt 2
  · subst h2
    exact Sim.no (σ 11 1) hI (pX_count_0 (by simp [qis])) (pM_count_0 (by simp [qis, a6.1]))
  by_cases h3 : n = Int32.ofInt 3
  · subst h3
    exact Sim.no (σ 1 4) hI (pX_count_0 (by simp [qis])) (pM_count_0 (by simp [qis, a4.1]))
  by_cases h4 : n = Int32.ofInt 4
  · have d1 : n < 10 := by rw [h4]; decide
    have d2 : n < 30 := by rw [h4]; decide
    refine Sim.no (nI (own24 (σ 2))) hI (pX_count_0 ⟨fun _ => ⟨fun _ => ⟨fun q => absurd q h0, fun _ => ⟨fun q => absurd q h1, fun _ => ⟨fun q => absurd q h2, fun _ => ⟨fun q => absurd q h3, fun _ => ⟨fun _ => ex_I EV.ownedX (no _ _), fun q => absurd h4 q⟩⟩⟩⟩⟩, fun q => absurd d2 q⟩, fun q => absurd d1 q⟩) (pM_count_0 ⟨fun q => absurd q h0, fun _ => ⟨fun q => absurd q h1, fun _ => ⟨fun q => absurd q h2, fun _ => ⟨fun q => absurd q h3, fun _ => ⟨fun _ => ex_I EV.ownedM ⟨?_, rfl⟩, fun q => absurd h4 q⟩⟩⟩⟩⟩)
    rw [a1.1]
  have lt1 : n < 10 → n < 30 := by
    intro q
    rw [i_lt] at q ⊢
    rw [show (10 : Int32).toInt = 10 from by decide] at q
    rw [show (30 : Int32).toInt = 30 from by decide]
    omega
  have lt2 : ¬ 22 ≤ n → n < 30 := by
    intro q
    rw [i_le] at q
    rw [i_lt]
    rw [show (22 : Int32).toInt = 22 from by decide] at q
    rw [show (30 : Int32).toInt = 30 from by decide]
    omega
  by_cases g0 : n < 10
  · exact Sim.no (-1) hI (pX_count_0 ⟨fun _ => ⟨fun _ => ⟨fun q => absurd q h0, fun _ => ⟨fun q => absurd q h1, fun _ => ⟨fun q => absurd q h2, fun _ => ⟨fun q => absurd q h3, fun _ => ⟨fun q => absurd q h4, fun _ => no _ _⟩⟩⟩⟩⟩, fun q => absurd (lt1 g0) q⟩, fun q => absurd g0 q⟩) (pM_count_0 ⟨fun q => absurd q h0, fun _ => ⟨fun q => absurd q h1, fun _ => ⟨fun q => absurd q h2, fun _ => ⟨fun q => absurd q h3, fun _ => ⟨fun q => absurd q h4, fun _ => ⟨fun _ => ⟨fun _ => no _ _, fun q => absurd (lt1 g0) q⟩, fun q => absurd g0 q⟩⟩⟩⟩⟩⟩)
  by_cases g1 : 22 ≤ n
  · have g1' := (i_21 n).mp g1
    by_cases g2 : n < 30
    · exact Sim.no (-1) hI (pX_count_0 ⟨fun q => absurd q g0, fun _ => ⟨fun _ => ⟨fun _ => ⟨fun q => absurd q h0, fun _ => ⟨fun q => absurd q h1, fun _ => ⟨fun q => absurd q h2, fun _ => ⟨fun q => absurd q h3, fun _ => ⟨fun q => absurd q h4, fun _ => no _ _⟩⟩⟩⟩⟩, fun q => absurd g2 q⟩, fun q => absurd g1 q⟩⟩) (pM_count_0 ⟨fun q => absurd q h0, fun _ => ⟨fun q => absurd q h1, fun _ => ⟨fun q => absurd q h2, fun _ => ⟨fun q => absurd q h3, fun _ => ⟨fun q => absurd q h4, fun _ => ⟨fun q => absurd q g0, fun _ => ⟨fun _ => ⟨fun _ => no _ _, fun q => absurd g2 q⟩, fun q => absurd g1' q⟩⟩⟩⟩⟩⟩⟩)
    · by_cases g3 : 54 ≤ n
      · have g3' := (i_53 n).mp g3
        exact Sim.no (-1) hI (pX_count_0 ⟨fun q => absurd q g0, fun _ => ⟨fun _ => ⟨fun q => absurd q g2, fun _ => ⟨fun _ => ⟨fun q => absurd q h0, fun _ => ⟨fun q => absurd q h1, fun _ => ⟨fun q => absurd q h2, fun _ => ⟨fun q => absurd q h3, fun _ => ⟨fun q => absurd q h4, fun _ => no _ _⟩⟩⟩⟩⟩, fun q => absurd g3 q⟩⟩, fun q => absurd g1 q⟩⟩) (pM_count_0 ⟨fun q => absurd q h0, fun _ => ⟨fun q => absurd q h1, fun _ => ⟨fun q => absurd q h2, fun _ => ⟨fun q => absurd q h3, fun _ => ⟨fun q => absurd q h4, fun _ => ⟨fun q => absurd q g0, fun _ => ⟨fun _ => ⟨fun q => absurd q g2, fun _ => ⟨fun _ => no _ _, fun q => absurd g3' q⟩⟩, fun q => absurd g1' q⟩⟩⟩⟩⟩⟩⟩)
      · have g3' : ¬ 53 < n := fun q => g3 ((i_53 n).mpr q)
        obtain ⟨j, hj, e⟩ := nI_m30 g2 g3
        have ii : vp_in (n - 30) 24 := by rw [e]; exact vp_in_nI hj (by decide)
        refine Sim.no (σ 43 (n - 30).toNatClampNeg) hI (pX_count_0 ⟨fun q => absurd q g0, fun _ => ⟨fun _ => ⟨fun q => absurd q g2, fun _ => ⟨fun q => absurd q g3, fun _ => ⟨ii, no _ _⟩⟩⟩, fun q => absurd g1 q⟩⟩) (pM_count_0 ⟨fun q => absurd q h0, fun _ => ⟨fun q => absurd q h1, fun _ => ⟨fun q => absurd q h2, fun _ => ⟨fun q => absurd q h3, fun _ => ⟨fun q => absurd q h4, fun _ => ⟨fun q => absurd q g0, fun _ => ⟨fun _ => ⟨fun q => absurd q g2, fun _ => ⟨fun q => absurd q g3', fun _ => ⟨ii, ?_, rfl⟩⟩⟩, fun q => absurd g1' q⟩⟩⟩⟩⟩⟩⟩)
        rw [a8.1]
  · have g1' : ¬ 21 < n := fun q => g1 ((i_21 n).mpr q)
    obtain ⟨j, hj, e⟩ := nI_m10 g0 g1
    have ii : vp_in (n - 10) 12 := by rw [e]; exact vp_in_nI hj (by decide)
    refine Sim.no (σ 5 (n - 10).toNatClampNeg) hI (pX_count_0 ⟨fun q => absurd q g0, fun _ => ⟨fun q => absurd q g1, fun _ => ⟨ii, no _ _⟩⟩⟩) (pM_count_0 ⟨fun q => absurd q h0, fun _ => ⟨fun q => absurd q h1, fun _ => ⟨fun q => absurd q h2, fun _ => ⟨fun q => absurd q h3, fun _ => ⟨fun q => absurd q h4, fun _ => ⟨fun q => absurd q g0, fun _ => ⟨fun q => absurd q g1', fun _ => ⟨ii, ?_, rfl⟩⟩⟩⟩⟩⟩⟩⟩)
    rw [a3.1]
