def tch (f : Nat → Int32) (a b : Int32) (h : Nat) : Bool := decide (f h = a ∧ f ((h + 1) % 24) = b ∨ f h = b ∧ f ((h + 1) % 24) = a)
theorem nI_rem {a : Nat} (d : Nat) (ha : a < 2 ^ 31) (h0 : 0 < d) (hd : d < 2 ^ 31) : nI a - nI a / nI d * nI d = nI (a % d) := pk_rem ha h0 hd
theorem EV.touchX {d : Nat} {σ : QS} {a b : Int32} : EV (d + 1) 88 7 [some (.inr 0), some (.inl a), some (.inl b), some (.inl 0), some (.inl 0), none, none] [] σ (qis (nI (ct (tch (σ 2) a b) 0 24)) σ) := by
  have key := up_loop (P := fun j => ∀ w5 w6, EV (d + 1) 88 7 [some (.inr 0), some (.inl a), some (.inl b), some (.inl (nI (ct (tch (σ 2) a b) 0 j))), some (.inl (nI j)), w5, w6] [] σ (qis (nI (ct (tch (σ 2) a b) 0 24)) σ)) (n := 24) ?_ ?_ 0 (by omega)
  · exact key none none
  · intro w5 w6
    exact pX_touching_7 ⟨fun _ => ⟨rfl, rfl⟩, fun q => absurd (nI_le' (Nat.le_refl 24) (by omega)) q⟩
  · intro j hj ih w5 w6
    have i0 : vp_in (nI j) 24 := vp_in_nI hj (by decide)
    have c0 : (nI j).toNatClampNeg = j := cl_nI (by omega)
    have er : nI (j + 1) - nI (j + 1) / 24 * 24 = nI ((j + 1) % 24) := nI_rem 24 (by omega) (by decide) (by decide)
    have i1 : vp_in (nI ((j + 1) % 24)) 24 := vp_in_nI (by omega) (by decide)
    have c1 : (nI ((j + 1) % 24)).toNatClampNeg = (j + 1) % 24 := cl_nI (by omega)
    have k1 : tch (σ 2) a b j = true → ∀ w5 w6, EV (d + 1) 88 7 [some (.inr 0), some (.inl a), some (.inl b), some (.inl (nI (ct (tch (σ 2) a b) 0 j + 1))), some (.inl (nI (j + 1))), w5, w6] [] σ (qis (nI (ct (tch (σ 2) a b) 0 24)) σ) := by
      intro e w5 w6
      have := ih w5 w6
      rw [show ct (tch (σ 2) a b) 0 (j + 1) = ct (tch (σ 2) a b) 0 j + 1 by simp [ct, e]] at this
      exact this
    have k0 : tch (σ 2) a b j = false → ∀ w5 w6, EV (d + 1) 88 7 [some (.inr 0), some (.inl a), some (.inl b), some (.inl (nI (ct (tch (σ 2) a b) 0 j))), some (.inl (nI (j + 1))), w5, w6] [] σ (qis (nI (ct (tch (σ 2) a b) 0 24)) σ) := by
      intro e w5 w6
      have := ih w5 w6
      rw [show ct (tch (σ 2) a b) 0 (j + 1) = ct (tch (σ 2) a b) 0 j by simp [ct, e]] at this
      exact this
    refine pX_touching_7 ?_
    simp only [nI_p1, er, c0, c1]
    refine ⟨fun q1 => ?_, fun q1 => ⟨?_, ⟨?_, ⟨?_, ⟨fun q2 => ⟨fun q3 => ?_, fun q3 => ⟨fun q4 => ?_, fun q4 => ?_⟩⟩, fun q2 => ⟨fun q5 => ?_, fun q5 => ⟨fun q6 => ?_, fun q6 => ⟨fun q7 => ?_, fun q7 => ?_⟩⟩⟩⟩⟩⟩⟩⟩
    · exact absurd q1 (nI_nle' (a := 24) (by omega) (by omega))
    · exact i0
    · decide
    · exact i1
    all_goals first | exact k1 (decide_eq_true (by grind)) _ _ | exact k0 (decide_eq_false (by grind)) _ _
theorem EV.touchM {d : Nat} {σ : QS} {a b : Int32} : EV (d + 1) 176 7 [some (.inr 69), some (.inl a), some (.inl b), some (.inl 0), some (.inl 0), none] [] σ (qis (nI (ct (tch (σ 70) a b) 0 24)) σ) := by
  have key := up_loop (P := fun j => ∀ w5, EV (d + 1) 176 7 [some (.inr 69), some (.inl a), some (.inl b), some (.inl (nI (ct (tch (σ 70) a b) 0 j))), some (.inl (nI j)), w5] [] σ (qis (nI (ct (tch (σ 70) a b) 0 24)) σ)) (n := 24) ?_ ?_ 0 (by omega)
  · exact key none
  · intro w5
    exact pM_touching_7 ⟨fun _ => ⟨rfl, rfl⟩, fun q => absurd (nI_le' (Nat.le_refl 24) (by omega)) q⟩
  · intro j hj ih w5
    have i0 : vp_in (nI j) 24 := vp_in_nI hj (by decide)
    have c0 : (nI j).toNatClampNeg = j := cl_nI (by omega)
    have k1 : tch (σ 70) a b j = true → ∀ w5, EV (d + 1) 176 7 [some (.inr 69), some (.inl a), some (.inl b), some (.inl (nI (ct (tch (σ 70) a b) 0 j + 1))), some (.inl (nI (j + 1))), w5] [] σ (qis (nI (ct (tch (σ 70) a b) 0 24)) σ) := by
      intro e w5
      have := ih w5
      rw [show ct (tch (σ 70) a b) 0 (j + 1) = ct (tch (σ 70) a b) 0 j + 1 by simp [ct, e]] at this
      exact this
    have k0 : tch (σ 70) a b j = false → ∀ w5, EV (d + 1) 176 7 [some (.inr 69), some (.inl a), some (.inl b), some (.inl (nI (ct (tch (σ 70) a b) 0 j))), some (.inl (nI (j + 1))), w5] [] σ (qis (nI (ct (tch (σ 70) a b) 0 24)) σ) := by
      intro e w5
      have := ih w5
      rw [show ct (tch (σ 70) a b) 0 (j + 1) = ct (tch (σ 70) a b) 0 j by simp [ct, e]] at this
      exact this
    have z0 : (0 : Int32).toNatClampNeg = 0 := rfl
    have zi : vp_in 0 24 := vp_in_nI (n := 0) (by decide) (by decide)
    refine pM_touching_7 ?_
    by_cases h23 : j = 23
    · subst h23
      have t0 : (23 + 1) % 24 = 0 := rfl
      have e23 : nI 23 = (23 : Int32) := rfl
      simp only [nI_p1, nI_p0, c0, z0]
      refine ⟨fun q => absurd q (nI_nle' (a := 24) (by omega) (by omega)), fun _ => ⟨fun q => absurd e23 q, fun _ => ?_⟩⟩
      refine ⟨?_, ⟨fun q9 => ⟨?_, ⟨fun q10 => ?_, fun q10 => ⟨?_, ⟨fun q11 => ?_, fun q11 => ?_⟩⟩⟩⟩, fun q9 => ⟨?_, ⟨fun q12 => ?_, fun q12 => ⟨?_, ⟨fun q13 => ?_, fun q13 => ⟨?_, ⟨fun q14 => ?_, fun q14 => ?_⟩⟩⟩⟩⟩⟩⟩⟩
      all_goals first | exact i0 | exact zi | exact k1 (decide_eq_true (by grind)) _ | exact k0 (decide_eq_false (by grind)) _
    · have h23' : ¬ nI j = 23 := fun e => h23 ((nI_eq (b := 23) (by omega) (by decide)).mp e)
      have t0 : (j + 1) % 24 = j + 1 := by omega
      have i1 : vp_in (nI (j + 1)) 24 := vp_in_nI (by omega) (by decide)
      have c1 : (nI (j + 1)).toNatClampNeg = j + 1 := cl_nI (by omega)
      simp only [nI_p1, nI_p0, c0, c1]
      refine ⟨fun q => absurd q (nI_nle' (a := 24) (by omega) (by omega)), fun _ => ⟨fun _ => ?_, fun q => absurd q h23'⟩⟩
      refine ⟨?_, ⟨fun q3 => ⟨?_, ⟨fun q4 => ?_, fun q4 => ⟨?_, ⟨fun q5 => ?_, fun q5 => ?_⟩⟩⟩⟩, fun q3 => ⟨?_, ⟨fun q6 => ?_, fun q6 => ⟨?_, ⟨fun q7 => ?_, fun q7 => ⟨?_, ⟨fun q8 => ?_, fun q8 => ?_⟩⟩⟩⟩⟩⟩⟩⟩
      all_goals first | exact i0 | exact i1 | exact k1 (decide_eq_true (by grind)) _ | exact k0 (decide_eq_false (by grind)) _
theorem sim_touching (σ : QS) (a b : Int32) (hI : IB σ) : Sim 88 176 [some (.inr 0), some (.inl a), some (.inl b), none, none, none, none] [some (.inr 69), some (.inl a), some (.inl b), none, none, none] σ := by
  by_cases h0 : a < 0
  · exact Sim.no (-1) hI (pX_touching_0 (by simp [h0, qis])) (pM_touching_0 (by simp [h0, qis]))
  by_cases h1 : 12 ≤ a
  · exact Sim.no (-1) hI (pX_touching_0 (by simp [h0, h1, qis])) (pM_touching_0 (by simp [h0, h1, qis]))
  by_cases h2 : b < 0
  · exact Sim.no (-1) hI (pX_touching_0 (by simp [h0, h1, h2, qis])) (pM_touching_0 (by simp [h0, h1, h2, qis]))
  by_cases h3 : 12 ≤ b
  · exact Sim.no (-1) hI (pX_touching_0 (by simp [h0, h1, h2, h3, qis])) (pM_touching_0 (by simp [h0, h1, h2, h3, qis]))
  by_cases h4 : a = b
  · exact Sim.no (-1) hI (pX_touching_0 (by simp [h0, h1, h2, h3, h4, qis])) (pM_touching_0 (by simp [h0, h1, h2, h3, h4, qis]))
  obtain ⟨a1, a2, a3, a4, a5, a6, a7, a8⟩ := hI
  refine Sim.mk2 (nI (ct (tch (σ 2) a b) 0 24)) (pX_touching_0 (by simp only [h0, h1, h2, h3, h4, not_true_eq_false, not_false_eq_true, true_and, and_self, forall_const, false_implies, true_implies, and_true, qis, q_fit10, q_fit11]; exact EV.touchX)) FrM.rf (fun τ hτ => pM_touching_0 (by simp only [h0, h1, h2, h3, h4, not_true_eq_false, not_false_eq_true, true_and, and_self, forall_const, false_implies, true_implies, and_true, qis, q_fit10, q_fit11]; rw [show σ 2 = τ 70 by rw [hτ 70 (by decide), a1.1]]; exact EV.touchM)) ⟨a1, a2, a3, a4, a5, a6, a7, a8⟩ FrL.rf FrD.rf

