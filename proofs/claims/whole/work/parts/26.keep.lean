theorem cpN_cg {f f' g g' : Nat → Int32} {n : Nat} (h : ∀ k, k < n → f k = f' k) (h2 : ∀ k, n ≤ k → g k = g' k) : cpN f g n = cpN f' g' n := by
  funext k
  simp only [cpN]
  by_cases e : k < n
  · rw [if_pos e, if_pos e, h k e]
  · rw [if_neg e, if_neg e, h2 k (by omega)]
theorem iOw_cp {f f' g g' : Nat → Int32} (h : iOw f f') (h2 : ∀ k, 24 ≤ k → g' k = g k) : iOw (cpN f g 24) (cpN f' g' 24) :=
  ⟨cpN_cg (fun k _ => by rw [h.1]) h2, fun k hk => by rw [cpN_lt hk]; exact h.2 k hk⟩
theorem iRm_cp {f s d t f0 s0 d0 t0 : Nat → Int32} (h : iRm f s d t) : iRm (cpN f f0 24) (cpN s s0 8) (cpN d d0 8) (cpN t t0 8) := fun r hr => by
  rw [cpN_lt hr, cpN_lt hr, cpN_lt hr, cpN_lt (by omega), cpN_lt (by omega), cpN_lt (by omega)]
  exact h r hr
theorem iAc_cp {n n' a k r m n0 n0' a0 k0 r0 m0 : Nat → Int32} (h : iAc n n' a k r m) (h2 : ∀ k, 12 ≤ k → n0' k = n0 k) : iAc (cpN n n0 12) (cpN n' n0' 12) (cpN a a0 180) (cpN k k0 60) (cpN r r0 60) (cpN m m0 60) := by
  refine ⟨cpN_cg (fun k _ => by rw [h.1]) h2, fun o ho => by rw [cpN_lt ho]; exact h.2.1 o ho, fun i hi => ?_⟩
  rw [cpN_lt hi, cpN_lt hi, cpN_lt hi, cpN_lt (by omega), cpN_lt (by omega), cpN_lt (by omega)]
  exact h.2.2 i hi
theorem sim_keep (σ : QS) (hI : IB σ) : Sim 98 194 [some (.inr 0)] [some (.inr 69)] σ := by
  obtain ⟨a1, a2, a3, a4, a5, a6, a7, a8⟩ := hI
  obtain ⟨b1, b2, b3, b4, b5⟩ := a5
  refine Sim.mk2 (nI (own24 (σ 2))) (pX_keep_0 (ex_V EV.takeK ⟨q_fit11, ex_I EV.ownedX ⟨rfl, rfl⟩⟩)) ?_ (fun τ hτ => pM_keep_0 ⟨q_fit11, ex_V EV.cp_ownerOf (ex_V EV.cp_storeOf (ex_V EV.cp_dirtOf (ex_V EV.cp_heatOf (ex_V EV.cp_actMany (ex_V EV.cp_actKind (ex_V EV.cp_actRoom (ex_V EV.cp_actAmount (ex_I EV.ownedM ⟨?_, rfl⟩))))))))⟩) ?_ ?_ ?_
  · repeat (refine FrM.set (by decide) ?_)
    exact FrM.rf
  · show some (nI (own24 (τ 70))) = some (nI (own24 (σ 2)))
    rw [hτ 70 (by decide), a1.1]
  · refine ⟨a1, a2, a3, a4, ⟨rfl, Or.inr rfl, ?_, ?_, fun _ => ⟨iOw_cp a1 b3, iRm_cp a2, iAc_cp a3 b4, a4⟩⟩, a6, a7, a8⟩
    · intro k hk
      show cpN (σ 70) (σ 110) 24 k = cpN (σ 2) (σ 7) 24 k
      rw [cpN_ge hk, cpN_ge hk]; exact b3 k hk
    · intro k hk
      show cpN (σ 75) (σ 114) 12 k = cpN (σ 5) (σ 10) 12 k
      rw [cpN_ge hk, cpN_ge hk]; exact b4 k hk
  · repeat (refine FrL.set (by decide) ?_)
    exact FrL.rf
  · refine Or.inr ⟨rfl, fun c hc => ?_⟩
    simp only [q_set]
    repeat rw [if_neg (by omega)]
theorem sim_undo (σ : QS) (hI : IB σ) : Sim 99 195 [some (.inr 0)] [some (.inr 69)] σ := by
  have hI' := hI
  obtain ⟨a1, a2, a3, a4, a5, a6, a7, a8⟩ := hI'
  obtain ⟨b1, b2, b3, b4, b5⟩ := a5
  rcases b2 with h0 | h1
  · refine Sim.no 0 hI (pX_undo_0 ?_) (pM_undo_0 ?_)
    · exact ⟨fun q => absurd h0 q, fun _ => ⟨rfl, rfl⟩⟩
    · exact ⟨fun q => absurd (b1.trans h0) q, fun _ => ⟨rfl, rfl⟩⟩
  · obtain ⟨k1, k2, k3, k4⟩ := b5 h1
    have n1 : ¬ σ 0 2 = 0 := by rw [h1]; decide
    refine Sim.mk2 1 (pX_undo_0 ⟨fun _ => ex_V EV.takeH ⟨q_fit10, q_fit10, rfl, rfl⟩, fun q => absurd q n1⟩) ?_ (fun τ hτ => pM_undo_0 ⟨fun _ => ex_V EV.cp_keptOwner (ex_V EV.cp_keptStore (ex_V EV.cp_keptDirt (ex_V EV.cp_keptHeat (ex_V EV.cp_keptMany (ex_V EV.cp_keptKind (ex_V EV.cp_keptRoom (ex_V EV.cp_keptAmount ⟨rfl, rfl⟩))))))), fun q => absurd (by rw [hτ 69 (by decide)] at q; exact b1.symm.trans q) n1⟩) ?_ ?_ ?_
    · repeat (refine FrM.set (by decide) ?_)
      exact FrM.rf
    · refine ⟨iOw_cp k1 (fun k _ => congrFun a1.1 k), iRm_cp k2, iAc_cp k3 (fun k _ => congrFun a3.1 k), k4, ⟨b1, Or.inr h1, b3, b4, fun _ => ⟨k1, k2, k3, k4⟩⟩, a6, a7, a8⟩
    · repeat (refine FrL.set (by decide) ?_)
      exact FrL.rf
    · exact Or.inl ⟨rfl, rfl⟩
