def cpN (f g : Nat → Int32) (n : Nat) : Nat → Int32 := fun k => if k < n then f k else g k
theorem cpN_0 (f g : Nat → Int32) : cpN f g 0 = g := by funext k; simp [cpN]
theorem cpN_s (f g : Nat → Int32) (n : Nat) : upd (cpN f g n) n (f n) = cpN f g (n + 1) := by
  funext k
  simp only [upd, cpN]
  by_cases e : k = n
  · subst e; simp
  · rw [if_neg e]
    by_cases h : k < n
    · rw [if_pos h, if_pos (by omega)]
    · rw [if_neg h, if_neg (by omega)]
theorem va_cpN (f g : Nat → Int32) (n : Nat) : va_cpy f g 0 0 n = cpN f g n := by
  funext k
  simp [va_cpy, cpN]
theorem cpN_lt {f g : Nat → Int32} {n k : Nat} (h : k < n) : cpN f g n k = f k := by simp [cpN, h]
theorem cpN_ge {f g : Nat → Int32} {n k : Nat} (h : n ≤ k) : cpN f g n k = g k := by simp [cpN]; omega
theorem EV.cp_ownerOf {d : Nat} {σ : QS} : EV d 193 0 [some (.inr 70), some (.inr 110), some (.inl 24), none] [] σ (qvs (q_set σ 110 (cpN (σ 70) (σ 110) 24))) := by
  refine pM_cp_ownerOf_0 ?_
  have key := up_loop (P := fun j => EV d 193 1 [some (.inr 70), some (.inr 110), some (.inl 24), some (.inl (nI j))] [] (q_set σ 110 (cpN (σ 70) (σ 110) j)) (qvs (q_set σ 110 (cpN (σ 70) (σ 110) 24)))) (n := 24) ?_ ?_ 0 (by omega)
  · rw [cpN_0, q_set_id] at key
    exact key
  · exact pM_cp_ownerOf_1 ⟨fun _ => ⟨rfl, rfl⟩, fun q => absurd (nI_le' (Nat.le_refl 24) (by omega)) q⟩
  · intro j hj ih
    refine pM_cp_ownerOf_1 ⟨fun q => absurd q (nI_nle' (a := 24) (by omega) (by omega)), fun _ => ⟨vp_in_nI (by omega) (by decide), vp_in_nI (by omega) (by decide), ?_⟩⟩
    rw [cl_nI (by omega), nI_p1, q_set_same, q_set_eq, q_set_ne _ _ (by decide), cpN_s]
    exact ih
theorem EV.cp_keptOwner {d : Nat} {σ : QS} : EV d 193 0 [some (.inr 110), some (.inr 70), some (.inl 24), none] [] σ (qvs (q_set σ 70 (cpN (σ 110) (σ 70) 24))) := by
  refine pM_cp_keptOwner_0 ?_
  have key := up_loop (P := fun j => EV d 193 1 [some (.inr 110), some (.inr 70), some (.inl 24), some (.inl (nI j))] [] (q_set σ 70 (cpN (σ 110) (σ 70) j)) (qvs (q_set σ 70 (cpN (σ 110) (σ 70) 24)))) (n := 24) ?_ ?_ 0 (by omega)
  · rw [cpN_0, q_set_id] at key
    exact key
  · exact pM_cp_keptOwner_1 ⟨fun _ => ⟨rfl, rfl⟩, fun q => absurd (nI_le' (Nat.le_refl 24) (by omega)) q⟩
  · intro j hj ih
    refine pM_cp_keptOwner_1 ⟨fun q => absurd q (nI_nle' (a := 24) (by omega) (by omega)), fun _ => ⟨vp_in_nI (by omega) (by decide), vp_in_nI (by omega) (by decide), ?_⟩⟩
    rw [cl_nI (by omega), nI_p1, q_set_same, q_set_eq, q_set_ne _ _ (by decide), cpN_s]
    exact ih
theorem EV.cp_storeOf {d : Nat} {σ : QS} : EV d 193 0 [some (.inr 72), some (.inr 111), some (.inl 8), none] [] σ (qvs (q_set σ 111 (cpN (σ 72) (σ 111) 8))) := by
  refine pM_cp_storeOf_0 ?_
  have key := up_loop (P := fun j => EV d 193 1 [some (.inr 72), some (.inr 111), some (.inl 8), some (.inl (nI j))] [] (q_set σ 111 (cpN (σ 72) (σ 111) j)) (qvs (q_set σ 111 (cpN (σ 72) (σ 111) 8)))) (n := 8) ?_ ?_ 0 (by omega)
  · rw [cpN_0, q_set_id] at key
    exact key
  · exact pM_cp_storeOf_1 ⟨fun _ => ⟨rfl, rfl⟩, fun q => absurd (nI_le' (Nat.le_refl 8) (by omega)) q⟩
  · intro j hj ih
    refine pM_cp_storeOf_1 ⟨fun q => absurd q (nI_nle' (a := 8) (by omega) (by omega)), fun _ => ⟨vp_in_nI (by omega) (by decide), vp_in_nI (by omega) (by decide), ?_⟩⟩
    rw [cl_nI (by omega), nI_p1, q_set_same, q_set_eq, q_set_ne _ _ (by decide), cpN_s]
    exact ih
theorem EV.cp_keptStore {d : Nat} {σ : QS} : EV d 193 0 [some (.inr 111), some (.inr 72), some (.inl 8), none] [] σ (qvs (q_set σ 72 (cpN (σ 111) (σ 72) 8))) := by
  refine pM_cp_keptStore_0 ?_
  have key := up_loop (P := fun j => EV d 193 1 [some (.inr 111), some (.inr 72), some (.inl 8), some (.inl (nI j))] [] (q_set σ 72 (cpN (σ 111) (σ 72) j)) (qvs (q_set σ 72 (cpN (σ 111) (σ 72) 8)))) (n := 8) ?_ ?_ 0 (by omega)
  · rw [cpN_0, q_set_id] at key
    exact key
  · exact pM_cp_keptStore_1 ⟨fun _ => ⟨rfl, rfl⟩, fun q => absurd (nI_le' (Nat.le_refl 8) (by omega)) q⟩
  · intro j hj ih
    refine pM_cp_keptStore_1 ⟨fun q => absurd q (nI_nle' (a := 8) (by omega) (by omega)), fun _ => ⟨vp_in_nI (by omega) (by decide), vp_in_nI (by omega) (by decide), ?_⟩⟩
    rw [cl_nI (by omega), nI_p1, q_set_same, q_set_eq, q_set_ne _ _ (by decide), cpN_s]
    exact ih
theorem EV.cp_dirtOf {d : Nat} {σ : QS} : EV d 193 0 [some (.inr 73), some (.inr 112), some (.inl 8), none] [] σ (qvs (q_set σ 112 (cpN (σ 73) (σ 112) 8))) := by
  refine pM_cp_dirtOf_0 ?_
  have key := up_loop (P := fun j => EV d 193 1 [some (.inr 73), some (.inr 112), some (.inl 8), some (.inl (nI j))] [] (q_set σ 112 (cpN (σ 73) (σ 112) j)) (qvs (q_set σ 112 (cpN (σ 73) (σ 112) 8)))) (n := 8) ?_ ?_ 0 (by omega)
  · rw [cpN_0, q_set_id] at key
    exact key
  · exact pM_cp_dirtOf_1 ⟨fun _ => ⟨rfl, rfl⟩, fun q => absurd (nI_le' (Nat.le_refl 8) (by omega)) q⟩
  · intro j hj ih
    refine pM_cp_dirtOf_1 ⟨fun q => absurd q (nI_nle' (a := 8) (by omega) (by omega)), fun _ => ⟨vp_in_nI (by omega) (by decide), vp_in_nI (by omega) (by decide), ?_⟩⟩
    rw [cl_nI (by omega), nI_p1, q_set_same, q_set_eq, q_set_ne _ _ (by decide), cpN_s]
    exact ih
theorem EV.cp_keptDirt {d : Nat} {σ : QS} : EV d 193 0 [some (.inr 112), some (.inr 73), some (.inl 8), none] [] σ (qvs (q_set σ 73 (cpN (σ 112) (σ 73) 8))) := by
  refine pM_cp_keptDirt_0 ?_
  have key := up_loop (P := fun j => EV d 193 1 [some (.inr 112), some (.inr 73), some (.inl 8), some (.inl (nI j))] [] (q_set σ 73 (cpN (σ 112) (σ 73) j)) (qvs (q_set σ 73 (cpN (σ 112) (σ 73) 8)))) (n := 8) ?_ ?_ 0 (by omega)
  · rw [cpN_0, q_set_id] at key
    exact key
  · exact pM_cp_keptDirt_1 ⟨fun _ => ⟨rfl, rfl⟩, fun q => absurd (nI_le' (Nat.le_refl 8) (by omega)) q⟩
  · intro j hj ih
    refine pM_cp_keptDirt_1 ⟨fun q => absurd q (nI_nle' (a := 8) (by omega) (by omega)), fun _ => ⟨vp_in_nI (by omega) (by decide), vp_in_nI (by omega) (by decide), ?_⟩⟩
    rw [cl_nI (by omega), nI_p1, q_set_same, q_set_eq, q_set_ne _ _ (by decide), cpN_s]
    exact ih
theorem EV.cp_heatOf {d : Nat} {σ : QS} : EV d 193 0 [some (.inr 74), some (.inr 113), some (.inl 8), none] [] σ (qvs (q_set σ 113 (cpN (σ 74) (σ 113) 8))) := by
  refine pM_cp_heatOf_0 ?_
  have key := up_loop (P := fun j => EV d 193 1 [some (.inr 74), some (.inr 113), some (.inl 8), some (.inl (nI j))] [] (q_set σ 113 (cpN (σ 74) (σ 113) j)) (qvs (q_set σ 113 (cpN (σ 74) (σ 113) 8)))) (n := 8) ?_ ?_ 0 (by omega)
  · rw [cpN_0, q_set_id] at key
    exact key
  · exact pM_cp_heatOf_1 ⟨fun _ => ⟨rfl, rfl⟩, fun q => absurd (nI_le' (Nat.le_refl 8) (by omega)) q⟩
  · intro j hj ih
    refine pM_cp_heatOf_1 ⟨fun q => absurd q (nI_nle' (a := 8) (by omega) (by omega)), fun _ => ⟨vp_in_nI (by omega) (by decide), vp_in_nI (by omega) (by decide), ?_⟩⟩
    rw [cl_nI (by omega), nI_p1, q_set_same, q_set_eq, q_set_ne _ _ (by decide), cpN_s]
    exact ih
theorem EV.cp_keptHeat {d : Nat} {σ : QS} : EV d 193 0 [some (.inr 113), some (.inr 74), some (.inl 8), none] [] σ (qvs (q_set σ 74 (cpN (σ 113) (σ 74) 8))) := by
  refine pM_cp_keptHeat_0 ?_
  have key := up_loop (P := fun j => EV d 193 1 [some (.inr 113), some (.inr 74), some (.inl 8), some (.inl (nI j))] [] (q_set σ 74 (cpN (σ 113) (σ 74) j)) (qvs (q_set σ 74 (cpN (σ 113) (σ 74) 8)))) (n := 8) ?_ ?_ 0 (by omega)
  · rw [cpN_0, q_set_id] at key
    exact key
  · exact pM_cp_keptHeat_1 ⟨fun _ => ⟨rfl, rfl⟩, fun q => absurd (nI_le' (Nat.le_refl 8) (by omega)) q⟩
  · intro j hj ih
    refine pM_cp_keptHeat_1 ⟨fun q => absurd q (nI_nle' (a := 8) (by omega) (by omega)), fun _ => ⟨vp_in_nI (by omega) (by decide), vp_in_nI (by omega) (by decide), ?_⟩⟩
    rw [cl_nI (by omega), nI_p1, q_set_same, q_set_eq, q_set_ne _ _ (by decide), cpN_s]
    exact ih
theorem EV.cp_actMany {d : Nat} {σ : QS} : EV d 193 0 [some (.inr 75), some (.inr 114), some (.inl 12), none] [] σ (qvs (q_set σ 114 (cpN (σ 75) (σ 114) 12))) := by
  refine pM_cp_actMany_0 ?_
  have key := up_loop (P := fun j => EV d 193 1 [some (.inr 75), some (.inr 114), some (.inl 12), some (.inl (nI j))] [] (q_set σ 114 (cpN (σ 75) (σ 114) j)) (qvs (q_set σ 114 (cpN (σ 75) (σ 114) 12)))) (n := 12) ?_ ?_ 0 (by omega)
  · rw [cpN_0, q_set_id] at key
    exact key
  · exact pM_cp_actMany_1 ⟨fun _ => ⟨rfl, rfl⟩, fun q => absurd (nI_le' (Nat.le_refl 12) (by omega)) q⟩
  · intro j hj ih
    refine pM_cp_actMany_1 ⟨fun q => absurd q (nI_nle' (a := 12) (by omega) (by omega)), fun _ => ⟨vp_in_nI (by omega) (by decide), vp_in_nI (by omega) (by decide), ?_⟩⟩
    rw [cl_nI (by omega), nI_p1, q_set_same, q_set_eq, q_set_ne _ _ (by decide), cpN_s]
    exact ih
theorem EV.cp_keptMany {d : Nat} {σ : QS} : EV d 193 0 [some (.inr 114), some (.inr 75), some (.inl 12), none] [] σ (qvs (q_set σ 75 (cpN (σ 114) (σ 75) 12))) := by
  refine pM_cp_keptMany_0 ?_
  have key := up_loop (P := fun j => EV d 193 1 [some (.inr 114), some (.inr 75), some (.inl 12), some (.inl (nI j))] [] (q_set σ 75 (cpN (σ 114) (σ 75) j)) (qvs (q_set σ 75 (cpN (σ 114) (σ 75) 12)))) (n := 12) ?_ ?_ 0 (by omega)
  · rw [cpN_0, q_set_id] at key
    exact key
  · exact pM_cp_keptMany_1 ⟨fun _ => ⟨rfl, rfl⟩, fun q => absurd (nI_le' (Nat.le_refl 12) (by omega)) q⟩
  · intro j hj ih
    refine pM_cp_keptMany_1 ⟨fun q => absurd q (nI_nle' (a := 12) (by omega) (by omega)), fun _ => ⟨vp_in_nI (by omega) (by decide), vp_in_nI (by omega) (by decide), ?_⟩⟩
    rw [cl_nI (by omega), nI_p1, q_set_same, q_set_eq, q_set_ne _ _ (by decide), cpN_s]
    exact ih
theorem EV.cp_actKind {d : Nat} {σ : QS} : EV d 193 0 [some (.inr 76), some (.inr 115), some (.inl 60), none] [] σ (qvs (q_set σ 115 (cpN (σ 76) (σ 115) 60))) := by
  refine pM_cp_actKind_0 ?_
  have key := up_loop (P := fun j => EV d 193 1 [some (.inr 76), some (.inr 115), some (.inl 60), some (.inl (nI j))] [] (q_set σ 115 (cpN (σ 76) (σ 115) j)) (qvs (q_set σ 115 (cpN (σ 76) (σ 115) 60)))) (n := 60) ?_ ?_ 0 (by omega)
  · rw [cpN_0, q_set_id] at key
    exact key
  · exact pM_cp_actKind_1 ⟨fun _ => ⟨rfl, rfl⟩, fun q => absurd (nI_le' (Nat.le_refl 60) (by omega)) q⟩
  · intro j hj ih
    refine pM_cp_actKind_1 ⟨fun q => absurd q (nI_nle' (a := 60) (by omega) (by omega)), fun _ => ⟨vp_in_nI (by omega) (by decide), vp_in_nI (by omega) (by decide), ?_⟩⟩
    rw [cl_nI (by omega), nI_p1, q_set_same, q_set_eq, q_set_ne _ _ (by decide), cpN_s]
    exact ih
theorem EV.cp_keptKind {d : Nat} {σ : QS} : EV d 193 0 [some (.inr 115), some (.inr 76), some (.inl 60), none] [] σ (qvs (q_set σ 76 (cpN (σ 115) (σ 76) 60))) := by
  refine pM_cp_keptKind_0 ?_
  have key := up_loop (P := fun j => EV d 193 1 [some (.inr 115), some (.inr 76), some (.inl 60), some (.inl (nI j))] [] (q_set σ 76 (cpN (σ 115) (σ 76) j)) (qvs (q_set σ 76 (cpN (σ 115) (σ 76) 60)))) (n := 60) ?_ ?_ 0 (by omega)
  · rw [cpN_0, q_set_id] at key
    exact key
  · exact pM_cp_keptKind_1 ⟨fun _ => ⟨rfl, rfl⟩, fun q => absurd (nI_le' (Nat.le_refl 60) (by omega)) q⟩
  · intro j hj ih
    refine pM_cp_keptKind_1 ⟨fun q => absurd q (nI_nle' (a := 60) (by omega) (by omega)), fun _ => ⟨vp_in_nI (by omega) (by decide), vp_in_nI (by omega) (by decide), ?_⟩⟩
    rw [cl_nI (by omega), nI_p1, q_set_same, q_set_eq, q_set_ne _ _ (by decide), cpN_s]
    exact ih
theorem EV.cp_actRoom {d : Nat} {σ : QS} : EV d 193 0 [some (.inr 77), some (.inr 116), some (.inl 60), none] [] σ (qvs (q_set σ 116 (cpN (σ 77) (σ 116) 60))) := by
  refine pM_cp_actRoom_0 ?_
  have key := up_loop (P := fun j => EV d 193 1 [some (.inr 77), some (.inr 116), some (.inl 60), some (.inl (nI j))] [] (q_set σ 116 (cpN (σ 77) (σ 116) j)) (qvs (q_set σ 116 (cpN (σ 77) (σ 116) 60)))) (n := 60) ?_ ?_ 0 (by omega)
  · rw [cpN_0, q_set_id] at key
    exact key
  · exact pM_cp_actRoom_1 ⟨fun _ => ⟨rfl, rfl⟩, fun q => absurd (nI_le' (Nat.le_refl 60) (by omega)) q⟩
  · intro j hj ih
    refine pM_cp_actRoom_1 ⟨fun q => absurd q (nI_nle' (a := 60) (by omega) (by omega)), fun _ => ⟨vp_in_nI (by omega) (by decide), vp_in_nI (by omega) (by decide), ?_⟩⟩
    rw [cl_nI (by omega), nI_p1, q_set_same, q_set_eq, q_set_ne _ _ (by decide), cpN_s]
    exact ih
theorem EV.cp_keptRoom {d : Nat} {σ : QS} : EV d 193 0 [some (.inr 116), some (.inr 77), some (.inl 60), none] [] σ (qvs (q_set σ 77 (cpN (σ 116) (σ 77) 60))) := by
  refine pM_cp_keptRoom_0 ?_
  have key := up_loop (P := fun j => EV d 193 1 [some (.inr 116), some (.inr 77), some (.inl 60), some (.inl (nI j))] [] (q_set σ 77 (cpN (σ 116) (σ 77) j)) (qvs (q_set σ 77 (cpN (σ 116) (σ 77) 60)))) (n := 60) ?_ ?_ 0 (by omega)
  · rw [cpN_0, q_set_id] at key
    exact key
  · exact pM_cp_keptRoom_1 ⟨fun _ => ⟨rfl, rfl⟩, fun q => absurd (nI_le' (Nat.le_refl 60) (by omega)) q⟩
  · intro j hj ih
    refine pM_cp_keptRoom_1 ⟨fun q => absurd q (nI_nle' (a := 60) (by omega) (by omega)), fun _ => ⟨vp_in_nI (by omega) (by decide), vp_in_nI (by omega) (by decide), ?_⟩⟩
    rw [cl_nI (by omega), nI_p1, q_set_same, q_set_eq, q_set_ne _ _ (by decide), cpN_s]
    exact ih
theorem EV.cp_actAmount {d : Nat} {σ : QS} : EV d 193 0 [some (.inr 78), some (.inr 117), some (.inl 60), none] [] σ (qvs (q_set σ 117 (cpN (σ 78) (σ 117) 60))) := by
  refine pM_cp_actAmount_0 ?_
  have key := up_loop (P := fun j => EV d 193 1 [some (.inr 78), some (.inr 117), some (.inl 60), some (.inl (nI j))] [] (q_set σ 117 (cpN (σ 78) (σ 117) j)) (qvs (q_set σ 117 (cpN (σ 78) (σ 117) 60)))) (n := 60) ?_ ?_ 0 (by omega)
  · rw [cpN_0, q_set_id] at key
    exact key
  · exact pM_cp_actAmount_1 ⟨fun _ => ⟨rfl, rfl⟩, fun q => absurd (nI_le' (Nat.le_refl 60) (by omega)) q⟩
  · intro j hj ih
    refine pM_cp_actAmount_1 ⟨fun q => absurd q (nI_nle' (a := 60) (by omega) (by omega)), fun _ => ⟨vp_in_nI (by omega) (by decide), vp_in_nI (by omega) (by decide), ?_⟩⟩
    rw [cl_nI (by omega), nI_p1, q_set_same, q_set_eq, q_set_ne _ _ (by decide), cpN_s]
    exact ih
theorem EV.cp_keptAmount {d : Nat} {σ : QS} : EV d 193 0 [some (.inr 117), some (.inr 78), some (.inl 60), none] [] σ (qvs (q_set σ 78 (cpN (σ 117) (σ 78) 60))) := by
  refine pM_cp_keptAmount_0 ?_
  have key := up_loop (P := fun j => EV d 193 1 [some (.inr 117), some (.inr 78), some (.inl 60), some (.inl (nI j))] [] (q_set σ 78 (cpN (σ 117) (σ 78) j)) (qvs (q_set σ 78 (cpN (σ 117) (σ 78) 60)))) (n := 60) ?_ ?_ 0 (by omega)
  · rw [cpN_0, q_set_id] at key
    exact key
  · exact pM_cp_keptAmount_1 ⟨fun _ => ⟨rfl, rfl⟩, fun q => absurd (nI_le' (Nat.le_refl 60) (by omega)) q⟩
  · intro j hj ih
    refine pM_cp_keptAmount_1 ⟨fun q => absurd q (nI_nle' (a := 60) (by omega) (by omega)), fun _ => ⟨vp_in_nI (by omega) (by decide), vp_in_nI (by omega) (by decide), ?_⟩⟩
    rw [cl_nI (by omega), nI_p1, q_set_same, q_set_eq, q_set_ne _ _ (by decide), cpN_s]
    exact ih
theorem EV.takeH {d : Nat} {σ : QS} : EV d 12 0 [some (.inr 1), some (.inr 6)] [] σ (qvs (q_set (q_set (q_set (q_set (q_set σ 2 (cpN (σ 7) (σ 2) 24)) 3 (cpN (σ 8) (σ 3) 24)) 4 (cpN (σ 9) (σ 4) 180)) 5 (cpN (σ 10) (σ 5) 12)) 1 (upd (σ 1) 4 (σ 6 4)))) := by
  refine pH_take_0 ?_
  have ob : ∀ n : Nat, n < 2 ^ 31 → ∀ f : Nat → Int32, ((¬ (0 : Int32) < 0) ∧ (¬ (0 : Int32) < 0) ∧ (¬ (nI n) < 0) ∧ (0 : Int32).toNatClampNeg + (nI n).toNatClampNeg ≤ n ∧ (0 : Int32).toNatClampNeg + (nI n).toNatClampNeg ≤ n ∧ ((0 : Nat) = 1 → ∀ i, i < (nI n).toNatClampNeg → fits .char (.int (f ((0 : Int32).toNatClampNeg + i))) = true)) := by
    intro n hn f
    have e := cl_nI hn
    refine ⟨by decide, by decide, nI_pos hn, ?_, ?_, fun h => absurd h (by decide)⟩ <;> rw [e] <;> exact Nat.le_of_eq (Nat.zero_add n)
  refine ⟨ob 24 (by decide) _, ob 24 (by decide) _, ob 180 (by decide) _, ob 12 (by decide) _, rfl, ?_⟩
  rw [← va_cpN, ← va_cpN, ← va_cpN, ← va_cpN]
  rfl
theorem EV.takeK {d : Nat} {σ : QS} : EV d 12 0 [some (.inr 6), some (.inr 1)] [] σ (qvs (q_set (q_set (q_set (q_set (q_set σ 7 (cpN (σ 2) (σ 7) 24)) 8 (cpN (σ 3) (σ 8) 24)) 9 (cpN (σ 4) (σ 9) 180)) 10 (cpN (σ 5) (σ 10) 12)) 6 (upd (σ 6) 4 (σ 1 4)))) := by
  refine pK_take_0 ?_
  have ob : ∀ n : Nat, n < 2 ^ 31 → ∀ f : Nat → Int32, ((¬ (0 : Int32) < 0) ∧ (¬ (0 : Int32) < 0) ∧ (¬ (nI n) < 0) ∧ (0 : Int32).toNatClampNeg + (nI n).toNatClampNeg ≤ n ∧ (0 : Int32).toNatClampNeg + (nI n).toNatClampNeg ≤ n ∧ ((0 : Nat) = 1 → ∀ i, i < (nI n).toNatClampNeg → fits .char (.int (f ((0 : Int32).toNatClampNeg + i))) = true)) := by
    intro n hn f
    have e := cl_nI hn
    refine ⟨by decide, by decide, nI_pos hn, ?_, ?_, fun h => absurd h (by decide)⟩ <;> rw [e] <;> exact Nat.le_of_eq (Nat.zero_add n)
  refine ⟨ob 24 (by decide) _, ob 24 (by decide) _, ob 180 (by decide) _, ob 12 (by decide) _, rfl, ?_⟩
  rw [← va_cpN, ← va_cpN, ← va_cpN, ← va_cpN]
  rfl
