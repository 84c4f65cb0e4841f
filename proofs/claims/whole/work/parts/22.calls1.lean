theorem sim_own (σ : QS) (hour owner : Int32) (hI : IB σ) : Sim 71 116 [some (.inr 0), some (.inl hour), some (.inl owner)] [some (.inr 69), some (.inl hour), some (.inl owner)] σ := by
  by_cases h0 : hour < 0
  · exact Sim.no 0 hI (pX_own_0 (by simp [h0, qis])) (pM_own_0 (by simp [h0, qis]))
  by_cases h1 : 24 ≤ hour
  · exact Sim.no 0 hI (pX_own_0 (by simp [h0, h1, qis])) (pM_own_0 (by simp [h0, h1, qis]))
  obtain ⟨j, hj, rfl⟩ := ix_of (n := 24) rfl (by decide) h0 h1
  have hin : vp_in (nI j) 24 := vp_in_nI hj (by decide)
  have hcl : (nI j).toNatClampNeg = j := cl_nI (by omega)
  have hI' := hI
  obtain ⟨a1, a2, a3, a4, a5, a6, a7, a8⟩ := hI'
  by_cases hm : owner = -1
  · subst hm
    refine ⟨1, _, _, pX_own_0 (by simp [h0, h1, hin, hcl, q_fit10, qis]; rfl), pM_own_0 (by simp [h0, h1, hin, hcl, q_fit10, qis]; rfl), ?_, ?_, ?_⟩
    · exact ⟨iOw_upd (o := 12) a1 (by decide), a2, a3, a4, a5, a6, a7, a8⟩
    · repeat (refine FrL.set (by decide) ?_)
      exact FrL.rf
    · exact Or.inl ⟨rfl, rfl⟩
  by_cases h2 : owner < 0
  · exact Sim.no 0 hI (pX_own_0 (by simp [h0, h1, h2, hm, qis])) (pM_own_0 (by simp [h0, h1, h2, hm, qis]))
  by_cases h3 : 12 ≤ owner
  · exact Sim.no 0 hI (pX_own_0 (by simp [h0, h1, h2, h3, hm, qis])) (pM_own_0 (by simp [h0, h1, h2, h3, hm, qis]))
  obtain ⟨o, ho, rfl⟩ := ix_of (n := 12) rfl (by decide) h2 h3
  refine ⟨1, _, _, pX_own_0 (by simp [h0, h1, h2, h3, hm, hin, hcl, q_fit10, qis]; rfl), pM_own_0 (by simp [h0, h1, h2, h3, hm, hin, hcl, q_fit10, qis]; rfl), ?_, ?_, ?_⟩
  · exact ⟨iOw_upd a1 (by omega), a2, a3, a4, a5, a6, a7, a8⟩
  · repeat (refine FrL.set (by decide) ?_)
    exact FrL.rf
  · exact Or.inl ⟨rfl, rfl⟩

theorem sim_room (σ : QS) (r store dirt heat : Int32) (hI : IB σ) : Sim 72 117 [some (.inr 0), some (.inl r), some (.inl store), some (.inl dirt), some (.inl heat)] [some (.inr 69), some (.inl r), some (.inl store), some (.inl dirt), some (.inl heat)] σ := by
  by_cases h0 : r < 0
  · exact Sim.no 0 hI (pX_room_0 (by simp [h0, qis])) (pM_room_0 (by simp [h0, qis]))
  by_cases h1 : 8 ≤ r
  · exact Sim.no 0 hI (pX_room_0 (by simp [h0, h1, qis])) (pM_room_0 (by simp [h0, h1, qis]))
  by_cases h2 : store < 0
  · exact Sim.no 0 hI (pX_room_0 (by simp [h0, h1, h2, qis])) (pM_room_0 (by simp [h0, h1, h2, qis]))
  by_cases h3 : 99 < store
  · exact Sim.no 0 hI (pX_room_0 (by simp [h0, h1, h2, h3, qis])) (pM_room_0 (by simp [h0, h1, h2, h3, qis]))
  by_cases h4 : dirt < 0
  · exact Sim.no 0 hI (pX_room_0 (by simp [h0, h1, h2, h3, h4, qis])) (pM_room_0 (by simp [h0, h1, h2, h3, h4, qis]))
  by_cases h5 : 99 < dirt
  · exact Sim.no 0 hI (pX_room_0 (by simp [h0, h1, h2, h3, h4, h5, qis])) (pM_room_0 (by simp [h0, h1, h2, h3, h4, h5, qis]))
  by_cases h6 : heat < 0
  · exact Sim.no 0 hI (pX_room_0 (by simp [h0, h1, h2, h3, h4, h5, h6, qis])) (pM_room_0 (by simp [h0, h1, h2, h3, h4, h5, h6, qis]))
  by_cases h7 : 99 < heat
  · exact Sim.no 0 hI (pX_room_0 (by simp [h0, h1, h2, h3, h4, h5, h6, h7, qis])) (pM_room_0 (by simp [h0, h1, h2, h3, h4, h5, h6, h7, qis]))
  obtain ⟨j, hj, rfl⟩ := ix_of (n := 8) rfl (by decide) h0 h1
  have i0 : vp_in (nI j) 8 := vp_in_nI (by omega) (by decide)
  have c0 : (nI j).toNatClampNeg = j := cl_nI (by omega)
  have i1 : vp_in (nI (j * 3)) 24 := vp_in_nI (by omega) (by decide)
  have c1 : (nI (j * 3)).toNatClampNeg = (j * 3) := cl_nI (by omega)
  have i2 : vp_in (nI (j * 3 + 1)) 24 := vp_in_nI (by omega) (by decide)
  have c2 : (nI (j * 3 + 1)).toNatClampNeg = (j * 3 + 1) := cl_nI (by omega)
  have i3 : vp_in (nI (j * 3 + 2)) 24 := vp_in_nI (by omega) (by decide)
  have c3 : (nI (j * 3 + 2)).toNatClampNeg = (j * 3 + 2) := cl_nI (by omega)
  have e1 : nI j * 3 = nI (j * 3) := pk_mul j 3
  have e2 : nI (j * 3) + 0 = nI (j * 3) := nI_add (j * 3) 0
  have e3 : nI (j * 3) + 1 = nI (j * 3 + 1) := nI_add (j * 3) 1
  have e4 : nI (j * 3) + 2 = nI (j * 3 + 2) := nI_add (j * 3) 2
  obtain ⟨a1, a2, a3, a4, a5, a6, a7, a8⟩ := hI
  refine ⟨1, _, _, pX_room_0 (by simp only [h0, h1, h2, h3, h4, h5, h6, h7, e1, e2, e3, e4, i1, i2, i3, c1, c2, c3, not_true_eq_false, not_false_eq_true, true_and, and_self, forall_const, false_implies, true_implies, and_true, qis, q_fit10, q_fit11]; first | exact ⟨rfl, rfl⟩ | rfl), pM_room_0 (by simp only [h0, h1, h2, h3, h4, h5, h6, h7, i0, c0, not_true_eq_false, not_false_eq_true, true_and, and_self, forall_const, false_implies, true_implies, and_true, qis, q_fit10, q_fit11]; first | exact ⟨rfl, rfl⟩ | rfl), ?_, ?_, ?_⟩
  · exact ⟨a1, iRm_upd a2 hj store dirt heat, a3, a4, a5, a6, a7, a8⟩
  · repeat (refine FrL.set (by decide) ?_)
    exact FrL.rf
  · exact Or.inl ⟨rfl, rfl⟩

theorem sim_noActs (σ : QS) (owner : Int32) (hI : IB σ) : Sim 76 119 [some (.inr 0), some (.inl owner), none] [some (.inr 69), some (.inl owner), none] σ := by
  by_cases h0 : owner < 0
  · exact Sim.no (-1) hI (pX_noActs_0 (by simp [h0, qis])) (pM_noActs_0 (by simp [h0, qis]))
  by_cases h1 : 12 ≤ owner
  · exact Sim.no (-1) hI (pX_noActs_0 (by simp [h0, h1, qis])) (pM_noActs_0 (by simp [h0, h1, qis]))
  obtain ⟨j, hj, rfl⟩ := ix_of (n := 12) rfl (by decide) h0 h1
  have i0 : vp_in (nI j) 12 := vp_in_nI (by omega) (by decide)
  have c0 : (nI j).toNatClampNeg = j := cl_nI (by omega)
  obtain ⟨a1, a2, a3, a4, a5, a6, a7, a8⟩ := hI
  have hn : σ 75 j = σ 5 j := by rw [a3.1]
  refine ⟨σ 5 j, _, _, pX_noActs_0 (by simp only [h0, h1, i0, c0, not_true_eq_false, not_false_eq_true, true_and, and_self, forall_const, false_implies, true_implies, and_true, qis, q_fit10, q_fit11]; first | exact ⟨rfl, rfl⟩ | rfl), pM_noActs_0 (by simp only [h0, h1, i0, c0, not_true_eq_false, not_false_eq_true, true_and, and_self, forall_const, false_implies, true_implies, and_true, qis, q_fit10, q_fit11]; exact ⟨congrArg some hn, rfl⟩), ?_, ?_, ?_⟩
  · exact ⟨a1, a2, iAc_cnt (j := 0) a3 (by decide), a4, a5, a6, a7, a8⟩
  · repeat (refine FrL.set (by decide) ?_)
    exact FrL.rf
  · exact Or.inl ⟨rfl, rfl⟩

theorem sim_searches (σ : QS) (owner rooms : Int32) (hI : IB σ) : Sim 89 177 [some (.inr 0), some (.inl owner), some (.inl rooms)] [some (.inr 69), some (.inl owner), some (.inl rooms)] σ := by
  by_cases h0 : owner < 0
  · exact Sim.no 0 hI (pX_searches_0 (by simp [h0, qis])) (pM_searches_0 (by simp [h0, qis]))
  by_cases h1 : 12 ≤ owner
  · exact Sim.no 0 hI (pX_searches_0 (by simp [h0, h1, qis])) (pM_searches_0 (by simp [h0, h1, qis]))
  by_cases h2 : rooms < 0
  · exact Sim.no 0 hI (pX_searches_0 (by simp [h0, h1, h2, qis])) (pM_searches_0 (by simp [h0, h1, h2, qis]))
  by_cases h3 : 255 < rooms
  · have g3 : ¬ rooms < 256 := fun q => absurd h3 ((i_lt256 rooms).mp q)
    exact Sim.no 0 hI (pX_searches_0 (by simp [h0, h1, h2, h3, g3, qis])) (pM_searches_0 (by simp [h0, h1, h2, h3, g3, qis]))
  have g3 : rooms < 256 := (i_lt256 rooms).mpr h3
  obtain ⟨j, hj, rfl⟩ := ix_of (n := 12) rfl (by decide) h0 h1
  have i0 : vp_in (nI j) 12 := vp_in_nI (by omega) (by decide)
  have c0 : (nI j).toNatClampNeg = j := cl_nI (by omega)
  have i1 : vp_in (nI j) 13 := vp_in_nI (by omega) (by decide)
  have c1 : (nI j).toNatClampNeg = j := cl_nI (by omega)
  obtain ⟨a1, a2, a3, a4, a5, a6, a7, a8⟩ := hI
  refine ⟨1, _, _, pX_searches_0 (by simp only [h0, h1, h2, h3, g3, i0, i1, c0, not_true_eq_false, not_false_eq_true, true_and, and_self, forall_const, false_implies, true_implies, and_true, qis, q_fit10, q_fit11]; first | exact ⟨rfl, rfl⟩ | rfl), pM_searches_0 (by simp only [h0, h1, h2, h3, g3, i0, c0, not_true_eq_false, not_false_eq_true, true_and, and_self, forall_const, false_implies, true_implies, and_true, qis, q_fit10, q_fit11]; first | exact ⟨rfl, rfl⟩ | rfl), ?_, ?_, ?_⟩
  · refine ⟨a1, a2, a3, a4, a5, a6, ⟨fun o ho => ?_, ?_⟩, a8⟩
    · show upd (σ 79) j rooms o = upd (σ 42) j rooms o
      simp only [upd]
      rw [a7.1 o ho]
    · show upd (σ 42) j rooms 12 = 0
      rw [upd_ne _ _ (by omega)]
      exact a7.2
  · repeat (refine FrL.set (by decide) ?_)
    exact FrL.rf
  · refine Or.inr ⟨rfl, fun c hc => ?_⟩
    simp only [q_set]
    repeat rw [if_neg (by omega)]

theorem sim_says (σ : QS) (hour word : Int32) (hI : IB σ) : Sim 91 183 [some (.inr 0), some (.inl hour), some (.inl word)] [some (.inr 69), some (.inl hour), some (.inl word)] σ := by
  by_cases h0 : hour < 0
  · exact Sim.no 0 hI (pX_says_0 (by simp [h0, qis])) (pM_says_0 (by simp [h0, qis]))
  by_cases h1 : 24 ≤ hour
  · exact Sim.no 0 hI (pX_says_0 (by simp [h0, h1, qis])) (pM_says_0 (by simp [h0, h1, qis]))
  by_cases h2 : word < 0
  · exact Sim.no 0 hI (pX_says_0 (by simp [h0, h1, h2, qis])) (pM_says_0 (by simp [h0, h1, h2, qis]))
  by_cases h3 : 2 < word
  · have g3 : ¬ word ≤ 2 := fun q => absurd h3 ((i_nlt word 2).mp q)
    exact Sim.no 0 hI (pX_says_0 (by simp [h0, h1, h2, h3, g3, qis])) (pM_says_0 (by simp [h0, h1, h2, h3, g3, qis]))
  have g3 : word ≤ 2 := (i_nlt word 2).mpr h3
  obtain ⟨j, hj, rfl⟩ := ix_of (n := 24) rfl (by decide) h0 h1
  obtain ⟨w, hw, rfl⟩ := ix_of' (n := 2) rfl (by decide) h2 h3
  have i0 : vp_in (nI j) 24 := vp_in_nI (by omega) (by decide)
  have c0 : (nI j).toNatClampNeg = j := cl_nI (by omega)
  obtain ⟨a1, a2, a3, a4, a5, a6, a7, a8⟩ := hI
  refine ⟨1, _, _, pX_says_0 (by simp only [h0, h1, h2, h3, g3, i0, c0, not_true_eq_false, not_false_eq_true, true_and, and_self, forall_const, false_implies, true_implies, and_true, qis, q_fit10, q_fit11]; first | exact ⟨rfl, rfl⟩ | rfl), pM_says_0 (by simp only [h0, h1, h2, h3, g3, i0, c0, not_true_eq_false, not_false_eq_true, true_and, and_self, forall_const, false_implies, true_implies, and_true, qis, q_fit10, q_fit11]; first | exact ⟨rfl, rfl⟩ | rfl), ?_, ?_, ?_⟩
  · refine ⟨a1, a2, a3, a4, a5, a6, a7, ⟨?_, fun h hh => ?_⟩⟩
    · show upd (σ 71) j (nI w) = upd (σ 43) j (nI w)
      rw [a8.1]
    · show ∃ o, o ≤ 2 ∧ upd (σ 43) j (nI w) h = nI o
      by_cases e : h = j
      · subst e; exact ⟨w, hw, upd_eq _ _ _⟩
      · rw [upd_ne _ _ e]; exact a8.2 h hh
  · repeat (refine FrL.set (by decide) ?_)
    exact FrL.rf
  · refine Or.inr ⟨rfl, fun c hc => ?_⟩
    simp only [q_set]
    repeat rw [if_neg (by omega)]

theorem sim_seed (σ : QS) (x : Int32) (hI : IB σ) : Sim 96 191 [some (.inr 0), some (.inl x)] [some (.inr 69), some (.inl x)] σ := by
  by_cases h0 : x < 0
  · exact Sim.no 0 hI (pX_seed_0 (by simp [h0, qis])) (pM_seed_0 (by simp [h0, qis]))
  by_cases h1 : 65535 < x
  · have g1 : ¬ x ≤ 65535 := fun q => absurd h1 ((i_nlt x 65535).mp q)
    exact Sim.no 0 hI (pX_seed_0 (by simp [h0, h1, g1, qis])) (pM_seed_0 (by simp [h0, h1, g1, qis]))
  have g1 : x ≤ 65535 := (i_nlt x 65535).mpr h1
  obtain ⟨w, hw, rfl⟩ := ix_of' (n := 65535) rfl (by decide) h0 h1
  obtain ⟨a1, a2, a3, a4, a5, a6, a7, a8⟩ := hI
  refine ⟨1, _, _, pX_seed_0 (by simp only [h0, h1, g1, not_true_eq_false, not_false_eq_true, true_and, and_self, forall_const, false_implies, true_implies, and_true, qis, q_fit10, q_fit11]; first | exact ⟨rfl, rfl⟩ | rfl), pM_seed_0 (by simp only [h0, h1, g1, not_true_eq_false, not_false_eq_true, true_and, and_self, forall_const, false_implies, true_implies, and_true, qis, q_fit10, q_fit11]; first | exact ⟨rfl, rfl⟩ | rfl), ?_, ?_, ?_⟩
  · exact ⟨a1, a2, a3, ⟨rfl, w, hw, rfl⟩, a5, a6, a7, a8⟩
  · repeat (refine FrL.set (by decide) ?_)
    exact FrL.rf
  · refine Or.inr ⟨rfl, fun c hc => ?_⟩
    simp only [q_set]
    repeat rw [if_neg (by omega)]

theorem sim_act (σ : QS) (owner kind room amount : Int32) (hI : IB σ) : Sim 75 118 [some (.inr 0), some (.inl owner), some (.inl kind), some (.inl room), some (.inl amount), none] [some (.inr 69), some (.inl owner), some (.inl kind), some (.inl room), some (.inl amount), none] σ := by
  by_cases h0 : owner < 0
  · exact Sim.no (-1) hI (pX_act_0 (by simp [h0, qis])) (pM_act_0 (by simp [h0, qis]))
  by_cases h1 : 12 ≤ owner
  · exact Sim.no (-1) hI (pX_act_0 (by simp [h0, h1, qis])) (pM_act_0 (by simp [h0, h1, qis]))
  by_cases h2 : kind < 0
  · exact Sim.no (-1) hI (pX_act_0 (by simp [h0, h1, h2, qis])) (pM_act_0 (by simp [h0, h1, h2, qis]))
  by_cases h3 : 6 < kind
  · have g3 : ¬ ¬ 7 ≤ kind := fun q => absurd h3 ((i_le7 kind).mp q)
    exact Sim.no (-1) hI (pX_act_0 (by simp [h0, h1, h2, h3, g3, qis])) (pM_act_0 (by simp [h0, h1, h2, h3, g3, qis]))
  have g3 : ¬ 7 ≤ kind := (i_le7 kind).mpr h3
  by_cases h4 : room < 0
  · exact Sim.no (-1) hI (pX_act_0 (by simp [h0, h1, h2, h3, g3, h4, qis])) (pM_act_0 (by simp [h0, h1, h2, h3, g3, h4, qis]))
  by_cases h5 : 8 ≤ room
  · exact Sim.no (-1) hI (pX_act_0 (by simp [h0, h1, h2, h3, g3, h4, h5, qis])) (pM_act_0 (by simp [h0, h1, h2, h3, g3, h4, h5, qis]))
  by_cases h6 : amount < 0
  · exact Sim.no (-1) hI (pX_act_0 (by simp [h0, h1, h2, h3, g3, h4, h5, h6, qis])) (pM_act_0 (by simp [h0, h1, h2, h3, g3, h4, h5, h6, qis]))
  by_cases h7 : 99 < amount
  · exact Sim.no (-1) hI (pX_act_0 (by simp [h0, h1, h2, h3, g3, h4, h5, h6, h7, qis])) (pM_act_0 (by simp [h0, h1, h2, h3, g3, h4, h5, h6, h7, qis]))
  obtain ⟨j, hj, rfl⟩ := ix_of (n := 12) rfl (by decide) h0 h1
  obtain ⟨q, hq, rfl⟩ := ix_of (n := 8) rfl (by decide) h4 h5
  have i0 : vp_in (nI j) 12 := vp_in_nI (by omega) (by decide)
  have c0 : (nI j).toNatClampNeg = j := cl_nI (by omega)
  have hI' := hI
  obtain ⟨a1, a2, a3, a4, a5, a6, a7, a8⟩ := hI'
  obtain ⟨n, hn, hn2⟩ := a3.2.1 j hj
  have hn3 : σ 75 j = nI n := by rw [a3.1]; exact hn2
  by_cases h8 : n = 5
  · subst h8
    have g8 : ¬ nI 5 < 5 := by decide
    have e55 : (nI 5 : Int32) = 5 := rfl
    exact Sim.no (-1) hI (pX_act_0 (by simp only [h0, h1, h2, h3, h4, h5, h6, h7, g3, i0, c0, hn2, g8, not_true_eq_false, not_false_eq_true, true_and, and_self, forall_const, false_implies, true_implies, and_true, qis, q_fit10, q_fit11])) (pM_act_0 (by simp only [h0, h1, h2, h3, h4, h5, h6, h7, i0, c0, hn3, e55, not_true_eq_false, not_false_eq_true, true_and, and_self, forall_const, false_implies, true_implies, and_true, qis, q_fit10, q_fit11]))
  have g8 : nI n < 5 := (nI_ltI (b := 5) (by omega) (by decide)).mpr (by omega)
  have g9 : ¬ nI n = 5 := fun e => h8 ((nI_eq (b := 5) (by omega) (by decide)).mp e)
  have i4 : vp_in (nI (j * 5 + n)) 60 := vp_in_nI (by omega) (by decide)
  have c4 : (nI (j * 5 + n)).toNatClampNeg = (j * 5 + n) := cl_nI (by omega)
  have i1 : vp_in (nI ((j * 5 + n) * 3)) 180 := vp_in_nI (by omega) (by decide)
  have c1 : (nI ((j * 5 + n) * 3)).toNatClampNeg = ((j * 5 + n) * 3) := cl_nI (by omega)
  have i2 : vp_in (nI ((j * 5 + n) * 3 + 1)) 180 := vp_in_nI (by omega) (by decide)
  have c2 : (nI ((j * 5 + n) * 3 + 1)).toNatClampNeg = ((j * 5 + n) * 3 + 1) := cl_nI (by omega)
  have i3 : vp_in (nI ((j * 5 + n) * 3 + 2)) 180 := vp_in_nI (by omega) (by decide)
  have c3 : (nI ((j * 5 + n) * 3 + 2)).toNatClampNeg = ((j * 5 + n) * 3 + 2) := cl_nI (by omega)
  have e0 : nI j * 5 = nI (j * 5) := pk_mul j 5
  have e5 : 5 * nI j = nI (j * 5) := by have := pk_mul 5 j; rw [Nat.mul_comm 5 j] at this; exact this
  have e1 : nI (j * 5) + nI n = nI (j * 5 + n) := nI_add _ _
  have e2 : nI (j * 5 + n) * 3 = nI ((j * 5 + n) * 3) := pk_mul _ 3
  have e3 : nI ((j * 5 + n) * 3) + 1 = nI ((j * 5 + n) * 3 + 1) := nI_add _ 1
  have e4 : nI ((j * 5 + n) * 3) + 2 = nI ((j * 5 + n) * 3 + 2) := nI_add _ 2
  have e6 : nI n + 1 = nI (n + 1) := nI_add n 1
  refine Sim.mk2 (nI (n + 1)) (pX_act_0 (by simp only [h0, h1, h2, h3, h4, h5, h6, h7, g3, i0, c0, hn2, g8, e0, e1, e2, e3, e4, e6, i1, i2, i3, c1, c2, c3, upd_eq, not_true_eq_false, not_false_eq_true, true_and, and_self, forall_const, false_implies, true_implies, and_true, qis, q_fit10, q_fit11]; first | exact ⟨rfl, rfl⟩ | rfl)) ?_ (fun τ hτ => pM_act_0 (by simp only [h0, h1, h2, h3, h4, h5, h6, h7, g3, i0, c0, hτ 75 (by decide), hn3, g9, e5, e1, e6, i4, c4, upd_eq, not_true_eq_false, not_false_eq_true, true_and, and_self, forall_const, false_implies, true_implies, and_true, qis, q_fit10, q_fit11]; first | exact ⟨rfl, rfl⟩ | rfl)) ?_ ?_ ?_
  · repeat (refine FrM.set (by decide) ?_)
    exact FrM.rf
  · exact ⟨a1, a2, iAc_cnt (iAc_put a3 (i := j * 5 + n) (by omega) hq kind amount) (by omega), a4, a5, a6, a7, a8⟩
  · repeat (refine FrL.set (by decide) ?_)
    exact FrL.rf
  · exact Or.inl ⟨rfl, rfl⟩

