theorem sim_bestOrder (σ : QS) (h w : Int32) (hI : INV σ) : SimI 80 163 [some (.inr 0), some (.inl h), some (.inl w)] [some (.inr 69), some (.inl h), some (.inl w), none, none, none, none, none, none] σ := by
  by_cases h0 : h < 0
  · exact SimI.no (-1000000) hI (pX_bestOrder_0 ⟨fun _ => (no2 _ _), fun z => absurd h0 z⟩) (pM_bestOrder_0 ⟨fun _ => (no2 _ _), fun z => absurd h0 z⟩)
  by_cases h1 : 24 ≤ h
  · exact SimI.no (-1000000) hI (pX_bestOrder_0 ⟨fun z => absurd z h0, fun _ => ⟨fun _ => (no2 _ _), fun z => absurd h1 z⟩⟩) (pM_bestOrder_0 ⟨fun z => absurd z h0, fun _ => ⟨fun _ => (no2 _ _), fun z => absurd h1 z⟩⟩)
  obtain ⟨j, hj, rfl⟩ := ix_of (n := 24) rfl (by decide) h0 h1
  have cj : (nI j).toNatClampNeg = j := cl_nI (by omega)
  have ij : vp_in (nI j) 24 := vp_in_nI hj (by decide)
  have e70 : σ 70 = σ 2 := hI.1.1.1
  by_cases c1 : σ 2 (nI j).toNatClampNeg = 12
  · have c2 : σ 70 (nI j).toNatClampNeg = 12 := by rw [e70]; exact c1
    exact SimI.no (-1000000) hI (pX_bestOrder_0 ⟨fun z => absurd z h0, fun _ => ⟨fun z => absurd z h1, fun _ => ⟨ij, ⟨fun _ => (no2 _ _), fun z => absurd c1 z⟩⟩⟩⟩) (pM_bestOrder_0 ⟨fun z => absurd z h0, fun _ => ⟨fun z => absurd z h1, fun _ => ⟨ij, ⟨fun _ => (no2 _ _), fun z => absurd c2 z⟩⟩⟩⟩)
  have c2 : ¬ σ 70 (nI j).toNatClampNeg = 12 := by rw [e70]; exact c1
  have c0 : ¬ σ 2 j = 12 := by rw [cj] at c1; exact c1
  obtain ⟨ow, how, eow⟩ := own12 hI.fr hj c0
  have io : vp_in (σ 2 (nI j).toNatClampNeg) 12 := by rw [cj, eow]; exact vp_in_nI how (by decide)
  have io7 : vp_in (σ 70 (nI j).toNatClampNeg) 12 := by rw [e70]; exact io
  obtain ⟨N, hN, eN⟩ := hI.A.2.1 ow how
  by_cases w0 : w < (-1)
  · exact SimI.no (-1000000) hI (pX_bestOrder_0 ⟨fun z => absurd z h0, fun _ => ⟨fun z => absurd z h1, fun _ => ⟨ij, ⟨fun z => absurd z c1, fun _ => ⟨fun _ => (no2 _ _), fun z => absurd w0 z⟩⟩⟩⟩⟩) (pM_bestOrder_0 ⟨fun z => absurd z h0, fun _ => ⟨fun z => absurd z h1, fun _ => ⟨ij, ⟨fun z => absurd z c2, fun _ => ⟨ij, ⟨io7, ⟨fun _ => (no2 _ _), fun z => absurd w0 z⟩⟩⟩⟩⟩⟩⟩)
  have x5 : σ 5 (σ 2 (nI j).toNatClampNeg).toNatClampNeg = nI N := by rw [cj, eow, cl_nI (by omega)]; exact eN
  have e75 : σ 75 = σ 5 := hI.1.2.2.1.1
  have x7 : σ 75 (σ 70 (nI j).toNatClampNeg).toNatClampNeg - 1 = nI N - nI 1 := by rw [e70, e75, x5]; rfl
  have wt : (nI N - nI 1).toInt = (N : Int) - 1 := by have := pk_sub_toInt (a := N) (b := 1) (by omega) (by omega); omega
  have nt : (nI N).toInt = (N : Int) := by
    have := pk_sub_toInt (a := N) (b := 0) (by omega) (by omega)
    rw [pk_sub (Nat.zero_le N), Nat.sub_zero] at this
    omega
  by_cases w1 : w < nI N
  rotate_left
  · have q1 : ¬ w < σ 5 (σ 2 (nI j).toNatClampNeg).toNatClampNeg := by rw [x5]; exact w1
    have q2 : σ 75 (σ 70 (nI j).toNatClampNeg).toNatClampNeg - 1 < w := by rw [x7, i_lt, wt]; rw [i_lt, nt] at w1; omega
    exact SimI.no (-1000000) hI (pX_bestOrder_0 ⟨fun z => absurd z h0, fun _ => ⟨fun z => absurd z h1, fun _ => ⟨ij, ⟨fun z => absurd z c1, fun _ => ⟨fun z => absurd z w0, fun _ => ⟨ij, ⟨io, ⟨fun z => absurd z q1, fun _ => (no2 _ _)⟩⟩⟩⟩⟩⟩⟩⟩) (pM_bestOrder_0 ⟨fun z => absurd z h0, fun _ => ⟨fun z => absurd z h1, fun _ => ⟨ij, ⟨fun z => absurd z c2, fun _ => ⟨ij, ⟨io7, ⟨fun z => absurd z w0, fun _ => ⟨fun _ => (no2 _ _), fun z => absurd q2 z⟩⟩⟩⟩⟩⟩⟩⟩)
  have q1 : w < σ 5 (σ 2 (nI j).toNatClampNeg).toNatClampNeg := by rw [x5]; exact w1
  have hw : w = -1 ∨ ∃ i, i < N ∧ w = nI i := by
    by_cases z : w < 0
    · refine Or.inl (Int32.toInt_inj.mp ?_)
      rw [i_lt] at w0 z
      rw [show (-1 : Int32).toInt = -1 from by decide] at w0 ⊢
      rw [show (0 : Int32).toInt = 0 from by decide] at z
      omega
    · obtain ⟨i, hi, rfl⟩ := nI_of z
      exact Or.inr ⟨i, (nI_ltI hi (by omega)).mp w1, rfl⟩
  generalize hV : (fun t => oV (cA σ 0) (σ 4) ow (dR (cA σ 0) (σ 4) (σ 5) (σ 2) (σ 3) j) (nI j) (σ 2 j) (ah (σ 2) j) N (pm N t)) = V
  have hV2 : ∀ t, V t = oV (cA σ 0) (σ 4) ow (dR (cA σ 0) (σ 4) (σ 5) (σ 2) (σ 3) j) (nI j) (σ 2 j) (ah (σ 2) j) N (pm N t) := fun t => by rw [← hV]
  refine SimI.q (if w = -1 then (bsT V (fac N - 1)).1 else nI (pm N (bsT V (fac N - 1)).2 w.toNatClampNeg)) hI (pX_bestOrder_0 ⟨fun z => absurd z h0, fun _ => ⟨fun z => absurd z h1, fun _ => ⟨ij, ⟨fun z => absurd z c1, fun _ => ⟨fun z => absurd z w0, fun _ => ⟨ij, ⟨io, ⟨fun _ => ⟨_, EV.dayI hI, ?_⟩, fun z => absurd q1 z⟩⟩⟩⟩⟩⟩⟩⟩) ?_
  · rintro s ⟨hn, -⟩
    refine ⟨_, EV.ordX (d := 54) hI.X hn hj how eow hN eN hV2, ?_⟩
    rintro u ⟨ky, b1, b2⟩
    have dn := ky.dn hn
    rcases hw with rfl | ⟨i, hi, rfl⟩
    · exact ⟨fun z => absurd rfl z, fun _ => QX.mk dn (by rw [if_pos rfl]; exact b1)⟩
    · refine ⟨fun z => ⟨vp_in_nI (by omega) (by decide), QX.mk dn ?_⟩, fun z => absurd z (nI_nem (by omega))⟩
      rw [if_neg z, cl_nI (by omega)]
      exact b2 i hi
  · intro s1 f1
    have f70 : s1 70 = σ 2 := hI.f f1.M
    have f75 : s1 75 = σ 75 := f1 75 (by decide)
    have c2s : ¬ s1 70 (nI j).toNatClampNeg = 12 := by rw [f70]; exact c1
    have io7 : vp_in (s1 70 (nI j).toNatClampNeg) 12 := by rw [f70]; exact io
    have q2 : ¬ s1 75 (s1 70 (nI j).toNatClampNeg).toNatClampNeg - 1 < w := by rw [f70, f75, ← e70, x7, i_lt, wt]; rw [i_lt, nt] at w1; omega
    refine pM_bestOrder_0 ⟨fun z => absurd z h0, fun _ => ⟨fun z => absurd z h1, fun _ => ⟨ij, ⟨fun z => absurd z c2s, fun _ => ⟨ij, ⟨io7, ⟨fun z => absurd z w0, fun _ => ⟨fun z => absurd z q2, fun _ => ⟨_, EV.runsI (w := 0) hI f1.mc (by decide) f70 hI.fr, ?_⟩⟩⟩⟩⟩⟩⟩⟩⟩
    rintro t ⟨g1, g2⟩
    have t70 : t 70 = σ 2 := by rw [g1 70 (by decide)]; exact f70
    have t75 : t 75 = σ 5 := by rw [g1 75 (by decide), f75, e75]
    rw [cj, t70, t75, eow, cl_nI (show ow < 2 ^ 31 by omega), eN]
    refine ⟨ij, vp_in_nI how (by decide), EV.waysM hN (EV.ordM (t0 := s1) (R := dR (cA σ 0) (σ 4) (σ 5) (σ 2) (σ 3) j) hI (f1.mc.tr g1.mm.mc) g1.mm t70 hj how eow hN eN (fun r hr => g2.1 j (by omega) r hr) hV2 ?_)⟩
    rcases hw with rfl | ⟨i, hi, rfl⟩
    · exact Or.inl ⟨rfl, by rw [if_pos rfl]⟩
    · exact Or.inr ⟨i, hi, rfl, by rw [if_neg (nI_nem (by omega)), cl_nI (by omega)]⟩
