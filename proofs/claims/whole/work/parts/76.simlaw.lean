/-! law, on both sides -/
theorem IB_law {σ u : QS} (hI : IB σ) (h : ∀ c, c ≠ 0 → c ≠ 11 → c ≠ 69 → (c ≤ 12 ∨ c = 42 ∨ c = 43 ∨ 70 ≤ c ∧ c ≤ 80 ∨ 110 ≤ c) → u c = σ c) (h0 : u 0 2 = σ 0 2) (h69 : ∀ k, ¬ (12 ≤ k ∧ k ≤ 20) → u 69 k = σ 69 k) (h11 : u 11 1 = 0) (h12 : u 69 12 = 0) : IB u := by
  unfold IB iKp at hI ⊢
  rw [h0, h69 0 (by decide), h69 55 (by decide), h69 56 (by decide), h11, h12, h 1 (by decide) (by decide) (by decide) (by decide), h 2 (by decide) (by decide) (by decide) (by decide), h 3 (by decide) (by decide) (by decide) (by decide), h 4 (by decide) (by decide) (by decide) (by decide), h 5 (by decide) (by decide) (by decide) (by decide), h 6 (by decide) (by decide) (by decide) (by decide), h 7 (by decide) (by decide) (by decide) (by decide), h 8 (by decide) (by decide) (by decide) (by decide), h 9 (by decide) (by decide) (by decide) (by decide), h 10 (by decide) (by decide) (by decide) (by decide), h 12 (by decide) (by decide) (by decide) (by decide), h 42 (by decide) (by decide) (by decide) (by decide), h 43 (by decide) (by decide) (by decide) (by decide), h 70 (by decide) (by decide) (by decide) (by decide), h 71 (by decide) (by decide) (by decide) (by decide), h 72 (by decide) (by decide) (by decide) (by decide), h 73 (by decide) (by decide) (by decide) (by decide), h 74 (by decide) (by decide) (by decide) (by decide), h 75 (by decide) (by decide) (by decide) (by decide), h 76 (by decide) (by decide) (by decide) (by decide), h 77 (by decide) (by decide) (by decide) (by decide), h 78 (by decide) (by decide) (by decide) (by decide), h 79 (by decide) (by decide) (by decide) (by decide), h 80 (by decide) (by decide) (by decide) (by decide), h 110 (by decide) (by decide) (by decide) (by decide), h 111 (by decide) (by decide) (by decide) (by decide), h 112 (by decide) (by decide) (by decide) (by decide), h 113 (by decide) (by decide) (by decide) (by decide), h 114 (by decide) (by decide) (by decide) (by decide), h 115 (by decide) (by decide) (by decide) (by decide), h 116 (by decide) (by decide) (by decide) (by decide), h 117 (by decide) (by decide) (by decide) (by decide)]
  obtain ⟨a1, a2, a3, a4, a5, a6, a7, a8⟩ := hI
  exact ⟨a1, a2, a3, a4, a5, ⟨rfl, ⟨0, by omega, rfl⟩, a6.2.2⟩, a7, a8⟩
theorem INV_law0 {σ t u : QS} {L : Cl} {y : Int32} (hI : INV σ) (hx : LX0 σ t (.ok L) y) (hf : FM t u) (hO : OKM t u 0 L) (hG : GdL L 0) : INV u := by
  obtain ⟨ft, f0, f11, -, z0, z61, s, s', k0, k1, hl14, hz, hC, hLt, hTk, hts⟩ := hx
  obtain ⟨u1, u2, u3⟩ := hf
  have ut : ∀ c, c < 69 → u c = t c := fun c hc => u1 c (by omega)
  have LWn : LW σ 0 := hI.2.1
  have hLo : LW σ 1 := hI.2.2.1
  obtain ⟨-, n1, L1, T1, E1, ⟨-, -, op, ar, hV, -⟩, -, -⟩ := LWn
  have new : LW u 0 := by
    have hsp := spr_cl (t := u) hTk (fun c hc => (ut c (by omega)).trans (hts c hc)) hC hLt hl14 hz
    obtain ⟨hC2, hL2⟩ := hsp
    have hM := hO.2.2.2.2
    obtain ⟨τ, hM, -⟩ := hM
    have e1 : u 13 1 = nI (zl L) := by rw [ut 13 (by decide), hts 13 (by decide), hTk.2.2.1]; exact k1
    have e0 : u 13 0 = nI L.length := by rw [ut 13 (by decide), hts 13 (by decide), hTk.2.1]; exact k0
    refine ⟨?_, L.length, lf L, cT (spr u 13) (zl L), cE (spr u 13) (zl L), LM_new (by decide) hG hC2 hz hO ⟨op, ar, by rw [ft 87 (by decide)]; exact hV⟩, ?_, fun v c hc => ?_⟩
    · unfold LC
      rw [if_pos rfl]
      exact ⟨zl L, e1, LV_new hG hC2 hM hL2 hl14 hz⟩
    · rw [if_pos rfl]; exact e0
    · have := ask_new hG hC2 hM hL2 hl14 hz v c hc
      unfold cA
      rw [if_pos rfl, e1, cl_nI (by omega)]
      exact this
  have old : LW u 1 := by
    have uo : ∀ c, 22 ≤ c ∧ c ≤ 29 → u c = σ c := fun c hc => (ut c (by omega)).trans (ft c (by omega))
    obtain ⟨lc, n2, Lf, T, E, lm, e2, ha⟩ := hLo
    refine ⟨?_, n2, Lf, T, E, LM_old (w := 0) (by decide) (by decide) (by decide) hG hO ?_, ?_, fun v c hc => ?_⟩
    · unfold LC at lc ⊢
      rw [if_neg (by decide)] at lc ⊢
      rw [uo 22 (by decide), uo 23 (by decide), uo 24 (by decide), uo 25 (by decide), uo 26 (by decide), uo 27 (by decide), uo 28 (by decide), uo 29 (by decide)]
      exact lc
    · unfold LM at lm ⊢
      rw [ft 87 (by decide), ft 88 (by decide), ft 89 (by decide), ft 90 (by decide), ft 91 (by decide), ft 92 (by decide)]
      exact lm
    · rw [if_neg (by decide)] at e2 ⊢
      rw [uo 22 (by decide)]
      exact e2
    · have := ha v c hc
      unfold cA at this ⊢
      rw [if_neg (by decide)] at this ⊢
      rw [uo 22 (by decide), uo 23 (by decide), uo 24 (by decide), uo 25 (by decide), uo 26 (by decide), uo 27 (by decide), uo 28 (by decide), uo 29 (by decide)]
      exact this
  refine ⟨IB_law hI.1 (fun c a b e z => ?_) ?_ (fun k hk => ?_) ?_ u3, new, old, Or.inl ?_, Or.inl ?_⟩
  · rw [u1 c (by omega)]; exact ft c (by omega)
  · rw [ut 0 (by decide)]; exact f0 2 (by decide)
  · rw [u2 k hk, ft 69 (by decide)]
  · rw [ut 11 (by decide), f11, upd_eq]
  · rw [ut 0 (by decide)]; exact z0
  · rw [ut 61 (by decide)]; exact z61
theorem INV_lawE0 {σ t u : QS} {e y : Int32} (hI : INV σ) (hx : LX0 σ t (.error e) y) (hf : FM t u) (h8 : ∀ c, 87 ≤ c ∧ c ≤ 92 → u c = t c) : INV u := by
  obtain ⟨ft, f0, f11, -, fl⟩ := hx
  obtain ⟨u1, u2, u3⟩ := hf
  have ut : ∀ c, c < 69 → u c = t c := fun c hc => u1 c (by omega)
  have t0 : ∀ c, ¬ (c = 11 ∨ 31 ≤ c ∧ c ≤ 38 ∨ c = 41) → t c = σ c := fun c hc => by
    by_cases q : c = 0 ∨ 13 ≤ c ∧ c ≤ 20 ∨ c = 61
    · exact fl c q
    · exact ft c (by omega)
  refine INV_fr hI (IB_law hI.1 (fun c a b e z => ?_) ?_ (fun k hk => ?_) ?_ u3) (fun c hc => ?_) (Or.inr ⟨?_, fun c hc => ?_⟩)
  · rw [u1 c (by omega)]; exact t0 c (by omega)
  · rw [ut 0 (by decide), t0 0 (by decide)]
  · rw [u2 k hk, t0 69 (by decide)]
  · rw [ut 11 (by decide), f11, upd_eq]
  · rcases (show c < 69 ∨ 87 ≤ c ∧ c ≤ 92 by omega) with q | q
    · rw [ut c q]; exact t0 c (by omega)
    · rw [h8 c q]; exact t0 c (by omega)
  · rw [ut 0 (by decide), t0 0 (by decide)]
  · rw [ut c (by omega)]; exact t0 c (by omega)
theorem sim_law0 (σ : QS) (n : Int32) (hI : INV σ) (hF : FCh σ) : SimI 74 143 [some (.inr 0), some (.inl 0), some (.inl n), none] [some (.inr 69), some (.inl 0), some (.inl n), none, none] σ := by
  have e12 : σ 69 12 = σ 11 1 := hI.1.2.2.2.2.2.1.1
  have b80 := hI.1.2.2.2.2.2.1.2.2
  have g1 : ¬ (0 : Int32) < 0 := by decide
  have g2 : ¬ 1 < (0 : Int32) := by decide
  by_cases h1 : n < 1
  · exact SimI.no (-1) hI (pX_law0_0 ⟨fun _ => ⟨rfl, rfl⟩, fun z => absurd h1 z⟩) (pM_law_0 ⟨fun z => absurd z g1, fun _ => ⟨fun z => absurd z g2, fun _ => ⟨fun _ => ⟨rfl, rfl⟩, fun z => absurd h1 z⟩⟩⟩)
  by_cases h2 : 200 < n
  · exact SimI.no (-1) hI (pX_law0_0 ⟨fun z => absurd z h1, fun _ => ⟨fun _ => ⟨rfl, rfl⟩, fun z => absurd h2 z⟩⟩) (pM_law_0 ⟨fun z => absurd z g1, fun _ => ⟨fun z => absurd z g2, fun _ => ⟨fun z => absurd z h1, fun _ => ⟨fun _ => ⟨rfl, rfl⟩, fun z => absurd h2 z⟩⟩⟩⟩)
  by_cases h3 : n ≤ σ 11 1
  rotate_left
  · exact SimI.no (-1) hI (pX_law0_0 ⟨fun z => absurd z h1, fun _ => ⟨fun z => absurd z h2, fun _ => ⟨fun z => absurd z h3, fun _ => ⟨rfl, rfl⟩⟩⟩⟩) (pM_law_0 ⟨fun z => absurd z g1, fun _ => ⟨fun z => absurd z g2, fun _ => ⟨fun z => absurd z h1, fun _ => ⟨fun z => absurd z h2, fun _ => ⟨fun z => absurd (by rw [← e12]; exact z) h3, fun _ => ⟨rfl, rfl⟩⟩⟩⟩⟩⟩)
  obtain ⟨j, hj, rfl⟩ : ∃ j, j ≤ 200 ∧ n = nI j := ix_of' (c := 200) (n := 200) rfl (by decide) (fun z => h1 (by rw [i_lt] at z ⊢; rw [show (0 : Int32).toInt = 0 from by decide] at z; rw [show (1 : Int32).toInt = 1 from by decide]; omega)) h2
  have hj1 : 1 ≤ j := by
    rcases Nat.lt_or_ge j 1 with q | q
    · exact absurd ((nI_ltI (b := 1) (by omega) (by decide)).mpr q) h1
    · exact q
  have hT : Tx σ (chM σ j) j := ⟨chM_Ch σ j, hj, fun i hi => by unfold chM; rw [if_pos hi]; exact b80 i (by omega)⟩
  refine ⟨(match cls (chM σ j) j 14 0 0 with
    | .error e => e
    | .ok L => nI L.length), EV.mono (EV.lawX0 (d := 49) (by omega) hj1 hT h3 hF) ?_⟩
  rintro q t ⟨y, rfl, hx⟩
  have ft := hx.1
  have ech : chM t j = chM σ j := by
    funext i
    unfold chM
    rw [ft 80 (by decide)]
  have hm := EV.lawM (d := 52) (w := 0) (n := j) (σ := t) (by decide) hj1 hj (by rw [ft 69 (by decide), e12]; exact h3)
  rw [ech] at hm
  refine ⟨y, rfl, ?_, EV.mono hm ?_⟩
  · cases hcl : cls (chM σ j) j 14 0 0 with
    | error e => rw [hcl] at hx; exact hx.2.2.2.1
    | ok L => rw [hcl] at hx; exact hx.2.2.2.1
  · rintro q u ⟨y2, rfl, hf, hh⟩
    refine ⟨y2, rfl, ?_⟩
    cases hcl : cls (chM σ j) j 14 0 0 with
    | error e =>
      rw [hcl] at hx hh
      exact ⟨hh.1, INV_lawE0 hI hx hf hh.2⟩
    | ok L =>
      rw [hcl] at hx hh
      exact ⟨hh.1, INV_law0 hI hx hf hh.2 (cls_gd (chM_Ch σ j) hj 14 0 0 L (by omega) hcl)⟩
theorem INV_law1 {σ t u : QS} {L : Cl} {y : Int32} (hI : INV σ) (hx : LX1 σ t (.ok L) y) (hf : FM t u) (hO : OKM t u 1 L) (hG : GdL L 0) : INV u := by
  obtain ⟨ft, f0, f11, -, z0, z61, s, s', k0, k1, hl14, hz, hC, hLt, hTk, hts⟩ := hx
  obtain ⟨u1, u2, u3⟩ := hf
  have ut : ∀ c, c < 69 → u c = t c := fun c hc => u1 c (by omega)
  have LWn : LW σ 1 := hI.2.2.1
  have hLo : LW σ 0 := hI.2.1
  obtain ⟨-, n1, L1, T1, E1, ⟨-, -, op, ar, hV, -⟩, -, -⟩ := LWn
  have new : LW u 1 := by
    have hsp := spr_cl (t := u) hTk (fun c hc => (ut c (by omega)).trans (hts c hc)) hC hLt hl14 hz
    obtain ⟨hC2, hL2⟩ := hsp
    have hM := hO.2.2.2.2
    obtain ⟨τ, hM, -⟩ := hM
    have e1 : u 22 1 = nI (zl L) := by rw [ut 22 (by decide), hts 22 (by decide), hTk.2.2.1]; exact k1
    have e0 : u 22 0 = nI L.length := by rw [ut 22 (by decide), hts 22 (by decide), hTk.2.1]; exact k0
    refine ⟨?_, L.length, lf L, cT (spr u 22) (zl L), cE (spr u 22) (zl L), LM_new (by decide) hG hC2 hz hO ⟨op, ar, by rw [ft 87 (by decide)]; exact hV⟩, ?_, fun v c hc => ?_⟩
    · unfold LC
      rw [if_neg (by decide)]
      exact ⟨zl L, e1, LV_new hG hC2 hM hL2 hl14 hz⟩
    · rw [if_neg (by decide)]; exact e0
    · have := ask_new hG hC2 hM hL2 hl14 hz v c hc
      unfold cA
      rw [if_neg (by decide), e1, cl_nI (by omega)]
      exact this
  have old : LW u 0 := by
    have uo : ∀ c, 13 ≤ c ∧ c ≤ 20 → u c = σ c := fun c hc => (ut c (by omega)).trans (ft c (by omega))
    obtain ⟨lc, n2, Lf, T, E, lm, e2, ha⟩ := hLo
    refine ⟨?_, n2, Lf, T, E, LM_old (w := 1) (by decide) (by decide) (by decide) hG hO ?_, ?_, fun v c hc => ?_⟩
    · unfold LC at lc ⊢
      rw [if_pos rfl] at lc ⊢
      rw [uo 13 (by decide), uo 14 (by decide), uo 15 (by decide), uo 16 (by decide), uo 17 (by decide), uo 18 (by decide), uo 19 (by decide), uo 20 (by decide)]
      exact lc
    · unfold LM at lm ⊢
      rw [ft 87 (by decide), ft 88 (by decide), ft 89 (by decide), ft 90 (by decide), ft 91 (by decide), ft 92 (by decide)]
      exact lm
    · rw [if_pos rfl] at e2 ⊢
      rw [uo 13 (by decide)]
      exact e2
    · have := ha v c hc
      unfold cA at this ⊢
      rw [if_pos rfl] at this ⊢
      rw [uo 13 (by decide), uo 14 (by decide), uo 15 (by decide), uo 16 (by decide), uo 17 (by decide), uo 18 (by decide), uo 19 (by decide), uo 20 (by decide)]
      exact this
  refine ⟨IB_law hI.1 (fun c a b e z => ?_) ?_ (fun k hk => ?_) ?_ u3, old, new, Or.inl ?_, Or.inl ?_⟩
  · rw [u1 c (by omega)]; exact ft c (by omega)
  · rw [ut 0 (by decide)]; exact f0 2 (by decide)
  · rw [u2 k hk, ft 69 (by decide)]
  · rw [ut 11 (by decide), f11, upd_eq]
  · rw [ut 0 (by decide)]; exact z0
  · rw [ut 61 (by decide)]; exact z61
theorem INV_lawE1 {σ t u : QS} {e y : Int32} (hI : INV σ) (hx : LX1 σ t (.error e) y) (hf : FM t u) (h8 : ∀ c, 87 ≤ c ∧ c ≤ 92 → u c = t c) : INV u := by
  obtain ⟨ft, f0, f11, -, fl⟩ := hx
  obtain ⟨u1, u2, u3⟩ := hf
  have ut : ∀ c, c < 69 → u c = t c := fun c hc => u1 c (by omega)
  have t0 : ∀ c, ¬ (c = 11 ∨ 31 ≤ c ∧ c ≤ 38 ∨ c = 41) → t c = σ c := fun c hc => by
    by_cases q : c = 0 ∨ 22 ≤ c ∧ c ≤ 29 ∨ c = 61
    · exact fl c q
    · exact ft c (by omega)
  refine INV_fr hI (IB_law hI.1 (fun c a b e z => ?_) ?_ (fun k hk => ?_) ?_ u3) (fun c hc => ?_) (Or.inr ⟨?_, fun c hc => ?_⟩)
  · rw [u1 c (by omega)]; exact t0 c (by omega)
  · rw [ut 0 (by decide), t0 0 (by decide)]
  · rw [u2 k hk, t0 69 (by decide)]
  · rw [ut 11 (by decide), f11, upd_eq]
  · rcases (show c < 69 ∨ 87 ≤ c ∧ c ≤ 92 by omega) with q | q
    · rw [ut c q]; exact t0 c (by omega)
    · rw [h8 c q]; exact t0 c (by omega)
  · rw [ut 0 (by decide), t0 0 (by decide)]
  · rw [ut c (by omega)]; exact t0 c (by omega)
theorem sim_law1 (σ : QS) (n : Int32) (hI : INV σ) (hF : FCh σ) : SimI 74 143 [some (.inr 0), some (.inl 1), some (.inl n), none] [some (.inr 69), some (.inl 1), some (.inl n), none, none] σ := by
  have e12 : σ 69 12 = σ 11 1 := hI.1.2.2.2.2.2.1.1
  have b80 := hI.1.2.2.2.2.2.1.2.2
  have g1 : ¬ (1 : Int32) < 0 := by decide
  have g2 : ¬ 1 < (1 : Int32) := by decide
  by_cases h1 : n < 1
  · exact SimI.no (-1) hI (pX_law1_0 ⟨fun _ => ⟨rfl, rfl⟩, fun z => absurd h1 z⟩) (pM_law_0 ⟨fun z => absurd z g1, fun _ => ⟨fun z => absurd z g2, fun _ => ⟨fun _ => ⟨rfl, rfl⟩, fun z => absurd h1 z⟩⟩⟩)
  by_cases h2 : 200 < n
  · exact SimI.no (-1) hI (pX_law1_0 ⟨fun z => absurd z h1, fun _ => ⟨fun _ => ⟨rfl, rfl⟩, fun z => absurd h2 z⟩⟩) (pM_law_0 ⟨fun z => absurd z g1, fun _ => ⟨fun z => absurd z g2, fun _ => ⟨fun z => absurd z h1, fun _ => ⟨fun _ => ⟨rfl, rfl⟩, fun z => absurd h2 z⟩⟩⟩⟩)
  by_cases h3 : n ≤ σ 11 1
  rotate_left
  · exact SimI.no (-1) hI (pX_law1_0 ⟨fun z => absurd z h1, fun _ => ⟨fun z => absurd z h2, fun _ => ⟨fun z => absurd z h3, fun _ => ⟨rfl, rfl⟩⟩⟩⟩) (pM_law_0 ⟨fun z => absurd z g1, fun _ => ⟨fun z => absurd z g2, fun _ => ⟨fun z => absurd z h1, fun _ => ⟨fun z => absurd z h2, fun _ => ⟨fun z => absurd (by rw [← e12]; exact z) h3, fun _ => ⟨rfl, rfl⟩⟩⟩⟩⟩⟩)
  obtain ⟨j, hj, rfl⟩ : ∃ j, j ≤ 200 ∧ n = nI j := ix_of' (c := 200) (n := 200) rfl (by decide) (fun z => h1 (by rw [i_lt] at z ⊢; rw [show (0 : Int32).toInt = 0 from by decide] at z; rw [show (1 : Int32).toInt = 1 from by decide]; omega)) h2
  have hj1 : 1 ≤ j := by
    rcases Nat.lt_or_ge j 1 with q | q
    · exact absurd ((nI_ltI (b := 1) (by omega) (by decide)).mpr q) h1
    · exact q
  have hT : Tx σ (chM σ j) j := ⟨chM_Ch σ j, hj, fun i hi => by unfold chM; rw [if_pos hi]; exact b80 i (by omega)⟩
  refine ⟨(match cls (chM σ j) j 14 0 0 with
    | .error e => e
    | .ok L => nI L.length), EV.mono (EV.lawX1 (d := 49) (by omega) hj1 hT h3 hF) ?_⟩
  rintro q t ⟨y, rfl, hx⟩
  have ft := hx.1
  have ech : chM t j = chM σ j := by
    funext i
    unfold chM
    rw [ft 80 (by decide)]
  have hm := EV.lawM (d := 52) (w := 1) (n := j) (σ := t) (by decide) hj1 hj (by rw [ft 69 (by decide), e12]; exact h3)
  rw [ech] at hm
  refine ⟨y, rfl, ?_, EV.mono hm ?_⟩
  · cases hcl : cls (chM σ j) j 14 0 0 with
    | error e => rw [hcl] at hx; exact hx.2.2.2.1
    | ok L => rw [hcl] at hx; exact hx.2.2.2.1
  · rintro q u ⟨y2, rfl, hf, hh⟩
    refine ⟨y2, rfl, ?_⟩
    cases hcl : cls (chM σ j) j 14 0 0 with
    | error e =>
      rw [hcl] at hx hh
      exact ⟨hh.1, INV_lawE1 hI hx hf hh.2⟩
    | ok L =>
      rw [hcl] at hx hh
      exact ⟨hh.1, INV_law1 hI hx hf hh.2 (cls_gd (chM_Ch σ j) hj 14 0 0 L (by omega) hcl)⟩
theorem sim_law (σ : QS) (w n : Int32) (hI : INV σ) (hF : FCh σ) : SimI 74 143 [some (.inr 0), some (.inl w), some (.inl n), none] [some (.inr 69), some (.inl w), some (.inl n), none, none] σ := by
  by_cases w0 : w = 0
  · subst w0; exact sim_law0 σ n hI hF
  by_cases w1 : w = 1
  · subst w1; exact sim_law1 σ n hI hF
  refine SimI.no (-1) hI (pX_law_0 ⟨fun z => absurd z w0, fun _ => ⟨fun _ => ⟨rfl, rfl⟩, fun z => absurd z w1⟩⟩) (pM_law_0 ⟨fun _ => ⟨rfl, rfl⟩, fun q => ⟨fun _ => ⟨rfl, rfl⟩, fun q2 => ?_⟩⟩)
  obtain ⟨j, hj, rfl⟩ : ∃ j, j ≤ 1 ∧ w = nI j := ix_of' (c := 1) (n := 1) rfl (by decide) q q2
  rcases (show j = 0 ∨ j = 1 by omega) with rfl | rfl
  · exact absurd rfl w0
  · exact absurd rfl w1
