/-- whose an HOUR is when its OWNER o dies: looked for backwards, n steps left -/
def hs (f : Nat → Int32) (o : Int32) (h : Nat) : Nat → Int32
  | 0 => 12
  | n + 1 => if f ((h + 1 + n) % 24) = o then hs f o h n else f ((h + 1 + n) % 24)
def bq (f : Nat → Int32) (o : Int32) (j : Nat) : Nat → Int32 := fun h => if h < j ∧ f h = o then hs f o h 23 else f h
theorem hs_ne {f : Nat → Int32} {o : Int32} {h : Nat} (ho : ¬ o = 12) : ∀ n, ¬ hs f o h n = o
  | 0 => fun e => ho e.symm
  | n + 1 => by
    unfold hs
    split
    · exact hs_ne ho n
    · assumption
theorem hs_shift {f : Nat → Int32} {o : Int32} {j : Nat} (hj : j + 1 < 24) (e : f (j + 1) = o) : ∀ n, hs f o j (n + 1) = hs f o (j + 1) n
  | 0 => by
    unfold hs
    rw [show (j + 1 + 0) % 24 = j + 1 by omega, if_pos e]
    rfl
  | n + 1 => by
    have ih := hs_shift hj e n
    rw [hs, ih]
    conv => rhs; rw [hs]
    rw [show (j + 1 + (n + 1)) % 24 = (j + 1 + 1 + n) % 24 by congr 1; omega]
theorem hs_bq {f : Nat → Int32} {o : Int32} (ho : ¬ o = 12) {j : Nat} (hj : j < 24) (e : f j = o) : hs (bq f o j) o j 23 = hs f o j 23 := by
  cases j with
  | zero =>
    have : bq f o 0 = f := by funext h; simp [bq]
    rw [this]
  | succ j =>
    have ix : (j + 1 + 1 + 22) % 24 = j := by omega
    by_cases hf : f j = o
    · have h1 : bq f o (j + 1) j = hs f o j 23 := by unfold bq; rw [if_pos ⟨by omega, hf⟩]
      have h2 : hs f o (j + 1) 23 = hs f o j 23 := by
        rw [hs, ix, if_pos hf]
        exact (hs_shift hj e 22).symm
      rw [h2]
      conv => lhs; rw [hs]
      rw [ix, h1, if_neg (hs_ne ho 23)]
    · have h1 : bq f o (j + 1) j = f j := by unfold bq; rw [if_neg (fun q => hf q.2)]
      rw [hs, ix, h1, if_neg hf, hs, ix, if_neg hf]
theorem bq_s {f : Nat → Int32} {o : Int32} {j : Nat} (e : f j = o) : upd (bq f o j) j (hs f o j 23) = bq f o (j + 1) := by
  funext h
  simp only [upd, bq]
  by_cases eh : h = j
  · subst eh; rw [if_pos rfl, if_pos ⟨by omega, e⟩]
  · rw [if_neg eh]
    by_cases q : h < j ∧ f h = o
    · rw [if_pos q, if_pos ⟨by omega, q.2⟩]
    · rw [if_neg q, if_neg (fun z => q ⟨by omega, z.2⟩)]
theorem bq_n {f : Nat → Int32} {o : Int32} {j : Nat} (e : ¬ f j = o) : bq f o (j + 1) = bq f o j := by
  funext h
  simp only [bq]
  by_cases eh : h = j
  · subst eh; rw [if_neg (fun z => e z.2), if_neg (fun z => e z.2)]
  · by_cases q : h < j ∧ f h = o
    · rw [if_pos q, if_pos ⟨by omega, q.2⟩]
    · rw [if_neg q, if_neg (fun z => q ⟨by omega, z.2⟩)]
theorem bq_at (f : Nat → Int32) (o : Int32) (j : Nat) : bq f o j j = f j := by unfold bq; rw [if_neg (by omega)]
theorem bq_0 (f : Nat → Int32) (o : Int32) : bq f o 0 = f := by funext h; simp [bq]
theorem EV.heir {d : Nat} {σ : QS} {h : Nat} (hh : h < 24) {o : Int32} : EV d 20 0 [some (.inr 1), some (.inl (nI h)), some (.inl o), none, none] [] σ (qis (hs (σ 2) o h 23) σ) := by
  refine pH_heirOf_0 ?_
  have key : ∀ n, n ≤ 23 → ∀ w4, EV d 20 1 [some (.inr 1), some (.inl (nI h)), some (.inl o), some (.inl (nI (24 - n))), w4] [] σ (qis (hs (σ 2) o h n) σ) := by
    intro n
    induction n with
    | zero =>
      intro _ w4
      exact pH_heirOf_1 ⟨fun _ => ⟨rfl, rfl⟩, fun q => absurd (nI_le' (Nat.le_refl 24) (by omega)) q⟩
    | succ n ih =>
      intro hn w4
      have e1 : nI h + 24 = nI (h + 24) := nI_add h 24
      have e2 : nI (h + 24) - nI (24 - (n + 1)) = nI (h + 24 - (24 - (n + 1))) := pk_sub (by omega)
      have e3 : nI (h + 24 - (24 - (n + 1))) - nI (h + 24 - (24 - (n + 1))) / 24 * 24 = nI ((h + 1 + n) % 24) := by
        have := nI_rem (a := h + 24 - (24 - (n + 1))) 24 (by omega) (by decide) (by decide)
        rw [show (h + 24 - (24 - (n + 1))) % 24 = (h + 1 + n) % 24 by congr 1; omega] at this
        exact this
      have c3 : (nI ((h + 1 + n) % 24)).toNatClampNeg = (h + 1 + n) % 24 := cl_nI (by omega)
      refine pH_heirOf_1 ?_
      simp only [e1, e2, e3, c3]
      refine ⟨fun q => absurd q (nI_nle' (a := 24) (by omega) (by omega)), fun _ => ⟨by decide, vp_in_nI (by omega) (by decide), fun q => ?_, fun q => ?_⟩⟩
      · rw [hs, if_pos q, nI_p1, show 24 - (n + 1) + 1 = 24 - n by omega]
        exact ih (by omega) _
      · rw [hs, if_neg q]
        exact ⟨rfl, rfl⟩
  exact key 23 (by omega) none
theorem EV.beq {d : Nat} {σ : QS} {o : Int32} (ho : ¬ o = 12) : EV (d + 1) 19 0 [some (.inr 1), some (.inl o), none, none] [] σ (qis (nI (ct (isO (σ 2) o) 0 24)) (q_set σ 2 (bq (σ 2) o 24))) := by
  refine pH_bequeath_0 ?_
  have key := up_loop (P := fun j => EV (d + 1) 19 1 [some (.inr 1), some (.inl o), some (.inl (nI (ct (isO (σ 2) o) 0 j))), some (.inl (nI j))] [] (q_set σ 2 (bq (σ 2) o j)) (qis (nI (ct (isO (σ 2) o) 0 24)) (q_set σ 2 (bq (σ 2) o 24)))) (n := 24) ?_ ?_ 0 (by omega)
  · rw [bq_0, q_set_id] at key
    exact key
  · exact pH_bequeath_1 ⟨fun _ => ⟨rfl, rfl⟩, fun q => absurd (nI_le' (Nat.le_refl 24) (by omega)) q⟩
  · intro j hj ih
    have i0 : vp_in (nI j) 24 := vp_in_nI hj (by decide)
    refine pH_bequeath_1 ⟨fun q => absurd q (nI_nle' (a := 24) (by omega) (by omega)), fun _ => ⟨i0, fun q => ?_, fun q => ?_⟩⟩
    · rw [cl_nI (by omega), q_set_eq, bq_at] at q
      have e : ct (isO (σ 2) o) 0 (j + 1) = ct (isO (σ 2) o) 0 j := by simp [ct, isO, q]
      rw [e, bq_n q] at ih
      rw [nI_p1]; exact ih
    · rw [cl_nI (by omega), q_set_eq, bq_at] at q
      have e : ct (isO (σ 2) o) 0 (j + 1) = ct (isO (σ 2) o) 0 j + 1 := by simp [ct, isO, q]
      refine ex_I (EV.heir hj) ⟨i0, ?_⟩
      rw [cl_nI (by omega), q_set_eq, q_set_same, hs_bq ho hj q, bq_s q, nI_p1, nI_p1, ← e]
      exact ih
theorem EV.diesM {d : Nat} {σ : QS} {o : Nat} (ho : o < 12) : EV (d + 1) 189 4 [some (.inr 69), some (.inl (nI o)), some (.inl 0), some (.inl 0), none, none] [] σ (qis (nI (ct (isO (σ 70) (nI o)) 0 24)) (q_set (q_set (q_set (q_set σ 109 (cpN (bq (σ 70) (nI o) 24) (σ 109) 24)) 70 (bq (σ 70) (nI o) 24)) 75 (upd (σ 75) o 0)) 79 (upd (σ 79) o 0))) := by
  have o12 : ¬ nI o = 12 := fun e => by have := (nI_eq (b := 12) (by omega) (by decide)).mp e; omega
  have io : vp_in (nI o) 12 := vp_in_nI ho (by decide)
  have co : (nI o).toNatClampNeg = o := cl_nI (by omega)
  have last : ∀ w4 w5, EV (d + 1) 189 20 [some (.inr 69), some (.inl (nI o)), some (.inl (nI (ct (isO (σ 70) (nI o)) 0 24))), some (.inl 0), w4, w5] [] (q_set σ 109 (cpN (bq (σ 70) (nI o) 24) (σ 109) 24)) (qis (nI (ct (isO (σ 70) (nI o)) 0 24)) (q_set (q_set (q_set (q_set σ 109 (cpN (bq (σ 70) (nI o) 24) (σ 109) 24)) 70 (bq (σ 70) (nI o) 24)) 75 (upd (σ 75) o 0)) 79 (upd (σ 79) o 0))) := by
    intro w4 w5
    have hb : bq (σ 70) (nI o) 24 = cpN (bq (σ 70) (nI o) 24) (σ 70) 24 := by
      funext k
      by_cases hk : k < 24
      · rw [cpN_lt hk]
      · rw [cpN_ge (by omega)]
        unfold bq
        rw [if_neg (fun q => hk q.1)]
    have key := up_loop (P := fun j => EV (d + 1) 189 20 [some (.inr 69), some (.inl (nI o)), some (.inl (nI (ct (isO (σ 70) (nI o)) 0 24))), some (.inl (nI j)), w4, w5] [] (q_set (q_set σ 109 (cpN (bq (σ 70) (nI o) 24) (σ 109) 24)) 70 (cpN (bq (σ 70) (nI o) 24) (σ 70) j)) (qis (nI (ct (isO (σ 70) (nI o)) 0 24)) (q_set (q_set (q_set (q_set σ 109 (cpN (bq (σ 70) (nI o) 24) (σ 109) 24)) 70 (bq (σ 70) (nI o) 24)) 75 (upd (σ 75) o 0)) 79 (upd (σ 79) o 0)))) (n := 24) ?_ ?_ 0 (by omega)
    · rw [cpN_0] at key
      rw [show q_set (q_set σ 109 (cpN (bq (σ 70) (nI o) 24) (σ 109) 24)) 70 (σ 70) = q_set σ 109 (cpN (bq (σ 70) (nI o) 24) (σ 109) 24) from q_set_id (q_set σ 109 (cpN (bq (σ 70) (nI o) 24) (σ 109) 24)) 70] at key
      exact key
    · refine pM_dies_20 ⟨fun _ => ⟨io, io, rfl, ?_⟩, fun q => absurd (nI_le' (Nat.le_refl 24) (by omega)) q⟩
      rw [← hb, co]
      rfl
    · intro j hj ih
      refine pM_dies_20 ⟨fun q => absurd q (nI_nle' (a := 24) (by omega) (by omega)), fun _ => ⟨vp_in_nI hj (by decide), vp_in_nI hj (by decide), ?_⟩⟩
      rw [cl_nI (by omega), nI_p1, q_set_same, q_set_eq, q_set_ne _ _ (by decide), q_set_eq, cpN_lt hj, cpN_s]
      exact ih
  have key := up_loop (P := fun j => ∀ w4 w5, EV (d + 1) 189 4 [some (.inr 69), some (.inl (nI o)), some (.inl (nI (ct (isO (σ 70) (nI o)) 0 j))), some (.inl (nI j)), w4, w5] [] (q_set σ 109 (cpN (bq (σ 70) (nI o) 24) (σ 109) j)) (qis (nI (ct (isO (σ 70) (nI o)) 0 24)) (q_set (q_set (q_set (q_set σ 109 (cpN (bq (σ 70) (nI o) 24) (σ 109) 24)) 70 (bq (σ 70) (nI o) 24)) 75 (upd (σ 75) o 0)) 79 (upd (σ 79) o 0)))) (n := 24) ?_ ?_ 0 (by omega)
  · have := key none none
    rw [cpN_0, q_set_id] at this
    exact this
  · intro w4 w5
    exact pM_dies_4 ⟨fun _ => last w4 w5, fun q => absurd (nI_le' (Nat.le_refl 24) (by omega)) q⟩
  · intro j hj ih w4 w5
    have i0 : vp_in (nI j) 24 := vp_in_nI hj (by decide)
    have c0 : (nI j).toNatClampNeg = j := cl_nI (by omega)
    refine pM_dies_4 ⟨fun q => absurd q (nI_nle' (a := 24) (by omega) (by omega)), fun _ => ⟨i0, i0, i0, fun q => ?_, fun q => ?_⟩⟩
    · rw [c0, q_set_ne _ _ (by decide)] at q
      have e : ct (isO (σ 70) (nI o)) 0 (j + 1) = ct (isO (σ 70) (nI o)) 0 j + 1 := by simp [ct, isO, q]
      rw [c0, nI_p1, ← e, q_set_same, q_set_eq, q_set_ne _ _ (by decide)]
      generalize hS : q_set σ 109 (upd (cpN (bq (σ 70) (nI o) 24) (σ 109) j) j (σ 70 j)) = S
      have s70 : S 70 = σ 70 := by rw [← hS]; exact q_set_ne _ _ (by decide)
      have fin : ∀ v w4 w5, v = hs (σ 70) (nI o) j 23 → EV (d + 1) 189 4 [some (.inr 69), some (.inl (nI o)), some (.inl (nI (ct (isO (σ 70) (nI o)) 0 (j + 1)))), some (.inl (nI (j + 1))), w4, w5] [] (q_set S 109 (upd (S 109) j v)) (qis (nI (ct (isO (σ 70) (nI o)) 0 24)) (q_set (q_set (q_set (q_set σ 109 (cpN (bq (σ 70) (nI o) 24) (σ 109) 24)) 70 (bq (σ 70) (nI o) 24)) 75 (upd (σ 75) o 0)) 79 (upd (σ 79) o 0))) := by
        intro v w4 w5 hv
        have := ih w4 w5
        rw [← cpN_s] at this
        rw [← hS, q_set_same, q_set_eq, upd_same, hv]
        have hb : bq (σ 70) (nI o) 24 j = hs (σ 70) (nI o) j 23 := by unfold bq; rw [if_pos ⟨hj, q⟩]
        rw [hb] at this
        exact this
      have inner : ∀ n, n ≤ 23 → hs (σ 70) (nI o) j n = hs (σ 70) (nI o) j 23 → EV (d + 1) 189 8 [some (.inr 69), some (.inl (nI o)), some (.inl (nI (ct (isO (σ 70) (nI o)) 0 (j + 1)))), some (.inl (nI j)), some (.inl (nI ((j + n) % 24))), some (.inl (nI (24 - n)))] [] S (qis (nI (ct (isO (σ 70) (nI o)) 0 24)) (q_set (q_set (q_set (q_set σ 109 (cpN (bq (σ 70) (nI o) 24) (σ 109) 24)) 70 (bq (σ 70) (nI o) 24)) 75 (upd (σ 75) o 0)) 79 (upd (σ 79) o 0))) := by
        intro n
        induction n with
        | zero =>
          intro _ hn
          have cc : (nI ((j + 0) % 24)).toNatClampNeg = j := by rw [cl_nI (by omega)]; omega
          have ii : vp_in (nI ((j + 0) % 24)) 24 := vp_in_nI (by omega) (by decide)
          refine pM_dies_8 ⟨fun _ => ⟨ii, fun z => ?_, fun _ => ⟨i0, ?_⟩⟩, fun z => absurd (nI_le' (Nat.le_refl 24) (by omega)) z⟩
          · rw [cc, s70] at z; exact absurd q z
          · rw [c0, nI_p1]
            exact fin 12 _ _ hn
        | succ n ihn =>
          intro hn he
          have cc : (nI ((j + (n + 1)) % 24)).toNatClampNeg = (j + (n + 1)) % 24 := cl_nI (by omega)
          have ii : vp_in (nI ((j + (n + 1)) % 24)) 24 := vp_in_nI (by omega) (by decide)
          have ie : (j + 1 + n) % 24 = (j + (n + 1)) % 24 := by congr 1; omega
          refine pM_dies_8 ⟨fun z => absurd z (nI_nle' (a := 24) (by omega) (by omega)), fun _ => ⟨ii, fun q3 => ⟨ii, fun q4 => ⟨ii, i0, ?_⟩, fun q4 => absurd q4 q3⟩, fun q3 => ?_⟩⟩
          · rw [cc, s70] at q3
            rw [c0, nI_p1, cc, s70]
            refine fin _ _ _ ?_
            rw [← he, hs, ie, if_neg q3]
          · rw [cc, s70] at q3
            have he2 : hs (σ 70) (nI o) j n = hs (σ 70) (nI o) j 23 := by rw [← he]; conv => rhs; rw [hs, ie, if_pos q3]
            have nx := ihn (by omega) he2
            rw [nI_p1, show 24 - (n + 1) + 1 = 24 - n by omega]
            refine ⟨fun q5 => ?_, fun q5 => ?_⟩
            · have h0 : 0 < (j + (n + 1)) % 24 := by
                rcases Nat.eq_zero_or_pos ((j + (n + 1)) % 24) with z | z
                · rw [z] at q5; exact absurd rfl q5
                · exact z
              have e1 : nI ((j + (n + 1)) % 24) - 1 = nI ((j + n) % 24) := by
                have := pk_sub (a := (j + (n + 1)) % 24) (b := 1) (by omega)
                rw [show (j + (n + 1)) % 24 - 1 = (j + n) % 24 by omega] at this
                exact this
              rw [e1]; exact nx
            · have h0 : (j + (n + 1)) % 24 = 0 := (nI_eq (b := 0) (by omega) (by decide)).mp q5
              rw [show (j + n) % 24 = 23 by omega] at nx
              exact nx
      have st := inner 23 (by omega) rfl
      refine pM_dies_8 ⟨fun z => absurd z (by decide), fun _ => ⟨i0, fun q3 => ?_, fun q3 => ⟨fun q5 => ?_, fun q5 => ?_⟩⟩⟩
      · rw [c0, s70] at q3; exact absurd q q3
      · have h0 : 0 < j := by
          rcases Nat.eq_zero_or_pos j with z | z
          · rw [z] at q5; exact absurd rfl q5
          · exact z
        have e1 : nI j - 1 = nI ((j + 23) % 24) := by
          have := pk_sub (a := j) (b := 1) (by omega)
          rw [show j - 1 = (j + 23) % 24 by omega] at this
          exact this
        rw [e1]; exact st
      · have h0 : j = 0 := (nI_eq (b := 0) (by omega) (by decide)).mp q5
        subst h0
        exact st
    · rw [c0, q_set_ne _ _ (by decide)] at q
      have e : ct (isO (σ 70) (nI o)) 0 (j + 1) = ct (isO (σ 70) (nI o)) 0 j := by simp [ct, isO, q]
      have := ih w4 w5
      rw [e, ← cpN_s] at this
      have hb : bq (σ 70) (nI o) 24 j = σ 70 j := by unfold bq; rw [if_neg (fun z => q z.2)]
      rw [hb] at this
      rw [c0, nI_p1, q_set_same, q_set_eq, q_set_ne _ _ (by decide)]
      exact this
theorem hs_rng {f : Nat → Int32} (hf : ∀ h, h < 24 → ∃ o, o ≤ 12 ∧ f h = nI o) {o : Int32} {h : Nat} : ∀ n, ∃ q, q ≤ 12 ∧ hs f o h n = nI q
  | 0 => ⟨12, by omega, rfl⟩
  | n + 1 => by
    unfold hs
    split
    · exact hs_rng hf n
    · exact hf _ (by omega)
theorem sim_dies (σ : QS) (o : Int32) (hI : IB σ) : Sim 95 189 [some (.inr 0), some (.inl o), none] [some (.inr 69), some (.inl o), none, none, none, none] σ := by
  by_cases h0 : o < 0
  · exact Sim.no (-1) hI (pX_dies_0 (by simp [h0, qis])) (pM_dies_0 (by simp [h0, qis]))
  by_cases h1 : 12 ≤ o
  · exact Sim.no (-1) hI (pX_dies_0 (by simp [h0, h1, qis])) (pM_dies_0 (by simp [h0, h1, qis]))
  obtain ⟨k, hk, rfl⟩ := ix_of (n := 12) rfl (by decide) h0 h1
  have i0 : vp_in (nI k) 12 := vp_in_nI (by omega) (by decide)
  have c0 : (nI k).toNatClampNeg = k := cl_nI (by omega)
  have i1 : vp_in (nI k) 13 := vp_in_nI (by omega) (by decide)
  have c1 : (nI k).toNatClampNeg = k := cl_nI (by omega)
  have o12 : ¬ nI k = 12 := fun e => by have := (nI_eq (b := 12) (by omega) (by decide)).mp e; omega
  obtain ⟨a1, a2, a3, a4, a5, a6, a7, a8⟩ := hI
  refine Sim.mk2 (nI (ct (isO (σ 2) (nI k)) 0 24)) (pX_dies_0 ⟨fun q => absurd q h0, fun _ => ⟨fun q => absurd q h1, fun _ => ex_I (EV.beq o12) ⟨i0, i1, q_fit10, q_fit10, rfl, rfl⟩⟩⟩) ?_ (fun τ hτ => pM_dies_0 ⟨fun q => absurd q h0, fun _ => ⟨fun q => absurd q h1, fun _ => by rw [show σ 2 = τ 70 by rw [hτ 70 (by decide), a1.1]]; exact EV.diesM hk⟩⟩) ?_ ?_ ?_
  · rw [c0]
    repeat (refine FrM.set (by decide) ?_)
    exact FrM.rf
  · rw [c0]
    refine ⟨⟨?_, fun h hh => ?_⟩, a2, iAc_cnt (j := 0) a3 (by decide), a4, a5, a6, ⟨fun q hq => ?_, ?_⟩, a8⟩
    · show bq (σ 70) (nI k) 24 = bq (σ 2) (nI k) 24
      rw [a1.1]
    · show ∃ o, o ≤ 12 ∧ bq (σ 2) (nI k) 24 h = nI o
      unfold bq
      split
      · exact hs_rng a1.2 23
      · exact a1.2 h hh
    · show upd (σ 79) k 0 q = upd (σ 42) k 0 q
      simp only [upd]
      rw [a7.1 q hq]
    · show upd (σ 42) k 0 12 = 0
      rw [upd_ne _ _ (by omega)]
      exact a7.2
  · rw [c0]
    repeat (refine FrL.set (by decide) ?_)
    exact FrL.rf
  · exact Or.inl ⟨rfl, rfl⟩

