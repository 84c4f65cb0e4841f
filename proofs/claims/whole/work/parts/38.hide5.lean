theorem IB_cg {σ s : QS} (h : ∀ c, (c ≤ 12 ∨ c = 42 ∨ c = 43 ∨ 69 ≤ c ∧ c ≤ 80 ∨ 110 ≤ c) → s c = σ c) (hI : IB σ) : IB s := by
  unfold IB iKp at hI ⊢
  rw [h 2 (by decide), h 70 (by decide), h 3 (by decide), h 72 (by decide), h 73 (by decide), h 74 (by decide), h 5 (by decide), h 75 (by decide), h 4 (by decide), h 76 (by decide), h 77 (by decide), h 78 (by decide), h 1 (by decide), h 69 (by decide), h 0 (by decide), h 7 (by decide), h 110 (by decide), h 8 (by decide), h 111 (by decide), h 112 (by decide), h 113 (by decide), h 10 (by decide), h 114 (by decide), h 9 (by decide), h 115 (by decide), h 116 (by decide), h 117 (by decide), h 6 (by decide), h 11 (by decide), h 12 (by decide), h 80 (by decide), h 42 (by decide), h 79 (by decide), h 43 (by decide), h 71 (by decide)]
  exact hI
theorem Wd_ge (hb : Bool) (g : Nat → Nat) (s q : Nat) : g q ≤ Wd hb g s q := by
  unfold Wd
  split
  · exact Nat.le_refl _
  · split <;> omega
theorem En_top (w : Nat) : En w ≤ 1000000000 := by
  by_cases h : w < 1000
  · rw [En_lo h]; exact nI_le' (b := 1000000000) (by omega) (by decide)
  · rw [En_hi (by omega)]; decide
def ScI (g : Nat → Nat) (k : Nat) (B : Int32) (m : Nat) : Prop := (k = 8 ∧ B = 1000000000 ∧ m = 0) ∨ (k ≤ 7 ∧ k ≤ m ∧ m ≤ 7 ∧ B = En (g m) ∧ (∀ j, k ≤ j → j ≤ 7 → ¬ En (g j) < En (g m)) ∧ ∀ j, k ≤ j → j < m → En (g m) < En (g j))
theorem ScI_take {g : Nat → Nat} {k m : Nat} {B : Int32} (hk : k ≤ 7) (h : ScI g (k + 1) B m) (hy : En (g k) ≤ B) : ScI g k (En (g k)) k := by
  refine Or.inr ⟨hk, Nat.le_refl k, hk, rfl, fun j h1 h2 => ?_, fun j h1 h2 => by omega⟩
  by_cases e : j = k
  · subst e; rw [En_lt]; omega
  · rcases h with ⟨h3, h4, h5⟩ | ⟨h3, h4, h5, h6, h7, h8⟩
    · omega
    · have := h7 j (by omega) h2
      rw [h6] at hy
      rw [En_lt] at this ⊢
      rw [En_le] at hy
      omega
theorem ScI_keep {g : Nat → Nat} {k m : Nat} {B : Int32} (hk : k ≤ 7) (h : ScI g (k + 1) B m) (hy : ¬ En (g k) ≤ B) : ScI g k B m := by
  rcases h with ⟨h3, h4, h5⟩ | ⟨h3, h4, h5, h6, h7, h8⟩
  · rw [h4] at hy; exact absurd (En_top _) hy
  · refine Or.inr ⟨hk, by omega, h5, h6, fun j h1 h2 => ?_, fun j h1 h2 => ?_⟩
    · by_cases e : j = k
      · subst e
        rw [h6, En_le] at hy
        rw [En_lt]
        omega
      · exact h7 j (by omega) h2
    · by_cases e : j = k
      · subst e
        rw [h6, En_le] at hy
        rw [En_lt]
        omega
      · exact h8 j (by omega) h2
theorem ScI_end {g : Nat → Nat} {m : Nat} {B : Int32} (h : ScI g 0 B m) : B = En (g (am g 7)) ∧ (g (am g 7) < 1000 → m = am g 7) := by
  rcases h with ⟨h3, h4, h5⟩ | ⟨h3, h4, h5, h6, h7, h8⟩
  · omega
  have ha := am_le g 7
  have hm := am_min g 7 m h5
  have h1 := h7 (am g 7) (by omega) ha
  rw [En_lt] at h1
  have he : g (am g 7) < 1000 → m = am g 7 := by
    intro hl
    have e : g (am g 7) = g m := by omega
    rcases Nat.lt_trichotomy m (am g 7) with z | z | z
    · have := am_first g 7 m z; omega
    · exact z
    · have := h8 (am g 7) (by omega) z
      rw [En_lt] at this
      omega
  refine ⟨?_, he⟩
  rw [h6]
  by_cases hl : g (am g 7) < 1000
  · rw [he hl]
  · rw [En_hi (by omega), En_hi (by omega)]
set_option maxHeartbeats 1000000 in
theorem EV.hidM {d : Nat} {σ : QS} {lk : Nat → Int32} {x n t : Nat} {p w : Int32} {C : Nat → Int32} (hn0 : 0 < n) (hn : x + n ≤ 24) (hC : MsM (σ 70) lk p (x + n) n C) (hw : w = -1 ∨ w = nI (x + t) ∧ t < n) : EV (d + 3) 182 12 [some (.inr 69), some (.inl (nI x)), some (.inl (nI (x + n))), some (.inl p), some (.inl w), some (.inl 1000000000), some (.inl 0), some (.inl 7), none] [] (q_set σ 108 C) (qis (if Dd (σ 70) lk p (x + n) (n - 1) (pr (σ 70) lk p x n 0) < 1000 then (if w = -1 then nI (Dd (σ 70) lk p (x + n) (n - 1) (pr (σ 70) lk p x n 0)) else nI (pr (σ 70) lk p x n t)) else -2) (q_set σ 108 C)) := by
  have hC2 : ∀ i, i < n → ∀ r, r < 8 → (q_set σ 108 C) 108 ((x + i) * 8 + r) = En (Dd (σ 70) lk p (x + n) (n - 1 - i) r) := by
    intro i hi r hr
    have := hC (n - 1 - i) (by omega) r hr
    rw [show x + n - 1 - (n - 1 - i) = x + i by omega] at this
    exact this
  generalize hV : (if Dd (σ 70) lk p (x + n) (n - 1) (pr (σ 70) lk p x n 0) < 1000 then (if w = -1 then nI (Dd (σ 70) lk p (x + n) (n - 1) (pr (σ 70) lk p x n 0)) else nI (pr (σ 70) lk p x n t)) else -2) = V
  -- the way through the ROOMS
  have path : Dd (σ 70) lk p (x + n) (n - 1) (pr (σ 70) lk p x n 0) < 1000 → ¬ w = -1 → ∀ m i v5 w8, i + m = t → Dd (σ 70) lk p (x + n) (n - 1 - i) (pr (σ 70) lk p x n i) < 1000 → EV (d + 3) 182 22 [some (.inr 69), some (.inl (nI x)), some (.inl (nI (x + n))), some (.inl p), some (.inl w), some (.inl v5), some (.inl (nI (pr (σ 70) lk p x n i))), some (.inl (nI (x + i))), w8] [] (q_set σ 108 C) (qis V (q_set σ 108 C)) := by
    intro hM hw1
    obtain ⟨hw2, ht⟩ := hw.resolve_left hw1
    rw [if_pos hM, if_neg hw1] at hV
    intro m
    induction m with
    | zero =>
      intro i v5 w8 hi hD
      have hi : i = t := by omega
      subst hi
      refine pM_hidden_22 ⟨fun _ => ⟨by rw [hV], rfl⟩, fun q => absurd ?_ q⟩
      rw [hw2]; exact nI_le' (Nat.le_refl _) (by omega)
    | succ m ih =>
      intro i v5 w8 hi hD
      refine pM_hidden_22 ⟨fun q => ?_, fun _ => ?_⟩
      · rw [hw2] at q; exact absurd q (nI_nle' (by omega) (by omega))
      have hp8 := pr_lt (σ 70) lk p x n i
      obtain ⟨k, hk⟩ : ∃ k, n - 1 - i = k + 1 := ⟨n - 1 - i - 1, by omega⟩
      have hk2 : n - 1 - (i + 1) = k := by omega
      have hpr : pr (σ 70) lk p x n (i + 1) = am (Wd (hp (σ 70) p (x + (i + 1))) (Dd (σ 70) lk p (x + n) k) (pr (σ 70) lk p x n i)) 7 := by rw [pr, hk2]
      generalize hW : Wd (hp (σ 70) p (x + (i + 1))) (Dd (σ 70) lk p (x + n) k) (pr (σ 70) lk p x n i) = W at hpr
      have hDW : Dd (σ 70) lk p (x + n) (k + 1) (pr (σ 70) lk p x n i) = W (am W 7) := by
        have h2 := hD
        rw [hk] at h2
        rw [Dd, show x + n - 1 - k = x + (i + 1) by omega, hW] at h2 ⊢
        split at h2
        · rename_i hc
          rw [if_pos hc]
          omega
        · omega
      have hWl : W (am W 7) < 1000 := by rw [hk, hDW] at hD; exact hD
      have hnext : Dd (σ 70) lk p (x + n) (n - 1 - (i + 1)) (pr (σ 70) lk p x n (i + 1)) < 1000 := by
        rw [hk2, hpr]
        have h3 : Dd (σ 70) lk p (x + n) k (am W 7) ≤ W (am W 7) := by
          have h4 := Wd_ge (hp (σ 70) p (x + (i + 1))) (Dd (σ 70) lk p (x + n) k) (pr (σ 70) lk p x n i) (am W 7)
          rw [hW] at h4
          exact h4
        omega
      have mv : ∀ q, q < 8 → EV (d + 2) 180 0 [some (.inr 69), some (.inl (nI (x + (i + 1)))), some (.inl (nI (pr (σ 70) lk p x n i))), some (.inl (nI q)), some (.inl p), none] [] (q_set σ 108 C) (qis (En (W q)) (q_set σ 108 C)) := by
        intro q hq
        rw [← hW]
        have hcc := hC2 (i + 1) (by omega) q hq
        rw [hk2] at hcc
        exact EV.movesM (by omega) hp8 hq hcc (by have := Dd_rng (f := σ 70) (lk := lk) (p := p) (to := x + n) k (by omega) q; omega)
      have hhere : (q_set σ 108 C) 108 ((x + i) * 8 + pr (σ 70) lk p x n i) = En (W (am W 7)) := by
        rw [hC2 i (by omega) _ hp8, hk, hDW]
      have ha := am_le W 7
      have seek : ∀ l q, q + l = am W 7 → EV (d + 3) 182 24 [some (.inr 69), some (.inl (nI x)), some (.inl (nI (x + n))), some (.inl p), some (.inl w), some (.inl v5), some (.inl (nI (pr (σ 70) lk p x n i))), some (.inl (nI (x + i))), some (.inl (nI q))] [] (q_set σ 108 C) (qis V (q_set σ 108 C)) := by
        intro l
        induction l with
        | zero =>
          intro q hq
          refine pM_hidden_24 ?_
          rw [nI_p1, idx8, cl_nI (by omega)]
          refine ex_I (mv q (by omega)) ⟨vp_in_nI (by omega) (by decide), fun _ => ?_, fun q2 => ?_⟩
          · rw [show q = pr (σ 70) lk p x n (i + 1) by rw [hpr]; omega]
            exact ih (i + 1) _ _ (by omega) hnext
          · rw [hhere, show q = am W 7 by omega] at q2; exact absurd rfl q2
        | succ l ihl =>
          intro q hq
          refine pM_hidden_24 ?_
          rw [nI_p1, idx8, cl_nI (by omega)]
          refine ex_I (mv q (by omega)) ⟨vp_in_nI (by omega) (by decide), fun q2 => ?_, fun _ => ?_⟩
          · exfalso
            rw [hhere] at q2
            have h4 := am_first W 7 q (by omega)
            have := En_lt.mpr ⟨h4, hWl⟩
            rw [q2] at this
            rw [En_lt] at this
            omega
          · rw [nI_p1]
            exact ihl (q + 1) (by omega)
      exact seek (am W 7) 0 (by omega)
  have scan : ∀ k B m w8, ScI (Dd (σ 70) lk p (x + n) (n - 1)) k B m → m ≤ 7 → EV (d + 3) 182 12 [some (.inr 69), some (.inl (nI x)), some (.inl (nI (x + n))), some (.inl p), some (.inl w), some (.inl B), some (.inl (nI m)), some (.inl (nI k + (-1))), w8] [] (q_set σ 108 C) (qis V (q_set σ 108 C)) := by
    intro k
    induction k with
    | zero =>
      intro B m w8 hS hm
      obtain ⟨hB, hmm⟩ := ScI_end hS
      refine pM_hidden_12 ⟨fun _ => ⟨fun q => ?_, fun q => ?_⟩, fun q => absurd (by decide) q⟩
      · have hl : Dd (σ 70) lk p (x + n) (n - 1) (am (Dd (σ 70) lk p (x + n) (n - 1)) 7) < 1000 := by
          rcases Nat.lt_or_ge (Dd (σ 70) lk p (x + n) (n - 1) (am (Dd (σ 70) lk p (x + n) (n - 1)) 7)) 1000 with z | z
          · exact z
          · rw [hB, En_hi z] at q; exact absurd q (by decide)
        refine ⟨fun q2 => ?_, fun q2 => ?_⟩
        · rw [hmm hl]
          exact path hl q2 t 0 _ _ (by omega) hl
        · refine ⟨?_, rfl⟩
          rw [← hV, hB, En_lo hl]
          rw [show pr (σ 70) lk p x n 0 = am (Dd (σ 70) lk p (x + n) (n - 1)) 7 from rfl, if_pos hl, if_pos q2]
      · have hl : ¬ Dd (σ 70) lk p (x + n) (n - 1) (am (Dd (σ 70) lk p (x + n) (n - 1)) 7) < 1000 := by
          intro z
          rw [hB, En_lo z] at q
          apply q
          exact (nI_ltI (b := 1000000000) (by omega) (by decide)).mpr (by omega)
        refine ⟨?_, rfl⟩
        rw [← hV]
        rw [show pr (σ 70) lk p x n 0 = am (Dd (σ 70) lk p (x + n) (n - 1)) 7 from rfl, if_neg hl]
    | succ k ih =>
      intro B m w8 hS hm
      have hk : k ≤ 7 := by
        rcases hS with z | z
        · omega
        · omega
      have hcc := hC2 0 hn0 k (by omega)
      rw [Nat.sub_zero, Nat.add_zero] at hcc
      rw [pk_m1]
      refine pM_hidden_12 ⟨fun q => absurd q (nI_pos (by omega)), fun _ => ?_⟩
      rw [idx8, cl_nI (by omega), hcc]
      refine ⟨vp_in_nI (by omega) (by decide), fun q => ⟨vp_in_nI (by omega) (by decide), ih _ k _ (ScI_take hk hS q) hk⟩, fun q => ih _ m _ (ScI_keep hk hS q) hm⟩
  exact scan 8 1000000000 0 none (Or.inl ⟨rfl, rfl, rfl⟩) (by omega)
theorem i_4096 (x : Int32) : x < 4096 ↔ ¬ 4095 < x := by
  rw [i_lt, i_lt, show (4096 : Int32).toInt = 4096 from by decide, show (4095 : Int32).toInt = 4095 from by decide]
  omega
theorem sim_hidden (σ : QS) (a b p w : Int32) (hI : IB σ) : SimR 90 182 [some (.inr 0), some (.inl a), some (.inl b), some (.inl p), some (.inl w)] [some (.inr 69), some (.inl a), some (.inl b), some (.inl p), some (.inl w), none, none, none, none] σ := by
  have no : ∀ r s, qis r s (some r) s := fun r s => ⟨rfl, rfl⟩
  by_cases h0 : a < 0
  · exact (Sim.no (-3) hI (pX_hidden_0 ⟨fun _ => no _ _, fun q => absurd h0 q⟩) (pM_hidden_0 ⟨fun _ => no _ _, fun q => absurd h0 q⟩)).toR
  by_cases h1 : b ≤ a
  · exact (Sim.no (-3) hI (pX_hidden_0 ⟨fun _ => no _ _, fun _ => ⟨fun _ => no _ _, fun q => absurd h1 q⟩⟩) (pM_hidden_0 ⟨fun _ => no _ _, fun _ => ⟨fun _ => no _ _, fun q => ⟨fun _ => no _ _, fun q2 => absurd ((st_lt h0 q).mpr h1) q2⟩⟩⟩)).toR
  by_cases h2 : 24 < b
  · exact (Sim.no (-3) hI (pX_hidden_0 ⟨fun _ => no _ _, fun _ => ⟨fun _ => no _ _, fun _ => ⟨fun _ => no _ _, fun q => absurd h2 q⟩⟩⟩) (pM_hidden_0 ⟨fun _ => no _ _, fun _ => ⟨fun _ => no _ _, fun q => ⟨fun _ => no _ _, fun q2 => ⟨fun _ => no _ _, fun q3 => absurd h2 q3⟩⟩⟩⟩)).toR
  obtain ⟨x, n, hn0, hn, rfl, rfl⟩ := st_ok h0 h1 h2
  have g0 : ¬ 24 ≤ nI x := nI_nle' (a := 24) (by omega) (by omega)
  have g1 : ¬ nI (x + n) < nI x + 1 := fun q => h1 ((st_lt h0 g0).mp q)
  by_cases h3 : p < 0
  · exact (Sim.no (-3) hI (pX_hidden_0 ⟨fun q => absurd q h0, fun _ => ⟨fun q => absurd q h1, fun _ => ⟨fun q => absurd q h2, fun _ => ⟨fun _ => no _ _, fun q => absurd h3 q⟩⟩⟩⟩) (pM_hidden_0 ⟨fun q => absurd q h0, fun _ => ⟨fun q => absurd q g0, fun _ => ⟨fun q => absurd q g1, fun _ => ⟨fun q => absurd q h2, fun _ => ⟨fun _ => no _ _, fun q => absurd h3 q⟩⟩⟩⟩⟩)).toR
  by_cases h4 : 4095 < p
  · have g4 : ¬ p < 4096 := fun q => (i_4096 p).mp q h4
    exact (Sim.no (-3) hI (pX_hidden_0 ⟨fun q => absurd q h0, fun _ => ⟨fun q => absurd q h1, fun _ => ⟨fun q => absurd q h2, fun _ => ⟨fun q => absurd q h3, fun _ => ⟨fun q => absurd q g4, fun _ => no _ _⟩⟩⟩⟩⟩) (pM_hidden_0 ⟨fun q => absurd q h0, fun _ => ⟨fun q => absurd q g0, fun _ => ⟨fun q => absurd q g1, fun _ => ⟨fun q => absurd q h2, fun _ => ⟨fun q => absurd q h3, fun _ => ⟨fun _ => no _ _, fun q => absurd h4 q⟩⟩⟩⟩⟩⟩)).toR
  have g4 : p < 4096 := (i_4096 p).mpr h4
  have eb : nI (x + n) - 1 = nI (x + n - 1) := pk_sub (b := 1) (by omega)
  have hwb : w < nI (x + n) ↔ ¬ nI (x + n) - 1 < w := by
    rw [eb, i_lt, i_lt, nI_toInt (by omega), nI_toInt (by omega)]
    omega
  by_cases hw1 : ¬ w = (-1) ∧ w < nI x
  · exact (Sim.no (-3) hI (pX_hidden_0 ⟨fun q => absurd q h0, fun _ => ⟨fun q => absurd q h1, fun _ => ⟨fun q => absurd q h2, fun _ => ⟨fun q => absurd q h3, fun _ => ⟨fun _ => ⟨fun q => absurd q hw1.1, fun _ => ⟨fun _ => no _ _, fun q => absurd hw1.2 q⟩⟩, fun q => absurd g4 q⟩⟩⟩⟩⟩) (pM_hidden_0 ⟨fun q => absurd q h0, fun _ => ⟨fun q => absurd q g0, fun _ => ⟨fun q => absurd q g1, fun _ => ⟨fun q => absurd q h2, fun _ => ⟨fun q => absurd q h3, fun _ => ⟨fun q => absurd q h4, fun _ => ⟨fun q => absurd q hw1.1, fun _ => ⟨fun _ => no _ _, fun q => absurd hw1.2 q⟩⟩⟩⟩⟩⟩⟩⟩)).toR
  by_cases hw2 : ¬ w = (-1) ∧ ¬ w < nI (x + n)
  · have g5 : ¬ w < nI x := fun q => hw1 ⟨hw2.1, q⟩
    have g6 : nI (x + n) - 1 < w := by
      rcases Classical.em (nI (x + n) - 1 < w) with z | z
      · exact z
      · exact absurd (hwb.mpr z) hw2.2
    exact (Sim.no (-3) hI (pX_hidden_0 ⟨fun q => absurd q h0, fun _ => ⟨fun q => absurd q h1, fun _ => ⟨fun q => absurd q h2, fun _ => ⟨fun q => absurd q h3, fun _ => ⟨fun _ => ⟨fun q => absurd q hw2.1, fun _ => ⟨fun q => absurd q g5, fun _ => ⟨fun q => absurd q hw2.2, fun _ => no _ _⟩⟩⟩, fun q => absurd g4 q⟩⟩⟩⟩⟩) (pM_hidden_0 ⟨fun q => absurd q h0, fun _ => ⟨fun q => absurd q g0, fun _ => ⟨fun q => absurd q g1, fun _ => ⟨fun q => absurd q h2, fun _ => ⟨fun q => absurd q h3, fun _ => ⟨fun q => absurd q h4, fun _ => ⟨fun q => absurd q hw2.1, fun _ => ⟨fun q => absurd q g5, fun _ => ⟨fun _ => no _ _, fun q => absurd g6 q⟩⟩⟩⟩⟩⟩⟩⟩⟩)).toR
  obtain ⟨t, hw⟩ : ∃ t, w = -1 ∨ w = nI (x + t) ∧ t < n := by
    rcases Classical.em (w = -1) with z | z
    · exact ⟨0, Or.inl z⟩
    · have g5 : ¬ w < nI x := fun q => hw1 ⟨z, q⟩
      have g6 : w < nI (x + n) := by
        rcases Classical.em (w < nI (x + n)) with q | q
        · exact q
        · exact absurd ⟨z, q⟩ hw2
      have g7 : ¬ w < 0 := by
        intro q
        apply g5
        rw [i_lt] at q ⊢
        rw [nI_toInt (by omega)]
        rw [show (0 : Int32).toInt = 0 from by decide] at q
        omega
      obtain ⟨y, hy, rfl⟩ := nI_of g7
      rw [nI_ltP hy (by omega)] at g5 g6
      exact ⟨y - x, Or.inr ⟨by rw [show x + (y - x) = y by omega], by omega⟩⟩
  have hI' := hI
  obtain ⟨a1, a2, a3, a4, a5, a6, a7, a8⟩ := hI'
  -- the reference, from any state that is alike in what is asked
  have model : ∀ s, (∀ c, c ≠ 65 → c ≠ 66 → c ≠ 67 → s c = σ c) → EV 60 182 0 [some (.inr 69), some (.inl (nI x)), some (.inl (nI (x + n))), some (.inl p), some (.inl w), none, none, none, none] [] s (qI (fun y s2 => y = (if Dd (σ 2) (σ 42) p (x + n) (n - 1) (pr (σ 2) (σ 42) p x n 0) < 1000 then (if w = -1 then nI (Dd (σ 2) (σ 42) p (x + n) (n - 1) (pr (σ 2) (σ 42) p x n 0)) else nI (pr (σ 2) (σ 42) p x n t)) else -2) ∧ IB s2 ∧ FrL σ s2 ∧ FrD σ s2)) := by
    intro s hs
    have s70 : s 70 = σ 2 := by rw [hs 70 (by decide) (by decide) (by decide), a1.1]
    have s79 : s 79 = σ 79 := hs 79 (by decide) (by decide) (by decide)
    have done : ∀ C, IB (q_set s 108 C) ∧ FrL σ (q_set s 108 C) ∧ FrD σ (q_set s 108 C) := by
      intro C
      refine ⟨IB_cg (fun c hc => ?_) hI, fun c hc => ?_, Or.inr ⟨?_, fun c hc => ?_⟩⟩
      · rw [q_set_ne _ _ (by omega)]; exact hs c (by omega) (by omega) (by omega)
      · rw [q_set_ne _ _ (by omega)]; exact hs c (by omega) (by omega) (by omega)
      · show s 0 12 = σ 0 12
        rw [hs 0 (by decide) (by decide) (by decide)]
      · rw [q_set_ne _ _ (by omega)]; exact hs c (by omega) (by omega) (by omega)
    have lays : EV (57 + 2) 181 0 [some (.inr 69), some (.inl (nI x)), some (.inl (nI (x + n))), some (.inl p), none, none, none, none, none] [] s (qV (fun u => ∃ C, u = q_set s 108 C ∧ MsM (s 70) (σ 42) p (x + n) n C)) := EV.laysM hn0 hn (by rw [s70]; exact a1.2) (fun o ho => by rw [s79]; exact a7.1 o ho) a7.2
    have fin : ∀ u, (∃ C, u = q_set s 108 C ∧ MsM (s 70) (σ 42) p (x + n) n C) → EV (57 + 3) 182 12 [some (.inr 69), some (.inl (nI x)), some (.inl (nI (x + n))), some (.inl p), some (.inl w), some (.inl 1000000000), some (.inl 0), some (.inl 7), none] [] u (qI (fun y s2 => y = (if Dd (σ 2) (σ 42) p (x + n) (n - 1) (pr (σ 2) (σ 42) p x n 0) < 1000 then (if w = -1 then nI (Dd (σ 2) (σ 42) p (x + n) (n - 1) (pr (σ 2) (σ 42) p x n 0)) else nI (pr (σ 2) (σ 42) p x n t)) else -2) ∧ IB s2 ∧ FrL σ s2 ∧ FrD σ s2)) := by
      rintro u ⟨C, rfl, hC⟩
      have := EV.hidM (d := 57) (σ := s) (lk := σ 42) (t := t) hn0 hn hC hw
      rw [s70] at this
      exact this.toI ⟨rfl, done C⟩
    refine pM_hidden_0 (d := 57) ⟨fun q => absurd q h0, fun _ => ⟨fun q => absurd q g0, fun _ => ⟨fun q => absurd q g1, fun _ => ⟨fun q => absurd q h2, fun _ => ⟨fun q => absurd q h3, fun _ => ⟨fun q => absurd q h4, fun _ => ⟨fun _ => ⟨_, lays, fin⟩, fun q => ⟨fun q2 => absurd ⟨q, q2⟩ hw1, fun _ => ⟨fun q3 => ?_, fun _ => ⟨_, lays, fin⟩⟩⟩⟩⟩⟩⟩⟩⟩⟩
    exact absurd ⟨q, fun z => hwb.mp z q3⟩ hw2
  have seek := EV.seekX (d := 56) (σ := σ) (p := p) hn0 hn a1.2
  refine ⟨(if Dd (σ 2) (σ 42) p (x + n) (n - 1) (pr (σ 2) (σ 42) p x n 0) < 1000 then (if w = -1 then nI (Dd (σ 2) (σ 42) p (x + n) (n - 1) (pr (σ 2) (σ 42) p x n 0)) else nI (pr (σ 2) (σ 42) p x n t)) else -2), pX_hidden_0 (d := 56) ⟨fun q => absurd q h0, fun _ => ⟨fun q => absurd q h1, fun _ => ⟨fun q => absurd q h2, fun _ => ⟨fun q => absurd q h3, fun _ => ⟨fun _ => ⟨fun q6 => ⟨_, seek, ?_⟩, fun q6 => ⟨fun q => absurd ⟨q6, q⟩ hw1, fun _ => ⟨fun _ => ⟨_, seek, ?_⟩, fun q => absurd ⟨q6, q⟩ hw2⟩⟩⟩, fun q => absurd g4 q⟩⟩⟩⟩⟩⟩
  · rintro y s ⟨hy, hm, hr, hs⟩
    refine ⟨fun q => ⟨fun q2 => absurd q6 q2, fun _ => ?_⟩, fun q => ?_⟩
    · have hl : Dd (σ 2) (σ 42) p (x + n) (n - 1) (pr (σ 2) (σ 42) p x n 0) < 1000 := by
        rcases Classical.em (Dd (σ 2) (σ 42) p (x + n) (n - 1) (pr (σ 2) (σ 42) p x n 0) < 1000) with z | z
        · exact z
        · rw [if_neg z] at hy; exact absurd hy q
      exact ⟨s 65 4, rfl, by rw [hm, if_pos hl, if_pos q6], model s hs⟩
    · have hl : ¬ Dd (σ 2) (σ 42) p (x + n) (n - 1) (pr (σ 2) (σ 42) p x n 0) < 1000 := fun z => by rw [if_pos z] at hy; rw [hy] at q; exact absurd q (by decide)
      exact ⟨_, rfl, by rw [if_neg hl], model s hs⟩
  · rintro y s ⟨hy, hm, hr, hs⟩
    obtain ⟨hw3, ht⟩ := hw.resolve_left q6
    have iw : vp_in w 24 := by rw [hw3]; exact vp_in_nI (by omega) (by decide)
    refine ⟨fun q => ⟨fun q2 => ⟨iw, ?_⟩, fun q2 => absurd q2 q6⟩, fun q => ?_⟩
    · have hl : Dd (σ 2) (σ 42) p (x + n) (n - 1) (pr (σ 2) (σ 42) p x n 0) < 1000 := by
        rcases Classical.em (Dd (σ 2) (σ 42) p (x + n) (n - 1) (pr (σ 2) (σ 42) p x n 0) < 1000) with z | z
        · exact z
        · rw [if_neg z] at hy; exact absurd hy q
      refine ⟨_, rfl, ?_, model s hs⟩
      rw [if_pos hl, if_neg q6, hw3, cl_nI (by omega)]
      exact hr t ht
    · have hl : ¬ Dd (σ 2) (σ 42) p (x + n) (n - 1) (pr (σ 2) (σ 42) p x n 0) < 1000 := fun z => by rw [if_pos z] at hy; rw [hy] at q; exact absurd q (by decide)
      exact ⟨_, rfl, by rw [if_neg hl], model s hs⟩
