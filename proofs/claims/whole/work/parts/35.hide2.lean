/-- as Sim, the states behind the calls by what holds of them -/
def SimR (mx mm : Nat) (Lx Lm : QL) (σ : QS) : Prop := ∃ r, EV 60 mx 0 Lx [] σ (qI (fun x s1 => x = r ∧ EV 60 mm 0 Lm [] s1 (qI (fun y s2 => y = r ∧ IB s2 ∧ FrL σ s2 ∧ FrD σ s2))))
theorem Sim.toR {mx mm : Nat} {Lx Lm : QL} {σ : QS} (h : Sim mx mm Lx Lm σ) : SimR mx mm Lx Lm σ := by
  obtain ⟨r, σ1, σ2, h1, h2, h3⟩ := h
  exact ⟨r, h1.toI ⟨rfl, h2.toI ⟨rfl, h3⟩⟩⟩
theorem mn1000 (W : Nat) (h : W < 2 ^ 31) : (if nI W < 1000 then nI W else (1000 : Int32)) = nI (min 1000 W) := by
  rw [show (1000 : Int32) = nI 1000 from rfl]
  by_cases q : W < 1000
  · rw [if_pos ((nI_ltI h (by decide)).mpr q), Nat.min_eq_right (by omega)]
  · rw [if_neg (fun z => q ((nI_ltI h (by decide)).mp z)), Nat.min_eq_left (by omega)]
theorem Wd_lt {hb : Bool} {g : Nat → Nat} {s q : Nat} (h : g q ≤ 1000) : Wd hb g s q < 4000 := by
  unfold Wd
  split
  · omega
  · split <;> omega
theorem Dd_le {f lk : Nat → Int32} {p : Int32} {to k : Nat} (hk : k ≤ 23) (r : Nat) : Dd f lk p to k r ≤ 1000 := by
  rcases Dd_rng (f := f) (lk := lk) (p := p) (to := to) k hk r with h | h <;> omega
theorem EV.costX {d : Nat} {σ : QS} {h r to : Nat} {p : Int32} (hh : h < to) (ht : to ≤ 24) (hr : r < 8) (hf : ∀ h, h < 24 → ∃ o, o ≤ 12 ∧ σ 2 h = nI o) (hC : h + 1 < to → ∀ q, q < 8 → σ 66 ((h + 1) * 8 + q) = nI (Dd (σ 2) (σ 42) p to (to - 1 - (h + 1)) q)) : EV (d + 2) 9 0 [some (.inr 65), some (.inl (nI h)), some (.inl (nI r)), some (.inl (nI to)), some (.inl p), none] [] σ (qis (nI (Dd (σ 2) (σ 42) p to (to - 1 - h) r)) σ) := by
  have ch : (nI h).toNatClampNeg = h := cl_nI (by omega)
  obtain ⟨o, ho, eo⟩ := hf h (by omega)
  have i1 : vp_in (σ 2 h) 13 := by rw [eo]; exact vp_in_nI (by omega) (by decide)
  refine pG_costOf_0 ?_
  rw [ch, nI_p1]
  refine ⟨vp_in_nI (by omega) (by decide), i1, fun q1 => ⟨fun q2 => ?_, fun q2 => ?_⟩, fun q1 => ?_⟩
  · rw [nI_ltP (by omega) (by omega)] at q2
    obtain ⟨k, hk⟩ : ∃ k, to - 1 - h = k + 1 := ⟨to - 1 - h - 1, by omega⟩
    have hk2 : to - 1 - (h + 1) = k := by omega
    have hC := hC q2
    rw [hk2] at hC
    have hD : ∀ q, Dd (σ 2) (σ 42) p to k q ≤ 1000 := fun q => Dd_le (by omega) q
    have e1 : to - 1 - (k + 1) = h := by omega
    have e2 : to - 1 - k = h + 1 := by omega
    have ha := am_le (Wd (hp (σ 2) p (h + 1)) (Dd (σ 2) (σ 42) p to k) r) 7
    have hc : cl (σ 2) (σ 42) h r = true := decide_eq_true q1
    refine ex_I (EV.bestX (G := Wd (hp (σ 2) p (h + 1)) (Dd (σ 2) (σ 42) p to k) r) (fun q hq => Wd_lt (hD q)) (fun q hq => EV.withX (by omega) hq hr (hC q hq))) (ex_I (EV.withX (by omega) (by omega) hr (hC _ (by omega))) ⟨?_, rfl⟩)
    rw [mn1000 _ (by have := Wd_lt (hb := hp (σ 2) p (h + 1)) (s := r) (hD (am (Wd (hp (σ 2) p (h + 1)) (Dd (σ 2) (σ 42) p to k) r) 7)); omega), hk, Dd, e1, e2, if_pos hc]
  · rw [nI_ltP (by omega) (by omega)] at q2
    have hc : cl (σ 2) (σ 42) (to - 1) r = true := by rw [show to - 1 = h by omega]; exact decide_eq_true q1
    rw [show to - 1 - h = 0 by omega, Dd, if_pos hc]
    exact ⟨rfl, rfl⟩
  · have hc : ¬ cl (σ 2) (σ 42) h r = true := fun e => q1 (of_decide_eq_true e)
    refine ⟨?_, rfl⟩
    cases hk : to - 1 - h with
    | zero => rw [Dd, show to - 1 = h by omega, if_neg hc]; rfl
    | succ k => rw [Dd, show to - 1 - (k + 1) = h by omega, if_neg hc]; rfl
/-- the costs of the last j HOURS stand -/
def CsX (σ : QS) (p : Int32) (to j : Nat) (C : Nat → Int32) : Prop := ∀ k, k < j → ∀ r, r < 8 → C ((to - 1 - k) * 8 + r) = nI (Dd (σ 2) (σ 42) p to k r)
theorem EV.seek1 {d : Nat} {σ : QS} {x n : Nat} {p : Int32} {Q : QQ} (hn0 : 0 < n) (hn : x + n ≤ 24) (hf : ∀ h, h < 24 → ∃ o, o ≤ 12 ∧ σ 2 h = nI o) (hQ : ∀ C w5, CsX σ p (x + n) n C → EV (d + 3) 8 8 [some (.inr 65), some (.inl (nI x)), some (.inl (nI (x + n))), some (.inl p), some (.inl (nI x)), w5] [] (q_set σ 66 C) Q) : EV (d + 3) 8 0 [some (.inr 65), some (.inl (nI x)), some (.inl (nI (x + n))), some (.inl p), none, none] [] σ Q := by
  refine pG_seek_0 ?_
  have e0 : nI (x + n) - 1 = nI (x + n - 1) := pk_sub (b := 1) (by omega)
  rw [e0]
  have outer : ∀ m j C w5, j + m = n → CsX σ p (x + n) j C → EV (d + 3) 8 1 [some (.inr 65), some (.inl (nI x)), some (.inl (nI (x + n))), some (.inl p), some (.inl (nI (x + n) - nI (j + 1))), w5] [] (q_set σ 66 C) Q := by
    intro m
    induction m with
    | zero =>
      intro j C w5 hj hC
      have hj : j = n := by omega
      subst hj
      refine pG_seek_1 ⟨fun _ => hQ C w5 hC, fun q => absurd ?_ q⟩
      rw [i_lt, pk_sub_toInt (by omega) (by omega), nI_toInt (by omega)]
      omega
    | succ m ih =>
      intro j C w5 hj hC
      have eh : nI (x + n) - nI (j + 1) = nI (x + n - (j + 1)) := pk_sub (by omega)
      rw [eh]
      refine pG_seek_1 ⟨fun q => ?_, fun _ => ?_⟩
      · rw [nI_ltP (by omega) (by omega)] at q; omega
      have inner : ∀ i r C, i + r = 8 → CsX σ p (x + n) j C → (∀ q, q < r → C ((x + n - (j + 1)) * 8 + q) = nI (Dd (σ 2) (σ 42) p (x + n) j q)) → EV (d + 3) 8 3 [some (.inr 65), some (.inl (nI x)), some (.inl (nI (x + n))), some (.inl p), some (.inl (nI (x + n - (j + 1)))), some (.inl (nI r))] [] (q_set σ 66 C) Q := by
        intro i
        induction i with
        | zero =>
          intro r C hi hC hr
          have hr8 : r = 8 := by omega
          subst hr8
          refine pG_seek_3 ⟨fun _ => ?_, fun q => absurd (nI_le' (Nat.le_refl 8) (by omega)) q⟩
          have e2 : nI (x + n - (j + 1)) + (-1) = nI (x + n) - nI (j + 1 + 1) := by
            rw [← eh, ← nI_p1 (j + 1)]
            generalize nI (x + n) = A
            generalize nI (j + 1) = B
            apply Int32.toBitVec_inj.mp
            simp only [Int32.toBitVec_add, Int32.toBitVec_sub]
            rw [show ((-1 : Int32)).toBitVec = -(1 : Int32).toBitVec from by decide]
            rw [← BitVec.sub_eq_add_neg, BitVec.sub_sub]
          rw [e2]
          refine ih (j + 1) C _ (by omega) ?_
          intro k hk q hq
          by_cases e : k = j
          · subst e
            rw [show x + n - 1 - k = x + n - (k + 1) by omega]
            exact hr q hq
          · exact hC k (by omega) q hq
        | succ i ihi =>
          intro r C hi hC hr
          have hcost : EV (d + 2) 9 0 [some (.inr 65), some (.inl (nI (x + n - (j + 1)))), some (.inl (nI r)), some (.inl (nI (x + n))), some (.inl p), none] [] (q_set σ 66 C) (qis (nI (Dd (σ 2) (σ 42) p (x + n) j r)) (q_set σ 66 C)) := by
            have := EV.costX (d := d) (σ := q_set σ 66 C) (h := x + n - (j + 1)) (r := r) (to := x + n) (p := p) (by omega) hn (by omega) hf (by
              intro hlt q hq
              show C ((x + n - (j + 1) + 1) * 8 + q) = nI (Dd (σ 2) (σ 42) p (x + n) (x + n - 1 - (x + n - (j + 1) + 1)) q)
              have := hC (j - 1) (by omega) q hq
              rw [show x + n - 1 - (j - 1) = x + n - (j + 1) + 1 by omega] at this
              rw [this, show x + n - 1 - (x + n - (j + 1) + 1) = j - 1 by omega])
            rw [show x + n - 1 - (x + n - (j + 1)) = j by omega] at this
            exact this
          have e3 : nI (x + n - (j + 1)) * 8 + nI r = nI ((x + n - (j + 1)) * 8 + r) := by rw [show nI (x + n - (j + 1)) * 8 = nI ((x + n - (j + 1)) * 8) from pk_mul _ 8]; exact nI_add _ _
          refine pG_seek_3 ⟨fun q => absurd q (nI_nle' (a := 8) (by omega) (by omega)), fun _ => ex_I hcost ?_⟩
          rw [e3, cl_nI (by omega), q_set_same, q_set_eq, nI_p1]
          refine ⟨vp_in_nI (by omega) (by decide), ihi (r + 1) _ (by omega) ?_ ?_⟩
          · intro k hk q hq
            rw [upd_ne _ _ (by omega)]
            exact hC k hk q hq
          · intro q hq
            by_cases e : q = r
            · subst e; exact upd_eq _ _ _
            · rw [upd_ne _ _ (by omega)]
              exact hr q (by omega)
      exact inner 8 0 C (by omega) hC (fun q hq => absurd hq (Nat.not_lt_zero q))
  have := outer n 0 (σ 66) none (by omega) (fun k hk => absurd hk (Nat.not_lt_zero k))
  rw [q_set_id, show nI (x + n) - nI (0 + 1) = nI (x + n - 1) from pk_sub (by omega)] at this
  exact this
