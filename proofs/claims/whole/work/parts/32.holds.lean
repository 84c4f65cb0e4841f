/-- an HOUR (24: none) holds -/
def hc (f w : Nat → Int32) (n : Int32) (j : Nat) : Bool := decide ((j = 24 ∨ ¬ f j = 12) ∧ ¬ n < lia f w j)
def hbN (f w : Nat → Int32) (n : Int32) : Nat → Nat
  | 0 => 0
  | j + 1 => if hc f w n j = true then hbN f w n j ||| 2 ^ j else hbN f w n j
theorem hbN_lt (f w : Nat → Int32) (n : Int32) : ∀ j, hbN f w n j < 2 ^ j
  | 0 => Nat.zero_lt_one
  | j + 1 => by
    have ih := hbN_lt f w n j
    have h2 : 2 ^ j < 2 ^ (j + 1) := Nat.pow_lt_pow_right (by decide) (by omega)
    unfold hbN
    split
    · exact Nat.or_lt_two_pow (by omega) h2
    · omega
theorem hbN_bit (f w : Nat → Int32) (n : Int32) (h : Nat) : ∀ j, (hbN f w n j).testBit h = (decide (h < j) && hc f w n h)
  | 0 => by simp [hbN]
  | j + 1 => by
    have ih := hbN_bit f w n h j
    unfold hbN
    by_cases e : h = j
    · subst e
      have hf : (hbN f w n h).testBit h = false := by rw [ih]; simp
      cases hcj : hc f w n h
      · simp [hf]
      · simp [Nat.testBit_or, hf, Nat.testBit_two_pow]
    · split
      · rw [Nat.testBit_or, ih, Nat.testBit_two_pow]
        have : decide (h < j + 1) = decide (h < j) := by simp; omega
        rw [this]
        simp; omega
      · rw [ih]
        have : decide (h < j + 1) = decide (h < j) := by simp; omega
        rw [this]
theorem sh1' : ∀ o, o < 25 → (1 : Int32) <<< (nI o &&& 31) = nI (2 ^ o) := by decide +kernel
theorem s31 : ∀ k, k < 25 → ((nI k &&& 31).toBitVec.smod 32).toNat = k := by decide +kernel
theorem bit_of {M h : Nat} (hM : M < 2 ^ 31) (hh : h < 25) : (nI M >>> (nI h &&& 31)) &&& 1 = nI (M / 2 ^ h % 2) := by
  rw [pk_shrN hM (nI h &&& 31) h (s31 h hh)]
  have hl : M / 2 ^ h < 2 ^ 32 := Nat.lt_of_le_of_lt (Nat.div_le_self _ _) (by omega)
  have := pk_andN (n := M / 2 ^ h) hl (m := 1) 1 (by decide)
  rw [this]
theorem bit_hb {f w : Nat → Int32} {n : Int32} {h : Nat} (hh : h < 25) : (nI (hbN f w n 25) >>> (nI h &&& 31)) &&& 1 = if hc f w n h = true then 1 else 0 := by
  have hlt := hbN_lt f w n 25
  have hM : hbN f w n 25 < 2 ^ 31 := Nat.lt_trans hlt (by decide)
  rw [bit_of hM hh]
  have e := Nat.toNat_testBit (hbN f w n 25) h
  rw [← e, hbN_bit, decide_eq_true hh]
  cases hc f w n h <;> rfl
theorem nI_ltP {a b : Nat} (ha : a < 2 ^ 31) (hb : b < 2 ^ 31) : (nI a < nI b) = (a < b) := propext (nI_ltI ha hb)
theorem nI_eqP {a b : Nat} (ha : a < 2 ^ 31) (hb : b < 2 ^ 31) : (nI a = nI b) = (a = b) := propext (nI_eq ha hb)
theorem EV.holdX {d : Nat} {σ : QS} {n : Int32} (hf : ∀ h, h < 24 → ∃ o, o ≤ 12 ∧ σ 2 h = nI o) : EV (d + 2) 67 1 [some (.inr 68), some (.inl n), some (.inl 0), some (.inl 0), none] [] σ (qis (nI (hbN (σ 2) (σ 43) n 25)) σ) := by
  have key := up_loop (P := fun j => ∀ w4, EV (d + 2) 67 1 [some (.inr 68), some (.inl n), some (.inl (nI (hbN (σ 2) (σ 43) n j))), some (.inl (nI j)), w4] [] σ (qis (nI (hbN (σ 2) (σ 43) n 25)) σ)) (n := 25) ?_ ?_ 0 (by omega)
  · exact key none
  · intro w4; exact pV_hold_1 ⟨fun _ => ⟨rfl, rfl⟩, fun q => absurd (by decide) q⟩
  · intro j hj ih w4
    have c0 : (nI j).toNatClampNeg = j := cl_nI (by omega)
    have h24 : ((24 : Int32) < nI j) = (24 < j) := nI_ltP (a := 24) (by omega) (by omega)
    have e24 : (nI j = (24 : Int32)) = (j = 24) := nI_eqP (b := 24) (by omega) (by omega)
    have i0 : ¬ j = 24 → vp_in (nI j) 24 := fun h => vp_in_nI (by omega) (by decide)
    have k1 : hc (σ 2) (σ 43) n j = true → ∀ w4, EV (d + 2) 67 1 [some (.inr 68), some (.inl n), some (.inl (nI (hbN (σ 2) (σ 43) n j) ||| (1 <<< (nI j &&& 31)))), some (.inl (nI (j + 1))), w4] [] σ (qis (nI (hbN (σ 2) (σ 43) n 25)) σ) := by
      intro e w4
      have := ih w4
      rw [hbN, if_pos e, ← fa_or, ← sh1' j (by omega)] at this
      exact this
    have k0 : hc (σ 2) (σ 43) n j = false → ∀ w4, EV (d + 2) 67 1 [some (.inr 68), some (.inl n), some (.inl (nI (hbN (σ 2) (σ 43) n j))), some (.inl (nI (j + 1))), w4] [] σ (qis (nI (hbN (σ 2) (σ 43) n 25)) σ) := by
      intro e w4
      have := ih w4
      rw [hbN, if_neg (by rw [e]; decide)] at this
      exact this
    clear ih
    refine pV_hold_1 ?_
    simp only [c0, nI_p1, h24, e24]
    refine ⟨fun q1 => by omega, fun q1 => ⟨fun q2 => (ex_I (EV.liarsX (by omega) hf) ⟨fun q6 => k0 (decide_eq_false (by grind)) _, fun q6 => k1 (decide_eq_true (by grind)) _⟩), fun q2 => ⟨i0 q2, ⟨fun q7 => k0 (decide_eq_false (by grind)) _, fun q7 => (ex_I (EV.liarsX (by omega) hf) ⟨fun q11 => k0 (decide_eq_false (by grind)) _, fun q11 => k1 (decide_eq_true (by grind)) _⟩)⟩⟩⟩⟩
theorem EV.holdM {d : Nat} {σ : QS} {n : Int32} (hw : ∀ h, h < 24 → ∃ o, o ≤ 2 ∧ σ 71 h = nI o) : EV (d + 1) 185 4 [some (.inr 69), some (.inl n), some (.inl 0), some (.inl 0)] [] σ (qis (nI (hbN (σ 70) (σ 71) n 25)) σ) := by
  have key := up_loop (P := fun j => EV (d + 1) 185 4 [some (.inr 69), some (.inl n), some (.inl (nI (hbN (σ 70) (σ 71) n j))), some (.inl (nI j))] [] σ (qis (nI (hbN (σ 70) (σ 71) n 25)) σ)) (n := 25) ?_ ?_ 0 (by omega)
  · exact key
  · exact pM_holds_4 ⟨fun _ => ⟨rfl, rfl⟩, fun q => absurd (by decide) q⟩
  · intro j hj ih
    have c0 : (nI j).toNatClampNeg = j := cl_nI (by omega)
    have h24 : ((24 : Int32) < nI j) = (24 < j) := nI_ltP (a := 24) (by omega) (by omega)
    have e24 : (nI j = (24 : Int32)) = (j = 24) := nI_eqP (b := 24) (by omega) (by omega)
    have i0 : ¬ j = 24 → vp_in (nI j) 24 := fun h => vp_in_nI (by omega) (by decide)
    have k1 : hc (σ 70) (σ 71) n j = true → EV (d + 1) 185 4 [some (.inr 69), some (.inl n), some (.inl (nI (hbN (σ 70) (σ 71) n j) ||| (1 <<< (nI j &&& 31)))), some (.inl (nI (j + 1)))] [] σ (qis (nI (hbN (σ 70) (σ 71) n 25)) σ) := by
      intro e
      have := ih
      rw [hbN, if_pos e, ← fa_or, ← sh1' j (by omega)] at this
      exact this
    have k0 : hc (σ 70) (σ 71) n j = false → EV (d + 1) 185 4 [some (.inr 69), some (.inl n), some (.inl (nI (hbN (σ 70) (σ 71) n j))), some (.inl (nI (j + 1)))] [] σ (qis (nI (hbN (σ 70) (σ 71) n 25)) σ) := by
      intro e
      have := ih
      rw [hbN, if_neg (by rw [e]; decide)] at this
      exact this
    clear ih
    refine pM_holds_4 ?_
    simp only [c0, nI_p1, h24, e24]
    refine ⟨fun q1 => by omega, fun q1 => ⟨fun q2 => (ex_I (EV.liarsM (by omega) hw) ⟨fun q6 => k0 (decide_eq_false (by grind)), fun q6 => k1 (decide_eq_true (by grind))⟩), fun q2 => ⟨i0 q2, ⟨fun q7 => k0 (decide_eq_false (by grind)), fun q7 => (ex_I (EV.liarsM (by omega) hw) ⟨fun q11 => k0 (decide_eq_false (by grind)), fun q11 => k1 (decide_eq_true (by grind))⟩)⟩⟩⟩⟩
theorem sim_holds (σ : QS) (n : Int32) (hI : IB σ) : Sim 92 185 [some (.inr 0), some (.inl n)] [some (.inr 69), some (.inl n), none, none] σ := by
  by_cases h0 : n < 0
  · exact Sim.no (-1) hI (pX_holds_0 (by simp [h0, qis])) (pM_holds_0 (by simp [h0, qis]))
  by_cases h1 : 12 < n
  · have g1 : ¬ n ≤ 12 := fun q => absurd h1 ((i_nlt n 12).mp q)
    exact Sim.no (-1) hI (pX_holds_0 (by simp [h0, h1, g1, qis])) (pM_holds_0 (by simp [h0, h1, g1, qis]))
  have g1 : n ≤ 12 := (i_nlt n 12).mpr h1
  have e1 : σ 2 = σ 70 := hI.1.1.symm
  have e2 : σ 43 = σ 71 := hI.2.2.2.2.2.2.2.1.symm
  have hf := hI.1.2
  have hw := hI.2.2.2.2.2.2.2.2
  refine Sim.no (nI (hbN (σ 70) (σ 71) n 25)) hI (pX_holds_0 ⟨fun q => absurd q h0, fun _ => ⟨fun _ => ex_I (pV_hold_0 (EV.holdX hf)) ⟨?_, rfl⟩, fun q => absurd g1 q⟩⟩) (pM_holds_0 ⟨fun q => absurd q h0, fun _ => ⟨fun q => absurd q h1, fun _ => EV.holdM ?_⟩⟩)
  · rw [e1, e2]
  · rw [← e2]; exact hw
def gR (f : Nat → Int32) (c : Nat → Bool) : Nat → Int32 → Int32
  | 0, v => if c 24 = true then -2 else v
  | n + 1, v => if c (23 - n) = true then (if v = -2 ∨ v = f (23 - n) then gR f c n (f (23 - n)) else -2) else gR f c n v
theorem EV.onlyX {d : Nat} {σ : QS} {n : Int32} : EV d 70 0 [some (.inr 68), some (.inl (nI (hbN (σ 2) (σ 43) n 25))), none, none, none] [] σ (qis (gR (σ 2) (hc (σ 2) (σ 43) n) 24 (-2)) σ) := by
  refine pV_only_0 ?_
  have key : ∀ m, m ≤ 24 → ∀ v w4, EV d 70 1 [some (.inr 68), some (.inl (nI (hbN (σ 2) (σ 43) n 25))), some (.inl v), some (.inl (nI (24 - m))), w4] [] σ (qis (gR (σ 2) (hc (σ 2) (σ 43) n) m v) σ) := by
    intro m
    induction m with
    | zero =>
      intro _ v w4
      refine pV_only_1 ⟨fun q => absurd q (by decide), fun _ => ⟨fun q => ?_, fun q => ⟨fun q3 => absurd rfl q3, fun _ => ?_⟩⟩⟩
      · rw [bit_hb (h := 24 - 0) (by omega)] at q
        have hc0 : ¬ hc (σ 2) (σ 43) n 24 = true := fun e => by rw [show 24 - 0 = 24 from rfl, if_pos e] at q; exact absurd q (by decide)
        refine pV_only_1 ⟨fun _ => ⟨by rw [gR, if_neg hc0], rfl⟩, fun q => absurd (by decide) q⟩
      · rw [bit_hb (h := 24 - 0) (by omega)] at q
        have hc0 : hc (σ 2) (σ 43) n 24 = true := by
          cases e : hc (σ 2) (σ 43) n 24
          · rw [show 24 - 0 = 24 from rfl, if_neg (by rw [e]; decide)] at q; exact absurd rfl q
          · rfl
        exact ⟨by rw [gR, if_pos hc0], rfl⟩
    | succ m ih =>
      intro hm v w4
      have hh : 24 - (m + 1) = 23 - m := by omega
      rw [hh]
      have c0 : (nI (23 - m)).toNatClampNeg = 23 - m := cl_nI (by omega)
      have nx : nI (23 - m) + 1 = nI (24 - m) := by rw [nI_p1]; congr 1; omega
      have i0 : vp_in (nI (23 - m)) 24 := vp_in_nI (by omega) (by decide)
      have n24 : ¬ nI (23 - m) = 24 := fun e => by have := (nI_eq (b := 24) (by omega) (by decide)).mp e; omega
      refine pV_only_1 ⟨fun q => ?_, fun _ => ?_⟩
      · have := (nI_ltI (a := 24) (by decide) (by omega)).mp q; omega
      rw [bit_hb (by omega), nx, c0]
      cases e : hc (σ 2) (σ 43) n (23 - m)
      · rw [if_neg (by decide), gR, if_neg (by rw [e]; decide)]
        exact ⟨fun _ => ih (by omega) _ _, fun q => absurd rfl q⟩
      · rw [if_pos rfl, gR, if_pos e]
        have f12 : ¬ σ 2 (23 - m) = 12 := by
          have := (of_decide_eq_true e).1
          rcases this with z | z
          · omega
          · exact z
        refine ⟨fun q => absurd q (by decide), fun _ => ⟨fun _ => ⟨i0, fun q => absurd q f12, fun _ => ⟨fun q => ?_, fun q => ⟨fun q2 => ?_, fun q2 => ?_⟩⟩⟩, fun q => absurd q n24⟩⟩
        · rw [if_pos (Or.inl q)]; exact ih (by omega) _ _
        · rw [if_pos (Or.inr q2)]; exact ih (by omega) _ _
        · rw [if_neg (fun z => z.elim q q2)]; exact ⟨rfl, rfl⟩
  exact key 24 (by omega) (-2) none
theorem EV.guiltM {d : Nat} {σ : QS} {n : Int32} : EV (d + 2) 186 5 [some (.inr 69), some (.inl n), some (.inl (nI (hbN (σ 70) (σ 71) n 25))), some (.inl (-2)), some (.inl 0)] [] σ (qis (gR (σ 70) (hc (σ 70) (σ 71) n) 24 (-2)) σ) := by
  have key : ∀ m, m ≤ 24 → ∀ v, EV (d + 2) 186 5 [some (.inr 69), some (.inl n), some (.inl (nI (hbN (σ 70) (σ 71) n 25))), some (.inl v), some (.inl (nI (24 - m)))] [] σ (qis (gR (σ 70) (hc (σ 70) (σ 71) n) m v) σ) := by
    intro m
    induction m with
    | zero =>
      intro _ v
      refine pM_guilty_5 ⟨fun _ => ?_, fun q => absurd (nI_le' (Nat.le_refl 24) (by omega)) q⟩
      have hb24 := bit_hb (f := σ 70) (w := σ 71) (n := n) (h := 24) (by omega)
      rw [show (24 : Int32) = nI 24 from rfl, hb24]
      cases e : hc (σ 70) (σ 71) n 24
      · rw [if_neg (by decide), gR, if_neg (by rw [e]; decide)]
        exact ⟨fun _ => ⟨rfl, rfl⟩, fun q => absurd q (by decide)⟩
      · rw [if_pos rfl, gR, if_pos e]
        exact ⟨fun q => absurd rfl q, fun _ => ⟨rfl, rfl⟩⟩
    | succ m ih =>
      intro hm v
      have hh : 24 - (m + 1) = 23 - m := by omega
      rw [hh]
      have c0 : (nI (23 - m)).toNatClampNeg = 23 - m := cl_nI (by omega)
      have nx : nI (23 - m) + 1 = nI (24 - m) := by rw [nI_p1]; congr 1; omega
      have i0 : vp_in (nI (23 - m)) 24 := vp_in_nI (by omega) (by decide)
      refine pM_guilty_5 ⟨fun q => absurd q (nI_nle' (a := 24) (by omega) (by omega)), fun _ => ?_⟩
      rw [bit_hb (by omega), nx, c0]
      cases e : hc (σ 70) (σ 71) n (23 - m)
      · rw [if_neg (by decide), gR, if_neg (by rw [e]; decide)]
        exact ⟨fun q => absurd rfl q, fun _ => ih (by omega) _⟩
      · rw [if_pos rfl, gR, if_pos e]
        refine ⟨fun _ => ⟨fun q => ⟨i0, ?_⟩, fun q => ⟨i0, fun q2 => ⟨i0, ?_⟩, fun q2 => ?_⟩⟩, fun q => absurd q (by decide)⟩
        · rw [if_pos (Or.inl q)]; exact ih (by omega) _
        · rw [if_pos (Or.inr q2)]; exact ih (by omega) _
        · rw [if_neg (fun z => z.elim q q2)]; exact ⟨rfl, rfl⟩
  exact key 24 (by omega) (-2)
theorem sim_guilty (σ : QS) (n : Int32) (hI : IB σ) : Sim 93 186 [some (.inr 0), some (.inl n)] [some (.inr 69), some (.inl n), none, none, none] σ := by
  by_cases h0 : n < 0
  · exact Sim.no (-1) hI (pX_guilty_0 (by simp [h0, qis])) (pM_guilty_0 (by simp [h0, qis]))
  by_cases h1 : 12 < n
  · have g1 : ¬ n ≤ 12 := fun q => absurd h1 ((i_nlt n 12).mp q)
    exact Sim.no (-1) hI (pX_guilty_0 (by simp [h0, h1, g1, qis])) (pM_guilty_0 (by simp [h0, h1, g1, qis]))
  have g1 : n ≤ 12 := (i_nlt n 12).mpr h1
  have e1 : σ 2 = σ 70 := hI.1.1.symm
  have e2 : σ 43 = σ 71 := hI.2.2.2.2.2.2.2.1.symm
  have hf := hI.1.2
  have hw := hI.2.2.2.2.2.2.2.2
  refine Sim.no (gR (σ 70) (hc (σ 70) (σ 71) n) 24 (-2)) hI (pX_guilty_0 ⟨fun q => absurd q h0, fun _ => ⟨fun _ => ex_I (pV_hold_0 (EV.holdX hf)) (ex_I EV.onlyX ⟨?_, rfl⟩), fun q => absurd g1 q⟩⟩) (pM_guilty_0 ⟨fun q => absurd q h0, fun _ => ⟨fun q => absurd q h1, fun _ => ex_I (pM_holds_0 ⟨fun q => absurd q h0, fun _ => ⟨fun q => absurd q h1, fun _ => EV.holdM ?_⟩⟩) EV.guiltM⟩⟩)
  · rw [e1, e2]
  · rw [← e2]; exact hw
