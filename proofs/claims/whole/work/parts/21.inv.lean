/-! numbers that are indices -/
theorem ix_of {x c : Int32} {n : Nat} (hc : c = nI n) (hn : n < 2 ^ 31) (h0 : ¬ x < 0) (h1 : ¬ c ≤ x) : ∃ j, j < n ∧ x = nI j := by
  subst hc
  rcases pk_ix x hn with a | a | a
  · exact absurd a h0
  · exact absurd a h1
  · exact a
theorem ix_of' {x c : Int32} {n : Nat} (hc : c = nI n) (hn : n < 2 ^ 31 - 1) (h0 : ¬ x < 0) (h1 : ¬ c < x) : ∃ j, j ≤ n ∧ x = nI j := by
  subst hc
  obtain ⟨j, hj, rfl⟩ := nI_of h0
  exact ⟨j, by have := mt (nI_ltI (a := n) (b := j) (by omega) hj).mpr h1; omega, rfl⟩
theorem i_lt (a b : Int32) : a < b ↔ a.toInt < b.toInt := Int32.lt_iff_toInt_lt
theorem i_le (a b : Int32) : a ≤ b ↔ a.toInt ≤ b.toInt := Int32.le_iff_toInt_le
theorem i_nlt (a b : Int32) : a ≤ b ↔ ¬ b < a := Int32.not_lt.symm
theorem i_le7 (x : Int32) : ¬ 7 ≤ x ↔ ¬ 6 < x := by
  rw [i_le, i_lt, show (7 : Int32).toInt = 7 from by decide, show (6 : Int32).toInt = 6 from by decide]
  omega
theorem i_lt256 (x : Int32) : x < 256 ↔ ¬ 255 < x := by
  rw [i_lt, i_lt, show (256 : Int32).toInt = 256 from by decide, show (255 : Int32).toInt = 255 from by decide]
  omega
theorem cl_nI {n : Nat} (h : n < 2 ^ 31) : (nI n).toNatClampNeg = n := nI_clamp h
theorem q_fit10 : q_fit 1 0 := by unfold q_fit; exact Or.inl rfl
theorem q_fit11 : q_fit 1 1 := by unfold q_fit; exact Or.inr rfl
theorem nI_lit (n : Nat) : (OfNat.ofNat n : Int32) = nI n := rfl
/-! what ties the class's cells to the reference's: base part (owners, rooms, acts, seed, what was kept, tape, looks, words) -/
def iOw (f g : Nat → Int32) : Prop := g = f ∧ ∀ h, h < 24 → ∃ o, o ≤ 12 ∧ f h = nI o
def iRm (f s d t : Nat → Int32) : Prop := ∀ r, r < 8 → s r = f (r * 3) ∧ d r = f (r * 3 + 1) ∧ t r = f (r * 3 + 2)
def iAc (n n' a k r m : Nat → Int32) : Prop := n' = n ∧ (∀ o, o < 12 → ∃ j, j ≤ 5 ∧ n o = nI j) ∧ ∀ i, i < 60 → k i = a (i * 3) ∧ r i = a (i * 3 + 1) ∧ m i = a (i * 3 + 2) ∧ ∃ q, q < 8 ∧ r i = nI q
def iX (x y : Int32) : Prop := y = x ∧ ∃ n, n ≤ 65535 ∧ x = nI n
def iKp (σ : QS) : Prop := σ 69 55 = σ 0 2 ∧ (σ 0 2 = 0 ∨ σ 0 2 = 1) ∧ (∀ k, 24 ≤ k → σ 110 k = σ 7 k) ∧ (∀ k, 12 ≤ k → σ 114 k = σ 10 k) ∧ (σ 0 2 = 1 → iOw (σ 7) (σ 110) ∧ iRm (σ 8) (σ 111) (σ 112) (σ 113) ∧ iAc (σ 10) (σ 114) (σ 9) (σ 115) (σ 116) (σ 117) ∧ iX (σ 6 4) (σ 69 56))
def iTp (n m : Int32) (b t : Nat → Int32) : Prop := m = n ∧ (∃ j, j ≤ 220 ∧ n = nI j) ∧ ∀ i, i < 220 → b i = t i &&& 255
def iLk (f g : Nat → Int32) : Prop := (∀ o, o < 12 → g o = f o) ∧ f 12 = 0
def iWd (f g : Nat → Int32) : Prop := g = f ∧ ∀ h, h < 24 → ∃ o, o ≤ 2 ∧ f h = nI o
def IB (σ : QS) : Prop := iOw (σ 2) (σ 70) ∧ iRm (σ 3) (σ 72) (σ 73) (σ 74) ∧ iAc (σ 5) (σ 75) (σ 4) (σ 76) (σ 77) (σ 78) ∧ iX (σ 1 4) (σ 69 0) ∧ iKp σ ∧ iTp (σ 11 1) (σ 69 12) (σ 12) (σ 80) ∧ iLk (σ 42) (σ 79) ∧ iWd (σ 43) (σ 71)
/-- the cells of the two laws (the piles apart) are as they were -/
def FrL (σ σ' : QS) : Prop := ∀ c, (13 ≤ c ∧ c ≤ 20 ∨ 22 ≤ c ∧ c ≤ 29 ∨ 87 ≤ c ∧ c ≤ 92) → σ' c = σ c
/-- the day that was run is forgotten, or nothing of it has changed -/
def FrD (σ σ' : QS) : Prop := (σ' 0 12 = 0 ∧ σ' 61 3 = 0) ∨ (σ' 0 12 = σ 0 12 ∧ ∀ c, (2 ≤ c ∧ c ≤ 5 ∨ 47 ≤ c ∧ c ≤ 53 ∨ c = 61) → σ' c = σ c)
/-- a call on both: the same answer, the base part again -/
def Sim (mx mm : Nat) (Lx Lm : QL) (σ : QS) : Prop := ∃ r σ1 σ2, EV 60 mx 0 Lx [] σ (qis r σ1) ∧ EV 60 mm 0 Lm [] σ1 (qis r σ2) ∧ IB σ2 ∧ FrL σ σ2 ∧ FrD σ σ2
theorem FrL.rf {σ : QS} : FrL σ σ := fun _ _ => rfl
theorem FrD.rf {σ : QS} : FrD σ σ := Or.inr ⟨rfl, fun _ _ => rfl⟩
theorem Sim.no {mx mm : Nat} {Lx Lm : QL} {σ : QS} (r : Int32) (hI : IB σ) (h1 : EV 60 mx 0 Lx [] σ (qis r σ)) (h2 : EV 60 mm 0 Lm [] σ (qis r σ)) : Sim mx mm Lx Lm σ := ⟨r, σ, σ, h1, h2, hI, FrL.rf, FrD.rf⟩
theorem iOw_upd {f g : Nat → Int32} (h : iOw f g) {j : Nat} {o : Nat} (ho : o ≤ 12) : iOw (upd f j (nI o)) (upd g j (nI o)) := by
  refine ⟨by rw [h.1], fun k hk => ?_⟩
  by_cases e : k = j
  · subst e; exact ⟨o, ho, upd_eq _ _ _⟩
  · rw [upd_ne _ _ e]; exact h.2 k hk
theorem FrL.set {σ σ' : QS} {c : Nat} {f : Nat → Int32} (hc : ¬ (13 ≤ c ∧ c ≤ 20 ∨ 22 ≤ c ∧ c ≤ 29 ∨ 87 ≤ c ∧ c ≤ 92)) (h : FrL σ σ') : FrL σ (q_set σ' c f) := fun k hk => by
  rw [q_set_ne _ _ (by intro e; subst e; exact hc hk)]
  exact h k hk
theorem iRm_upd {f s d t : Nat → Int32} (h : iRm f s d t) {r : Nat} (hr : r < 8) (x y z : Int32) : iRm (upd (upd (upd f (r * 3) x) (r * 3 + 1) y) (r * 3 + 2) z) (upd s r x) (upd d r y) (upd t r z) := by
  intro k hk
  obtain ⟨a, b, c⟩ := h k hk
  by_cases e : k = r
  · subst e
    simp [upd]
  · simp only [upd]
    refine ⟨?_, ?_, ?_⟩
    · rw [if_neg e, if_neg (by omega), if_neg (by omega), if_neg (by omega)]; exact a
    · rw [if_neg e, if_neg (by omega), if_neg (by omega), if_neg (by omega)]; exact b
    · rw [if_neg e, if_neg (by omega), if_neg (by omega), if_neg (by omega)]; exact c
theorem iAc_cnt {n n' a k r m : Nat → Int32} (h : iAc n n' a k r m) {o j : Nat} (hj : j ≤ 5) : iAc (upd n o (nI j)) (upd n' o (nI j)) a k r m := by
  refine ⟨by rw [h.1], fun q hq => ?_, h.2.2⟩
  by_cases e : q = o
  · subst e; exact ⟨j, hj, upd_eq _ _ _⟩
  · rw [upd_ne _ _ e]; exact h.2.1 q hq
theorem iAc_put {n n' a k r m : Nat → Int32} (h : iAc n n' a k r m) {i q : Nat} (hi : i < 60) (hq : q < 8) (x z : Int32) : iAc n n' (upd (upd (upd a (i * 3) x) (i * 3 + 1) (nI q)) (i * 3 + 2) z) (upd k i x) (upd r i (nI q)) (upd m i z) := by
  refine ⟨h.1, h.2.1, fun b hb => ?_⟩
  obtain ⟨h1, h2, h3, h4⟩ := h.2.2 b hb
  by_cases e : b = i
  · subst e
    simp only [upd]
    exact ⟨by simp, by simp, by simp, q, hq, by simp⟩
  · simp only [upd]
    refine ⟨?_, ?_, ?_, ?_⟩
    · rw [if_neg e, if_neg (by omega), if_neg (by omega), if_neg (by omega)]; exact h1
    · rw [if_neg e, if_neg (by omega), if_neg (by omega), if_neg (by omega)]; exact h2
    · rw [if_neg e, if_neg (by omega), if_neg (by omega), if_neg (by omega)]; exact h3
    · rw [if_neg e]; exact h4
/-- the reference's cells are as they were -/
def FrM (σ σ' : QS) : Prop := ∀ c, 69 ≤ c → σ' c = σ c
theorem FrM.rf {σ : QS} : FrM σ σ := fun _ _ => rfl
theorem FrM.set {σ σ' : QS} {c : Nat} {f : Nat → Int32} (hc : c < 69) (h : FrM σ σ') : FrM σ (q_set σ' c f) := fun k hk => by
  rw [q_set_ne _ _ (by omega)]
  exact h k hk
theorem Sim.mk2 {mx mm : Nat} {Lx Lm : QL} {σ σ1 : QS} {G : QS → QS} (r : Int32) (h1 : EV 60 mx 0 Lx [] σ (qis r σ1)) (hM : FrM σ σ1) (h2 : ∀ τ, FrM σ τ → EV 60 mm 0 Lm [] τ (qis r (G τ))) (hI : IB (G σ1)) (hL : FrL σ (G σ1)) (hD : FrD σ (G σ1)) : Sim mx mm Lx Lm σ := ⟨r, σ1, G σ1, h1, h2 σ1 hM, hI, hL, hD⟩
