/-! both machines are machines with a pile -/
theorem sgn_c : ∀ o, 2 ≤ o → o ≤ 9 → ¬ sgn o = 48 ∧ ¬ sgn o = 107 ∧ ¬ sgn o = 33 ∧ ¬ sgn o = 38 ∧ ¬ sgn o = 124 ∧ (sgn o = 47 ∨ sgn o = 37 ↔ o = 5 ∨ o = 6) ∧ sgC o = sgn o := by
  intro o h1 h2
  rcases (show o = 2 ∨ o = 3 ∨ o = 4 ∨ o = 5 ∨ o = 6 ∨ o = 7 ∨ o = 8 ∨ o = 9 by omega) with rfl | rfl | rfl | rfl | rfl | rfl | rfl | rfl <;> decide
def RnC (S W : Nat → Int32) (sz : Nat) (v : Nat → Int32) (to sh : Nat) (i : Nat) (st : List Int32) (r : Int32) : Prop := ∀ f, to - (i + sh) < f → rk S W sz v to f (i + sh) st = some r
def AtC (S W : Nat → Int32) (to sh : Nat) (i o n : Nat) : Prop := i + sh < to ∧ S (i + sh) = sgC o ∧ W (i + sh) = wtC sh (o, n) ∧ n < 1048576 ∧ (o = 11 ∨ o = 12 → i < n) ∧ sh ≤ 1000
theorem rk_go {S W : Nat → Int32} {sz : Nat} {v : Nat → Int32} {to sh i : Nat} {st : List Int32} {r : Int32} (hi : i + sh < to) (h : ∀ f, to - (i + sh) ≤ f → rkS S W sz v to (rk S W sz v to f) (i + sh) st = some r) : RnC S W sz v to sh i st r := by
  intro f hf
  cases f with
  | zero => omega
  | succ f => exact h f (by omega)
theorem mch_C {S W : Nat → Int32} {sz : Nat} {v : Nat → Int32} {to sh : Nat} (hsz : to ≤ sz) : Mch (RnC S W sz v to sh) (AtC S W to sh) v := by
  refine ⟨?_, ?_, ?_, ?_, ?_, ?_, ?_, ?_, ?_⟩
  · intro i n st r ⟨h1, h2, h3, h4, h5, h6⟩ hl hr
    refine rk_go h1 (fun f hf => ?_)
    have e3 : W (i + sh) = nI n := h3
    unfold rkS
    rw [if_neg (by omega), if_pos (show S (i + sh) = 48 from h2), if_pos hl, e3, show i + sh + 1 = i + 1 + sh by omega]
    exact hr f (by omega)
  · intro i n st r ⟨h1, h2, h3, h4, h5, h6⟩ hl hr
    refine rk_go h1 (fun f hf => ?_)
    have e3 : W (i + sh) = nI n := h3
    unfold rkS
    rw [if_neg (by omega), h2, if_neg (by decide), if_pos (by decide), if_pos hl, e3, cl_nI (by omega), show i + sh + 1 = i + 1 + sh by omega]
    exact hr f (by omega)
  · intro i o n x y st r ⟨h1, h2, h3, h4, h5, h6⟩ ho ho2 hy hr
    obtain ⟨k1, k2, k3, k4, k5, k6, k7⟩ := sgn_c o ho ho2
    refine rk_go h1 (fun f hf => ?_)
    unfold rkS
    rw [if_neg (by omega), h2, k7, if_neg k1, if_neg k2, if_neg k3, if_neg k4, if_neg k5]
    dsimp only
    rw [if_neg (fun z => hy ⟨k6.mp z.1, z.2⟩), show i + sh + 1 = i + 1 + sh by omega]
    exact hr f (by omega)
  · intro i o n x y st ⟨h1, h2, h3, h4, h5, h6⟩ ho hy
    obtain ⟨k1, k2, k3, k4, k5, k6, k7⟩ := sgn_c o (by omega) (by omega)
    refine rk_go h1 (fun f hf => ?_)
    unfold rkS
    rw [if_neg (by omega), h2, k7, if_neg k1, if_neg k2, if_neg k3, if_neg k4, if_neg k5]
    dsimp only
    rw [if_pos ⟨k6.mpr ho, hy⟩]
  · intro i n x st r ⟨h1, h2, h3, h4, h5, h6⟩ hx hr
    refine rk_go h1 (fun f hf => ?_)
    unfold rkS
    rw [if_neg (by omega), h2, if_neg (by decide), if_neg (by decide), if_pos (by decide)]
    dsimp only
    rw [show (if x = 0 then (1 : Int32) else 0) = 1 - x by rcases hx with rfl | rfl <;> decide, show i + sh + 1 = i + 1 + sh by omega]
    exact hr f (by omega)
  · intro i n st r ⟨h1, h2, h3, h4, h5, h6⟩ hr
    refine rk_go h1 (fun f hf => ?_)
    have h5 := h5 (Or.inl rfl)
    have e3 : W (i + sh) = nI (n + sh - 1) := h3
    unfold rkS
    rw [if_neg (by omega), h2, if_neg (by decide), if_neg (by decide), if_neg (by decide), if_pos (by decide)]
    dsimp only
    rw [if_pos rfl, e3, cl_nI (by omega), Nat.max_eq_right (by omega), show n + sh - 1 + 1 = n + sh by omega]
    exact hr f (by omega)
  · intro i n st r ⟨h1, h2, h3, h4, h5, h6⟩ hr
    refine rk_go h1 (fun f hf => ?_)
    unfold rkS
    rw [if_neg (by omega), h2, if_neg (by decide), if_neg (by decide), if_neg (by decide), if_pos (by decide)]
    dsimp only
    rw [if_neg (by decide), show i + sh + 1 = i + 1 + sh by omega]
    exact hr f (by omega)
  · intro i n st r ⟨h1, h2, h3, h4, h5, h6⟩ hr
    refine rk_go h1 (fun f hf => ?_)
    have h5 := h5 (Or.inr rfl)
    have e3 : W (i + sh) = nI (n + sh - 1) := h3
    unfold rkS
    rw [if_neg (by omega), h2, if_neg (by decide), if_neg (by decide), if_neg (by decide), if_neg (by decide), if_pos (by decide)]
    dsimp only
    rw [if_neg (by decide), e3, cl_nI (by omega), Nat.max_eq_right (by omega), show n + sh - 1 + 1 = n + sh by omega]
    exact hr f (by omega)
  · intro i n st r ⟨h1, h2, h3, h4, h5, h6⟩ hr
    refine rk_go h1 (fun f hf => ?_)
    unfold rkS
    rw [if_neg (by omega), h2, if_neg (by decide), if_neg (by decide), if_neg (by decide), if_neg (by decide), if_pos (by decide)]
    dsimp only
    rw [if_pos rfl, show i + sh + 1 = i + 1 + sh by omega]
    exact hr f (by omega)
def RnM (op ar : Nat → Nat) (base : Nat) (v : Nat → Int32) (to : Nat) (i : Nat) (st : List Int32) (r : Int32) : Prop := ∃ f, rm op ar base v to f (base + i) st = some r
def AtM (op ar : Nat → Nat) (base to : Nat) (i o n : Nat) : Prop := base + i < to ∧ op (base + i) = o ∧ ar (base + i) = n
theorem mch_M {op ar : Nat → Nat} {base : Nat} {v : Nat → Int32} {to : Nat} : Mch (RnM op ar base v to) (AtM op ar base to) v := by
  refine ⟨?_, ?_, ?_, ?_, ?_, ?_, ?_, ?_, ?_⟩
  · intro i n st r ⟨h1, h2, h3⟩ hl ⟨f, hf⟩
    refine ⟨f + 1, ?_⟩
    rw [rm]
    unfold rmS
    rw [if_neg (by omega), if_pos h2, if_pos (by omega), h3]
    exact hf
  · intro i n st r ⟨h1, h2, h3⟩ hl ⟨f, hf⟩
    refine ⟨f + 1, ?_⟩
    rw [rm]
    unfold rmS
    rw [if_neg (by omega), h2, if_neg (by decide), if_pos rfl, if_pos (by omega), h3]
    exact hf
  · intro i o n x y st r ⟨h1, h2, h3⟩ ho ho2 hy ⟨f, hf⟩
    refine ⟨f + 1, ?_⟩
    rw [rm]
    unfold rmS
    rw [if_neg (by omega), h2, if_neg (by omega), if_neg (by omega), if_neg (by omega), if_neg (by omega), if_neg (by omega)]
    dsimp only
    rw [if_neg hy]
    exact hf
  · intro i o n x y st ⟨h1, h2, h3⟩ ho hy
    refine ⟨1, ?_⟩
    rw [rm]
    unfold rmS
    rw [if_neg (by omega), h2, if_neg (by omega), if_neg (by omega), if_neg (by omega), if_neg (by omega), if_neg (by omega)]
    dsimp only
    rw [if_pos ⟨ho, hy⟩]
  · intro i n x st r ⟨h1, h2, h3⟩ hx ⟨f, hf⟩
    refine ⟨f + 1, ?_⟩
    rw [rm]
    unfold rmS
    rw [if_neg (by omega), h2, if_neg (by decide), if_neg (by decide), if_pos rfl]
    exact hf
  · intro i n st r ⟨h1, h2, h3⟩ ⟨f, hf⟩
    refine ⟨f + 1, ?_⟩
    rw [rm]
    unfold rmS
    rw [if_neg (by omega), h2, if_neg (by decide), if_neg (by decide), if_neg (by decide), if_pos rfl]
    dsimp only
    rw [if_pos rfl, h3]
    exact hf
  · intro i n st r ⟨h1, h2, h3⟩ ⟨f, hf⟩
    refine ⟨f + 1, ?_⟩
    rw [rm]
    unfold rmS
    rw [if_neg (by omega), h2, if_neg (by decide), if_neg (by decide), if_neg (by decide), if_pos rfl]
    dsimp only
    rw [if_neg (by decide)]
    exact hf
  · intro i n st r ⟨h1, h2, h3⟩ ⟨f, hf⟩
    refine ⟨f + 1, ?_⟩
    rw [rm]
    unfold rmS
    rw [if_neg (by omega), h2, if_neg (by decide), if_neg (by decide), if_neg (by decide), if_neg (by decide), if_pos rfl]
    dsimp only
    rw [if_pos rfl, h3]
    exact hf
  · intro i n st r ⟨h1, h2, h3⟩ ⟨f, hf⟩
    refine ⟨f + 1, ?_⟩
    rw [rm]
    unfold rmS
    rw [if_neg (by omega), h2, if_neg (by decide), if_neg (by decide), if_neg (by decide), if_neg (by decide), if_pos rfl]
    dsimp only
    rw [if_neg (by decide)]
    exact hf
theorem val_C {S W : Nat → Int32} {sz a sh D : Nat} {c : Cd} {E : (Nat → Int32) → Option Int32} {v : Nat → Int32} (hS : Sem a c D E) (hD : D ≤ 32) (hsz : a + c.length + sh ≤ sz) (hsh : sh ≤ 1000) (hV : Vc a c) (hP : ∀ j x, c[j]? = some x → S (a + sh + j) = sgC x.1 ∧ W (a + sh + j) = wtC sh x) : rv S W sz v (a + sh) (a + c.length + sh) = (E v).getD 0 := by
  have h := hS (RnC S W sz v (a + c.length + sh) sh) (AtC S W (a + c.length + sh) sh) v (mch_C hsz) (fun j x hx => by
    have hj : j < c.length := (List.getElem?_eq_some_iff.mp hx).1
    obtain ⟨k1, k2⟩ := hP j x hx
    obtain ⟨v1, v2, v3, v4⟩ := hV j x hx
    rw [show a + sh + j = a + j + sh by omega] at k1 k2
    exact ⟨by omega, k1, k2, v2, fun z => (v4 z).1, hsh⟩) [] (by simp; omega)
  have key : RnC S W sz v (a + c.length + sh) sh a [] ((E v).getD 0) := by
    cases e : E v with
    | none => exact h.1 e
    | some x =>
      refine h.2 x x e ?_
      intro f hf
      cases f with
      | zero => omega
      | succ f =>
        rw [rk, rkS, if_pos (Or.inl (Nat.le_refl _))]
  unfold rv
  rw [key _ (by omega)]
  rfl
theorem val_M {op ar : Nat → Nat} {base a D : Nat} {c : Cd} {E : (Nat → Int32) → Option Int32} {v : Nat → Int32} (hS : Sem a c D E) (hD : D ≤ 32) (hP : ∀ j x, c[j]? = some x → op (base + (a + j)) = x.1 ∧ ar (base + (a + j)) = x.2) : ∃ f, rm op ar base v (base + (a + c.length)) f (base + a) [] = some ((E v).getD 0) := by
  have h := hS (RnM op ar base v (base + (a + c.length))) (AtM op ar base (base + (a + c.length))) v mch_M (fun j x hx => by
    have hj : j < c.length := (List.getElem?_eq_some_iff.mp hx).1
    obtain ⟨k1, k2⟩ := hP j x hx
    exact ⟨by omega, k1, k2⟩) [] (by simp; omega)
  cases e : E v with
  | none => exact h.1 e
  | some x =>
    refine h.2 x x e ⟨1, ?_⟩
    rw [rm]
    unfold rmS
    rw [if_pos (Nat.le_refl _)]
theorem rm_cg {op ar op' ar' : Nat → Nat} {base to : Nat} {v : Nat → Int32} (h : ∀ k, base ≤ k → k < to → op' k = op k ∧ ar' k = ar k) : ∀ f k st, base ≤ k → rm op' ar' base v to f k st = rm op ar base v to f k st
  | 0, _, _, _ => rfl
  | f + 1, k, st, hk => by
    have ih := rm_cg (v := v) h f
    rw [rm, rm]
    unfold rmS
    by_cases q : to ≤ k
    · rw [if_pos q, if_pos q]
    · rw [if_neg q, if_neg q]
      obtain ⟨e1, e2⟩ := h k hk (by omega)
      rw [e1, e2]
      have j1 : ∀ st, rm op' ar' base v to f (k + 1) st = rm op ar base v to f (k + 1) st := fun st => ih (k + 1) st (by omega)
      have j2 : ∀ st, rm op' ar' base v to f (base + ar k) st = rm op ar base v to f (base + ar k) st := fun st => ih (base + ar k) st (by omega)
      simp only [j1, j2]
