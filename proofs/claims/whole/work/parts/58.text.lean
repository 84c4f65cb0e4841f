/-! a TEXT read, as a function -/
abbrev Cd : Type := List (Nat × Nat)
abbrev Rs : Type := Except Int32 (Nat × Cd)
def flt (k p : Nat) : Int32 := (-1000) * nI k - nI p
def mulO (c : Int32) : Nat := if c = 42 then 4 else if c = 47 then 5 else if c = 37 then 6 else 0
def sumO (c : Int32) : Nat := if c = 43 then 2 else if c = 45 then 3 else 0
def cmpO (c : Int32) : Nat := if c = 60 then 7 else if c = 62 then 8 else if c = 61 then 9 else 0
def facO (c : Int32) : Option Nat := if c = 107 then some 0 else if c = 97 then some 1 else if c = 114 then some 2 else if c = 115 then some 3 else if c = 100 then some 4 else if c = 104 then some 5 else if c = 116 then some 6 else if c = 111 then some 7 else if c = 112 then some 8 else none
def ltO (c : Int32) : Option Nat := if c = 110 then some 0 else if c = 115 then some 1 else if c = 100 then some 2 else if c = 104 then some 3 else if c = 119 then some 4 else if c = 102 then some 5 else if c = 99 then some 6 else none
def nmb (ch : Nat → Int32) : Nat → Nat → Nat → Rs
  | 0, p, n => if ¬ ch p < 48 ∧ ¬ 57 < ch p then .error (flt 2 p) else .ok (p, [(0, n)])
  | k + 1, p, n => if ¬ ch p < 48 ∧ ¬ 57 < ch p then nmb ch k (p + 1) (n * 10 + ((ch p).toNatClampNeg - 48)) else .ok (p, [(0, n)])
def atm (ch : Nat → Int32) (p : Nat) : Rs := if ¬ ch p < 48 ∧ ¬ 57 < ch p then nmb ch 5 p 0 else match facO (ch p) with
  | some x => .ok (p + 1, [(1, x)])
  | none => .error (flt 1 p)
def pdL (ch : Nat → Int32) (K : Nat → Rs) : Nat → Nat → Cd → Rs
  | 0, q, acc => .ok (q, acc)
  | m + 1, q, acc => if mulO (ch q) = 0 then .ok (q, acc) else match K (q + 1) with
    | .ok (r, c) => pdL ch K m r (acc ++ c ++ [(mulO (ch q), 0)])
    | .error e => .error e
def prd (ch : Nat → Int32) (N : Nat) (K : Nat → Rs) (p : Nat) : Rs := match K p with
  | .ok (q, c) => pdL ch K N q c
  | .error e => .error e
def smL (ch : Nat → Int32) (K : Nat → Rs) : Nat → Nat → Cd → Rs
  | 0, q, acc => .ok (q, acc)
  | m + 1, q, acc => if sumO (ch q) = 0 then .ok (q, acc) else match K (q + 1) with
    | .ok (r, c) => smL ch K m r (acc ++ c ++ [(sumO (ch q), 0)])
    | .error e => .error e
def smm (ch : Nat → Int32) (N : Nat) (K : Nat → Rs) (p : Nat) : Rs := match prd ch N K p with
  | .ok (q, c) => smL ch (prd ch N K) N q c
  | .error e => .error e
def fct (ch : Nat → Int32) (N : Nat) : Nat → Nat → Rs
  | 0, p => if ch p = 91 then .error (flt 5 p) else atm ch p
  | k + 1, p => if ch p = 91 then (match smm ch N (fct ch N k) (p + 1) with
    | .ok (q, c) => if ch q = 93 then .ok (q + 1, c) else .error (flt 1 q)
    | .error e => .error e) else atm ch p
def cpr (ch : Nat → Int32) (N k p : Nat) : Rs := match smm ch N (fct ch N k) p with
  | .ok (q, c) => if cmpO (ch q) = 0 then .error (flt 1 q) else (match smm ch N (fct ch N k) (q + 1) with
    | .ok (r, c2) => .ok (r, c ++ c2 ++ [(cmpO (ch q), 0)])
    | .error e => .error e)
  | .error e => .error e
def ptL (ch : Nat → Int32) (K : Nat → Nat → Rs) (w : Int32) (op a : Nat) : Nat → Nat → Cd → Rs
  | 0, q, acc => .ok (q, acc)
  | m + 1, q, acc => if ch q = w then (match K (q + 1) (a + acc.length + 1) with
    | .ok (r, c) => ptL ch K w op a m r (acc ++ (op, a + acc.length + 1 + c.length) :: c)
    | .error e => .error e) else .ok (q, acc)
def prt (ch : Nat → Int32) (N : Nat) (K : Nat → Nat → Rs) (p a : Nat) : Rs := match K p a with
  | .ok (q, c) => ptL ch K 38 11 a N q c
  | .error e => .error e
def cnd (ch : Nat → Int32) (N : Nat) (K : Nat → Nat → Rs) (p a : Nat) : Rs := match prt ch N K p a with
  | .ok (q, c) => ptL ch (prt ch N K) 124 12 a N q c
  | .error e => .error e
def pce (ch : Nat → Int32) (N : Nat) : Nat → Nat → Nat → Rs
  | 0, p, _ => if ch p = 40 then .error (flt 5 p) else if ch p = 33 then .error (flt 5 p) else cpr ch N 0 p
  | k + 1, p, a => if ch p = 40 then (match cnd ch N (pce ch N k) (p + 1) a with
      | .ok (q, c) => if ch q = 41 then .ok (q + 1, c) else .error (flt 1 q)
      | .error e => .error e)
    else if ch p = 33 then (match pce ch N k (p + 1) a with
      | .ok (q, c) => .ok (q, c ++ [(10, 0)])
      | .error e => .error e)
    else cpr ch N (k + 1) p
/-- the bracket of a CLAUSE -/
def brk (ch : Nat → Int32) (N p a : Nat) : Rs := if ch p = 40 then (match cnd ch N (pce ch N 5) (p + 1) a with
      | .ok (q, c) => if ch q = 41 then .ok (q + 1, c) else .error (flt 1 q)
      | .error e => .error e) else .error (flt 1 p)
/-! what steps do, on a machine with a pile -/
def Mch (Run : Nat → List Int32 → Int32 → Prop) (A : Nat → Nat → Nat → Prop) (v : Nat → Int32) : Prop :=
  (∀ i n st r, A i 0 n → st.length < 32 → Run (i + 1) (nI n :: st) r → Run i st r) ∧
  (∀ i n st r, A i 1 n → st.length < 32 → Run (i + 1) (v n :: st) r → Run i st r) ∧
  (∀ i o n x y st r, A i o n → 2 ≤ o → o ≤ 9 → ¬ ((o = 5 ∨ o = 6) ∧ y = 0) → Run (i + 1) (jn (sgn o) x y :: st) r → Run i (y :: x :: st) r) ∧
  (∀ i o n x y st, A i o n → (o = 5 ∨ o = 6) → y = 0 → Run i (y :: x :: st) 0) ∧
  (∀ i n x st r, A i 10 n → x = 0 ∨ x = 1 → Run (i + 1) ((1 - x) :: st) r → Run i (x :: st) r) ∧
  (∀ i n st r, A i 11 n → Run n (0 :: st) r → Run i (0 :: st) r) ∧ (∀ i n st r, A i 11 n → Run (i + 1) st r → Run i (1 :: st) r) ∧
  (∀ i n st r, A i 12 n → Run n (1 :: st) r → Run i (1 :: st) r) ∧ (∀ i n st r, A i 12 n → Run (i + 1) st r → Run i (0 :: st) r)
def Sem (a : Nat) (c : Cd) (D : Nat) (E : (Nat → Int32) → Option Int32) : Prop := ∀ Run A v, Mch Run A v → (∀ j x, c[j]? = some x → A (a + j) x.1 x.2) → ∀ st : List Int32, st.length + D ≤ 32 → (E v = none → Run a st 0) ∧ ∀ x r, E v = some x → Run (a + c.length) (x :: st) r → Run a st r
def Bl (E : (Nat → Int32) → Option Int32) : Prop := ∀ v x, E v = some x → x = 0 ∨ x = 1
theorem Sem.wk {a : Nat} {c : Cd} {D D' : Nat} {E : (Nat → Int32) → Option Int32} (h : Sem a c D E) (hD : D ≤ D') : Sem a c D' E := fun Run A v hM hA st hl => h Run A v hM hA st (by omega)
theorem Sem.num (a n : Nat) : Sem a [(0, n)] 1 (fun _ => some (nI n)) := by
  intro Run A v hM hA st hl
  refine ⟨fun z => (by cases z), fun x r hx hr => ?_⟩
  cases hx
  exact hM.1 a n st r (hA 0 _ rfl) (by omega) hr
theorem Sem.let (a n : Nat) : Sem a [(1, n)] 1 (fun v => some (v n)) := by
  intro Run A v hM hA st hl
  refine ⟨fun z => (by cases z), fun x r hx hr => ?_⟩
  cases hx
  exact hM.2.1 a n st r (hA 0 _ rfl) (by omega) hr
theorem gel {c1 c2 : Cd} {j : Nat} {x : Nat × Nat} (h : c1[j]? = some x) : (c1 ++ c2)[j]? = some x := by
  rw [List.getElem?_append_left (by have := List.getElem?_eq_some_iff.mp h; exact this.1)]; exact h
theorem ger {c1 c2 : Cd} {j : Nat} {x : Nat × Nat} (h : c2[j]? = some x) : (c1 ++ c2)[c1.length + j]? = some x := by
  rw [List.getElem?_append_right (by omega), Nat.add_sub_cancel_left]; exact h
def eBin (o : Nat) (E1 E2 : (Nat → Int32) → Option Int32) (v : Nat → Int32) : Option Int32 := match E1 v with
  | none => none
  | some x => match E2 v with
    | none => none
    | some y => if (o = 5 ∨ o = 6) ∧ y = 0 then none else some (jn (sgn o) x y)
theorem Sem.bin {a : Nat} {c1 c2 : Cd} {D o n : Nat} {E1 E2 : (Nat → Int32) → Option Int32} (h1 : Sem a c1 (D + 1) E1) (h2 : Sem (a + c1.length) c2 D E2) (ho : 2 ≤ o) (ho2 : o ≤ 9) : Sem a (c1 ++ c2 ++ [(o, n)]) (D + 1) (eBin o E1 E2) := by
  intro Run A v hM hA st hl
  have A1 : ∀ j x, c1[j]? = some x → A (a + j) x.1 x.2 := fun j x h => hA j x (by rw [List.append_assoc]; exact gel h)
  have A2 : ∀ j x, c2[j]? = some x → A (a + c1.length + j) x.1 x.2 := fun j x h => by
    rw [Nat.add_assoc]
    exact hA _ x (by rw [List.append_assoc]; exact ger (gel h))
  have A3 : A (a + c1.length + c2.length) o n := by
    have := hA (c1.length + c2.length) (o, n) (by rw [List.append_assoc]; exact ger (by have := ger (c1 := c2) (c2 := [(o, n)]) (j := 0) (x := (o, n)) rfl; exact this))
    rw [← Nat.add_assoc] at this
    exact this
  have k1 := h1 Run A v hM A1 st hl
  unfold eBin
  cases e1 : E1 v with
  | none => exact ⟨fun _ => k1.1 e1, fun x r hx => by cases hx⟩
  | some x =>
    have k2 := h2 Run A v hM A2 (x :: st) (by simp; omega)
    cases e2 : E2 v with
    | none => exact ⟨fun _ => k1.2 x 0 e1 (k2.1 e2), fun x r hx => by cases hx⟩
    | some y =>
      dsimp only
      by_cases q : (o = 5 ∨ o = 6) ∧ y = 0
      · rw [if_pos q]
        exact ⟨fun _ => k1.2 x 0 e1 (k2.2 y 0 e2 (hM.2.2.2.1 _ o n x y st A3 q.1 q.2)), fun x r hx => by cases hx⟩
      · rw [if_neg q]
        refine ⟨fun z => (by cases z), fun z r hz hr => ?_⟩
        cases hz
        refine k1.2 x r e1 (k2.2 y r e2 (hM.2.2.1 _ o n x y st r A3 ho ho2 q ?_))
        rw [show a + (c1 ++ c2 ++ [(o, n)]).length = a + c1.length + c2.length + 1 by simp; omega] at hr
        exact hr
def eNot (E : (Nat → Int32) → Option Int32) (v : Nat → Int32) : Option Int32 := match E v with
  | none => none
  | some x => some (1 - x)
theorem Sem.not {a : Nat} {c : Cd} {D n : Nat} {E : (Nat → Int32) → Option Int32} (h : Sem a c D E) (hB : Bl E) : Sem a (c ++ [(10, n)]) D (eNot E) := by
  intro Run A v hM hA st hl
  have A1 : ∀ j x, c[j]? = some x → A (a + j) x.1 x.2 := fun j x h => hA j x (gel h)
  have A3 : A (a + c.length) 10 n := hA c.length (10, n) (by have := ger (c1 := c) (c2 := [(10, n)]) (j := 0) (x := (10, n)) rfl; exact this)
  have k1 := h Run A v hM A1 st hl
  unfold eNot
  cases e1 : E v with
  | none => exact ⟨fun _ => k1.1 e1, fun x r hx => by cases hx⟩
  | some x =>
    refine ⟨fun z => (by cases z), fun z r hz hr => ?_⟩
    cases hz
    refine k1.2 x r e1 (hM.2.2.2.2.1 _ n x st r A3 (hB v x e1) ?_)
    rw [List.length_append, List.length_singleton, ← Nat.add_assoc] at hr
    exact hr
theorem Bl.not {E : (Nat → Int32) → Option Int32} (h : Bl E) : Bl (eNot E) := by
  intro v x hx
  unfold eNot at hx
  cases e : E v with
  | none => rw [e] at hx; cases hx
  | some y =>
    rw [e] at hx
    cases hx
    rcases h v y e with rfl | rfl
    · exact Or.inr rfl
    · exact Or.inl rfl
def eJ (op : Nat) (E1 E2 : (Nat → Int32) → Option Int32) (v : Nat → Int32) : Option Int32 := match E1 v with
  | none => none
  | some x => if op = 11 then (if x = 0 then some 0 else E2 v) else (if x = 0 then E2 v else some 1)
theorem Sem.jmp {a : Nat} {c1 c2 : Cd} {D op : Nat} {E1 E2 : (Nat → Int32) → Option Int32} (hop : op = 11 ∨ op = 12) (h1 : Sem a c1 D E1) (hB : Bl E1) (h2 : Sem (a + c1.length + 1) c2 D E2) : Sem a (c1 ++ (op, a + c1.length + 1 + c2.length) :: c2) D (eJ op E1 E2) := by
  intro Run A v hM hA st hl
  have A1 : ∀ j x, c1[j]? = some x → A (a + j) x.1 x.2 := fun j x h => hA j x (gel h)
  have A2 : ∀ j x, c2[j]? = some x → A (a + c1.length + 1 + j) x.1 x.2 := fun j x h => by
    have := hA (c1.length + (j + 1)) x (ger (by rw [List.getElem?_cons_succ]; exact h))
    rw [show a + c1.length + 1 + j = a + (c1.length + (j + 1)) by omega]
    exact this
  have A3 : A (a + c1.length) op (a + c1.length + 1 + c2.length) := by
    have := hA (c1.length + 0) (op, a + c1.length + 1 + c2.length) (ger rfl)
    exact this
  have el : a + (c1 ++ (op, a + c1.length + 1 + c2.length) :: c2).length = a + c1.length + 1 + c2.length := by simp; omega
  have k1 := h1 Run A v hM A1 st hl
  have k2 := h2 Run A v hM A2 st hl
  rw [el]
  unfold eJ
  cases e1 : E1 v with
  | none => exact ⟨fun _ => k1.1 e1, fun x r hx => by cases hx⟩
  | some x =>
    dsimp only
    rcases hop with rfl | rfl
    · rw [if_pos rfl]
      rcases hB v x e1 with rfl | rfl
      · rw [if_pos rfl]
        refine ⟨fun z => (by cases z), fun z r hz hr => ?_⟩
        cases hz
        exact k1.2 0 r e1 (hM.2.2.2.2.2.1 _ _ st r A3 hr)
      · rw [if_neg (by decide)]
        exact ⟨fun z => k1.2 1 0 e1 (hM.2.2.2.2.2.2.1 _ _ st 0 A3 (k2.1 z)), fun z r hz hr => k1.2 1 r e1 (hM.2.2.2.2.2.2.1 _ _ st r A3 (k2.2 z r hz hr))⟩
    · rw [if_neg (by decide)]
      rcases hB v x e1 with rfl | rfl
      · rw [if_pos rfl]
        exact ⟨fun z => k1.2 0 0 e1 (hM.2.2.2.2.2.2.2.2 _ _ st 0 A3 (k2.1 z)), fun z r hz hr => k1.2 0 r e1 (hM.2.2.2.2.2.2.2.2 _ _ st r A3 (k2.2 z r hz hr))⟩
      · rw [if_neg (by decide)]
        refine ⟨fun z => (by cases z), fun z r hz hr => ?_⟩
        cases hz
        exact k1.2 1 r e1 (hM.2.2.2.2.2.2.2.1 _ _ st r A3 hr)
theorem Bl.jmp {op : Nat} {E1 E2 : (Nat → Int32) → Option Int32} (h2 : Bl E2) : Bl (eJ op E1 E2) := by
  intro v x hx
  unfold eJ at hx
  split at hx
  · cases hx
  · split at hx
    · split at hx
      · cases hx; exact Or.inl rfl
      · exact h2 v x hx
    · split at hx
      · exact h2 v x hx
      · cases hx; exact Or.inr rfl
theorem Bl.cmp {o : Nat} (h7 : 7 ≤ o) (E1 E2 : (Nat → Int32) → Option Int32) : Bl (eBin o E1 E2) := by
  intro v x hx
  unfold eBin at hx
  split at hx
  · cases hx
  · split at hx
    · cases hx
    · split at hx
      · cases hx
      · cases hx
        have s37 : ¬ sgn o = 37 := by unfold sgn; repeat' split
                                      all_goals first | omega | decide
        have s42 : ¬ sgn o = 42 := by unfold sgn; repeat' split
                                      all_goals first | omega | decide
        have s43 : ¬ sgn o = 43 := by unfold sgn; repeat' split
                                      all_goals first | omega | decide
        have s45 : ¬ sgn o = 45 := by unfold sgn; repeat' split
                                      all_goals first | omega | decide
        have s47 : ¬ sgn o = 47 := by unfold sgn; repeat' split
                                      all_goals first | omega | decide
        unfold jn
        rw [if_neg s37, if_neg s42, if_neg s43, if_neg s45, if_neg s47]
        split
        · split
          · exact Or.inr rfl
          · exact Or.inl rfl
        · split
          · split
            · exact Or.inr rfl
            · exact Or.inl rfl
          · split
            · exact Or.inr rfl
            · exact Or.inl rfl
