/-! the small machine is the machine: what its cells are in the heap -/
def q_v (ad : Nat → Nat) : QV → Value
  | .inl x => .int x
  | .inr c => .ref (ad c)
def q_f1 (ad : Nat → Nat) (f : Nat → Int32) (rs : List (Option Nat)) (j : Nat) : Value := match rs[j]? with
  | some (some c2) => .ref (ad c2)
  | _ => .int (f j)
def q_fd (ad : Nat → Nat) (f : Nat → Int32) (rs : List (Option Nat)) : List Value := (List.range rs.length).map (q_f1 ad f rs)
def q_en (ad : Nat → Nat) (ca : Nat → ClassId) (y : QC) (f : Nat → Int32) : va_E := match y with
  | (0, n, _) => .inl (ca 0, n, .inl f)
  | (1, n, _) => .inl (ca 1, n, .inl f)
  | (2, n, _) => .inl (ca 2, n, .inl f)
  | (3, n, rs) => .inl (ca 3, n, .inr (.inr (.inr (.inr (fun i => (rs.getD i none).map ad)))))
  | (t + 4, _, rs) => .inr (t, q_fd ad f rs)
def q_ws (ad : Nat → Nat) (ca : Nat → ClassId) (σ : QS) : va_W := (List.range 118).map (fun c => (ad c, q_en ad ca (q_lay c) (σ c)))
def q_tys (ca : Nat → ClassId) : List (ClassId × FieldType) := [(ca 0, .int), (ca 1, .char), (ca 2, .byte), (ca 3, .object "BellHours$Law")]
def q_A (ad : Nat → Nat) : Nat → Prop := fun q => ∃ c, c < 118 ∧ q = ad c
def q_lv (ad : Nat → Nat) (L : QL) : List (Nat × Value) := (List.range L.length).filterMap (fun i => match L[i]? with
  | some (some x) => some (i, q_v ad x)
  | _ => none)
theorem q_ws_at {ad : Nat → Nat} {ca : Nat → ClassId} {σ : QS} {c : Nat} (h : c < 118) : (q_ws ad ca σ)[c]? = some (ad c, q_en ad ca (q_lay c) (σ c)) := by
  simp [q_ws, h]
theorem q_ws_no {ad : Nat → Nat} {ca : Nat → ClassId} {σ : QS} {c : Nat} (h : 118 ≤ c) : (q_ws ad ca σ)[c]? = none := by
  simp [q_ws, h]
theorem q_ws_set {ad : Nat → Nat} {ca : Nat → ClassId} {σ : QS} {c : Nat} {f : Nat → Int32} (h : c < 118) : q_ws ad ca (q_set σ c f) = (q_ws ad ca σ).set c (ad c, q_en ad ca (q_lay c) f) := by
  apply List.ext_getElem?
  intro i
  by_cases hi : i = c
  · subst hi
    rw [q_ws_at h]
    simp [List.getElem?_set, q_ws, q_set, h]
  · rw [List.getElem?_set_ne (Ne.symm hi)]
    rcases Nat.lt_or_ge i 118 with q | q
    · rw [q_ws_at q, q_ws_at q]
      simp [q_set, hi]
    · rw [q_ws_no q, q_ws_no q]
theorem q_lay_lt {c : Nat} (h : (q_lay c).1 < 99) : c < 118 := by
  rcases Nat.lt_or_ge c 128 with q | q
  · have : ∀ c, c < 128 → (q_lay c).1 < 99 → c < 118 := by decide +kernel
    exact this c q h
  · exfalso
    have e : q_cells[c / 16]? = none := List.getElem?_eq_none (by show 8 ≤ c / 16; omega)
    simp [q_lay, q_g16, e] at h
theorem q_lay_ro {c : Nat} (h : (q_lay c).1 = 100) : c = 118 ∨ c = 119 := by
  rcases Nat.lt_or_ge c 128 with q | q
  · have : ∀ c, c < 128 → (q_lay c).1 = 100 → c = 118 ∨ c = 119 := by decide +kernel
    exact this c q h
  · exfalso
    have e : q_cells[c / 16]? = none := List.getElem?_eq_none (by show 8 ≤ c / 16; omega)
    simp [q_lay, q_g16, e] at h
theorem q_lay_tx {c : Nat} (h : (q_lay c).1 = 101) : c = 120 ∨ c = 121 := by
  rcases Nat.lt_or_ge c 128 with q | q
  · have : ∀ c, c < 128 → (q_lay c).1 = 101 → c = 120 ∨ c = 121 := by decide +kernel
    exact this c q h
  · exfalso
    have e : q_cells[c / 16]? = none := List.getElem?_eq_none (by show 8 ≤ c / 16; omega)
    simp [q_lay, q_g16, e] at h
theorem q_lay_rf {c : Nat} (h : (q_lay c).1 = 3) : c = 40 := by
  have h2 := q_lay_lt (c := c) (by omega)
  have : ∀ c, c < 118 → (q_lay c).1 = 3 → c = 40 := by decide +kernel
  exact this c h2 h
theorem q_lay_ob {c b : Nat} (h : (q_lay c).1 = b + 4) (hb : b < 12) : c < 118 ∧ (q_lay c).2.2.length = (q_T b).2.2 := by
  have h2 := q_lay_lt (c := c) (by omega)
  refine ⟨h2, ?_⟩
  have : ∀ c, c < 118 → ∀ b, b < 12 → (q_lay c).1 = b + 4 → (q_lay c).2.2.length = (q_T b).2.2 := by decide +kernel
  exact this c h2 b hb h
theorem q_cl_at {b : Nat} (h : b < 12) : q_cl[b]? = some (q_T b) := by
  have : ∀ b, b < 12 → q_cl[b]? = some (q_cl.getD b ("", TX0, 0)) := by
    intro b hb
    rw [List.getElem?_eq_getElem (by show b < 12; exact hb)]
    simp [List.getD_eq_getElem?_getD, List.getElem?_eq_getElem (show b < q_cl.length from hb)]
  exact this b h
theorem q_lv_mem {ad : Nat → Nat} {L : QL} {i : Nat} {v : Value} : (i, v) ∈ q_lv ad L ↔ ∃ x, L[i]? = some (some x) ∧ v = q_v ad x := by
  unfold q_lv
  rw [List.mem_filterMap]
  constructor
  · rintro ⟨j, hj, h⟩
    split at h
    · rename_i x hx
      simp only [Option.some.injEq, Prod.mk.injEq] at h
      obtain ⟨rfl, rfl⟩ := h
      exact ⟨x, hx, rfl⟩
    · cases h
  · rintro ⟨x, hx, rfl⟩
    refine ⟨i, List.mem_range.mpr (List.getElem?_eq_some_iff.mp hx).1, ?_⟩
    rw [hx]
theorem q_v_cat (ad : Nat → Nat) (x : QV) : (q_v ad x).category = 1 := by cases x <;> rfl
theorem q_lv_get {ad : Nat → Nat} {ls : Array Slot} {nL : Nat} {L : QL} (h : lv_has ls nL (q_lv ad L)) {i : Nat} {x : QV} (hx : L[i]? = some (some x)) : ls[i]? = some (.val (q_v ad x)) := h.2.2 (i, q_v ad x) (q_lv_mem.mpr ⟨x, hx, rfl⟩)
theorem q_lv_put {ad : Nat → Nat} {ls : Array Slot} {nL : Nat} {L : QL} {a : Nat} {y : QV} (ha : a < L.length) (h : lv_has ls nL ((a, q_v ad y) :: (q_lv ad L).filter (fun q => !(q.1 == a) && !(q.1 + 1 == a && q.2.category == 2)))) : lv_has ls nL (q_lv ad (L.set a (some y))) := by
  refine ⟨h.1, h.2.1, ?_⟩
  rintro ⟨i, v⟩ hq
  obtain ⟨x, hx, rfl⟩ := q_lv_mem.mp hq
  by_cases hi : i = a
  · subst hi
    rw [List.getElem?_set_self ha] at hx
    simp only [Option.some.injEq] at hx
    subst hx
    exact h.2.2 _ List.mem_cons_self
  · rw [List.getElem?_set_ne (Ne.symm hi)] at hx
    refine h.2.2 _ (List.mem_cons_of_mem _ (List.mem_filter.mpr ⟨q_lv_mem.mpr ⟨x, hx, rfl⟩, ?_⟩))
    simp [hi, q_v_cat]
theorem q_fd_at {ad : Nat → Nat} {f : Nat → Int32} {rs : List (Option Nat)} {a : Nat} (h : a < rs.length) : (q_fd ad f rs)[a]? = some (q_f1 ad f rs a) := by
  simp [q_fd, h]
theorem q_fd_set {ad : Nat → Nat} {f : Nat → Int32} {rs : List (Option Nat)} {a : Nat} {x : Int32} (h : rs[a]? = some none) : q_fd ad (upd f a x) rs = (q_fd ad f rs).set a (.int x) := by
  have hl := (List.getElem?_eq_some_iff.mp h).1
  apply List.ext_getElem?
  intro i
  by_cases hi : i = a
  · subst hi
    rw [List.getElem?_set_self (by simp [q_fd, hl]), q_fd_at hl]
    simp [q_f1, h, upd]
  · rw [List.getElem?_set_ne (Ne.symm hi)]
    rcases Nat.lt_or_ge i rs.length with q | q
    · rw [q_fd_at q, q_fd_at q]
      simp [q_f1, upd, hi]
    · rw [List.getElem?_eq_none (by simp [q_fd, q]), List.getElem?_eq_none (by simp [q_fd, q])]
theorem q_en_a {ad : Nat → Nat} {ca : Nat → ClassId} {c t : Nat} {f : Nat → Int32} (h : (q_lay c).1 = t) (ht : t < 3) : q_en ad ca (q_lay c) f = .inl (ca t, (q_lay c).2.1, .inl f) := by
  rcases hy : q_lay c with ⟨u, n, rs⟩
  rw [hy] at h
  simp only at h
  subst h
  rcases (show u = 0 ∨ u = 1 ∨ u = 2 by omega) with rfl | rfl | rfl <;> rfl
theorem q_en_o {ad : Nat → Nat} {ca : Nat → ClassId} {c b : Nat} {f : Nat → Int32} (h : (q_lay c).1 = b + 4) : q_en ad ca (q_lay c) f = .inr (b, q_fd ad f (q_lay c).2.2) := by
  rcases hy : q_lay c with ⟨u, n, rs⟩
  rw [hy] at h
  simp only at h
  subst h
  rfl
theorem q_D {ad : Nat → Nat} {ca : Nat → ClassId} {σ : QS} (hi : ∀ i j, i < 118 → j < 118 → ad i = ad j → i = j) : va_D (q_A ad) (q_ws ad ca σ) := by
  constructor
  · intro i j p q hp hq e
    rcases Nat.lt_or_ge i 118 with h1 | h1
    · rcases Nat.lt_or_ge j 118 with h2 | h2
      · rw [q_ws_at h1] at hp
        rw [q_ws_at h2] at hq
        simp only [Option.some.injEq] at hp hq
        subst hp; subst hq
        exact hi i j h1 h2 e
      · rw [q_ws_no h2] at hq; cases hq
    · rw [q_ws_no h1] at hp; cases hp
  · intro k q hk
    rcases Nat.lt_or_ge k 118 with h1 | h1
    · rw [q_ws_at h1] at hk
      simp only [Option.some.injEq] at hk
      subst hk
      exact ⟨k, h1, rfl⟩
    · rw [q_ws_no h1] at hk; cases hk
