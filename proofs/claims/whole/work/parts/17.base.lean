/-! ends of calls: an int and a state, or a state alone -/
def qI (R : Int32 → QS → Prop) : QQ := fun r s => ∃ x, r = some x ∧ R x s
def qV (R : QS → Prop) : QQ := fun r s => r = none ∧ R s
/-- the answer x, the state s -/
def qis (x : Int32) (s : QS) : QQ := fun r s' => r = some x ∧ s' = s
def qvs (s : QS) : QQ := fun r s' => r = none ∧ s' = s
theorem EV.cI {d mi : Nat} {Q : QQ} {m2 nx na ml : Nat} {tg : Int} {L : QL} {st : List QV} {σ : QS} {P : Int32 → QS → Prop} (h : ∃ R : Int32 → QS → Prop, EV d m2 0 (q_ent na ml st) [] σ (qI R) ∧ ∀ y s, R y s → P y s) (k : ∀ y s, P y s → EV (d + 1) mi nx L (.inl y :: st.drop na) s Q) (hl : (Nat.ble (st.drop na).length 8 && q_rc tg na st) = true := by rfl) : q_cal EV (d + 1) mi Q m2 nx tg na ml L st σ := by
  obtain ⟨R, h1, h2⟩ := h
  refine EV.call hl h1 ?_
  rintro r s ⟨x, rfl, hx⟩
  exact k x s (h2 x s hx)
theorem EV.cV {d mi : Nat} {Q : QQ} {m2 nx na ml : Nat} {tg : Int} {L : QL} {st : List QV} {σ : QS} {P : QS → Prop} (h : ∃ R : QS → Prop, EV d m2 0 (q_ent na ml st) [] σ (qV R) ∧ ∀ s, R s → P s) (k : ∀ s, P s → EV (d + 1) mi nx L (st.drop na) s Q) (hl : (Nat.ble (st.drop na).length 8 && q_rc tg na st) = true := by rfl) : q_cal EV (d + 1) mi Q m2 nx tg na ml L st σ := by
  obtain ⟨R, h1, h2⟩ := h
  refine EV.call hl h1 ?_
  rintro r s ⟨rfl, hx⟩
  exact k s (h2 s hx)
theorem EV.toI {d mi k : Nat} {L : QL} {st : List QV} {σ s : QS} {x : Int32} {R : Int32 → QS → Prop} (h : EV d mi k L st σ (qis x s)) (hR : R x s) : EV d mi k L st σ (qI R) := h.mono (fun r s' q => ⟨x, q.1, q.2 ▸ hR⟩)
theorem EV.toV {d mi k : Nat} {L : QL} {st : List QV} {σ s : QS} {R : QS → Prop} (h : EV d mi k L st σ (qvs s)) (hR : R s) : EV d mi k L st σ (qV R) := h.mono (fun r s' q => ⟨q.1, q.2 ▸ hR⟩)
/-- a call whose end is known -/
theorem ex_I {d mi : Nat} {L : QL} {σ s : QS} {x : Int32} {P : Int32 → QS → Prop} (h : EV d mi 0 L [] σ (qis x s)) (k : P x s) : ∃ R : Int32 → QS → Prop, EV d mi 0 L [] σ (qI R) ∧ ∀ y s, R y s → P y s := ⟨P, h.toI k, fun _ _ q => q⟩
theorem ex_V {d mi : Nat} {L : QL} {σ s : QS} {P : QS → Prop} (h : EV d mi 0 L [] σ (qvs s)) (k : P s) : ∃ R : QS → Prop, EV d mi 0 L [] σ (qV R) ∧ ∀ s, R s → P s := ⟨P, h.toV k, fun _ q => q⟩
theorem q_set_same (σ : QS) (c : Nat) (f g : Nat → Int32) : q_set (q_set σ c f) c g = q_set σ c g := by
  funext c'
  simp only [q_set]
  split <;> rfl
theorem q_set_eq (σ : QS) (c : Nat) (f : Nat → Int32) : q_set σ c f c = f := by simp [q_set]
theorem q_set_ne (σ : QS) {c c' : Nat} (f : Nat → Int32) (h : c' ≠ c) : q_set σ c f c' = σ c' := by simp [q_set, h]
theorem q_set_id (σ : QS) (c : Nat) : q_set σ c (σ c) = σ := by
  funext c'
  simp only [q_set]
  split
  · rename_i h; rw [h]
  · rfl
theorem upd_same (f : Nat → Int32) (i : Nat) (x y : Int32) : upd (upd f i x) i y = upd f i y := by
  funext j
  simp only [upd]
  split <;> rfl
theorem upd_eq (f : Nat → Int32) (i : Nat) (x : Int32) : upd f i x i = x := by simp [upd]
theorem upd_ne (f : Nat → Int32) {i j : Nat} (x : Int32) (h : j ≠ i) : upd f i x j = f j := by simp [upd, h]
