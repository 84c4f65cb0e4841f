/-! a TEXT of clauses -/
abbrev Cl : Type := List (Nat × Cd × Cd)
def clq (ch : Nat → Int32) (N l p a : Nat) : Except Int32 (Nat × Cd × Cd) := match (if l = 0 then .ok (p, []) else smm ch N (fct ch N 6) p : Rs) with
  | .error e => .error e
  | .ok (q, ce) => match brk ch N q (a + ce.length) with
    | .error e => .error e
    | .ok (r, cc) => .ok (r, ce, cc)
def cls (ch : Nat → Int32) (N : Nat) : Nat → Nat → Nat → Except Int32 Cl
  | m, p, a => match ltO (ch p) with
    | none => .error (flt 1 p)
    | some l => match m with
      | 0 => .error (flt 4 p)
      | m + 1 => match clq ch N l (p + 1) a with
        | .error e => .error e
        | .ok (r, ce, cc) => if r < N then (if ch r = 59 then (match cls ch N m (r + 1) (a + ce.length + cc.length) with
            | .ok L => .ok ((l, ce, cc) :: L)
            | .error e => .error e) else .error (flt 1 r)) else .ok [(l, ce, cc)]
/-! faults are not 0 -/
def Fl (N : Nat) (e : Int32) : Prop := ∃ k q, (k = 1 ∨ k = 2 ∨ k = 4 ∨ k = 5) ∧ q ≤ N ∧ e = flt k q
theorem Fl.ne {N : Nat} {e : Int32} (hN : N ≤ 200) (h : Fl N e) : ¬ e = 0 := by
  obtain ⟨k, q, hk, hq, rfl⟩ := h
  have key : ∀ k, (k = 1 ∨ k = 2 ∨ k = 4 ∨ k = 5) → ∀ q, q < 201 → ¬ flt k q = 0 := by
    intro k hk
    rcases hk with rfl | rfl | rfl | rfl <;> decide +kernel
  exact key k hk q (by omega)
def ErK (N : Nat) (K : Nat → Rs) : Prop := ∀ p e, p ≤ N → K p = .error e → Fl N e
theorem fl_of {α : Type} {N : Nat} {e e' : Int32} (h : (Except.error e' : Except Int32 α) = .error e) (f : Fl N e') : Fl N e := (Except.error.inj h) ▸ f
theorem fl1 {N p : Nat} (h : p ≤ N) : Fl N (flt 1 p) := ⟨1, p, Or.inl rfl, h, rfl⟩
theorem fl5 {N p : Nat} (h : p ≤ N) : Fl N (flt 5 p) := ⟨5, p, Or.inr (Or.inr (Or.inr rfl)), h, rfl⟩
theorem nmb_er {ch : Nat → Int32} {N : Nat} (hc : Ch ch N) : ∀ k p n e, p ≤ N → nmb ch k p n = .error e → Fl N e
  | 0, p, n, e, hp, h => by
    rw [nmb] at h
    split at h
    · exact fl_of h (⟨2, p, Or.inr (Or.inl rfl), hp, rfl⟩)
    · cases h
  | k + 1, p, n, e, hp, h => by
    rw [nmb] at h
    split at h
    · rename_i hd
      exact nmb_er hc k _ _ e (hc.dig hd).1 h
    · cases h
theorem atm_er {ch : Nat → Int32} {N : Nat} (hc : Ch ch N) : ErK N (atm ch) := by
  intro p e hp h
  unfold atm at h
  split at h
  · exact nmb_er hc 5 p 0 e hp h
  · split at h
    · cases h
    · exact fl_of h (fl1 hp)
theorem pdL_er {ch : Nat → Int32} {N : Nat} {K : Nat → Rs} (hc : Ch ch N) (hK : ErK N K) (hG : KG N K) : ∀ m q acc e, q ≤ N → pdL ch K m q acc = .error e → Fl N e
  | 0, q, acc, e, hq, h => by rw [pdL] at h; cases h
  | m + 1, q, acc, e, hq, h => by
    rw [pdL] at h
    split at h
    · cases h
    · rename_i ho
      have hq2 : q < N := hc.lt rfl (mulO_r ho).2.2.1
      split at h
      · rename_i r c hk
        exact pdL_er hc hK hG m r _ e (hG _ _ _ hk).2.2 h
      · rename_i e2 hk
        cases h
        exact hK _ _ hq2 hk
theorem smL_er {ch : Nat → Int32} {N : Nat} {K : Nat → Rs} (hc : Ch ch N) (hK : ErK N K) (hG : KG N K) : ∀ m q acc e, q ≤ N → smL ch K m q acc = .error e → Fl N e
  | 0, q, acc, e, hq, h => by rw [smL] at h; cases h
  | m + 1, q, acc, e, hq, h => by
    rw [smL] at h
    split at h
    · cases h
    · rename_i ho
      have hq2 : q < N := hc.lt rfl (sumO_r ho).2.2.1
      split at h
      · rename_i r c hk
        exact smL_er hc hK hG m r _ e (hG _ _ _ hk).2.2 h
      · rename_i e2 hk
        cases h
        exact hK _ _ hq2 hk
theorem prd_er {ch : Nat → Int32} {N : Nat} {K : Nat → Rs} (hc : Ch ch N) (hK : ErK N K) (hG : KG N K) : ErK N (prd ch N K) := by
  intro p e hp h
  unfold prd at h
  split at h
  · rename_i q c hk
    exact pdL_er hc hK hG N q c e (hG _ _ _ hk).2.2 h
  · rename_i e2 hk
    cases h
    exact hK _ _ hp hk
theorem smm_er {ch : Nat → Int32} {N : Nat} {K : Nat → Rs} (hc : Ch ch N) (hK : ErK N K) (hG : KG N K) (hG2 : KG N (prd ch N K)) : ErK N (smm ch N K) := by
  intro p e hp h
  unfold smm at h
  split at h
  · rename_i q c hk
    exact smL_er hc (prd_er hc hK hG) hG2 N q c e (hG2 _ _ _ hk).2.2 h
  · rename_i e2 hk
    cases h
    exact prd_er hc hK hG _ _ hp hk
theorem fct_er {ch : Nat → Int32} {N : Nat} (hc : Ch ch N) : ∀ k, ErK N (fct ch N k)
  | 0 => by
    intro p e hp h
    rw [fct] at h
    split at h
    · exact fl_of h (fl5 hp)
    · exact atm_er hc p e hp h
  | k + 1 => by
    intro p e hp h
    rw [fct] at h
    split at h
    · rename_i q
      have hp2 : p < N := hc.lt q (by decide)
      split at h
      · rename_i q2 c hk
        split at h
        · cases h
        · exact fl_of h (fl1 (smm_kg hc k _ _ _ hk).2.2)
      · rename_i e2 hk
        cases h
        exact smm_er hc (fct_er hc k) (fct_kg hc k) (prd_kg hc k) _ _ hp2 hk
    · exact atm_er hc p e hp h
theorem sum_er {ch : Nat → Int32} {N : Nat} (hc : Ch ch N) (k : Nat) : ErK N (smm ch N (fct ch N k)) := smm_er hc (fct_er hc k) (fct_kg hc k) (prd_kg hc k)
theorem cpr_er {ch : Nat → Int32} {N : Nat} (hc : Ch ch N) (k : Nat) : ErK N (cpr ch N k) := by
  intro p e hp h
  unfold cpr at h
  split at h
  · rename_i q c hk
    have hq := (smm_kg hc k _ _ _ hk).2.2
    split at h
    · exact fl_of h (fl1 hq)
    · rename_i ho
      have hq2 : q < N := hc.lt rfl (cmpO_r ho).2.2.1
      split at h
      · cases h
      · rename_i e2 hk2
        cases h
        exact sum_er hc k _ _ hq2 hk2
  · rename_i e2 hk
    cases h
    exact sum_er hc k _ _ hp hk
def ErK2 (N : Nat) (K : Nat → Nat → Rs) : Prop := ∀ p a e, p ≤ N → a ≤ p → K p a = .error e → Fl N e
theorem ptL_er {ch : Nat → Int32} {N a p op : Nat} {w : Int32} {K : Nat → Nat → Rs} (hc : Ch ch N) (hw : ¬ w = -1) (hK : ErK2 N K) (hG : KG2 N K) (ha : a ≤ p) : ∀ m q acc e, p + acc.length ≤ q → q ≤ N → ptL ch K w op a m q acc = .error e → Fl N e
  | 0, q, acc, e, hl, hq, h => by rw [ptL] at h; cases h
  | m + 1, q, acc, e, hl, hq, h => by
    rw [ptL] at h
    split at h
    · rename_i hw2
      have hq2 : q < N := hc.lt hw2 hw
      split at h
      · rename_i r c hk
        obtain ⟨g1, g2, g3⟩ := hG _ _ _ _ (by omega) hk
        exact ptL_er hc hw hK hG ha m r _ e (by simp; omega) g3 h
      · rename_i e2 hk
        cases h
        exact hK _ _ _ hq2 (by omega) hk
    · cases h
theorem prt_er {ch : Nat → Int32} {N : Nat} {K : Nat → Nat → Rs} (hc : Ch ch N) (hK : ErK2 N K) (hG : KG2 N K) : ErK2 N (prt ch N K) := by
  intro p a e hp ha h
  unfold prt at h
  split at h
  · rename_i q c hk
    obtain ⟨g1, g2, g3⟩ := hG _ _ _ _ ha hk
    exact ptL_er hc (by decide) hK hG ha N q c e g1 g3 h
  · rename_i e2 hk
    cases h
    exact hK _ _ _ hp ha hk
theorem cnd_er {ch : Nat → Int32} {N : Nat} {K : Nat → Nat → Rs} (hc : Ch ch N) (hK : ErK2 N K) (hG : KG2 N K) (hG2 : KG2 N (prt ch N K)) : ErK2 N (cnd ch N K) := by
  intro p a e hp ha h
  unfold cnd at h
  split at h
  · rename_i q c hk
    obtain ⟨g1, g2, g3⟩ := hG2 _ _ _ _ ha hk
    exact ptL_er hc (by decide) (prt_er hc hK hG) hG2 ha N q c e g1 g3 h
  · rename_i e2 hk
    cases h
    exact prt_er hc hK hG _ _ _ hp ha hk
theorem pce_er {ch : Nat → Int32} {N : Nat} (hc : Ch ch N) (hN : N ≤ 200) : ∀ k, ErK2 N (pce ch N k)
  | 0 => by
    intro p a e hp ha h
    rw [pce] at h
    split at h
    · exact fl_of h (fl5 hp)
    · split at h
      · exact fl_of h (fl5 hp)
      · exact cpr_er hc 0 _ _ hp h
  | k + 1 => by
    intro p a e hp ha h
    rw [pce] at h
    split at h
    · rename_i q
      have hp2 : p < N := hc.lt q (by decide)
      split at h
      · rename_i q2 c hk
        split at h
        · cases h
        · exact fl_of h (fl1 (cnd_kg hc hN k _ _ _ _ (by omega) hk).2.2)
      · rename_i e2 hk
        cases h
        exact cnd_er hc (pce_er hc hN k) (pce_kg hc hN k) (prt_kg hc hN k) _ _ _ hp2 (by omega) hk
    · split at h
      · rename_i q
        have hp2 : p < N := hc.lt q (by decide)
        split at h
        · cases h
        · rename_i e2 hk
          cases h
          exact pce_er hc hN k _ _ _ hp2 (by omega) hk
      · exact cpr_er hc (k + 1) _ _ hp h
theorem brk_er {ch : Nat → Int32} {N : Nat} (hc : Ch ch N) (hN : N ≤ 200) : ErK2 N (brk ch N) := by
  intro p a e hp ha h
  unfold brk at h
  split at h
  · rename_i q
    have hp2 : p < N := hc.lt q (by decide)
    split at h
    · rename_i q2 c hk
      split at h
      · cases h
      · exact fl_of h (fl1 (cnd_kg hc hN 5 _ _ _ _ (by omega) hk).2.2)
    · rename_i e2 hk
      cases h
      exact cnd_er hc (pce_er hc hN 5) (pce_kg hc hN 5) (prt_kg hc hN 5) _ _ _ hp2 (by omega) hk
  · exact fl_of h (fl1 hp)
theorem brk_kg {ch : Nat → Int32} {N : Nat} (hc : Ch ch N) (hN : N ≤ 200) : KG2 N (brk ch N) := fun p a q c ha h => by
  obtain ⟨h1, h2, h3, -⟩ := brk_ok hc hN ha h
  exact ⟨h1, h2, h3⟩
theorem clq_kg {ch : Nat → Int32} {N l p a r : Nat} {ce cc : Cd} (hc : Ch ch N) (hN : N ≤ 200) (ha : a ≤ p) (h : clq ch N l p a = .ok (r, ce, cc)) : p + ce.length + cc.length ≤ r ∧ p < r ∧ r ≤ N ∧ (l = 0 → ce = []) := by
  unfold clq at h
  split at h
  · cases h
  · rename_i q c0 h0
    split at h
    · cases h
    · rename_i r2 c2 hb
      cases h
      by_cases hl : l = 0
      · rw [if_pos hl] at h0
        cases h0
        obtain ⟨g1, g2, g3⟩ := brk_kg hc hN _ _ _ _ (by simp; omega) hb
        exact ⟨by simp; omega, g2, g3, fun _ => rfl⟩
      · rw [if_neg hl] at h0
        obtain ⟨k1, k2, k3⟩ := smm_kg hc 6 _ _ _ h0
        obtain ⟨g1, g2, g3⟩ := brk_kg hc hN _ _ _ _ (by omega) hb
        exact ⟨by omega, by omega, g3, fun z => absurd z hl⟩
theorem clq_er {ch : Nat → Int32} {N l p a : Nat} {e : Int32} (hc : Ch ch N) (hN : N ≤ 200) (hp : p ≤ N) (ha : a ≤ p) (h : clq ch N l p a = .error e) : Fl N e := by
  unfold clq at h
  split at h
  · rename_i e2 h0
    cases h
    by_cases hl : l = 0
    · rw [if_pos hl] at h0; cases h0
    · rw [if_neg hl] at h0
      exact sum_er hc 6 _ _ hp h0
  · rename_i q c0 h0
    have hq : a + c0.length ≤ q ∧ q ≤ N := by
      by_cases hl : l = 0
      · rw [if_pos hl] at h0; cases h0; exact ⟨by simp; omega, hp⟩
      · rw [if_neg hl] at h0
        obtain ⟨k1, k2, k3⟩ := smm_kg hc 6 _ _ _ h0
        exact ⟨by omega, k3⟩
    split at h
    · rename_i e2 hb
      cases h
      exact brk_er hc hN _ _ _ hq.2 hq.1 hb
    · cases h
theorem ltO_lt {c : Int32} {x : Nat} (h : ltO c = some x) : x < 7 ∧ ¬ c = -1 ∧ c = ltr x := by
  unfold ltO at h
  repeat' split at h
  all_goals first | (cases h; rename_i e; rw [e]; exact ⟨by decide, by decide, by decide⟩) | cases h
theorem cls_er {ch : Nat → Int32} {N : Nat} (hc : Ch ch N) (hN : N ≤ 200) : ∀ m p a e, p ≤ N → a ≤ p → cls ch N m p a = .error e → Fl N e := by
  intro m
  induction m with
  | zero =>
    intro p a e hp ha h
    unfold cls at h
    split at h
    · exact fl_of h (fl1 hp)
    · exact fl_of h (⟨4, p, Or.inr (Or.inr (Or.inl rfl)), hp, rfl⟩)
  | succ m ih =>
    intro p a e hp ha h
    unfold cls at h
    split at h
    · exact fl_of h (fl1 hp)
    · rename_i l hl
      have hp2 : p < N := hc.lt rfl (ltO_lt hl).2.1
      dsimp only at h
      split at h
      · rename_i e2 hq
        cases h
        exact clq_er hc hN hp2 (by omega) hq
      · rename_i r ce cc hq
        obtain ⟨g1, g2, g3, -⟩ := clq_kg hc hN (by omega) hq
        split at h
        · rename_i hr
          split at h
          · split at h
            · cases h
            · rename_i e2 hcl
              cases h
              exact ih _ _ _ hr (by omega) hcl
          · exact fl_of h (fl1 g3)
        · cases h
