/-! how the reference reads, as a function: place, steps, what waits, how many are open -/
abbrev MS : Type := Nat × Cd × Cd × Nat
abbrev MR : Type := Except Int32 MS
def tp (W : Cd) : Nat := match W with
  | [] => 0
  | x :: _ => x.1
def mCl (all : Bool) : Cd → Cd → Cd × Cd
  | C, [] => (C, [])
  | C, (t, x) :: W => if (4 ≤ t ∧ t ≤ 6) ∨ (all = true ∧ (t = 2 ∨ t = 3)) then mCl all (C ++ [(t, 0)]) W else (C, (t, x) :: W)
def mFac (ch : Nat → Int32) : Nat → Nat → Cd → Cd → Nat → MR
  | 0, p, C, W, o => if ch p = 91 then .error (flt 5 p) else match atm ch p with
    | .ok (q, c) => .ok (q, C ++ c, W, o)
    | .error e => .error e
  | k + 1, p, C, W, o => if ch p = 91 then mFac ch k (p + 1) C ((14, 0) :: W) (o + 1) else match atm ch p with
    | .ok (q, c) => .ok (q, C ++ c, W, o)
    | .error e => .error e
def hOp (base : Nat) (W : Cd) : Bool := (W.take (W.length - base)).any (fun x => x.1 == 14)
def mSL (ch : Nat → Int32) (base : Nat) : Nat → Nat → Cd → Cd → Nat → Option MR
  | 0, _, _, _, _ => none
  | f + 1, p, C, W, o => if ¬ mulO (ch p) = 0 then (match mFac ch (6 - o) (p + 1) (mCl false C W).1 ((mulO (ch p), 0) :: (mCl false C W).2) o with
      | .ok (q, C, W, o) => mSL ch base f q C W o
      | .error e => some (.error e))
    else if ¬ sumO (ch p) = 0 then (match mFac ch (6 - o) (p + 1) (mCl true C W).1 ((sumO (ch p), 0) :: (mCl true C W).2) o with
      | .ok (q, C, W, o) => mSL ch base f q C W o
      | .error e => some (.error e))
    else if ch p = 93 ∧ hOp base W = true then (if tp (mCl true C W).2 = 14 then mSL ch base f (p + 1) (mCl true C W).1 (mCl true C W).2.tail (o - 1) else none)
    else if hOp base W = true then some (.error (flt 1 p)) else some (.ok (p, (mCl true C W).1, (mCl true C W).2, o))
def HR (ch : Nat → Int32) (base p : Nat) (C W : Cd) (o : Nat) (r : MR) : Prop := ∃ f, mSL ch base f p C W o = some r
def FER (ch : Nat → Int32) (base p : Nat) (C W : Cd) (o : Nat) (r : MR) : Prop := match mFac ch (6 - o) p C W o with
  | .ok (q, C, W, o) => HR ch base q C W o r
  | .error e => r = .error e
def AF (ch : Nat → Int32) (base : Nat) (res : Rs) (C W : Cd) (o : Nat) (r : MR) : Prop := match res with
  | .ok (q, c) => HR ch base q (C ++ c) W o r
  | .error e => r = .error e
theorem mCl_no {all : Bool} {C W : Cd} (h : ¬ (4 ≤ tp W ∧ tp W ≤ 6)) (h2 : all = true → ¬ (tp W = 2 ∨ tp W = 3)) : mCl all C W = (C, W) := by
  cases W with
  | nil => rfl
  | cons x W =>
    rw [mCl, if_neg]
    rintro (q | ⟨q1, q2⟩)
    · exact h q
    · exact h2 q1 q2
theorem hOp_cons {base : Nat} {x : Nat × Nat} {W : Cd} (h : base ≤ W.length) : hOp base (x :: W) = (x.1 == 14 || hOp base W) := by
  unfold hOp
  rw [List.length_cons, show W.length + 1 - base = W.length - base + 1 by omega, List.take_succ_cons, List.any_cons]
theorem hOp_self (W : Cd) : hOp W.length W = false := by
  unfold hOp
  rw [Nat.sub_self, List.take_zero, List.any_nil]
theorem mSL_A {ch : Nat → Int32} {base p o x n : Nat} {C W : Cd} (hb : base ≤ W.length) (hx : 4 ≤ x ∧ x ≤ 6) (f : Nat) : mSL ch base f p C ((x, n) :: W) o = mSL ch base f p (C ++ [(x, 0)]) W o := by
  have m1 : ∀ all, mCl all C ((x, n) :: W) = mCl all (C ++ [(x, 0)]) W := fun all => by rw [mCl, if_pos (Or.inl hx)]
  have h1 : hOp base ((x, n) :: W) = hOp base W := by
    rw [hOp_cons hb]
    have : (x == 14) = false := by simp; omega
    rw [this, Bool.false_or]
  cases f with
  | zero => rfl
  | succ f => rw [mSL, mSL, m1, m1, h1]
theorem mSL_B {ch : Nat → Int32} {base p o x n : Nat} {C W : Cd} (hb : base ≤ W.length) (hx : x = 2 ∨ x = 3) (hp : mulO (ch p) = 0) (f : Nat) : mSL ch base f p C ((x, n) :: W) o = mSL ch base f p (C ++ [(x, 0)]) W o := by
  have m1 : mCl true C ((x, n) :: W) = mCl true (C ++ [(x, 0)]) W := by rw [mCl, if_pos (Or.inr ⟨rfl, hx⟩)]
  have h1 : hOp base ((x, n) :: W) = hOp base W := by
    rw [hOp_cons hb]
    have : (x == 14) = false := by simp; omega
    rw [this, Bool.false_or]
  cases f with
  | zero => rfl
  | succ f =>
    rw [mSL, mSL, m1, h1]
    rw [if_neg (show ¬ ¬ mulO (ch p) = 0 from fun z => z hp), if_neg (show ¬ ¬ mulO (ch p) = 0 from fun z => z hp)]
theorem HR_A {ch : Nat → Int32} {base p o x n : Nat} {C W : Cd} {r : MR} (hb : base ≤ W.length) (hx : 4 ≤ x ∧ x ≤ 6) (h : HR ch base p (C ++ [(x, 0)]) W o r) : HR ch base p C ((x, n) :: W) o r := by
  obtain ⟨f, hf⟩ := h
  exact ⟨f, by rw [mSL_A hb hx]; exact hf⟩
theorem HR_B {ch : Nat → Int32} {base p o x n : Nat} {C W : Cd} {r : MR} (hb : base ≤ W.length) (hx : x = 2 ∨ x = 3) (hp : mulO (ch p) = 0) (h : HR ch base p (C ++ [(x, 0)]) W o r) : HR ch base p C ((x, n) :: W) o r := by
  obtain ⟨f, hf⟩ := h
  exact ⟨f, by rw [mSL_B hb hx hp]; exact hf⟩
/-- a factor read: then as it is said -/
def CF (ch : Nat → Int32) (N : Nat) (K : Nat → Rs) (o : Nat) : Prop := ∀ base p C W r, base ≤ W.length → AF ch base (K p) C W o r → FER ch base p C W o r
theorem HR_mul {ch : Nat → Int32} {base p o : Nat} {C W : Cd} {r : MR} (hm : ¬ mulO (ch p) = 0) (ht : ¬ (4 ≤ tp W ∧ tp W ≤ 6)) (h : FER ch base (p + 1) C ((mulO (ch p), 0) :: W) o r) : HR ch base p C W o r := by
  have e : mCl false C W = (C, W) := mCl_no ht (fun z => by cases z)
  unfold FER at h
  cases hk : mFac ch (6 - o) (p + 1) C ((mulO (ch p), 0) :: W) o with
  | error er =>
    rw [hk] at h
    refine ⟨1, ?_⟩
    rw [mSL, if_pos hm, e, hk]
    dsimp only
    rw [h]
  | ok v =>
    obtain ⟨q, C2, W2, o2⟩ := v
    rw [hk] at h
    obtain ⟨f, hf⟩ := h
    refine ⟨f + 1, ?_⟩
    rw [mSL, if_pos hm, e, hk]
    exact hf
theorem HR_sum {ch : Nat → Int32} {base p o : Nat} {C W : Cd} {r : MR} (hm0 : mulO (ch p) = 0) (hm : ¬ sumO (ch p) = 0) (ht : ¬ (2 ≤ tp W ∧ tp W ≤ 6)) (h : FER ch base (p + 1) C ((sumO (ch p), 0) :: W) o r) : HR ch base p C W o r := by
  have e : mCl true C W = (C, W) := mCl_no (by omega) (fun _ => by omega)
  unfold FER at h
  cases hk : mFac ch (6 - o) (p + 1) C ((sumO (ch p), 0) :: W) o with
  | error er =>
    rw [hk] at h
    refine ⟨1, ?_⟩
    rw [mSL, if_neg (fun z => z hm0), if_pos hm, e, hk]
    dsimp only
    rw [h]
  | ok v =>
    obtain ⟨q, C2, W2, o2⟩ := v
    rw [hk] at h
    obtain ⟨f, hf⟩ := h
    refine ⟨f + 1, ?_⟩
    rw [mSL, if_neg (fun z => z hm0), if_pos hm, e, hk]
    exact hf
theorem pdL_M {ch : Nat → Int32} {N o : Nat} {K : Nat → Rs} (hK : CF ch N K o) {base : Nat} {C W : Cd} {r : MR} (hb : base ≤ W.length) (ht : ¬ (4 ≤ tp W ∧ tp W ≤ 6)) : ∀ m q acc, AF ch base (pdL ch K m q acc) C W o r → HR ch base q (C ++ acc) W o r
  | 0, q, acc, h => h
  | m + 1, q, acc, h => by
    rw [pdL] at h
    split at h
    · exact h
    · rename_i hm
      refine HR_mul hm ht (hK base (q + 1) _ _ r (by simp; omega) ?_)
      cases hk : K (q + 1) with
      | error e => rw [hk] at h; exact h
      | ok v =>
        obtain ⟨q2, c⟩ := v
        rw [hk] at h
        obtain ⟨o1, o2, -, -⟩ := mulO_r hm
        refine HR_A hb ⟨o1, o2⟩ ?_
        have := pdL_M hK hb ht m q2 (acc ++ c ++ [(mulO (ch q), 0)]) h
        rw [← List.append_assoc, ← List.append_assoc] at this
        exact this
theorem prd_M {ch : Nat → Int32} {N o : Nat} {K : Nat → Rs} (hK : CF ch N K o) {base p : Nat} {C W : Cd} {r : MR} (hb : base ≤ W.length) (ht : ¬ (4 ≤ tp W ∧ tp W ≤ 6)) (h : AF ch base (prd ch N K p) C W o r) : FER ch base p C W o r := by
  refine hK base p C W r hb ?_
  unfold prd at h
  cases hk : K p with
  | error e => rw [hk] at h; exact h
  | ok v =>
    obtain ⟨q, c⟩ := v
    rw [hk] at h
    exact pdL_M hK hb ht N q c h
theorem pdL_end {ch : Nat → Int32} {N : Nat} {K : Nat → Rs} (hc : Ch ch N) (hG : KG N K) : ∀ m q acc q2 c, N ≤ q + m → pdL ch K m q acc = .ok (q2, c) → mulO (ch q2) = 0
  | 0, q, acc, q2, c, hq, h => by
    rw [pdL] at h
    cases h
    rw [hc.1 q (by omega)]
    decide
  | m + 1, q, acc, q2, c, hq, h => by
    rw [pdL] at h
    split at h
    · rename_i e; cases h; exact e
    · split at h
      · rename_i r c' hk
        exact pdL_end hc hG m r _ q2 c (by have := (hG _ _ _ hk).2.1; omega) h
      · cases h
theorem prd_end {ch : Nat → Int32} {N : Nat} {K : Nat → Rs} (hc : Ch ch N) (hG : KG N K) {p q : Nat} {c : Cd} (h : prd ch N K p = .ok (q, c)) : mulO (ch q) = 0 := by
  unfold prd at h
  split at h
  · exact pdL_end hc hG N _ _ q c (by omega) h
  · cases h
theorem smL_end {ch : Nat → Int32} {N : Nat} {K : Nat → Rs} (hc : Ch ch N) (hG : KG N K) (hE : ∀ p q c, K p = .ok (q, c) → mulO (ch q) = 0) : ∀ m q acc q2 c, N ≤ q + m → mulO (ch q) = 0 → smL ch K m q acc = .ok (q2, c) → mulO (ch q2) = 0 ∧ sumO (ch q2) = 0
  | 0, q, acc, q2, c, hq, hm, h => by
    rw [smL] at h
    cases h
    rw [hc.1 q (by omega)]
    decide
  | m + 1, q, acc, q2, c, hq, hm, h => by
    rw [smL] at h
    split at h
    · rename_i e; cases h; exact ⟨hm, e⟩
    · split at h
      · rename_i r c' hk
        exact smL_end hc hG hE m r _ q2 c (by have := (hG _ _ _ hk).2.1; omega) (hE _ _ _ hk) h
      · cases h
theorem smm_end {ch : Nat → Int32} {N k p q : Nat} {c : Cd} (hc : Ch ch N) (h : smm ch N (fct ch N k) p = .ok (q, c)) : mulO (ch q) = 0 ∧ sumO (ch q) = 0 := by
  unfold smm at h
  split at h
  · rename_i q0 c0 hk
    exact smL_end hc (prd_kg hc k) (fun p q c h => prd_end hc (fct_kg hc k) h) N _ _ q c (by omega) (prd_end hc (fct_kg hc k) hk) h
  · cases h
theorem smL_M {ch : Nat → Int32} {N o : Nat} {K : Nat → Rs} (hK : CF ch N K o) (hE : ∀ p q c, prd ch N K p = .ok (q, c) → mulO (ch q) = 0) {base : Nat} {C W : Cd} {r : MR} (hb : base ≤ W.length) (ht : ¬ (2 ≤ tp W ∧ tp W ≤ 6)) : ∀ m q acc, mulO (ch q) = 0 → AF ch base (smL ch (prd ch N K) m q acc) C W o r → HR ch base q (C ++ acc) W o r
  | 0, q, acc, _, h => h
  | m + 1, q, acc, hm0, h => by
    rw [smL] at h
    split at h
    · exact h
    · rename_i hm
      obtain ⟨o1, o2, -, -⟩ := sumO_r hm
      refine HR_sum hm0 hm ht (prd_M hK (by simp; omega) (by show ¬ (4 ≤ sumO (ch q) ∧ sumO (ch q) ≤ 6); omega) ?_)
      cases hk : prd ch N K (q + 1) with
      | error e => rw [hk] at h; exact h
      | ok v =>
        obtain ⟨q2, c⟩ := v
        rw [hk] at h
        refine HR_B hb (by omega) (hE _ _ _ hk) ?_
        have := smL_M hK hE hb ht m q2 (acc ++ c ++ [(sumO (ch q), 0)]) (hE _ _ _ hk) h
        rw [← List.append_assoc, ← List.append_assoc] at this
        exact this
theorem smm_M {ch : Nat → Int32} {N o : Nat} {K : Nat → Rs} (hK : CF ch N K o) (hE : ∀ p q c, prd ch N K p = .ok (q, c) → mulO (ch q) = 0) {base p : Nat} {C W : Cd} {r : MR} (hb : base ≤ W.length) (ht : ¬ (2 ≤ tp W ∧ tp W ≤ 6)) (h : AF ch base (smm ch N K p) C W o r) : FER ch base p C W o r := by
  refine prd_M hK hb (by omega) ?_
  unfold smm at h
  cases hk : prd ch N K p with
  | error e => rw [hk] at h; exact h
  | ok v =>
    obtain ⟨q, c⟩ := v
    rw [hk] at h
    exact smL_M hK hE hb ht N q c (hE _ _ _ hk) h
theorem fct_M {ch : Nat → Int32} {N : Nat} (hc : Ch ch N) : ∀ k, k ≤ 6 → CF ch N (fct ch N k) (6 - k)
  | 0, hk => by
    intro base p C W r hb h
    unfold FER
    rw [show 6 - (6 - 0) = 0 by omega, mFac]
    rw [fct] at h
    split at h
    · rename_i q; rw [if_pos q]; exact h
    · rename_i q
      rw [if_neg q]
      cases ha : atm ch p with
      | error e => rw [ha] at h; exact h
      | ok v => rw [ha] at h; exact h
  | k + 1, hk => by
    intro base p C W r hb h
    unfold FER
    rw [show 6 - (6 - (k + 1)) = k + 1 by omega, mFac]
    rw [fct] at h
    split at h
    · rename_i q
      rw [if_pos q]
      have ih := fct_M hc k (by omega)
      have key : FER ch base (p + 1) C ((14, 0) :: W) (6 - k) r := by
        refine smm_M ih (fun p q c h => prd_end hc (fct_kg hc k) h) (by simp; omega) (by show ¬ (2 ≤ 14 ∧ 14 ≤ 6); omega) ?_
        cases hs : smm ch N (fct ch N k) (p + 1) with
        | error e => rw [hs] at h; exact h
        | ok v =>
          obtain ⟨q2, c⟩ := v
          rw [hs] at h
          dsimp only at h
          obtain ⟨e1, e2⟩ := smm_end hc hs
          have ho : hOp base ((14, 0) :: W) = true := by rw [hOp_cons hb]; rfl
          have em : mCl true (C ++ c) ((14, 0) :: W) = (C ++ c, (14, 0) :: W) := mCl_no (by show ¬ (4 ≤ 14 ∧ 14 ≤ 6); omega) (fun _ => by show ¬ (14 = 2 ∨ 14 = 3); omega)
          split at h
          · rename_i e93
            obtain ⟨f, hf⟩ := h
            refine ⟨f + 1, ?_⟩
            rw [mSL, if_neg (fun z => z e1), if_neg (fun z => z e2), if_pos ⟨e93, ho⟩, em, if_pos (show tp ((14, 0) :: W) = 14 from rfl)]
            rw [show 6 - k - 1 = 6 - (k + 1) by omega]
            exact hf
          · rename_i e93
            refine ⟨1, ?_⟩
            rw [mSL, if_neg (fun z => z e1), if_neg (fun z => z e2), if_neg (fun z => e93 z.1), if_pos ho]
            rw [h]
      unfold FER at key
      rw [show 6 - (6 - k) = k by omega] at key
      rw [show 6 - (k + 1) + 1 = 6 - k by omega]
      exact key
    · rename_i q
      rw [if_neg q]
      cases ha : atm ch p with
      | error e => rw [ha] at h; exact h
      | ok v => rw [ha] at h; exact h
/-- a whole sum -/
theorem sum_M {ch : Nat → Int32} {N k p : Nat} {C W : Cd} (hc : Ch ch N) (hk : k ≤ 6) (ht : ¬ (2 ≤ tp W ∧ tp W ≤ 6)) : FER ch W.length p C W (6 - k) (match smm ch N (fct ch N k) p with
    | .ok (q, c) => .ok (q, C ++ c, W, 6 - k)
    | .error e => .error e) := by
  refine smm_M (fct_M hc k hk) (fun p q c h => prd_end hc (fct_kg hc k) h) (Nat.le_refl _) ht ?_
  cases hs : smm ch N (fct ch N k) p with
  | error e => rfl
  | ok v =>
    obtain ⟨q, c⟩ := v
    obtain ⟨e1, e2⟩ := smm_end hc hs
    have em : mCl true (C ++ c) W = (C ++ c, W) := mCl_no (by omega) (fun _ => by omega)
    refine ⟨1, ?_⟩
    rw [mSL, if_neg (fun z => z e1), if_neg (fun z => z e2), if_neg (fun z => by rw [hOp_self] at z; cases z.2), if_neg (by rw [hOp_self]; exact fun z => by cases z), em]
/-! conditions -/
def mEnd : Cd → Cd → Nat → Cd × Cd × Nat
  | C, [], o => (C, [], o)
  | C, (t, x) :: W, o => if t = 10 then mEnd (C ++ [(10, 0)]) W (o - 1) else (C, (t, x) :: W, o)
def mLd (all : Bool) : Cd → Cd → Cd × Cd
  | C, [] => (C, [])
  | C, (t, x) :: W => if t = 11 ∨ (all = true ∧ t = 12) then mLd all (C.set x ((C.getD x (0, 0)).1, C.length)) W else (C, (t, x) :: W)
def mC (ch : Nat → Int32) (N : Nat) : Nat → Bool → Nat → Cd → Cd → Nat → Option MR
  | 0, _, _, _, _, _ => none
  | f + 1, false, p, C, W, o => if ch p = 33 ∨ ch p = 40 then (if o = 6 then some (.error (flt 5 p)) else mC ch N f false (p + 1) C ((if ch p = 33 then 10 else 13, 0) :: W) (o + 1))
    else if 10 ≤ tp W ∧ tp W ≤ 13 then (match cpr ch N (6 - o) p with
      | .ok (q, c) => mC ch N f true q (mEnd (C ++ c) W o).1 (mEnd (C ++ c) W o).2.1 (mEnd (C ++ c) W o).2.2
      | .error e => some (.error e)) else none
  | f + 1, true, p, C, W, o => if ch p = 41 then (if ¬ tp (mLd true C W).2 = 13 then none else if (mLd true C W).2.tail = [] then some (.ok (p + 1, (mLd true C W).1, [], o - 1)) else mC ch N f true (p + 1) (mEnd (mLd true C W).1 (mLd true C W).2.tail (o - 1)).1 (mEnd (mLd true C W).1 (mLd true C W).2.tail (o - 1)).2.1 (mEnd (mLd true C W).1 (mLd true C W).2.tail (o - 1)).2.2)
    else if ch p = 38 then mC ch N f false (p + 1) ((mLd false C W).1 ++ [(11, 0)]) ((11, (mLd false C W).1.length) :: (mLd false C W).2) o
    else if ch p = 124 then mC ch N f false (p + 1) ((mLd true C W).1 ++ [(12, 0)]) ((12, (mLd true C W).1.length) :: (mLd true C W).2) o
    else some (.error (flt 1 p))
def R7 (ch : Nat → Int32) (N p : Nat) (C W : Cd) (o : Nat) (r : MR) : Prop := ∃ f, mC ch N f false p C W o = some r
def R21 (ch : Nat → Int32) (N p : Nat) (C W : Cd) (o : Nat) (r : MR) : Prop := ∃ f, mC ch N f true p C W o = some r
def AP (ch : Nat → Int32) (N : Nat) (res : Rs) (C W : Cd) (o : Nat) (r : MR) : Prop := match res with
  | .ok (q, c) => R21 ch N q (mEnd (C ++ c) W o).1 (mEnd (C ++ c) W o).2.1 (mEnd (C ++ c) W o).2.2 r
  | .error e => r = .error e
def AC (ch : Nat → Int32) (N : Nat) (res : Rs) (C W : Cd) (o : Nat) (r : MR) : Prop := match res with
  | .ok (q, c) => R21 ch N q (C ++ c) W o r
  | .error e => r = .error e
theorem mEnd_no {C W : Cd} {o : Nat} (h : ¬ tp W = 10) : mEnd C W o = (C, W, o) := by
  cases W with
  | nil => rfl
  | cons x W => rw [mEnd, if_neg (show ¬ x.1 = 10 from h)]
theorem mLd_no {all : Bool} {C W : Cd} (h : ¬ tp W = 11) (h2 : all = true → ¬ tp W = 12) : mLd all C W = (C, W) := by
  cases W with
  | nil => rfl
  | cons x W =>
    rw [mLd, if_neg]
    rintro (q | ⟨q1, q2⟩)
    · exact h q
    · exact h2 q1 q2
theorem R21_A {ch : Nat → Int32} {N p x o : Nat} {C W : Cd} {r : MR} (h : R21 ch N p (C.set x ((C.getD x (0, 0)).1, C.length)) W o r) : R21 ch N p C ((11, x) :: W) o r := by
  obtain ⟨f, hf⟩ := h
  refine ⟨f, ?_⟩
  have m1 : ∀ all, mLd all C ((11, x) :: W) = mLd all (C.set x ((C.getD x (0, 0)).1, C.length)) W := fun all => by rw [mLd, if_pos (Or.inl rfl)]
  cases f with
  | zero => cases hf
  | succ f => rw [mC] at hf ⊢; rw [m1, m1]; exact hf
theorem R21_B {ch : Nat → Int32} {N p x o : Nat} {C W : Cd} {r : MR} (hp : ¬ ch p = 38) (h : R21 ch N p (C.set x ((C.getD x (0, 0)).1, C.length)) W o r) : R21 ch N p C ((12, x) :: W) o r := by
  obtain ⟨f, hf⟩ := h
  refine ⟨f, ?_⟩
  have m1 : mLd true C ((12, x) :: W) = mLd true (C.set x ((C.getD x (0, 0)).1, C.length)) W := by rw [mLd, if_pos (Or.inr ⟨rfl, rfl⟩)]
  cases f with
  | zero => cases hf
  | succ f => rw [mC] at hf ⊢; rw [m1, if_neg hp]; rw [if_neg hp] at hf; exact hf
theorem set_mid (A B : Cd) (x y : Nat × Nat) : (A ++ x :: B).set A.length y = A ++ y :: B := by
  rw [List.set_append_right _ _ (Nat.le_refl _), Nat.sub_self]
  rfl
theorem get_mid (A B : Cd) (x d : Nat × Nat) : (A ++ x :: B).getD A.length d = x := by
  rw [List.getD_eq_getElem?_getD, List.getElem?_append_right (Nat.le_refl _), Nat.sub_self]
  rfl
def CP (ch : Nat → Int32) (N : Nat) (K : Nat → Nat → Rs) (o : Nat) (X : Nat → Prop) : Prop := ∀ p C W r, C.length ≤ p → W ≠ [] → X (tp W) → AC ch N (K p C.length) C W o r → R7 ch N p C W o r
theorem ptL_M {ch : Nat → Int32} {N o op : Nat} {w : Int32} {K : Nat → Nat → Rs} {X : Nat → Prop} (hwo : (w = 38 ∧ op = 11) ∨ (w = 124 ∧ op = 12)) (hX : X op) (hK : CP ch N K o X) (hG : KG2 N K) (hE : op = 12 → ∀ p a q c, a ≤ p → K p a = .ok (q, c) → ¬ ch q = 38) {C W : Cd} {r : MR} (hW : W ≠ []) (ht : ¬ tp W = 11) (ht2 : op = 12 → ¬ tp W = 12) : ∀ m q acc, C.length + acc.length ≤ q → AC ch N (ptL ch K w op C.length m q acc) C W o r → R21 ch N q (C ++ acc) W o r
  | 0, q, acc, _, h => h
  | m + 1, q, acc, hl, h => by
    rw [ptL] at h
    split at h
    · rename_i hq
      have key : R7 ch N (q + 1) (C ++ acc ++ [(op, 0)]) ((op, (C ++ acc).length) :: W) o r := by
        refine hK _ _ _ _ (by simp; omega) (by simp) hX ?_
        have el : List.length (C ++ acc ++ [((op : Nat), (0 : Nat))]) = C.length + acc.length + 1 := by rw [List.length_append, List.length_append]; rfl
        rw [el]
        cases hk : K (q + 1) (C.length + acc.length + 1) with
        | error e => rw [hk] at h; exact h
        | ok v =>
          obtain ⟨q2, c⟩ := v
          rw [hk] at h
          obtain ⟨g1, g2, g3⟩ := hG _ _ _ _ (by omega) hk
          have ih := ptL_M hwo hX hK hG hE hW ht ht2 m q2 _ (by simp; omega) h
          have e : (C ++ acc ++ [(op, 0)] ++ c).set (C ++ acc).length (((C ++ acc ++ [(op, 0)] ++ c).getD (C ++ acc).length (0, 0)).1, (C ++ acc ++ [(op, 0)] ++ c).length) = C ++ (acc ++ (op, C.length + acc.length + 1 + c.length) :: c) := by
            have e1 : C ++ acc ++ [(op, 0)] ++ c = (C ++ acc) ++ (op, 0) :: c := by simp
            rw [e1, get_mid, set_mid]
            rw [List.append_assoc]
            congr 4
            simp
            omega
          rcases hwo with ⟨-, rfl⟩ | ⟨-, rfl⟩
          · exact R21_A (by rw [e]; exact ih)
          · exact R21_B (hE rfl _ _ _ _ (by omega) hk) (by rw [e]; exact ih)
      obtain ⟨f, hf⟩ := key
      refine ⟨f + 1, ?_⟩
      rw [mC]
      rcases hwo with ⟨rfl, rfl⟩ | ⟨rfl, rfl⟩
      · rw [if_neg (by rw [hq]; decide), if_pos hq, mLd_no ht (fun z => by cases z)]
        exact hf
      · rw [if_neg (by rw [hq]; decide), if_neg (by rw [hq]; decide), if_pos hq, mLd_no ht (fun _ => ht2 rfl)]
        exact hf
    · exact h
theorem ptL_end {ch : Nat → Int32} {N a op p : Nat} {w : Int32} {K : Nat → Nat → Rs} (hc : Ch ch N) (hw : ¬ w = -1) (ha : a ≤ p) (hG : KG2 N K) (X : Int32 → Prop) (hX : X (-1)) (hE : ∀ p a q c, a ≤ p → K p a = .ok (q, c) → X (ch q)) : ∀ m q acc q2 c, p + acc.length ≤ q → N ≤ q + m → X (ch q) → ptL ch K w op a m q acc = .ok (q2, c) → ¬ ch q2 = w ∧ X (ch q2)
  | 0, q, acc, q2, c, hl, hq, hx, h => by
    rw [ptL] at h
    cases h
    rw [hc.1 q (by omega)]
    exact ⟨fun z => hw z.symm, hX⟩
  | m + 1, q, acc, q2, c, hl, hq, hx, h => by
    rw [ptL] at h
    split at h
    · split at h
      · rename_i r c' hk
        obtain ⟨g1, g2, g3⟩ := hG _ _ _ _ (by omega) hk
        exact ptL_end hc hw ha hG X hX hE m r _ q2 c (by simp; omega) (by omega) (hE _ _ _ _ (by omega) hk) h
      · cases h
    · rename_i e; cases h; exact ⟨e, hx⟩
theorem prt_end {ch : Nat → Int32} {N : Nat} {K : Nat → Nat → Rs} (hc : Ch ch N) (hG : KG2 N K) (p a q : Nat) (c : Cd) (ha : a ≤ p) (h : prt ch N K p a = .ok (q, c)) : ¬ ch q = 38 := by
  unfold prt at h
  split at h
  · rename_i q0 c0 hk
    exact (ptL_end hc (by decide) ha hG (fun _ => True) trivial (fun _ _ _ _ _ _ => trivial) N q0 c0 q c (hG _ _ _ _ ha hk).1 (by omega) trivial h).1
  · cases h
theorem cnd_end {ch : Nat → Int32} {N : Nat} {K : Nat → Nat → Rs} (hc : Ch ch N) (hG : KG2 N K) (hG2 : KG2 N (prt ch N K)) {p a q : Nat} {c : Cd} (ha : a ≤ p) (h : cnd ch N K p a = .ok (q, c)) : ¬ ch q = 124 ∧ ¬ ch q = 38 := by
  unfold cnd at h
  split at h
  · rename_i q0 c0 hk
    exact ptL_end hc (by decide) ha hG2 (fun x => ¬ x = 38) (by decide) (fun p a q c ha h => prt_end hc hG p a q c ha h) N q0 c0 q c (hG2 _ _ _ _ ha hk).1 (by omega) (prt_end hc hG _ _ _ _ ha hk) h
  · cases h
/-! the whole condition -/
def CPP (ch : Nat → Int32) (N : Nat) (K : Nat → Nat → Rs) (o : Nat) : Prop := ∀ p C W r, C.length ≤ p → W ≠ [] → 10 ≤ tp W ∧ tp W ≤ 13 → AP ch N (K p C.length) C W o r → R7 ch N p C W o r
theorem AP_AC {ch : Nat → Int32} {N o : Nat} {res : Rs} {C W : Cd} {r : MR} (h : ¬ tp W = 10) : AP ch N res C W o r ↔ AC ch N res C W o r := by
  unfold AP AC
  cases res with
  | error e => exact Iff.rfl
  | ok v =>
    obtain ⟨q, c⟩ := v
    dsimp only
    rw [mEnd_no h]
theorem CPP.cp {ch : Nat → Int32} {N o : Nat} {K : Nat → Nat → Rs} (h : CPP ch N K o) : CP ch N K o (fun t => 11 ≤ t ∧ t ≤ 13) := fun p C W r h1 h2 h3 h4 => h p C W r h1 h2 (by dsimp only at h3; omega) ((AP_AC (by dsimp only at h3; omega)).mpr h4)
theorem prt_M {ch : Nat → Int32} {N o : Nat} {K : Nat → Nat → Rs} (hG : KG2 N K) (h : CPP ch N K o) : CP ch N (prt ch N K) o (fun t => 12 ≤ t ∧ t ≤ 13) := by
  intro p C W r h1 h2 h3 h4
  refine h.cp p C W r h1 h2 (by dsimp only at h3 ⊢; omega) ?_
  unfold prt at h4
  cases hk : K p C.length with
  | error e => rw [hk] at h4; exact h4
  | ok v =>
    obtain ⟨q, c⟩ := v
    rw [hk] at h4
    obtain ⟨g1, g2, g3⟩ := hG _ _ _ _ h1 hk
    exact ptL_M (X := fun t => 11 ≤ t ∧ t ≤ 13) (Or.inl ⟨rfl, rfl⟩) (by decide) h.cp hG (fun z => absurd z (by decide)) h2 (by have h3 : 12 ≤ tp W ∧ tp W ≤ 13 := h3; omega) (fun z => absurd z (by decide)) N q c (by omega) h4
theorem cnd_M {ch : Nat → Int32} {N o : Nat} {K : Nat → Nat → Rs} (hc : Ch ch N) (hG : KG2 N K) (hG2 : KG2 N (prt ch N K)) (h : CPP ch N K o) : CP ch N (cnd ch N K) o (fun t => t = 13) := by
  intro p C W r h1 h2 h3 h4
  have h3 : tp W = 13 := h3
  refine prt_M hG h p C W r h1 h2 (by dsimp only; omega) ?_
  unfold cnd at h4
  cases hk : prt ch N K p C.length with
  | error e => rw [hk] at h4; exact h4
  | ok v =>
    obtain ⟨q, c⟩ := v
    rw [hk] at h4
    obtain ⟨g1, g2, g3⟩ := hG2 _ _ _ _ h1 hk
    exact ptL_M (X := fun t => 12 ≤ t ∧ t ≤ 13) (Or.inr ⟨rfl, rfl⟩) (by decide) (prt_M hG h) hG2 (fun _ p a q c ha hk => prt_end hc hG p a q c ha hk) h2 (by omega) (fun _ => by omega) N q c (by omega) h4
theorem R7_cpr {ch : Nat → Int32} {N p o : Nat} {C W : Cd} {r : MR} (h40 : ¬ ch p = 40) (h33 : ¬ ch p = 33) (ht : 10 ≤ tp W ∧ tp W ≤ 13) (h : AP ch N (cpr ch N (6 - o) p) C W o r) : R7 ch N p C W o r := by
  unfold AP at h
  cases hk : cpr ch N (6 - o) p with
  | error e =>
    rw [hk] at h
    refine ⟨1, ?_⟩
    rw [mC, if_neg (fun z => z.elim h33 h40), if_pos ht, hk, h]
  | ok v =>
    obtain ⟨q, c⟩ := v
    rw [hk] at h
    obtain ⟨f, hf⟩ := h
    refine ⟨f + 1, ?_⟩
    rw [mC, if_neg (fun z => z.elim h33 h40), if_pos ht, hk]
    exact hf
theorem R7_er {ch : Nat → Int32} {N p : Nat} {C W : Cd} {r : MR} (h : ch p = 33 ∨ ch p = 40) (hr : r = .error (flt 5 p)) : R7 ch N p C W 6 r := by
  refine ⟨1, ?_⟩
  rw [mC, if_pos h, if_pos rfl, hr]
theorem R7_op {ch : Nat → Int32} {N p o t : Nat} {C W : Cd} {r : MR} (h : ch p = 33 ∨ ch p = 40) (ho : ¬ o = 6) (ht : (if ch p = 33 then 10 else 13) = t) (hr : R7 ch N (p + 1) C ((t, 0) :: W) (o + 1) r) : R7 ch N p C W o r := by
  obtain ⟨f, hf⟩ := hr
  refine ⟨f + 1, ?_⟩
  rw [mC, if_pos h, if_neg ho, ht]
  exact hf
theorem R21_er {ch : Nat → Int32} {N p o : Nat} {C W : Cd} {r : MR} (h1 : ¬ ch p = 41) (h2 : ¬ ch p = 38) (h3 : ¬ ch p = 124) (hr : r = .error (flt 1 p)) : R21 ch N p C W o r := by
  refine ⟨1, ?_⟩
  rw [mC, if_neg h1, if_neg h2, if_neg h3, hr]
theorem R21_cl {ch : Nat → Int32} {N p o : Nat} {C W : Cd} {r : MR} (h1 : ch p = 41) (hW : W ≠ []) (hr : R21 ch N (p + 1) (mEnd C W (o - 1)).1 (mEnd C W (o - 1)).2.1 (mEnd C W (o - 1)).2.2 r) : R21 ch N p C ((13, 0) :: W) o r := by
  obtain ⟨f, hf⟩ := hr
  refine ⟨f + 1, ?_⟩
  have e : mLd true C ((13, 0) :: W) = (C, (13, 0) :: W) := mLd_no (by show ¬ 13 = 11; decide) (fun _ => by show ¬ 13 = 12; decide)
  rw [mC, if_pos h1, e, if_neg (show ¬ ¬ tp ((13, 0) :: W) = 13 from fun z => z rfl), if_neg (show ¬ ((13, 0) :: W).tail = [] from hW)]
  exact hf
theorem pce_M {ch : Nat → Int32} {N : Nat} (hc : Ch ch N) (hN : N ≤ 200) : ∀ k, k ≤ 6 → CPP ch N (pce ch N k) (6 - k)
  | 0, hk => by
    intro p C W r h1 h2 h3 h4
    rw [pce] at h4
    split at h4
    · rename_i q; exact R7_er (Or.inr q) h4
    · rename_i q40
      split at h4
      · rename_i q; exact R7_er (Or.inl q) h4
      · rename_i q33; exact R7_cpr q40 q33 h3 h4
  | k + 1, hk => by
    intro p C W r h1 h2 h3 h4
    have ih := pce_M hc hN k (by omega)
    have eo : 6 - (k + 1) + 1 = 6 - k := by omega
    rw [pce] at h4
    split at h4
    · rename_i q40
      refine R7_op (t := 13) (Or.inr q40) (by omega) (by rw [q40]; rfl) ?_
      rw [eo]
      refine cnd_M hc (pce_kg hc hN k) (prt_kg hc hN k) ih _ _ _ _ (by omega) (by simp) rfl ?_
      cases hk2 : cnd ch N (pce ch N k) (p + 1) C.length with
      | error e => rw [hk2] at h4; exact h4
      | ok v =>
        obtain ⟨q, c⟩ := v
        rw [hk2] at h4
        obtain ⟨e1, e2⟩ := cnd_end hc (pce_kg hc hN k) (prt_kg hc hN k) (by omega) hk2
        dsimp only at h4
        show R21 ch N q (C ++ c) ((13, 0) :: W) (6 - k) r
        split at h4
        · rename_i q41
          refine R21_cl q41 h2 ?_
          rw [show 6 - k - 1 = 6 - (k + 1) by omega]
          exact h4
        · rename_i q41; exact R21_er q41 e2 e1 h4
    · rename_i q40
      split at h4
      · rename_i q33
        refine R7_op (t := 10) (Or.inl q33) (by omega) (by rw [q33]; rfl) ?_
        rw [eo]
        refine ih _ _ _ _ (by omega) (by simp) (by show 10 ≤ 10 ∧ 10 ≤ 13; decide) ?_
        cases hk2 : pce ch N k (p + 1) C.length with
        | error e => rw [hk2] at h4; exact h4
        | ok v =>
          obtain ⟨q, c⟩ := v
          rw [hk2] at h4
          show R21 ch N q (mEnd (C ++ c) ((10, 0) :: W) (6 - k)).1 (mEnd (C ++ c) ((10, 0) :: W) (6 - k)).2.1 (mEnd (C ++ c) ((10, 0) :: W) (6 - k)).2.2 r
          rw [mEnd, if_pos rfl, show 6 - k - 1 = 6 - (k + 1) by omega, List.append_assoc]
          exact h4
      · rename_i q33
        refine R7_cpr q40 q33 h3 ?_
        rw [show 6 - (6 - (k + 1)) = k + 1 by omega]
        exact h4
def RC (ch : Nat → Int32) (N p : Nat) (C : Cd) (r : MR) : Prop := (ch p = 40 → R7 ch N (p + 1) C [(13, 0)] 1 r) ∧ (¬ ch p = 40 → r = .error (flt 1 p))
def mok (C : Cd) (res : Rs) : MR := match res with
  | .ok (q, c) => .ok (q, C ++ c, [], 0)
  | .error e => .error e
theorem brk_M {ch : Nat → Int32} {N p : Nat} {C : Cd} (hc : Ch ch N) (hN : N ≤ 200) (h : C.length ≤ p) : RC ch N p C (mok C (brk ch N p C.length)) := by
  unfold brk
  refine ⟨fun q40 => ?_, fun q40 => by rw [if_neg q40]; rfl⟩
  rw [if_pos q40]
  refine cnd_M hc (pce_kg hc hN 5) (prt_kg hc hN 5) (pce_M hc hN 5 (by decide)) _ _ _ _ (by omega) (by simp) rfl ?_
  cases hk : cnd ch N (pce ch N 5) (p + 1) C.length with
  | error e => rfl
  | ok v =>
    obtain ⟨q, c⟩ := v
    obtain ⟨e1, e2⟩ := cnd_end hc (pce_kg hc hN 5) (prt_kg hc hN 5) (by omega) hk
    dsimp only
    show R21 ch N q (C ++ c) [(13, 0)] 1 _
    by_cases q41 : ch q = 41
    · rw [if_pos q41]
      refine ⟨1, ?_⟩
      have e : mLd true (C ++ c) [(13, 0)] = (C ++ c, [(13, 0)]) := mLd_no (by show ¬ 13 = 11; decide) (fun _ => by show ¬ 13 = 12; decide)
      rw [mC, if_pos q41, e, if_neg (show ¬ ¬ tp [(13, 0)] = 13 from fun z => z rfl), if_pos (show List.tail [((13 : Nat), (0 : Nat))] = [] from rfl)]
      rfl
    · rw [if_neg q41]
      exact R21_er q41 e2 e1 rfl
