/-! what is known of a law that was read -/
def lf (L : Cl) (j : Nat) : Nat := match L[j]? with
  | some (l, _, _) => l
  | none => 0
theorem LV_new {s τ : QS} {L : Cl} (hG : GdL L 0) (hC : ClC s L 0 0 0) (hM : ClM τ L 0 0) (hL : Lt s L 0 (fun _ => 0)) (hn : L.length ≤ 14) (hz : zl L ≤ 200) : LV (s 32) (s 33) (s 34) (s 35) (s 36) (s 37) (s 38) (zl L) := by
  refine ⟨⟨hz, fun i hi => ?_⟩, fun c hc => ?_⟩
  · exact ClC_VL L 0 0 0 hG hC (by omega) i (by omega) (by omega)
  · obtain ⟨k1, k2⟩ := hL c hc
    dsimp only at k1 k2
    rw [Nat.zero_add] at k1
    have hlen := ixl_len c L 0
    refine ⟨(ixl c L 0).length, by omega, k1, fun q hq => ?_⟩
    have hx := List.getElem?_eq_getElem hq
    obtain ⟨-, b2⟩ := ixl_in c L 0 q _ hx
    have e37 := k2 q _ hx
    rw [Nat.zero_add] at e37
    generalize (ixl c L 0)[q] = x at b2 e37
    have hxl : x < L.length := by omega
    have hcl : ∃ l ce cc, L[x]? = some (l, ce, cc) := ⟨L[x].1, L[x].2.1, L[x].2.2, List.getElem?_eq_getElem hxl⟩
    obtain ⟨l, ce, cc, hcl⟩ := hcl
    obtain ⟨a, sh, v1, v2, v3, ⟨c1, c2, c3, -, -⟩, -⟩ := cl_at L 0 0 0 hG hC hM x l ce cc hcl
    rw [Nat.zero_add] at c1 c2 c3
    exact ⟨x, a + sh, a + sh + (ce1 l ce).length, a + sh + (ce1 l ce).length + cc.length, by omega, e37, by omega, by omega, by omega, c1, c2, c3⟩
theorem ask_new {s τ : QS} {L : Cl} (hG : GdL L 0) (hC : ClC s L 0 0 0) (hM : ClM τ L 0 0) (hL : Lt s L 0 (fun _ => 0)) (hn : L.length ≤ 14) (hz : zl L ≤ 200) (v : Nat → Int32) (c : Nat) (hc : c < 7) : askC (s 32) (s 33) (s 34) (s 35) (s 36) (s 37) (s 38) (zl L) v c = akM (lf L) (fun k => cT s (zl L) k v) (fun k => cE s (zl L) k v) c L.length 0 := by
  obtain ⟨k1, k2⟩ := hL c hc
  dsimp only at k1 k2
  rw [Nat.zero_add] at k1
  have hlen := ixl_len c L 0
  have vals : ∀ j, j < L.length → (cT s (zl L) j v = 0 ∨ cT s (zl L) j v = 1) ∧ (lf L j = 0 → cE s (zl L) j v = 1) := by
    intro j hj
    have hcl : ∃ l ce cc, L[j]? = some (l, ce, cc) := ⟨L[j].1, L[j].2.1, L[j].2.2, List.getElem?_eq_getElem hj⟩
    obtain ⟨l, ce, cc, hcl⟩ := hcl
    obtain ⟨a, sh, hcv⟩ := cl_at L 0 0 0 hG hC hM j l ce cc hcl
    rw [Nat.zero_add, Nat.zero_add, Nat.zero_add] at hcv
    obtain ⟨h1, h2, -⟩ := hcv.vals hz v
    refine ⟨h1, fun z => h2 ?_⟩
    unfold lf at z
    rw [hcl] at z
    exact z
  unfold askC
  rw [k1, cl_nI (by omega)]
  have := ak_eq (Lf := lf L) (T := fun k => cT s (zl L) k v) (E := fun k => cE s (zl L) k v) (c := c) (O := fun k => s 37 (c * 14 + k)) L 0 0 (by omega) (fun i x hx => by
    have := k2 i x hx
    rw [Nat.zero_add] at this ⊢
    exact this) (fun j l ce cc h => by
    rw [Nat.zero_add]
    unfold lf
    rw [h]) (fun j hj => by rw [Nat.zero_add]; exact (vals j hj).1) (fun j hj h => by rw [Nat.zero_add] at h ⊢; exact (vals j hj).2 h)
  exact this
theorem cpy_in {f g : Nat → Int32} {b n i : Nat} (h : i < n) : cpy f g b n (b + i) = g i := by
  unfold cpy
  rw [if_pos (by omega), show b + i - b = i by omega]
theorem cpy_out {f g : Nat → Int32} {b n i : Nat} (h : i < b ∨ b + n ≤ i) : cpy f g b n i = f i := by
  unfold cpy
  rw [if_neg (by omega)]
/-- the steps of a law, laid over what was there -/
def opN (op : Nat → Nat) (F : Cd) (b k : Nat) : Nat := if b ≤ k ∧ k < b + F.length then (F.getD (k - b) (0, 0)).1 else op k
def arN (ar : Nat → Nat) (F : Cd) (b k : Nat) : Nat := if b ≤ k ∧ k < b + F.length then (F.getD (k - b) (0, 0)).2 else ar k
theorem opN_in {op ar : Nat → Nat} {F : Cd} {b i : Nat} {x : Nat × Nat} (h : F[i]? = some x) : opN op F b (b + i) = x.1 ∧ arN ar F b (b + i) = x.2 := by
  have hi := (List.getElem?_eq_some_iff.mp h).1
  unfold opN arN
  rw [if_pos (by omega), if_pos (by omega), show b + i - b = i by omega, List.getD_eq_getElem?_getD, h]
  exact ⟨rfl, rfl⟩
theorem VM_new {C B : Nat → Int32} {op ar : Nat → Nat} {F : Cd} {w : Nat} (h : VM C op ar) (hw : w < 2) (hB : CR B F) (hV : Vc 0 F) (hF : F.length ≤ 200) : VM (cpy C B (220 * w) F.length) (opN op F (220 * w)) (arN ar F (220 * w)) := by
  intro k hk
  by_cases q : 220 * w ≤ k ∧ k < 220 * w + F.length
  · obtain ⟨i, rfl⟩ : ∃ i, k = 220 * w + i := ⟨k - 220 * w, by omega⟩
    have hi : i < F.length := by omega
    have hx := List.getElem?_eq_getElem hi
    obtain ⟨e1, e2⟩ := opN_in (op := op) (ar := ar) (b := 220 * w) hx
    obtain ⟨b1, b2⟩ := hB i _ hx
    obtain ⟨v1, v2, v3, v4⟩ := hV i _ hx
    rw [e1, e2, cpy_in hi, b1]
    exact ⟨rfl, v1, v2, v3, fun z => by have := (v4 z).2; omega⟩
  · rw [cpy_out (by omega)]
    unfold opN arN
    rw [if_neg q, if_neg q]
    exact h k hk
theorem LM_new {σ u s : QS} {w : Nat} {L : Cl} (hw : w < 2) (hG : GdL L 0) (hC : ClC s L 0 0 0) (hz : zl L ≤ 200) (hO : OKM σ u w L) (hOld : ∃ op ar, VM (σ 87) op ar) : LM u w L.length (lf L) (cT s (zl L)) (cE s (zl L)) := by
  obtain ⟨o1, o2, o3, ⟨B, o4, o5⟩, τ, hM, o6, o7, o8, o9⟩ := hO
  obtain ⟨op, ar, hV⟩ := hOld
  refine ⟨by rw [o3, upd_eq], o1, opN op (fl L) (220 * w), arN ar (fl L) (220 * w), ?_, fun j hj => ?_⟩
  · rw [o5]
    exact VM_new hV hw o4 (fl_Vc L 0 hG) o2
  · have hcl : ∃ l ce cc, L[j]? = some (l, ce, cc) := ⟨L[j].1, L[j].2.1, L[j].2.2, List.getElem?_eq_getElem hj⟩
    obtain ⟨l, ce, cc, hcl⟩ := hcl
    obtain ⟨a, sh, hcv⟩ := cl_at L 0 0 0 hG hC hM j l ce cc hcl
    rw [Nat.zero_add, Nat.zero_add, Nat.zero_add] at hcv
    have hlf : lf L j = l := by unfold lf; rw [hcl]
    have hcv' := hcv
    obtain ⟨h1, h2, h3, -, ⟨m1, m2, m3, m4⟩, ⟨g1, -⟩, -⟩ := hcv'
    refine ⟨a, a + ce.length, a + ce.length + cc.length, by omega, by omega, by omega, by rw [hlf]; exact g1, ?_, ?_, ?_, ?_, fun v => ?_⟩
    · rw [o6, cpy_in hj, hlf]; exact m1
    · rw [o7, cpy_in hj, m2, nI_add]
    · rw [o8, cpy_in hj, m3, nI_add]
    · rw [o9, cpy_in hj, m4, nI_add]
    · obtain ⟨-, -, k⟩ := hcv.vals hz v
      have := k (opN op (fl L) (220 * w)) (arN ar (fl L) (220 * w)) (220 * w) (fun i x hx => opN_in hx)
      rw [hlf]
      exact this
theorem LM_old {σ u : QS} {w w' n : Nat} {Lf : Nat → Nat} {T E : Nat → (Nat → Int32) → Int32} {L : Cl} (hw : w < 2) (hw' : w' < 2) (hne : w' ≠ w) (hG : GdL L 0) (hO : OKM σ u w L) (h : LM σ w' n Lf T E) : LM u w' n Lf T E := by
  obtain ⟨o1, o2, o3, ⟨B, o4, o5⟩, τ, hM, o6, o7, o8, o9⟩ := hO
  obtain ⟨h1, h2, op, ar, hV, hj⟩ := h
  refine ⟨by rw [o3, upd_ne _ _ hne]; exact h1, h2, opN op (fl L) (220 * w), arN ar (fl L) (220 * w), ?_, fun j hjn => ?_⟩
  · rw [o5]
    exact VM_new hV hw o4 (fl_Vc L 0 hG) o2
  · obtain ⟨a, b, e, ha, hb, he, hl, k1, k2, k3, k4, hr⟩ := hj j hjn
    refine ⟨a, b, e, ha, hb, he, hl, ?_, ?_, ?_, ?_, fun v => ?_⟩
    · rw [o6, cpy_out (by omega)]; exact k1
    · rw [o7, cpy_out (by omega)]; exact k2
    · rw [o8, cpy_out (by omega)]; exact k3
    · rw [o9, cpy_out (by omega)]; exact k4
    · obtain ⟨⟨f1, r1⟩, r2⟩ := hr v
      have cg : ∀ to, to ≤ 220 * w' + 200 → ∀ k, 220 * w' ≤ k → k < to → opN op (fl L) (220 * w) k = op k ∧ arN ar (fl L) (220 * w) k = ar k := by
        intro to hto k hk1 hk2
        unfold opN arN
        rw [if_neg (by omega), if_neg (by omega)]
        exact ⟨rfl, rfl⟩
      refine ⟨⟨f1, ?_⟩, fun z => ?_⟩
      · rw [rm_cg (cg _ (by omega)) f1 _ _ (by omega)]; exact r1
      · obtain ⟨f2, r2⟩ := r2 z
        exact ⟨f2, by rw [rm_cg (cg _ (by omega)) f2 _ _ (by omega)]; exact r2⟩
/-- a state that holds a law's rows where the spare law's are -/
def spr (t : QS) (lo : Nat) : QS := fun c => if 32 ≤ c ∧ c ≤ 38 then t (lo + (c - 31)) else fun _ => 0
theorem spr_cl {s s' t : QS} {lo : Nat} {L : Cl} (hT : Tk lo s s') (ht : ∀ c, lo ≤ c ∧ c ≤ lo + 7 → t c = s' c) (hC : ClC s L 0 0 0) (hL : Lt s L 0 (fun _ => 0)) (hn : L.length ≤ 14) (hz : zl L ≤ 200) : ClC (spr t lo) L 0 0 0 ∧ Lt (spr t lo) L 0 (fun _ => 0) := by
  obtain ⟨-, -, -, t1, t2, t3, t4⟩ := hT
  have q : ∀ k, 1 ≤ k → k ≤ 7 → spr t lo (31 + k) = s' (lo + k) := fun k h1 h2 => by
    unfold spr
    rw [if_pos (by omega), show 31 + k - 31 = k by omega, ht _ (by omega)]
  have q1 : spr t lo 32 = s' (lo + 1) := q 1 (by omega) (by omega)
  have q2 : spr t lo 33 = s' (lo + 2) := q 2 (by omega) (by omega)
  have q3 : spr t lo 34 = s' (lo + 3) := q 3 (by omega) (by omega)
  have q4 : spr t lo 35 = s' (lo + 4) := q 4 (by omega) (by omega)
  have q5 : spr t lo 36 = s' (lo + 5) := q 5 (by omega) (by omega)
  have q6 : spr t lo 37 = s' (lo + 6) := q 6 (by omega) (by omega)
  have q7 : spr t lo 38 = s' (lo + 7) := q 7 (by omega) (by omega)
  refine ⟨ClC_cg (fun i hi => ?_) (fun j hj => ?_) L 0 0 0 (by omega) (by omega) hC, fun c hc => ?_⟩
  · rw [q1, q2]; exact t1 i hi
  · rw [q3, q4, q5]; exact t2 j hj
  · obtain ⟨l1, l2⟩ := hL c hc
    dsimp only at l1 l2 ⊢
    rw [q6, q7, t4 c hc]
    refine ⟨l1, fun i x hx => ?_⟩
    have hi := (List.getElem?_eq_some_iff.mp hx).1
    have := ixl_len c L 0
    rw [t3 _ (by omega)]
    exact l2 i x hx
