/-! the laws of both, by what a clause's letter asks -/
theorem rk_cg {sg wt : Nat → Int32} {sz to : Nat} (hV : VL sg wt sz) {v v' : Nat → Int32} (hv : ∀ k, k < 9 → v k = v' k) : ∀ f i st, rk sg wt sz v to f i st = rk sg wt sz v' to f i st
  | 0, _, _ => rfl
  | f + 1, i, st => by
    have e : rk sg wt sz v to f = rk sg wt sz v' to f := by funext i st; exact rk_cg hV hv f i st
    unfold rk rkS
    rw [e]
    by_cases h1 : to ≤ i ∨ sz ≤ i
    · rw [if_pos h1, if_pos h1]
    · rw [if_neg h1, if_neg h1]
      by_cases h2 : sg i = 48
      · rw [if_pos h2, if_pos h2]
      · rw [if_neg h2, if_neg h2]
        by_cases h3 : sg i = 107
        · rw [if_pos h3, if_pos h3]
          obtain ⟨j, hj, ej⟩ := (hV.2 i (by omega)).1 h3
          rw [ej, cl_nI (by omega), hv j hj]
        · rw [if_neg h3, if_neg h3]
theorem rv_cg {sg wt : Nat → Int32} {sz : Nat} (hV : VL sg wt sz) {v v' : Nat → Int32} (hv : ∀ k, k < 9 → v k = v' k) (a b : Nat) : rv sg wt sz v a b = rv sg wt sz v' a b := by
  unfold rv
  rw [rk_cg hV hv]
theorem askC_cg {S W nF tF tT oL lC : Nat → Int32} {sz : Nat} (hV : VL S W sz) {v v' : Nat → Int32} (hv : ∀ k, k < 9 → v k = v' k) (c : Nat) : askC S W nF tF tT oL lC sz v c = askC S W nF tF tT oL lC sz v' c := by
  unfold askC
  simp only [rv_cg hV hv]
def ltr (c : Nat) : Int32 := if c = 0 then 110 else if c = 1 then 115 else if c = 2 then 100 else if c = 3 then 104 else if c = 4 then 119 else if c = 5 then 102 else 99
theorem ltr_inj : ∀ c, c < 7 → ∀ e, e < 7 → ltr c = ltr e → c = e := by decide
def akM (L : Nat → Nat) (T E : Nat → Int32) (c : Nat) : Nat → Nat → Int32
  | 0, _ => 0
  | m + 1, k => if L k = c ∧ T k = 1 then clp (q_ro 118 c) (q_ro 119 c) (if c = 0 then 1 else E k) else akM L T E c m (k + 1)
/-- what the reference holds of a law -/
def LM (σ : QS) (w n : Nat) (L : Nat → Nat) (T E : Nat → (Nat → Int32) → Int32) : Prop := σ 88 w = nI n ∧ n ≤ 14 ∧ ∃ op ar, VM (σ 87) op ar ∧ ∀ j, j < n → ∃ a b e, a ≤ 200 ∧ b ≤ 200 ∧ e ≤ 200 ∧ L j < 7 ∧ σ 89 (14 * w + j) = ltr (L j) ∧ σ 90 (14 * w + j) = nI (220 * w + a) ∧ σ 91 (14 * w + j) = nI (220 * w + b) ∧ σ 92 (14 * w + j) = nI (220 * w + e) ∧ ∀ v, (∃ f, rm op ar (220 * w) v (220 * w + e) f (220 * w + b) [] = some (T j v)) ∧ (L j ≠ 0 → ∃ f, rm op ar (220 * w) v (220 * w + b) f (220 * w + a) [] = some (E j v))
/-- what a law's letter asks, by the class's cells -/
def cA (σ : QS) (w : Nat) (c : Nat) (v : Nat → Int32) : Int32 := if w = 0 then askC (σ 14) (σ 15) (σ 16) (σ 17) (σ 18) (σ 19) (σ 20) (σ 13 1).toNatClampNeg v c else askC (σ 23) (σ 24) (σ 25) (σ 26) (σ 27) (σ 28) (σ 29) (σ 22 1).toNatClampNeg v c
def LC (σ : QS) (w : Nat) : Prop := if w = 0 then (∃ sz, σ 13 1 = nI sz ∧ LV (σ 14) (σ 15) (σ 16) (σ 17) (σ 18) (σ 19) (σ 20) sz) else (∃ sz, σ 22 1 = nI sz ∧ LV (σ 23) (σ 24) (σ 25) (σ 26) (σ 27) (σ 28) (σ 29) sz)
def LW (σ : QS) (w : Nat) : Prop := LC σ w ∧ ∃ n L T E, LM σ w n L T E ∧ (if w = 0 then σ 13 0 else σ 22 0) = nI n ∧ ∀ v c, c < 7 → cA σ w c v = akM L (fun k => T k v) (fun k => E k v) c n 0
theorem cA_fr {σ s : QS} (h : FrL σ s) (w : Nat) : cA s w = cA σ w := by
  funext c v
  unfold cA
  rw [h 13 (by decide), h 14 (by decide), h 15 (by decide), h 16 (by decide), h 17 (by decide), h 18 (by decide), h 19 (by decide), h 20 (by decide), h 22 (by decide), h 23 (by decide), h 24 (by decide), h 25 (by decide), h 26 (by decide), h 27 (by decide), h 28 (by decide), h 29 (by decide)]
theorem LW_fr {σ s : QS} (h : FrL σ s) {w : Nat} (hL : LW σ w) : LW s w := by
  obtain ⟨h1, n, L, T, E, h2, h3, h4⟩ := hL
  refine ⟨?_, n, L, T, E, ?_, ?_, ?_⟩
  · unfold LC at h1 ⊢
    rw [h 13 (by decide), h 14 (by decide), h 15 (by decide), h 16 (by decide), h 17 (by decide), h 18 (by decide), h 19 (by decide), h 20 (by decide), h 22 (by decide), h 23 (by decide), h 24 (by decide), h 25 (by decide), h 26 (by decide), h 27 (by decide), h 28 (by decide), h 29 (by decide)]
    exact h1
  · unfold LM at h2 ⊢
    rw [h 87 (by decide), h 88 (by decide), h 89 (by decide), h 90 (by decide), h 91 (by decide), h 92 (by decide)]
    exact h2
  · rw [h 13 (by decide), h 22 (by decide)]; exact h3
  · intro v c hc
    rw [cA_fr h]
    exact h4 v c hc
theorem LC_VL {σ : QS} {w : Nat} (h : LC σ w) {v v' : Nat → Int32} (hv : ∀ k, k < 9 → v k = v' k) (c : Nat) : cA σ w c v = cA σ w c v' := by
  unfold LC at h
  unfold cA
  by_cases hw : w = 0
  · rw [if_pos hw] at h ⊢
    rw [if_pos hw]
    obtain ⟨sz, e, hV⟩ := h
    rw [e, cl_nI (by have := hV.1.1; omega)]
    exact askC_cg hV.1 hv c
  · rw [if_neg hw] at h ⊢
    rw [if_neg hw]
    obtain ⟨sz, e, hV⟩ := h
    rw [e, cl_nI (by have := hV.1.1; omega)]
    exact askC_cg hV.1 hv c
/-- the class's question -/
theorem EV.askX0 {d : Nat} {σ : QS} {c : Nat} {v : Nat → Int32} (hL : LC σ 0) (hc : c < 7) (hv : ∀ k, k < 9 → σ 46 k = v k) : EV (d + 2) 27 0 [some (.inr 13), some (.inl (nI c)), some (.inr 46), none, none, none] [] σ (qI (fun x s => x = cA σ 0 c v ∧ ∃ P, s = q_set σ 21 P)) := by
  rw [← LC_VL hL hv]
  have h := hL
  unfold LC at h
  rw [if_pos rfl] at h
  obtain ⟨sz, e, hV⟩ := h
  unfold cA
  rw [if_pos rfl, show (σ 13 1).toNatClampNeg = sz by rw [e]; exact cl_nI (by have := hV.1.1; omega)]
  exact EV.asks0 e hV hc
theorem EV.askX1 {d : Nat} {σ : QS} {c : Nat} {v : Nat → Int32} (hL : LC σ 1) (hc : c < 7) (hv : ∀ k, k < 9 → σ 46 k = v k) : EV (d + 2) 27 0 [some (.inr 22), some (.inl (nI c)), some (.inr 46), none, none, none] [] σ (qI (fun x s => x = cA σ 1 c v ∧ ∃ P, s = q_set σ 30 P)) := by
  rw [← LC_VL hL hv]
  have h := hL
  unfold LC at h
  rw [if_neg (by decide)] at h
  obtain ⟨sz, e, hV⟩ := h
  unfold cA
  rw [if_neg (by decide), show (σ 22 1).toNatClampNeg = sz by rw [e]; exact cl_nI (by have := hV.1.1; omega)]
  exact EV.asks1 e hV hc
theorem EV.cmT {d : Nat} {σ : QS} {w a b f : Nat} {op ar : Nat → Nat} {P : Nat → Int32} {res : Int32} (hV : VM (σ 87) op ar) (hw : w < 2) (ha : a ≤ 200) (hb : b ≤ 200) (h : rm op ar (220 * w) (σ 94) (220 * w + b) f (220 * w + a) [] = some res) : EV (d + 1) 145 0 [some (.inr 69), some (.inl (nI (220 * w + a))), some (.inl (nI (220 * w + b))), none, none, none, none, none] [] (q_set σ 93 P) (qI (fun x s => x = res ∧ ∃ P', s = q_set σ 93 P')) := by
  refine pM_comesTo_0 ⟨by decide, ?_⟩
  have e1 : nI (220 * w + a) / 220 = nI w := by
    have := nI_div (a := 220 * w + a) 220 (by omega) (by decide) (by decide)
    rw [show (220 * w + a) / 220 = w by omega] at this
    exact this
  have e2 : 220 * nI w = nI (220 * w) := pk_mul 220 w
  rw [e1, e2]
  exact EV.comes hV (by omega) (by omega) f (220 * w + a) [] res P none none (by simp) (by omega) h trivial
theorem clp_in {lo hi x : Int32} (h : ¬ hi < lo) : (lo ≤ x → (x ≤ hi → clp lo hi x = x) ∧ (¬ x ≤ hi → clp lo hi x = hi)) ∧ (¬ lo ≤ x → clp lo hi x = lo) := by
  have eq : ∀ a b : Int32, ¬ a < b → ¬ b < a → a = b := fun a b h1 h2 => Int32.toInt_inj.mp (by rw [i_lt] at h1 h2; omega)
  unfold clp
  refine ⟨fun h1 => ⟨fun h2 => ?_, fun h2 => ?_⟩, fun h1 => ?_⟩
  · by_cases q : x < hi
    · rw [if_pos q]
      by_cases q2 : lo < x
      · rw [if_pos q2]
      · rw [if_neg q2]; rw [i_nlt] at h1; exact eq _ _ q2 h1
    · rw [if_neg q]
      have e : x = hi := eq _ _ q (by rw [i_nlt] at h2; exact h2)
      by_cases q2 : lo < hi
      · rw [if_pos q2]; exact e.symm
      · rw [if_neg q2, e]; exact eq _ _ q2 h
  · have q : ¬ x < hi := fun q => h2 (by rw [i_le]; rw [i_lt] at q; omega)
    rw [if_neg q]
    by_cases q2 : lo < hi
    · rw [if_pos q2]
    · rw [if_neg q2]; exact eq _ _ q2 h
  · have q : x < lo := by rw [i_le] at h1; rw [i_lt]; omega
    have q1 : x < hi := by rw [i_lt] at q h ⊢; omega
    rw [if_pos q1, if_neg (by rw [i_lt] at q ⊢; omega)]
theorem lohi : ∀ c, c < 7 → ¬ q_ro 119 c < q_ro 118 c := by decide
theorem EV.askM {d : Nat} {σ : QS} {w c : Nat} {v : Nat → Int32} {l lo hi : Int32} (hL : LW σ w) (hw : w < 2) (hc : c < 7) (hc0 : c ≠ 0) (hl : l = ltr c) (hlo : lo = q_ro 118 c) (hhi : hi = q_ro 119 c) (hv : ∀ k, k < 9 → σ 94 k = v k) : EV (d + 2) 146 0 [some (.inr 69), some (.inl (nI w)), some (.inl l), some (.inl lo), some (.inl hi), none, none] [] σ (qI (fun x s => x = cA σ w c v ∧ ∃ P, s = q_set σ 93 P)) := by
  obtain ⟨h1, n, L, T, E, ⟨en, hn, op, ar, hV, hj⟩, -, h4⟩ := hL
  rw [← LC_VL h1 hv]
  refine pM_byLaw_0 ?_
  rw [show 14 * nI w = nI (14 * w) from pk_mul 14 w, h4 (σ 94) c hc]
  generalize hA : akM L (fun k => T k (σ 94)) (fun k => E k (σ 94)) c n 0 = A
  have cw : (nI w).toNatClampNeg = w := cl_nI (by omega)
  have main : ∀ m k P w6, k + m = n → akM L (fun k => T k (σ 94)) (fun k => E k (σ 94)) c m k = A → EV (d + 2) 146 1 [some (.inr 69), some (.inl (nI w)), some (.inl l), some (.inl lo), some (.inl hi), some (.inl (nI (14 * w + k))), w6] [] (q_set σ 93 P) (qI (fun x s => x = A ∧ ∃ P, s = q_set σ 93 P)) := by
    intro m
    induction m with
    | zero =>
      intro k P w6 hk hA
      refine pM_byLaw_1 ⟨vp_in_nI hw (by decide), ?_⟩
      rw [cw, q_set_ne _ _ (show 88 ≠ 93 by decide), en, show 14 * nI w = nI (14 * w) from pk_mul 14 w, nI_add]
      exact ⟨fun _ => ⟨0, rfl, hA, P, rfl⟩, fun q => absurd (nI_le' (by omega) (by omega)) q⟩
    | succ m ih =>
      intro k P w6 hk hA
      obtain ⟨a, b, e, ha, hb, he, hLk, e89, e90, e91, e92, hrm⟩ := hj k (by omega)
      obtain ⟨⟨f1, hf1⟩, hE⟩ := hrm (σ 94)
      have ck : (nI (14 * w + k)).toNatClampNeg = 14 * w + k := cl_nI (by omega)
      have ik : vp_in (nI (14 * w + k)) 28 := vp_in_nI (by omega) (by decide)
      rw [akM] at hA
      refine pM_byLaw_1 ⟨vp_in_nI hw (by decide), ?_⟩
      rw [cw, ck, q_set_ne _ _ (show 88 ≠ 93 by decide), en, show 14 * nI w = nI (14 * w) from pk_mul 14 w, nI_add, q_set_ne _ _ (show 89 ≠ 93 by decide), e89, q_set_ne _ _ (show 91 ≠ 93 by decide), e91, q_set_ne _ _ (show 92 ≠ 93 by decide), e92, nI_p1]
      refine ⟨fun z => absurd z (nI_nle' (by omega) (by omega)), fun _ => ⟨ik, fun q2 => ?_, fun q2 => ⟨ik, ik, ⟨_, EV.cmT hV hw hb he hf1, ?_⟩⟩⟩⟩
      · rw [if_neg (fun z => q2 (by rw [hl, z.1]))] at hA
        exact ih (k + 1) P w6 (by omega) hA
      · have hLc : L k = c := ltr_inj _ hLk _ hc (q2.trans hl)
        rintro y s ⟨hy, P1, rfl⟩
        refine ⟨fun y1 => ⟨ik, ik, ?_⟩, fun y1 => ?_⟩
        · rw [if_pos ⟨hLc, hy.symm.trans y1⟩, if_neg hc0] at hA
          obtain ⟨f2, hf2⟩ := hE (by rw [hLc]; exact hc0)
          rw [q_set_ne _ _ (show 90 ≠ 93 by decide), e90, q_set_ne _ _ (show 91 ≠ 93 by decide), e91]
          refine ⟨_, EV.cmT hV hw ha hb hf2, ?_⟩
          rintro y2 s2 ⟨hy2, P2, rfl⟩
          have hcl := clp_in (x := y2) (lohi c hc)
          rw [← hlo, ← hhi] at hcl
          rw [← hlo, ← hhi, ← hy2] at hA
          exact ⟨fun q3 => ⟨fun q4 => ⟨_, rfl, ((hcl.1 q3).1 q4).symm.trans hA, P2, rfl⟩, fun q4 => ⟨_, rfl, ((hcl.1 q3).2 q4).symm.trans hA, P2, rfl⟩⟩, fun q3 => ⟨_, rfl, (hcl.2 q3).symm.trans hA, P2, rfl⟩⟩
        · rw [if_neg (fun z => y1 (hy.trans z.2))] at hA
          exact ih (k + 1) P1 w6 (by omega) hA
  have := main n 0 (σ 93) none (by omega) hA
  rw [q_set_id] at this
  exact this
theorem EV.barM {d : Nat} {σ : QS} {v : Nat → Int32} (hL : LW σ 0) (hv : ∀ k, k < 9 → σ 94 k = v k) : EV (d + 2) 147 0 [some (.inr 69), none] [] σ (qI (fun x s => x = cA σ 0 0 v ∧ ∃ P, s = q_set σ 93 P)) := by
  obtain ⟨h1, n, L, T, E, ⟨en, hn, op, ar, hV, hj⟩, -, h4⟩ := hL
  rw [← LC_VL h1 hv]
  refine pM_isBarred_0 ?_
  rw [h4 (σ 94) 0 (by decide)]
  generalize hA : akM L (fun k => T k (σ 94)) (fun k => E k (σ 94)) 0 n 0 = A
  have z0 : (0 : Int32).toNatClampNeg = 0 := rfl
  have main : ∀ m k P, k + m = n → akM L (fun k => T k (σ 94)) (fun k => E k (σ 94)) 0 m k = A → EV (d + 2) 147 1 [some (.inr 69), some (.inl (nI k))] [] (q_set σ 93 P) (qI (fun x s => x = A ∧ ∃ P, s = q_set σ 93 P)) := by
    intro m
    induction m with
    | zero =>
      intro k P hk hA
      refine pM_isBarred_1 ⟨vp_in_nI (n := 0) (by decide) (by decide), ?_⟩
      rw [z0, q_set_ne _ _ (show 88 ≠ 93 by decide), en]
      exact ⟨fun _ => ⟨0, rfl, hA, P, rfl⟩, fun q => absurd (nI_le' (by omega) (by omega)) q⟩
    | succ m ih =>
      intro k P hk hA
      obtain ⟨a, b, e, ha, hb, he, hLk, e89, e90, e91, e92, hrm⟩ := hj k (by omega)
      rw [show 14 * 0 + k = k by omega] at e89 e90 e91 e92
      obtain ⟨⟨f1, hf1⟩, hE⟩ := hrm (σ 94)
      have ck : (nI k).toNatClampNeg = k := cl_nI (by omega)
      have ik : vp_in (nI k) 28 := vp_in_nI (by omega) (by decide)
      rw [akM] at hA
      refine pM_isBarred_1 ⟨vp_in_nI (n := 0) (by decide) (by decide), ?_⟩
      rw [z0, ck, q_set_ne _ _ (show 88 ≠ 93 by decide), en, q_set_ne _ _ (show 89 ≠ 93 by decide), e89, q_set_ne _ _ (show 91 ≠ 93 by decide), e91, q_set_ne _ _ (show 92 ≠ 93 by decide), e92, nI_p1]
      refine ⟨fun z => absurd z (nI_nle' (by omega) (by omega)), fun _ => ⟨ik, fun q2 => ?_, fun q2 => ⟨ik, ik, ⟨_, EV.cmT hV (by decide) hb he hf1, ?_⟩⟩⟩⟩
      · rw [if_neg (fun z => q2 (by rw [z.1]; rfl))] at hA
        exact ih (k + 1) P (by omega) hA
      · have hLc : L k = 0 := ltr_inj _ hLk 0 (by decide) q2
        rintro y s ⟨hy, P1, rfl⟩
        refine ⟨fun y1 => ?_, fun y1 => ?_⟩
        · rw [if_neg (fun z => y1 (hy.trans z.2))] at hA
          exact ih (k + 1) P1 (by omega) hA
        · rw [if_pos ⟨hLc, hy.symm.trans y1⟩, if_pos rfl] at hA
          exact ⟨1, rfl, hA, P1, rfl⟩
  have := main n 0 (σ 93) (by omega) hA
  rw [q_set_id] at this
  exact this
