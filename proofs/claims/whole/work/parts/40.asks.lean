theorem rk_tot {sg wt : Nat → Int32} {sz : Nat} {v : Nat → Int32} {to : Nat} : ∀ f i st, to - i < f → ∃ r, rk sg wt sz v to f i st = some r
  | 0, i, st, h => absurd h (Nat.not_lt_zero _)
  | f + 1, i, st, h => by
    have ih := rk_tot (sg := sg) (wt := wt) (sz := sz) (v := v) (to := to) f
    unfold rk
    unfold rkS
    by_cases hend : to ≤ i ∨ sz ≤ i
    · rw [if_pos hend]; exact ⟨_, rfl⟩
    rw [if_neg hend]
    have nx : ∀ i2 st2, i < i2 → ∃ r, rk sg wt sz v to f i2 st2 = some r := fun i2 st2 h2 => ih i2 st2 (by omega)
    have hj : i < max i (wt i).toNatClampNeg + 1 := by omega
    split
    · split
      · exact nx _ _ (by omega)
      · exact ⟨_, rfl⟩
    split
    · split
      · exact nx _ _ (by omega)
      · exact ⟨_, rfl⟩
    split
    · split
      · exact ⟨_, rfl⟩
      · exact nx _ _ (by omega)
    split
    · split
      · exact ⟨_, rfl⟩
      · split
        · exact nx _ _ hj
        · exact nx _ _ (by omega)
    split
    · split
      · exact ⟨_, rfl⟩
      · split
        · exact nx _ _ (by omega)
        · exact nx _ _ hj
    split
    · split
      · exact ⟨_, rfl⟩
      · exact nx _ _ (by omega)
    · exact ⟨_, rfl⟩
/-- what a stretch of steps comes to -/
def rv (sg wt : Nat → Int32) (sz : Nat) (v : Nat → Int32) (a b : Nat) : Int32 := (rk sg wt sz v b (b - a + 1) a []).getD 0
def clp (lo hi x : Int32) : Int32 := if lo < (if x < hi then x else hi) then (if x < hi then x else hi) else lo
def akC (T E : Nat → Int32) (lo hi : Int32) : Nat → Nat → Int32
  | 0, _ => 0
  | m + 1, k => if T k = 0 then akC T E lo hi m (k + 1) else clp lo hi (E k)
def LV (S W nF tF tT oL lC : Nat → Int32) (sz : Nat) : Prop := VL S W sz ∧ ∀ c, c < 7 → ∃ k, k ≤ 14 ∧ lC c = nI k ∧ ∀ q, q < k → ∃ cl a b e, cl < 14 ∧ oL (c * 14 + q) = nI cl ∧ a ≤ 200 ∧ b ≤ 200 ∧ e ≤ 200 ∧ nF cl = nI a ∧ tF cl = nI b ∧ tT cl = nI e
def askC (S W nF tF tT oL lC : Nat → Int32) (sz : Nat) (v : Nat → Int32) (c : Nat) : Int32 := akC (fun k => rv S W sz v (tF (oL (c * 14 + k)).toNatClampNeg).toNatClampNeg (tT (oL (c * 14 + k)).toNatClampNeg).toNatClampNeg) (fun k => rv S W sz v (nF (oL (c * 14 + k)).toNatClampNeg).toNatClampNeg (tF (oL (c * 14 + k)).toNatClampNeg).toNatClampNeg) (q_ro 118 c) (q_ro 119 c) (lC c).toNatClampNeg 0
theorem EV.rv0 {d : Nat} {σ : QS} {sz a b : Nat} {P : Nat → Int32} (hsz : σ 13 1 = nI sz) (hV : VL (σ 14) (σ 15) sz) (ha : a ≤ 200) (hb : b ≤ 200) : EV (d + 1) 28 0 [some (.inr 13), some (.inl (nI a)), some (.inl (nI b)), some (.inr 46), none, none, none, none] [] (q_set σ 21 P) (qI (fun x s => x = rv (σ 14) (σ 15) sz (σ 46) a b ∧ ∃ P', s = q_set σ 21 P')) := by
  obtain ⟨r, hr⟩ := rk_tot (sg := σ 14) (wt := σ 15) (sz := sz) (v := σ 46) (to := b) (b - a + 1) a [] (by omega)
  have e : rv (σ 14) (σ 15) sz (σ 46) a b = r := by unfold rv; rw [hr]; rfl
  rw [e]
  exact pL0_reckon_0 (EV.reck0 hsz hV hb _ a [] r P none none (by simp) (by omega) hr trivial)
theorem EV.asks0 {d : Nat} {σ : QS} {sz c : Nat} (hsz : σ 13 1 = nI sz) (hV : LV (σ 14) (σ 15) (σ 16) (σ 17) (σ 18) (σ 19) (σ 20) sz) (hc : c < 7) : EV (d + 2) 27 0 [some (.inr 13), some (.inl (nI c)), some (.inr 46), none, none, none] [] σ (qI (fun x s => x = askC (σ 14) (σ 15) (σ 16) (σ 17) (σ 18) (σ 19) (σ 20) sz (σ 46) c ∧ ∃ P, s = q_set σ 21 P)) := by
  obtain ⟨hV1, hV2⟩ := hV
  obtain ⟨n, hn, en, hcl⟩ := hV2 c hc
  have cn : (σ 20 c).toNatClampNeg = n := by rw [en]; exact cl_nI (by omega)
  have ic : vp_in (nI c) 7 := vp_in_nI hc (by decide)
  have cc : (nI c).toNatClampNeg = c := cl_nI (by omega)
  refine pL0_asks_0 ?_
  generalize hA : askC (σ 14) (σ 15) (σ 16) (σ 17) (σ 18) (σ 19) (σ 20) sz (σ 46) c = A
  unfold askC at hA
  rw [cn] at hA
  generalize hTe : (fun k => rv (σ 14) (σ 15) sz (σ 46) (σ 17 (σ 19 (c * 14 + k)).toNatClampNeg).toNatClampNeg (σ 18 (σ 19 (c * 14 + k)).toNatClampNeg).toNatClampNeg) = T at hA
  generalize hEe : (fun k => rv (σ 14) (σ 15) sz (σ 46) (σ 16 (σ 19 (c * 14 + k)).toNatClampNeg).toNatClampNeg (σ 17 (σ 19 (c * 14 + k)).toNatClampNeg).toNatClampNeg) = E at hA
  have main : ∀ m k P w4 w5, k + m = n → akC T E (q_ro 118 c) (q_ro 119 c) m k = A → EV (d + 2) 27 1 [some (.inr 13), some (.inl (nI c)), some (.inr 46), some (.inl (nI k)), w4, w5] [] (q_set σ 21 P) (qI (fun x s => x = A ∧ ∃ P, s = q_set σ 21 P)) := by
    intro m
    induction m with
    | zero =>
      intro k P w4 w5 hk hA
      refine pL0_asks_1 ⟨ic, ?_⟩
      rw [cc, q_set_ne _ _ (by decide), en]
      exact ⟨fun _ => ⟨0, rfl, hA, P, rfl⟩, fun q => absurd (nI_le' (by omega) (by omega)) q⟩
    | succ m ih =>
      intro k P w4 w5 hk hA
      obtain ⟨q, a, b, e, hq, eq, ha, hb, he, ea, eb, ee⟩ := hcl k (by omega)
      have ex : nI c * 14 + nI k = nI (c * 14 + k) := by rw [show nI c * 14 = nI (c * 14) from pk_mul c 14]; exact nI_add _ _
      have iq : vp_in (nI q) 14 := vp_in_nI hq (by decide)
      have cq : (nI q).toNatClampNeg = q := cl_nI (by omega)
      have eT : T k = rv (σ 14) (σ 15) sz (σ 46) b e := by rw [← hTe]; simp only [eq, cq, eb, ee, cl_nI (show b < 2 ^ 31 by omega), cl_nI (show e < 2 ^ 31 by omega)]
      have eE : E k = rv (σ 14) (σ 15) sz (σ 46) a b := by rw [← hEe]; simp only [eq, cq, ea, eb, cl_nI (show a < 2 ^ 31 by omega), cl_nI (show b < 2 ^ 31 by omega)]
      refine pL0_asks_1 ⟨ic, ?_⟩
      rw [cc, ex, cl_nI (by omega), q_set_ne _ _ (show 20 ≠ 21 by decide), en, q_set_ne _ _ (show 19 ≠ 21 by decide), eq, cq, q_set_ne _ _ (show 17 ≠ 21 by decide), eb, q_set_ne _ _ (show 18 ≠ 21 by decide), ee]
      refine ⟨fun z => absurd z (nI_nle' (by omega) (by omega)), fun _ => ⟨vp_in_nI (by omega) (by decide), iq, iq, ⟨_, EV.rv0 hsz hV1 hb he, ?_⟩⟩⟩
      rintro y s ⟨hy, P1, rfl⟩
      rw [← eT] at hy
      rw [akC] at hA
      refine ⟨fun y0 => ?_, fun y0 => ⟨iq, iq, ?_⟩⟩
      · rw [if_pos (hy.symm.trans y0)] at hA
        rw [nI_p1]
        exact ih (k + 1) P1 _ _ (by omega) hA
      · rw [if_neg (fun z => y0 (hy.trans z))] at hA
        rw [q_set_ne _ _ (show 16 ≠ 21 by decide), ea, q_set_ne _ _ (show 17 ≠ 21 by decide), eb]
        refine ⟨_, EV.rv0 hsz hV1 ha hb, ?_⟩
        rintro y2 s2 ⟨hy2, P2, rfl⟩
        rw [← eE] at hy2
        refine ⟨ic, ic, ⟨_, rfl, ?_, P2, rfl⟩⟩
        rw [← hA, hy2]
        rfl
  have := main n 0 (σ 21) none none (by omega) hA
  rw [q_set_id] at this
  exact this
theorem EV.rv1 {d : Nat} {σ : QS} {sz a b : Nat} {P : Nat → Int32} (hsz : σ 22 1 = nI sz) (hV : VL (σ 23) (σ 24) sz) (ha : a ≤ 200) (hb : b ≤ 200) : EV (d + 1) 28 0 [some (.inr 22), some (.inl (nI a)), some (.inl (nI b)), some (.inr 46), none, none, none, none] [] (q_set σ 30 P) (qI (fun x s => x = rv (σ 23) (σ 24) sz (σ 46) a b ∧ ∃ P', s = q_set σ 30 P')) := by
  obtain ⟨r, hr⟩ := rk_tot (sg := σ 23) (wt := σ 24) (sz := sz) (v := σ 46) (to := b) (b - a + 1) a [] (by omega)
  have e : rv (σ 23) (σ 24) sz (σ 46) a b = r := by unfold rv; rw [hr]; rfl
  rw [e]
  exact pL1_reckon_0 (EV.reck1 hsz hV hb _ a [] r P none none (by simp) (by omega) hr trivial)
theorem EV.asks1 {d : Nat} {σ : QS} {sz c : Nat} (hsz : σ 22 1 = nI sz) (hV : LV (σ 23) (σ 24) (σ 25) (σ 26) (σ 27) (σ 28) (σ 29) sz) (hc : c < 7) : EV (d + 2) 27 0 [some (.inr 22), some (.inl (nI c)), some (.inr 46), none, none, none] [] σ (qI (fun x s => x = askC (σ 23) (σ 24) (σ 25) (σ 26) (σ 27) (σ 28) (σ 29) sz (σ 46) c ∧ ∃ P, s = q_set σ 30 P)) := by
  obtain ⟨hV1, hV2⟩ := hV
  obtain ⟨n, hn, en, hcl⟩ := hV2 c hc
  have cn : (σ 29 c).toNatClampNeg = n := by rw [en]; exact cl_nI (by omega)
  have ic : vp_in (nI c) 7 := vp_in_nI hc (by decide)
  have cc : (nI c).toNatClampNeg = c := cl_nI (by omega)
  refine pL1_asks_0 ?_
  generalize hA : askC (σ 23) (σ 24) (σ 25) (σ 26) (σ 27) (σ 28) (σ 29) sz (σ 46) c = A
  unfold askC at hA
  rw [cn] at hA
  generalize hTe : (fun k => rv (σ 23) (σ 24) sz (σ 46) (σ 26 (σ 28 (c * 14 + k)).toNatClampNeg).toNatClampNeg (σ 27 (σ 28 (c * 14 + k)).toNatClampNeg).toNatClampNeg) = T at hA
  generalize hEe : (fun k => rv (σ 23) (σ 24) sz (σ 46) (σ 25 (σ 28 (c * 14 + k)).toNatClampNeg).toNatClampNeg (σ 26 (σ 28 (c * 14 + k)).toNatClampNeg).toNatClampNeg) = E at hA
  have main : ∀ m k P w4 w5, k + m = n → akC T E (q_ro 118 c) (q_ro 119 c) m k = A → EV (d + 2) 27 1 [some (.inr 22), some (.inl (nI c)), some (.inr 46), some (.inl (nI k)), w4, w5] [] (q_set σ 30 P) (qI (fun x s => x = A ∧ ∃ P, s = q_set σ 30 P)) := by
    intro m
    induction m with
    | zero =>
      intro k P w4 w5 hk hA
      refine pL1_asks_1 ⟨ic, ?_⟩
      rw [cc, q_set_ne _ _ (by decide), en]
      exact ⟨fun _ => ⟨0, rfl, hA, P, rfl⟩, fun q => absurd (nI_le' (by omega) (by omega)) q⟩
    | succ m ih =>
      intro k P w4 w5 hk hA
      obtain ⟨q, a, b, e, hq, eq, ha, hb, he, ea, eb, ee⟩ := hcl k (by omega)
      have ex : nI c * 14 + nI k = nI (c * 14 + k) := by rw [show nI c * 14 = nI (c * 14) from pk_mul c 14]; exact nI_add _ _
      have iq : vp_in (nI q) 14 := vp_in_nI hq (by decide)
      have cq : (nI q).toNatClampNeg = q := cl_nI (by omega)
      have eT : T k = rv (σ 23) (σ 24) sz (σ 46) b e := by rw [← hTe]; simp only [eq, cq, eb, ee, cl_nI (show b < 2 ^ 31 by omega), cl_nI (show e < 2 ^ 31 by omega)]
      have eE : E k = rv (σ 23) (σ 24) sz (σ 46) a b := by rw [← hEe]; simp only [eq, cq, ea, eb, cl_nI (show a < 2 ^ 31 by omega), cl_nI (show b < 2 ^ 31 by omega)]
      refine pL1_asks_1 ⟨ic, ?_⟩
      rw [cc, ex, cl_nI (by omega), q_set_ne _ _ (show 29 ≠ 30 by decide), en, q_set_ne _ _ (show 28 ≠ 30 by decide), eq, cq, q_set_ne _ _ (show 26 ≠ 30 by decide), eb, q_set_ne _ _ (show 27 ≠ 30 by decide), ee]
      refine ⟨fun z => absurd z (nI_nle' (by omega) (by omega)), fun _ => ⟨vp_in_nI (by omega) (by decide), iq, iq, ⟨_, EV.rv1 hsz hV1 hb he, ?_⟩⟩⟩
      rintro y s ⟨hy, P1, rfl⟩
      rw [← eT] at hy
      rw [akC] at hA
      refine ⟨fun y0 => ?_, fun y0 => ⟨iq, iq, ?_⟩⟩
      · rw [if_pos (hy.symm.trans y0)] at hA
        rw [nI_p1]
        exact ih (k + 1) P1 _ _ (by omega) hA
      · rw [if_neg (fun z => y0 (hy.trans z))] at hA
        rw [q_set_ne _ _ (show 25 ≠ 30 by decide), ea, q_set_ne _ _ (show 26 ≠ 30 by decide), eb]
        refine ⟨_, EV.rv1 hsz hV1 ha hb, ?_⟩
        rintro y2 s2 ⟨hy2, P2, rfl⟩
        rw [← eE] at hy2
        refine ⟨ic, ic, ⟨_, rfl, ?_, P2, rfl⟩⟩
        rw [← hA, hy2]
        rfl
  have := main n 0 (σ 30) none none (by omega) hA
  rw [q_set_id] at this
  exact this
