/-! a law that was read, on both sides -/
def GdL : Cl → Nat → Prop
  | [], _ => True
  | (l, ce, cc) :: R, a => l < 7 ∧ (l = 0 → ce = []) ∧ Vc a ce ∧ (l ≠ 0 → ∃ E, Sem a ce 15 E) ∧ Vc (a + ce.length) cc ∧ (∃ E, Bl E ∧ Sem (a + ce.length) cc 14 E) ∧ GdL R (a + ce.length + cc.length)
theorem clq_gd {ch : Nat → Int32} {N l p a r : Nat} {ce cc : Cd} (hc : Ch ch N) (hN : N ≤ 200) (ha : a ≤ p) (h : clq ch N l p a = .ok (r, ce, cc)) : (l = 0 → ce = []) ∧ Vc a ce ∧ (l ≠ 0 → ∃ E, Sem a ce 15 E) ∧ Vc (a + ce.length) cc ∧ (∃ E, Bl E ∧ Sem (a + ce.length) cc 14 E) := by
  unfold clq at h
  split at h
  · cases h
  · rename_i q c0 h0
    split at h
    · cases h
    · rename_i r2 c2 hb
      cases h
      by_cases hl : l = 0
      · rw [if_pos hl] at h0
        cases h0
        obtain ⟨g1, g2, g3, g4, E, g5, g6⟩ := brk_ok hc hN (by simp; omega) hb
        exact ⟨fun _ => rfl, (fun j x hx => by cases hx), fun z => absurd hl z, g4, E, g5 trivial, g6⟩
      · rw [if_neg hl] at h0
        obtain ⟨k1, k2, k3, k4, E0, k5, k6⟩ := smm_ok (fct_ok hc 6) _ _ _ h0 a
        obtain ⟨g1, g2, g3, g4, E, g5, g6⟩ := brk_ok hc hN (by omega) hb
        exact ⟨fun z => absurd z hl, k4, fun _ => ⟨E0, k6⟩, g4, E, g5 trivial, g6⟩
theorem cls_gd {ch : Nat → Int32} {N : Nat} (hc : Ch ch N) (hN : N ≤ 200) : ∀ m p a L, a ≤ p → cls ch N m p a = .ok L → GdL L a := by
  intro m
  induction m with
  | zero =>
    intro p a L ha h
    unfold cls at h
    split at h <;> cases h
  | succ m ih =>
    intro p a L ha h
    unfold cls at h
    split at h
    · cases h
    · rename_i l hl
      dsimp only at h
      split at h
      · cases h
      · rename_i r ce cc hq
        obtain ⟨k1, k2, k3, k4, k5⟩ := clq_gd hc hN (by omega) hq
        obtain ⟨g1, g2, g3, -⟩ := clq_kg hc hN (by omega) hq
        have hl7 := (ltO_lt hl).1
        split at h
        · split at h
          · split at h
            · rename_i L2 hcl
              cases h
              exact ⟨hl7, k1, k2, k3, k4, k5, ih _ _ _ (by omega) hcl⟩
            · cases h
          · cases h
        · cases h
          exact ⟨hl7, k1, k2, k3, k4, k5, trivial⟩
theorem fl_Vc : ∀ (L : Cl) (a : Nat), GdL L a → Vc a (fl L)
  | [], _, _ => fun j x hx => by cases hx
  | (l, ce, cc) :: R, a, h => by
    obtain ⟨h1, h2, h3, h4, h5, h6, h7⟩ := h
    have := fl_Vc R _ h7
    exact (h3.app h5).app (by rw [List.length_append, ← Nat.add_assoc]; exact this)
/-- one clause, on both sides -/
def CV (s τ : QS) (F : Cd) (Z A0 A k l : Nat) (ce cc : Cd) (a sh : Nat) : Prop := A0 ≤ a ∧ a + sh + (ce1 l ce).length + cc.length ≤ Z ∧ a + ce.length + cc.length ≤ A ∧ (s 34 k = nI (a + sh) ∧ s 35 k = nI (a + sh + (ce1 l ce).length) ∧ s 36 k = nI (a + sh + (ce1 l ce).length + cc.length) ∧ Pl s (a + sh) (ce1 l ce) sh ∧ Pl s (a + sh + (ce1 l ce).length) cc (shN l sh)) ∧ (τ 83 k = ltr l ∧ τ 84 k = nI a ∧ τ 85 k = nI (a + ce.length) ∧ τ 86 k = nI (a + ce.length + cc.length)) ∧ (l < 7 ∧ (l = 0 → ce = []) ∧ Vc a ce ∧ (l ≠ 0 → ∃ E, Sem a ce 15 E) ∧ Vc (a + ce.length) cc ∧ (∃ E, Bl E ∧ Sem (a + ce.length) cc 14 E)) ∧ (∀ i x, ce[i]? = some x → F[a - A0 + i]? = some x) ∧ ∀ i x, cc[i]? = some x → F[a - A0 + ce.length + i]? = some x
theorem ce1_sh {l : Nat} {ce : Cd} (sh : Nat) (h : l = 0 → ce = []) : ce.length + shN l sh = (ce1 l ce).length + sh := by
  unfold ce1 shN
  by_cases hl : l = 0
  · rw [if_pos hl, if_pos hl, h hl]; simp; omega
  · rw [if_neg hl, if_neg hl]
theorem cl_at {s τ : QS} : ∀ (L : Cl) (a sh n : Nat), GdL L a → ClC s L (a + sh) sh n → ClM τ L a n → ∀ j l ce cc, L[j]? = some (l, ce, cc) → ∃ aj shj, CV s τ (fl L) (a + sh + zl L) a (a + (fl L).length) (n + j) l ce cc aj shj
  | [], _, _, _, _, _, _, _, _, _, _, h => by cases h
  | (l0, ce0, cc0) :: R, a, sh, n, hG, hC, hM, j, l, ce, cc, h => by
    obtain ⟨g1, g2, g3, g4, g5, g6, g7⟩ := hG
    obtain ⟨c1, c2, c3, c4, c5, c6⟩ := hC
    obtain ⟨m1, m2, m3, m4, m5⟩ := hM
    have efl : fl ((l0, ce0, cc0) :: R) = ce0 ++ cc0 ++ fl R := rfl
    have ezl : zl ((l0, ce0, cc0) :: R) = (ce1 l0 ce0).length + cc0.length + zl R := rfl
    have lfl : (fl ((l0, ce0, cc0) :: R)).length = ce0.length + cc0.length + (fl R).length := by rw [efl, List.length_append, List.length_append]
    have e1 := ce1_sh sh g2
    rcases j with _ | j
    · obtain ⟨rfl, rfl, rfl⟩ : l0 = l ∧ ce0 = ce ∧ cc0 = cc := by cases h; exact ⟨rfl, rfl, rfl⟩
      refine ⟨a, sh, Nat.le_refl _, by omega, by omega, ⟨c1, c2, c3, c4, c5⟩, ⟨m1, m2, m3, m4⟩, ⟨g1, g2, g3, g4, g5, g6⟩, fun i x hx => ?_, fun i x hx => ?_⟩
      · rw [efl, List.append_assoc, show a - a + i = i by omega]
        exact gel hx
      · rw [efl, List.append_assoc, show a - a + ce0.length + i = ce0.length + i by omega]
        exact ger (gel hx)
    · rw [List.getElem?_cons_succ] at h
      rw [show a + sh + (ce1 l0 ce0).length + cc0.length = a + ce0.length + cc0.length + shN l0 sh by omega] at c6
      obtain ⟨aj, shj, k1, k2, k3, k4, k5, k6, k7, k8⟩ := cl_at R _ _ _ g7 c6 m5 j l ce cc h
      rw [show n + 1 + j = n + (j + 1) by omega] at k4 k5
      refine ⟨aj, shj, by omega, by omega, by omega, k4, k5, k6, fun i x hx => ?_, fun i x hx => ?_⟩
      · have := k7 i x hx
        rw [efl, show aj - a + i = (ce0 ++ cc0).length + (aj - (a + ce0.length + cc0.length) + i) by rw [List.length_append]; omega]
        exact ger this
      · have := k8 i x hx
        rw [efl, show aj - a + ce.length + i = (ce0 ++ cc0).length + (aj - (a + ce0.length + cc0.length) + ce.length + i) by rw [List.length_append]; omega]
        exact ger this
/-! what a clause comes to -/
def cT (s : QS) (sz : Nat) (j : Nat) (v : Nat → Int32) : Int32 := rv (s 32) (s 33) sz v (s 35 j).toNatClampNeg (s 36 j).toNatClampNeg
def cE (s : QS) (sz : Nat) (j : Nat) (v : Nat → Int32) : Int32 := rv (s 32) (s 33) sz v (s 34 j).toNatClampNeg (s 35 j).toNatClampNeg
theorem CV.vals {s τ : QS} {F : Cd} {Z A k l : Nat} {ce cc : Cd} {a sh : Nat} (h : CV s τ F Z 0 A k l ce cc a sh) (hZ : Z ≤ 200) (v : Nat → Int32) : (cT s Z k v = 0 ∨ cT s Z k v = 1) ∧ (l = 0 → cE s Z k v = 1) ∧ ∀ (op ar : Nat → Nat) (base : Nat), (∀ i x, F[i]? = some x → op (base + i) = x.1 ∧ ar (base + i) = x.2) → (∃ f, rm op ar base v (base + (a + ce.length + cc.length)) f (base + (a + ce.length)) [] = some (cT s Z k v)) ∧ (l ≠ 0 → ∃ f, rm op ar base v (base + (a + ce.length)) f (base + a) [] = some (cE s Z k v)) := by
  obtain ⟨h1, h2, h3, ⟨c1, c2, c3, c4, c5⟩, -, ⟨g1, g2, g3, g4, g5, E, gB, gE⟩, p1, p2⟩ := h
  have e1 := ce1_sh sh g2
  have eT : cT s Z k v = (E v).getD 0 := by
    unfold cT
    rw [c2, c3, cl_nI (by omega), cl_nI (by omega), show a + sh + (ce1 l ce).length = a + ce.length + shN l sh by omega, show a + ce.length + shN l sh + cc.length = a + ce.length + cc.length + shN l sh by omega]
    refine val_C gE (by omega) (by omega) (by omega) g5 (fun j x hx => ?_)
    have := c5 j x hx
    rw [show a + sh + (ce1 l ce).length = a + ce.length + shN l sh by omega] at this
    exact this
  refine ⟨?_, fun hl => ?_, fun op ar base hF => ⟨?_, fun hl => ?_⟩⟩
  · rw [eT]
    cases e : E v with
    | none => exact Or.inl rfl
    | some x => exact gB v x e
  · unfold cE
    have e2 : ce1 l ce = [(0, 1)] := by unfold ce1; rw [if_pos hl]
    rw [e2] at c2 c4 h2
    rw [List.length_singleton] at c2 h2
    rw [c1, c2, cl_nI (by omega), cl_nI (by omega)]
    have := val_C (S := s 32) (W := s 33) (sz := Z) (sh := sh) (v := v) (Sem.num a 1) (by omega) (by rw [List.length_singleton]; omega) (by omega) (Vc.one (by omega) (by omega) (fun z => by omega)) c4
    rw [List.length_singleton, show a + 1 + sh = a + sh + 1 by omega] at this
    exact this
  · rw [eT]
    refine val_M gE (by omega) (fun j x hx => ?_)
    have := hF _ x (p2 j x hx)
    rw [show a - 0 + ce.length + j = a + ce.length + j by omega] at this
    exact this
  · obtain ⟨E2, g6⟩ := g4 hl
    have e2 : ce1 l ce = ce := by unfold ce1; rw [if_neg hl]
    rw [e2] at c2 c4 h2
    have eE : cE s Z k v = (E2 v).getD 0 := by
      unfold cE
      rw [c1, c2, cl_nI (by omega), cl_nI (by omega), show a + sh + ce.length = a + ce.length + sh by omega]
      exact val_C g6 (by omega) (by omega) (by omega) g3 c4
    rw [eE]
    refine val_M g6 (by omega) (fun j x hx => ?_)
    have := hF _ x (p1 j x hx)
    rw [show a - 0 + j = a + j by omega] at this
    exact this
/-! the order in which clauses of a letter are asked -/
theorem ixl_in (c : Nat) : ∀ (R : Cl) (n i x : Nat), (ixl c R n)[i]? = some x → n ≤ x ∧ x < n + R.length
  | [], n, i, x, h => by cases h
  | (l, ce, cc) :: R, n, i, x, h => by
    rw [ixl] at h
    rw [List.length_cons]
    split at h
    · rcases i with _ | i
      · cases h; omega
      · rw [List.getElem?_cons_succ] at h
        have := ixl_in c R (n + 1) i x h
        omega
    · have := ixl_in c R (n + 1) i x h
      omega
theorem ak_eq {Lf : Nat → Nat} {T E : Nat → Int32} {c : Nat} {O : Nat → Int32} : ∀ (R : Cl) (n0 k0 : Nat), n0 + R.length ≤ 14 → (∀ i x, (ixl c R n0)[i]? = some x → O (k0 + i) = nI x) → (∀ j l ce cc, R[j]? = some (l, ce, cc) → Lf (n0 + j) = l) → (∀ j, j < R.length → T (n0 + j) = 0 ∨ T (n0 + j) = 1) → (∀ j, j < R.length → Lf (n0 + j) = 0 → E (n0 + j) = 1) → akC (fun k => T (O k).toNatClampNeg) (fun k => E (O k).toNatClampNeg) (q_ro 118 c) (q_ro 119 c) (ixl c R n0).length k0 = akM Lf T E c R.length n0
  | [], _, _, _, _, _, _, _ => rfl
  | (l, ce, cc) :: R, n0, k0, hn, hO, hL, hT, hE => by
    rw [List.length_cons] at hn ⊢
    have hl : Lf n0 = l := hL 0 l ce cc rfl
    have ih := fun k => ak_eq (Lf := Lf) (T := T) (E := E) (c := c) (O := O) R (n0 + 1) k (by omega)
    have hL' : ∀ j l ce cc, R[j]? = some (l, ce, cc) → Lf (n0 + 1 + j) = l := fun j l ce cc h => by rw [show n0 + 1 + j = n0 + (j + 1) by omega]; exact hL (j + 1) l ce cc h
    have hT' : ∀ j, j < R.length → T (n0 + 1 + j) = 0 ∨ T (n0 + 1 + j) = 1 := fun j h => by rw [show n0 + 1 + j = n0 + (j + 1) by omega]; exact hT (j + 1) (by rw [List.length_cons]; omega)
    have hE' : ∀ j, j < R.length → Lf (n0 + 1 + j) = 0 → E (n0 + 1 + j) = 1 := fun j h => by rw [show n0 + 1 + j = n0 + (j + 1) by omega]; exact hE (j + 1) (by rw [List.length_cons]; omega)
    rw [akM, ixl]
    rw [ixl] at hO
    by_cases e : l = c
    · rw [if_pos e] at hO ⊢
      rw [List.length_cons, akC]
      have hO0 : O k0 = nI n0 := hO 0 n0 rfl
      rw [hO0, cl_nI (by omega)]
      have t0 := hT 0 (by rw [List.length_cons]; omega)
      rw [Nat.add_zero] at t0
      rcases t0 with t0 | t0
      · rw [if_pos t0, if_neg (fun z => by rw [t0] at z; exact absurd z.2 (by decide))]
        exact ih (k0 + 1) (fun i x hx => by rw [show k0 + 1 + i = k0 + (i + 1) by omega]; exact hO (i + 1) x (by rw [List.getElem?_cons_succ]; exact hx)) hL' hT' hE'
      · rw [if_neg (by rw [t0]; decide), if_pos ⟨hl.trans e, t0⟩]
        by_cases c0 : c = 0
        · have := hE 0 (by rw [List.length_cons]; omega) (by rw [Nat.add_zero, hl, e, c0])
          rw [Nat.add_zero] at this
          rw [if_pos c0, this]
        · rw [if_neg c0]
    · rw [if_neg e] at hO ⊢
      rw [if_neg (fun z => e (hl.symm.trans z.1))]
      exact ih k0 hO hL' hT' hE'
/-! steps in place -/
theorem Pl_VL {s : QS} {z sh a : Nat} {c : Cd} (hP : Pl s z c sh) (hz : z = a + sh) (hV : Vc a c) (hb : z + c.length ≤ 200) {i : Nat} (h1 : z ≤ i) (h2 : i < z + c.length) : (s 32 i = 107 → ∃ j, j < 9 ∧ s 33 i = nI j) ∧ (s 32 i = 38 ∨ s 32 i = 124 → ∃ j, j < 200 ∧ s 33 i = nI j) := by
  obtain ⟨j, rfl⟩ : ∃ j, i = z + j := ⟨i - z, by omega⟩
  have hj : j < c.length := by omega
  obtain ⟨k1, k2⟩ := hP j c[j] (List.getElem?_eq_getElem hj)
  obtain ⟨v1, v2, v3, v4⟩ := hV j c[j] (List.getElem?_eq_getElem hj)
  rw [k1, k2]
  generalize c[j] = x at v1 v2 v3 v4
  obtain ⟨o, n⟩ := x
  have sg : ∀ o, o < 13 → (sgC o = 107 → o = 1) ∧ (sgC o = 38 ∨ sgC o = 124 → o = 11 ∨ o = 12) := by decide
  have v1 : o ≤ 12 := v1
  refine ⟨fun q => ?_, fun q => ?_⟩
  · have eo : o = 1 := (sg o (by omega)).1 q
    exact ⟨n, v3 eo, by unfold wtC; rw [if_pos (by show o ≤ 1; omega)]⟩
  · have eo : o = 11 ∨ o = 12 := (sg o (by omega)).2 q
    have v4 : a + j < n ∧ n ≤ a + c.length := v4 eo
    exact ⟨n + sh - 1, by omega, by unfold wtC; rw [if_neg (by show ¬ o ≤ 1; omega), if_pos eo]⟩
theorem ce1_Vc {l a : Nat} {ce : Cd} (h : Vc a ce) : Vc a (ce1 l ce) := by
  unfold ce1
  split
  · exact Vc.one (by omega) (by omega) (fun z => by omega)
  · exact h
theorem ClC_VL {s : QS} : ∀ (L : Cl) (a sh n : Nat), GdL L a → ClC s L (a + sh) sh n → a + sh + zl L ≤ 200 → ∀ i, a + sh ≤ i → i < a + sh + zl L → (s 32 i = 107 → ∃ j, j < 9 ∧ s 33 i = nI j) ∧ (s 32 i = 38 ∨ s 32 i = 124 → ∃ j, j < 200 ∧ s 33 i = nI j)
  | [], a, sh, n, _, _, _, i, h1, h2 => by
    have : zl [] = 0 := rfl
    omega
  | (l, ce, cc) :: R, a, sh, n, hG, hC, hb, i, h1, h2 => by
    obtain ⟨g1, g2, g3, g4, g5, g6, g7⟩ := hG
    obtain ⟨c1, c2, c3, c4, c5, c6⟩ := hC
    have ezl : zl ((l, ce, cc) :: R) = (ce1 l ce).length + cc.length + zl R := rfl
    have e1 := ce1_sh sh g2
    rcases Nat.lt_or_ge i (a + sh + (ce1 l ce).length) with q | q
    · exact Pl_VL c4 rfl (ce1_Vc g3) (by omega) h1 q
    · rcases Nat.lt_or_ge i (a + sh + (ce1 l ce).length + cc.length) with q2 | q2
      · exact Pl_VL c5 (a := a + ce.length) (by omega) g5 (by omega) q q2
      · rw [show a + sh + (ce1 l ce).length + cc.length = a + ce.length + cc.length + shN l sh by omega] at c6
        exact ClC_VL R _ _ _ g7 c6 (by omega) i (by omega) (by omega)
