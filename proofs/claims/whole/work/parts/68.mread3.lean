/-! conditions, by the reference -/
theorem pM_lands_0w {d : Nat} {σ : QS} {Q : QQ} {z : Int32} {w2 : Option QV} (hk : ∃ R1 : Int32 → QS → Prop, EV d 129 0 [some (.inr 69)] [] σ (qI R1) ∧ ∀ y3 s2, R1 y3 s2 → (y3 = 11 → (vp_in ((s2 69 18) - 1) 220) ∧ ((¬ (1048576 : Int32) = 0) ∧ ((vp_in ((s2 82 ((s2 69 18) - 1).toNatClampNeg) - (s2 82 ((s2 69 18) - 1).toNatClampNeg) / 1048576 * 1048576) 220) ∧ ((¬ (1048576 : Int32) = 0) ∧ ((vp_in ((s2 82 ((s2 69 18) - 1).toNatClampNeg) - (s2 82 ((s2 69 18) - 1).toNatClampNeg) / 1048576 * 1048576) 220) ∧ (EV (d + 1) 137 0 [some (.inr 69), some (.inl z), some (.inl ((s2 82 ((s2 69 18) - 1).toNatClampNeg) - (s2 82 ((s2 69 18) - 1).toNatClampNeg) / 1048576 * 1048576))] [] (q_set (q_set s2 81 (upd (s2 81) ((s2 82 ((s2 69 18) - 1).toNatClampNeg) - (s2 82 ((s2 69 18) - 1).toNatClampNeg) / 1048576 * 1048576).toNatClampNeg ((1048576 * ((s2 81 ((s2 82 ((s2 69 18) - 1).toNatClampNeg) - (s2 82 ((s2 69 18) - 1).toNatClampNeg) / 1048576 * 1048576).toNatClampNeg) / 1048576)) + (s2 69 17)))) 69 (upd (s2 69) 18 ((s2 69 18) - 1))) Q)))))) ∧ (¬ y3 = 11 → (z = 0 → Q none s2) ∧ (¬ z = 0 → ∃ R6 : Int32 → QS → Prop, EV d 129 0 [some (.inr 69)] [] s2 (qI R6) ∧ ∀ y8 s7, R6 y8 s7 → (¬ y8 = 12 → Q none s7) ∧ (y8 = 12 → (vp_in ((s7 69 18) - 1) 220) ∧ ((¬ (1048576 : Int32) = 0) ∧ ((vp_in ((s7 82 ((s7 69 18) - 1).toNatClampNeg) - (s7 82 ((s7 69 18) - 1).toNatClampNeg) / 1048576 * 1048576) 220) ∧ ((¬ (1048576 : Int32) = 0) ∧ ((vp_in ((s7 82 ((s7 69 18) - 1).toNatClampNeg) - (s7 82 ((s7 69 18) - 1).toNatClampNeg) / 1048576 * 1048576) 220) ∧ (EV (d + 1) 137 0 [some (.inr 69), some (.inl z), some (.inl ((s7 82 ((s7 69 18) - 1).toNatClampNeg) - (s7 82 ((s7 69 18) - 1).toNatClampNeg) / 1048576 * 1048576))] [] (q_set (q_set s7 81 (upd (s7 81) ((s7 82 ((s7 69 18) - 1).toNatClampNeg) - (s7 82 ((s7 69 18) - 1).toNatClampNeg) / 1048576 * 1048576).toNatClampNeg ((1048576 * ((s7 81 ((s7 82 ((s7 69 18) - 1).toNatClampNeg) - (s7 82 ((s7 69 18) - 1).toNatClampNeg) / 1048576 * 1048576).toNatClampNeg) / 1048576)) + (s7 69 17)))) 69 (upd (s7 69) 18 ((s7 69 18) - 1))) Q))))))))) : EV (d + 1) 137 0 [some (.inr 69), some (.inl z), w2] [] σ Q := EV.blk qb137_0 rfl (EV.cI hk (fun y3 s2 h2 => EV.blk qb137_1 rfl ⟨fun q4 => EV.blk qb137_5 rfl ⟨(h2.1 q4).1, ⟨(h2.1 q4).2.1, ⟨(h2.1 q4).2.2.1, ⟨(h2.1 q4).2.2.2.1, ⟨(h2.1 q4).2.2.2.2.1, (h2.1 q4).2.2.2.2.2⟩⟩⟩⟩⟩, fun q4 => EV.blk qb137_2 rfl ⟨fun q5 => EV.blk qb137_6 rfl (((h2.2 q4).1 q5)), fun q5 => EV.blk qb137_3 rfl (EV.cI ((h2.2 q4).2 q5) (fun y8 s7 h2 => EV.blk qb137_4 rfl ⟨fun q9 => EV.blk qb137_6 rfl ((h2.1 q9)), fun q9 => EV.blk qb137_5 rfl ⟨(h2.2 q9).1, ⟨(h2.2 q9).2.1, ⟨(h2.2 q9).2.2.1, ⟨(h2.2 q9).2.2.2.1, ⟨(h2.2 q9).2.2.2.2.1, (h2.2 q9).2.2.2.2.2⟩⟩⟩⟩⟩⟩))⟩⟩))
theorem mEnd_inv : ∀ (W C : Cd) (o : Nat), onW W = o → (mEnd C W o).1.length + pnW (mEnd C W o).2.1 = C.length + pnW W ∧ (mEnd C W o).2.1.length ≤ W.length ∧ onW (mEnd C W o).2.1 = (mEnd C W o).2.2 ∧ (mEnd C W o).2.2 ≤ o
  | [], C, o, h => ⟨rfl, Nat.le_refl _, h, Nat.le_refl _⟩
  | (t, x) :: W, C, o, h => by
    rw [mEnd]
    split
    · rename_i q
      have e1 : pnW ((t, x) :: W) = 1 + pnW W := by
        show (if t = 11 ∨ t = 12 then 0 else 1) + pnW W = _
        rw [if_neg (by omega)]
      have e2 : onW ((t, x) :: W) = 1 + onW W := by
        show (if t = 10 ∨ t = 13 ∨ t = 14 then 1 else 0) + onW W = _
        rw [if_pos (by omega)]
      obtain ⟨h1, h2, h3, h4⟩ := mEnd_inv W (C ++ [(10, 0)]) (o - 1) (by omega)
      refine ⟨?_, by rw [List.length_cons]; omega, h3, by omega⟩
      rw [h1, e1, List.length_append, List.length_singleton]
      omega
    · exact ⟨rfl, Nat.le_refl _, h, Nat.le_refl _⟩
theorem EV.endM {ch : Nat → Int32} {N d p : Nat} : ∀ (W C : Cd) (o : Nat) (σ : QS), MV ch N σ p C W o → onW W = o → C.length + pnW W < 220 → W.length < 220 → EV (d + 1) 136 0 [some (.inr 69)] [] σ (qV (fun s => FR σ s ∧ MV ch N s p (mEnd C W o).1 (mEnd C W o).2.1 (mEnd C W o).2.2)) := by
  intro W
  induction W with
  | nil =>
    intro C o σ h ho hc hw
    exact pM_endsPiece_0 (ex_I (EV.topM h hw) ⟨fun _ => ⟨rfl, FR.rf, h⟩, fun q => absurd q (by decide)⟩)
  | cons x W ih =>
    intro C o σ h ho hc hw
    have hwr := h.2.2.2.2.2.2.2
    obtain ⟨t, n⟩ := x
    have tk : tpI ((t, n) :: W) = 10 ↔ t = 10 := tpI_k (k := 10) hwr (by decide) (by decide)
    refine pM_endsPiece_0 (ex_I (EV.topM h hw) ⟨fun q => ⟨rfl, FR.rf, ?_⟩, fun q => ?_⟩)
    · rw [mEnd, if_neg (fun z => q (tk.mpr z))]
      exact h
    · have et : t = 10 := tk.mp q
      have e1 : pnW ((t, n) :: W) = 1 + pnW W := by
        show (if t = 11 ∨ t = 12 then 0 else 1) + pnW W = _
        rw [if_neg (by omega)]
      have e2 : onW ((t, n) :: W) = 1 + onW W := by
        show (if t = 10 ∨ t = 13 ∨ t = 14 then 1 else 0) + onW W = _
        rw [if_pos (by omega)]
      rw [List.length_cons] at hw
      obtain ⟨o', rfl⟩ : ∃ o', o = o' + 1 := ⟨o - 1, by omega⟩
      refine ⟨_, EV.notesM (x := (10, 0)) h (by omega) rfl rfl ⟨by show 10 ≤ 14; decide, by show 0 < 1048576; decide⟩, ?_⟩
      rintro s ⟨f, hv⟩
      rw [mEnd, if_pos et, show o' + 1 - 1 = o' by omega]
      refine EV.mono (ih (C ++ [(10, 0)]) o' _ (MVc.less (MVc.pop hv)) (by omega) (by rw [List.length_append, List.length_singleton]; omega) (by omega)) ?_
      rintro r u ⟨rfl, f2, hv2⟩
      exact ⟨rfl, (FR.s69 (FR.s69 f (by decide)) (by decide)).tr f2, hv2⟩
theorem MB.end {N p o : Nat} {C W : Cd} (h : MB N p C W o) : MB N p (mEnd C W o).1 (mEnd C W o).2.1 (mEnd C W o).2.2 := by
  obtain ⟨h1, h2, h3, h4, h5⟩ := h
  obtain ⟨k1, k2, k3, k4⟩ := mEnd_inv W C o h4
  exact ⟨h1, by omega, by omega, k3, by omega⟩
theorem mLd_inv (all : Bool) : ∀ (W C : Cd), (mLd all C W).1.length = C.length ∧ pnW (mLd all C W).2 = pnW W ∧ (mLd all C W).2.length ≤ W.length ∧ onW (mLd all C W).2 = onW W
  | [], C => ⟨rfl, rfl, Nat.le_refl _, rfl⟩
  | (t, x) :: W, C => by
    rw [mLd]
    split
    · rename_i q
      obtain ⟨h1, h2, h3, h4⟩ := mLd_inv all W (C.set x ((C.getD x (0, 0)).1, C.length))
      have e1 : pnW ((t, x) :: W) = pnW W := by
        show (if t = 11 ∨ t = 12 then 0 else 1) + pnW W = _
        rw [if_pos (by omega), Nat.zero_add]
      have e2 : onW ((t, x) :: W) = onW W := by
        show (if t = 10 ∨ t = 13 ∨ t = 14 then 1 else 0) + onW W = _
        rw [if_neg (by omega), Nat.zero_add]
      exact ⟨by rw [h1, List.length_set], by rw [h2, e1], by rw [List.length_cons]; omega, by rw [h4, e2]⟩
    · exact ⟨rfl, rfl, Nat.le_refl _, rfl⟩
theorem MB.ld {N p o : Nat} {C W : Cd} (all : Bool) (h : MB N p C W o) : MB N p (mLd all C W).1 (mLd all C W).2 o := by
  obtain ⟨h1, h2, h3, h4, h5⟩ := h
  obtain ⟨k1, k2, k3, k4⟩ := mLd_inv all W C
  exact ⟨h1, by omega, by omega, by omega, h5⟩
theorem MVc.land {ch : Nat → Int32} {N : Nat} {t b c g : Nat → Int32} {p : Nat} {C W : Cd} {o k x : Nat} {v : Int32} (hv : v = enc ((C.getD x (0, 0)).1, C.length)) (hl : C.length < 220) (hx : x < C.length) (h : MVc ch N t b c g p C ((k, x) :: W) o) : MVc ch N t (upd b x v) c (upd g 18 (g 18 - 1)) p (C.set x ((C.getD x (0, 0)).1, C.length)) W o := by
  have hp := MVc.pop h
  obtain ⟨h1, h2, h3, h4, h5, h6, h7, h8⟩ := hp
  refine ⟨h1, h2, h3, h4, by rw [List.length_set]; exact h5, h6, ?_, by rw [List.length_set]; exact h8⟩
  subst hv
  intro j y hy
  rw [List.getElem?_set] at hy
  by_cases e : x = j
  · subst e
    rw [if_pos rfl, if_pos hx] at hy
    cases hy
    rw [upd_eq]
    refine ⟨rfl, ?_, by show C.length < 1048576; omega⟩
    have := h7 x C[x] (List.getElem?_eq_getElem hx)
    show (C.getD x (0, 0)).1 ≤ 14
    rw [List.getD_eq_getElem?_getD, List.getElem?_eq_getElem hx]
    exact this.2.1
  · rw [if_neg e] at hy
    rw [upd_ne _ _ (fun z => e z.symm)]
    exact h7 j y hy
theorem EV.landM {ch : Nat → Int32} {N d p o : Nat} (all : Bool) : ∀ (W C : Cd) (σ : QS) (w2 : Option QV), MV ch N σ p C W o → C.length < 220 → W.length < 220 → EV (d + 1) 137 0 [some (.inr 69), some (.inl (zb all)), w2] [] σ (qV (fun s => FR σ s ∧ MV ch N s p (mLd all C W).1 (mLd all C W).2 o)) := by
  intro W
  have z0 : zb all = 0 ↔ ¬ all = true := by cases all <;> decide
  induction W with
  | nil =>
    intro C σ w2 h hc hw
    exact pM_lands_0w (ex_I (EV.topM h hw) ⟨fun q => absurd q (by decide), fun _ => ⟨fun _ => ⟨rfl, FR.rf, h⟩, fun _ => ex_I (EV.topM h hw) ⟨fun _ => ⟨rfl, FR.rf, h⟩, fun q => absurd q (by decide)⟩⟩⟩)
  | cons x W ih =>
    intro C σ w2 h hc hw
    have h' := h
    obtain ⟨-, -, -, -, h17, h18, hcr, hwr⟩ := h'
    obtain ⟨t, n⟩ := x
    rw [List.length_cons] at h18
    have e18 : (σ 69 18) - 1 = nI W.length := by rw [h18, nI_pred]
    have hwl : W.length < 219 := by rw [List.length_cons] at hw; omega
    have tk : ∀ k, k < 15 → 0 < k → (tpI ((t, n) :: W) = nI k ↔ t = k) := fun k a b => tpI_k hwr a b
    have go : (t = 11 ∨ (all = true ∧ t = 12)) → (vp_in ((σ 69 18) - 1) 220) ∧ ((¬ (1048576 : Int32) = 0) ∧ ((vp_in ((σ 82 ((σ 69 18) - 1).toNatClampNeg) - (σ 82 ((σ 69 18) - 1).toNatClampNeg) / 1048576 * 1048576) 220) ∧ ((¬ (1048576 : Int32) = 0) ∧ ((vp_in ((σ 82 ((σ 69 18) - 1).toNatClampNeg) - (σ 82 ((σ 69 18) - 1).toNatClampNeg) / 1048576 * 1048576) 220) ∧ (EV (d + 1) 137 0 [some (.inr 69), some (.inl (zb all)), some (.inl ((σ 82 ((σ 69 18) - 1).toNatClampNeg) - (σ 82 ((σ 69 18) - 1).toNatClampNeg) / 1048576 * 1048576))] [] (q_set (q_set σ 81 (upd (σ 81) ((σ 82 ((σ 69 18) - 1).toNatClampNeg) - (σ 82 ((σ 69 18) - 1).toNatClampNeg) / 1048576 * 1048576).toNatClampNeg ((1048576 * ((σ 81 ((σ 82 ((σ 69 18) - 1).toNatClampNeg) - (σ 82 ((σ 69 18) - 1).toNatClampNeg) / 1048576 * 1048576).toNatClampNeg) / 1048576)) + (σ 69 17)))) 69 (upd (σ 69) 18 ((σ 69 18) - 1))) (qV (fun s => FR σ s ∧ MV ch N s p (mLd all C ((t, n) :: W)).1 (mLd all C ((t, n) :: W)).2 o))))))) := by
      intro q
      have hn : n < C.length := hwr.2.2.1 (by show t = 11 ∨ t = 12; omega)
      have eF : (σ 82 ((σ 69 18) - 1).toNatClampNeg) - (σ 82 ((σ 69 18) - 1).toNatClampNeg) / 1048576 * 1048576 = nI n := by
        rw [e18, cl_nI (by omega), hwr.1]
        exact enc_rem (x := (t, n)) hwr.2.1
      have hCn := hcr n C[n] (List.getElem?_eq_getElem hn)
      have gD : C.getD n (0, 0) = C[n] := by rw [List.getD_eq_getElem?_getD, List.getElem?_eq_getElem hn]; rfl
      have eV : 1048576 * (σ 81 n / 1048576) + σ 69 17 = enc ((C.getD n (0, 0)).1, C.length) := by
        rw [hCn.1, enc_div hCn.2, h17, gD]
        exact enc_mk _ _
      rw [eF, cl_nI (show n < 2 ^ 31 by omega), eV, mLd, if_pos q]
      have vin : vp_in (nI n) 220 := vp_in_nI (by omega) (by decide)
      refine ⟨by rw [e18]; exact vp_in_nI (by omega) (by decide), by decide, vin, by decide, vin, ?_⟩
      refine EV.mono (ih (C.set n ((C.getD n (0, 0)).1, C.length)) _ _ (MVc.land rfl hc hn h) (by rw [List.length_set]; exact hc) (by omega)) ?_
      rintro r u ⟨rfl, f2, hv2⟩
      exact ⟨rfl, (FR.s69 (FR.s81 FR.rf) (by decide) : FR σ _).tr f2, hv2⟩
    have stay : ¬ (t = 11 ∨ (all = true ∧ t = 12)) → qV (fun s => FR σ s ∧ MV ch N s p (mLd all C ((t, n) :: W)).1 (mLd all C ((t, n) :: W)).2 o) none σ := fun q => ⟨rfl, FR.rf, by rw [mLd, if_neg q]; exact h⟩
    refine pM_lands_0w (ex_I (EV.topM h hw) ⟨fun q => go (Or.inl ((tk 11 (by decide) (by decide)).mp q)), fun q => ⟨fun q2 => stay ?_, fun q2 => ex_I (EV.topM h hw) ⟨fun q3 => stay ?_, fun q3 => go (Or.inr ⟨Classical.byContradiction (fun z => q2 (z0.mpr z)), (tk 12 (by decide) (by decide)).mp q3⟩)⟩⟩⟩)
    · rintro (z | z)
      · exact q ((tk 11 (by decide) (by decide)).mpr z)
      · exact z0.mp q2 z.1
    · rintro (z | z)
      · exact q ((tk 11 (by decide) (by decide)).mpr z)
      · exact q3 ((tk 12 (by decide) (by decide)).mpr z.2)
theorem MVc.jump {ch : Nat → Int32} {N : Nat} {t b c g : Nat → Int32} {p : Nat} {C W : Cd} {o k : Nat} {v1 v2 : Int32} (hk : k ≤ 14) (h1 : v1 = enc (k, 0)) (h2 : v2 = enc (k, C.length)) (hl : C.length < 220) (hw : W.length < 220) (h : MVc ch N t b c g p C W o) : MVc ch N t (upd b (g 17).toNatClampNeg v1) (upd c (g 18).toNatClampNeg v2) (upd (upd (upd g 18 (g 18 + 1)) 17 (g 17 + 1)) 13 (g 13 + 1)) (p + 1) (C ++ [(k, 0)]) ((k, C.length) :: W) o := by
  obtain ⟨a1, a2, a3, a4, a5, a6, a7, a8⟩ := h
  rw [a5, a6, cl_nI (by omega), cl_nI (by omega), h1, h2]
  refine ⟨a1, by rw [upd_eq, a2, nI_p1], by rw [upd_ne _ _ (by decide), upd_ne _ _ (by decide), upd_ne _ _ (by decide)]; exact a3, by rw [upd_ne _ _ (by decide), upd_ne _ _ (by decide), upd_ne _ _ (by decide)]; exact a4, by rw [upd_ne _ _ (by decide), upd_eq, nI_p1, List.length_append]; rfl, by rw [upd_ne _ _ (by decide), upd_ne _ _ (by decide), upd_eq, nI_p1]; rfl, a7.push ⟨hk, by show 0 < 1048576; decide⟩, upd_eq _ _ _, ⟨hk, by show C.length < 1048576; omega⟩, fun _ => ?_, ?_⟩
  · show C.length < (C ++ [(k, 0)]).length
    rw [List.length_append, List.length_singleton]
    omega
  · rw [List.length_append]
    exact (a8.upd (Nat.le_refl _)).wk (by omega)
theorem EV.jumpM {ch : Nat → Int32} {N d p o k : Nat} {C W : Cd} {σ : QS} (h : MV ch N σ p C W o) (hc : C.length < 220) (hw : W.length < 220) (hk : k ≤ 14) : EV (d + 1) 138 0 [some (.inr 69), some (.inl (nI k))] [] σ (qV (fun s => FR σ s ∧ MV ch N s (p + 1) (C ++ [(k, 0)]) ((k, C.length) :: W) o)) := by
  have h17 := h.2.2.2.2.1
  have h18 := h.2.2.2.2.2.1
  refine pM_jumps_0 ⟨by rw [h18]; exact vp_in_nI hw (by decide), ex_V (pM_notes_0 ⟨?_, rfl, rfl⟩) ⟨rfl, ?_, ?_⟩⟩
  · show vp_in (upd (σ 69) 18 ((σ 69 18) + 1) 17) 220
    rw [upd_ne _ _ (by decide), h17]
    exact vp_in_nI hc (by decide)
  · exact FR.s69 (FR.s69 (FR.s81 (FR.s69 (FR.s82 FR.rf) (by decide))) (by decide)) (by decide)
  · exact MVc.jump hk (by rw [enc_mk0]; exact Int32.add_zero _) (by rw [h17, enc_mk]) hc hw h
def mokE (C W : Cd) (o : Nat) (res : Rs) : MR := match res with
  | .ok (q, c) => .ok (q, (mEnd (C ++ c) W o).1, (mEnd (C ++ c) W o).2.1, (mEnd (C ++ c) W o).2.2)
  | .error e => .error e
theorem EV.cprM {ch : Nat → Int32} {N d p o : Nat} {C W : Cd} {σ : QS} (hT : MT ch N σ p C W o) (ht : ¬ (2 ≤ tp W ∧ tp W ≤ 6)) : EV (d + 5) 139 0 [some (.inr 69), none] [] σ (PM ch N σ (mokE C W o (cpr ch N (6 - o) p))) := by
  have hc := hT.1.1.1
  have hN := hT.1.1.2.1
  obtain ⟨b1, b2, b3, b4, b5⟩ := hT.2
  refine pM_readsCompared_0 ⟨_, EV.sumM (d := d) hT ht, ?_⟩
  intro y s hy
  obtain ⟨f1, hy⟩ := hy
  unfold cpr
  cases hs : smm ch N (fct ch N (6 - o)) p with
  | error e =>
    rw [hs] at hy
    obtain ⟨rfl, he⟩ := hy
    exact ⟨fun z => absurd rfl z, fun _ => PM.er f1 he⟩
  | ok v =>
    obtain ⟨q, c⟩ := v
    rw [hs] at hy
    obtain ⟨rfl, hT1⟩ := hy
    obtain ⟨g1, g2, g3⟩ := smm_kg hc (6 - o) _ _ _ hs
    refine ⟨fun _ => ?_, fun z => absurd z (by decide)⟩
    dsimp only
    have hv1 := hT1.1
    have go : ∀ k, cmpO (ch q) = k → ¬ k = 0 → ∃ R20 : Int32 → QS → Prop, EV (d + 4) 135 0 [some (.inr 69), none, none] [] (q_set s 69 (upd (s 69) 13 ((s 69 13) + 1))) (qI R20) ∧ ∀ y22 s21, R20 y22 s21 → (¬ y22 = 0 → ∃ R24 : QS → Prop, EV (d + 4) 127 0 [some (.inr 69), some (.inl (nI k)), some (.inl 0)] [] s21 (qV R24) ∧ ∀ s25, R24 s25 → ∃ R26 : QS → Prop, EV (d + 4) 136 0 [some (.inr 69)] [] s25 (qV R26) ∧ ∀ s27, R26 s27 → PM ch N σ (mokE C W o (if cmpO (ch q) = 0 then .error (flt 1 q) else (match smm ch N (fct ch N (6 - o)) (q + 1) with
        | .ok (r, c2) => .ok (r, c ++ c2 ++ [(cmpO (ch q), 0)])
        | .error e => .error e))) (some 1) s27) ∧ (y22 = 0 → PM ch N σ (mokE C W o (if cmpO (ch q) = 0 then .error (flt 1 q) else (match smm ch N (fct ch N (6 - o)) (q + 1) with
        | .ok (r, c2) => .ok (r, c ++ c2 ++ [(cmpO (ch q), 0)])
        | .error e => .error e))) (some 0) s21) := by
      intro k ek hk0
      subst ek
      rw [if_neg hk0]
      obtain ⟨r1, r2, r3, -⟩ := cmpO_r hk0
      have hqN : q < N := hc.lt rfl r3
      have hT2 : MT ch N (q_set s 69 (upd (s 69) 13 ((s 69 13) + 1))) (q + 1) (C ++ c) W o := ⟨MVc.place hv1, by omega, by rw [List.length_append]; omega, by omega, b4, b5⟩
      refine ⟨_, EV.sumM (d := d) hT2 ht, ?_⟩
      intro y2 s2 hy2
      obtain ⟨f2, hy2⟩ := hy2
      have f12 : FR σ s2 := (f1.s69 (by decide)).tr f2
      cases hs2 : smm ch N (fct ch N (6 - o)) (q + 1) with
      | error e =>
        rw [hs2] at hy2
        obtain ⟨rfl, he⟩ := hy2
        exact ⟨fun z => absurd rfl z, fun _ => PM.er f12 he⟩
      | ok v2 =>
        obtain ⟨r, c2⟩ := v2
        rw [hs2] at hy2
        obtain ⟨rfl, hT3⟩ := hy2
        obtain ⟨k1, k2, k3⟩ := smm_kg hc (6 - o) _ _ _ hs2
        refine ⟨fun _ => ⟨_, EV.notesM (x := (cmpO (ch q), 0)) hT3.1 (by rw [List.length_append, List.length_append]; omega) rfl rfl ⟨by show cmpO (ch q) ≤ 14; omega, by show 0 < 1048576; decide⟩, ?_⟩, fun z => absurd z (by decide)⟩
        rintro s3 ⟨f3, hv3⟩
        have eC : C ++ c ++ c2 ++ [(cmpO (ch q), 0)] = C ++ (c ++ c2 ++ [(cmpO (ch q), 0)]) := by simp
        rw [eC] at hv3
        have hl : (C ++ (c ++ c2 ++ [(cmpO (ch q), 0)])).length = C.length + c.length + c2.length + 1 := by simp; omega
        have hB3 : MB N r (C ++ (c ++ c2 ++ [(cmpO (ch q), 0)])) W o := ⟨k3, by omega, by omega, b4, b5⟩
        refine ⟨_, EV.endM (d := d + 3) W _ o s3 hv3 b4 (by omega) (by omega), ?_⟩
        rintro s4 ⟨f4, hv4⟩
        exact PM.ok ((f12.tr f3).tr f4) ⟨hv4, hB3.end⟩
    refine ex_I (EV.hereM hv1 g3) ⟨fun n60 => ex_I (EV.hereM hv1 g3) ⟨fun n62 => ex_I (EV.hereM hv1 g3) ⟨fun n61 => ⟨_, EV.wrongM 1 hv1.2.1, ?_⟩, fun q61 => go 9 (by rw [q61]; rfl) (by decide)⟩, fun q62 => go 8 (by rw [q62]; rfl) (by decide)⟩, fun q60 => go 7 (by rw [q60]; rfl) (by decide)⟩
    have e0 : cmpO (ch q) = 0 := by unfold cmpO; rw [if_neg n60, if_neg n62, if_neg n61]
    rw [if_pos e0]
    rintro y2 s2 ⟨rfl, f2, e⟩
    exact ⟨Or.inl rfl, PM.er (f1.tr f2) e⟩
