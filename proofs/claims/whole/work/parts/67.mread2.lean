/-! sums and conditions, by the reference -/
theorem tpI_lt4 {σ : QS} {n : Nat} {W : Cd} (h : WR (σ 82) n W) : tpI W < 4 ↔ ¬ (4 ≤ tp W) := by
  cases W with
  | nil => exact ⟨fun _ => by show ¬ 4 ≤ 0; decide, fun _ => by show (-1 : Int32) < 4; decide⟩
  | cons x W =>
    have := h.2.1.1
    show nI x.1 < nI 4 ↔ ¬ 4 ≤ x.1
    rw [nI_ltI (by omega) (by omega)]
    omega
theorem tpI_le6 {σ : QS} {n : Nat} {W : Cd} (h : WR (σ 82) n W) : tpI W ≤ 6 ↔ tp W ≤ 6 := by
  cases W with
  | nil => exact ⟨fun _ => by show 0 ≤ 6; decide, fun _ => by show (-1 : Int32) ≤ 6; decide⟩
  | cons x W =>
    have := h.2.1.1
    show nI x.1 ≤ nI 6 ↔ x.1 ≤ 6
    rw [nI_leI (by omega) (by omega)]
theorem tpI_k {σ : QS} {n k : Nat} {W : Cd} (h : WR (σ 82) n W) (hk : k < 15) (h0 : 0 < k) : tpI W = nI k ↔ tp W = k := by
  cases W with
  | nil => exact ⟨fun z => absurd z.symm (nI_nem (by omega)), fun z => by have : 0 = k := z; omega⟩
  | cons x W =>
    have := h.2.1.1
    show nI x.1 = nI k ↔ x.1 = k
    rw [nI_eq (by omega) (by omega)]
def zb (all : Bool) : Int32 := if all = true then 1 else 0
theorem mCl_inv (all : Bool) : ∀ (W C : Cd), (mCl all C W).1.length + pnW (mCl all C W).2 = C.length + pnW W ∧ (mCl all C W).2.length ≤ W.length ∧ onW (mCl all C W).2 = onW W
  | [], C => ⟨rfl, Nat.le_refl _, rfl⟩
  | (t, x) :: W, C => by
    rw [mCl]
    split
    · rename_i q
      obtain ⟨h1, h2, h3⟩ := mCl_inv all W (C ++ [(t, 0)])
      have e1 : pnW ((t, x) :: W) = 1 + pnW W := by
        show (if t = 11 ∨ t = 12 then 0 else 1) + pnW W = _
        rw [if_neg (by omega)]
      have e2 : onW ((t, x) :: W) = onW W := by
        show (if t = 10 ∨ t = 13 ∨ t = 14 then 1 else 0) + onW W = _
        rw [if_neg (by omega), Nat.zero_add]
      refine ⟨?_, by rw [List.length_cons]; omega, by rw [h3, e2]⟩
      rw [h1, e1, List.length_append, List.length_singleton]
      omega
    · exact ⟨rfl, Nat.le_refl _, rfl⟩
theorem EV.closeM {ch : Nat → Int32} {N d p o : Nat} (all : Bool) : ∀ (W C : Cd) (σ : QS), MV ch N σ p C W o → C.length + pnW W < 220 → W.length < 220 → EV (d + 1) 132 0 [some (.inr 69), some (.inl (zb all))] [] σ (qV (fun s => FR σ s ∧ MV ch N s p (mCl all C W).1 (mCl all C W).2 o)) := by
  intro W
  induction W with
  | nil =>
    intro C σ h hc hw
    have hwr := h.2.2.2.2.2.2.2
    have tt : ∀ d, EV d 129 0 [some (.inr 69)] [] σ (qis (tpI []) σ) := fun d => EV.topM h hw
    have stay : qV (fun s => FR σ s ∧ MV ch N s p (mCl all C []).1 (mCl all C []).2 o) none σ := ⟨rfl, FR.rf, h⟩
    refine pM_closesSums_0 (ex_I (tt d) ⟨fun _ => ⟨fun _ => stay, fun _ => ex_I (tt d) ⟨fun q => absurd q (by decide), fun _ => ex_I (tt d) ⟨fun _ => stay, fun q => absurd q (by decide)⟩⟩⟩, fun q => absurd (by decide) q⟩)
  | cons x W ih =>
    intro C σ h hc hw
    have hwr := h.2.2.2.2.2.2.2
    have tt : ∀ d, EV d 129 0 [some (.inr 69)] [] σ (qis (tpI (x :: W)) σ) := fun d => EV.topM h hw
    obtain ⟨t, n⟩ := x
    have e1 : pnW ((t, n) :: W) = (if t = 11 ∨ t = 12 then 0 else 1) + pnW W := rfl
    have ht14 : t ≤ 14 := hwr.2.1.1
    have stay : ¬ ((4 ≤ t ∧ t ≤ 6) ∨ (all = true ∧ (t = 2 ∨ t = 3))) → qV (fun s => FR σ s ∧ MV ch N s p (mCl all C ((t, n) :: W)).1 (mCl all C ((t, n) :: W)).2 o) none σ := fun q => ⟨rfl, FR.rf, by rw [mCl, if_neg q]; exact h⟩
    have go : ((4 ≤ t ∧ t ≤ 6) ∨ (all = true ∧ (t = 2 ∨ t = 3))) → ∃ R28 : Int32 → QS → Prop, EV d 129 0 [some (.inr 69)] [] σ (qI R28) ∧ ∀ y30 s29, R28 y30 s29 → ∃ R31 : QS → Prop, EV d 127 0 [some (.inr 69), some (.inl y30), some (.inl 0)] [] s29 (qV R31) ∧ ∀ s32, R31 s32 → EV (d + 1) 132 0 [some (.inr 69), some (.inl (zb all))] [] (q_set s32 69 (upd (s32 69) 18 ((s32 69 18) - 1))) (qV (fun s => FR σ s ∧ MV ch N s p (mCl all C ((t, n) :: W)).1 (mCl all C ((t, n) :: W)).2 o)) := by
      intro q
      rw [if_neg (by omega)] at e1
      rw [e1] at hc
      refine ex_I (tt d) ⟨_, EV.notesM (x := (t, 0)) h (by omega) rfl rfl ⟨ht14, by show 0 < 1048576; decide⟩, ?_⟩
      rintro s ⟨f, hv⟩
      rw [mCl, if_pos q]
      rw [List.length_cons] at hw
      refine EV.mono (ih (C ++ [(t, 0)]) _ (MVc.pop hv) (by rw [List.length_append, List.length_singleton]; omega) (by omega)) ?_
      rintro r u ⟨rfl, f2, hv2⟩
      exact ⟨rfl, (f.s69 (by decide)).tr f2, hv2⟩
    have z0 : zb all = 0 ↔ ¬ all = true := by cases all <;> decide
    have tk : ∀ k, k < 15 → 0 < k → (tpI ((t, n) :: W) = nI k ↔ t = k) := fun k a b => tpI_k hwr a b
    have low : ¬ (4 ≤ t ∧ t ≤ 6) → (zb all = 0 → qV (fun s => FR σ s ∧ MV ch N s p (mCl all C ((t, n) :: W)).1 (mCl all C ((t, n) :: W)).2 o) none σ) ∧ (¬ zb all = 0 → ∃ R6 : Int32 → QS → Prop, EV d 129 0 [some (.inr 69)] [] σ (qI R6) ∧ ∀ y8 s7, R6 y8 s7 → (y8 = 2 → ∃ R10 : Int32 → QS → Prop, EV d 129 0 [some (.inr 69)] [] s7 (qI R10) ∧ ∀ y12 s11, R10 y12 s11 → ∃ R13 : QS → Prop, EV d 127 0 [some (.inr 69), some (.inl y12), some (.inl 0)] [] s11 (qV R13) ∧ ∀ s14, R13 s14 → EV (d + 1) 132 0 [some (.inr 69), some (.inl (zb all))] [] (q_set s14 69 (upd (s14 69) 18 ((s14 69 18) - 1))) (qV (fun s => FR σ s ∧ MV ch N s p (mCl all C ((t, n) :: W)).1 (mCl all C ((t, n) :: W)).2 o))) ∧ (¬ y8 = 2 → ∃ R15 : Int32 → QS → Prop, EV d 129 0 [some (.inr 69)] [] s7 (qI R15) ∧ ∀ y17 s16, R15 y17 s16 → (¬ y17 = 3 → qV (fun s => FR σ s ∧ MV ch N s p (mCl all C ((t, n) :: W)).1 (mCl all C ((t, n) :: W)).2 o) none s16) ∧ (y17 = 3 → ∃ R19 : Int32 → QS → Prop, EV d 129 0 [some (.inr 69)] [] s16 (qI R19) ∧ ∀ y21 s20, R19 y21 s20 → ∃ R22 : QS → Prop, EV d 127 0 [some (.inr 69), some (.inl y21), some (.inl 0)] [] s20 (qV R22) ∧ ∀ s23, R22 s23 → EV (d + 1) 132 0 [some (.inr 69), some (.inl (zb all))] [] (q_set s23 69 (upd (s23 69) 18 ((s23 69 18) - 1))) (qV (fun s => FR σ s ∧ MV ch N s p (mCl all C ((t, n) :: W)).1 (mCl all C ((t, n) :: W)).2 o))))) := by
      intro hlow
      refine ⟨fun q => stay (fun z => ?_), fun q => ex_I (tt d) ⟨fun q2 => go ?_, fun q2 => ex_I (tt d) ⟨fun q3 => stay (fun z => ?_), fun q3 => go ?_⟩⟩⟩
      · rcases z with z | z
        · exact hlow z
        · exact z0.mp q z.1
      · exact Or.inr ⟨Classical.byContradiction (fun z => q (z0.mpr z)), Or.inl ((tk 2 (by decide) (by decide)).mp q2)⟩
      · rcases z with z | ⟨-, z | z⟩
        · exact hlow z
        · exact q2 ((tk 2 (by decide) (by decide)).mpr z)
        · exact q3 ((tk 3 (by decide) (by decide)).mpr z)
      · exact Or.inr ⟨Classical.byContradiction (fun z => q (z0.mpr z)), Or.inr ((tk 3 (by decide) (by decide)).mp q3)⟩
    have l4 : tpI ((t, n) :: W) < 4 ↔ ¬ 4 ≤ t := tpI_lt4 hwr
    have l6 : tpI ((t, n) :: W) ≤ 6 ↔ t ≤ 6 := tpI_le6 hwr
    refine pM_closesSums_0 (ex_I (tt d) ⟨fun q => low (fun z => l4.mp q z.1), fun q => ex_I (tt d) ⟨fun q2 => go (Or.inl ⟨Classical.byContradiction (fun z => q (l4.mpr z)), l6.mp q2⟩), fun q2 => low (fun z => q2 (l6.mpr z.2))⟩⟩)
theorem hOp_step {k : Nat} {W : Cd} {x : Nat × Nat} (hk : k < W.length) (hx : W[W.length - 1 - k]? = some x) : hOp k W = (x.1 == 14 || hOp (k + 1) W) := by
  unfold hOp
  rw [show W.length - k = (W.length - 1 - k) + 1 by omega, List.take_succ, hx, List.any_append, show W.length - (k + 1) = W.length - 1 - k by omega, Bool.or_comm]
  simp
theorem EV.hasM {ch : Nat → Int32} {N d p o : Nat} {C W : Cd} {σ : QS} {b : Int32} (h : MV ch N σ p C W o) (hw : W.length < 220) : ∀ m k, k + m = W.length → EV d 134 1 [some (.inr 69), some (.inl b), some (.inl (nI k))] [] σ (qis (if hOp k W = true then 1 else 0) σ) := by
  obtain ⟨-, -, -, -, -, h18, -, hwr⟩ := h
  intro m
  induction m with
  | zero =>
    intro k hk
    refine pM_hasOpenSum_1 ?_
    rw [h18, show k = W.length by omega, hOp_self]
    exact ⟨fun _ => ⟨rfl, rfl⟩, fun q => absurd (nI_le' (Nat.le_refl _) (by omega)) q⟩
  | succ m ih =>
    intro k hk
    obtain ⟨x, h1, h2, h3⟩ := hwr.get (show k < W.length by omega)
    have hx14 := h3.1
    refine pM_hasOpenSum_1 ?_
    rw [h18, cl_nI (by omega), h2, enc_div h3, nI_p1, hOp_step (by omega) h1]
    refine ⟨fun q => absurd q (nI_nle' (by omega) (by omega)), fun _ => ⟨vp_in_nI (by omega) (by decide), by decide, fun q => ?_, fun q => ?_⟩⟩
    · have : (x.1 == 14) = false := by
        rw [beq_eq_false_iff_ne]
        exact fun z => q (by rw [z]; rfl)
      rw [this, Bool.false_or]
      exact ih (k + 1) (by omega)
    · have : x.1 = 14 := (nI_eq (a := x.1) (b := 14) (by omega) (by decide)).mp q
      rw [this]
      exact ⟨rfl, rfl⟩
theorem EV.hasM0 {ch : Nat → Int32} {N d p o base : Nat} {C W : Cd} {σ : QS} (h : MV ch N σ p C W o) (hw : W.length < 220) (hb : base < 1000) : EV d 134 0 [some (.inr 69), some (.inl (nI base)), none] [] σ (qis (if hOp base W = true then 1 else 0) σ) := by
  refine pM_hasOpenSum_0 ?_
  rcases Nat.lt_or_ge W.length base with q | q
  · have h18 := h.2.2.2.2.2.1
    refine pM_hasOpenSum_1 ?_
    have e : hOp base W = false := by
      unfold hOp
      rw [show W.length - base = 0 by omega, List.take_zero, List.any_nil]
    rw [h18, e]
    exact ⟨fun _ => ⟨rfl, rfl⟩, fun z => absurd (nI_le' (by omega) (by omega)) z⟩
  · exact EV.hasM h hw (W.length - base) base (by omega)
theorem sgI_mul {c : Int32} (h : ¬ mulO c = 0) : sgI c = nI (mulO c) := if_pos h
theorem sgI_sum {c : Int32} (h0 : mulO c = 0) (h : ¬ sumO c = 0) : sgI c = nI (sumO c) := by
  unfold sgI
  rw [if_neg (fun z => z h0), if_pos h]
theorem sgI_no {c : Int32} (h0 : mulO c = 0) (h : sumO c = 0) : sgI c = -1 := by
  unfold sgI
  rw [if_neg (fun z => z h0), if_neg (fun z => z h)]
theorem MB.cl {N p o : Nat} {C W : Cd} (all : Bool) (h : MB N p C W o) : MB N p (mCl all C W).1 (mCl all C W).2 o := by
  obtain ⟨h1, h2, h3, h4, h5⟩ := h
  obtain ⟨k1, k2, k3⟩ := mCl_inv all W C
  exact ⟨h1, by omega, by omega, by omega, h5⟩
theorem MB.sum {N p o x n : Nat} {C W : Cd} (h : MB N p C W o) (hp : p < N) (h2 : 2 ≤ x) (h6 : x ≤ 6) : MB N (p + 1) C ((x, n) :: W) o := by
  obtain ⟨k1, k2, k3, k4, k5⟩ := h
  refine ⟨hp, ?_, by rw [List.length_cons]; omega, ?_, k5⟩
  · show C.length + ((if x = 11 ∨ x = 12 then 0 else 1) + pnW W) ≤ p + 1
    rw [if_neg (by omega)]; omega
  · show (if x = 10 ∨ x = 13 ∨ x = 14 then 1 else 0) + onW W = o
    rw [if_neg (by omega)]; omega
set_option maxHeartbeats 1000000 in
theorem EV.sumLM {ch : Nat → Int32} {N d base : Nat} (hb : base < 1000) : ∀ f p C W o σ w2 r, mSL ch base f p C W o = some r → MT ch N σ p C W o → EV (d + 4) 135 3 [some (.inr 69), some (.inl (nI base)), w2] [] σ (PM ch N σ r) := by
  intro f
  induction f with
  | zero => intro p C W o σ w2 r h; cases h
  | succ f ih =>
    intro p C W o σ w2 r h hT
    obtain ⟨hv, hB⟩ := hT
    have hN := hv.1.2.1
    have hp := hB.1
    have hwl : W.length < 220 := by have := hB.2.2.1; omega
    have hcl : C.length + pnW W < 220 := by have := hB.2.1; omega
    have go : ∀ (all : Bool) (x : Nat) (y6 : Int32), y6 = nI x → 2 ≤ x → x ≤ 6 → p < N → (match mFac ch (6 - o) (p + 1) (mCl all C W).1 ((x, 0) :: (mCl all C W).2) o with
        | .ok (q, C, W, o) => mSL ch base f q C W o
        | .error e => some (.error e)) = some r → ∃ R37 : QS → Prop, EV (d + 3) 132 0 [some (.inr 69), some (.inl (zb all))] [] σ (qV R37) ∧ ∀ s38, R37 s38 → (vp_in (s38 69 18) 220) ∧ (∃ R39 : Int32 → QS → Prop, EV (d + 3) 133 0 [some (.inr 69), none] [] (q_set (q_set (q_set s38 82 (upd (s38 82) (s38 69 18).toNatClampNeg (1048576 * y6))) 69 (upd (s38 69) 18 ((s38 69 18) + 1))) 69 (upd (upd (s38 69) 18 ((s38 69 18) + 1)) 13 (((upd (s38 69) 18 ((s38 69 18) + 1)) 13) + 1))) (qI R39) ∧ ∀ y41 s40, R39 y41 s40 → (¬ y41 = 0 → EV (d + 4) 135 3 [some (.inr 69), some (.inl (nI base)), some (.inl y6)] [] s40 (PM ch N σ r)) ∧ (y41 = 0 → PM ch N σ r (some 0) s40)) := by
      intro all x y6 ey h2 h6 hpN hr
      subst ey
      refine ⟨_, EV.closeM (d := d + 2) all W C σ hv hcl hwl, ?_⟩
      rintro s38 ⟨f1, hv1⟩
      have hB1 := hB.cl all
      have hwl1 : (mCl all C W).2.length < 220 := by have := hB1.2.2.1; omega
      refine ⟨by rw [hv1.2.2.2.2.2.1]; exact vp_in_nI hwl1 (by decide), ?_⟩
      have f2 : FR σ (q_set (q_set (q_set s38 82 (upd (s38 82) (s38 69 18).toNatClampNeg (1048576 * nI x))) 69 (upd (s38 69) 18 ((s38 69 18) + 1))) 69 (upd (upd (s38 69) 18 ((s38 69 18) + 1)) 13 (((upd (s38 69) 18 ((s38 69 18) + 1)) 13) + 1))) := FR.s69 (FR.s69 (FR.s82 f1) (by decide)) (by decide)
      refine ⟨_, EV.facM (d := d) (6 - o) (p + 1) (mCl all C W).1 ((x, 0) :: (mCl all C W).2) o _ rfl ⟨MVc.place (MVc.push (x := (x, 0)) (enc_mk0 x) ⟨by show x ≤ 14; omega, by show 0 < 1048576; decide⟩ (fun z => by have z : x = 11 ∨ x = 12 := z; omega) hwl1 hv1), hB1.sum hpN h2 h6⟩, ?_⟩
      intro y s hy
      obtain ⟨f3, hy⟩ := hy
      cases hk : mFac ch (6 - o) (p + 1) (mCl all C W).1 ((x, 0) :: (mCl all C W).2) o with
      | error e =>
        rw [hk] at hy hr
        obtain ⟨rfl, he⟩ := hy
        cases hr
        exact ⟨fun z => absurd rfl z, fun _ => PM.er (f2.tr f3) he⟩
      | ok v =>
        obtain ⟨q, C2, W2, o2⟩ := v
        rw [hk] at hy hr
        obtain ⟨rfl, hT2⟩ := hy
        exact ⟨fun _ => (ih q C2 W2 o2 s _ r hr hT2).mono (fun _ _ z => PM.fr (f2.tr f3) z), fun z => absurd z (by decide)⟩
    rw [mSL] at h
    refine pM_readsSum_3 (ex_I (EV.hereM hv hp) (ex_I (EV.signM _) ?_))
    by_cases hm : mulO (ch p) = 0
    · rw [if_neg (fun z => z hm)] at h
      by_cases hs : sumO (ch p) = 0
      · rw [if_neg (fun z => z hs)] at h
        rw [sgI_no hm hs]
        have hend : ¬ hOp base W = true → ¬ (ch p = 93 ∧ hOp base W = true) → r = .ok (p, (mCl true C W).1, (mCl true C W).2, o) := fun a b => by
          rw [if_neg b, if_neg a] at h
          cases h
          rfl
        have fin : ¬ hOp base W = true → ∃ R16 : QS → Prop, EV (d + 3) 132 0 [some (.inr 69), some (.inl 1)] [] σ (qV R16) ∧ ∀ s17, R16 s17 → PM ch N σ r (some 1) s17 := by
          intro a
          refine ⟨_, EV.closeM (d := d + 2) true W C σ hv hcl hwl, ?_⟩
          rintro s ⟨f1, hv1⟩
          rw [hend a (fun z => a z.2)]
          exact PM.ok f1 ⟨hv1, hB.cl true⟩
        have bad : hOp base W = true → ¬ ch p = 93 → ∃ R18 : Int32 → QS → Prop, EV (d + 3) 124 0 [some (.inr 69), some (.inl 1), some (.inl (σ 69 13))] [] σ (qI R18) ∧ ∀ y20 s19, R18 y20 s19 → (y20 = 0 ∨ y20 = 1) ∧ PM ch N σ r (some y20) s19 := by
          intro a b
          rw [if_neg (fun z => b z.1), if_pos a] at h
          cases h
          refine ⟨_, EV.wrongM 1 hv.2.1, ?_⟩
          rintro y s ⟨rfl, f1, e⟩
          exact ⟨Or.inl rfl, PM.er f1 e⟩
        refine ⟨fun _ => ex_I (EV.hereM hv hp) ⟨fun q93 => ex_I (EV.hasM0 hv hwl hb) ⟨fun q => fin (fun z => by rw [if_pos z] at q; exact absurd q (by decide)), fun q => bad (Classical.byContradiction (fun z => q (if_neg z))) q93⟩, fun q93 => ex_I (EV.hasM0 hv hwl hb) ⟨fun q => ?_, fun q => ?_⟩⟩, fun q => absurd rfl q⟩
        · have a : ¬ hOp base W = true := fun z => by rw [if_pos z] at q; exact absurd q (by decide)
          exact ex_I (EV.hasM0 hv hwl hb) ⟨fun _ => fin a, fun q2 => absurd q q2⟩
        · have a : hOp base W = true := Classical.byContradiction (fun z => q (if_neg z))
          rw [if_pos ⟨q93, a⟩] at h
          split at h
          · rename_i e14
            refine ⟨_, EV.closeM (d := d + 2) true W C σ hv hcl hwl, ?_⟩
            rintro s ⟨f1, hv1⟩
            have hB1 := hB.cl true
            have hpN : p < N := hv.1.1.lt q93 (by decide)
            cases eW : (mCl true C W).2 with
            | nil => rw [eW] at e14; exact absurd e14 (by decide)
            | cons x W' =>
              rw [eW] at e14 h hv1 hB1
              have e14 : x.1 = 14 := e14
              obtain ⟨b1, b2, b3, b4, b5⟩ := hB1
              have ep : pnW (x :: W') = 1 + pnW W' := by
                show (if x.1 = 11 ∨ x.1 = 12 then 0 else 1) + pnW W' = _
                rw [if_neg (by omega)]
              have eo : onW (x :: W') = 1 + onW W' := by
                show (if x.1 = 10 ∨ x.1 = 13 ∨ x.1 = 14 then 1 else 0) + onW W' = _
                rw [if_pos (by omega)]
              rw [List.length_cons] at b3
              obtain ⟨o', rfl⟩ : ∃ o', o = o' + 1 := ⟨o - 1, by omega⟩
              rw [show o' + 1 - 1 = o' by omega] at h
              exact EV.mono (ih (p + 1) _ W' o' _ _ r h ⟨MVc.place (MVc.less (MVc.pop hv1)), by omega, by omega, by omega, by omega, by omega⟩) (fun _ _ z => PM.fr (FR.s69 (FR.s69 (FR.s69 f1 (by decide)) (by decide)) (by decide)) z)
          · cases h
      · rw [if_pos hs] at h
        obtain ⟨r1, r2, r3, -⟩ := sumO_r hs
        rw [sgI_sum hm hs]
        exact ⟨fun q => absurd q (nI_nem (by omega)), fun _ => ⟨fun q => absurd ((nI_leI (a := 4) (by decide) (by omega)).mp q) (by omega), fun _ => go true (sumO (ch p)) _ rfl (by omega) (by omega) (hv.1.1.lt rfl r3) h⟩⟩
    · rw [if_pos hm] at h
      obtain ⟨r1, r2, r3, -⟩ := mulO_r hm
      rw [sgI_mul hm]
      exact ⟨fun q => absurd q (nI_nem (by omega)), fun _ => ⟨fun _ => go false (mulO (ch p)) _ rfl (by omega) (by omega) (hv.1.1.lt rfl r3) h, fun q => absurd (nI_le' (a := 4) (by omega) (by omega)) q⟩⟩
def moks (C W : Cd) (o : Nat) (res : Rs) : MR := match res with
  | .ok (q, c) => .ok (q, C ++ c, W, o)
  | .error e => .error e
/-- a whole sum -/
theorem EV.sumM {ch : Nat → Int32} {N d p o : Nat} {C W : Cd} {σ : QS} (hT : MT ch N σ p C W o) (ht : ¬ (2 ≤ tp W ∧ tp W ≤ 6)) : EV (d + 4) 135 0 [some (.inr 69), none, none] [] σ (PM ch N σ (moks C W o (smm ch N (fct ch N (6 - o)) p))) := by
  have ho := hT.2.2.2.2.2
  have hwl : W.length < 220 := by have := hT.2.2.2.1; have := hT.2.1; have := hT.1.1.2.1; omega
  have key : FER ch W.length p C W o (moks C W o (smm ch N (fct ch N (6 - o)) p)) := by
    have key := sum_M (N := N) (k := 6 - o) (p := p) (C := C) (W := W) hT.1.1.1 (by omega) ht
    rw [show 6 - (6 - o) = o by omega] at key
    exact key
  generalize moks C W o (smm ch N (fct ch N (6 - o)) p) = r at key ⊢
  unfold FER at key
  refine pM_readsSum_0 ⟨_, EV.facM (d := d) (6 - o) p C W o σ rfl hT, ?_⟩
  intro y s hy
  obtain ⟨f1, hy⟩ := hy
  rw [hT.1.2.2.2.2.2.1]
  cases hk : mFac ch (6 - o) p C W o with
  | error e =>
    rw [hk] at hy key
    obtain ⟨rfl, he⟩ := hy
    rw [key]
    exact ⟨fun z => absurd rfl z, fun _ => PM.er f1 he⟩
  | ok v =>
    obtain ⟨q, C2, W2, o2⟩ := v
    rw [hk] at hy key
    obtain ⟨rfl, hT2⟩ := hy
    obtain ⟨f, hf⟩ := key
    exact ⟨fun _ => (EV.sumLM (by omega) f q C2 W2 o2 s _ r hf hT2).mono (fun _ _ z => PM.fr f1 z), fun z => absurd z (by decide)⟩
