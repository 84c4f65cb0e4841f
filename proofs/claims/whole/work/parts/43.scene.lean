/-! the ROOMS as one ACT after another changes them -/
def Fx (σ s : QS) : Prop := ∀ c, c ≠ 21 → c ≠ 30 → c ≠ 45 → c ≠ 46 → s c = σ c
theorem Fx.rf {σ : QS} : Fx σ σ := fun _ _ _ _ _ => rfl
theorem Fx.tr {σ s t : QS} (h : Fx σ s) (k : Fx s t) : Fx σ t := fun c a b e f => (k c a b e f).trans (h c a b e f)
theorem Fx.set {σ s : QS} (h : Fx σ s) {c : Nat} (hc : c = 21 ∨ c = 30 ∨ c = 45 ∨ c = 46) (f : Nat → Int32) : Fx σ (q_set s c f) := fun e a b x y => by
  rw [q_set_ne _ _ (by omega)]
  exact h e a b x y
theorem Fx.L {σ s : QS} (h : Fx σ s) : FrL σ s := fun c hc => h c (by omega) (by omega) (by omega) (by omega)
theorem LC_fr {σ s : QS} (h : FrL σ s) {w : Nat} (h1 : LC σ w) : LC s w := by
  unfold LC at h1 ⊢
  rw [h 13 (by decide), h 14 (by decide), h 15 (by decide), h 16 (by decide), h 17 (by decide), h 18 (by decide), h 19 (by decide), h 20 (by decide), h 22 (by decide), h 23 (by decide), h 24 (by decide), h 25 (by decide), h 26 (by decide), h 27 (by decide), h 28 (by decide), h 29 (by decide)]
  exact h1
def vF (R : Nat → Int32) (k a : Int32) (r : Nat) (h o p : Int32) : Nat → Int32 := fun i => if i = 0 then k else if i = 1 then a else if i = 2 then nI r else if i = 3 then R (r * 3) else if i = 4 then R (r * 3 + 1) else if i = 5 then R (r * 3 + 2) else if i = 6 then h else if i = 7 then o else p
def Rm (f R : Nat → Int32) : Prop := ∀ i, i < 24 → f i = R i
def At (σ : QS) (h o p : Int32) : Prop := σ 46 6 = h ∧ σ 46 7 = o ∧ σ 46 8 = p
theorem Rm.rf {f : Nat → Int32} : Rm f f := fun _ _ => rfl
theorem EV.look {d : Nat} {σ : QS} {R : Nat → Int32} {k a h o p : Int32} {r : Nat} (hr : r < 8) (hR : Rm (σ 45) R) (hA : At σ h o p) : EV d 51 0 [some (.inr 44), some (.inl k), some (.inl (nI r)), some (.inl a)] [] σ (qV (fun s => Fx σ s ∧ s 45 = σ 45 ∧ ∀ i, i < 9 → s 46 i = vF R k a r h o p i)) := by
  have er : nI r * 3 = nI (r * 3) := pk_mul r 3
  have cr : (nI (r * 3)).toNatClampNeg = r * 3 := cl_nI (by omega)
  refine pE_look_0 ?_
  rw [er, cr]
  refine ⟨vp_in_nI (n := 0) (by decide) (by decide), vp_in_nI (n := 1) (by decide) (by decide), vp_in_nI (n := 2) (by decide) (by decide), ⟨?_, by decide, by decide, by show r * 3 + 3 ≤ 24; omega, by decide, fun z => absurd z (by decide)⟩, rfl, ?_, ?_, ?_⟩
  · exact nI_pos (by omega)
  · intro c a b e f
    simp only [q_set, if_neg f]
  · rfl
  · intro i hi
    show va_cpy (σ 45) (upd (upd (upd (σ 46) 0 k) 1 a) 2 (nI r)) (r * 3) 3 3 i = _
    unfold vF
    rcases (show i = 0 ∨ i = 1 ∨ i = 2 ∨ i = 3 ∨ i = 4 ∨ i = 5 ∨ i = 6 ∨ i = 7 ∨ i = 8 by omega) with rfl | rfl | rfl | rfl | rfl | rfl | rfl | rfl | rfl
    · rw [pk_cpy_out (by omega)]; rfl
    · rw [pk_cpy_out (by omega)]; rfl
    · rw [pk_cpy_out (by omega)]; rfl
    · rw [pk_cpy_in (by omega) (by omega)]; exact hR _ (by omega)
    · rw [pk_cpy_in (by omega) (by omega)]; exact hR _ (by omega)
    · rw [pk_cpy_in (by omega) (by omega)]; exact hR _ (by omega)
    · rw [pk_cpy_out (by omega)]; exact hA.1
    · rw [pk_cpy_out (by omega)]; exact hA.2.1
    · rw [pk_cpy_out (by omega)]; exact hA.2.2
theorem vF_At {σ : QS} {R : Nat → Int32} {k a h o p : Int32} {r : Nat} (hv : ∀ i, i < 9 → σ 46 i = vF R k a r h o p i) : At σ h o p := ⟨hv 6 (by decide), hv 7 (by decide), hv 8 (by decide)⟩
theorem EV.change {d : Nat} {σ : QS} {r w : Nat} {b : Int32} (hr : r < 8) (hw : w < 3) : EV d 53 0 [some (.inr 44), some (.inl (nI r)), some (.inl (nI w)), some (.inl b), none] [] σ (qvs (q_set σ 45 (upd (σ 45) (r * 3 + w) (clp 0 99 (σ 45 (r * 3 + w) + b))))) := by
  have er : nI r * 3 + nI w = nI (r * 3 + w) := by rw [show nI r * 3 = nI (r * 3) from pk_mul r 3, nI_add]
  have cr : (nI (r * 3 + w)).toNatClampNeg = r * 3 + w := cl_nI (by omega)
  have ir : vp_in (nI (r * 3 + w)) 24 := vp_in_nI (by omega) (by decide)
  refine pE_change_0 ?_
  rw [er, cr]
  exact ⟨ir, ir, rfl, rfl⟩
/-- what an ACT makes of the ROOMS, what it is worth (-1: not done) -/
def pfR (A : Nat → (Nat → Int32) → Int32) (R : Nat → Int32) (k a : Int32) (r : Nat) (h o p : Int32) : Nat → Int32 := if A 0 (vF R k a r h o p) = 0 then upd (upd (upd R (r * 3) (clp 0 99 (R (r * 3) + A 1 (vF R k a r h o p)))) (r * 3 + 1) (clp 0 99 (R (r * 3 + 1) + A 2 (vF R k a r h o p)))) (r * 3 + 2) (clp 0 99 (R (r * 3 + 2) + A 3 (vF R k a r h o p))) else R
def pfW (A : Nat → (Nat → Int32) → Int32) (R : Nat → Int32) (k a : Int32) (r : Nat) (h o p : Int32) : Int32 := if A 0 (vF R k a r h o p) = 0 then A 4 (vF R k a r h o p) else -1
theorem Rm.upd {f R : Nat → Int32} (h : Rm f R) (i : Nat) (x : Int32) : Rm (upd f i x) (upd R i x) := fun j hj => by
  by_cases e : j = i
  · subst e; rw [upd_eq, upd_eq]
  · rw [upd_ne _ _ e, upd_ne _ _ e]; exact h j hj
theorem EV.perform {d : Nat} {σ : QS} {R : Nat → Int32} {i r : Nat} {h o p : Int32} (hL : LC σ 0) (hi : i < 60) (hr : r < 8) (er : σ 4 (i * 3 + 1) = nI r) (hR : Rm (σ 45) R) (hA : At σ h o p) : EV (d + 3) 52 0 [some (.inr 44), some (.inr 13), some (.inr 4), some (.inl (nI (i * 3))), none] [] σ (qI (fun x s => x = pfW (cA σ 0) R (σ 4 (i * 3)) (σ 4 (i * 3 + 2)) r h o p ∧ Fx σ s ∧ Rm (s 45) (pfR (cA σ 0) R (σ 4 (i * 3)) (σ 4 (i * 3 + 2)) r h o p) ∧ At s h o p)) := by
  have e1 : nI (i * 3) + 1 = nI (i * 3 + 1) := nI_add _ 1
  have e2 : nI (i * 3) + 2 = nI (i * 3 + 2) := nI_add _ 2
  have c0 : (nI (i * 3)).toNatClampNeg = i * 3 := cl_nI (by omega)
  have c1 : (nI (i * 3 + 1)).toNatClampNeg = i * 3 + 1 := cl_nI (by omega)
  have c2 : (nI (i * 3 + 2)).toNatClampNeg = i * 3 + 2 := cl_nI (by omega)
  refine pE_perform_0 ?_
  rw [e1, e2, c0, c1, c2, er]
  generalize hk : σ 4 (i * 3) = k
  generalize ha : σ 4 (i * 3 + 2) = a
  refine ⟨vp_in_nI (by omega) (by decide), vp_in_nI (by omega) (by decide), vp_in_nI (by omega) (by decide), ⟨_, EV.look hr hR hA, ?_⟩⟩
  rintro s2 ⟨f2, e45, hv⟩
  have L2 := f2.L
  refine ⟨_, EV.askX0 (c := 0) (LC_fr L2 hL) (by decide) hv, ?_⟩
  rw [cA_fr L2]
  rintro y5 s4 ⟨hy5, P4, rfl⟩
  generalize hV : vF R k a r h o p = v at *
  have f4 : Fx σ (q_set s2 21 P4) := f2.set (Or.inl rfl) P4
  refine ⟨fun q6 => ?_, fun q6 => ?_⟩
  · have q7 : cA σ 0 0 v = 0 := hy5.symm.trans q6
    refine ⟨_, EV.askX0 (c := 1) (v := v) (LC_fr f4.L hL) (by decide) (by rw [q_set_ne _ _ (by decide)]; exact hv), ?_⟩
    rw [cA_fr f4.L]
    rintro y9 s8 ⟨hy9, P8, rfl⟩
    refine ex_V (EV.change (w := 0) hr (by decide)) ?_
    rw [q_set_same, q_set_ne _ _ (show 45 ≠ 21 by decide), e45]
    generalize hs11 : q_set (q_set s2 21 P8) 45 _ = s11
    have f11 : Fx σ s11 := by rw [← hs11]; exact (f2.set (Or.inl rfl) P8).set (Or.inr (Or.inr (Or.inl rfl))) _
    have v11 : ∀ i, i < 9 → s11 46 i = v i := by rw [← hs11, q_set_ne _ _ (by decide), q_set_ne _ _ (by decide)]; exact hv
    have r11 : Rm (s11 45) (upd R (r * 3) (clp 0 99 (R (r * 3) + y9))) := by
      rw [← hs11, q_set_eq, hR _ (by omega)]
      exact hR.upd _ _
    refine ⟨_, EV.askX0 (c := 2) (v := v) (LC_fr f11.L hL) (by decide) v11, ?_⟩
    rw [cA_fr f11.L]
    rintro y14 s13 ⟨hy14, P13, rfl⟩
    refine ex_V (EV.change (w := 1) hr (by decide)) ?_
    rw [q_set_ne _ _ (show 45 ≠ 21 by decide)]
    generalize hs16 : q_set (q_set s11 21 P13) 45 _ = s16
    have f16 : Fx σ s16 := by rw [← hs16]; exact (f11.set (Or.inl rfl) P13).set (Or.inr (Or.inr (Or.inl rfl))) _
    have v16 : ∀ i, i < 9 → s16 46 i = v i := by rw [← hs16, q_set_ne _ _ (by decide), q_set_ne _ _ (by decide)]; exact v11
    have r16 : Rm (s16 45) (upd (upd R (r * 3) (clp 0 99 (R (r * 3) + y9))) (r * 3 + 1) (clp 0 99 (R (r * 3 + 1) + y14))) := by
      rw [← hs16, q_set_eq, r11 _ (by omega), upd_ne _ _ (by omega)]
      exact r11.upd _ _
    refine ⟨_, EV.askX0 (c := 3) (v := v) (LC_fr f16.L hL) (by decide) v16, ?_⟩
    rw [cA_fr f16.L]
    rintro y19 s18 ⟨hy19, P18, rfl⟩
    refine ex_V (EV.change (w := 2) hr (by decide)) ?_
    rw [q_set_ne _ _ (show 45 ≠ 21 by decide)]
    generalize hs21 : q_set (q_set s16 21 P18) 45 _ = s21
    have f21 : Fx σ s21 := by rw [← hs21]; exact (f16.set (Or.inl rfl) P18).set (Or.inr (Or.inr (Or.inl rfl))) _
    have v21 : ∀ i, i < 9 → s21 46 i = v i := by rw [← hs21, q_set_ne _ _ (by decide), q_set_ne _ _ (by decide)]; exact v16
    have r21 : Rm (s21 45) (upd (upd (upd R (r * 3) (clp 0 99 (R (r * 3) + y9))) (r * 3 + 1) (clp 0 99 (R (r * 3 + 1) + y14))) (r * 3 + 2) (clp 0 99 (R (r * 3 + 2) + y19))) := by
      rw [← hs21, q_set_eq, r16 _ (by omega), upd_ne _ _ (by omega), upd_ne _ _ (by omega)]
      exact r16.upd _ _
    refine ⟨_, EV.askX0 (c := 4) (v := v) (LC_fr f21.L hL) (by decide) v21, ?_⟩
    rw [cA_fr f21.L]
    rintro y24 s23 ⟨hy24, P23, rfl⟩
    have at21 : At s21 h o p := vF_At (R := R) (k := k) (a := a) (r := r) (by rw [hV]; exact v21)
    refine ⟨y24, rfl, ?_, f21.set (Or.inl rfl) P23, ?_, at21⟩
    · unfold pfW; rw [hV, if_pos q7]; exact hy24
    · unfold pfR
      rw [hV, if_pos q7, q_set_ne _ _ (by decide), ← hy9, ← hy14, ← hy19]
      exact r21
  · have q7 : ¬ cA σ 0 0 v = 0 := fun z => q6 (hy5.trans z)
    refine ⟨-1, rfl, ?_, f4, ?_, vF_At (R := R) (k := k) (a := a) (r := r) (by rw [hV]; exact hv)⟩
    · unfold pfW; rw [hV, if_neg q7]
    · unfold pfR
      rw [hV, if_neg q7, q_set_ne _ _ (by decide), e45]
      exact hR
/-- fines of the first n ROOMS -/
def fnS (A : Nat → (Nat → Int32) → Int32) (R : Nat → Int32) (h o p : Int32) : Nat → Int32
  | 0 => 0
  | r + 1 => fnS A R h o p r + A 5 (vF R 0 0 r h o p)
/-- the first n ROOMS cooled -/
def coR (A : Nat → (Nat → Int32) → Int32) (R : Nat → Int32) (h o p : Int32) : Nat → (Nat → Int32)
  | 0 => R
  | r + 1 => upd (coR A R h o p r) (r * 3 + 2) (clp 0 99 (coR A R h o p r (r * 3 + 2) - A 6 (vF (coR A R h o p r) 0 0 r h o p)))
theorem EV.fines0 {d : Nat} {σ : QS} {R : Nat → Int32} {h o p : Int32} (hL : LC σ 0) (hR : Rm (σ 45) R) (hA : At σ h o p) : EV (d + 3) 54 0 [some (.inr 44), some (.inr 13), none, none] [] σ (qI (fun x s => x = fnS (cA σ 0) R h o p 8 ∧ Fx σ s ∧ s 45 = σ 45 ∧ At s h o p)) := by
  refine pE_fines0_0 ?_
  have key := up_loop (P := fun j => ∀ s, Fx σ s → s 45 = σ 45 → At s h o p → EV (d + 3) 54 1 [some (.inr 44), some (.inr 13), some (.inl (fnS (cA σ 0) R h o p j)), some (.inl (nI j))] [] s (qI (fun x s => x = fnS (cA σ 0) R h o p 8 ∧ Fx σ s ∧ s 45 = σ 45 ∧ At s h o p))) (n := 8) ?_ ?_ 0 (by omega)
  · exact key σ Fx.rf rfl hA
  · intro s f1 f2 f3
    exact pE_fines0_1 ⟨fun _ => ⟨_, rfl, rfl, f1, f2, f3⟩, fun q => absurd (nI_le' (Nat.le_refl 8) (by omega)) q⟩
  · intro j hj ih s f1 f2 f3
    refine pE_fines0_1 ⟨fun q => absurd q (nI_nle' (a := 8) (by omega) (by omega)), fun _ => ⟨_, EV.look (R := R) hj (by rw [f2]; exact hR) f3, ?_⟩⟩
    rintro s3 ⟨g, e45, hv⟩
    have g3 := f1.tr g
    refine ⟨_, EV.askX0 (c := 5) (LC_fr g3.L hL) (by decide) hv, ?_⟩
    rw [cA_fr g3.L]
    rintro y6 s5 ⟨hy6, P5, rfl⟩
    rw [nI_p1, hy6]
    have := vF_At hv
    exact ih _ (g3.set (by decide) P5) (e45.trans f2) this
theorem EV.fines1 {d : Nat} {σ : QS} {R : Nat → Int32} {h o p : Int32} (hL : LC σ 1) (hR : Rm (σ 45) R) (hA : At σ h o p) : EV (d + 3) 54 0 [some (.inr 44), some (.inr 22), none, none] [] σ (qI (fun x s => x = fnS (cA σ 1) R h o p 8 ∧ Fx σ s ∧ s 45 = σ 45 ∧ At s h o p)) := by
  refine pE_fines1_0 ?_
  have key := up_loop (P := fun j => ∀ s, Fx σ s → s 45 = σ 45 → At s h o p → EV (d + 3) 54 1 [some (.inr 44), some (.inr 22), some (.inl (fnS (cA σ 1) R h o p j)), some (.inl (nI j))] [] s (qI (fun x s => x = fnS (cA σ 1) R h o p 8 ∧ Fx σ s ∧ s 45 = σ 45 ∧ At s h o p))) (n := 8) ?_ ?_ 0 (by omega)
  · exact key σ Fx.rf rfl hA
  · intro s f1 f2 f3
    exact pE_fines1_1 ⟨fun _ => ⟨_, rfl, rfl, f1, f2, f3⟩, fun q => absurd (nI_le' (Nat.le_refl 8) (by omega)) q⟩
  · intro j hj ih s f1 f2 f3
    refine pE_fines1_1 ⟨fun q => absurd q (nI_nle' (a := 8) (by omega) (by omega)), fun _ => ⟨_, EV.look (R := R) hj (by rw [f2]; exact hR) f3, ?_⟩⟩
    rintro s3 ⟨g, e45, hv⟩
    have g3 := f1.tr g
    refine ⟨_, EV.askX1 (c := 5) (LC_fr g3.L hL) (by decide) hv, ?_⟩
    rw [cA_fr g3.L]
    rintro y6 s5 ⟨hy6, P5, rfl⟩
    rw [nI_p1, hy6]
    have := vF_At hv
    exact ih _ (g3.set (by decide) P5) (e45.trans f2) this
theorem EV.cool {d : Nat} {σ : QS} {R : Nat → Int32} {h o p : Int32} (hL : LC σ 0) (hR : Rm (σ 45) R) (hA : At σ h o p) : EV (d + 3) 55 0 [some (.inr 44), some (.inr 13), none] [] σ (qV (fun s => Fx σ s ∧ Rm (s 45) (coR (cA σ 0) R h o p 8) ∧ At s h o p)) := by
  refine pE_cool_0 ?_
  have key := up_loop (P := fun j => ∀ s, Fx σ s → Rm (s 45) (coR (cA σ 0) R h o p j) → At s h o p → EV (d + 3) 55 1 [some (.inr 44), some (.inr 13), some (.inl (nI j))] [] s (qV (fun s => Fx σ s ∧ Rm (s 45) (coR (cA σ 0) R h o p 8) ∧ At s h o p))) (n := 8) ?_ ?_ 0 (by omega)
  · exact key σ Fx.rf hR hA
  · intro s f1 f2 f3
    exact pE_cool_1 ⟨fun _ => ⟨rfl, f1, f2, f3⟩, fun q => absurd (nI_le' (Nat.le_refl 8) (by omega)) q⟩
  · intro j hj ih s f1 f2 f3
    refine pE_cool_1 ⟨fun q => absurd q (nI_nle' (a := 8) (by omega) (by omega)), fun _ => ⟨_, EV.look hj f2 f3, ?_⟩⟩
    rintro s3 ⟨g, e45, hv⟩
    have g3 := f1.tr g
    refine ⟨_, EV.askX0 (c := 6) (LC_fr g3.L hL) (by decide) hv, ?_⟩
    rw [cA_fr g3.L]
    rintro y6 s5 ⟨hy6, P5, rfl⟩
    refine ex_V (EV.change (w := 2) hj (by decide)) ?_
    rw [nI_p1]
    refine ih _ ((g3.set (Or.inl rfl) P5).set (Or.inr (Or.inr (Or.inl rfl))) _) ?_ ?_
    · rw [q_set_eq, q_set_ne _ _ (show 45 ≠ 21 by decide), e45, coR, f2 _ (by omega), Int32.sub_eq_add_neg, ← hy6]
      exact f2.upd _ _
    · have := vF_At hv
      exact this
