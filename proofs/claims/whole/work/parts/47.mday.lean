def Fa (σ s : QS) : Prop := ∀ c, ¬ (93 ≤ c ∧ c ≤ 97) → c ≠ 103 → c ≠ 104 → s c = σ c
theorem Fa.i {σ s : QS} (h : Fa σ s) : Fi 93 105 σ s := fun c q => h c (by omega) (by omega) (by omega)
theorem Fa.L {σ s : QS} (h : Fa σ s) : FrL σ s := fun c q => h c (by omega) (by omega) (by omega)
set_option maxHeartbeats 1000000 in
theorem EV.actsAll {d : Nat} {σ : QS} {R a n : Nat → Int32} {h ow : Nat} {od : Nat → Nat} (hL : LW σ 0) (hh : h < 24) (how : ow < 12) (eow : σ 70 h = nI ow) (hc : iAc n (σ 75) a (σ 76) (σ 77) (σ 78)) (hod : ∀ i, i < nA n (σ 70 h) → od i < 5 ∧ σ 105 i = nI (od i)) (hR : Rn (σ 95) (σ 96) (σ 97) R) : EV (d + 4) 151 0 [some (.inr 69), some (.inl (nI h)), none, none, none, none] [] σ (qI (fun x s => x = acW (cA σ 0) a ow od R (nI h) (σ 70 h) (ah (σ 70) h) (nA n (σ 70 h)) ∧ Fa σ s ∧ Rn (s 95) (s 96) (s 97) (acR (cA σ 0) a ow od R (nI h) (σ 70 h) (ah (σ 70) h) (nA n (σ 70 h))) ∧ s 103 = upd (σ 103) h (acU (cA σ 0) a ow od R (nI h) (σ 70 h) (ah (σ 70) h) (nA n (σ 70 h))) ∧ s 104 = upd (σ 104) h (acF (cA σ 0) a ow od R (nI h) (σ 70 h) (ah (σ 70) h) (nA n (σ 70 h))))) := by
  have ch : (nI h).toNatClampNeg = h := cl_nI (by omega)
  have ih : vp_in (nI h) 24 := vp_in_nI hh (by decide)
  obtain ⟨N, hN, eN⟩ := hc.2.1 ow how
  have cow : (σ 70 h).toNatClampNeg = ow := by rw [eow]; exact cl_nI (by omega)
  have eN2 : nA n (σ 70 h) = N := by unfold nA; rw [cow, eN]; exact cl_nI (by omega)
  rw [eN2] at hod ⊢
  refine pM_actsAll_0 ?_
  rw [ch]
  refine ⟨ih, ih, ih, ?_⟩
  generalize hQ : (qI (fun x s => x = acW (cA σ 0) a ow od R (nI h) (σ 70 h) (ah (σ 70) h) N ∧ Fa σ s ∧ Rn (s 95) (s 96) (s 97) (acR (cA σ 0) a ow od R (nI h) (σ 70 h) (ah (σ 70) h) N) ∧ s 103 = upd (σ 103) h (acU (cA σ 0) a ow od R (nI h) (σ 70 h) (ah (σ 70) h) N) ∧ s 104 = upd (σ 104) h (acF (cA σ 0) a ow od R (nI h) (σ 70 h) (ah (σ 70) h) N))) = Q
  have key := up_loop (P := fun j => ∀ s w5, Fa σ s → Rn (s 95) (s 96) (s 97) (acR (cA σ 0) a ow od R (nI h) (σ 70 h) (ah (σ 70) h) j) → s 103 = upd (σ 103) h (acU (cA σ 0) a ow od R (nI h) (σ 70 h) (ah (σ 70) h) j) → s 104 = upd (σ 104) h (acF (cA σ 0) a ow od R (nI h) (σ 70 h) (ah (σ 70) h) j) → EV (d + 4) 151 1 [some (.inr 69), some (.inl (nI h)), some (.inl (σ 70 h)), some (.inl (acW (cA σ 0) a ow od R (nI h) (σ 70 h) (ah (σ 70) h) j)), some (.inl (nI j)), w5] [] s Q) (n := N) ?_ ?_ 0 (by omega)
  · refine key _ none (fun c h1 h2 h3 => by rw [q_set_ne _ _ h3, q_set_ne _ _ h2]) ?_ ?_ ?_
    · rw [q_set_ne _ _ (show 95 ≠ 104 by decide), q_set_ne _ _ (show 95 ≠ 103 by decide), q_set_ne _ _ (show 96 ≠ 104 by decide), q_set_ne _ _ (show 96 ≠ 103 by decide), q_set_ne _ _ (show 97 ≠ 104 by decide), q_set_ne _ _ (show 97 ≠ 103 by decide)]
      exact hR
    · rw [q_set_ne _ _ (by decide), q_set_eq]; rfl
    · rw [q_set_eq]; rfl
  · intro s w5 f1 f2 f3 f4
    refine pM_actsAll_1 ?_
    rw [cow, f1 75 (by decide) (by decide) (by decide), hc.1, eN, ← hQ]
    exact ⟨by rw [eow]; exact vp_in_nI how (by decide), fun _ => ⟨_, rfl, rfl, f1, f2, f3, f4⟩, fun q => absurd (nI_le' (Nat.le_refl N) (by omega)) q⟩
  · intro j hj ihh s w5 f1 f2 f3 f4
    have cj : (nI j).toNatClampNeg = j := cl_nI (by omega)
    have ij : vp_in (nI j) 5 := vp_in_nI (by omega) (by decide)
    obtain ⟨o1, o2⟩ := hod j hj
    have eq : 5 * nI ow + nI (od j) = nI (ow * 5 + od j) := by rw [show 5 * nI ow = nI (5 * ow) from pk_mul 5 ow, nI_add, Nat.mul_comm]
    refine pM_actsAll_1 ?_
    rw [cow, f1 75 (by decide) (by decide) (by decide), hc.1, eN, cj, f1 105 (by decide) (by decide) (by decide), o2, eow, eq, nI_p1, ch]
    refine ⟨vp_in_nI how (by decide), fun q => absurd q (nI_nle' (by omega) (by omega)), fun _ => ⟨ij, ⟨_, EV.acts (R := acR (cA σ 0) a ow od R (nI h) (σ 70 h) (ah (σ 70) h) j) (n := n) (a := a) (LW_fr f1.L hL) hh (by omega) (by rw [f1 75 (by decide) (by decide) (by decide), f1 76 (by decide) (by decide) (by decide), f1 77 (by decide) (by decide) (by decide), f1 78 (by decide) (by decide) (by decide)]; exact hc) f2, ?_⟩⟩⟩
    rw [f1 70 (by decide) (by decide) (by decide), cA_fr f1.L, ← eow]
    rintro y4 s3 ⟨hy, g1, g2⟩
    have g3 : Fa σ s3 := fun c a b e => (g1 c a).trans (f1 c a b e)
    have e103 : s3 103 = upd (σ 103) h _ := (g1 103 (by decide)).trans f3
    have e104 : s3 104 = upd (σ 104) h _ := (g1 104 (by decide)).trans f4
    rw [e103, e104, upd_eq, upd_same, upd_eq, upd_same, upd_same]
    refine ⟨fun q5 => ⟨ih, ih, ih, fun q6 => ⟨ih, ih, ?_⟩, fun q6 => ⟨ij, ih, ?_⟩⟩, fun q5 => ?_⟩
    · have := ihh (q_set (q_set s3 103 (upd (σ 103) h (acU (cA σ 0) a ow od R (nI h) (σ 70 h) (ah (σ 70) h) j + 1))) 104 (upd (σ 104) h (acF (cA σ 0) a ow od R (nI h) (σ 70 h) (ah (σ 70) h) j))) (some (.inl y4)) (fun c a b e => by rw [q_set_ne _ _ e, q_set_ne _ _ b]; exact g3 c a b e) g2 (by rw [q_set_ne _ _ (by decide), q_set_eq, acU, ← hy, if_pos q5]) (by rw [q_set_eq, acF, ← hy, if_neg (fun z => q6 z.2)])
      rw [acW, ← hy, if_pos q5] at this
      exact this
    · rw [g3 105 (by decide) (by decide) (by decide), o2]
      have := ihh (q_set (q_set s3 103 (upd (σ 103) h (acU (cA σ 0) a ow od R (nI h) (σ 70 h) (ah (σ 70) h) j + 1))) 104 (upd (σ 104) h (nI (od j)))) (some (.inl y4)) (fun c a b e => by rw [q_set_ne _ _ e, q_set_ne _ _ b]; exact g3 c a b e) g2 (by rw [q_set_ne _ _ (by decide), q_set_eq, acU, ← hy, if_pos q5]) (by rw [q_set_eq, acF, ← hy, if_pos ⟨q5, q6⟩])
      rw [acW, ← hy, if_pos q5] at this
      exact this
    · have := ihh s3 (some (.inl y4)) g3 g2 (by rw [e103, acU, ← hy, if_neg q5]) (by rw [e104, acF, ← hy, if_neg (fun z => q5 z.1)])
      rw [acW, ← hy, if_neg q5] at this
      exact this
def Mf (S D T : Nat → Int32) (A : Nat → (Nat → Int32) → Int32) (a n f R : Nat → Int32) (H : Nat) : Prop := ∀ h, h < H → ∀ r, r < 8 → S (8 * h + r) = dR A a n f R h (r * 3) ∧ D (8 * h + r) = dR A a n f R h (r * 3 + 1) ∧ T (8 * h + r) = dR A a n f R h (r * 3 + 2)
def Mr (W N U X : Nat → Int32) (A B : Nat → (Nat → Int32) → Int32) (a n f R : Nat → Int32) (H : Nat) : Prop := ∀ h, h < H → W h = uW A a n f h (dR A a n f R h) ∧ N h = uF A B a n f h (dR A a n f R h) ∧ U h = uU A a n f h (dR A a n f R h) ∧ X h = uO A a n f h (dR A a n f R h)
/-- what a run of the reference leaves -/
def Mday (s : QS) (A B : Nat → (Nat → Int32) → Int32) (a n f R : Nat → Int32) : Prop := Mf (s 98) (s 99) (s 100) A a n f R 25 ∧ Mr (s 101) (s 102) (s 103) (s 104) A B a n f R 24 ∧ ∀ i, i < 5 → s 105 i = nI i
set_option maxHeartbeats 2000000 in
theorem EV.runs {d : Nat} {σ : QS} {R a n : Nat → Int32} {w : Nat} (hL : LW σ 0) (hLw : LW σ w) (hw : w < 2) (hf : ∀ h, h < 24 → ∃ o, o ≤ 12 ∧ σ 70 h = nI o) (hc : iAc n (σ 75) a (σ 76) (σ 77) (σ 78)) (hR : Rn (σ 72) (σ 73) (σ 74) R) : EV (d + 5) 155 0 [some (.inr 69), some (.inl (nI w)), none, none] [] σ (qV (fun s => Fi 93 105 σ s ∧ Mday s (cA σ 0) (cA σ w) a n (σ 70) R)) := by
  generalize hQ : (qV (fun s => Fi 93 105 σ s ∧ Mday s (cA σ 0) (cA σ w) a n (σ 70) R)) = Q
  have k7 := up_loop (P := fun j => ∀ s w3, Fi 93 105 σ s → (∀ i, i < 5 → s 105 i = nI i) → Rn (s 95) (s 96) (s 97) (dR (cA σ 0) a n (σ 70) R j) → Mf (s 98) (s 99) (s 100) (cA σ 0) a n (σ 70) R j → Mr (s 101) (s 102) (s 103) (s 104) (cA σ 0) (cA σ w) a n (σ 70) R j → EV (d + 5) 155 7 [some (.inr 69), some (.inl (nI w)), some (.inl (nI j)), w3] [] s Q) (n := 24) ?_ ?_ 0 (by omega)
  · have k4 := up_loop (P := fun j => ∀ s w3, Fi 93 105 σ s → (∀ i, i < j → s 105 i = nI i) → Rn (s 95) (s 96) (s 97) R → EV (d + 5) 155 4 [some (.inr 69), some (.inl (nI w)), some (.inl (nI j)), w3] [] s Q) (n := 5) ?_ ?_ 0 (by omega)
    · have k1 := up_loop (P := fun j => ∀ s w3, Fi 93 105 σ s → (∀ r, r < j → s 95 r = σ 72 r ∧ s 96 r = σ 73 r ∧ s 97 r = σ 74 r) → EV (d + 5) 155 1 [some (.inr 69), some (.inl (nI w)), some (.inl (nI j)), w3] [] s Q) (n := 8) ?_ ?_ 0 (by omega)
      · exact pM_runs_0 (k1 σ none Fi.rf (fun r hr => absurd hr (by omega)))
      · intro s w3 f1 f2
        refine pM_runs_1 ⟨fun _ => k4 s w3 f1 (fun i hi => absurd hi (by omega)) (fun r hr => ?_), fun q => absurd (nI_le' (Nat.le_refl 8) (by omega)) q⟩
        rw [(f2 r hr).1, (f2 r hr).2.1, (f2 r hr).2.2]
        exact hR r hr
      · intro j hj ih s w3 f1 f2
        have cj : (nI j).toNatClampNeg = j := cl_nI (by omega)
        have ij : vp_in (nI j) 8 := vp_in_nI hj (by decide)
        refine pM_runs_1 ?_
        rw [cj, nI_p1]
        refine ⟨fun q => absurd q (nI_nle' (a := 8) (by omega) (by omega)), fun _ => ⟨ij, ij, ij, ij, ij, ij, ih _ w3 (((f1.set (by decide) _).set (by decide) _).set (by decide) _) (fun r hr => ?_)⟩⟩
        rw [q_set_eq, q_set_ne _ _ (show 95 ≠ 97 by decide), q_set_ne _ _ (show 95 ≠ 96 by decide), q_set_eq, q_set_ne _ _ (show 96 ≠ 97 by decide), q_set_eq]
        by_cases e : r = j
        · subst e
          rw [upd_eq, upd_eq, upd_eq, f1 72 (by decide), f1 73 (by decide), f1 74 (by decide)]
          exact ⟨rfl, rfl, rfl⟩
        · rw [upd_ne _ _ e, upd_ne _ _ e, upd_ne _ _ e]
          exact f2 r (by omega)
    · intro s w3 f1 f2 f3
      exact pM_runs_4 ⟨fun _ => k7 s w3 f1 f2 f3 (fun h hh => absurd hh (by omega)) (fun h hh => absurd hh (by omega)), fun q => absurd (nI_le' (Nat.le_refl 5) (by omega)) q⟩
    · intro j hj ih s w3 f1 f2 f3
      have cj : (nI j).toNatClampNeg = j := cl_nI (by omega)
      refine pM_runs_4 ?_
      rw [cj, nI_p1]
      refine ⟨fun q => absurd q (nI_nle' (a := 5) (by omega) (by omega)), fun _ => ⟨vp_in_nI hj (by decide), ih _ w3 (f1.set (by decide) _) (fun i hi => ?_) f3⟩⟩
      rw [q_set_eq]
      by_cases e : i = j
      · subst e; rw [upd_eq]
      · rw [upd_ne _ _ e]; exact f2 i (by omega)
  · intro s w3 f1 f2 f3 f4 f5
    refine pM_runs_7 ⟨fun _ => ⟨_, EV.finds (h := 24) (Nat.le_refl _), ?_⟩, fun q => absurd (nI_le' (Nat.le_refl 24) (by omega)) q⟩
    rintro s3 ⟨g1, g2, g3⟩
    rw [← hQ]
    refine ⟨rfl, f1.tr (g1.wk (by decide) (by decide)), fun h hh r hr => ?_, ?_, ?_⟩
    · by_cases e : h = 24
      · subst e
        rw [(g2 r hr).1, (g2 r hr).2.1, (g2 r hr).2.2]
        exact f3 r hr
      · obtain ⟨t1, t2, t3⟩ := g3 (8 * h + r) (by omega)
        rw [t1, t2, t3]
        exact f4 h (by omega) r hr
    · rw [g1 101 (by decide), g1 102 (by decide), g1 103 (by decide), g1 104 (by decide)]
      exact f5
    · rw [g1 105 (by decide)]
      exact f2
  · intro j hj ih s w3 f1 f2 f3 f4 f5
    have cj : (nI j).toNatClampNeg = j := cl_nI (by omega)
    have ij : vp_in (nI j) 24 := vp_in_nI hj (by decide)
    refine pM_runs_7 ?_
    rw [cj, nI_p1]
    refine ⟨fun q => absurd q (nI_nle' (a := 24) (by omega) (by omega)), fun _ => ⟨_, EV.finds (h := j) (by omega), ?_⟩⟩
    rintro s5 ⟨g1, g2, g3⟩
    have h5 : Fi 93 105 σ s5 := f1.tr (g1.wk (by decide) (by decide))
    rw [h5 70 (by decide), g1 101 (by decide), g1 102 (by decide), g1 103 (by decide), g1 104 (by decide)]
    have mf5 : Mf (s5 98) (s5 99) (s5 100) (cA σ 0) a n (σ 70) R (j + 1) := by
      intro h hh r hr
      by_cases e : h = j
      · subst e
        rw [(g2 r hr).1, (g2 r hr).2.1, (g2 r hr).2.2]
        exact f3 r hr
      · obtain ⟨t1, t2, t3⟩ := g3 (8 * h + r) (by omega)
        rw [t1, t2, t3]
        exact f4 h (by omega) r hr
    generalize ht : q_set (q_set (q_set (q_set s5 101 (upd (s 101) j 0)) 102 (upd (s 102) j 0)) 103 (upd (s 103) j 0)) 104 (upd (s 104) j (-1)) = t
    have ft : Fi 93 105 σ t := by rw [← ht]; exact (((h5.set (by decide) _).set (by decide) _).set (by decide) _).set (by decide) _
    have gt : ∀ c, c ≠ 101 → c ≠ 102 → c ≠ 103 → c ≠ 104 → t c = s5 c := fun c a b e f => by rw [← ht, q_set_ne _ _ f, q_set_ne _ _ e, q_set_ne _ _ b, q_set_ne _ _ a]
    have t101 : t 101 = upd (s 101) j 0 := by rw [← ht, q_set_ne _ _ (by decide), q_set_ne _ _ (by decide), q_set_ne _ _ (by decide), q_set_eq]
    have t102 : t 102 = upd (s 102) j 0 := by rw [← ht, q_set_ne _ _ (by decide), q_set_ne _ _ (by decide), q_set_eq]
    have t103 : t 103 = upd (s 103) j 0 := by rw [← ht, q_set_ne _ _ (by decide), q_set_eq]
    have t104 : t 104 = upd (s 104) j (-1) := by rw [← ht, q_set_eq]
    clear ht
    have rt : Rn (t 95) (t 96) (t 97) (dR (cA σ 0) a n (σ 70) R j) := by
      rw [gt 95 (by decide) (by decide) (by decide) (by decide), gt 96 (by decide) (by decide) (by decide) (by decide), gt 97 (by decide) (by decide) (by decide) (by decide), g1 95 (by decide), g1 96 (by decide), g1 97 (by decide)]
      exact f3
    have tF : Mf (t 98) (t 99) (t 100) (cA σ 0) a n (σ 70) R (j + 1) := by
      rw [gt 98 (by decide) (by decide) (by decide) (by decide), gt 99 (by decide) (by decide) (by decide) (by decide), gt 100 (by decide) (by decide) (by decide) (by decide)]
      exact mf5
    have tO : ∀ i, i < 5 → t 105 i = nI i := by
      rw [gt 105 (by decide) (by decide) (by decide) (by decide), g1 105 (by decide)]
      exact f2
    have mr : ∀ W N U X : Int32, uW (cA σ 0) a n (σ 70) j (dR (cA σ 0) a n (σ 70) R j) = W → uF (cA σ 0) (cA σ w) a n (σ 70) j (dR (cA σ 0) a n (σ 70) R j) = N → uU (cA σ 0) a n (σ 70) j (dR (cA σ 0) a n (σ 70) R j) = U → uO (cA σ 0) a n (σ 70) j (dR (cA σ 0) a n (σ 70) R j) = X → Mr (upd (s 101) j W) (upd (s 102) j N) (upd (s 103) j U) (upd (s 104) j X) (cA σ 0) (cA σ w) a n (σ 70) R (j + 1) := by
      intro W N U X e1 e2 e3 e4 h hh
      by_cases e : h = j
      · subst e
        rw [upd_eq, upd_eq, upd_eq, upd_eq]
        exact ⟨e1.symm, e2.symm, e3.symm, e4.symm⟩
      · rw [upd_ne _ _ e, upd_ne _ _ e, upd_ne _ _ e, upd_ne _ _ e]
        exact f5 h (by omega)
    refine ⟨ij, fun q6 => ⟨ij, ij, ij, ij, ⟨_, EV.coolM (LW_fr (ft.L (by decide)) hL) hj rt, ?_⟩⟩, fun q6 => ⟨ij, ij, ij, ij, ?_⟩⟩
    · rw [ft 70 (by decide), cA_fr (ft.L (by decide))]
      rintro s8 ⟨m1, m2⟩
      refine ih s8 _ (ft.tr (m1.wk (by decide) (by decide))) ?_ ?_ ?_ ?_
      · rw [m1 105 (by decide)]; exact tO
      · rw [dR]; unfold uR uA; rw [if_pos q6]; exact m2
      · rw [m1 98 (by decide), m1 99 (by decide), m1 100 (by decide)]; exact tF
      · rw [m1 101 (by decide), m1 102 (by decide), m1 103 (by decide), m1 104 (by decide), t101, t102, t103, t104]
        exact mr 0 0 0 (-1) (by unfold uW; rw [if_pos q6]) (by unfold uF; rw [if_pos q6]) (by unfold uU; rw [if_pos q6]) (by unfold uO; rw [if_pos q6])
    · obtain ⟨ow, how, eow⟩ := hf j hj
      have how2 : ow < 12 := by
        rcases Nat.lt_or_ge ow 12 with z | z
        · exact z
        · exact absurd (by rw [eow, show ow = 12 by omega]; rfl) q6
      have cow : (σ 70 j).toNatClampNeg = ow := by rw [eow]; exact cl_nI (by omega)
      have hN5 : nA n (σ 70 j) ≤ 5 := by
        obtain ⟨N, hN, eN⟩ := hc.2.1 ow how2
        unfold nA; rw [cow, eN, cl_nI (by omega)]; exact hN
      refine ⟨_, EV.actsAll (a := a) (n := n) (od := fun i => i) (ow := ow) (LW_fr (ft.L (by decide)) hL) hj how2 (by rw [ft 70 (by decide)]; exact eow) (by rw [ft 75 (by decide), ft 76 (by decide), ft 77 (by decide), ft 78 (by decide)]; exact hc) (fun i hi => by rw [ft 70 (by decide)] at hi; exact ⟨by omega, tO i (by omega)⟩) rt, ?_⟩
      rw [ft 70 (by decide), cA_fr (ft.L (by decide))]
      rintro y11 s10 ⟨hy, m1, m2, m3, m4⟩
      refine ⟨ij, ?_⟩
      rw [m1 101 (by decide) (by decide) (by decide), t101, upd_same]
      generalize hu : q_set s10 101 (upd (s 101) j y11) = u
      have fu : Fi 93 105 σ u := by rw [← hu]; exact (ft.tr m1.i).set (by decide) _
      have gu : ∀ c, c ≠ 101 → u c = s10 c := fun c a => by rw [← hu, q_set_ne _ _ a]
      have u101 : u 101 = upd (s 101) j y11 := by rw [← hu, q_set_eq]
      clear hu
      refine ⟨_, EV.finesM (w := w) (R := acR (cA σ 0) a ow (fun i => i) (dR (cA σ 0) a n (σ 70) R j) (nI j) (σ 70 j) (ah (σ 70) j) (nA n (σ 70 j))) (LW_fr (fu.L (by decide)) hLw) hw hj (by rw [gu 95 (by decide), gu 96 (by decide), gu 97 (by decide)]; exact m2), ?_⟩
      rw [fu 70 (by decide), cA_fr (fu.L (by decide))]
      rintro y14 s13 ⟨hz, p1⟩
      refine ⟨ij, ?_⟩
      rw [p1 102 (by decide), gu 102 (by decide), m1 102 (by decide) (by decide) (by decide), t102, upd_same]
      generalize hv : q_set s13 102 (upd (s 102) j y14) = v
      have fv : Fi 93 105 σ v := by rw [← hv]; exact (fu.tr (p1.wk (by decide) (by decide))).set (by decide) _
      have gv : ∀ c, c ≠ 102 → v c = s13 c := fun c a => by rw [← hv, q_set_ne _ _ a]
      have v102 : v 102 = upd (s 102) j y14 := by rw [← hv, q_set_eq]
      clear hv
      have eA : uA (cA σ 0) a n (σ 70) j (dR (cA σ 0) a n (σ 70) R j) = acR (cA σ 0) a ow (fun i => i) (dR (cA σ 0) a n (σ 70) R j) (nI j) (σ 70 j) (ah (σ 70) j) (nA n (σ 70 j)) := by unfold uA; rw [if_neg q6, cow]
      refine ⟨_, EV.coolM (R := acR (cA σ 0) a ow (fun i => i) (dR (cA σ 0) a n (σ 70) R j) (nI j) (σ 70 j) (ah (σ 70) j) (nA n (σ 70 j))) (LW_fr (fv.L (by decide)) hL) hj (by rw [gv 95 (by decide), gv 96 (by decide), gv 97 (by decide), p1 95 (by decide), p1 96 (by decide), p1 97 (by decide), gu 95 (by decide), gu 96 (by decide), gu 97 (by decide)]; exact m2), ?_⟩
      rw [fv 70 (by decide), cA_fr (fv.L (by decide))]
      rintro s16 ⟨r1, r2⟩
      have all : ∀ c, ¬ (93 ≤ c ∧ c ≤ 97) → c ≠ 101 → c ≠ 102 → c ≠ 103 → c ≠ 104 → s16 c = t c := fun c a b e f g => by
        rw [r1 c a, gv c e, p1 c (by omega), gu c b, m1 c a f g]
      refine ih s16 _ (fv.tr (r1.wk (by decide) (by decide))) ?_ ?_ ?_ ?_
      · rw [all 105 (by decide) (by decide) (by decide) (by decide) (by decide)]; exact tO
      · rw [dR]; unfold uR; rw [eA]; exact r2
      · rw [all 98 (by decide) (by decide) (by decide) (by decide) (by decide), all 99 (by decide) (by decide) (by decide) (by decide) (by decide), all 100 (by decide) (by decide) (by decide) (by decide) (by decide)]; exact tF
      · rw [r1 101 (by decide), gv 101 (by decide), p1 101 (by decide), u101, r1 102 (by decide), v102, r1 103 (by decide), gv 103 (by decide), p1 103 (by decide), gu 103 (by decide), m3, r1 104 (by decide), gv 104 (by decide), p1 104 (by decide), gu 104 (by decide), m4, t103, t104, upd_same, upd_same]
        refine mr _ _ _ _ ?_ ?_ ?_ ?_
        · unfold uW; rw [if_neg q6, cow]; exact hy.symm
        · unfold uF; rw [if_neg q6, eA]; exact hz.symm
        · unfold uU; rw [if_neg q6, cow]
        · unfold uO; rw [if_neg q6, cow]
def w3r (σ : QS) (w : Nat) : Nat → Int32 := if w = 0 then σ 101 else if w = 1 then σ 102 else fun _ => 1
theorem EV.sumOf {d : Nat} {σ : QS} {o : Int32} {w : Nat} (hw : w < 3) : EV d 158 0 [some (.inr 69), some (.inl o), some (.inl (nI w)), none, none] [] σ (qis (smO (σ 70) (w3r σ w) o 24) σ) := by
  refine pM_sumOf_0 ?_
  have key := up_loop (P := fun j => EV d 158 1 [some (.inr 69), some (.inl o), some (.inl (nI w)), some (.inl (smO (σ 70) (w3r σ w) o j)), some (.inl (nI j))] [] σ (qis (smO (σ 70) (w3r σ w) o 24) σ)) (n := 24) ?_ ?_ 0 (by omega)
  · exact key
  · exact pM_sumOf_1 ⟨fun _ => ⟨rfl, rfl⟩, fun q => absurd (nI_le' (Nat.le_refl 24) (by omega)) q⟩
  · intro j hj ih
    refine pM_sumOf_1 ?_
    rw [cl_nI (by omega), nI_p1]
    refine ⟨fun q => absurd q (nI_nle' (a := 24) (by omega) (by omega)), fun _ => ⟨vp_in_nI hj (by decide), fun q => ?_, fun q => ?_⟩⟩
    · rw [smO, if_neg q] at ih; exact ih
    · rw [smO, if_pos q] at ih
      rcases (show w = 0 ∨ w = 1 ∨ w = 2 by omega) with rfl | rfl | rfl
      · exact ⟨fun z => absurd rfl z, fun _ => ⟨vp_in_nI hj (by decide), ih⟩⟩
      · exact ⟨fun _ => ⟨fun z => absurd rfl z, fun _ => ⟨vp_in_nI hj (by decide), ih⟩⟩, fun z => absurd z (by decide)⟩
      · exact ⟨fun _ => ⟨fun _ => ih, fun z => absurd z (by decide)⟩, fun z => absurd z (by decide)⟩
