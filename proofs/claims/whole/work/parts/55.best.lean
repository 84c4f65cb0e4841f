/-! BEST ORDER -/
theorem clp_r {H : Nat} (hH : H < 2 ^ 31) (x : Int32) : ∃ j, j ≤ H ∧ clp 0 (nI H) x = nI j := by
  unfold clp
  by_cases h : x < nI H
  · rw [if_pos h]
    by_cases h0 : 0 < x
    · rw [if_pos h0]
      obtain ⟨j, hj, rfl⟩ := nI_of (x := x) (fun z => by rw [i_lt] at z h0; omega)
      exact ⟨j, by have := (nI_ltI hj hH).mp h; omega, rfl⟩
    · rw [if_neg h0]; exact ⟨0, by omega, rfl⟩
  · rw [if_neg h]
    by_cases h0 : 0 < nI H
    · rw [if_pos h0]; exact ⟨H, Nat.le_refl _, rfl⟩
    · rw [if_neg h0]; exact ⟨0, by omega, rfl⟩
theorem akC_r {T E : Nat → Int32} {H : Nat} (hH : H < 2 ^ 31) : ∀ m k, ∃ j, j ≤ H ∧ akC T E 0 (nI H) m k = nI j
  | 0, _ => ⟨0, by omega, rfl⟩
  | m + 1, k => by
    rw [akC]
    by_cases h : T k = 0
    · rw [if_pos h]; exact akC_r hH m (k + 1)
    · rw [if_neg h]; exact clp_r hH _
theorem cA_r (σ : QS) (w c : Nat) (hc : c = 4 ∨ c = 5) (v : Nat → Int32) : ∃ j, j ≤ 999 ∧ cA σ w c v = nI j := by
  have e1 : q_ro 118 c = 0 := by rcases hc with rfl | rfl <;> rfl
  have e2 : q_ro 119 c = nI 999 := by rcases hc with rfl | rfl <;> rfl
  unfold cA askC
  rw [e1, e2]
  split
  · exact akC_r (by decide) _ _
  · exact akC_r (by decide) _ _
theorem fnS_r (σ : QS) (w : Nat) (R : Nat → Int32) (h o p : Int32) : ∀ n, n ≤ 8 → ∃ j, j ≤ 999 * n ∧ fnS (cA σ w) R h o p n = nI j
  | 0, _ => ⟨0, by omega, rfl⟩
  | n + 1, hn => by
    obtain ⟨j, hj, e⟩ := fnS_r σ w R h o p n (by omega)
    obtain ⟨k, hk, e2⟩ := cA_r σ w 5 (Or.inr rfl) (vF R 0 0 n h o p)
    exact ⟨j + k, by omega, by rw [fnS, e, e2, nI_add]⟩
theorem oneW_r (σ : QS) (a R : Nat → Int32) (q : Nat) (h o p : Int32) : oneW (cA σ 0) a R q h o p = -1 ∨ ∃ j, j ≤ 999 ∧ oneW (cA σ 0) a R q h o p = nI j := by
  unfold oneW pfW
  split
  · exact Or.inr (cA_r σ 0 4 (Or.inl rfl) _)
  · exact Or.inl rfl
theorem acW_r (σ : QS) (a R : Nat → Int32) (b : Nat) (od : Nat → Nat) (h o p : Int32) : ∀ n, n ≤ 5 → ∃ j, j ≤ 999 * n ∧ acW (cA σ 0) a b od R h o p n = nI j
  | 0, _ => ⟨0, by omega, rfl⟩
  | n + 1, hn => by
    obtain ⟨j, hj, e⟩ := acW_r σ a R b od h o p n (by omega)
    rw [acW]
    rcases oneW_r σ a (acR (cA σ 0) a b od R h o p n) (b * 5 + od n) h o p with q | ⟨k, hk, q⟩
    · rw [if_pos q]; exact ⟨j, by omega, e⟩
    · rw [if_neg (by rw [q]; exact nI_nem (by omega)), e, q]
      exact ⟨j + k, by omega, nI_add _ _⟩
def oV (A : Nat → (Nat → Int32) → Int32) (a : Nat → Int32) (b : Nat) (R : Nat → Int32) (h o p : Int32) (n : Nat) (od : Nat → Nat) : Int32 := acW A a b od R h o p n - fnS A (acR A a b od R h o p n) h o p 8
theorem oV_b (σ : QS) (a R : Nat → Int32) (b : Nat) (od : Nat → Nat) (h o p : Int32) {n : Nat} (hn : n ≤ 5) : -1000000000 < oV (cA σ 0) a b R h o p n od := by
  unfold oV
  obtain ⟨j, hj, e⟩ := acW_r σ a R b od h o p n hn
  obtain ⟨k, hk, e2⟩ := fnS_r σ 0 (acR (cA σ 0) a b od R h o p n) h o p 8 (by omega)
  rw [e, e2, i_lt, pk_sub_toInt (by omega) (by omega), show (-1000000000 : Int32).toInt = -1000000000 from by decide]
  omega
def bsT (V : Nat → Int32) : Nat → Int32 × Nat
  | 0 => (V 0, 0)
  | t + 1 => if V (t + 1) ≤ (bsT V t).1 then bsT V t else (V (t + 1), t + 1)
theorem bsT_lt (V : Nat → Int32) : ∀ t, (bsT V t).2 ≤ t
  | 0 => Nat.le_refl _
  | t + 1 => by
    have := bsT_lt V t
    rw [bsT]
    split <;> omega
set_option maxHeartbeats 1000000 in
theorem EV.tryX {d : Nat} {σ s : QS} {h ow N : Nat} {od : Nat → Nat} (hI : XI σ) (hn : Dn σ s) (hh : h < 24) (how : ow < 12) (eow : σ 2 h = nI ow) (hN : N ≤ 5) (hod : ∀ i, i < N → od i < 5 ∧ s 63 i = nI (od i)) : EV (d + 4) 32 0 [some (.inr 62), some (.inl (nI h)), some (.inl (nI N)), some (.inr 47), none, none, none] [] s (qI (fun y u => y = oV (cA σ 0) (σ 4) ow (dR (cA σ 0) (σ 4) (σ 5) (σ 2) (σ 3) h) (nI h) (σ 2 h) (ah (σ 2) h) N od ∧ Fx s u)) := by
  have ch : (nI h).toNatClampNeg = h := cl_nI (by omega)
  have ih : vp_in (nI h) 24 := vp_in_nI hh (by decide)
  have D := hn.day
  refine pO_try_0 ⟨_, EV.enterD hh (fun i hi => D.2.1.1 h (by omega) i hi), ?_⟩
  rintro s2 ⟨f2, r2, a2⟩
  have e1 : s 48 h = σ 2 h := D.1 h hh
  have e2 : ah (s 48) h = ah (σ 2) h := D.1 _ (by omega)
  rw [e1, e2] at a2
  generalize hR : dR (cA σ 0) (σ 4) (σ 5) (σ 2) (σ 3) h = R at *
  unfold oV
  have lp := up_loop (P := fun j => ∀ u w6, Fx s u → Rm (u 45) (acR (cA σ 0) (σ 4) ow od R (nI h) (σ 2 h) (ah (σ 2) h) j) → At u (nI h) (σ 2 h) (ah (σ 2) h) → EV (d + 4) 32 2 [some (.inr 62), some (.inl (nI h)), some (.inl (nI N)), some (.inr 47), some (.inl (acW (cA σ 0) (σ 4) ow od R (nI h) (σ 2 h) (ah (σ 2) h) j)), some (.inl (nI j)), w6] [] u (qI (fun y u => y = acW (cA σ 0) (σ 4) ow od R (nI h) (σ 2 h) (ah (σ 2) h) N - fnS (cA σ 0) (acR (cA σ 0) (σ 4) ow od R (nI h) (σ 2 h) (ah (σ 2) h) N) (nI h) (σ 2 h) (ah (σ 2) h) 8 ∧ Fx s u))) (n := N) ?_ ?_ 0 (by omega)
  · exact lp s2 none f2 r2 a2
  · intro u w6 f1 r1 a1
    have fl : FrL σ u := fun c hc => (f1.L c hc).trans (hn.1.L c hc)
    refine pO_try_2 ⟨fun _ => ⟨_, EV.fines0 (LC_fr fl hI.1) r1 a1, ?_⟩, fun q => absurd (nI_le' (Nat.le_refl N) (by omega)) q⟩
    rintro y v ⟨hy, g1, -, -⟩
    rw [cA_fr fl] at hy
    exact ⟨_, rfl, by rw [hy], f1.tr g1⟩
  · intro j hj ihh u w6 f1 r1 a1
    have fl : FrL σ u := fun c hc => (f1.L c hc).trans (hn.1.L c hc)
    have cj : (nI j).toNatClampNeg = j := cl_nI (by omega)
    obtain ⟨o1, o2⟩ := hod j hj
    have u4 : u 4 = σ 4 := by rw [f1 4 (by decide) (by decide) (by decide) (by decide), hn.1 4 (by decide)]
    obtain ⟨r, hr, er⟩ := hI.2.1.2.2 (ow * 5 + od j) (by omega)
    have eq : (nI ow * 5 + nI (od j)) * 3 = nI ((ow * 5 + od j) * 3) := by rw [show nI ow * 5 = nI (ow * 5) from pk_mul ow 5, nI_add]; exact pk_mul _ 3
    refine pO_try_2 ?_
    rw [ch, cj, f1 48 (by decide) (by decide) (by decide) (by decide), e1, f1 63 (by decide) (by decide) (by decide) (by decide), o2, eow, eq, nI_p1]
    refine ⟨fun q => absurd q (nI_nle' (by omega) (by omega)), fun _ => ⟨ih, vp_in_nI (by omega) (by decide), _, EV.perform (R := acR (cA σ 0) (σ 4) ow od R (nI h) (σ 2 h) (ah (σ 2) h) j) (r := r) (LC_fr fl hI.1) (show ow * 5 + od j < 60 by omega) hr (by rw [u4]; exact er) r1 a1, ?_⟩⟩
    rw [u4, cA_fr fl]
    rintro y v ⟨hy, g1, g2, g3⟩
    have ew : y = oneW (cA σ 0) (σ 4) (acR (cA σ 0) (σ 4) ow od R (nI h) (σ 2 h) (ah (σ 2) h) j) (ow * 5 + od j) (nI h) (σ 2 h) (ah (σ 2) h) := by
      unfold oneW; rw [er, cl_nI (by omega)]; exact hy
    have es : acW (cA σ 0) (σ 4) ow od R (nI h) (σ 2 h) (ah (σ 2) h) (j + 1) = acW (cA σ 0) (σ 4) ow od R (nI h) (σ 2 h) (ah (σ 2) h) j + (if 0 < y then y else 0) := by
      rw [acW, ← ew]
      rcases oneW_r σ (σ 4) (acR (cA σ 0) (σ 4) ow od R (nI h) (σ 2 h) (ah (σ 2) h) j) (ow * 5 + od j) (nI h) (σ 2 h) (ah (σ 2) h) with q | ⟨k, hk, q⟩
      · rw [← ew] at q
        rw [if_pos q, q, if_neg (by decide), Int32.add_zero]
      · rw [← ew] at q
        rw [if_neg (by rw [q]; exact nI_nem (by omega))]
        by_cases z : 0 < y
        · rw [if_pos z]
        · rw [if_neg z, q]
          have : k = 0 := by
            rcases Nat.eq_zero_or_pos k with w | w
            · exact w
            · exact absurd (by rw [q]; exact (nI_ltI (a := 0) (by decide) (by omega)).mpr w) z
          subst this
          rfl
    rw [← eow, ← es]
    refine ihh v (some (.inl y)) (f1.tr g1) ?_ g3
    rw [acR]
    unfold oneR
    rw [er, cl_nI (by omega)]
    exact g2
def Ky2 (s u : QS) : Prop := ∀ c, c ≠ 21 → c ≠ 30 → c ≠ 45 → c ≠ 46 → c ≠ 62 → c ≠ 63 → c ≠ 64 → u c = s c
theorem Ky2.k {s u : QS} (h : Ky2 s u) : Ky s u := ⟨fun c hc => h c (by omega) (by omega) (by omega) (by omega) (by omega) (by omega) (by omega), h 0 (by decide) (by decide) (by decide) (by decide) (by decide) (by decide) (by decide), fun c hc => h c (by omega) (by omega) (by omega) (by omega) (by omega) (by omega) (by omega), h 61 (by decide) (by decide) (by decide) (by decide) (by decide) (by decide) (by decide)⟩
set_option maxHeartbeats 1000000 in
theorem EV.ordX {d : Nat} {σ s : QS} {h ow N : Nat} {V : Nat → Int32} (hI : XI σ) (hn : Dn σ s) (hh : h < 24) (how : ow < 12) (eow : σ 2 h = nI ow) (hN : N ≤ 5) (eN : σ 5 ow = nI N) (hV : ∀ t, V t = oV (cA σ 0) (σ 4) ow (dR (cA σ 0) (σ 4) (σ 5) (σ 2) (σ 3) h) (nI h) (σ 2 h) (ah (σ 2) h) N (pm N t)) : EV (d + 5) 31 0 [some (.inr 62), some (.inl (nI h)), some (.inr 47), none, none, none, none] [] s (qV (fun u => Ky s u ∧ u 62 5 = (bsT V (fac N - 1)).1 ∧ ∀ i, i < N → u 64 i = nI (pm N (bsT V (fac N - 1)).2 i))) := by
  have ch : (nI h).toNatClampNeg = h := cl_nI (by omega)
  have ih : vp_in (nI h) 24 := vp_in_nI hh (by decide)
  have cow : (nI ow).toNatClampNeg = ow := cl_nI (by omega)
  have fb := fac_b N (by omega)
  have e48 : s 48 h = nI ow := (hn.day.1 h hh).trans eow
  have e5 : s 5 ow = nI N := by rw [hn.1 5 (by decide)]; exact eN
  refine pO_seek_0 ?_
  rw [ch, e48, cow, e5]
  refine ⟨ih, vp_in_nI how (by decide), ?_⟩
  generalize hQ : qV (fun u => Ky s u ∧ u 62 5 = (bsT V (fac N - 1)).1 ∧ ∀ i, i < N → u 64 i = nI (pm N (bsT V (fac N - 1)).2 i)) = Q
  have cN : (nI N).toNatClampNeg = N := cl_nI (by omega)
  have ob : (¬ (0 : Int32) < 0) ∧ (¬ (0 : Int32) < 0) ∧ (¬ nI N < 0) ∧ (0 : Int32).toNatClampNeg + (nI N).toNatClampNeg ≤ 5 ∧ (0 : Int32).toNatClampNeg + (nI N).toNatClampNeg ≤ 5 := ⟨by decide, by decide, nI_pos (by omega), by rw [cN]; show 0 + N ≤ 5; omega, by rw [cN]; show 0 + N ≤ 5; omega⟩
  have step : ∀ t u w6, t < fac N → Ky2 s u → (∀ i, i < N → u 63 i = pI N t i) → (0 < t → u 62 5 = (bsT V (t - 1)).1 ∧ ∀ i, i < N → u 64 i = nI (pm N (bsT V (t - 1)).2 i)) → (∀ x y9 w, (t + 1 < fac N → y9 = 1 ∧ ∀ i, i < N → x 63 i = pI N (t + 1) i) → (¬ t + 1 < fac N → y9 = 0) → Ky2 s x → x 62 5 = (bsT V t).1 → (∀ i, i < N → x 64 i = nI (pm N (bsT V t).2 i)) → EV (d + 5) 31 4 [some (.inr 62), some (.inl (nI h)), some (.inr 47), some (.inl (nI N)), some (.inl y9), some (.inl (nI (t + 1))), w] [] x Q) → EV (d + 5) 31 4 [some (.inr 62), some (.inl (nI h)), some (.inr 47), some (.inl (nI N)), some (.inl 1), some (.inl (nI t)), w6] [] u Q := by
    intro t u w6 ht ky h63 hb K
    refine pO_seek_4 ⟨fun z => absurd z (by decide), fun _ => ⟨fun z => absurd z (nI_nle' (a := 120) (by omega) (by omega)), fun _ => ⟨_, EV.tryX (od := pm N t) hI (ky.k.dn hn) hh how eow hN (fun i hi => ⟨pm_lt N (by omega) t (by omega) i hi, h63 i hi⟩), ?_⟩⟩⟩
    rw [← hV]
    rintro y v ⟨hy, fx⟩
    have kv : Ky2 s v := fun c a1 a2 a3 a4 a5 a6 a7 => (fx c a1 a2 a3 a4).trans (ky c a1 a2 a3 a4 a5 a6 a7)
    have v63 : ∀ i, i < N → v 63 i = pI N t i := fun i hi => by rw [fx 63 (by decide) (by decide) (by decide) (by decide)]; exact h63 i hi
    have v62 : v 62 = u 62 := fx 62 (by decide) (by decide) (by decide) (by decide)
    have v64 : v 64 = u 64 := fx 64 (by decide) (by decide) (by decide) (by decide)
    rw [nI_p1, cN]
    rw [cN] at ob
    have up : bsT V t = (V t, t) → ∃ R7 : Int32 → QS → Prop, EV (d + 4) 33 0 [some (.inr 62), some (.inl (nI N)), none, none, none, none] [] (q_set (q_set v 62 (upd (v 62) 5 y)) 64 (va_cpy (v 63) (v 64) (0 : Int32).toNatClampNeg (0 : Int32).toNatClampNeg N)) (qI R7) ∧ ∀ y9 s8, R7 y9 s8 → EV (d + 5) 31 4 [some (.inr 62), some (.inl (nI h)), some (.inr 47), some (.inl (nI N)), some (.inl y9), some (.inl (nI (t + 1))), some (.inl y)] [] s8 Q := by
      intro eb
      refine ⟨_, EV.next (d := d + 3) hN ht (by rw [q_set_ne _ _ (by decide), q_set_ne _ _ (by decide)]; exact v63), ?_⟩
      rintro y9 x ⟨f1, f2, f3⟩
      refine K x y9 _ f2 f3 (fun c a1 a2 a3 a4 a5 a6 a7 => ?_) ?_ (fun i hi => ?_)
      · rw [f1 c (by omega), q_set_ne _ _ a7, q_set_ne _ _ a5]; exact kv c a1 a2 a3 a4 a5 a6 a7
      · rw [f1 62 (by decide), q_set_ne _ _ (by decide), q_set_eq, upd_eq, eb]; exact hy
      · rw [f1 64 (by decide), q_set_eq, eb, show va_cpy (v 63) (v 64) (0 : Int32).toNatClampNeg (0 : Int32).toNatClampNeg N = cpN (v 63) (v 64) N from va_cpN _ _ _, cpN_lt hi]
        exact v63 i hi
    refine ⟨fun z => ⟨⟨ob.1, ob.2.1, ob.2.2.1, ob.2.2.2.1, ob.2.2.2.2, fun z => absurd z (by decide)⟩, up ?_⟩, fun z => ?_⟩
    · have : t = 0 := (nI_eq (a := t) (b := 0) (by omega) (by decide)).mp z
      subst this
      rfl
    · obtain ⟨t', rfl⟩ : ∃ t', t = t' + 1 := ⟨t - 1, by
        rcases Nat.eq_zero_or_pos t with q | q
        · subst q; exact absurd rfl z
        · omega⟩
      obtain ⟨b1, b2⟩ := hb (by omega)
      rw [show t' + 1 - 1 = t' by omega] at b1 b2
      rw [v62, b1]
      refine ⟨fun q => ⟨_, EV.next (d := d + 3) hN ht v63, ?_⟩, fun q => ⟨⟨ob.1, ob.2.1, ob.2.2.1, ob.2.2.2.1, ob.2.2.2.2, fun z => absurd z (by decide)⟩, ?_⟩⟩
      · have eb : bsT V (t' + 1) = bsT V t' := by rw [bsT, ← hy, if_pos q]
        rintro y9 x ⟨f1, f2, f3⟩
        refine K x y9 _ f2 f3 (fun c a1 a2 a3 a4 a5 a6 a7 => ?_) ?_ (fun i hi => ?_)
        · rw [f1 c (by omega)]; exact kv c a1 a2 a3 a4 a5 a6 a7
        · rw [f1 62 (by decide), v62, eb]; exact b1
        · rw [f1 64 (by decide), v64, eb]; exact b2 i hi
      · have eb : bsT V (t' + 1) = (V (t' + 1), t' + 1) := by rw [bsT, ← hy, if_neg q]
        have := up eb
        rw [v62] at this
        exact this
  have main : ∀ m t u w6, t + (m + 1) = fac N → Ky2 s u → (∀ i, i < N → u 63 i = pI N t i) → (0 < t → u 62 5 = (bsT V (t - 1)).1 ∧ ∀ i, i < N → u 64 i = nI (pm N (bsT V (t - 1)).2 i)) → EV (d + 5) 31 4 [some (.inr 62), some (.inl (nI h)), some (.inr 47), some (.inl (nI N)), some (.inl 1), some (.inl (nI t)), w6] [] u Q := by
    intro m
    induction m with
    | zero =>
      intro t u w6 hm ky h63 hb
      refine step t u w6 (by omega) ky h63 hb ?_
      intro x y9 w _ hy9 kx x5 x6
      rw [← hQ, show fac N - 1 = t by omega]
      exact pO_seek_4 ⟨fun _ => ⟨rfl, kx.k, x5, x6⟩, fun z => absurd (hy9 (by omega)) z⟩
    | succ m ihm =>
      intro t u w6 hm ky h63 hb
      refine step t u w6 (by omega) ky h63 hb ?_
      intro x y9 w hy9 _ kx x5 x6
      obtain ⟨e, x3⟩ := hy9 (by omega)
      subst e
      exact ihm (t + 1) x w (by omega) kx x3 (fun _ => ⟨x5, x6⟩)
  have l1 := up_loop (P := fun j => ∀ u w5 w6, Ky2 s u → (∀ i, i < j → u 63 i = nI i) → EV (d + 5) 31 1 [some (.inr 62), some (.inl (nI h)), some (.inr 47), some (.inl (nI N)), some (.inl (nI j)), w5, w6] [] u Q) (n := N) ?_ ?_ 0 (by omega)
  · exact l1 s none none (fun _ _ _ _ _ _ _ _ => rfl) (fun i hi => absurd hi (by omega))
  · intro u w5 w6 ky h63
    refine pO_seek_1 ⟨fun _ => main (fac N - 1) 0 u w6 (by omega) ky (fun i hi => ?_) (fun z => absurd z (by omega)), fun q => absurd (nI_le' (Nat.le_refl N) (by omega)) q⟩
    unfold pI
    rw [pm_0 N (by omega) i hi]
    exact h63 i hi
  · intro j hj ihh u w5 w6 ky h63
    refine pO_seek_1 ?_
    rw [cl_nI (by omega), nI_p1]
    refine ⟨fun q => absurd q (nI_nle' (by omega) (by omega)), fun _ => ⟨vp_in_nI (by omega) (by decide), ihh _ w5 w6 (fun c a1 a2 a3 a4 a5 a6 a7 => by rw [q_set_ne _ _ a6]; exact ky c a1 a2 a3 a4 a5 a6 a7) (fun i hi => ?_)⟩⟩
    rw [q_set_eq]
    by_cases e : i = j
    · subst e; exact upd_eq _ _ _
    · rw [upd_ne _ _ e]; exact h63 i (by omega)
/-! the reference -/
theorem EV.gives {d : Nat} {σ s : QS} {R : Nat → Int32} {h ow N : Nat} {od : Nat → Nat} (hI : INV σ) (hs : Mc σ s) (e70 : s 70 = σ 2) (hh : h < 24) (how : ow < 12) (eow : σ 2 h = nI ow) (hN : N ≤ 5) (eN : σ 5 ow = nI N) (hod : ∀ i, i < N → od i < 5 ∧ s 105 i = nI (od i)) (hR : ∀ r, r < 8 → s 98 (8 * h + r) = R (r * 3) ∧ s 99 (8 * h + r) = R (r * 3 + 1) ∧ s 100 (8 * h + r) = R (r * 3 + 2)) : EV (d + 5) 162 0 [some (.inr 69), some (.inl (nI h)), none] [] s (qI (fun y u => y = oV (cA σ 0) (σ 4) ow R (nI h) (σ 2 h) (ah (σ 2) h) N od ∧ Fa s u)) := by
  have lp := up_loop (P := fun j => ∀ u, Fi 95 97 s u → (∀ r, r < j → u 95 r = R (r * 3) ∧ u 96 r = R (r * 3 + 1) ∧ u 97 r = R (r * 3 + 2)) → EV (d + 5) 162 1 [some (.inr 69), some (.inl (nI h)), some (.inl (nI j))] [] u (qI (fun y u => y = oV (cA σ 0) (σ 4) ow R (nI h) (σ 2 h) (ah (σ 2) h) N od ∧ Fa s u))) (n := 8) ?_ ?_ 0 (by omega)
  · exact pM_orderGives_0 (lp s Fi.rf (fun r hr => absurd hr (by omega)))
  · intro u f1 r1
    have mu : Mc σ u := hs.tr ⟨fun c hc => f1 c (by omega), fun c hc => f1 c (by omega)⟩
    have u70 : u 70 = σ 2 := by rw [f1 70 (by decide)]; exact e70
    have cow : (nI ow).toNatClampNeg = ow := cl_nI (by omega)
    have en : nA (σ 5) (u 70 h) = N := by unfold nA; rw [u70, eow, cow, eN]; exact cl_nI (by omega)
    refine pM_orderGives_1 ⟨fun _ => ⟨_, EV.actsAll (n := σ 5) (a := σ 4) (ow := ow) (od := od) (LW_fr mu.1 hI.2.1) hh how (by rw [u70]; exact eow) (by rw [mu.2 75 (by decide), mu.2 76 (by decide), mu.2 77 (by decide), mu.2 78 (by decide)]; exact hI.1.2.2.1) (fun i hi => by rw [en] at hi; rw [f1 105 (by decide)]; exact hod i hi) r1, ?_⟩, fun q => absurd (nI_le' (Nat.le_refl 8) (by omega)) q⟩
    rw [en, u70, cA_fr mu.1]
    rintro y v ⟨hy, fa, rv, -, -⟩
    have mv : Mc σ v := mu.tr ⟨fun c hc => fa c (by omega) (by omega) (by omega), fun c hc => fa c (by omega) (by omega) (by omega)⟩
    have v70 : v 70 = σ 2 := by rw [fa 70 (by decide) (by decide) (by decide)]; exact u70
    refine ⟨_, EV.finesM (w := 0) (LW_fr mv.1 hI.2.1) (by decide) hh rv, ?_⟩
    rw [v70, cA_fr mv.1]
    rintro y2 x ⟨hy2, fx⟩
    refine ⟨_, rfl, ?_, fun c a b e => ?_⟩
    · unfold oV; rw [hy, hy2]
    · rw [fx c (by omega), fa c a b e, f1 c (by omega)]
  · intro j hj ih u f1 r1
    have e8 : 8 * nI h + nI j = nI (8 * h + j) := by rw [show 8 * nI h = nI (8 * h) from pk_mul 8 h, nI_add]
    have i8 : vp_in (nI (8 * h + j)) 200 := vp_in_nI (by omega) (by decide)
    have ij : vp_in (nI j) 8 := vp_in_nI hj (by decide)
    refine pM_orderGives_1 ?_
    rw [e8, cl_nI (show 8 * h + j < 2 ^ 31 by omega), cl_nI (show j < 2 ^ 31 by omega), nI_p1]
    refine ⟨fun q => absurd q (nI_nle' (a := 8) (by omega) (by omega)), fun _ => ⟨i8, ij, i8, ij, i8, ij, ih _ (((f1.set (by decide) _).set (by decide) _).set (by decide) _) (fun r hr => ?_)⟩⟩
    rw [q_set_eq, q_set_ne _ _ (show 95 ≠ 97 by decide), q_set_ne _ _ (show 95 ≠ 96 by decide), q_set_eq, q_set_ne _ _ (show 96 ≠ 97 by decide), q_set_eq]
    by_cases e : r = j
    · subst e
      rw [upd_eq, upd_eq, upd_eq, f1 98 (by decide), f1 99 (by decide), f1 100 (by decide)]
      exact hR r hj
    · rw [upd_ne _ _ e, upd_ne _ _ e, upd_ne _ _ e]
      exact r1 r (by omega)
set_option maxHeartbeats 1000000 in
theorem EV.ordM {d : Nat} {σ s t0 : QS} {R : Nat → Int32} {h ow N : Nat} {w r0 : Int32} {V : Nat → Int32} {w7 w8 : Option QV} (hI : INV σ) (hs : Mc σ s) (hts : Fmm t0 s) (e70 : s 70 = σ 2) (hh : h < 24) (how : ow < 12) (eow : σ 2 h = nI ow) (hN : N ≤ 5) (eN : σ 5 ow = nI N) (hR : ∀ r, r < 8 → s 98 (8 * h + r) = R (r * 3) ∧ s 99 (8 * h + r) = R (r * 3 + 1) ∧ s 100 (8 * h + r) = R (r * 3 + 2)) (hV : ∀ t, V t = oV (cA σ 0) (σ 4) ow R (nI h) (σ 2 h) (ah (σ 2) h) N (pm N t)) (hw : w = -1 ∧ r0 = (bsT V (fac N - 1)).1 ∨ ∃ j, j < N ∧ w = nI j ∧ r0 = nI (pm N (bsT V (fac N - 1)).2 j)) : EV (d + 6) 163 11 [some (.inr 69), some (.inl (nI h)), some (.inl w), some (.inl (nI N)), some (.inl (nI (fac N))), some (.inl (-1000000000)), some (.inl 0), w7, w8] [] s (QM2 t0 r0) := by
  have fb := fac_b N (by omega)
  have main : ∀ m t u b w7 w8, t + m = fac N → Fi 93 106 s u → (∀ c, 98 ≤ c ∧ c ≤ 100 → u c = s c) → (t = 0 → b = -1000000000) → (0 < t → b = (bsT V (t - 1)).1 ∧ ∀ i, i < N → u 106 i = nI (pm N (bsT V (t - 1)).2 i)) → EV (d + 6) 163 11 [some (.inr 69), some (.inl (nI h)), some (.inl w), some (.inl (nI N)), some (.inl (nI (fac N))), some (.inl b), some (.inl (nI t)), w7, w8] [] u (QM2 t0 r0) := by
    intro m
    induction m with
    | zero =>
      intro t u b w7 w8 hm f1 f2 b0 b1
      obtain ⟨c1, c2⟩ := b1 (by omega)
      have fm : Fmm t0 u := hts.tr ⟨fun c _ k => f1 c (by omega), fun k _ => by rw [f1 69 (by decide)]⟩
      rw [show t - 1 = fac N - 1 by omega] at c1 c2
      refine pM_bestOrder_11 ⟨fun _ => ?_, fun q => absurd (nI_le' (by omega) (by omega)) q⟩
      rcases hw with ⟨rfl, hr⟩ | ⟨j, hj, rfl, hr⟩
      · exact ⟨fun z => absurd rfl z, fun _ => QM2.mk fm (c1.trans hr.symm)⟩
      · exact ⟨fun _ => ⟨vp_in_nI (by omega) (by decide), QM2.mk fm (by rw [cl_nI (by omega), c2 j hj]; exact hr.symm)⟩, fun z => absurd z (nI_nem (by omega))⟩
    | succ m ihm =>
      intro t u b w7 w8 hm f1 f2 b0 b1
      refine pM_bestOrder_11 ⟨fun z => absurd z (nI_nle' (by omega) (by omega)), fun _ => ⟨_, EV.orders hN (show t < fac N by omega), ?_⟩⟩
      rintro v ⟨g1, g2⟩
      have mv : Mc σ v := hs.tr ⟨fun c hc => by rw [g1 c (by omega), f1 c (by omega)], fun c hc => by rw [g1 c (by omega), f1 c (by omega)]⟩
      refine ⟨_, EV.gives (R := R) (od := pm N t) hI mv (by rw [g1 70 (by decide), f1 70 (by decide)]; exact e70) hh how eow hN eN (fun i hi => ⟨pm_lt N (by omega) t (by omega) i hi, g2 i hi⟩) (fun r hr => by rw [g1 98 (by decide), g1 99 (by decide), g1 100 (by decide), f2 98 (by decide), f2 99 (by decide), f2 100 (by decide)]; exact hR r hr), ?_⟩
      rw [← hV]
      rintro y x ⟨hy, fa⟩
      have fx : Fi 93 106 s x := fun c hc => by rw [fa c (by omega) (by omega) (by omega), g1 c (by omega), f1 c hc]
      have fx2 : ∀ c, 98 ≤ c ∧ c ≤ 100 → x c = s c := fun c hc => by rw [fa c (by omega) (by omega) (by omega), g1 c (by omega), f2 c hc]
      have x106 : x 106 = u 106 := by rw [fa 106 (by decide) (by decide) (by decide), g1 106 (by decide)]
      have x105 : ∀ i, i < N → x 105 i = nI (pm N t i) := fun i hi => by rw [fa 105 (by decide) (by decide) (by decide)]; exact g2 i hi
      rw [nI_p1]
      refine ⟨fun q => ?_, fun q => ?_⟩
      · have eb : bsT V t = (V t, t) := by
          rcases t with _ | t
          · rfl
          · rw [bsT, if_neg]
            rw [← hy, i_nlt]
            intro z
            exact z (by have := (b1 (by omega)).1; rw [show t + 1 - 1 = t by omega] at this; rw [← this]; exact q)
        have l17 := up_loop (P := fun j => ∀ x, Fi 93 106 s x → (∀ c, 98 ≤ c ∧ c ≤ 100 → x c = s c) → (∀ i, i < N → x 105 i = nI (pm N t i)) → (∀ i, i < j → x 106 i = nI (pm N t i)) → EV (d + 6) 163 17 [some (.inr 69), some (.inl (nI h)), some (.inl w), some (.inl (nI N)), some (.inl (nI (fac N))), some (.inl y), some (.inl (nI t)), some (.inl y), some (.inl (nI j))] [] x (QM2 t0 r0)) (n := N) ?_ ?_ 0 (by omega)
        · exact l17 x fx fx2 x105 (fun i hi => absurd hi (by omega))
        · intro x k1 k2 k3 k4
          refine pM_bestOrder_17 ⟨fun _ => ?_, fun q => absurd (nI_le' (Nat.le_refl N) (by omega)) q⟩
          rw [nI_p1]
          refine ihm (t + 1) x y _ _ (by omega) k1 k2 (fun z => absurd z (by omega)) (fun _ => ?_)
          rw [show t + 1 - 1 = t by omega, eb]
          exact ⟨hy, k4⟩
        · intro j hj ih x k1 k2 k3 k4
          refine pM_bestOrder_17 ?_
          rw [cl_nI (by omega), nI_p1 j]
          refine ⟨fun q => absurd q (nI_nle' (by omega) (by omega)), fun _ => ⟨vp_in_nI (by omega) (by decide), vp_in_nI (by omega) (by decide), ih _ (k1.set (by decide) _) (fun c hc => by rw [q_set_ne _ _ (by omega)]; exact k2 c hc) (fun i hi => by rw [q_set_ne _ _ (by decide)]; exact k3 i hi) (fun i hi => ?_)⟩⟩
          rw [q_set_eq]
          by_cases e : i = j
          · subst e; rw [upd_eq]; exact k3 i hj
          · rw [upd_ne _ _ e]; exact k4 i (by omega)
      · obtain ⟨t', rfl⟩ : ∃ t', t = t' + 1 := by
          rcases t with _ | t
          · refine absurd ?_ q
            rw [b0 rfl, hy, hV]
            exact oV_b σ _ _ _ _ _ _ _ hN
          · exact ⟨t, rfl⟩
        obtain ⟨c1, c2⟩ := b1 (by omega)
        rw [show t' + 1 - 1 = t' by omega] at c1 c2
        have eb : bsT V (t' + 1) = bsT V t' := by
          rw [bsT, if_pos]
          rw [← hy, i_nlt, ← c1]
          exact q
        refine ihm (t' + 1 + 1) x b _ _ (by omega) fx fx2 (fun z => absurd z (by omega)) (fun _ => ?_)
        rw [show t' + 1 + 1 - 1 = t' + 1 by omega, eb, x106]
        exact ⟨c1, c2⟩
  exact main (fac N) 0 s _ w7 w8 (by omega) Fi.rf (fun _ _ => rfl) (fun _ => rfl) (fun z => absurd z (by omega))
theorem EV.waysM {d : Nat} {s : QS} {Q : QQ} {h N : Nat} {w : Int32} {w6 w7 w8 : Option QV} (hN : N ≤ 5) (K : EV (d + 6) 163 11 [some (.inr 69), some (.inl (nI h)), some (.inl w), some (.inl (nI N)), some (.inl (nI (fac N))), some (.inl (-1000000000)), some (.inl 0), w7, w8] [] s Q) : EV (d + 6) 163 8 [some (.inr 69), some (.inl (nI h)), some (.inl w), some (.inl (nI N)), some (.inl 1), some (.inl 2), w6, w7, w8] [] s Q := by
  by_cases h0 : N = 0
  · subst h0
    exact pM_bestOrder_8 ⟨fun _ => K, fun z => absurd (by decide) z⟩
  have lp := up_loop (P := fun j => 0 < j → EV (d + 6) 163 8 [some (.inr 69), some (.inl (nI h)), some (.inl w), some (.inl (nI N)), some (.inl (nI (fac j))), some (.inl (nI (j + 1))), w6, w7, w8] [] s Q) (n := N) ?_ ?_ 1 (by omega) (by omega)
  · exact lp
  · intro _
    exact pM_bestOrder_8 ⟨fun _ => K, fun z => absurd ((nI_ltI (by omega) (by omega)).mpr (by omega)) z⟩
  · intro j hj ih h0
    refine pM_bestOrder_8 ⟨fun z => absurd ((nI_ltI (by omega) (by omega)).mp z) (by omega), fun _ => ?_⟩
    rw [nI_p1, pk_mul]
    have := ih (by omega)
    rw [fac, Nat.mul_comm] at this
    exact this
