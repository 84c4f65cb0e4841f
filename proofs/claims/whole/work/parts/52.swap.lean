theorem swp_swp (f : Nat → Int32) (a b : Nat) : swp (swp f a b) a b = f := by
  funext k
  unfold swp upd
  by_cases h1 : k = b
  · by_cases h3 : a = b
    · simp [h1, h3]
    · simp [h1, h3]
  · by_cases h2 : k = a
    · have h3 : ¬ a = b := fun e => h1 (h2.trans e)
      simp [h2, h3]
    · simp [h1, h2]
theorem EV.laysG {d : Nat} {σ s : QS} {f : Nat → Int32} {a b x y : Nat} (hI : INV σ) (hs : Mc σ s) (ef : s 70 = f) (hf : ∀ h, h < 24 → ∃ o, o ≤ 12 ∧ f h = nI o) (hv : vNow s (cA σ 0) (σ 4) (σ 5) (σ 3) f) (ha : a < 24) (hb : b < 24) (hx : x < 12) (hy : y < 12) (ex : f a = nI x) (ey : f b = nI y) : EV (d + 6) 168 0 [some (.inr 69), some (.inl (nI a)), some (.inl (nI b)), none, none] [] s (qV (fun t => t 69 47 = gn (cA σ 0) (σ 4) (σ 5) (σ 3) f a b (f a) ∧ t 69 48 = gn (cA σ 0) (σ 4) (σ 5) (σ 3) f a b (f b) ∧ (∀ c, c ≠ 69 → ¬ (93 ≤ c ∧ c ≤ 106) → t c = s c) ∧ ∀ k, k ≠ 47 → k ≠ 48 → t 69 k = s 69 k)) := by
  have ca : (nI a).toNatClampNeg = a := cl_nI (by omega)
  have cb : (nI b).toNatClampNeg = b := cl_nI (by omega)
  have ia : vp_in (nI a) 24 := vp_in_nI ha (by decide)
  have ib : vp_in (nI b) 24 := vp_in_nI hb (by decide)
  have cx : (nI x).toNatClampNeg = x := cl_nI (by omega)
  have cy : (nI y).toNatClampNeg = y := cl_nI (by omega)
  refine pM_laysGain_0 ?_
  rw [ca, cb, ef]
  refine ⟨ia, ib, ia, ib, ia, ib, _, EV.runsI (w := 0) (f := swp f a b) hI ((hs.set (Or.inr (Or.inl rfl)) _).set (Or.inr (Or.inl rfl)) _) (by decide) (q_set_eq _ _ _) (fr_swp hf ha hb), ?_⟩
  rintro t ⟨g1, g2⟩
  have t70 : t 70 = swp f a b := by rw [g1 70 (by decide)]; exact q_set_eq _ _ _
  have t107 : t 107 = s 107 := by rw [g1 107 (by decide), q_set_ne _ _ (by decide), q_set_ne _ _ (by decide)]
  have ev : ∀ o, smO (t 70) (w3r t 0) o 24 - smO (t 70) (w3r t 1) o 24 = vOf (cA σ 0) (σ 4) (σ 5) (σ 3) (swp f a b) o := fun o => vOf_M (B := cA σ 0) g2 t70 o
  refine ex_I (EV.sumOf (w := 0) (by decide)) (ex_I (EV.sumOf (w := 1) (by decide)) ⟨by rw [ex]; exact vp_in_nI hx (by decide), ?_⟩)
  rw [ev, t107]
  generalize hu : q_set t 69 (upd (t 69) 47 (vOf (cA σ 0) (σ 4) (σ 5) (σ 3) (swp f a b) (f a) - s 107 (f a).toNatClampNeg)) = u
  have eu : ∀ c, c ≠ 69 → u c = t c := fun c hc => by rw [← hu, q_set_ne _ _ hc]
  have ev2 : ∀ o, smO (u 70) (w3r u 0) o 24 - smO (u 70) (w3r u 1) o 24 = vOf (cA σ 0) (σ 4) (σ 5) (σ 3) (swp f a b) o := fun o => by
    have := ev o
    unfold w3r at this ⊢
    rw [eu 70 (by decide), eu 101 (by decide), eu 102 (by decide)]
    exact this
  refine ex_I (EV.sumOf (w := 0) (by decide)) (ex_I (EV.sumOf (w := 1) (by decide)) ⟨by rw [ey]; exact vp_in_nI hy (by decide), ia, ib, ia, ib, ?_⟩)
  rw [ev2, eu 107 (by decide), t107, eu 70 (by decide), t70, q_set_same]
  have e70 : upd (upd (swp f a b) a (swp f a b b)) b (swp f a b a) = f := swp_swp f a b
  rw [e70]
  have h47 : vOf (cA σ 0) (σ 4) (σ 5) (σ 3) (swp f a b) (f a) - s 107 (f a).toNatClampNeg = gn (cA σ 0) (σ 4) (σ 5) (σ 3) f a b (f a) := by
    unfold gn; rw [ex, cx, hv x hx]
  have h48 : vOf (cA σ 0) (σ 4) (σ 5) (σ 3) (swp f a b) (f b) - s 107 (f b).toNatClampNeg = gn (cA σ 0) (σ 4) (σ 5) (σ 3) f a b (f b) := by
    unfold gn; rw [ey, cy, hv y hy]
  have u69 : u 69 = upd (t 69) 47 (gn (cA σ 0) (σ 4) (σ 5) (σ 3) f a b (f a)) := by rw [← hu, q_set_eq, h47]
  rw [h48, u69]
  refine ⟨rfl, ?_, ?_, fun c h1 h2 => ?_, fun k h1 h2 => ?_⟩
  · rw [q_set_ne _ _ (by decide), q_set_eq, upd_ne _ _ (by decide), upd_eq]
  · rw [q_set_ne _ _ (by decide), q_set_eq, upd_eq]
  · by_cases q : c = 70
    · subst q; rw [q_set_eq, ef]
    · rw [q_set_ne _ _ q, q_set_ne _ _ h1, eu c h1, g1 c (by omega), q_set_ne _ _ q, q_set_ne _ _ q]
  · rw [q_set_ne _ _ (by decide), q_set_eq, upd_ne _ _ h2, upd_ne _ _ h1, g1 69 (by decide), q_set_ne _ _ (by decide), q_set_ne _ _ (by decide)]
theorem own12 {f : Nat → Int32} (hf : ∀ h, h < 24 → ∃ o, o ≤ 12 ∧ f h = nI o) {a : Nat} (ha : a < 24) (h : ¬ f a = 12) : ∃ x, x < 12 ∧ f a = nI x := by
  obtain ⟨x, hx, ex⟩ := hf a ha
  refine ⟨x, ?_, ex⟩
  rcases Nat.lt_or_ge x 12 with q | q
  · exact q
  · have : x = 12 := by omega
    subst this
    exact absurd ex h
theorem sim_gain (σ : QS) (a b w : Int32) (hI : INV σ) : SimI 83 170 [some (.inr 0), some (.inl a), some (.inl b), some (.inl w)] [some (.inr 69), some (.inl a), some (.inl b), some (.inl w)] σ := by
  have e70 : σ 70 = σ 2 := hI.1.1.1
  by_cases a0 : a < 0
  · exact SimI.no (-1000000) hI (pX_gain_0 ⟨fun _ => (no2 _ _), fun z => absurd a0 z⟩) (pM_gain_0 ⟨fun _ => (no2 _ _), fun z => absurd a0 z⟩)
  by_cases a1 : 24 ≤ a
  · exact SimI.no (-1000000) hI (pX_gain_0 ⟨fun z => absurd z a0, fun _ => ⟨fun _ => (no2 _ _), fun z => absurd a1 z⟩⟩) (pM_gain_0 ⟨fun z => absurd z a0, fun _ => ⟨fun _ => (no2 _ _), fun z => absurd a1 z⟩⟩)
  obtain ⟨p, hp, rfl⟩ := ix_of (n := 24) rfl (by decide) a0 a1
  have cp : (nI p).toNatClampNeg = p := cl_nI (by omega)
  have ia : vp_in (nI p) 24 := vp_in_nI hp (by decide)
  by_cases c1 : σ 2 (nI p).toNatClampNeg = 12
  · have c1m : σ 70 (nI p).toNatClampNeg = 12 := by rw [e70]; exact c1
    exact SimI.no (-1000000) hI (pX_gain_0 ⟨fun z => absurd z a0, fun _ => ⟨fun z => absurd z a1, fun _ => ⟨ia, ⟨fun _ => (no2 _ _), fun z => absurd c1 z⟩⟩⟩⟩) (pM_gain_0 ⟨fun z => absurd z a0, fun _ => ⟨fun z => absurd z a1, fun _ => ⟨fun g1 => (no2 _ _), fun g1 => ⟨fun g2 => (no2 _ _), fun g2 => ⟨fun g3 => (no2 _ _), fun g3 => ⟨fun g4 => (no2 _ _), fun g4 => ⟨ia, ⟨fun _ => (no2 _ _), fun z => absurd c1m z⟩⟩⟩⟩⟩⟩⟩⟩)
  have c1m : ¬ σ 70 (nI p).toNatClampNeg = 12 := by rw [e70]; exact c1
  by_cases b0 : b < 0
  · exact SimI.no (-1000000) hI (pX_gain_0 ⟨fun z => absurd z a0, fun _ => ⟨fun z => absurd z a1, fun _ => ⟨ia, ⟨fun z => absurd z c1, fun _ => ⟨fun _ => (no2 _ _), fun z => absurd b0 z⟩⟩⟩⟩⟩) (pM_gain_0 ⟨fun z => absurd z a0, fun _ => ⟨fun z => absurd z a1, fun _ => ⟨fun _ => (no2 _ _), fun z => absurd b0 z⟩⟩⟩)
  by_cases b1 : 24 ≤ b
  · exact SimI.no (-1000000) hI (pX_gain_0 ⟨fun z => absurd z a0, fun _ => ⟨fun z => absurd z a1, fun _ => ⟨ia, ⟨fun z => absurd z c1, fun _ => ⟨fun z => absurd z b0, fun _ => ⟨fun _ => (no2 _ _), fun z => absurd b1 z⟩⟩⟩⟩⟩⟩) (pM_gain_0 ⟨fun z => absurd z a0, fun _ => ⟨fun z => absurd z a1, fun _ => ⟨fun z => absurd z b0, fun _ => ⟨fun _ => (no2 _ _), fun z => absurd b1 z⟩⟩⟩⟩)
  obtain ⟨q, hq, rfl⟩ := ix_of (n := 24) rfl (by decide) b0 b1
  have cq : (nI q).toNatClampNeg = q := cl_nI (by omega)
  have ib : vp_in (nI q) 24 := vp_in_nI hq (by decide)
  by_cases c2 : σ 2 (nI q).toNatClampNeg = 12
  · have c2m : σ 70 (nI q).toNatClampNeg = 12 := by rw [e70]; exact c2
    exact SimI.no (-1000000) hI (pX_gain_0 ⟨fun z => absurd z a0, fun _ => ⟨fun z => absurd z a1, fun _ => ⟨ia, ⟨fun z => absurd z c1, fun _ => ⟨fun z => absurd z b0, fun _ => ⟨fun z => absurd z b1, fun _ => ⟨ib, ⟨fun _ => (no2 _ _), fun z => absurd c2 z⟩⟩⟩⟩⟩⟩⟩⟩) (pM_gain_0 ⟨fun z => absurd z a0, fun _ => ⟨fun z => absurd z a1, fun _ => ⟨fun z => absurd z b0, fun _ => ⟨fun z => absurd z b1, fun _ => ⟨fun g1 => (no2 _ _), fun g1 => ⟨fun g2 => (no2 _ _), fun g2 => ⟨ia, ⟨fun z => absurd z c1m, fun _ => ⟨ib, ⟨fun _ => (no2 _ _), fun z => absurd c2m z⟩⟩⟩⟩⟩⟩⟩⟩⟩⟩)
  have c2m : ¬ σ 70 (nI q).toNatClampNeg = 12 := by rw [e70]; exact c2
  by_cases c3 : σ 2 (nI p).toNatClampNeg = σ 2 (nI q).toNatClampNeg
  · have c3m : σ 70 (nI p).toNatClampNeg = σ 70 (nI q).toNatClampNeg := by rw [e70]; exact c3
    exact SimI.no (-1000000) hI (pX_gain_0 ⟨fun z => absurd z a0, fun _ => ⟨fun z => absurd z a1, fun _ => ⟨ia, ⟨fun z => absurd z c1, fun _ => ⟨fun z => absurd z b0, fun _ => ⟨fun z => absurd z b1, fun _ => ⟨ib, ⟨fun z => absurd z c2, fun _ => ⟨ia, ⟨ib, ⟨fun z => absurd c3 z, fun _ => (no2 _ _)⟩⟩⟩⟩⟩⟩⟩⟩⟩⟩⟩) (pM_gain_0 ⟨fun z => absurd z a0, fun _ => ⟨fun z => absurd z a1, fun _ => ⟨fun z => absurd z b0, fun _ => ⟨fun z => absurd z b1, fun _ => ⟨fun g1 => (no2 _ _), fun g1 => ⟨fun g2 => (no2 _ _), fun g2 => ⟨ia, ⟨fun z => absurd z c1m, fun _ => ⟨ib, ⟨fun z => absurd z c2m, fun _ => ⟨ia, ⟨ib, ⟨fun _ => (no2 _ _), fun z => absurd c3m z⟩⟩⟩⟩⟩⟩⟩⟩⟩⟩⟩⟩⟩)
  have c3m : ¬ σ 70 (nI p).toNatClampNeg = σ 70 (nI q).toNatClampNeg := by rw [e70]; exact c3
  have M : ∀ w : Int32, ¬ w < 0 → ¬ 1 < w → ∀ s1, Fc σ s1 → EV 60 170 0 [some (.inr 69), some (.inl (nI p)), some (.inl (nI q)), some (.inl w)] [] s1 (QM2 s1 (gn (cA σ 0) (σ 4) (σ 5) (σ 3) (σ 2) p q (if w = 0 then σ 2 p else σ 2 q))) := by
    intro w w0 w1 s1 f1
    have f70 : s1 70 = σ 2 := hI.f f1.M
    have c1ms : ¬ s1 70 (nI p).toNatClampNeg = 12 := by rw [f70]; exact c1
    have c2ms : ¬ s1 70 (nI q).toNatClampNeg = 12 := by rw [f70]; exact c2
    have c3ms : ¬ s1 70 (nI p).toNatClampNeg = s1 70 (nI q).toNatClampNeg := by rw [f70]; exact c3
    rw [cp] at c1
    rw [cq] at c2
    obtain ⟨x, hx, ex⟩ := own12 hI.fr hp c1
    obtain ⟨y, hy, ey⟩ := own12 hI.fr hq c2
    refine pM_gain_0 ⟨fun z => absurd z a0, fun _ => ⟨fun z => absurd z a1, fun _ => ⟨fun z => absurd z b0, fun _ => ⟨fun z => absurd z b1, fun _ => ⟨fun z => absurd z w0, fun _ => ⟨fun z => absurd z w1, fun _ => ⟨ia, ⟨fun z => absurd z c1ms, fun _ => ⟨ib, ⟨fun z => absurd z c2ms, fun _ => ⟨ia, ⟨ib, ⟨fun z => absurd z c3ms, fun _ => ⟨_, EV.laysV hI f1.mc f70 hI.fr, ?_⟩⟩⟩⟩⟩⟩⟩⟩⟩⟩⟩⟩⟩⟩
    rintro t ⟨g1, g2⟩
    have t70 : t 70 = σ 2 := by rw [g1 70 (by decide)]; exact f70
    have mt : Mc s1 t := ⟨fun c hc => g1 c (by omega), fun c hc => g1 c (by omega)⟩
    refine ⟨_, EV.laysG hI (f1.mc.tr mt) t70 hI.fr g2 hp hq hx hy ex ey, ?_⟩
    rintro u ⟨e47, e48, h1, h2⟩
    have fm : Fmm s1 u := ⟨fun c k1 k2 => by rw [h1 c k1 (by omega), g1 c (by omega)], fun k hk => by rw [h2 k (by omega) (by omega), g1 69 (by decide)]⟩
    exact ⟨fun z => QM2.mk fm (by rw [e48, if_neg z]), fun z => QM2.mk fm (by rw [e47, if_pos z])⟩
  by_cases wa : w = 0
  · subst wa
    refine SimI.q (gn (cA σ 0) (σ 4) (σ 5) (σ 3) (σ 2) p q (σ 2 p)) hI (pX_gain_0 ⟨fun z => absurd z a0, fun _ => ⟨fun z => absurd z a1, fun _ => ⟨ia, ⟨fun z => absurd z c1, fun _ => ⟨fun z => absurd z b0, fun _ => ⟨fun z => absurd z b1, fun _ => ⟨ib, ⟨fun z => absurd z c2, fun _ => ⟨ia, ⟨ib, ⟨fun _ => ⟨fun _ => ⟨_, EV.dayI hI, ?_⟩, fun z => absurd rfl z⟩, fun z => absurd z c3⟩⟩⟩⟩⟩⟩⟩⟩⟩⟩⟩) (fun s1 f1 => M 0 (by decide) (by decide) s1 f1)
    rintro s ⟨hn, -⟩
    refine ⟨fun z => absurd rfl z, fun _ => ⟨ia, _, EV.gainX hI.X hn hp hq, ?_⟩⟩
    rintro y t ⟨hy, dn⟩
    refine QX.mk dn (hy.trans ?_)
    rw [hn.1 2 (by decide), cp]
  by_cases wb : w = 1
  · subst wb
    refine SimI.q (gn (cA σ 0) (σ 4) (σ 5) (σ 3) (σ 2) p q (σ 2 q)) hI (pX_gain_0 ⟨fun z => absurd z a0, fun _ => ⟨fun z => absurd z a1, fun _ => ⟨ia, ⟨fun z => absurd z c1, fun _ => ⟨fun z => absurd z b0, fun _ => ⟨fun z => absurd z b1, fun _ => ⟨ib, ⟨fun z => absurd z c2, fun _ => ⟨ia, ⟨ib, ⟨fun _ => ⟨fun z => absurd z (by decide), fun _ => ⟨fun _ => ⟨_, EV.dayI hI, ?_⟩, fun z => absurd rfl z⟩⟩, fun z => absurd z c3⟩⟩⟩⟩⟩⟩⟩⟩⟩⟩⟩) (fun s1 f1 => M 1 (by decide) (by decide) s1 f1)
    rintro s ⟨hn, -⟩
    refine ⟨fun _ => ⟨ib, _, EV.gainX hI.X hn hp hq, ?_⟩, fun z => absurd z (by decide)⟩
    rintro y t ⟨hy, dn⟩
    refine QX.mk dn (hy.trans ?_)
    rw [hn.1 2 (by decide), cq]
  refine SimI.no (-1000000) hI (pX_gain_0 ⟨fun z => absurd z a0, fun _ => ⟨fun z => absurd z a1, fun _ => ⟨ia, ⟨fun z => absurd z c1, fun _ => ⟨fun z => absurd z b0, fun _ => ⟨fun z => absurd z b1, fun _ => ⟨ib, ⟨fun z => absurd z c2, fun _ => ⟨ia, ⟨ib, ⟨fun _ => ⟨fun z => absurd z wa, fun _ => ⟨fun z => absurd z wb, fun _ => (no2 _ _)⟩⟩, fun z => absurd z c3⟩⟩⟩⟩⟩⟩⟩⟩⟩⟩⟩) (pM_gain_0 ?_)
  by_cases w0 : w < 0
  · exact ⟨fun z => absurd z a0, fun _ => ⟨fun z => absurd z a1, fun _ => ⟨fun z => absurd z b0, fun _ => ⟨fun z => absurd z b1, fun _ => ⟨fun _ => (no2 _ _), fun z => absurd w0 z⟩⟩⟩⟩⟩
  by_cases w1 : 1 < w
  · exact ⟨fun z => absurd z a0, fun _ => ⟨fun z => absurd z a1, fun _ => ⟨fun z => absurd z b0, fun _ => ⟨fun z => absurd z b1, fun _ => ⟨fun z => absurd z w0, fun _ => ⟨fun _ => (no2 _ _), fun z => absurd w1 z⟩⟩⟩⟩⟩⟩
  obtain ⟨j, hj, rfl⟩ := ix_of' (n := 1) rfl (by decide) w0 w1
  rcases (show j = 0 ∨ j = 1 by omega) with rfl | rfl
  · exact absurd rfl wa
  · exact absurd rfl wb
/-! the best swap -/
theorem Dn.s61 {σ t u : QS} (dn : Dn σ t) (h : ∀ c, c ≠ 61 → u c = t c) (h3 : TC u) : Dn σ u := ⟨fun c hc => by rw [h c (by omega), dn.1 c hc], by rw [h 0 (by decide)]; exact dn.2.1, by rw [h 0 (by decide)]; exact dn.2.2.1, dyS_cg (fun c hc => h c (by omega)) (fun c hc => h c (by omega)) dn.2.2.2.1, h3⟩
def Zs (σ s : QS) (tr : Int32 × Int32 × Int32) : Prop := Dn σ s ∧ s 61 3 = 0 ∧ s 61 6 = tr.2.2 ∧ (¬ tr.2.2 ≤ 0 → s 61 4 = tr.1 ∧ s 61 5 = tr.2.1)
theorem EV.weigh {d : Nat} {σ t : QS} {a b : Nat} {tr : Int32 × Int32 × Int32} (hz : Zs σ t tr) (ha : a < 24) (hb : b < 24) (h1 : ¬ σ 2 a = 12) (h2 : ¬ σ 2 b = 12) (h3 : ¬ σ 2 a = σ 2 b) (hv : ∀ o, smO (t 55) (t 57) o 24 - smO (t 55) (t 58) o 24 = vOf (cA σ 0) (σ 4) (σ 5) (σ 3) (swp (σ 2) a b) o) : EV (d + 3) 66 0 [some (.inr 61), some (.inl (nI a)), some (.inl (nI b)), none, none] [] t (qV (fun u => Zs σ u (bst (cA σ 0) (σ 4) (σ 5) (σ 3) (σ 2) a b tr))) := by
  have ca : (nI a).toNatClampNeg = a := cl_nI (by omega)
  have cb : (nI b).toNatClampNeg = b := cl_nI (by omega)
  have ia : vp_in (nI a) 24 := vp_in_nI ha (by decide)
  have ib : vp_in (nI b) 24 := vp_in_nI hb (by decide)
  obtain ⟨dn, z3, z6, z45⟩ := hz
  refine pA_weigh_0 ?_
  rw [ca, cb]
  refine ⟨ia, ex_I (EV.gainOf (s := t) dn hv) ⟨ib, ex_I (EV.gainOf (s := t) dn hv) ?_⟩⟩
  rw [dn.day.1 a ha, dn.day.1 b hb]
  unfold bst
  rw [if_neg (fun z => z.elim h1 (fun z => z.elim h2 h3))]
  generalize gn (cA σ 0) (σ 4) (σ 5) (σ 3) (σ 2) a b (σ 2 a) = x
  generalize gn (cA σ 0) (σ 4) (σ 5) (σ 3) (σ 2) a b (σ 2 b) = y
  refine ⟨fun q1 => ⟨rfl, ?_⟩, fun q1 => ⟨fun q2 => ⟨rfl, ?_⟩, fun q2 => ⟨fun q3 => ⟨rfl, ?_⟩, fun q3 => ⟨rfl, ?_⟩⟩⟩⟩
  · rw [if_pos (Or.inl q1)]; exact ⟨dn, z3, z6, z45⟩
  · rw [if_pos (Or.inr (Or.inl q2))]; exact ⟨dn, z3, z6, z45⟩
  · rw [if_pos (Or.inr (Or.inr (by rw [← z6]; exact q3)))]; exact ⟨dn, z3, z6, z45⟩
  · rw [if_neg (fun z => z.elim q1 (fun z => z.elim q2 (fun z => q3 (by rw [z6]; exact z)))), q_set_same, q_set_same]
    refine ⟨dn.s61 (fun c hc => q_set_ne _ _ hc) (Or.inl ?_), ?_, rfl, fun _ => ⟨rfl, rfl⟩⟩
    · rw [q_set_eq, upd_ne _ _ (by decide), upd_ne _ _ (by decide), upd_ne _ _ (by decide)]; exact z3
    · rw [q_set_eq, upd_ne _ _ (by decide), upd_ne _ _ (by decide), upd_ne _ _ (by decide)]; exact z3
theorem Zs.ky {σ s t : QS} {tr : Int32 × Int32 × Int32} (h : Zs σ s tr) (ky : Ky s t) : Zs σ t tr := by
  refine ⟨ky.dn h.1, ?_⟩
  rw [ky.2.2.2]
  exact h.2
def Qsk (σ : QS) : QQ := qI (fun y t => Dn σ t ∧ t 61 6 = (BS σ).2.2 ∧ (¬ (BS σ).2.2 ≤ 0 → t 61 4 = (BS σ).1 ∧ t 61 5 = (BS σ).2.1) ∧ y = if (BS σ).2.2 ≤ 0 then 0 else 1)
set_option maxHeartbeats 1000000 in
theorem EV.seekT {d : Nat} {σ s : QS} (hI : XI σ) (hn : Dn σ s) : EV (d + 6) 64 0 [some (.inr 61), none, none] [] s (Qsk σ) := by
  have out := up_loop (P := fun x => ∀ s w2, Zs σ s (bou (cA σ 0) (σ 4) (σ 5) (σ 3) (σ 2) x) → EV (d + 6) 64 6 [some (.inr 61), some (.inl (nI x)), w2] [] s (Qsk σ)) (n := 24) ?_ ?_
  · refine pA_seek_0 ⟨fun q => ?_, fun q => ?_⟩
    · refine out 0 (by omega) _ none ⟨hn.s61 (fun c hc => q_set_ne _ _ hc) (Or.inl ?_), ?_, ?_, fun z => absurd (show (0 : Int32) ≤ 0 by decide) z⟩
      · rw [q_set_eq, upd_ne _ _ (by decide)]; exact q
      · rw [q_set_eq, upd_ne _ _ (by decide)]; exact q
      · rw [q_set_eq, upd_eq]; rfl
    · have ht := hn.2.2.2.2
      unfold TC at ht
      rw [BS_cg hn.1.L (hn.1 2 (by decide)) (hn.1 3 (by decide)) (hn.1 4 (by decide)) (hn.1 5 (by decide))] at ht
      rcases ht with h | ⟨h3, h12, h6, h45⟩
      · exact absurd h q
      · rw [h6]
        exact ⟨fun z => ⟨_, rfl, hn, h6, h45, by rw [if_pos z]⟩, fun z => ⟨_, rfl, hn, h6, h45, by rw [if_neg z]⟩⟩
  · intro u w2 ⟨dn, z3, z6, z45⟩
    refine pA_seek_6 ⟨fun _ => ⟨q_fit11, ?_⟩, fun q => absurd (nI_le' (Nat.le_refl 24) (by omega)) q⟩
    have e6 : upd (u 61) 3 1 6 = (BS σ).2.2 := by rw [upd_ne _ _ (by decide)]; exact z6
    have z45' : ¬ (BS σ).2.2 ≤ 0 → upd (u 61) 3 1 4 = (BS σ).1 ∧ upd (u 61) 3 1 5 = (BS σ).2.1 := fun z => by
      rw [upd_ne _ _ (by decide), upd_ne _ _ (by decide)]; exact z45 z
    have dn2 : Dn σ (q_set u 61 (upd (u 61) 3 1)) := by
      refine dn.s61 (fun c hc => q_set_ne _ _ hc) (Or.inr ?_)
      rw [BS_cg (σ := σ) (s := q_set u 61 (upd (u 61) 3 1)) (fun c hc => by rw [q_set_ne _ _ (by omega)]; exact dn.1.L c hc) (dn.1 2 (by decide)) (dn.1 3 (by decide)) (dn.1 4 (by decide)) (dn.1 5 (by decide)), q_set_eq]
      exact ⟨upd_eq _ _ _, dn.2.2.1, e6, z45'⟩
    rw [e6]
    exact ⟨fun z => ⟨_, rfl, dn2, e6, z45', by rw [if_pos z]⟩, fun z => ⟨_, rfl, dn2, e6, z45', by rw [if_neg z]⟩⟩
  · intro x hx ih u w2 hz
    refine pA_seek_6 ⟨fun q => absurd q (nI_nle' (a := 24) (by omega) (by omega)), fun _ => ?_⟩
    have inn := up_loop (P := fun k => ∀ u, Zs σ u (bin (cA σ 0) (σ 4) (σ 5) (σ 3) (σ 2) x (bou (cA σ 0) (σ 4) (σ 5) (σ 3) (σ 2) x) k) → EV (d + 6) 64 8 [some (.inr 61), some (.inl (nI x)), some (.inl (nI (x + 1 + k)))] [] u (Qsk σ)) (n := 23 - x) ?_ ?_ 0 (by omega)
    · rw [nI_p1]; exact inn u hz
    · intro u hz
      refine pA_seek_8 ?_
      rw [show x + 1 + (23 - x) = 24 by omega, nI_p1]
      exact ⟨fun _ => ih u _ hz, fun q => absurd (nI_le' (Nat.le_refl 24) (by omega)) q⟩
    · intro k hk ih2 u hz
      have cx : (nI x).toNatClampNeg = x := cl_nI (by omega)
      have cy : (nI (x + 1 + k)).toNatClampNeg = x + 1 + k := cl_nI (by omega)
      have dn := hz.1
      refine pA_seek_8 ?_
      rw [cx, cy, nI_p1 (x + 1 + k), dn.day.1 x hx, dn.day.1 (x + 1 + k) (by omega)]
      rw [show x + 1 + (k + 1) = x + 1 + k + 1 by omega, bin] at ih2
      refine ⟨fun q => absurd q (nI_nle' (a := 24) (by omega) (by omega)), fun _ => ⟨vp_in_nI hx (by decide), vp_in_nI (by omega) (by decide), ⟨fun q1 => ih2 u ?_, fun q1 => ⟨fun q2 => ih2 u ?_, fun q2 => ⟨fun q3 => ih2 u ?_, fun q3 => ?_⟩⟩⟩⟩⟩
      · unfold bst; rw [if_pos (Or.inl q1)]; exact hz
      · unfold bst; rw [if_pos (Or.inr (Or.inl q2))]; exact hz
      · unfold bst; rw [if_pos (Or.inr (Or.inr q3))]; exact hz
      · refine ⟨_, EV.swapped dn hx (by omega), ?_⟩
        rintro y s2 ⟨kk, rfl, k1, k2, k3, hl⟩
        refine ⟨_, EV.trialS hI dn hx (by omega) k1 k2 k3 hl, ?_⟩
        rintro t ⟨ky, hv⟩
        refine ⟨_, (EV.weigh (d := d + 2) (hz.ky ky) hx (by omega) q1 q2 q3 hv), ?_⟩
        intro v hv2
        exact ih2 v hv2
def Bok (tr : Int32 × Int32 × Int32) : Prop := (tr.1 = -1 ∧ tr.2.2 = 0) ∨ ∃ p q, p < 24 ∧ q < 24 ∧ tr.1 = nI p ∧ tr.2.1 = nI q ∧ ¬ tr.2.2 ≤ 0
theorem bst_ok {A : Nat → (Nat → Int32) → Int32} {a n R f : Nat → Int32} {x y : Nat} {t : Int32 × Int32 × Int32} (h : Bok t) (hx : x < 24) (hy : y < 24) : Bok (bst A a n R f x y t) := by
  unfold bst
  by_cases h1 : f x = 12 ∨ f y = 12 ∨ f x = f y
  · rw [if_pos h1]; exact h
  rw [if_neg h1]
  generalize gn A a n R f x y (f x) + gn A a n R f x y (f y) = z
  by_cases h2 : gn A a n R f x y (f x) ≤ 0 ∨ gn A a n R f x y (f y) ≤ 0 ∨ z ≤ t.2.2
  · rw [if_pos h2]; exact h
  rw [if_neg h2]
  have h3 : ¬ z ≤ t.2.2 := fun q => h2 (Or.inr (Or.inr q))
  refine Or.inr ⟨x, y, hx, hy, rfl, rfl, ?_⟩
  show ¬ z ≤ 0
  rcases h with ⟨-, h⟩ | ⟨p, q, -, -, -, -, h⟩
  · rw [← h]; exact h3
  · intro w
    rw [i_le] at h3 h w
    omega
theorem bin_ok {A : Nat → (Nat → Int32) → Int32} {a n R f : Nat → Int32} {x : Nat} {t : Int32 × Int32 × Int32} (h : Bok t) : ∀ k, x + k < 24 → Bok (bin A a n R f x t k)
  | 0, _ => h
  | k + 1, hk => bst_ok (bin_ok h k (by omega)) (by omega) (by omega)
theorem bou_ok {A : Nat → (Nat → Int32) → Int32} {a n R f : Nat → Int32} : ∀ x, x ≤ 24 → Bok (bou A a n R f x)
  | 0, _ => Or.inl ⟨rfl, rfl⟩
  | x + 1, hx => bin_ok (bou_ok x (by omega)) _ (by omega)
/-- the reference's best swap -/
def Ms (σ s u : QS) (f : Nat → Int32) (tr : Int32 × Int32 × Int32) : Prop := Fmm s u ∧ vNow u (cA σ 0) (σ 4) (σ 5) (σ 3) f ∧ u 69 50 = tr.1 ∧ u 69 52 = tr.2.2 ∧ (¬ tr.1 = -1 → u 69 51 = tr.2.1)
set_option maxHeartbeats 1000000 in
theorem EV.laysB {d : Nat} {σ s : QS} {f : Nat → Int32} (hI : INV σ) (hs : Mc σ s) (ef : s 70 = f) (hf : ∀ h, h < 24 → ∃ o, o ≤ 12 ∧ f h = nI o) : EV (d + 7) 172 0 [some (.inr 69), none, none] [] s (qV (fun u => Ms σ s u f (bou (cA σ 0) (σ 4) (σ 5) (σ 3) f 24))) := by
  have out := up_loop (P := fun x => ∀ u w2, Ms σ s u f (bou (cA σ 0) (σ 4) (σ 5) (σ 3) f x) → EV (d + 7) 172 2 [some (.inr 69), some (.inl (nI x)), w2] [] u (qV (fun u => Ms σ s u f (bou (cA σ 0) (σ 4) (σ 5) (σ 3) f 24)))) (n := 24) ?_ ?_
  · refine pM_laysBestSwap_0 ?_
    rw [q_set_same]
    refine ⟨_, EV.laysV hI (hs.set (Or.inl rfl) _) (by rw [q_set_ne _ _ (by decide)]; exact ef) hf, ?_⟩
    rintro t ⟨g1, g2⟩
    refine out 0 (by omega) t none ⟨⟨fun c h1 h2 => ?_, fun k hk => ?_⟩, g2, ?_, ?_, fun z => absurd rfl z⟩
    · rw [g1 c (by omega), q_set_ne _ _ h1]
    · rw [g1 69 (by decide), q_set_eq, upd_ne _ _ (by omega), upd_ne _ _ (by omega)]
    · rw [g1 69 (by decide), q_set_eq, upd_ne _ _ (by decide), upd_eq]; rfl
    · rw [g1 69 (by decide), q_set_eq, upd_eq]; rfl
  · intro u w2 hz
    exact pM_laysBestSwap_2 ⟨fun _ => ⟨rfl, hz⟩, fun q => absurd (nI_le' (Nat.le_refl 24) (by omega)) q⟩
  · intro x hx ih u w2 hz
    refine pM_laysBestSwap_2 ⟨fun q => absurd q (nI_nle' (a := 24) (by omega) (by omega)), fun _ => ?_⟩
    have inn := up_loop (P := fun k => ∀ u, Ms σ s u f (bin (cA σ 0) (σ 4) (σ 5) (σ 3) f x (bou (cA σ 0) (σ 4) (σ 5) (σ 3) f x) k) → EV (d + 7) 172 4 [some (.inr 69), some (.inl (nI x)), some (.inl (nI (x + 1 + k)))] [] u (qV (fun u => Ms σ s u f (bou (cA σ 0) (σ 4) (σ 5) (σ 3) f 24)))) (n := 23 - x) ?_ ?_ 0 (by omega)
    · rw [nI_p1]; exact inn u hz
    · intro u hz
      refine pM_laysBestSwap_4 ?_
      rw [show x + 1 + (23 - x) = 24 by omega, nI_p1]
      exact ⟨fun _ => ih u _ hz, fun q => absurd (nI_le' (Nat.le_refl 24) (by omega)) q⟩
    · intro k hk ih2 u hz
      have cx : (nI x).toNatClampNeg = x := cl_nI (by omega)
      have cy : (nI (x + 1 + k)).toNatClampNeg = x + 1 + k := cl_nI (by omega)
      have hz' := hz
      obtain ⟨fm, vn, z50, z52, z51⟩ := hz'
      have u70 : u 70 = f := by rw [fm.1 70 (by decide) (by decide)]; exact ef
      have ix : vp_in (nI x) 24 := vp_in_nI hx (by decide)
      have iy : vp_in (nI (x + 1 + k)) 24 := vp_in_nI (by omega) (by decide)
      refine pM_laysBestSwap_4 ?_
      rw [cx, cy, nI_p1 (x + 1 + k), u70]
      rw [show x + 1 + (k + 1) = x + 1 + k + 1 by omega, bin] at ih2
      refine ⟨fun q => absurd q (nI_nle' (a := 24) (by omega) (by omega)), fun _ => ⟨ix, ⟨fun q1 => ih2 u ?_, fun q1 => ⟨iy, ⟨fun q2 => ih2 u ?_, fun q2 => ⟨ix, iy, ⟨fun q3 => ih2 u ?_, fun q3 => ?_⟩⟩⟩⟩⟩⟩⟩
      · unfold bst; rw [if_pos (Or.inl q1)]; exact hz
      · unfold bst; rw [if_pos (Or.inr (Or.inl q2))]; exact hz
      · unfold bst; rw [if_pos (Or.inr (Or.inr q3))]; exact hz
      · obtain ⟨p, hp, ep⟩ := own12 hf hx q1
        obtain ⟨q, hq, eq⟩ := own12 hf (show x + 1 + k < 24 by omega) q2
        refine ⟨_, EV.laysG hI (hs.tr fm.mc) u70 hf vn hx (show x + 1 + k < 24 by omega) hp hq ep eq, ?_⟩
        rintro v ⟨e47, e48, h1, h2⟩
        have fm2 : Fmm s v := fm.tr ⟨fun c k1 k2 => h1 c k1 (by omega), fun k hk => h2 k (by omega) (by omega)⟩
        have vn2 : vNow v (cA σ 0) (σ 4) (σ 5) (σ 3) f := fun o ho => by rw [h1 107 (by decide) (by decide)]; exact vn o ho
        have v50 := (h2 50 (by decide) (by decide)).trans z50
        have v52 := (h2 52 (by decide) (by decide)).trans z52
        have hz2 : Ms σ s v f (bin (cA σ 0) (σ 4) (σ 5) (σ 3) f x (bou (cA σ 0) (σ 4) (σ 5) (σ 3) f x) k) := ⟨fm2, vn2, v50, v52, fun z => (h2 51 (by decide) (by decide)).trans (z51 z)⟩
        unfold bst at ih2
        rw [if_neg (fun z => z.elim q1 (fun z => z.elim q2 q3))] at ih2
        rw [e47, e48, v52]
        generalize gn (cA σ 0) (σ 4) (σ 5) (σ 3) f x (x + 1 + k) (f x) = X at *
        generalize gn (cA σ 0) (σ 4) (σ 5) (σ 3) f x (x + 1 + k) (f (x + 1 + k)) = Y at *
        refine ⟨fun r1 => ih2 v ?_, fun r1 => ⟨fun r2 => ih2 v ?_, fun r2 => ⟨fun r3 => ?_, fun r3 => ih2 v ?_⟩⟩⟩
        · rw [if_pos (Or.inl r1)]; exact hz2
        · rw [if_pos (Or.inr (Or.inl r2))]; exact hz2
        · rw [q_set_same, q_set_same]
          refine ih2 _ ?_
          rw [if_neg (fun z => z.elim r1 (fun z => z.elim r2 (fun z => by rw [i_nlt] at z; exact z r3)))]
          refine ⟨⟨fun c k1 k2 => by rw [q_set_ne _ _ k1]; exact fm2.1 c k1 k2, fun k hk => ?_⟩, fun o ho => by rw [q_set_ne _ _ (by decide)]; exact vn2 o ho, ?_, ?_, fun _ => ?_⟩
          · rw [q_set_eq, upd_ne _ _ (by omega), upd_ne _ _ (by omega), upd_ne _ _ (by omega)]; exact fm2.2 k hk
          · rw [q_set_eq, upd_ne _ _ (by decide), upd_eq]
          · rw [q_set_eq, upd_ne _ _ (by decide), upd_ne _ _ (by decide), upd_eq]
          · rw [q_set_eq, upd_eq]
        · rw [if_pos (Or.inr (Or.inr ((i_nlt _ _).mpr r3)))]; exact hz2
theorem sim_bestSwap (σ : QS) (w : Int32) (hI : INV σ) : SimI 85 173 [some (.inr 0), some (.inl w)] [some (.inr 69), some (.inl w)] σ := by
  by_cases w0 : w < 0
  · exact SimI.no (-1) hI (pX_bestSwap_0 ⟨fun _ => (no2 _ _), fun z => absurd w0 z⟩) (pM_bestSwap_0 ⟨fun _ => (no2 _ _), fun z => absurd w0 z⟩)
  by_cases w1 : 2 < w
  · have wl : ¬ w ≤ 2 := fun q => (i_nlt _ _).mp q w1
    exact SimI.no (-1) hI (pX_bestSwap_0 ⟨fun z => absurd z w0, fun _ => ⟨fun z => absurd z wl, fun _ => (no2 _ _)⟩⟩) (pM_bestSwap_0 ⟨fun z => absurd z w0, fun _ => ⟨fun _ => (no2 _ _), fun z => absurd w1 z⟩⟩)
  obtain ⟨k, hk, rfl⟩ := ix_of' (n := 2) rfl (by decide) w0 w1
  have wl : nI k ≤ 2 := nI_le' (b := 2) hk (by decide)
  have ok := bou_ok (A := cA σ 0) (a := σ 4) (n := σ 5) (R := σ 3) (f := σ 2) 24 (by omega)
  refine SimI.q (if (BS σ).2.2 ≤ 0 then -2 else if k = 2 then (BS σ).2.2 else if k = 0 then (BS σ).1 else (BS σ).2.1) hI (pX_bestSwap_0 ⟨fun z => absurd z w0, fun _ => ⟨fun _ => ⟨_, EV.dayI hI, ?_⟩, fun z => absurd wl z⟩⟩) ?_
  · rintro s ⟨hn, -⟩
    refine ⟨_, EV.seekT hI.X hn, ?_⟩
    rintro y t ⟨dn, h6, h45, hy⟩
    by_cases c : (BS σ).2.2 ≤ 0
    · rw [if_pos c] at hy ⊢
      exact ⟨fun z => absurd hy z, fun _ => QX.mk dn rfl⟩
    · rw [if_neg c] at hy ⊢
      obtain ⟨h4, h5⟩ := h45 c
      refine ⟨fun _ => ?_, fun z => absurd (hy.symm.trans z) (by decide)⟩
      rcases (show k = 0 ∨ k = 1 ∨ k = 2 by omega) with rfl | rfl | rfl
      · exact ⟨fun _ => ⟨fun z => absurd rfl z, fun _ => QX.mk dn h4⟩, fun z => absurd z (by decide)⟩
      · exact ⟨fun _ => ⟨fun _ => QX.mk dn h5, fun z => absurd z (by decide)⟩, fun z => absurd z (by decide)⟩
      · exact ⟨fun z => absurd rfl z, fun _ => QX.mk dn h6⟩
  · intro s1 f1
    refine pM_bestSwap_0 ⟨fun z => absurd z w0, fun _ => ⟨fun z => absurd z w1, fun _ => ⟨_, EV.laysB hI f1.mc (hI.f f1.M) hI.fr, ?_⟩⟩⟩
    rintro u ⟨fm, -, z50, z52, z51⟩
    have e : bou (cA σ 0) (σ 4) (σ 5) (σ 3) (σ 2) 24 = BS σ := rfl
    rw [e] at z50 z52 z51 ok
    rcases ok with ⟨o1, o2⟩ | ⟨p, q, hp, hq, o1, o2, o3⟩
    · rw [if_pos (by rw [o2]; decide)]
      exact ⟨fun z => absurd (z50.trans o1) z, fun _ => QM2.mk fm rfl⟩
    · rw [if_neg o3]
      have n1 : ¬ (BS σ).1 = -1 := by rw [o1]; exact nI_nem (by omega)
      have z51 := z51 n1
      refine ⟨fun _ => ?_, fun z => absurd (z50.symm.trans z) n1⟩
      rcases (show k = 0 ∨ k = 1 ∨ k = 2 by omega) with rfl | rfl | rfl
      · exact ⟨fun z => absurd rfl z, fun _ => QM2.mk fm z50⟩
      · exact ⟨fun _ => ⟨fun z => absurd rfl z, fun _ => QM2.mk fm z51⟩, fun z => absurd z (by decide)⟩
      · exact ⟨fun _ => ⟨fun _ => QM2.mk fm z52, fun z => absurd z (by decide)⟩, fun z => absurd z (by decide)⟩
