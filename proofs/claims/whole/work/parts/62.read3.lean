/-! the class reads conditions -/
theorem EV.putG {ch : Nat → Int32} {N d : Nat} {σ : QS} {p z j : Nat} {x v : Int32} (h : St ch N σ p z) (hz : z < 200) (hj : j < 65536) (ex : x = nI j) : EV d 24 0 [some (.inr 31), some (.inl x), some (.inl v)] [] σ (qV (fun s => Fr σ s ∧ s 41 = σ 41 ∧ s 31 1 = nI (z + 1) ∧ s 32 = upd (σ 32) z x ∧ s 33 = upd (σ 33) z v)) := by
  refine pS_put_0 ?_
  rw [h.2.2.2.2.1, cl_nI (by omega), nI_p1]
  refine ⟨fun q => absurd q (nI_nle' (a := 200) (by omega) (by omega)), fun _ => ⟨vp_in_nI hz (by decide), vp_in_nI hz (by decide), rfl, ⟨fun c h1 h2 h3 h4 => by rw [q_set_ne _ _ h1, q_set_ne _ _ h3, q_set_ne _ _ h2], ?_, ?_⟩, ?_, ?_, ?_, ?_⟩⟩
  · rw [q_set_eq, upd_ne _ _ (by decide)]
  · rw [q_set_ne _ _ (by decide), q_set_ne _ _ (by decide), q_set_ne _ _ (by decide)]
  · rw [q_set_ne _ _ (by decide), q_set_ne _ _ (by decide), q_set_ne _ _ (by decide)]
  · rw [q_set_eq, upd_eq]
  · rw [q_set_ne _ _ (by decide), q_set_ne _ _ (by decide), q_set_eq, ex, nar_id hj]
  · rw [q_set_ne _ _ (by decide), q_set_eq]
theorem EV.passG {d : Nat} {s : QS} {z i : Nat} (hz : s 31 1 = nI z) (hi : i < z) (h2 : z ≤ 200) : EV d 25 0 [some (.inr 31), some (.inl (nI i))] [] s (qvs (q_set s 33 (upd (s 33) i (nI (z - 1))))) := by
  refine pS_pass_0 ?_
  rw [hz, cl_nI (by omega), show nI z - 1 = nI (z - 1) from pk_sub (b := 1) (by omega)]
  exact ⟨fun q => absurd q (nI_pos (by omega)), fun _ => ⟨fun q => absurd q (nI_nle' hi (by omega)), fun _ => ⟨vp_in_nI (by omega) (by decide), rfl, rfl⟩⟩⟩
theorem Out.jmp {ch : Nat → Int32} {s5 s7 s9 : QS} {r z sh op t : Nat} {x : Int32} {c : Cd} (hop : op = 11 ∨ op = 12) (ex : x = sgC op) (f7 : Fr s5 s7) (e41 : s7 41 = s5 41) (e32 : s7 32 = upd (s5 32) z x) (e33 : s7 33 = upd (s5 33) z 0) (h9 : Out ch s7 s9 r (z + 1) c sh) (ht : t + sh - 1 = z + c.length) : Out ch s5 (q_set s9 33 (upd (s9 33) z (nI (z + c.length)))) r z ((op, t) :: c) sh := by
  obtain ⟨k1, k2, k3, k4, k5, k6, k7⟩ := h9
  have f9 := f7.tr k1
  refine ⟨⟨fun e a1 a2 a3 a4 => by rw [q_set_ne _ _ a3]; exact f9.1 e a1 a2 a3 a4, ?_, ?_⟩, ?_, ?_, ?_, ?_, fun i hi => ⟨?_, ?_⟩, fun j y hy => ?_⟩
  · rw [q_set_ne _ _ (by decide)]; exact f9.2.1
  · rw [q_set_ne _ _ (by decide)]; exact f9.2.2
  · rw [q_set_ne _ _ (by decide)]; exact k2
  · rw [q_set_ne _ _ (by decide)]; exact k3
  · rw [q_set_ne _ _ (by decide), k4, e41]
  · rw [q_set_ne _ _ (by decide), k5, List.length_cons]
    congr 1
    omega
  · rw [q_set_ne _ _ (by decide), (k6 i (by omega)).1, e32, upd_ne _ _ (by omega)]
  · rw [q_set_eq, upd_ne _ _ (by omega), (k6 i (by omega)).2, e33, upd_ne _ _ (by omega)]
  · rcases j with _ | j
    · cases hy
      rw [q_set_ne _ _ (by decide), q_set_eq, Nat.add_zero, upd_eq, (k6 z (by omega)).1, e32, upd_eq]
      refine ⟨ex, ?_⟩
      unfold wtC
      rw [if_neg (by show ¬ op ≤ 1; omega), if_pos (by exact hop)]
      show nI (z + c.length) = nI (t + sh - 1)
      rw [ht]
    · rw [List.getElem?_cons_succ] at hy
      rw [q_set_ne _ _ (by decide), q_set_eq, upd_ne _ _ (by omega), show z + (j + 1) = z + 1 + j by omega]
      exact k7 j y hy
def KG2 (N : Nat) (K : Nat → Nat → Rs) : Prop := ∀ p a q c, a ≤ p → K p a = .ok (q, c) → p + c.length ≤ q ∧ p < q ∧ q ≤ N
theorem pce_kg {ch : Nat → Int32} {N : Nat} (hc : Ch ch N) (hN : N ≤ 200) (k : Nat) : KG2 N (pce ch N k) := fun p a q c ha h => by
  obtain ⟨h1, h2, h3, -⟩ := pce_ok hc hN k p a q c ha h
  exact ⟨h1, h2, h3⟩
theorem prt_kg {ch : Nat → Int32} {N : Nat} (hc : Ch ch N) (hN : N ≤ 200) (k : Nat) : KG2 N (prt ch N (pce ch N k)) := fun p a q c ha h => by
  obtain ⟨h1, h2, h3, -⟩ := prt_ok hN (pce_ok hc hN k) p a q c ha h
  exact ⟨h1, h2, h3⟩
theorem cnd_kg {ch : Nat → Int32} {N : Nat} (hc : Ch ch N) (hN : N ≤ 200) (k : Nat) : KG2 N (cnd ch N (pce ch N k)) := fun p a q c ha h => by
  obtain ⟨h1, h2, h3, -⟩ := cnd_ok hN (pce_ok hc hN k) p a q c ha h
  exact ⟨h1, h2, h3⟩
theorem EV.prtL {ch : Nat → Int32} {N d z sh a : Nat} {σ0 : QS} {p0 : Nat} {o : Int32} {K : Nat → Nat → Rs} (h0 : St ch N σ0 p0 z) (hza : z = a + sh) (hG : KG2 N K) (hK : ∀ σ p a z, St ch N σ p z → z = a + sh → EV (d + 5) 44 0 [some (.inr 41), some (.inl o), none, none] [] σ (PQ ch σ z sh (K p a))) : ∀ m i q acc s w4, i + m = N → Out ch σ0 s q z acc sh → z + acc.length ≤ q → q ≤ N → EV (d + 6) 43 2 [some (.inr 41), some (.inl o), some (.inl 1), some (.inl (nI i)), w4] [] s (PQ ch σ0 z sh (ptL ch K 38 11 a m q acc)) := by
  have hN := h0.1.2.1
  have bad : ∀ i s w4 e, Ef σ0 s e → EV (d + 6) 43 2 [some (.inr 41), some (.inl o), some (.inl 0), some (.inl i), w4] [] s (PQ ch σ0 z sh (.error e)) := fun i s w4 e he => pR_readPart_2 ⟨fun _ => ⟨Or.inl rfl, PQ.er he⟩, fun _ => ⟨fun _ => ⟨Or.inl rfl, PQ.er he⟩, fun q => absurd rfl q⟩⟩
  intro m
  induction m with
  | zero =>
    intro i q acc s w4 hi ho hz hq
    have hst := ho.st h0 hz hq
    refine pR_readPart_2 ?_
    rw [hst.2.1]
    exact ⟨fun _ => ⟨Or.inr rfl, PQ.ok ho⟩, fun q => absurd (nI_le' (by omega) (by omega)) q⟩
  | succ m ih =>
    intro i q acc s w4 hi ho hz hq
    have hst := ho.st h0 hz hq
    rw [ptL]
    refine pR_readPart_2 ?_
    rw [hst.2.1, hst.2.2.2.1, nI_p1, cs_eq (by decide) (by decide)]
    refine ⟨fun z => absurd z (nI_nle' (by omega) (by omega)), fun _ => ⟨fun z => absurd z (by decide), fun _ => ⟨fun c0 => ?_, fun c0 => ?_⟩⟩⟩
    · rw [if_neg c0]; exact ⟨Or.inr rfl, PQ.ok ho⟩
    · rw [if_pos c0]
      have hqN : q < N := h0.1.1.lt c0 (by decide)
      refine ⟨_, EV.nextR (sh := sh) hst hqN, fun s5 h5 => ?_⟩
      have hst5 : St ch N s5 (q + 1) (z + acc.length) := h5.st0 hst (by omega) hqN
      refine ⟨_, EV.putG (v := 0) hst5 (by omega) (j := 38) (by decide) rfl, ?_⟩
      rintro s7 ⟨f7, e41, e31, e32, e33⟩
      have hst7 : St ch N s7 (q + 1) (z + acc.length + 1) := by
        obtain ⟨⟨a1, a2, a3⟩, b1, b2, b3, b4, b5, b6⟩ := hst5
        exact ⟨⟨a1, a2, fun i hi => by rw [f7.1 12 (by decide) (by decide) (by decide) (by decide)]; exact a3 i hi⟩, by rw [e41]; exact b1, by rw [e41]; exact b2, by rw [e41]; exact b3, e31, by omega, b6⟩
      refine ⟨_, hK s7 (q + 1) (a + acc.length + 1) _ hst7 (by omega), fun y9 s9 h9 => ?_⟩
      rw [hst5.2.2.2.2.1]
      cases hk : K (q + 1) (a + acc.length + 1) with
      | error e =>
        rw [hk] at h9
        obtain ⟨rfl, he⟩ := h9
        have : Ef σ0 s9 e := ⟨((ho.t0 h5).1.tr f7).tr he.1, he.2⟩
        exact ⟨_, EV.passF this, fun s12 h12 => bad _ _ _ _ h12⟩
      | ok v =>
        obtain ⟨r, c⟩ := v
        rw [hk] at h9
        obtain ⟨rfl, h9⟩ := h9
        obtain ⟨g1, g2, g3⟩ := hG _ _ _ _ (by omega) hk
        refine ex_V (EV.passG h9.2.2.2.2.1 (by omega) (by omega)) ?_
        rw [show z + acc.length + 1 + c.length - 1 = z + acc.length + c.length by omega]
        have oj := Out.jmp (op := 11) (t := a + acc.length + 1 + c.length) (by decide) rfl f7 e41 e32 e33 h9 (by omega)
        have tot : Out ch σ0 _ r z (acc ++ (11, a + acc.length + 1 + c.length) :: c) sh := (ho.t0 h5).tr oj
        exact ih (i + 1) r _ _ _ (by omega) tot (by simp; omega) g3
theorem EV.cndL {ch : Nat → Int32} {N d z sh a : Nat} {σ0 : QS} {p0 : Nat} {o : Int32} {K : Nat → Nat → Rs} (h0 : St ch N σ0 p0 z) (hza : z = a + sh) (hG : KG2 N K) (hK : ∀ σ p a z, St ch N σ p z → z = a + sh → EV (d + 6) 43 0 [some (.inr 41), some (.inl o), none, none, none] [] σ (PQ ch σ z sh (K p a))) : ∀ m i q acc s w4, i + m = N → Out ch σ0 s q z acc sh → z + acc.length ≤ q → q ≤ N → EV (d + 7) 42 2 [some (.inr 41), some (.inl o), some (.inl 1), some (.inl (nI i)), w4] [] s (PQ ch σ0 z sh (ptL ch K 124 12 a m q acc)) := by
  have hN := h0.1.2.1
  have bad : ∀ i s w4 e, Ef σ0 s e → EV (d + 7) 42 2 [some (.inr 41), some (.inl o), some (.inl 0), some (.inl i), w4] [] s (PQ ch σ0 z sh (.error e)) := fun i s w4 e he => pR_readCondition_2 ⟨fun _ => ⟨Or.inl rfl, PQ.er he⟩, fun _ => ⟨fun _ => ⟨Or.inl rfl, PQ.er he⟩, fun q => absurd rfl q⟩⟩
  intro m
  induction m with
  | zero =>
    intro i q acc s w4 hi ho hz hq
    have hst := ho.st h0 hz hq
    refine pR_readCondition_2 ?_
    rw [hst.2.1]
    exact ⟨fun _ => ⟨Or.inr rfl, PQ.ok ho⟩, fun q => absurd (nI_le' (by omega) (by omega)) q⟩
  | succ m ih =>
    intro i q acc s w4 hi ho hz hq
    have hst := ho.st h0 hz hq
    rw [ptL]
    refine pR_readCondition_2 ?_
    rw [hst.2.1, hst.2.2.2.1, nI_p1, cs_eq (by decide) (by decide)]
    refine ⟨fun z => absurd z (nI_nle' (by omega) (by omega)), fun _ => ⟨fun z => absurd z (by decide), fun _ => ⟨fun c0 => ?_, fun c0 => ?_⟩⟩⟩
    · rw [if_neg c0]; exact ⟨Or.inr rfl, PQ.ok ho⟩
    · rw [if_pos c0]
      have hqN : q < N := h0.1.1.lt c0 (by decide)
      refine ⟨_, EV.nextR (sh := sh) hst hqN, fun s5 h5 => ?_⟩
      have hst5 : St ch N s5 (q + 1) (z + acc.length) := h5.st0 hst (by omega) hqN
      refine ⟨_, EV.putG (v := 0) hst5 (by omega) (j := 124) (by decide) rfl, ?_⟩
      rintro s7 ⟨f7, e41, e31, e32, e33⟩
      have hst7 : St ch N s7 (q + 1) (z + acc.length + 1) := by
        obtain ⟨⟨a1, a2, a3⟩, b1, b2, b3, b4, b5, b6⟩ := hst5
        exact ⟨⟨a1, a2, fun i hi => by rw [f7.1 12 (by decide) (by decide) (by decide) (by decide)]; exact a3 i hi⟩, by rw [e41]; exact b1, by rw [e41]; exact b2, by rw [e41]; exact b3, e31, by omega, b6⟩
      refine ⟨_, hK s7 (q + 1) (a + acc.length + 1) _ hst7 (by omega), fun y9 s9 h9 => ?_⟩
      rw [hst5.2.2.2.2.1]
      cases hk : K (q + 1) (a + acc.length + 1) with
      | error e =>
        rw [hk] at h9
        obtain ⟨rfl, he⟩ := h9
        have : Ef σ0 s9 e := ⟨((ho.t0 h5).1.tr f7).tr he.1, he.2⟩
        exact ⟨_, EV.passF this, fun s12 h12 => bad _ _ _ _ h12⟩
      | ok v =>
        obtain ⟨r, c⟩ := v
        rw [hk] at h9
        obtain ⟨rfl, h9⟩ := h9
        obtain ⟨g1, g2, g3⟩ := hG _ _ _ _ (by omega) hk
        refine ex_V (EV.passG h9.2.2.2.2.1 (by omega) (by omega)) ?_
        rw [show z + acc.length + 1 + c.length - 1 = z + acc.length + c.length by omega]
        have oj := Out.jmp (op := 12) (t := a + acc.length + 1 + c.length) (by decide) rfl f7 e41 e32 e33 h9 (by omega)
        have tot : Out ch σ0 _ r z (acc ++ (12, a + acc.length + 1 + c.length) :: c) sh := (ho.t0 h5).tr oj
        exact ih (i + 1) r _ _ _ (by omega) tot (by simp; omega) g3
theorem EV.prtR {ch : Nat → Int32} {N d sh : Nat} {o : Int32} {K : Nat → Nat → Rs} (hG : KG2 N K) (hK : ∀ σ p a z, St ch N σ p z → z = a + sh → EV (d + 5) 44 0 [some (.inr 41), some (.inl o), none, none] [] σ (PQ ch σ z sh (K p a))) {σ : QS} {p a z : Nat} (h : St ch N σ p z) (hza : z = a + sh) : EV (d + 6) 43 0 [some (.inr 41), some (.inl o), none, none, none] [] σ (PQ ch σ z sh (prt ch N K p a)) := by
  have hz := h.2.2.2.2.2.1
  refine pR_readPart_0 ⟨_, hK σ p a z h hza, fun y s hy => ?_⟩
  unfold prt
  cases hk : K p a with
  | error e =>
    rw [hk] at hy
    obtain ⟨rfl, he⟩ := hy
    exact pR_readPart_2 ⟨fun _ => ⟨Or.inl rfl, PQ.er he⟩, fun _ => ⟨fun _ => ⟨Or.inl rfl, PQ.er he⟩, fun q => absurd rfl q⟩⟩
  | ok v =>
    obtain ⟨q, c⟩ := v
    rw [hk] at hy
    obtain ⟨rfl, ho⟩ := hy
    obtain ⟨g1, g2, g3⟩ := hG _ _ _ _ (by omega) hk
    exact EV.prtL h hza hG hK N 0 q c s _ (by omega) ho (by omega) g3
theorem EV.cndR {ch : Nat → Int32} {N d sh : Nat} {o : Int32} {K : Nat → Nat → Rs} (hG : KG2 N (prt ch N K)) (hK : ∀ σ p a z, St ch N σ p z → z = a + sh → EV (d + 6) 43 0 [some (.inr 41), some (.inl o), none, none, none] [] σ (PQ ch σ z sh ((prt ch N K) p a))) {σ : QS} {p a z : Nat} (h : St ch N σ p z) (hza : z = a + sh) : EV (d + 7) 42 0 [some (.inr 41), some (.inl o), none, none, none] [] σ (PQ ch σ z sh (cnd ch N K p a)) := by
  have hz := h.2.2.2.2.2.1
  refine pR_readCondition_0 ⟨_, hK σ p a z h hza, fun y s hy => ?_⟩
  unfold cnd
  cases hk : (prt ch N K) p a with
  | error e =>
    rw [hk] at hy
    obtain ⟨rfl, he⟩ := hy
    exact pR_readCondition_2 ⟨fun _ => ⟨Or.inl rfl, PQ.er he⟩, fun _ => ⟨fun _ => ⟨Or.inl rfl, PQ.er he⟩, fun q => absurd rfl q⟩⟩
  | ok v =>
    obtain ⟨q, c⟩ := v
    rw [hk] at hy
    obtain ⟨rfl, ho⟩ := hy
    obtain ⟨g1, g2, g3⟩ := hG _ _ _ _ (by omega) hk
    exact EV.cndL h hza hG hK N 0 q c s _ (by omega) ho (by omega) g3
theorem EV.cmpR {ch : Nat → Int32} {N d : Nat} {σ : QS} {p z sh : Nat} (h : St ch N σ p z) : EV (d + 1) 45 0 [some (.inr 41)] [] σ (qI (fun y s => (¬ cmpO (ch p) = 0 ∧ y = 1 ∧ Out ch σ s (p + 1) z [] sh) ∨ (cmpO (ch p) = 0 ∧ y = 0 ∧ Ef σ s (flt 1 p)))) := by
  have go : ¬ cmpO (ch p) = 0 → ∃ R2 : QS → Prop, EV d 36 0 [some (.inr 41)] [] σ (qV R2) ∧ ∀ s3, R2 s3 → qI (fun y s => (¬ cmpO (ch p) = 0 ∧ y = 1 ∧ Out ch σ s (p + 1) z [] sh) ∨ (cmpO (ch p) = 0 ∧ y = 0 ∧ Ef σ s (flt 1 p))) (some 1) s3 := fun q => ⟨_, EV.nextR (sh := sh) h (h.1.1.lt rfl (cmpO_r q).2.2.1), fun s hs => ⟨1, rfl, Or.inl ⟨q, rfl, hs⟩⟩⟩
  refine pR_comparison_0 ?_
  rw [h.2.2.2.1, cs_eq (by decide) (by decide), cs_eq (by decide) (by decide), cs_eq (by decide) (by decide)]
  refine ⟨fun q => go (by rw [q]; decide), fun q1 => ⟨fun q => go (by rw [q]; decide), fun q2 => ⟨fun q => go (by rw [q]; decide), fun q3 => ⟨_, EV.failR (k := 1) h, ?_⟩⟩⟩⟩
  rintro y s ⟨rfl, he⟩
  refine ⟨Or.inl rfl, 0, rfl, Or.inr ⟨?_, rfl, he⟩⟩
  unfold cmpO
  rw [if_neg q1, if_neg q2, if_neg q3]
/-- a bracket, with k levels left -/
def bkt (ch : Nat → Int32) (N k p a : Nat) : Rs := if ch p = 40 then (match k with
    | 0 => .error (flt 5 p)
    | k + 1 => (match cnd ch N (pce ch N k) (p + 1) a with
      | .ok (q, c) => if ch q = 41 then .ok (q + 1, c) else .error (flt 1 q)
      | .error e => .error e)) else .error (flt 1 p)
theorem EV.bktR {ch : Nat → Int32} {N sh k d : Nat} (hc : Ch ch N) (hN : N ≤ 200) (hk : k ≤ 6) (hd : 8 ≤ d + 1) (hC : ∀ k', k = k' + 1 → ∀ σ p a z, St ch N σ p z → z = a + sh → EV d 42 0 [some (.inr 41), some (.inl (nI (6 - k'))), none, none, none] [] σ (PQ ch σ z sh (cnd ch N (pce ch N k') p a))) {σ : QS} {p a z : Nat} (h : St ch N σ p z) (hza : z = a + sh) : EV (d + 1) 41 0 [some (.inr 41), some (.inl (nI (6 - k)))] [] σ (PQ ch σ z sh (bkt ch N k p a)) := by
  have hz := h.2.2.2.2.2.1
  obtain ⟨d, rfl⟩ : ∃ d', d = d' + 7 := ⟨d - 7, by omega⟩
  refine pR_readBracket_0 ⟨_, EV.opensR (d := d + 6) (sh := sh) h (by decide) (by decide) (by omega), ?_⟩
  unfold bkt
  rintro y s (⟨q, c, rfl, h1⟩ | ⟨q, c, rfl, he⟩ | ⟨q, rfl, he⟩)
  · rw [if_pos q]
    obtain ⟨k', rfl⟩ : ∃ k', k = k' + 1 := ⟨k - 1, by omega⟩
    dsimp only
    have hp : p < N := hc.lt q (by decide)
    have hst1 : St ch N s (p + 1) z := h1.st0 h (by omega) hp
    refine ⟨fun z => absurd z (by decide), fun _ => ?_⟩
    rw [nI_p1, show 6 - (k' + 1) + 1 = 6 - k' by omega]
    refine ⟨_, hC k' rfl s (p + 1) a z hst1 hza, fun y2 s2 h2 => ?_⟩
    cases hs : cnd ch N (pce ch N k') (p + 1) a with
    | error e =>
      rw [hs] at h2
      obtain ⟨rfl, he⟩ := h2
      exact ⟨fun _ => PQ.er (h1.ef he), fun z => absurd rfl z⟩
    | ok v =>
      obtain ⟨q2, c⟩ := v
      rw [hs] at h2
      obtain ⟨rfl, h2⟩ := h2
      obtain ⟨g1, g2, g3⟩ := cnd_kg hc hN k' _ _ _ _ (by omega) hs
      refine ⟨fun z => absurd z (by decide), fun _ => ⟨_, EV.passesR (d := d + 6) (sh := sh) (h2.st hst1 (by omega) g3) (by decide) (by decide), ?_⟩⟩
      dsimp only
      rintro y3 s3 (⟨e41, rfl, h3⟩ | ⟨e41, rfl, he⟩)
      · rw [if_pos e41]
        exact ⟨fun z => absurd z (by decide), fun _ => PQ.ok ((h1.tr0 h2).t0 h3)⟩
      · rw [if_neg e41]
        exact ⟨fun _ => PQ.er ((h1.tr0 h2).ef he), fun z => absurd rfl z⟩
  · rw [if_pos q]
    have : k = 0 := by omega
    subst this
    exact ⟨fun _ => PQ.er he, fun z => absurd rfl z⟩
  · rw [if_neg q]
    exact ⟨fun _ => PQ.er he, fun z => absurd rfl z⟩
theorem EV.cprR {ch : Nat → Int32} {N sh k d : Nat} (hc : Ch ch N) (hk : k ≤ 6) (hd : 6 + 3 * k ≤ d) {σ : QS} {p z : Nat} (h : St ch N σ p z) (h40 : ¬ ch p = 40) (h33 : ¬ ch p = 33) : EV d 44 0 [some (.inr 41), some (.inl (nI (6 - k))), none, none] [] σ (PQ ch σ z sh (cpr ch N k p)) := by
  have hz := h.2.2.2.2.2.1
  have hN := h.1.2.1
  obtain ⟨d, rfl⟩ : ∃ d', d = d' + 5 := ⟨d - 5, by omega⟩
  refine pR_readPiece_0 ?_
  rw [h.2.2.2.1, cs_eq (by decide) (by decide), cs_eq (by decide) (by decide)]
  refine ⟨fun _ => ⟨fun _ => ⟨_, EV.sumR (sh := sh) hc k (d + 4) hk (by omega) h, fun y s hy => ?_⟩, fun q => absurd q h33⟩, fun q => absurd q h40⟩
  unfold cpr
  cases hs : smm ch N (fct ch N k) p with
  | error e =>
    rw [hs] at hy
    obtain ⟨rfl, he⟩ := hy
    exact ⟨fun _ => ⟨_, EV.putF he, fun t ht => PQ.er ht⟩, fun q => absurd rfl q⟩
  | ok v =>
    obtain ⟨q1, c1⟩ := v
    rw [hs] at hy
    obtain ⟨rfl, h1⟩ := hy
    obtain ⟨g1, g2, g3⟩ := smm_kg hc k _ _ _ hs
    have hst1 := h1.st h (by omega) g3
    refine ⟨fun q => absurd q (by decide), fun _ => ⟨_, EV.cmpR (sh := sh) hst1, ?_⟩⟩
    rw [hst1.2.2.2.1]
    dsimp only
    rintro y2 s2 (⟨q, rfl, h2⟩ | ⟨q, rfl, he⟩)
    · rw [if_neg q]
      have hq1 : q1 < N := hc.lt rfl (cmpO_r q).2.2.1
      have hst2 := h2.st0 hst1 (by omega) hq1
      refine ⟨fun q => absurd q (by decide), fun _ => ⟨_, EV.sumR (sh := sh) hc k (d + 4) hk (by omega) hst2, fun y3 s3 h3 => ?_⟩⟩
      cases hs2 : smm ch N (fct ch N k) (q1 + 1) with
      | error e =>
        rw [hs2] at h3
        obtain ⟨rfl, he⟩ := h3
        exact ⟨fun _ => ⟨_, EV.putF ((h1.t0 h2).ef he), fun t ht => PQ.er ht⟩, fun q => absurd rfl q⟩
      | ok v =>
        obtain ⟨q3, c3⟩ := v
        rw [hs2] at h3
        obtain ⟨rfl, h3⟩ := h3
        obtain ⟨k1, k2, k3⟩ := smm_kg hc k _ _ _ hs2
        obtain ⟨r1, r2, -, -⟩ := cmpO_r q
        obtain ⟨j, hj, ej⟩ := cs_b hc q1
        refine ⟨fun q => absurd q (by decide), fun _ => ⟨_, EV.putR (sh := sh) (op := cmpO (ch q1)) (ar := 0) (h3.st hst2 (by omega) k3) (by omega) (j := j) (by omega) ej (sgC_cmp q).1 (wt0 (by omega) (by omega)), fun t ht => PQ.ok ?_⟩⟩
        have := ((h1.t0 h2).tr h3).tr (c2 := [(cmpO (ch q1), 0)]) (by rw [List.length_append, ← Nat.add_assoc]; exact ht)
        exact this
    · rw [if_pos q]
      exact ⟨fun _ => ⟨_, EV.putF (h1.ef he), fun t ht => PQ.er ht⟩, fun q => absurd rfl q⟩
theorem pce_bkt {ch : Nat → Int32} {N k p a : Nat} (h : ch p = 40) : pce ch N k p a = bkt ch N k p a := by
  cases k with
  | zero => rw [pce, if_pos h]; unfold bkt; rw [if_pos h]
  | succ k =>
    rw [pce, if_pos h]
    unfold bkt
    rw [if_pos h]
    rfl
theorem EV.pceR {ch : Nat → Int32} {N sh : Nat} (hc : Ch ch N) (hN : N ≤ 200) : ∀ k d σ p a z, k ≤ 6 → 9 + 4 * k ≤ d → St ch N σ p z → z = a + sh → EV d 44 0 [some (.inr 41), some (.inl (nI (6 - k))), none, none] [] σ (PQ ch σ z sh (pce ch N k p a)) := by
  intro k
  induction k with
  | zero =>
    intro d σ p a z hk hd h hza
    by_cases q : ch p = 40
    · rw [pce_bkt q]
      obtain ⟨d, rfl⟩ : ∃ d', d = d' + 5 := ⟨d - 5, by omega⟩
      refine pR_readPiece_0 ?_
      rw [h.2.2.2.1, cs_eq (by decide) (by decide), cs_eq (by decide) (by decide)]
      refine ⟨fun z => absurd q z, fun _ => ⟨_, EV.bktR (d := d + 3) (sh := sh) (k := 0) hc hN (by omega) (by omega) (fun k' e => absurd e (by omega)) h hza, fun y s hy => ?_⟩⟩
      cases hb : bkt ch N 0 p a with
      | error e => rw [hb] at hy; obtain ⟨rfl, he⟩ := hy; exact ⟨Or.inl rfl, PQ.er he⟩
      | ok v => rw [hb] at hy; obtain ⟨rfl, he⟩ := hy; exact ⟨Or.inr rfl, PQ.ok he⟩
    · rw [pce, if_neg q]
      by_cases q2 : ch p = 33
      · rw [if_pos q2]
        obtain ⟨d, rfl⟩ : ∃ d', d = d' + 5 := ⟨d - 5, by omega⟩
        refine pR_readPiece_0 ?_
        rw [h.2.2.2.1, cs_eq (by decide) (by decide), cs_eq (by decide) (by decide)]
        refine ⟨fun _ => ⟨fun z => absurd q2 z, fun _ => ⟨_, EV.opensR (d := d + 3) (sh := sh) (o := 6) h (by decide) (by decide) (by omega), ?_⟩⟩, fun z => absurd z q⟩
        rintro y s (⟨-, c, -⟩ | ⟨-, -, rfl, he⟩ | ⟨c, -⟩)
        · exact absurd c (by decide)
        · exact ⟨fun _ => ⟨_, EV.putF he, fun t ht => PQ.er ht⟩, fun z => absurd rfl z⟩
        · exact absurd q2 c
      · rw [if_neg q2]
        exact EV.cprR hc (by omega) (by omega) h q q2
  | succ k ih =>
    intro d σ p a z hk hd h hza
    have hz := h.2.2.2.2.2.1
    by_cases q : ch p = 40
    · rw [pce_bkt q]
      obtain ⟨d, rfl⟩ : ∃ d', d = d' + 5 := ⟨d - 5, by omega⟩
      refine pR_readPiece_0 ?_
      rw [h.2.2.2.1, cs_eq (by decide) (by decide), cs_eq (by decide) (by decide)]
      refine ⟨fun z => absurd q z, fun _ => ⟨_, EV.bktR (d := d + 3) (sh := sh) (k := k + 1) hc hN (by omega) (by omega) ?_ h hza, fun y s hy => ?_⟩⟩
      · intro k' e σ p a z h hza
        obtain rfl : k = k' := by omega
        obtain ⟨d2, rfl⟩ : ∃ d', d = d' + 4 := ⟨d - 4, by omega⟩
        exact EV.cndR (d := d2) (K := pce ch N k) (prt_kg hc hN k) (fun σ p a z h hza => EV.prtR (d := d2) (K := pce ch N k) (pce_kg hc hN k) (fun σ p a z h hza => (ih (d2 + 5) σ p a z (by omega) (by omega) h hza)) h hza) h hza
      · cases hb : bkt ch N (k + 1) p a with
        | error e => rw [hb] at hy; obtain ⟨rfl, he⟩ := hy; exact ⟨Or.inl rfl, PQ.er he⟩
        | ok v => rw [hb] at hy; obtain ⟨rfl, he⟩ := hy; exact ⟨Or.inr rfl, PQ.ok he⟩
    · rw [pce, if_neg q]
      by_cases q2 : ch p = 33
      · rw [if_pos q2]
        have hp : p < N := hc.lt q2 (by decide)
        obtain ⟨d, rfl⟩ : ∃ d', d = d' + 5 := ⟨d - 5, by omega⟩
        refine pR_readPiece_0 ?_
        rw [h.2.2.2.1, cs_eq (by decide) (by decide), cs_eq (by decide) (by decide)]
        refine ⟨fun _ => ⟨fun z => absurd q2 z, fun _ => ⟨_, EV.opensR (d := d + 3) (sh := sh) (o := 6 - (k + 1)) h (by decide) (by decide) (by omega), ?_⟩⟩, fun z => absurd z q⟩
        rintro y s (⟨-, -, rfl, h1⟩ | ⟨-, c, -⟩ | ⟨c, -⟩)
        · have hst1 : St ch N s (p + 1) z := h1.st0 h (by omega) hp
          refine ⟨fun z => absurd z (by decide), fun _ => ?_⟩
          rw [nI_p1, show 6 - (k + 1) + 1 = 6 - k by omega]
          refine ⟨_, ih (d + 4) s (p + 1) a z (by omega) (by omega) hst1 hza, fun y2 s2 h2 => ?_⟩
          cases hs : pce ch N k (p + 1) a with
          | error e =>
            rw [hs] at h2
            obtain ⟨rfl, he⟩ := h2
            exact ⟨fun _ => ⟨_, EV.putF (h1.ef he), fun t ht => PQ.er ht⟩, fun q => absurd rfl q⟩
          | ok v =>
            obtain ⟨q3, c3⟩ := v
            rw [hs] at h2
            obtain ⟨rfl, h2⟩ := h2
            obtain ⟨k1, k2, k3⟩ := pce_kg hc hN k _ _ _ _ (by omega) hs
            have e33 : cs (ch p) = 33 := (cs_eq (by decide) (by decide)).mpr q2
            refine ⟨fun q => absurd q (by decide), fun _ => ⟨_, EV.putR (sh := sh) (op := 10) (ar := 0) (h2.st hst1 (by omega) k3) (by omega) (j := 33) (by decide) e33 e33 (wt0 (by omega) (by omega)), fun t ht => PQ.ok ?_⟩⟩
            exact (h1.tr0 h2).tr ht
        · omega
        · exact absurd q2 c
      · rw [if_neg q2]
        exact EV.cprR hc (by omega) (by omega) h q q2
theorem brk_bkt {ch : Nat → Int32} {N p a : Nat} : brk ch N p a = bkt ch N 6 p a := rfl
theorem EV.brkR {ch : Nat → Int32} {N sh d : Nat} (hc : Ch ch N) (hN : N ≤ 200) (hd : 32 ≤ d) {σ : QS} {p a z : Nat} (h : St ch N σ p z) (hza : z = a + sh) : EV d 41 0 [some (.inr 41), some (.inl 0)] [] σ (PQ ch σ z sh (brk ch N p a)) := by
  rw [brk_bkt]
  obtain ⟨d, rfl⟩ : ∃ d', d = d' + 8 := ⟨d - 8, by omega⟩
  refine EV.bktR (d := d + 7) (sh := sh) (k := 6) hc hN (by omega) (by omega) ?_ h hza
  intro k' e σ p a z h hza
  obtain rfl : 5 = k' := by omega
  exact EV.cndR (d := d) (K := pce ch N 5) (prt_kg hc hN 5) (fun σ p a z h hza => EV.prtR (d := d) (K := pce ch N 5) (pce_kg hc hN 5) (fun σ p a z h hza => EV.pceR hc hN 5 (d + 5) σ p a z (by omega) (by omega) h hza) h hza) h hza
