theorem Out.st0 {ch : Nat → Int32} {N : Nat} {σ s : QS} {p q z sh : Nat} (h : St ch N σ p z) (k : Out ch σ s q z [] sh) (h1 : z ≤ q) (h2 : q ≤ N) : St ch N s q z := Out.st (c := []) h k h1 h2
theorem EV.nextR' {ch : Nat → Int32} {N d : Nat} {σ : QS} {p z sh : Nat} (ht : Tx σ ch N) (h1 : σ 41 2 = nI N) (h2 : σ 41 3 = nI p) (h3 : σ 31 1 = nI z) (hp : p < N) : EV d 36 0 [some (.inr 41)] [] σ (qV (fun s => Out ch σ s (p + 1) z [] sh)) := by
  obtain ⟨a1, a2, a3⟩ := ht
  have e3 : upd (σ 41) 3 (σ 41 3 + 1) 3 = nI (p + 1) := by rw [upd_eq, h2, nI_p1]
  have e2 : upd (σ 41) 3 (σ 41 3 + 1) 2 = nI N := by rw [upd_ne _ _ (by decide)]; exact h1
  have fin : ∀ x, x = cs (ch (p + 1)) → qV (fun s => Out ch σ s (p + 1) z [] sh) none (q_set (q_set σ 41 (upd (σ 41) 3 (σ 41 3 + 1))) 41 (upd (upd (σ 41) 3 (σ 41 3 + 1)) 4 x)) := by
    intro x hx
    rw [q_set_same]
    refine ⟨rfl, ⟨fun c h1 h2 h3 h4 => q_set_ne _ _ h4, ?_, ?_⟩, ?_, ?_, ?_, ?_, fun i hi => ⟨?_, ?_⟩, fun j x hx => by cases hx⟩
    · rw [q_set_ne _ _ (by decide)]
    · rw [q_set_eq, upd_ne _ _ (by decide), upd_ne _ _ (by decide)]
    · rw [q_set_eq, upd_ne _ _ (by decide)]; exact e3
    · rw [q_set_eq, upd_eq]; exact hx
    · rw [q_set_eq, upd_ne _ _ (by decide), upd_ne _ _ (by decide)]
    · rw [q_set_ne _ _ (by decide)]; exact h3
    · rw [q_set_ne _ _ (by decide)]
    · rw [q_set_ne _ _ (by decide)]
  refine pR_next_0 ?_
  rw [e2, e3]
  refine ⟨fun q => ⟨fit2 (j := 0) (by decide), fin 0 ?_⟩, fun q => ?_⟩
  · have : N ≤ p + 1 := (nI_leI (by omega) (by omega)).mp q
    rw [a1.1 _ this]
    rfl
  · have hn : p + 1 < N := by
      rcases Nat.lt_or_ge (p + 1) N with w | w
      · exact w
      · exact absurd (nI_le' w (by omega)) q
    obtain ⟨j, hj, ej⟩ := a1.2 (p + 1) hn
    rw [cl_nI (by omega), a3 _ hn, ej, chr_id j hj]
    refine ⟨vp_in_nI (by omega) (by decide), fit2 (by omega), fin _ ?_⟩
    rw [ej]
    unfold cs
    rw [if_neg (nI_nem (by omega))]
theorem ix_fac (c : Int32) : q_ix (q_txt 121) (cs c) 0 = (match facO c with
  | some x => nI x
  | none => -1) := by
  by_cases h : c = -1
  · subst h; decide
  have e : cs c = c := by unfold cs; rw [if_neg h]
  rw [e]
  by_cases h0 : c = 107
  · subst h0; decide
  by_cases h1 : c = 97
  · subst h1; decide
  by_cases h2 : c = 114
  · subst h2; decide
  by_cases h3 : c = 115
  · subst h3; decide
  by_cases h4 : c = 100
  · subst h4; decide
  by_cases h5 : c = 104
  · subst h5; decide
  by_cases h6 : c = 116
  · subst h6; decide
  by_cases h7 : c = 111
  · subst h7; decide
  by_cases h8 : c = 112
  · subst h8; decide
  have e1 : facO c = none := by unfold facO; rw [if_neg h0, if_neg h1, if_neg h2, if_neg h3, if_neg h4, if_neg h5, if_neg h6, if_neg h7, if_neg h8]
  rw [e1]
  show q_ix [107, 97, 114, 115, 100, 104, 116, 111, 112] c 0 = -1
  simp only [q_ix]
  rw [if_neg (fun z => h0 z.symm), if_neg (fun z => h1 z.symm), if_neg (fun z => h2 z.symm), if_neg (fun z => h3 z.symm), if_neg (fun z => h4 z.symm), if_neg (fun z => h5 z.symm), if_neg (fun z => h6 z.symm), if_neg (fun z => h7 z.symm), if_neg (fun z => h8 z.symm)]
theorem ix_let (c : Int32) : q_ix (q_txt 120) (cs c) 0 = (match ltO c with
  | some x => nI x
  | none => -1) := by
  by_cases h : c = -1
  · subst h; decide
  have e : cs c = c := by unfold cs; rw [if_neg h]
  rw [e]
  by_cases h0 : c = 110
  · subst h0; decide
  by_cases h1 : c = 115
  · subst h1; decide
  by_cases h2 : c = 100
  · subst h2; decide
  by_cases h3 : c = 104
  · subst h3; decide
  by_cases h4 : c = 119
  · subst h4; decide
  by_cases h5 : c = 102
  · subst h5; decide
  by_cases h6 : c = 99
  · subst h6; decide
  have e1 : ltO c = none := by unfold ltO; rw [if_neg h0, if_neg h1, if_neg h2, if_neg h3, if_neg h4, if_neg h5, if_neg h6]
  rw [e1]
  show q_ix [110, 115, 100, 104, 119, 102, 99] c 0 = -1
  simp only [q_ix]
  rw [if_neg (fun z => h0 z.symm), if_neg (fun z => h1 z.symm), if_neg (fun z => h2 z.symm), if_neg (fun z => h3 z.symm), if_neg (fun z => h4 z.symm), if_neg (fun z => h5 z.symm), if_neg (fun z => h6 z.symm)]
theorem sgC_mul {c : Int32} (h : ¬ mulO c = 0) : cs c = sgC (mulO c) ∧ wtC 0 (mulO c, 0) = 0 := by
  obtain ⟨h1, h2, h3, h4⟩ := mulO_r h
  refine ⟨?_, ?_⟩
  · unfold cs sgC
    rw [if_neg h3, if_neg (by omega), if_neg (by omega), if_neg (by omega), if_neg (by omega), if_neg (by omega)]
    exact h4.symm
  · unfold wtC
    rw [if_neg (by show ¬ mulO c ≤ 1; omega), if_neg (by show ¬ (mulO c = 11 ∨ mulO c = 12); omega)]
theorem sgC_sum {c : Int32} (h : ¬ sumO c = 0) : cs c = sgC (sumO c) ∧ wtC 0 (sumO c, 0) = 0 := by
  obtain ⟨h1, h2, h3, h4⟩ := sumO_r h
  refine ⟨?_, ?_⟩
  · unfold cs sgC
    rw [if_neg h3, if_neg (by omega), if_neg (by omega), if_neg (by omega), if_neg (by omega), if_neg (by omega)]
    exact h4.symm
  · unfold wtC
    rw [if_neg (by show ¬ sumO c ≤ 1; omega), if_neg (by show ¬ (sumO c = 11 ∨ sumO c = 12); omega)]
theorem sgC_cmp {c : Int32} (h : ¬ cmpO c = 0) : cs c = sgC (cmpO c) ∧ wtC 0 (cmpO c, 0) = 0 := by
  obtain ⟨h1, h2, h3, h4⟩ := cmpO_r h
  refine ⟨?_, ?_⟩
  · unfold cs sgC
    rw [if_neg h3, if_neg (by omega), if_neg (by omega), if_neg (by omega), if_neg (by omega), if_neg (by omega)]
    exact h4.symm
  · unfold wtC
    rw [if_neg (by show ¬ cmpO c ≤ 1; omega), if_neg (by show ¬ (cmpO c = 11 ∨ cmpO c = 12); omega)]
theorem wt0 {sh op : Nat} (h : 2 ≤ op) (h2 : op ≤ 10) : (0 : Int32) = wtC sh (op, 0) := by
  unfold wtC
  rw [if_neg (by show ¬ op ≤ 1; omega), if_neg (by show ¬ (op = 11 ∨ op = 12); omega)]
/-- what a piece of the TEXT is read to keeps within it -/
def KG (N : Nat) (K : Nat → Rs) : Prop := ∀ p q c, K p = .ok (q, c) → p + c.length ≤ q ∧ p < q ∧ q ≤ N
theorem fct_kg {ch : Nat → Int32} {N : Nat} (hc : Ch ch N) (k : Nat) : KG N (fct ch N k) := fun p q c h => by
  obtain ⟨h1, h2, h3, -⟩ := fct_ok hc k p q c h 0
  exact ⟨h1, h2, h3⟩
theorem prd_kg {ch : Nat → Int32} {N : Nat} (hc : Ch ch N) (k : Nat) : KG N (prd ch N (fct ch N k)) := fun p q c h => by
  obtain ⟨h1, h2, h3, -⟩ := prd_ok (fct_ok hc k) p q c h 0
  exact ⟨h1, h2, h3⟩
theorem smm_kg {ch : Nat → Int32} {N : Nat} (hc : Ch ch N) (k : Nat) : KG N (smm ch N (fct ch N k)) := fun p q c h => by
  obtain ⟨h1, h2, h3, -⟩ := smm_ok (fct_ok hc k) p q c h 0
  exact ⟨h1, h2, h3⟩
theorem EV.prdL {ch : Nat → Int32} {N d z sh : Nat} {σ0 : QS} {p0 : Nat} {o : Int32} {K : Nat → Rs} (h0 : St ch N σ0 p0 z) (hG : KG N K) (hK : ∀ σ p z, St ch N σ p z → EV (d + 2) 48 0 [some (.inr 41), some (.inl o), none] [] σ (PQ ch σ z sh (K p))) : ∀ m i q acc s w4, i + m = N → Out ch σ0 s q z acc sh → z + acc.length ≤ q → q ≤ N → EV (d + 3) 47 2 [some (.inr 41), some (.inl o), some (.inl 1), some (.inl (nI i)), w4] [] s (PQ ch σ0 z sh (pdL ch K m q acc)) := by
  have hN := h0.1.2.1
  have bad : ∀ i s w4 e, Ef σ0 s e → EV (d + 3) 47 2 [some (.inr 41), some (.inl o), some (.inl 0), some (.inl i), w4] [] s (PQ ch σ0 z sh (.error e)) := fun i s w4 e he => pR_readProduct_2 ⟨fun _ => ⟨Or.inl rfl, PQ.er he⟩, fun _ => ⟨fun _ => ⟨Or.inl rfl, PQ.er he⟩, fun q => absurd rfl q⟩⟩
  intro m
  induction m with
  | zero =>
    intro i q acc s w4 hi ho hz hq
    have hst := ho.st h0 hz hq
    refine pR_readProduct_2 ?_
    rw [hst.2.1]
    exact ⟨fun _ => ⟨Or.inr rfl, PQ.ok ho⟩, fun q => absurd (nI_le' (by omega) (by omega)) q⟩
  | succ m ih =>
    intro i q acc s w4 hi ho hz hq
    have hst := ho.st h0 hz hq
    rw [pdL]
    refine pR_readProduct_2 ?_
    rw [hst.2.1, hst.2.2.2.1, nI_p1]
    refine ⟨fun z => absurd z (nI_nle' (by omega) (by omega)), fun _ => ⟨fun z => absurd z (by decide), fun _ => ?_⟩⟩
    by_cases c0 : mulO (ch q) = 0
    · rw [if_pos c0]
      have n : ¬ cs (ch q) = 42 ∧ ¬ cs (ch q) = 47 ∧ ¬ cs (ch q) = 37 := by
        unfold mulO at c0
        refine ⟨?_, ?_, ?_⟩ <;> (rw [cs_eq (by decide) (by decide)]; intro e; rw [e] at c0; exact absurd c0 (by decide))
      exact ⟨fun z => absurd z n.1, fun _ => ⟨fun z => absurd z n.2.1, fun _ => ⟨fun _ => ⟨(Or.inr rfl), (PQ.ok ho)⟩, fun z => absurd z n.2.2⟩⟩⟩
    · rw [if_neg c0]
      obtain ⟨r1, r2, r3, r4⟩ := mulO_r c0
      obtain ⟨j, hj, ej⟩ := cs_b h0.1.1 q
      have st : ∃ R4 : QS → Prop, EV (d + 2) 36 0 [some (.inr 41)] [] s (qV R4) ∧ ∀ s5, R4 s5 → ∃ R6 : Int32 → QS → Prop, EV (d + 2) 48 0 [some (.inr 41), some (.inl o), none] [] s5 (qI R6) ∧ ∀ y8 s7, R6 y8 s7 → ∃ R9 : QS → Prop, EV (d + 2) 24 0 [some (.inr 31), some (.inl (cs (ch q))), some (.inl 0)] [] s7 (qV R9) ∧ ∀ s10, R9 s10 → EV (d + 3) 47 2 [some (.inr 41), some (.inl o), some (.inl y8), some (.inl (nI (i + 1))), some (.inl (cs (ch q)))] [] s10 (PQ ch σ0 z sh (match K (q + 1) with
          | .ok (r, c) => pdL ch K m r (acc ++ c ++ [(mulO (ch q), 0)])
          | .error e => .error e)) := by
        refine ⟨_, EV.nextR (sh := sh) hst (h0.1.1.lt rfl r3), fun s5 h5 => ?_⟩
        have hst5 : St ch N s5 (q + 1) (z + acc.length) := h5.st0 hst (by omega) (h0.1.1.lt rfl r3)
        refine ⟨_, hK s5 (q + 1) _ hst5, fun y8 s7 h7 => ?_⟩
        cases hk : K (q + 1) with
        | error e =>
          rw [hk] at h7
          obtain ⟨rfl, he⟩ := h7
          exact ⟨_, EV.putF ((ho.t0 h5).ef he), fun s10 h10 => bad _ _ _ _ h10⟩
        | ok v =>
          obtain ⟨r, c⟩ := v
          rw [hk] at h7
          obtain ⟨rfl, h7⟩ := h7
          obtain ⟨g1, g2, g3⟩ := hG _ _ _ hk
          have hst7 := h7.st hst5 (by omega) g3
          refine ⟨_, EV.putR (sh := sh) (op := mulO (ch q)) (ar := 0) hst7 (by omega) (j := j) (by omega) ej (sgC_mul c0).1 (wt0 (by omega) (by omega)), fun s10 h10 => ?_⟩
          have tot : Out ch σ0 s10 r z (acc ++ c ++ [(mulO (ch q), 0)]) sh := by
            have := ((ho.t0 h5).tr h7).tr (c2 := [(mulO (ch q), 0)]) (by rw [List.length_append, ← Nat.add_assoc]; exact h10)
            exact this
          exact ih (i + 1) r _ s10 _ (by omega) tot (by simp; omega) g3
      refine ⟨fun g1 => st, fun g1 => ⟨fun g2 => st, fun g2 => ⟨fun g3 => ⟨(Or.inr rfl), ?_⟩, fun g3 => st⟩⟩⟩
      exfalso
      apply c0
      unfold mulO
      rw [if_neg (fun z => g1 (by rw [z]; rfl)), if_neg (fun z => g2 (by rw [z]; rfl)), if_neg (fun z => g3 (by rw [z]; rfl))]
theorem EV.smmL {ch : Nat → Int32} {N d z sh : Nat} {σ0 : QS} {p0 : Nat} {o : Int32} {K : Nat → Rs} (h0 : St ch N σ0 p0 z) (hG : KG N K) (hK : ∀ σ p z, St ch N σ p z → EV (d + 3) 47 0 [some (.inr 41), some (.inl o), none, none, none] [] σ (PQ ch σ z sh (K p))) : ∀ m i q acc s w4, i + m = N → Out ch σ0 s q z acc sh → z + acc.length ≤ q → q ≤ N → EV (d + 4) 46 2 [some (.inr 41), some (.inl o), some (.inl 1), some (.inl (nI i)), w4] [] s (PQ ch σ0 z sh (smL ch K m q acc)) := by
  have hN := h0.1.2.1
  have bad : ∀ i s w4 e, Ef σ0 s e → EV (d + 4) 46 2 [some (.inr 41), some (.inl o), some (.inl 0), some (.inl i), w4] [] s (PQ ch σ0 z sh (.error e)) := fun i s w4 e he => pR_readSum_2 ⟨fun _ => ⟨Or.inl rfl, PQ.er he⟩, fun _ => ⟨fun _ => ⟨Or.inl rfl, PQ.er he⟩, fun q => absurd rfl q⟩⟩
  intro m
  induction m with
  | zero =>
    intro i q acc s w4 hi ho hz hq
    have hst := ho.st h0 hz hq
    refine pR_readSum_2 ?_
    rw [hst.2.1]
    exact ⟨fun _ => ⟨Or.inr rfl, PQ.ok ho⟩, fun q => absurd (nI_le' (by omega) (by omega)) q⟩
  | succ m ih =>
    intro i q acc s w4 hi ho hz hq
    have hst := ho.st h0 hz hq
    rw [smL]
    refine pR_readSum_2 ?_
    rw [hst.2.1, hst.2.2.2.1, nI_p1]
    refine ⟨fun z => absurd z (nI_nle' (by omega) (by omega)), fun _ => ⟨fun z => absurd z (by decide), fun _ => ?_⟩⟩
    by_cases c0 : sumO (ch q) = 0
    · rw [if_pos c0]
      have n : ¬ cs (ch q) = 43 ∧ ¬ cs (ch q) = 45 := by
        unfold sumO at c0
        refine ⟨?_, ?_⟩ <;> (rw [cs_eq (by decide) (by decide)]; intro e; rw [e] at c0; exact absurd c0 (by decide))
      exact ⟨fun z => absurd z n.1, fun _ => ⟨fun _ => ⟨(Or.inr rfl), (PQ.ok ho)⟩, fun z => absurd z n.2⟩⟩
    · rw [if_neg c0]
      obtain ⟨r1, r2, r3, r4⟩ := sumO_r c0
      obtain ⟨j, hj, ej⟩ := cs_b h0.1.1 q
      have st : ∃ R4 : QS → Prop, EV (d + 3) 36 0 [some (.inr 41)] [] s (qV R4) ∧ ∀ s5, R4 s5 → ∃ R6 : Int32 → QS → Prop, EV (d + 3) 47 0 [some (.inr 41), some (.inl o), none, none, none] [] s5 (qI R6) ∧ ∀ y8 s7, R6 y8 s7 → ∃ R9 : QS → Prop, EV (d + 3) 24 0 [some (.inr 31), some (.inl (cs (ch q))), some (.inl 0)] [] s7 (qV R9) ∧ ∀ s10, R9 s10 → EV (d + 4) 46 2 [some (.inr 41), some (.inl o), some (.inl y8), some (.inl (nI (i + 1))), some (.inl (cs (ch q)))] [] s10 (PQ ch σ0 z sh (match K (q + 1) with
          | .ok (r, c) => smL ch K m r (acc ++ c ++ [(sumO (ch q), 0)])
          | .error e => .error e)) := by
        refine ⟨_, EV.nextR (sh := sh) hst (h0.1.1.lt rfl r3), fun s5 h5 => ?_⟩
        have hst5 : St ch N s5 (q + 1) (z + acc.length) := h5.st0 hst (by omega) (h0.1.1.lt rfl r3)
        refine ⟨_, hK s5 (q + 1) _ hst5, fun y8 s7 h7 => ?_⟩
        cases hk : K (q + 1) with
        | error e =>
          rw [hk] at h7
          obtain ⟨rfl, he⟩ := h7
          exact ⟨_, EV.putF ((ho.t0 h5).ef he), fun s10 h10 => bad _ _ _ _ h10⟩
        | ok v =>
          obtain ⟨r, c⟩ := v
          rw [hk] at h7
          obtain ⟨rfl, h7⟩ := h7
          obtain ⟨g1, g2, g3⟩ := hG _ _ _ hk
          have hst7 := h7.st hst5 (by omega) g3
          refine ⟨_, EV.putR (sh := sh) (op := sumO (ch q)) (ar := 0) hst7 (by omega) (j := j) (by omega) ej (sgC_sum c0).1 (wt0 (by omega) (by omega)), fun s10 h10 => ?_⟩
          have tot : Out ch σ0 s10 r z (acc ++ c ++ [(sumO (ch q), 0)]) sh := by
            have := ((ho.t0 h5).tr h7).tr (c2 := [(sumO (ch q), 0)]) (by rw [List.length_append, ← Nat.add_assoc]; exact h10)
            exact this
          exact ih (i + 1) r _ s10 _ (by omega) tot (by simp; omega) g3
      refine ⟨fun g1 => st, fun g1 => ⟨fun g2 => ⟨(Or.inr rfl), ?_⟩, fun g2 => st⟩⟩
      exfalso
      apply c0
      unfold sumO
      rw [if_neg (fun z => g1 (by rw [z]; rfl)), if_neg (fun z => g2 (by rw [z]; rfl))]
theorem EV.prdR {ch : Nat → Int32} {N d sh : Nat} {o : Int32} {K : Nat → Rs} (hG : KG N K) (hK : ∀ σ p z, St ch N σ p z → EV (d + 2) 48 0 [some (.inr 41), some (.inl o), none] [] σ (PQ ch σ z sh (K p))) {σ : QS} {p z : Nat} (h : St ch N σ p z) : EV (d + 3) 47 0 [some (.inr 41), some (.inl o), none, none, none] [] σ (PQ ch σ z sh (prd ch N K p)) := by
  refine pR_readProduct_0 ⟨_, hK σ p z h, fun y s hy => ?_⟩
  unfold prd
  cases hk : K p with
  | error e =>
    rw [hk] at hy
    obtain ⟨rfl, he⟩ := hy
    exact pR_readProduct_2 ⟨fun _ => ⟨Or.inl rfl, PQ.er he⟩, fun _ => ⟨fun _ => ⟨Or.inl rfl, PQ.er he⟩, fun q => absurd rfl q⟩⟩
  | ok v =>
    obtain ⟨q, c⟩ := v
    rw [hk] at hy
    obtain ⟨rfl, ho⟩ := hy
    obtain ⟨g1, g2, g3⟩ := hG _ _ _ hk
    have hz := h.2.2.2.2.2.1
    exact EV.prdL h hG hK N 0 q c s _ (by omega) ho (by omega) g3
theorem EV.smmR {ch : Nat → Int32} {N d sh : Nat} {o : Int32} {K : Nat → Rs} (hG : KG N (prd ch N K)) (hK : ∀ σ p z, St ch N σ p z → EV (d + 3) 47 0 [some (.inr 41), some (.inl o), none, none, none] [] σ (PQ ch σ z sh ((prd ch N K) p))) {σ : QS} {p z : Nat} (h : St ch N σ p z) : EV (d + 4) 46 0 [some (.inr 41), some (.inl o), none, none, none] [] σ (PQ ch σ z sh (smm ch N K p)) := by
  refine pR_readSum_0 ⟨_, hK σ p z h, fun y s hy => ?_⟩
  unfold smm
  cases hk : (prd ch N K) p with
  | error e =>
    rw [hk] at hy
    obtain ⟨rfl, he⟩ := hy
    exact pR_readSum_2 ⟨fun _ => ⟨Or.inl rfl, PQ.er he⟩, fun _ => ⟨fun _ => ⟨Or.inl rfl, PQ.er he⟩, fun q => absurd rfl q⟩⟩
  | ok v =>
    obtain ⟨q, c⟩ := v
    rw [hk] at hy
    obtain ⟨rfl, ho⟩ := hy
    obtain ⟨g1, g2, g3⟩ := hG _ _ _ hk
    have hz := h.2.2.2.2.2.1
    exact EV.smmL h hG hK N 0 q c s _ (by omega) ho (by omega) g3
theorem EV.atmR {ch : Nat → Int32} {N d sh : Nat} {o : Int32} {σ : QS} {p z : Nat} (h : St ch N σ p z) (h91 : ¬ ch p = 91) : EV (d + 3) 48 0 [some (.inr 41), some (.inl o), none] [] σ (PQ ch σ z sh (atm ch p)) := by
  have hz := h.2.2.2.2.2.1
  have hN := h.1.2.1
  have hpN := h.2.2.2.2.2.2
  refine pR_readFactor_0 ?_
  rw [h.2.2.2.1, cs_eq (by decide) (by decide), cs_lt48, cs_57, ix_fac]
  refine ⟨fun _ => ?_, fun q => absurd q h91⟩
  unfold atm
  by_cases hd : ¬ ch p < 48 ∧ ¬ 57 < ch p
  · rw [if_pos hd]
    refine ⟨fun q => absurd q hd.1, fun _ => ⟨fun q => absurd q hd.2, fun _ => ⟨_, pR_readNumber_0 (EV.numR (d := d + 1) (sh := sh) h 5 p 0 σ (by omega) (by omega) (fun _ => hd) (by decide) hpN ?_), ?_⟩⟩⟩
    · exact ⟨Fr.rf, h.2.2.1, h.2.2.2.1, rfl, h.2.2.2.2.1, fun _ _ => ⟨rfl, rfl⟩, fun j x hx => by cases hx⟩
    · intro y s hy
      cases hk : nmb ch 5 p 0 with
      | error e =>
        rw [hk] at hy
        obtain ⟨rfl, he⟩ := hy
        exact ⟨Or.inl rfl, PQ.er he⟩
      | ok v =>
        rw [hk] at hy
        obtain ⟨rfl, he⟩ := hy
        exact ⟨Or.inr rfl, PQ.ok he⟩
  · rw [if_neg hd]
    have A : ((0 : Int32) ≤ (match facO (ch p) with
      | some x => nI x
      | none => -1) → ∃ R4 : QS → Prop, EV (d + 2) 24 0 [some (.inr 31), some (.inl 107), some (.inl (match facO (ch p) with
      | some x => nI x
      | none => -1))] [] σ (qV R4) ∧ ∀ s5, R4 s5 → ∃ R6 : QS → Prop, EV (d + 2) 36 0 [some (.inr 41)] [] s5 (qV R6) ∧ ∀ s7, R6 s7 → PQ ch σ z sh (match facO (ch p) with
      | some x => .ok (p + 1, [(1, x)])
      | none => .error (flt 1 p)) (some 1) s7) ∧ (¬ (0 : Int32) ≤ (match facO (ch p) with
      | some x => nI x
      | none => -1) → ∃ R8 : Int32 → QS → Prop, EV (d + 2) 37 0 [some (.inr 41), some (.inl 1)] [] σ (qI R8) ∧ ∀ y10 s9, R8 y10 s9 → (y10 = 0 ∨ y10 = 1) ∧ PQ ch σ z sh (match facO (ch p) with
      | some x => .ok (p + 1, [(1, x)])
      | none => .error (flt 1 p)) (some y10) s9) := by
      cases hf : facO (ch p) with
      | none =>
        refine ⟨fun q => absurd q (by decide), fun _ => ⟨_, EV.failR (k := 1) h, ?_⟩⟩
        rintro y s ⟨rfl, he⟩
        exact ⟨Or.inl rfl, PQ.er he⟩
      | some x =>
        obtain ⟨x9, xm⟩ := facO_lt hf
        have hp : p < N := h.1.1.lt rfl xm
        refine ⟨fun _ => ⟨_, EV.putR (sh := sh) (op := 1) (ar := x) h (by omega) (j := 107) (by decide) rfl rfl rfl, fun s5 h5 => ?_⟩, fun q => absurd (nI_pos' (by omega)) q⟩
        obtain ⟨k1, k2, k3, k4, k5, k6, k7⟩ := h5
        refine ⟨_, EV.nextR' (sh := sh) (z := z + 1) ⟨h.1.1, h.1.2.1, fun i hi => by rw [k1.1 12 (by decide) (by decide) (by decide) (by decide)]; exact h.1.2.2 i hi⟩ (k1.2.2.trans h.2.1) k2 k5 hp, fun s7 h7 => PQ.ok ?_⟩
        have := Out.tr (c1 := [(1, x)]) (c2 := []) ⟨k1, k2, k3, k4, k5, k6, k7⟩ h7
        exact this
    exact ⟨fun _ => A, fun q => ⟨fun _ => A, fun q2 => absurd ⟨q, q2⟩ hd⟩⟩
theorem EV.fctR {ch : Nat → Int32} {N sh : Nat} (hc : Ch ch N) : ∀ k d σ p z, k ≤ 6 → 3 + 3 * k ≤ d → St ch N σ p z → EV d 48 0 [some (.inr 41), some (.inl (nI (6 - k))), none] [] σ (PQ ch σ z sh (fct ch N k p)) := by
  intro k
  induction k with
  | zero =>
    intro d σ p z hk hd h
    obtain ⟨d, rfl⟩ : ∃ d', d = d' + 3 := ⟨d - 3, by omega⟩
    rw [fct]
    by_cases q : ch p = 91
    · rw [if_pos q]
      refine pR_readFactor_0 ?_
      rw [h.2.2.2.1, cs_eq (by decide) (by decide)]
      refine ⟨fun z => absurd q z, fun _ => ⟨_, EV.opensR (sh := sh) (o := 6) h (by decide) (by decide) (by omega), ?_⟩⟩
      rintro y s (⟨-, c, -⟩ | ⟨-, -, rfl, he⟩ | ⟨c, -⟩)
      · exact absurd c (by decide)
      · exact ⟨fun _ => PQ.er he, fun z => absurd rfl z⟩
      · exact absurd q c
    · rw [if_neg q]
      exact EV.atmR h q
  | succ k ih =>
    intro d σ p z hk hd h
    obtain ⟨d, rfl⟩ : ∃ d', d = d' + 3 := ⟨d - 3, by omega⟩
    rw [fct]
    by_cases q : ch p = 91
    · rw [if_pos q]
      have hp : p < N := hc.lt q (by decide)
      have hz := h.2.2.2.2.2.1
      refine pR_readFactor_0 ?_
      rw [h.2.2.2.1, cs_eq (by decide) (by decide)]
      refine ⟨fun z => absurd q z, fun _ => ⟨_, EV.opensR (sh := sh) (o := 6 - (k + 1)) h (by decide) (by decide) (by omega), ?_⟩⟩
      rintro y s (⟨-, -, rfl, h1⟩ | ⟨-, c, -⟩ | ⟨c, -⟩)
      · refine ⟨fun z => absurd z (by decide), fun _ => ?_⟩
        have hst1 : St ch N s (p + 1) z := h1.st0 h (by omega) (by omega)
        obtain ⟨d2, rfl⟩ : ∃ d', d = d' + 2 := ⟨d - 2, by omega⟩
        rw [nI_p1, show 6 - (k + 1) + 1 = 6 - k by omega]
        refine ⟨_, EV.smmR (d := d2) (sh := sh) (K := fct ch N k) (prd_kg hc k) (fun σ p z h => EV.prdR (d := d2) (K := fct ch N k) (fct_kg hc k) (fun σ p z h => ih (d2 + 2) σ p z (by omega) (by omega) h) h) hst1, ?_⟩
        intro y2 s2 h2
        cases hs : smm ch N (fct ch N k) (p + 1) with
        | error e =>
          rw [hs] at h2
          obtain ⟨rfl, he⟩ := h2
          exact ⟨fun _ => PQ.er (h1.ef he), fun z => absurd rfl z⟩
        | ok v =>
          obtain ⟨q2, c⟩ := v
          rw [hs] at h2
          obtain ⟨rfl, h2⟩ := h2
          obtain ⟨g1, g2, g3⟩ := smm_kg hc k _ _ _ hs
          refine ⟨fun z => absurd z (by decide), fun _ => ⟨_, EV.passesR (d := d2 + 3) (sh := sh) (h2.st hst1 (by omega) g3) (by decide) (by decide), ?_⟩⟩
          dsimp only
          rintro y3 s3 (⟨e93, rfl, h3⟩ | ⟨e93, rfl, he⟩)
          · rw [if_pos e93]
            exact ⟨fun z => absurd z (by decide), fun _ => PQ.ok ((h1.tr0 h2).t0 h3)⟩
          · rw [if_neg e93]
            exact ⟨fun _ => PQ.er ((h1.tr0 h2).ef he), fun z => absurd rfl z⟩
      · omega
      · exact absurd q c
    · rw [if_neg q]
      exact EV.atmR h q
theorem EV.sumR {ch : Nat → Int32} {N sh : Nat} (hc : Ch ch N) (k d : Nat) {σ : QS} {p z : Nat} (hk : k ≤ 6) (hd : 5 + 3 * k ≤ d) (h : St ch N σ p z) : EV d 46 0 [some (.inr 41), some (.inl (nI (6 - k))), none, none, none] [] σ (PQ ch σ z sh (smm ch N (fct ch N k) p)) := by
  obtain ⟨d, rfl⟩ : ∃ d', d = d' + 4 := ⟨d - 4, by omega⟩
  exact EV.smmR (d := d) (sh := sh) (K := fct ch N k) (prd_kg hc k) (fun σ p z h => EV.prdR (d := d) (K := fct ch N k) (fct_kg hc k) (fun σ p z h => EV.fctR hc k (d + 2) σ p z hk (by omega) h) h) h
