/-! the class reads -/
def cs (c : Int32) : Int32 := if c = -1 then 0 else c
theorem cs_eq {c x : Int32} (h0 : ¬ x = 0) (h1 : ¬ x = -1) : cs c = x ↔ c = x := by
  unfold cs
  split
  · rename_i e
    subst e
    exact ⟨fun z => absurd z.symm h0, fun z => absurd z.symm h1⟩
  · exact Iff.rfl
theorem cs_lt48 (c : Int32) : cs c < 48 ↔ c < 48 := by
  unfold cs
  split
  · rename_i e; subst e; exact ⟨fun _ => by decide, fun _ => by decide⟩
  · exact Iff.rfl
theorem cs_57 (c : Int32) : 57 < cs c ↔ 57 < c := by
  unfold cs
  split
  · rename_i e; subst e; exact ⟨fun z => absurd z (by decide), fun z => absurd z (by decide)⟩
  · exact Iff.rfl
theorem cs_b {ch : Nat → Int32} {N : Nat} (hc : Ch ch N) (p : Nat) : ∃ j, j < 256 ∧ cs (ch p) = nI j := by
  unfold cs
  split
  · exact ⟨0, by decide, rfl⟩
  · rename_i e
    rcases Nat.lt_or_ge p N with q | q
    · exact hc.2 p q
    · exact absurd (hc.1 p q) e
theorem chr_id : ∀ j, j < 256 → ((nI j).toUInt32 % 65536).toInt32 = nI j := by decide +kernel
theorem fit2 {j : Nat} (h : j < 65536) : q_fit 2 (nI j) := by
  unfold q_fit
  rw [if_neg (by decide)]
  exact pk_charN h
theorem nar_id {j : Nat} (h : j < 65536) : vp_nar .char (nI j) = nI j := by
  unfold vp_nar
  rw [(pk_charN h).1]
def Tx (σ : QS) (ch : Nat → Int32) (N : Nat) : Prop := Ch ch N ∧ N ≤ 200 ∧ ∀ i, i < N → σ 12 i = ch i
def St (ch : Nat → Int32) (N : Nat) (σ : QS) (p z : Nat) : Prop := Tx σ ch N ∧ σ 41 2 = nI N ∧ σ 41 3 = nI p ∧ σ 41 4 = cs (ch p) ∧ σ 31 1 = nI z ∧ z ≤ p ∧ p ≤ N
def Fr (σ s : QS) : Prop := (∀ c, c ≠ 31 → c ≠ 32 → c ≠ 33 → c ≠ 41 → s c = σ c) ∧ s 31 0 = σ 31 0 ∧ s 41 2 = σ 41 2
theorem Fr.rf {σ : QS} : Fr σ σ := ⟨fun _ _ _ _ _ => rfl, rfl, rfl⟩
theorem Fr.tr {σ s t : QS} (h : Fr σ s) (k : Fr s t) : Fr σ t := ⟨fun c a b e f => (k.1 c a b e f).trans (h.1 c a b e f), k.2.1.trans h.2.1, k.2.2.trans h.2.2⟩
def sgC (o : Nat) : Int32 := if o = 0 then 48 else if o = 1 then 107 else if o = 10 then 33 else if o = 11 then 38 else if o = 12 then 124 else sgn o
def wtC (sh : Nat) (x : Nat × Nat) : Int32 := if x.1 ≤ 1 then nI x.2 else if x.1 = 11 ∨ x.1 = 12 then nI (x.2 + sh - 1) else 0
def Out (ch : Nat → Int32) (σ s : QS) (q z : Nat) (c : Cd) (sh : Nat) : Prop := Fr σ s ∧ s 41 3 = nI q ∧ s 41 4 = cs (ch q) ∧ s 41 5 = σ 41 5 ∧ s 31 1 = nI (z + c.length) ∧ (∀ i, i < z → s 32 i = σ 32 i ∧ s 33 i = σ 33 i) ∧ ∀ j x, c[j]? = some x → s 32 (z + j) = sgC x.1 ∧ s 33 (z + j) = wtC sh x
def Ef (σ s : QS) (e : Int32) : Prop := Fr σ s ∧ s 41 5 = e ∧ ∃ z, z ≤ 200 ∧ s 31 1 = nI z
def PQ (ch : Nat → Int32) (σ : QS) (z sh : Nat) (r : Rs) : QQ := qI (fun y s => match r with
  | .ok (q, c) => y = 1 ∧ Out ch σ s q z c sh
  | .error e => y = 0 ∧ Ef σ s e)
theorem PQ.ok {ch : Nat → Int32} {σ s : QS} {z sh q : Nat} {c : Cd} (h : Out ch σ s q z c sh) : PQ ch σ z sh (.ok (q, c)) (some 1) s := ⟨1, rfl, rfl, h⟩
theorem PQ.er {ch : Nat → Int32} {σ s : QS} {z sh : Nat} {e : Int32} (h : Ef σ s e) : PQ ch σ z sh (.error e) (some 0) s := ⟨0, rfl, rfl, h⟩
theorem Out.tr {ch : Nat → Int32} {σ s t : QS} {q r z sh : Nat} {c1 c2 : Cd} (h : Out ch σ s q z c1 sh) (k : Out ch s t r (z + c1.length) c2 sh) : Out ch σ t r z (c1 ++ c2) sh := by
  obtain ⟨h1, h2, h3, h4, h5, h6, h7⟩ := h
  obtain ⟨k1, k2, k3, k4, k5, k6, k7⟩ := k
  refine ⟨h1.tr k1, k2, k3, k4.trans h4, by rw [k5, List.length_append, Nat.add_assoc], fun i hi => ?_, fun j x hx => ?_⟩
  · obtain ⟨a1, a2⟩ := k6 i (by omega)
    obtain ⟨b1, b2⟩ := h6 i hi
    exact ⟨a1.trans b1, a2.trans b2⟩
  · rcases Nat.lt_or_ge j c1.length with w | w
    · rw [List.getElem?_append_left w] at hx
      obtain ⟨a1, a2⟩ := k6 (z + j) (by omega)
      obtain ⟨b1, b2⟩ := h7 j x hx
      exact ⟨a1.trans b1, a2.trans b2⟩
    · rw [List.getElem?_append_right w] at hx
      have := k7 _ x hx
      rw [show z + c1.length + (j - c1.length) = z + j by omega] at this
      exact this
theorem Out.tr0 {ch : Nat → Int32} {σ s t : QS} {q r z sh : Nat} {c2 : Cd} (h : Out ch σ s q z [] sh) (k : Out ch s t r z c2 sh) : Out ch σ t r z c2 sh := h.tr (c1 := []) k
theorem Out.t0 {ch : Nat → Int32} {σ s t : QS} {q r z sh : Nat} {c1 : Cd} (h : Out ch σ s q z c1 sh) (k : Out ch s t r (z + c1.length) [] sh) : Out ch σ t r z c1 sh := by
  have := h.tr k
  rw [List.append_nil] at this
  exact this
theorem Out.ef {ch : Nat → Int32} {σ s t : QS} {q z sh : Nat} {c : Cd} {e : Int32} (h : Out ch σ s q z c sh) (k : Ef s t e) : Ef σ t e := ⟨h.1.tr k.1, k.2⟩
theorem Out.st {ch : Nat → Int32} {N : Nat} {σ s : QS} {p q z sh : Nat} {c : Cd} (h : St ch N σ p z) (k : Out ch σ s q z c sh) (h1 : z + c.length ≤ q) (h2 : q ≤ N) : St ch N s q (z + c.length) := by
  obtain ⟨⟨a1, a2, a3⟩, b1, -⟩ := h
  obtain ⟨k1, k2, k3, k4, k5, -⟩ := k
  exact ⟨⟨a1, a2, fun i hi => by rw [k1.1 12 (by decide) (by decide) (by decide) (by decide)]; exact a3 i hi⟩, k1.2.2.trans b1, k2, k3, k5, h1, h2⟩
theorem EV.nextR {ch : Nat → Int32} {N d : Nat} {σ : QS} {p z sh : Nat} (h : St ch N σ p z) (hp : p < N) : EV d 36 0 [some (.inr 41)] [] σ (qV (fun s => Out ch σ s (p + 1) z [] sh)) := by
  obtain ⟨⟨a1, a2, a3⟩, b1, b2, b3, b4, b5, b6⟩ := h
  have e3 : upd (σ 41) 3 (σ 41 3 + 1) 3 = nI (p + 1) := by rw [upd_eq, b2, nI_p1]
  have e2 : upd (σ 41) 3 (σ 41 3 + 1) 2 = nI N := by rw [upd_ne _ _ (by decide)]; exact b1
  have fin : ∀ x, x = cs (ch (p + 1)) → qV (fun s => Out ch σ s (p + 1) z [] sh) none (q_set (q_set σ 41 (upd (σ 41) 3 (σ 41 3 + 1))) 41 (upd (upd (σ 41) 3 (σ 41 3 + 1)) 4 x)) := by
    intro x hx
    rw [q_set_same]
    refine ⟨rfl, ⟨fun c h1 h2 h3 h4 => q_set_ne _ _ h4, ?_, ?_⟩, ?_, ?_, ?_, ?_, fun i hi => ⟨?_, ?_⟩, fun j x hx => by cases hx⟩
    · rw [q_set_ne _ _ (by decide)]
    · rw [q_set_eq, upd_ne _ _ (by decide), upd_ne _ _ (by decide)]
    · rw [q_set_eq, upd_ne _ _ (by decide)]; exact e3
    · rw [q_set_eq, upd_eq]; exact hx
    · rw [q_set_eq, upd_ne _ _ (by decide), upd_ne _ _ (by decide)]
    · rw [q_set_ne _ _ (by decide)]; exact b4
    · rw [q_set_ne _ _ (by decide)]
    · rw [q_set_ne _ _ (by decide)]
  refine pR_next_0 ?_
  rw [e2, e3]
  refine ⟨fun q => ⟨fit2 (j := 0) (by decide), fin 0 ?_⟩, fun q => ?_⟩
  · have : N ≤ p + 1 := (nI_leI (by omega) (by omega)).mp q
    rw [a1.1 _ this]
    rfl
  · have hn : p + 1 < N := by
      rcases Nat.lt_or_ge (p + 1) N with w | w
      · exact w
      · exact absurd (nI_le' w (by omega)) q
    obtain ⟨j, hj, ej⟩ := a1.2 (p + 1) hn
    rw [cl_nI (by omega), a3 _ hn, ej, chr_id j hj]
    refine ⟨vp_in_nI (by omega) (by decide), fit2 (by omega), fin _ ?_⟩
    rw [ej]
    unfold cs
    rw [if_neg (nI_nem (by omega))]
theorem EV.failR {ch : Nat → Int32} {N d : Nat} {σ : QS} {p z k : Nat} (h : St ch N σ p z) : EV d 37 0 [some (.inr 41), some (.inl (nI k))] [] σ (qI (fun y s => y = 0 ∧ Ef σ s (flt k p))) := by
  obtain ⟨⟨a1, a2, a3⟩, b1, b2, b3, b4, b5, b6⟩ := h
  refine pR_fails_0 ⟨0, rfl, rfl, ⟨fun c h1 h2 h3 h4 => q_set_ne _ _ h4, ?_, ?_⟩, ?_, z, by omega, ?_⟩
  · rw [q_set_ne _ _ (by decide)]
  · rw [q_set_eq, upd_ne _ _ (by decide)]
  · rw [q_set_eq, upd_eq, b2]; rfl
  · rw [q_set_ne _ _ (by decide)]; exact b4
theorem EV.putR {ch : Nat → Int32} {N d : Nat} {σ : QS} {p z sh j op ar : Nat} {x v : Int32} (h : St ch N σ p z) (hz : z < 200) (hj : j < 65536) (ex : x = nI j) (e1 : x = sgC op) (e2 : v = wtC sh (op, ar)) : EV d 24 0 [some (.inr 31), some (.inl x), some (.inl v)] [] σ (qV (fun s => Out ch σ s p z [(op, ar)] sh)) := by
  obtain ⟨⟨a1, a2, a3⟩, b1, b2, b3, b4, b5, b6⟩ := h
  refine pS_put_0 ?_
  rw [b4, cl_nI (by omega), nI_p1]
  refine ⟨fun q => absurd q (nI_nle' (a := 200) (by omega) (by omega)), fun _ => ⟨vp_in_nI hz (by decide), vp_in_nI hz (by decide), rfl, ⟨fun c h1 h2 h3 h4 => by rw [q_set_ne _ _ h1, q_set_ne _ _ h3, q_set_ne _ _ h2], ?_, ?_⟩, ?_, ?_, ?_, ?_, fun i hi => ⟨?_, ?_⟩, fun i y hy => ?_⟩⟩
  · rw [q_set_eq, upd_ne _ _ (by decide)]
  · rw [q_set_ne _ _ (by decide), q_set_ne _ _ (by decide), q_set_ne _ _ (by decide)]
  · rw [q_set_ne _ _ (by decide), q_set_ne _ _ (by decide), q_set_ne _ _ (by decide)]; exact b2
  · rw [q_set_ne _ _ (by decide), q_set_ne _ _ (by decide), q_set_ne _ _ (by decide)]; exact b3
  · rw [q_set_ne _ _ (by decide), q_set_ne _ _ (by decide), q_set_ne _ _ (by decide)]
  · rw [q_set_eq, upd_eq]; rfl
  · rw [q_set_ne _ _ (by decide), q_set_ne _ _ (by decide), q_set_eq, upd_ne _ _ (by omega)]
  · rw [q_set_ne _ _ (by decide), q_set_eq, upd_ne _ _ (by omega)]
  · rcases i with _ | i
    · cases hy
      rw [q_set_ne _ _ (by decide), q_set_ne _ _ (by decide), q_set_eq, Nat.add_zero, upd_eq, q_set_ne _ _ (by decide), q_set_eq, upd_eq, ex, nar_id hj, ← ex]
      exact ⟨e1, e2⟩
    · cases hy
/-- a step put when something has failed -/
theorem EV.putE {d : Nat} {σ : QS} {z : Nat} {x v : Int32} (hz : z ≤ 200) (h : σ 31 1 = nI z) : EV d 24 0 [some (.inr 31), some (.inl x), some (.inl v)] [] σ (qV (fun s => Fr σ s ∧ s 41 = σ 41 ∧ ∃ z, z ≤ 200 ∧ s 31 1 = nI z)) := by
  refine pS_put_0 ?_
  rw [h]
  refine ⟨fun q => ⟨rfl, Fr.rf, rfl, z, hz, h⟩, fun q => ?_⟩
  have hz2 : z < 200 := by
    rcases Nat.lt_or_ge z 200 with w | w
    · exact w
    · exact absurd (nI_le' (a := 200) w (by omega)) q
  rw [cl_nI (by omega), nI_p1]
  refine ⟨vp_in_nI hz2 (by decide), vp_in_nI hz2 (by decide), rfl, ⟨fun c h1 h2 h3 h4 => by rw [q_set_ne _ _ h1, q_set_ne _ _ h3, q_set_ne _ _ h2], ?_, ?_⟩, ?_, z + 1, by omega, ?_⟩
  · rw [q_set_eq, upd_ne _ _ (by decide)]
  · rw [q_set_ne _ _ (by decide), q_set_ne _ _ (by decide), q_set_ne _ _ (by decide)]
  · rw [q_set_ne _ _ (by decide), q_set_ne _ _ (by decide), q_set_ne _ _ (by decide)]
  · rw [q_set_eq, upd_eq]
theorem Ef.put {σ s t : QS} {e : Int32} (h : Ef σ s e) (f : Fr s t) (e41 : t 41 = s 41) (hz : ∃ z, z ≤ 200 ∧ t 31 1 = nI z) : Ef σ t e := ⟨h.1.tr f, by rw [e41]; exact h.2.1, hz⟩
theorem EV.putF {d : Nat} {σ s : QS} {e x v : Int32} (h : Ef σ s e) : EV d 24 0 [some (.inr 31), some (.inl x), some (.inl v)] [] s (qV (fun t => Ef σ t e)) := by
  obtain ⟨z, hz, ez⟩ := h.2.2
  refine (EV.putE hz ez).mono ?_
  rintro q t ⟨rfl, f, e41, hz⟩
  exact ⟨rfl, h.put f e41 hz⟩
theorem EV.passF {d : Nat} {σ s : QS} {e i : Int32} (h : Ef σ s e) : EV d 25 0 [some (.inr 31), some (.inl i)] [] s (qV (fun t => Ef σ t e)) := by
  obtain ⟨z, hz, ez⟩ := h.2.2
  refine pS_pass_0 ⟨fun _ => ⟨rfl, h⟩, fun q => ⟨fun _ => ⟨rfl, h⟩, fun q2 => ?_⟩⟩
  rw [ez] at q2
  obtain ⟨j, hj, rfl⟩ := ix_of rfl (by omega) q q2
  refine ⟨vp_in_nI (by omega) (by decide), rfl, h.1.tr ⟨fun c h1 h2 h3 h4 => q_set_ne _ _ h3, ?_, ?_⟩, ?_, z, hz, ?_⟩
  · rw [q_set_ne _ _ (by decide)]
  · rw [q_set_ne _ _ (by decide)]
  · rw [q_set_ne _ _ (by decide)]; exact h.2.1
  · rw [q_set_ne _ _ (by decide)]; exact ez
theorem EV.passesR {ch : Nat → Int32} {N d : Nat} {σ : QS} {p z sh : Nat} {x : Int32} (h : St ch N σ p z) (h0 : ¬ x = 0) (h1 : ¬ x = -1) : EV (d + 1) 38 0 [some (.inr 41), some (.inl x)] [] σ (qI (fun y s => (ch p = x ∧ y = 1 ∧ Out ch σ s (p + 1) z [] sh) ∨ (¬ ch p = x ∧ y = 0 ∧ Ef σ s (flt 1 p)))) := by
  have e4 := h.2.2.2.1
  refine pR_passes_0 ?_
  rw [e4, cs_eq h0 h1]
  refine ⟨fun q => ⟨_, EV.nextR (sh := sh) h (h.1.1.lt q h1), fun s hs => ⟨1, rfl, Or.inl ⟨q, rfl, hs⟩⟩⟩, fun q => ⟨_, EV.failR (k := 1) h, ?_⟩⟩
  rintro y s ⟨rfl, he⟩
  exact ⟨Or.inl rfl, 0, rfl, Or.inr ⟨q, rfl, he⟩⟩
theorem EV.opensR {ch : Nat → Int32} {N d : Nat} {σ : QS} {p z sh o : Nat} {x : Int32} (h : St ch N σ p z) (h0 : ¬ x = 0) (h1 : ¬ x = -1) (ho : o ≤ 6) : EV (d + 1) 39 0 [some (.inr 41), some (.inl x), some (.inl (nI o))] [] σ (qI (fun y s => (ch p = x ∧ o < 6 ∧ y = 1 ∧ Out ch σ s (p + 1) z [] sh) ∨ (ch p = x ∧ o = 6 ∧ y = 0 ∧ Ef σ s (flt 5 p)) ∨ (¬ ch p = x ∧ y = 0 ∧ Ef σ s (flt 1 p)))) := by
  have e4 := h.2.2.2.1
  have eo : (nI o < 6) = (o < 6) := nI_ltP (b := 6) (by omega) (by decide)
  refine pR_opens_0 ?_
  rw [e4, cs_eq h0 h1, eo]
  refine ⟨fun q => ⟨fun q2 => ⟨_, EV.nextR (sh := sh) h (h.1.1.lt q h1), fun s hs => ⟨1, rfl, Or.inl ⟨q, q2, rfl, hs⟩⟩⟩, fun q2 => ⟨_, EV.failR (k := 5) h, ?_⟩⟩, fun q => ⟨_, EV.failR (k := 1) h, ?_⟩⟩
  · rintro y s ⟨rfl, he⟩
    exact ⟨Or.inl rfl, 0, rfl, Or.inr (Or.inl ⟨q, by omega, rfl, he⟩)⟩
  · rintro y s ⟨rfl, he⟩
    exact ⟨Or.inl rfl, 0, rfl, Or.inr (Or.inr ⟨q, rfl, he⟩)⟩
theorem EV.numR {ch : Nat → Int32} {N d : Nat} {σ0 : QS} {p0 z sh : Nat} (h0 : St ch N σ0 p0 z) : ∀ k p n σ, p0 + (5 - k) = p → k ≤ 5 → (k = 5 → ¬ ch p < 48 ∧ ¬ 57 < ch p) → (n + 1) * 10 ^ k ≤ 100000 → p ≤ N → Out ch σ0 σ p z [] sh → EV (d + 1) 49 1 [some (.inr 41), some (.inl (nI n)), some (.inl (nI (5 - k)))] [] σ (PQ ch σ0 z sh (nmb ch k p n)) := by
  intro k
  induction k with
  | zero =>
    intro p n σ hp hk hd hn hpN ho
    have hst := ho.st h0 (by have := h0.2.2.2.2.2.1; simp; omega) hpN
    rw [List.length_nil, Nat.add_zero] at hst
    have e4 := hst.2.2.2.1
    have hz := h0.2.2.2.2.2.1
    have hN := h0.1.2.1
    have put : ∃ R2 : QS → Prop, EV d 24 0 [some (.inr 31), some (.inl 48), some (.inl (nI n))] [] σ (qV R2) ∧ ∀ s3, R2 s3 → PQ ch σ0 z sh (.ok (p, [(0, n)])) (some 1) s3 := ⟨_, EV.putR (sh := sh) (op := 0) (ar := n) hst (by omega) (j := 48) (by decide) rfl rfl rfl, fun s hs => PQ.ok (ho.tr0 hs)⟩
    rw [nmb]
    refine pR_readNumber_1 ?_
    rw [e4, cs_lt48, cs_57]
    by_cases hdg : ¬ ch p < 48 ∧ ¬ 57 < ch p
    · rw [if_pos hdg]
      refine ⟨fun q => absurd q (by decide), fun _ => ⟨fun q => absurd q hdg.1, fun _ => ⟨fun q => absurd q hdg.2, fun _ => ⟨fun q => absurd rfl q, fun _ => ⟨_, EV.failR (k := 2) hst, ?_⟩⟩⟩⟩⟩
      rintro y s ⟨rfl, he⟩
      exact ⟨Or.inl rfl, PQ.er (ho.ef he)⟩
    · rw [if_neg hdg]
      exact ⟨fun q => absurd q (by decide), fun _ => ⟨fun _ => put, fun q => ⟨fun _ => put, fun q2 => absurd ⟨q, q2⟩ hdg⟩⟩⟩
  | succ k ih =>
    intro p n σ hp hk hd hn hpN ho
    have hst := ho.st h0 (by have := h0.2.2.2.2.2.1; simp; omega) hpN
    rw [List.length_nil, Nat.add_zero] at hst
    have e4 := hst.2.2.2.1
    have hz := h0.2.2.2.2.2.1
    have hN := h0.1.2.1
    have hkp : 0 < 10 ^ k := Nat.pow_pos (by decide)
    rw [Nat.pow_succ] at hn
    have en : ¬ 5 < nI (5 - (k + 1)) := fun q => by have := (nI_ltI (a := 5) (by decide) (by omega)).mp q; omega
    rw [nmb]
    refine pR_readNumber_1 ?_
    rw [e4, cs_lt48, cs_57]
    by_cases hdg : ¬ ch p < 48 ∧ ¬ 57 < ch p
    · rw [if_pos hdg]
      obtain ⟨hpl, dd, hd9, ed⟩ := h0.1.1.dig hdg
      have e5 : ¬ nI (5 - (k + 1)) = 5 := fun q => by have := (nI_eq (a := 5 - (k + 1)) (b := 5) (by omega) (by decide)).mp q; omega
      refine ⟨fun q => absurd q en, fun _ => ⟨fun q => absurd q hdg.1, fun _ => ⟨fun q => absurd q hdg.2, fun _ => ⟨fun _ => ⟨_, EV.nextR (sh := sh) hst hpl, ?_⟩, fun q => absurd q e5⟩⟩⟩⟩
      intro s hs
      have ev : nI n * 10 + cs (ch p) - 48 = nI (n * 10 + ((ch p).toNatClampNeg - 48)) := by
        unfold cs
        rw [if_neg (by rw [ed]; exact nI_nem (by omega)), ed, cl_nI (by omega), show nI n * 10 = nI (n * 10) from pk_mul n 10, nI_add, show nI (n * 10 + (48 + dd)) - 48 = nI (n * 10 + (48 + dd) - 48) from pk_sub (b := 48) (by omega)]
        congr 1
        omega
      rw [ev, nI_p1, show 5 - (k + 1) + 1 = 5 - k by omega]
      refine ih (p + 1) _ s (by omega) (by omega) (fun z => by omega) ?_ (by omega) (ho.tr0 hs)
      rw [ed, cl_nI (by omega), show 48 + dd - 48 = dd by omega]
      refine Nat.le_trans (Nat.mul_le_mul_right (10 ^ k) (show n * 10 + dd + 1 ≤ (n + 1) * 10 by omega)) ?_
      rw [Nat.mul_assoc, Nat.mul_comm 10]
      exact hn
    · have hk5 : k + 1 ≠ 5 := fun e => hdg (hd e)
      rw [if_neg hdg]
      have put : ∃ R2 : QS → Prop, EV d 24 0 [some (.inr 31), some (.inl 48), some (.inl (nI n))] [] σ (qV R2) ∧ ∀ s3, R2 s3 → PQ ch σ0 z sh (.ok (p, [(0, n)])) (some 1) s3 := ⟨_, EV.putR (sh := sh) (op := 0) (ar := n) hst (by omega) (j := 48) (by decide) rfl rfl rfl, fun s hs => PQ.ok (ho.tr0 hs)⟩
      exact ⟨fun q => absurd q en, fun _ => ⟨fun _ => put, fun q => ⟨fun _ => put, fun q2 => absurd ⟨q, q2⟩ hdg⟩⟩⟩
