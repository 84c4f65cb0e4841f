/-! the class reads clauses -/
def ce1 (l : Nat) (ce : Cd) : Cd := if l = 0 then [(0, 1)] else ce
def shN (l sh : Nat) : Nat := if l = 0 then sh + 1 else sh
def Pl (s : QS) (z : Nat) (c : Cd) (sh : Nat) : Prop := ∀ j x, c[j]? = some x → s 32 (z + j) = sgC x.1 ∧ s 33 (z + j) = wtC sh x
def F8 (σ s : QS) : Prop := (∀ c, ¬ (31 ≤ c ∧ c ≤ 38) → c ≠ 41 → s c = σ c) ∧ s 41 2 = σ 41 2
theorem Fr.f8 {σ s : QS} (h : Fr σ s) : F8 σ s := ⟨fun c h1 h2 => h.1 c (by omega) (by omega) (by omega) h2, h.2.2⟩
theorem F8.tr {σ s t : QS} (h : F8 σ s) (k : F8 s t) : F8 σ t := ⟨fun c a b => (k.1 c a b).trans (h.1 c a b), k.2.trans h.2⟩
theorem EV.addC {d : Nat} {s : QS} {n k l z2 : Nat} {nu te : Int32} (h0 : s 31 0 = nI n) (hn : n < 14) (h1 : s 31 1 = nI z2) (hl : l < 7) (h38 : s 38 l = nI k) (hk : k < 14) : EV d 26 0 [some (.inr 31), some (.inl (nI l)), some (.inl nu), some (.inl te)] [] s (qV (fun t => (∀ c, c ≠ 31 → ¬ (34 ≤ c ∧ c ≤ 38) → t c = s c) ∧ t 31 = upd (s 31) 0 (nI (n + 1)) ∧ t 34 = upd (s 34) n nu ∧ t 35 = upd (s 35) n te ∧ t 36 = upd (s 36) n (nI z2) ∧ t 37 = upd (s 37) (l * 14 + k) (nI n) ∧ t 38 = upd (s 38) l (nI (k + 1)))) := by
  refine pS_add_0 ?_
  rw [h0, h1, cl_nI (show n < 2 ^ 31 by omega), cl_nI (show l < 2 ^ 31 by omega), h38, show nI l * 14 = nI (l * 14) from pk_mul l 14, nI_add, cl_nI (show l * 14 + k < 2 ^ 31 by omega), nI_p1, nI_p1]
  have ij : vp_in (nI n) 14 := vp_in_nI hn (by decide)
  have il : vp_in (nI l) 7 := vp_in_nI hl (by decide)
  refine ⟨fun q => absurd q (nI_nle' (a := 14) (by omega) (by omega)), fun _ => ⟨ij, ij, ij, il, vp_in_nI (by omega) (by decide), il, il, rfl, fun c a b => ?_, ?_, ?_, ?_, ?_, ?_, ?_⟩⟩
  · rw [q_set_ne _ _ a, q_set_ne _ _ (by omega), q_set_ne _ _ (by omega), q_set_ne _ _ (by omega), q_set_ne _ _ (by omega), q_set_ne _ _ (by omega)]
  all_goals simp only [q_set, reduceIte, Nat.reduceEqDiff]
/-- what readClause leaves -/
def CO (ch : Nat → Int32) (σ s : QS) (r z sh n k l : Nat) (ce cc : Cd) : Prop := F8 σ s ∧ s 41 3 = nI r ∧ s 41 4 = cs (ch r) ∧ s 41 5 = σ 41 5 ∧ s 31 0 = nI (n + 1) ∧ s 31 1 = nI (z + (ce1 l ce).length + cc.length) ∧ (∀ i, i < z → s 32 i = σ 32 i ∧ s 33 i = σ 33 i) ∧ Pl s z (ce1 l ce) sh ∧ Pl s (z + (ce1 l ce).length) cc (shN l sh) ∧ s 34 = upd (σ 34) n (nI z) ∧ s 35 = upd (σ 35) n (nI (z + (ce1 l ce).length)) ∧ s 36 = upd (σ 36) n (nI (z + (ce1 l ce).length + cc.length)) ∧ s 37 = upd (σ 37) (l * 14 + k) (nI n) ∧ s 38 = upd (σ 38) l (nI (k + 1))
theorem CO.of {ch : Nat → Int32} {σ s3 s7 t : QS} {q r z sh n k l : Nat} {ce cc : Cd} (h3 : Out ch σ s3 q z (ce1 l ce) sh) (h7 : Out ch s3 s7 r (z + (ce1 l ce).length) cc (shN l sh)) (hf : ∀ c, c ≠ 31 → ¬ (34 ≤ c ∧ c ≤ 38) → t c = s7 c) (e31 : t 31 = upd (s7 31) 0 (nI (n + 1))) (e34 : t 34 = upd (s7 34) n (nI z)) (e35 : t 35 = upd (s7 35) n (nI (z + (ce1 l ce).length))) (e36 : t 36 = upd (s7 36) n (nI (z + (ce1 l ce).length + cc.length))) (e37 : t 37 = upd (s7 37) (l * 14 + k) (nI n)) (e38 : t 38 = upd (s7 38) l (nI (k + 1))) : CO ch σ t r z sh n k l ce cc := by
  have f := h3.1.tr h7.1
  obtain ⟨a1, a2, a3, a4, a5, a6, a7⟩ := h3
  obtain ⟨b1, b2, b3, b4, b5, b6, b7⟩ := h7
  have t41 : t 41 = s7 41 := hf 41 (by decide) (by decide)
  have t32 : t 32 = s7 32 := hf 32 (by decide) (by decide)
  have t33 : t 33 = s7 33 := hf 33 (by decide) (by decide)
  refine ⟨⟨fun c u v => (hf c (by omega) (by omega)).trans (f.1 c (by omega) (by omega) (by omega) v), by rw [t41]; exact f.2.2⟩, by rw [t41]; exact b2, by rw [t41]; exact b3, by rw [t41, b4, a4], by rw [e31, upd_eq], by rw [e31, upd_ne _ _ (by decide)]; exact b5, fun i hi => ?_, fun j x hx => ?_, fun j x hx => ?_, ?_, ?_, ?_, ?_, ?_⟩
  · rw [t32, t33, (b6 i (by omega)).1, (b6 i (by omega)).2]
    exact a6 i hi
  · have hj : j < (ce1 l ce).length := (List.getElem?_eq_some_iff.mp hx).1
    rw [t32, t33, (b6 _ (by omega)).1, (b6 _ (by omega)).2]
    exact a7 j x hx
  · rw [t32, t33]
    exact b7 j x hx
  · rw [e34, f.1 34 (by decide) (by decide) (by decide) (by decide)]
  · rw [e35, f.1 35 (by decide) (by decide) (by decide) (by decide)]
  · rw [e36, f.1 36 (by decide) (by decide) (by decide) (by decide)]
  · rw [e37, f.1 37 (by decide) (by decide) (by decide) (by decide)]
  · rw [e38, f.1 38 (by decide) (by decide) (by decide) (by decide)]
theorem EV.clauseR {ch : Nat → Int32} {N sh d n k l : Nat} (hc : Ch ch N) (hd : 33 ≤ d) {σ : QS} {p a z : Nat} (h : St ch N σ p z) (hzp : z < p) (hza : z = a + sh) (h0 : σ 31 0 = nI n) (hn : n < 14) (hl : l < 7) (h38 : σ 38 l = nI k) (hk : k < 14) : EV d 40 0 [some (.inr 41), some (.inl (nI l)), none, none] [] σ (qI (fun y s => match clq ch N l p a with
    | .ok (r, ce, cc) => y = 1 ∧ CO ch σ s r z sh n k l ce cc
    | .error e => y = 0 ∧ F8 σ s ∧ s 41 5 = e)) := by
  have hN := h.1.2.1
  have hpN := h.2.2.2.2.2.2
  obtain ⟨d, rfl⟩ : ∃ d', d = d' + 9 := ⟨d - 9, by omega⟩
  -- behind the number
  have tail : ∀ s3 q ce (c1 : Cd), ce1 l ce = c1 → a + ce.length + shN l sh = z + c1.length → Out ch σ s3 q z c1 sh → z + c1.length ≤ q → q ≤ N → ∀ {Q : Int32 → QS → Prop}, (∀ (y : Int32) (s : QS), (match brk ch N q (a + ce.length) with
    | .ok (r, cc) => y = 1 ∧ CO ch σ s r z sh n k l ce cc
    | .error e => y = 0 ∧ F8 σ s ∧ s 41 5 = e) → Q y s) → ∃ R6 : Int32 → QS → Prop, EV (d + 8) 41 0 [some (.inr 41), some (.inl 0)] [] s3 (qI R6) ∧ ∀ y8 s7, R6 y8 s7 → (¬ y8 = 0 → ∃ R10 : QS → Prop, EV (d + 8) 26 0 [some (.inr 31), some (.inl (nI l)), some (.inl (σ 31 1)), some (.inl (s3 31 1))] [] s7 (qV R10) ∧ ∀ s11, R10 s11 → qI Q (some 1) s11) ∧ (y8 = 0 → qI Q (some 0) s7) := by
    intro s3 q ce c1 hc1 hsh h3 hz3 hq Q hQ
    have hst3 := h3.st h hz3 hq
    refine ⟨_, EV.brkR (sh := shN l sh) hc hN (show 32 ≤ d + 8 by omega) hst3 (a := a + ce.length) (by omega), fun y8 s7 h7 => ?_⟩
    cases hb : brk ch N q (a + ce.length) with
    | error e =>
      rw [hb] at h7
      obtain ⟨rfl, he⟩ := h7
      refine ⟨fun z => absurd rfl z, fun _ => ⟨0, rfl, hQ 0 s7 ?_⟩⟩
      rw [hb]
      exact ⟨rfl, (h3.1.tr he.1).f8, he.2.1⟩
    | ok v =>
      obtain ⟨r, cc⟩ := v
      rw [hb] at h7
      obtain ⟨rfl, h7⟩ := h7
      have f := h3.1.tr h7.1
      refine ⟨fun _ => ?_, fun z => absurd z (by decide)⟩
      rw [h.2.2.2.2.1, hst3.2.2.2.2.1]
      refine ⟨_, EV.addC (n := n) (k := k) (z2 := z + c1.length + cc.length) (f.2.1.trans h0) hn h7.2.2.2.2.1 hl (by rw [f.1 38 (by decide) (by decide) (by decide) (by decide)]; exact h38) hk, ?_⟩
      rintro t ⟨g1, g2, g3, g4, g5, g6, g7⟩
      refine ⟨1, rfl, hQ 1 t ?_⟩
      rw [hb]
      subst hc1
      exact ⟨rfl, CO.of h3 h7 g1 g2 g3 g4 g5 g6 g7⟩
  refine pR_readClause_0 ⟨fun hl0 => ?_, fun hl0 => ?_⟩
  · have hl1 : ¬ l = 0 := fun e => hl0 (by rw [e]; rfl)
    refine ⟨_, EV.sumR (sh := sh) hc 6 (d + 8) (by omega) (by omega) h, fun y s hy => ?_⟩
    unfold clq
    rw [if_neg hl1]
    cases hs : smm ch N (fct ch N 6) p with
    | error e =>
      rw [hs] at hy
      obtain ⟨rfl, he⟩ := hy
      exact ⟨fun z => absurd rfl z, fun _ => ⟨0, rfl, rfl, he.1.f8, he.2.1⟩⟩
    | ok v =>
      obtain ⟨q, ce⟩ := v
      rw [hs] at hy
      obtain ⟨rfl, h3⟩ := hy
      obtain ⟨g1, g2, g3⟩ := smm_kg hc 6 _ _ _ hs
      have e1 : ce1 l ce = ce := by unfold ce1; rw [if_neg hl1]
      have e2 : shN l sh = sh := by unfold shN; rw [if_neg hl1]
      refine ⟨fun _ => tail s q ce ce e1 (by rw [e2]; omega) h3 (by omega) g3 (fun y s hys => ?_), fun z => absurd z (by decide)⟩
      dsimp only
      cases hb : brk ch N q (a + ce.length) with
      | error e => rw [hb] at hys; exact hys
      | ok v => rw [hb] at hys; exact hys
  · have hl1 : l = 0 := (nI_eq (a := l) (b := 0) (by omega) (by decide)).mp hl0
    have e1 : ce1 l [] = [(0, 1)] := by unfold ce1; rw [if_pos hl1]
    have e2 : shN l sh = sh + 1 := by unfold shN; rw [if_pos hl1]
    refine ⟨_, EV.putR (sh := sh) (op := 0) (ar := 1) h (by omega) (j := 48) (by decide) rfl rfl rfl, fun s3 h3 => ?_⟩
    refine tail s3 p [] [(0, 1)] e1 (by rw [e2]; simp; omega) h3 (by simp; omega) hpN (fun y s hys => ?_)
    unfold clq
    rw [if_pos hl1]
    dsimp only
    cases hb : brk ch N p (a + List.length ([] : Cd)) with
    | error e => rw [hb] at hys; exact hys
    | ok v => rw [hb] at hys; exact hys
/-! the whole TEXT -/
def zl : Cl → Nat
  | [] => 0
  | (l, ce, cc) :: R => (ce1 l ce).length + cc.length + zl R
def ClC (s : QS) : Cl → Nat → Nat → Nat → Prop
  | [], _, _, _ => True
  | (l, ce, cc) :: R, z, sh, n => s 34 n = nI z ∧ s 35 n = nI (z + (ce1 l ce).length) ∧ s 36 n = nI (z + (ce1 l ce).length + cc.length) ∧ Pl s z (ce1 l ce) sh ∧ Pl s (z + (ce1 l ce).length) cc (shN l sh) ∧ ClC s R (z + (ce1 l ce).length + cc.length) (shN l sh) (n + 1)
def ixl (c : Nat) : Cl → Nat → List Nat
  | [], _ => []
  | (l, _, _) :: R, n => if l = c then n :: ixl c R (n + 1) else ixl c R (n + 1)
theorem ixl_len (c : Nat) : ∀ L n, (ixl c L n).length ≤ L.length
  | [], _ => Nat.le_refl _
  | (l, _, _) :: R, n => by
    have := ixl_len c R (n + 1)
    rw [ixl]
    split
    · simp; omega
    · simp; omega
def Kp (σ s : QS) (z n : Nat) (kc : Nat → Nat) : Prop := (∀ i, i < z → s 32 i = σ 32 i ∧ s 33 i = σ 33 i) ∧ (∀ j, j < n → s 34 j = σ 34 j ∧ s 35 j = σ 35 j ∧ s 36 j = σ 36 j) ∧ ∀ c, c < 7 → ∀ q, q < kc c → s 37 (c * 14 + q) = σ 37 (c * 14 + q)
def Lt (s : QS) (L : Cl) (n : Nat) (kc : Nat → Nat) : Prop := ∀ c, c < 7 → s 38 c = nI (kc c + (ixl c L n).length) ∧ ∀ i x, (ixl c L n)[i]? = some x → s 37 (c * 14 + (kc c + i)) = nI x
def RD (ch : Nat → Int32) (N : Nat) (σ : QS) (m p z sh a n : Nat) (kc : Nat → Nat) : QQ := qI (fun y s => F8 σ s ∧ (match cls ch N m p a with
    | .error e => y = e
    | .ok L => y = 0 ∧ s 31 0 = nI (n + L.length) ∧ n + L.length ≤ 14 ∧ s 31 1 = nI (z + zl L) ∧ z + zl L ≤ N ∧ Kp σ s z n kc ∧ ClC s L z sh n ∧ Lt s L n kc))
theorem Pl.kp {σ s : QS} {z z0 n sh : Nat} {kc : Nat → Nat} {c : Cd} (h : Pl σ z0 c sh) (k : Kp σ s z n kc) (hz : z0 + c.length ≤ z) : Pl s z0 c sh := by
  intro j x hx
  have hj : j < c.length := (List.getElem?_eq_some_iff.mp hx).1
  rw [(k.1 _ (by omega)).1, (k.1 _ (by omega)).2]
  exact h j x hx
set_option maxHeartbeats 1000000 in
theorem EV.readL {ch : Nat → Int32} {N d : Nat} {n0 : Int32} (hc : Ch ch N) (hN : N ≤ 200) (hd : 34 ≤ d) : ∀ m n p z sh a σ w4 kc, n + m = 14 → St ch N σ p z → z = a + sh → σ 31 0 = nI n → σ 41 5 = 0 → (∀ c, c < 7 → kc c ≤ n ∧ σ 38 c = nI (kc c)) → EV d 35 3 [some (.inr 41), some (.inl n0), some (.inl 1), some (.inl (nI n)), w4] [] σ (RD ch N σ m p z sh a n kc) := by
  obtain ⟨d, rfl⟩ : ∃ d', d = d' + 10 := ⟨d - 10, by omega⟩
  have stop : ∀ i s w4 (Q : Int32 → QS → Prop), Q (s 41 5) s → EV (d + 10) 35 3 [some (.inr 41), some (.inl n0), some (.inl 0), some (.inl i), w4] [] s (qI Q) := fun i s w4 Q hQ => pR_read_3 ⟨fun _ => ⟨_, rfl, hQ⟩, fun _ => ⟨fun _ => ⟨_, rfl, hQ⟩, fun q => absurd rfl q⟩⟩
  intro m
  induction m with
  | zero =>
    intro n p z sh a σ w4 kc hm h hza h0 h5 hkc
    refine pR_read_3 ?_
    rw [h.2.2.2.1, ix_let]
    unfold RD
    unfold cls
    refine ⟨fun q => absurd ((nI_ltI (a := 14) (by decide) (by omega)).mp q) (by omega), fun _ => ⟨fun q => absurd q (by decide), fun _ => ?_⟩⟩
    cases hl : ltO (ch p) with
    | none =>
      refine ⟨fun q => absurd q (by decide), fun _ => ⟨_, EV.failR (k := 1) h, ?_⟩⟩
      rintro y s ⟨rfl, he⟩
      exact stop _ _ _ _ ⟨he.1.f8, he.2.1⟩
    | some l =>
      have hl7 := (ltO_lt hl).1
      refine ⟨fun _ => ⟨fun q => absurd (by rw [show n = 14 by omega]; rfl) q, fun _ => ⟨_, EV.failR (k := 4) h, ?_⟩⟩, fun q => absurd (nI_pos' (by omega)) q⟩
      rintro y s ⟨rfl, he⟩
      exact stop _ _ _ _ ⟨he.1.f8, he.2.1⟩
  | succ m ih =>
    intro n p z sh a σ w4 kc hm h hza h0 h5 hkc
    have hz := h.2.2.2.2.2.1
    refine pR_read_3 ?_
    rw [h.2.2.2.1, ix_let]
    unfold RD
    unfold cls
    refine ⟨fun q => absurd ((nI_ltI (a := 14) (by decide) (by omega)).mp q) (by omega), fun _ => ⟨fun q => absurd q (by decide), fun _ => ?_⟩⟩
    cases hl : ltO (ch p) with
    | none =>
      refine ⟨fun q => absurd q (by decide), fun _ => ⟨_, EV.failR (k := 1) h, ?_⟩⟩
      rintro y s ⟨rfl, he⟩
      exact stop _ _ _ _ ⟨he.1.f8, he.2.1⟩
    | some l =>
      obtain ⟨hl7, hlm, -⟩ := ltO_lt hl
      have hp : p < N := hc.lt rfl hlm
      obtain ⟨hkn, h38⟩ := hkc l hl7
      refine ⟨fun _ => ⟨fun _ => ⟨_, EV.nextR (sh := sh) h hp, fun s6 h6 => ?_⟩, fun q => ?_⟩, fun q => absurd (nI_pos' (by omega)) q⟩
      rotate_left
      · have := (nI_eq (a := n) (b := 14) (by omega) (by decide)).mp q
        omega
      have hst6 := h6.st0 h (by omega) hp
      dsimp only
      refine ⟨_, EV.clauseR (n := n) (k := kc l) (l := l) (a := a) (sh := sh) hc (show 33 ≤ d + 9 by omega) hst6 (by omega) hza (h6.1.2.1.trans h0) (by omega) hl7 (by rw [h6.1.1 38 (by decide) (by decide) (by decide) (by decide)]; exact h38) (by omega), fun y9 s8 h8 => ?_⟩
      cases hq : clq ch N l (p + 1) a with
      | error e =>
        rw [hq] at h8
        obtain ⟨rfl, f8, e5⟩ := h8
        exact ⟨fun _ => stop _ _ _ _ ⟨h6.1.f8.tr f8, e5⟩, fun q => absurd rfl q⟩
      | ok v =>
        obtain ⟨r, ce, cc⟩ := v
        rw [hq] at h8
        obtain ⟨rfl, h8⟩ := h8
        obtain ⟨g1, g2, g3, g4⟩ := clq_kg hc hN (by omega) hq
        obtain ⟨k1, k2, k3, k4, k5, k6, k7, k8, k9, k10, k11, k12, k13, k14⟩ := h8
        have fr := h6.1.f8.tr k1
        have e1l : (ce1 l ce).length ≤ ce.length + 1 := by
          unfold ce1
          split
          · simp
          · omega
        have e1s : a + ce.length + shN l sh = z + (ce1 l ce).length := by
          unfold ce1 shN
          by_cases hl0 : l = 0
          · rw [if_pos hl0, if_pos hl0, g4 hl0]; simp; omega
          · rw [if_neg hl0, if_neg hl0]; omega
        have ztot : z + (ce1 l ce).length + cc.length ≤ r := by omega
        have st8 : St ch N s8 r (z + (ce1 l ce).length + cc.length) := by
          obtain ⟨⟨a1, a2, a3⟩, b1, -⟩ := h
          exact ⟨⟨a1, a2, fun i hi => by rw [fr.1 12 (by decide) (by decide)]; exact a3 i hi⟩, fr.2.trans b1, k2, k3, k6, ztot, g3⟩
        have c5 : s8 41 5 = 0 := by rw [k4, h6.2.2.2.1]; exact h5
        have b34 : s8 34 = upd (σ 34) n (nI z) := by rw [k10, h6.1.1 34 (by decide) (by decide) (by decide) (by decide)]
        have b35 : s8 35 = upd (σ 35) n (nI (z + (ce1 l ce).length)) := by rw [k11, h6.1.1 35 (by decide) (by decide) (by decide) (by decide)]
        have b36 : s8 36 = upd (σ 36) n (nI (z + (ce1 l ce).length + cc.length)) := by rw [k12, h6.1.1 36 (by decide) (by decide) (by decide) (by decide)]
        have b37 : s8 37 = upd (σ 37) (l * 14 + kc l) (nI n) := by rw [k13, h6.1.1 37 (by decide) (by decide) (by decide) (by decide)]
        have b38 : s8 38 = upd (σ 38) l (nI (kc l + 1)) := by rw [k14, h6.1.1 38 (by decide) (by decide) (by decide) (by decide)]
        have kp8 : Kp σ s8 z n kc := by
          refine ⟨fun i hi => ?_, fun j hj => ?_, fun c hc7 q hq => ?_⟩
          · rw [(k7 i hi).1, (k7 i hi).2]; exact h6.2.2.2.2.2.1 i hi
          · rw [b34, b35, b36, upd_ne _ _ (by omega), upd_ne _ _ (by omega), upd_ne _ _ (by omega)]
            exact ⟨rfl, rfl, rfl⟩
          · rw [b37, upd_ne]
            intro e
            have := (hkc c hc7).1
            have := (hkc l hl7).1
            by_cases ec : c = l
            · subst ec; omega
            · omega
        refine ⟨fun q => absurd q (by decide), fun _ => ?_⟩
        rw [k2, k1.2.trans (h6.1.2.2.trans h.2.1)]
        dsimp only
        by_cases hr : r < N
        · refine ⟨fun q => absurd q (nI_nle' hr (by omega)), fun _ => ⟨_, EV.passesR (d := d + 8) (sh := 0) st8 (by decide) (by decide), ?_⟩⟩
          rw [if_pos hr]
          rintro y14 s13 (⟨e59, rfl, h13⟩ | ⟨e59, rfl, he⟩)
          · rw [if_pos e59, nI_p1]
            refine ⟨fun q => absurd q (by decide), fun _ => ?_⟩
            have st13 := h13.st0 st8 (by omega) hr
            have f13 := h13.1
            have kc2 : ∀ c, c < 7 → (if c = l then kc c + 1 else kc c) ≤ n + 1 ∧ s13 38 c = nI (if c = l then kc c + 1 else kc c) := by
              intro c hc7
              rw [f13.1 38 (by decide) (by decide) (by decide) (by decide), b38]
              by_cases e : c = l
              · subst e
                rw [if_pos rfl, upd_eq]
                exact ⟨by have := (hkc c hc7).1; omega, rfl⟩
              · rw [if_neg e, upd_ne _ _ e]
                exact ⟨by have := (hkc c hc7).1; omega, (hkc c hc7).2⟩
            refine (ih (n + 1) (r + 1) (z + (ce1 l ce).length + cc.length) (shN l sh) (a + ce.length + cc.length) s13 _ (fun c => if c = l then kc c + 1 else kc c) (by omega) st13 (by omega) (f13.2.1.trans k5) (h13.2.2.2.1.trans c5) kc2).mono ?_
            rintro q u ⟨x, rfl, fu, hu⟩
            refine ⟨x, rfl, (fr.tr f13.f8).tr fu, ?_⟩
            cases hcl : cls ch N m (r + 1) (a + ce.length + cc.length) with
            | error e => rw [hcl] at hu; exact hu
            | ok L =>
              rw [hcl] at hu
              obtain ⟨u1, u2, u3, u4, u5, u6, u7, u8⟩ := hu
              -- from σ to s13
              have p13 : ∀ c z0 sh, Pl s8 z0 c sh → z0 + c.length ≤ z + (ce1 l ce).length + cc.length → Pl s13 z0 c sh := fun c z0 sh hp hz0 j x hx => by
                have hj : j < c.length := (List.getElem?_eq_some_iff.mp hx).1
                rw [(h13.2.2.2.2.2.1 _ (by omega)).1, (h13.2.2.2.2.2.1 _ (by omega)).2]
                exact hp j x hx
              have f34 := f13.1 34 (by decide) (by decide) (by decide) (by decide)
              have f35 := f13.1 35 (by decide) (by decide) (by decide) (by decide)
              have f36 := f13.1 36 (by decide) (by decide) (by decide) (by decide)
              have f37 := f13.1 37 (by decide) (by decide) (by decide) (by decide)
              refine ⟨u1, ?_, ?_, ?_, ?_, ⟨fun i hi => ?_, fun j hj => ?_, fun c hc7 q hq => ?_⟩, ⟨?_, ?_, ?_, ?_, ?_, u7⟩, fun c hc7 => ?_⟩
              · rw [u2, List.length_cons]; congr 1; omega
              · rw [List.length_cons]; omega
              · rw [u4, zl]; congr 1; omega
              · rw [zl]; omega
              · rw [(u6.1 i (by omega)).1, (u6.1 i (by omega)).2, (h13.2.2.2.2.2.1 i (by omega)).1, (h13.2.2.2.2.2.1 i (by omega)).2]
                exact kp8.1 i hi
              · rw [(u6.2.1 j (by omega)).1, (u6.2.1 j (by omega)).2.1, (u6.2.1 j (by omega)).2.2, f34, f35, f36]
                exact kp8.2.1 j hj
              · rw [u6.2.2 c hc7 q (by dsimp only; split <;> omega), f37]
                exact kp8.2.2 c hc7 q hq
              · rw [(u6.2.1 n (by omega)).1, f34, b34, upd_eq]
              · rw [(u6.2.1 n (by omega)).2.1, f35, b35, upd_eq]
              · rw [(u6.2.1 n (by omega)).2.2, f36, b36, upd_eq]
              · exact (p13 _ _ _ k8 (by omega)).kp u6 (by omega)
              · exact (p13 _ _ _ k9 (by omega)).kp u6 (by omega)
              · obtain ⟨w1, w2⟩ := u8 c hc7
                dsimp only at w1 w2
                rw [ixl]
                by_cases e : l = c
                · subst e
                  rw [if_pos rfl] at w1 w2 ⊢
                  refine ⟨?_, fun i x hx => ?_⟩
                  · rw [w1, List.length_cons]; congr 1; omega
                  · rcases i with _ | i
                    · cases hx
                      rw [u6.2.2 l hl7 (kc l + 0) (by dsimp only; rw [if_pos rfl]; omega), f37, b37, Nat.add_zero, upd_eq]
                    · rw [List.getElem?_cons_succ] at hx
                      rw [show kc l + (i + 1) = kc l + 1 + i by omega]
                      exact w2 i x hx
                · rw [if_neg (fun z => e z.symm)] at w1 w2
                  rw [if_neg e]
                  exact ⟨w1, w2⟩
          · rw [if_neg e59]
            exact ⟨fun _ => stop _ _ _ _ ⟨fr.tr he.1.f8, he.2.1⟩, fun q => absurd rfl q⟩
        · rw [if_neg hr]
          have hrN : r = N := by omega
          refine ⟨fun _ => stop _ _ _ _ ⟨fr, ?_⟩, fun q => absurd (nI_le' (by omega) (by omega)) q⟩
          refine ⟨c5, k5, by simp; omega, ?_, ?_, kp8, ⟨?_, ?_, ?_, k8, k9, trivial⟩, fun c hc7 => ?_⟩
          · rw [k6, zl, zl]; congr 1; omega
          · rw [zl, zl]; omega
          · rw [b34, upd_eq]
          · rw [b35, upd_eq]
          · rw [b36, upd_eq]
          · rw [ixl, ixl, b38]
            by_cases e : l = c
            · subst e
              rw [if_pos rfl, upd_eq]
              refine ⟨rfl, fun i x hx => ?_⟩
              rcases i with _ | i
              · cases hx
                rw [b37, Nat.add_zero, upd_eq]
              · cases hx
            · rw [if_neg e, upd_ne _ _ (fun z => e z.symm)]
              exact ⟨(hkc c hc7).2, fun i x hx => by cases hx⟩
