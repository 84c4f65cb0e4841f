/-! what is read is good -/
def Vc (a : Nat) (c : Cd) : Prop := ∀ j x, c[j]? = some x → x.1 ≤ 12 ∧ x.2 < 1048576 ∧ (x.1 = 1 → x.2 < 9) ∧ (x.1 = 11 ∨ x.1 = 12 → a + j < x.2 ∧ x.2 ≤ a + c.length)
theorem Vc.app {a : Nat} {c1 c2 : Cd} (h1 : Vc a c1) (h2 : Vc (a + c1.length) c2) : Vc a (c1 ++ c2) := by
  intro j x hx
  rw [List.length_append]
  rcases Nat.lt_or_ge j c1.length with q | q
  · rw [List.getElem?_append_left q] at hx
    obtain ⟨k1, k2, k3, k4⟩ := h1 j x hx
    exact ⟨k1, k2, k3, fun z => by have := k4 z; omega⟩
  · rw [List.getElem?_append_right q] at hx
    obtain ⟨k1, k2, k3, k4⟩ := h2 _ x hx
    exact ⟨k1, k2, k3, fun z => by have := k4 z; omega⟩
theorem Vc.one {a o n : Nat} (h1 : o ≤ 10) (h2 : n < 1048576) (h3 : o = 1 → n < 9) : Vc a [(o, n)] := by
  intro j x hx
  rcases j with _ | j
  · cases hx
    exact ⟨by omega, h2, h3, fun z => by omega⟩
  · cases hx
theorem Vc.jmp {a op : Nat} {c1 c2 : Cd} (h1 : Vc a c1) (h2 : Vc (a + c1.length + 1) c2) (hop : op = 11 ∨ op = 12) (hb : a + c1.length + 1 + c2.length < 1048576) : Vc a (c1 ++ (op, a + c1.length + 1 + c2.length) :: c2) := by
  intro j x hx
  rw [List.length_append, List.length_cons]
  rcases Nat.lt_or_ge j c1.length with q | q
  · rw [List.getElem?_append_left q] at hx
    obtain ⟨k1, k2, k3, k4⟩ := h1 j x hx
    exact ⟨k1, k2, k3, fun z => by have := k4 z; omega⟩
  · rw [List.getElem?_append_right q] at hx
    obtain ⟨i, rfl⟩ : ∃ i, j = c1.length + i := ⟨j - c1.length, by omega⟩
    rw [Nat.add_sub_cancel_left] at hx
    rcases i with _ | i
    · cases hx
      exact ⟨by show op ≤ 12; omega, hb, fun z => by have : op = 1 := z; omega, fun _ => ⟨by show _ < a + c1.length + 1 + c2.length; omega, by show a + c1.length + 1 + c2.length ≤ _; omega⟩⟩
    · rw [List.getElem?_cons_succ] at hx
      obtain ⟨k1, k2, k3, k4⟩ := h2 _ x hx
      exact ⟨k1, k2, k3, fun z => by have := k4 z; omega⟩
def Gd (B : Prop) (N D p q : Nat) (c : Cd) (a : Nat) : Prop := p + c.length ≤ q ∧ p < q ∧ q ≤ N ∧ Vc a c ∧ ∃ E, (B → Bl E) ∧ Sem a c D E
theorem Gd.wk {B : Prop} {N D D' p q : Nat} {c : Cd} {a : Nat} (h : Gd B N D p q c a) (hD : D ≤ D') : Gd B N D' p q c a := by
  obtain ⟨h1, h2, h3, h4, E, h5, h6⟩ := h
  exact ⟨h1, h2, h3, h4, E, h5, h6.wk hD⟩
/-- the end of the TEXT -/
def Ch (ch : Nat → Int32) (N : Nat) : Prop := (∀ p, N ≤ p → ch p = -1) ∧ ∀ p, p < N → ∃ j, j < 256 ∧ ch p = nI j
theorem Ch.lt {ch : Nat → Int32} {N p : Nat} {x : Int32} (h : Ch ch N) (e : ch p = x) (hx : ¬ x = -1) : p < N := by
  rcases Nat.lt_or_ge p N with q | q
  · exact q
  · exact absurd (e.symm.trans (h.1 p q)) hx
theorem Ch.dig {ch : Nat → Int32} {N p : Nat} (h : Ch ch N) (hd : ¬ ch p < 48 ∧ ¬ 57 < ch p) : p < N ∧ ∃ d, d ≤ 9 ∧ ch p = nI (48 + d) := by
  have hp : p < N := by
    rcases Nat.lt_or_ge p N with q | q
    · exact q
    · rw [h.1 p q] at hd
      exact absurd (by decide) hd.1
  obtain ⟨j, hj, e⟩ := h.2 p hp
  rw [e] at hd ⊢
  have h1 : ¬ j < 48 := fun z => hd.1 ((nI_ltI (b := 48) (by omega) (by decide)).mpr z)
  have h2 : ¬ 57 < j := fun z => hd.2 ((nI_ltI (a := 57) (by decide) (by omega)).mpr z)
  exact ⟨hp, j - 48, by omega, by rw [show 48 + (j - 48) = j by omega]⟩
theorem nmb_ok {ch : Nat → Int32} {N : Nat} (hc : Ch ch N) : ∀ k p n q c, (n + 1) * 10 ^ k ≤ 100000 → p ≤ N → nmb ch k p n = .ok (q, c) → p ≤ q ∧ q ≤ N ∧ ∃ m, m < 100000 ∧ c = [(0, m)]
  | 0, p, n, q, c, hn, hp, h => by
    rw [nmb] at h
    split at h
    · cases h
    · cases h
      exact ⟨Nat.le_refl _, hp, n, by rw [Nat.pow_zero] at hn; omega, rfl⟩
  | k + 1, p, n, q, c, hn, hp, h => by
    rw [nmb] at h
    have hk : 0 < 10 ^ k := Nat.pow_pos (by decide)
    rw [Nat.pow_succ] at hn
    split at h
    · rename_i hd
      obtain ⟨hp2, d, hd9, e⟩ := hc.dig hd
      rw [e, cl_nI (by omega), show 48 + d - 48 = d by omega] at h
      have hb : (n * 10 + d + 1) * 10 ^ k ≤ 100000 := by
        refine Nat.le_trans (Nat.mul_le_mul_right (10 ^ k) (show n * 10 + d + 1 ≤ (n + 1) * 10 by omega)) ?_
        rw [Nat.mul_assoc, Nat.mul_comm 10]
        exact hn
      obtain ⟨g1, g2, g3⟩ := nmb_ok hc k (p + 1) (n * 10 + d) q c hb (by omega) h
      exact ⟨by omega, g2, g3⟩
    · cases h
      refine ⟨Nat.le_refl _, hp, n, ?_, rfl⟩
      have : (n + 1) * 1 ≤ (n + 1) * (10 ^ k * 10) := Nat.mul_le_mul_left _ (by omega)
      omega
theorem facO_lt {c : Int32} {x : Nat} (h : facO c = some x) : x < 9 ∧ ¬ c = -1 := by
  unfold facO at h
  repeat' split at h
  all_goals first | (cases h; rename_i e; rw [e]; exact ⟨by decide, by decide⟩) | cases h
theorem atm_ok {ch : Nat → Int32} {N : Nat} (hc : Ch ch N) {p q : Nat} {c : Cd} (h : atm ch p = .ok (q, c)) (a : Nat) : Gd False N 1 p q c a := by
  unfold atm at h
  split at h
  · rename_i hd
    obtain ⟨hp2, d, hd9, e⟩ := hc.dig hd
    rw [nmb, if_pos hd, e, cl_nI (by omega), show 0 * 10 + (48 + d - 48) = d by omega] at h
    obtain ⟨g1, g2, m, g3, rfl⟩ := nmb_ok hc 4 (p + 1) d q c (by have : (d + 1) * 10 ^ 4 ≤ 10 * 10 ^ 4 := Nat.mul_le_mul_right _ (by omega); omega) (by omega) h
    exact ⟨by simp; omega, by omega, g2, Vc.one (by omega) (by omega) (fun z => by omega), _, fun z => z.elim, Sem.num a m⟩
  · split at h
    · rename_i x hx
      cases h
      obtain ⟨g1, g2⟩ := facO_lt hx
      have hp : p < N := hc.lt rfl g2
      exact ⟨by simp, by omega, by omega, Vc.one (by omega) (by omega) (fun _ => g1), _, fun z => z.elim, Sem.let a x⟩
    · cases h
theorem mulO_r {c : Int32} (h : ¬ mulO c = 0) : 4 ≤ mulO c ∧ mulO c ≤ 6 ∧ ¬ c = -1 ∧ sgn (mulO c) = c := by
  unfold mulO at h ⊢
  repeat' split at h
  all_goals first | (rename_i e; subst e; decide) | exact absurd rfl h
theorem sumO_r {c : Int32} (h : ¬ sumO c = 0) : 2 ≤ sumO c ∧ sumO c ≤ 3 ∧ ¬ c = -1 ∧ sgn (sumO c) = c := by
  unfold sumO at h ⊢
  repeat' split at h
  all_goals first | (rename_i e; subst e; decide) | exact absurd rfl h
theorem cmpO_r {c : Int32} (h : ¬ cmpO c = 0) : 7 ≤ cmpO c ∧ cmpO c ≤ 9 ∧ ¬ c = -1 ∧ sgn (cmpO c) = c := by
  unfold cmpO at h ⊢
  repeat' split at h
  all_goals first | (rename_i e; subst e; decide) | exact absurd rfl h
theorem Gd.bin {B : Prop} {N D p q r o : Nat} {c1 c2 : Cd} {a : Nat} (h1 : Gd False N (D + 1) p q c1 a) (h2 : Gd False N D (q + 1) r c2 (a + c1.length)) (ho : 2 ≤ o) (ho2 : o ≤ 9) (hB : B → 7 ≤ o) : Gd B N (D + 1) p r (c1 ++ c2 ++ [(o, 0)]) a := by
  obtain ⟨g1, g2, g3, g4, E1, -, g5⟩ := h1
  obtain ⟨k1, k2, k3, k4, E2, -, k5⟩ := h2
  refine ⟨by simp; omega, by omega, k3, (g4.app k4).app (Vc.one (by omega) (by omega) (fun z => by omega)), _, fun z => Bl.cmp (hB z) E1 E2, g5.bin k5 ho ho2⟩

theorem pdL_ok {ch : Nat → Int32} {N D a p : Nat} {K : Nat → Rs} (hK : ∀ p q c, K p = .ok (q, c) → ∀ a, Gd False N D p q c a) : ∀ m q0 acc q c, Gd False N (D + 1) p q0 acc a → pdL ch K m q0 acc = .ok (q, c) → Gd False N (D + 1) p q c a
  | 0, q0, acc, q, c, hg, h => by
    rw [pdL] at h
    cases h
    exact hg
  | m + 1, q0, acc, q, c, hg, h => by
    rw [pdL] at h
    split at h
    · cases h; exact hg
    · rename_i ho
      obtain ⟨o1, o2, -, -⟩ := mulO_r ho
      split at h
      · rename_i r c' hk
        exact pdL_ok hK m r _ q c (Gd.bin hg (hK _ _ _ hk _) (by omega) (by omega) (fun z => z.elim)) h
      · cases h

theorem smL_ok {ch : Nat → Int32} {N D a p : Nat} {K : Nat → Rs} (hK : ∀ p q c, K p = .ok (q, c) → ∀ a, Gd False N D p q c a) : ∀ m q0 acc q c, Gd False N (D + 1) p q0 acc a → smL ch K m q0 acc = .ok (q, c) → Gd False N (D + 1) p q c a
  | 0, q0, acc, q, c, hg, h => by
    rw [smL] at h
    cases h
    exact hg
  | m + 1, q0, acc, q, c, hg, h => by
    rw [smL] at h
    split at h
    · cases h; exact hg
    · rename_i ho
      obtain ⟨o1, o2, -, -⟩ := sumO_r ho
      split at h
      · rename_i r c' hk
        exact smL_ok hK m r _ q c (Gd.bin hg (hK _ _ _ hk _) (by omega) (by omega) (fun z => z.elim)) h
      · cases h

theorem prd_ok {ch : Nat → Int32} {N D : Nat} {K : Nat → Rs} (hK : ∀ p q c, K p = .ok (q, c) → ∀ a, Gd False N D p q c a) (p q : Nat) (c : Cd) (h : prd ch N K p = .ok (q, c)) (a : Nat) : Gd False N (D + 1) p q c a := by
  unfold prd at h
  split at h
  · rename_i q0 c0 hk
    exact pdL_ok hK N q0 c0 q c ((hK _ _ _ hk a).wk (by omega)) h
  · cases h
theorem smm_ok {ch : Nat → Int32} {N D : Nat} {K : Nat → Rs} (hK : ∀ p q c, K p = .ok (q, c) → ∀ a, Gd False N D p q c a) (p q : Nat) (c : Cd) (h : smm ch N K p = .ok (q, c)) (a : Nat) : Gd False N (D + 2) p q c a := by
  unfold smm at h
  split at h
  · rename_i q0 c0 hk
    exact smL_ok (D := D + 1) (prd_ok hK) N q0 c0 q c ((prd_ok hK _ _ _ hk a).wk (by omega)) h
  · cases h
theorem fct_ok {ch : Nat → Int32} {N : Nat} (hc : Ch ch N) : ∀ k p q c, fct ch N k p = .ok (q, c) → ∀ a, Gd False N (1 + 2 * k) p q c a
  | 0, p, q, c, h, a => by
    rw [fct] at h
    split at h
    · cases h
    · exact atm_ok hc h a
  | k + 1, p, q, c, h, a => by
    rw [fct] at h
    split at h
    · split at h
      · rename_i q0 c0 hk
        split at h
        · rename_i e93
          cases h
          have hp := hc.lt e93 (by decide)
          obtain ⟨g1, g2, g3, g4, E, g5, g6⟩ := smm_ok (fct_ok hc k) _ _ _ hk a
          exact ⟨by omega, by omega, by omega, g4, E, g5, g6.wk (by omega)⟩
        · cases h
      · cases h
    · exact (atm_ok hc h a).wk (by omega)
theorem cpr_ok {ch : Nat → Int32} {N : Nat} (hc : Ch ch N) {k p q : Nat} {c : Cd} (h : cpr ch N k p = .ok (q, c)) (a : Nat) : Gd True N (4 + 2 * k) p q c a := by
  unfold cpr at h
  split at h
  · rename_i q0 c0 hk
    split at h
    · cases h
    · rename_i ho
      obtain ⟨o1, o2, -, -⟩ := cmpO_r ho
      split at h
      · rename_i r c2 hk2
        cases h
        exact (Gd.bin (D := 3 + 2 * k) ((smm_ok (fct_ok hc k) _ _ _ hk a).wk (by omega)) ((smm_ok (fct_ok hc k) _ _ _ hk2 _).wk (by omega)) (by omega) (by omega) (fun _ => o1)).wk (by omega)
      · cases h
  · cases h
theorem ptL_ok {ch : Nat → Int32} {N D a p op : Nat} {w : Int32} {K : Nat → Nat → Rs} (hN : N ≤ 200) (hop : op = 11 ∨ op = 12) (hK : ∀ p a q c, a ≤ p → K p a = .ok (q, c) → Gd True N D p q c a) (ha : a ≤ p) : ∀ m q0 acc q c, Gd True N D p q0 acc a → ptL ch K w op a m q0 acc = .ok (q, c) → Gd True N D p q c a
  | 0, q0, acc, q, c, hg, h => by
    rw [ptL] at h
    cases h
    exact hg
  | m + 1, q0, acc, q, c, hg, h => by
    rw [ptL] at h
    split at h
    · split at h
      · rename_i r c' hk
        obtain ⟨g1, g2, g3, g4, E1, g5, g6⟩ := hg
        obtain ⟨k1, k2, k3, k4, E2, k5, k6⟩ := hK _ _ _ _ (by omega) hk
        refine ptL_ok hN hop hK ha m r _ q c ⟨by simp; omega, by omega, k3, Vc.jmp g4 k4 hop (by omega), _, fun _ => Bl.jmp (k5 trivial), Sem.jmp hop g6 (g5 trivial) k6⟩ h
      · cases h
    · cases h; exact hg
theorem prt_ok {ch : Nat → Int32} {N D : Nat} {K : Nat → Nat → Rs} (hN : N ≤ 200) (hK : ∀ p a q c, a ≤ p → K p a = .ok (q, c) → Gd True N D p q c a) (p a q : Nat) (c : Cd) (ha : a ≤ p) (h : prt ch N K p a = .ok (q, c)) : Gd True N D p q c a := by
  unfold prt at h
  split at h
  · rename_i q0 c0 hk
    exact ptL_ok hN (Or.inl rfl) hK ha N q0 c0 q c (hK _ _ _ _ ha hk) h
  · cases h
theorem cnd_ok {ch : Nat → Int32} {N D : Nat} {K : Nat → Nat → Rs} (hN : N ≤ 200) (hK : ∀ p a q c, a ≤ p → K p a = .ok (q, c) → Gd True N D p q c a) (p a q : Nat) (c : Cd) (ha : a ≤ p) (h : cnd ch N K p a = .ok (q, c)) : Gd True N D p q c a := by
  unfold cnd at h
  split at h
  · rename_i q0 c0 hk
    exact ptL_ok hN (Or.inr rfl) (prt_ok hN hK) ha N q0 c0 q c (prt_ok hN hK _ _ _ _ ha hk) h
  · cases h
theorem pce_ok {ch : Nat → Int32} {N : Nat} (hc : Ch ch N) (hN : N ≤ 200) : ∀ k p a q c, a ≤ p → pce ch N k p a = .ok (q, c) → Gd True N (4 + 2 * k) p q c a
  | 0, p, a, q, c, ha, h => by
    rw [pce] at h
    split at h
    · cases h
    · split at h
      · cases h
      · exact cpr_ok hc h a
  | k + 1, p, a, q, c, ha, h => by
    rw [pce] at h
    split at h
    · split at h
      · rename_i q0 c0 hk
        split at h
        · rename_i e41
          cases h
          have hp := hc.lt e41 (by decide)
          obtain ⟨g1, g2, g3, g4, E, g5, g6⟩ := cnd_ok hN (pce_ok hc hN k) _ _ _ _ (by omega) hk
          exact ⟨by omega, by omega, by omega, g4, E, g5, g6.wk (by omega)⟩
        · cases h
      · cases h
    · split at h
      · rename_i e33
        split at h
        · rename_i q0 c0 hk
          cases h
          obtain ⟨g1, g2, g3, g4, E, g5, g6⟩ := pce_ok hc hN k _ _ _ _ (by omega) hk
          exact ⟨by simp; omega, by omega, by omega, g4.app (Vc.one (by omega) (by omega) (fun z => by omega)), _, fun _ => Bl.not (g5 trivial), (g6.not (g5 trivial)).wk (by omega)⟩
        · cases h
      · exact cpr_ok hc h a
theorem brk_ok {ch : Nat → Int32} {N : Nat} (hc : Ch ch N) (hN : N ≤ 200) {p a q : Nat} {c : Cd} (ha : a ≤ p) (h : brk ch N p a = .ok (q, c)) : Gd True N 14 p q c a := by
  unfold brk at h
  split at h
  · split at h
    · rename_i q0 c0 hk
      split at h
      · rename_i e41
        cases h
        have hp := hc.lt e41 (by decide)
        obtain ⟨g1, g2, g3, g4, E, g5, g6⟩ := cnd_ok hN (pce_ok hc hN 5) _ _ _ _ (by omega) hk
        exact ⟨by omega, by omega, by omega, g4, E, g5, g6.wk (by omega)⟩
      · cases h
    · cases h
  · cases h
