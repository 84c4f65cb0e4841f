/-! rows of ACTS, the least first -/
def fac : Nat → Nat
  | 0 => 1
  | n + 1 => (n + 1) * fac n
def pmg : Nat → List Nat → Nat → List Nat
  | 0, _, _ => []
  | n + 1, l, t => l.getD (t / fac n) 0 :: pmg n (l.eraseIdx (t / fac n)) (t % fac n)
def pml (n t : Nat) : List Nat := pmg n (List.range n) t
def pm (n t i : Nat) : Nat := (pml n t).getD i 0
def pI (n t i : Nat) : Int32 := nI (pm n t i)
set_option maxRecDepth 100000 in
theorem pm_lt : ∀ n, n < 6 → ∀ t, t < fac n → ∀ i, i < n → pm n t i < 5 := by decide +kernel
set_option maxRecDepth 100000 in
theorem pm_0 : ∀ n, n < 6 → ∀ i, i < n → pm n 0 i = i := by decide +kernel
theorem fac_b : ∀ n, n < 6 → 0 < fac n ∧ fac n ≤ 120 := by decide
/-- nextRow -/
def nx1 (P : Nat → Int32) : Nat → Nat
  | 0 => 0
  | k + 1 => if P k ≤ P (k + 1) then k + 1 else nx1 P k
def nxa (P : Nat → Int32) (r : Nat) : Nat → Nat
  | 0 => 0
  | k + 1 => if k + 1 ≤ r + 1 then k + 1 else if P r ≤ P (k + 1) then k + 1 else nxa P r k
def nxr : Nat → (Nat → Int32) → Nat → Nat → (Nat → Int32)
  | 0, P, _, _ => P
  | f + 1, P, lo, hi => if hi ≤ lo then P else nxr f (upd (upd P lo (P hi)) hi (P lo)) (lo + 1) (hi - 1)
def nxF (N : Nat) (P : Nat → Int32) : Int32 × (Nat → Int32) := if nx1 P (N - 1) = 0 then (0, P) else (1, nxr 5 (upd (upd P (nx1 P (N - 1) - 1) (P (nxa P (nx1 P (N - 1) - 1) (N - 1)))) (nxa P (nx1 P (N - 1) - 1) (N - 1)) (P (nx1 P (N - 1) - 1))) (nx1 P (N - 1)) (N - 1))
def nxok (N t : Nat) : Bool := if t + 1 < fac N then decide ((nxF N (pI N t)).1 = 1) && (List.range N).all (fun i => decide ((nxF N (pI N t)).2 i = pI N (t + 1) i)) else decide ((nxF N (pI N t)).1 = 0)
set_option maxRecDepth 100000 in
theorem nx_dec : ∀ N, N < 5 → ∀ t, t < fac (N + 1) → nxok (N + 1) t = true := by decide +kernel
theorem nx_tab (N : Nat) (h1 : N < 6) (h2 : 0 < N) (t : Nat) (ht : t < fac N) : (t + 1 < fac N → (nxF N (pI N t)).1 = 1 ∧ ∀ i, i < N → (nxF N (pI N t)).2 i = pI N (t + 1) i) ∧ (¬ t + 1 < fac N → (nxF N (pI N t)).1 = 0) := by
  obtain ⟨M, rfl⟩ : ∃ M, N = M + 1 := ⟨N - 1, by omega⟩
  have h := nx_dec M (by omega) t ht
  unfold nxok at h
  refine ⟨fun c => ?_, fun c => ?_⟩
  · rw [if_pos c, Bool.and_eq_true, List.all_eq_true] at h
    exact ⟨of_decide_eq_true h.1, fun i hi => of_decide_eq_true (h.2 i (List.mem_range.mpr hi))⟩
  · rw [if_neg c] at h
    exact of_decide_eq_true h
/-- ordersBy -/
def obI (u : Int32) : Nat → Int32 → Int32 → Option Int32
  | 0, _, _ => none
  | f + 1, s, q => if (u >>> (q &&& 31)) &&& 1 = 1 then obI u f s (q + 1) else if s ≤ 0 then some q else obI u f (s - 1) (q + 1)
def obO : Nat → Int32 → Int32 → Int32 → Option (List Int32)
  | 0, _, _, _ => some []
  | m + 1, left, each, used => if each / nI (m + 1) = 0 then none else match obI used 8 (left / (each / nI (m + 1))) 0 with
    | none => none
    | some q => match obO m (left - left / (each / nI (m + 1)) * (each / nI (m + 1))) (each / nI (m + 1)) (used ||| (1 <<< (q &&& 31))) with
      | none => none
      | some l => some (q :: l)
set_option maxRecDepth 100000 in
theorem ob_tab : ∀ n, n < 6 → ∀ t, t < fac n → obO n (nI t) (nI (fac n)) 0 = some ((pml n t).map nI) := by decide +kernel
set_option maxRecDepth 100000 in
theorem pml_len : ∀ n, n < 6 → ∀ t, t < fac n → (pml n t).length = n := by decide +kernel
theorem n_m1 (k : Nat) : nI k + (-1) = nI k - 1 := (Int32.sub_eq_add_neg _ _).symm
theorem EV.nx12 {d N : Nat} {σ : QS} {Q : QQ} {v2 v3 : Int32} (hN : N ≤ 5) : ∀ f P lo hi s, hi ≤ f + lo → lo + f ≤ 20 → hi < N → Fi 63 63 σ s → (∀ i, i < N → s 63 i = P i) → (∀ s, Fi 63 63 σ s → (∀ i, i < N → s 63 i = nxr f P lo hi i) → Q (some 1) s) → EV (d + 1) 33 12 [some (.inr 62), some (.inl (nI N)), some (.inl v2), some (.inl v3), some (.inl (nI lo)), some (.inl (nI hi))] [] s Q := by
  intro f
  induction f with
  | zero =>
    intro P lo hi s hh hlo hn f1 hP k
    exact pO_next_12 ⟨fun _ => k s f1 hP, fun q => absurd (nI_le' (by omega) (by omega)) q⟩
  | succ f ih =>
    intro P lo hi s hh hlo hn f1 hP k
    rw [nxr] at k
    by_cases c : hi ≤ lo
    · rw [if_pos c] at k
      exact pO_next_12 ⟨fun _ => k s f1 hP, fun q => absurd (nI_le' c (by omega)) q⟩
    · rw [if_neg c] at k
      have cl : (nI lo).toNatClampNeg = lo := cl_nI (by omega)
      have ch : (nI hi).toNatClampNeg = hi := cl_nI (by omega)
      have il : vp_in (nI lo) 5 := vp_in_nI (by omega) (by decide)
      have ihh : vp_in (nI hi) 5 := vp_in_nI (by omega) (by decide)
      refine pO_next_12 ?_
      rw [cl, ch, nI_p1, show nI hi + (-1) = nI (hi - 1) by rw [n_m1]; exact pk_sub (b := 1) (by omega), q_set_same, hP lo (by omega), hP hi hn]
      refine ⟨fun q => absurd q (nI_nle' (by omega) (by omega)), fun _ => ⟨il, ihh, il, ihh, ih _ (lo + 1) (hi - 1) _ (by omega) (by omega) (by omega) (f1.set (by decide) _) (fun i hi2 => ?_) k⟩⟩
      rw [q_set_eq]
      simp only [upd]
      split
      · rfl
      · split
        · rfl
        · exact hP i hi2
theorem nxa_b {P : Nat → Int32} {r : Nat} : ∀ k, r + 1 ≤ k → r + 1 ≤ nxa P r k ∧ nxa P r k ≤ k
  | 0, h => absurd h (by omega)
  | k + 1, h => by
    rw [nxa]
    by_cases c : k + 1 ≤ r + 1
    · rw [if_pos c]; omega
    · rw [if_neg c]
      by_cases c2 : P r ≤ P (k + 1)
      · rw [if_pos c2]; omega
      · rw [if_neg c2]
        have := nxa_b (P := P) (r := r) k (by omega)
        omega
theorem EV.nx7 {d N : Nat} {σ : QS} {Q : QQ} {P : Nat → Int32} {r : Nat} {w4 w5 : Option QV} (hN : N ≤ 5) (hP : ∀ i, i < N → σ 63 i = P i) (k0 : ∀ s, Fi 63 63 σ s → (∀ i, i < N → s 63 i = nxr 5 (upd (upd P r (P (nxa P r (N - 1)))) (nxa P r (N - 1)) (P r)) (r + 1) (N - 1) i) → Q (some 1) s) : ∀ k, r + 1 ≤ k → k < N → nxa P r k = nxa P r (N - 1) → EV (d + 1) 33 7 [some (.inr 62), some (.inl (nI N)), some (.inl (nI r)), some (.inl (nI k)), w4, w5] [] σ Q := by
  intro k
  induction k with
  | zero => intro h; exact absurd h (by omega)
  | succ k ih =>
    intro h1 h2 h3
    have cr : (nI r).toNatClampNeg = r := cl_nI (by omega)
    have ck : (nI (k + 1)).toNatClampNeg = k + 1 := cl_nI (by omega)
    have ir : vp_in (nI r) 5 := vp_in_nI (by omega) (by decide)
    have ik : vp_in (nI (k + 1)) 5 := vp_in_nI (by omega) (by decide)
    have eN : nI N - 1 = nI (N - 1) := pk_sub (b := 1) (by omega)
    have go : nxa P r (N - 1) = k + 1 → EV (d + 1) 33 12 [some (.inr 62), some (.inl (nI N)), some (.inl (nI r)), some (.inl (nI (k + 1))), some (.inl (nI (r + 1))), some (.inl (nI (N - 1)))] [] (q_set σ 63 (upd (upd (σ 63) r (P (k + 1))) (k + 1) (P r))) Q := by
      intro e
      rw [e] at k0
      refine EV.nx12 (σ := σ) hN 5 (upd (upd P r (P (k + 1))) (k + 1) (P r)) (r + 1) (N - 1) _ (by omega) (by omega) (by omega) (Fi.rf.set (by decide) _) (fun i hi => ?_) k0
      rw [q_set_eq]
      simp only [upd]
      split
      · rfl
      · split
        · rfl
        · exact hP i hi
    rw [nxa] at h3
    refine pO_next_7 ?_
    rw [cr, ck, nI_p1, eN, q_set_same, hP r (by omega), hP (k + 1) h2]
    by_cases c : k + 1 ≤ r + 1
    · rw [if_pos c] at h3
      exact ⟨fun _ => ⟨ir, ik, ir, ik, go h3.symm⟩, fun q => absurd (nI_le' c (by omega)) q⟩
    · rw [if_neg c] at h3
      refine ⟨fun q => absurd q (nI_nle' (by omega) (by omega)), fun _ => ⟨ik, ir, ⟨fun q => ?_, fun q => ?_⟩⟩⟩
      · rw [if_pos q] at h3
        exact ⟨ir, ik, ir, ik, go h3.symm⟩
      · rw [if_neg q] at h3
        rw [pk_m1]
        exact ih (by omega) (by omega) h3
theorem EV.nx0 {d N : Nat} {σ : QS} {Q : QQ} {P : Nat → Int32} {w3 w4 w5 : Option QV} (hN : N ≤ 5) (hP : ∀ i, i < N → σ 63 i = P i) (k0 : ∀ s, Fi 63 63 σ s → ((nxF N P).1 = 0 ∨ ∀ i, i < N → s 63 i = (nxF N P).2 i) → Q (some (nxF N P).1) s) : ∀ k, k ≤ N - 1 → nx1 P k = nx1 P (N - 1) → EV (d + 1) 33 1 [some (.inr 62), some (.inl (nI N)), some (.inl (nI k - 1)), w3, w4, w5] [] σ Q := by
  intro k
  induction k with
  | zero =>
    intro h1 h2
    have e : nxF N P = (0, P) := by unfold nxF; rw [← h2]; rfl
    rw [e] at k0
    exact pO_next_1 ⟨fun _ => ⟨fun z => absurd z (by decide), fun _ => k0 σ Fi.rf (Or.inl rfl)⟩, fun z => absurd (by decide) z⟩
  | succ k ih =>
    intro h1 h2
    have ck : (nI k).toNatClampNeg = k := cl_nI (by omega)
    have ck1 : (nI (k + 1)).toNatClampNeg = k + 1 := cl_nI (by omega)
    have em : nI (k + 1) - 1 = nI k := pk_sub (a := k + 1) (b := 1) (by omega)
    rw [nx1] at h2
    refine pO_next_1 ?_
    rw [em, nI_p1, ck, ck1, n_m1, hP k (by omega), hP (k + 1) (by omega)]
    refine ⟨fun z => absurd z (nI_pos (by omega)), fun _ => ⟨vp_in_nI (by omega) (by decide), vp_in_nI (by omega) (by decide), ⟨fun q => ⟨fun _ => ?_, fun z => absurd (nI_pos' (by omega)) z⟩, fun q => ?_⟩⟩⟩
    · rw [if_pos q] at h2
      rw [show nI N - 1 = nI (N - 1) from pk_sub (b := 1) (by omega)]
      have e : nxF N P = (1, nxr 5 (upd (upd P k (P (nxa P k (N - 1)))) (nxa P k (N - 1)) (P k)) (k + 1) (N - 1)) := by
        unfold nxF
        rw [← h2, if_neg (by omega), show k + 1 - 1 = k by omega]
      rw [e] at k0
      exact EV.nx7 hN hP (fun s f1 f2 => k0 s f1 (Or.inr f2)) (N - 1) (by omega) (by omega) rfl
    · rw [if_neg q] at h2
      exact ih (by omega) h2
theorem EV.next {d N t : Nat} {σ : QS} (hN : N ≤ 5) (ht : t < fac N) (hP : ∀ i, i < N → σ 63 i = pI N t i) : EV (d + 1) 33 0 [some (.inr 62), some (.inl (nI N)), none, none, none, none] [] σ (qI (fun y s => Fi 63 63 σ s ∧ (t + 1 < fac N → y = 1 ∧ ∀ i, i < N → s 63 i = pI N (t + 1) i) ∧ (¬ t + 1 < fac N → y = 0))) := by
  refine pO_next_0 ?_
  by_cases h0 : N = 0
  · subst h0
    have ht : t = 0 := by simp [fac] at ht; omega
    subst ht
    exact pO_next_1 ⟨fun _ => ⟨fun z => absurd z (by decide), fun _ => ⟨_, rfl, Fi.rf, fun z => absurd z (by decide), fun _ => rfl⟩⟩, fun z => absurd (by decide) z⟩
  have tab := nx_tab N (by omega) (by omega) t ht
  rw [show nI N - 2 = nI (N - 1) - 1 by rw [show nI (N - 1) - 1 = nI (N - 1) - nI 1 from rfl, show nI N - 2 = nI N - nI 2 from rfl]; rcases (show N = 1 ∨ N = 2 ∨ N = 3 ∨ N = 4 ∨ N = 5 by omega) with rfl | rfl | rfl | rfl | rfl <;> decide]
  refine EV.nx0 hN hP ?_ (N - 1) (Nat.le_refl _) rfl
  intro s f1 f2
  refine ⟨_, rfl, f1, fun z => ?_, fun z => tab.2 z⟩
  obtain ⟨g1, g2⟩ := tab.1 z
  refine ⟨g1, fun i hi => ?_⟩
  rcases f2 with f2 | f2
  · exact absurd (f2.symm.trans g1) (by decide)
  · rw [f2 i hi]; exact g2 i hi
/-! the reference -/
theorem EV.ordI {d : Nat} {σ : QS} {Q : QQ} {n c w v4 v5 v6 : Int32} {k : Nat} {q0 : Int32} (hk : k < 5) (K : ∀ v8, EV d 161 1 [some (.inr 69), some (.inl n), some (.inl c), some (.inl w), some (.inl v4), some (.inl v5), some (.inl (v6 ||| (1 <<< (q0 &&& 31)))), some (.inl (nI (k + 1))), some (.inl v8), some (.inl q0)] [] (q_set σ 105 (upd (σ 105) k q0)) Q) : ∀ f s q, obI v6 f s q = some q0 → EV d 161 3 [some (.inr 69), some (.inl n), some (.inl c), some (.inl w), some (.inl v4), some (.inl v5), some (.inl v6), some (.inl (nI k)), some (.inl s), some (.inl q)] [] σ Q := by
  intro f
  induction f with
  | zero => intro s q h; cases h
  | succ f ih =>
    intro s q h
    rw [obI] at h
    refine pM_ordersBy_3 ⟨fun g => ?_, fun g => ?_⟩
    · rw [if_pos g] at h
      exact ⟨fun z => absurd g z, fun _ => ih s (q + 1) h⟩
    · rw [if_neg g] at h
      refine ⟨fun g2 => ?_, fun g2 => ?_⟩
      · rw [if_pos g2] at h
        obtain rfl := Option.some.inj h
        rw [cl_nI (by omega), nI_p1]
        exact ⟨vp_in_nI hk (by decide), K s⟩
      · rw [if_neg g2] at h
        exact ⟨fun _ => ih (s - 1) (q + 1) h, fun z => absurd z g⟩
theorem EV.ordO {d : Nat} {Q : QQ} {n : Nat} {c w : Int32} (hn : n ≤ 5) : ∀ m k left each used l s w8 w9, k + m = n → obO m left each used = some l → (∀ u, Fi 105 105 s u → (∀ i, i < k → u 105 i = s 105 i) → (∀ i, i < m → u 105 (k + i) = l.getD i 0) → Q none u) → EV d 161 1 [some (.inr 69), some (.inl (nI n)), some (.inl c), some (.inl w), some (.inl left), some (.inl each), some (.inl used), some (.inl (nI k)), w8, w9] [] s Q := by
  intro m
  induction m with
  | zero =>
    intro k left each used l s w8 w9 hk h K
    exact pM_ordersBy_1 ⟨fun _ => K s Fi.rf (fun _ _ => rfl) (fun i hi => absurd hi (by omega)), fun q => absurd (nI_le' (by omega) (by omega)) q⟩
  | succ m ih =>
    intro k left each used l s w8 w9 hk h K
    have ed : nI n - nI k = nI (m + 1) := by rw [pk_sub (by omega)]; congr 1; omega
    rw [obO] at h
    by_cases e0 : each / nI (m + 1) = 0
    · rw [if_pos e0] at h; cases h
    rw [if_neg e0] at h
    split at h
    · cases h
    rename_i q hq
    split at h
    · cases h
    rename_i l' hl
    obtain rfl := Option.some.inj h
    refine pM_ordersBy_1 ?_
    rw [ed]
    refine ⟨fun z => absurd z (nI_nle' (by omega) (by omega)), fun _ => ⟨fun z => absurd ((nI_eq (a := m + 1) (b := 0) (by omega) (by decide)).mp z) (by omega), e0, e0, EV.ordI (by omega) (fun v8 => ih (k + 1) _ _ _ l' _ _ _ (by omega) hl ?_) 8 _ 0 hq⟩⟩
    intro u f1 f2 f3
    refine K u (fun e he => by rw [f1 e he, q_set_ne _ _ (by omega)]) (fun i hi => ?_) (fun i hi => ?_)
    · rw [f2 i (by omega), q_set_eq, upd_ne _ _ (by omega)]
    · rcases i with _ | i
      · rw [Nat.add_zero, f2 k (by omega), q_set_eq, upd_eq]; rfl
      · rw [show k + (i + 1) = k + 1 + i by omega, f3 i (by omega)]; rfl
theorem EV.orders {d n t : Nat} {σ : QS} (hn : n ≤ 5) (ht : t < fac n) : EV d 161 0 [some (.inr 69), some (.inl (nI n)), some (.inl (nI t)), some (.inl (nI (fac n))), none, none, none, none, none, none] [] σ (qV (fun s => Fi 105 105 σ s ∧ ∀ i, i < n → s 105 i = nI (pm n t i))) := by
  refine pM_ordersBy_0 (EV.ordO hn n 0 _ _ _ _ σ none none (by omega) (ob_tab n (by omega) t ht) ?_)
  intro u f1 _ f3
  refine ⟨rfl, f1, fun i hi => ?_⟩
  have := f3 i hi
  rw [Nat.zero_add] at this
  rw [this]
  have hl := pml_len n (by omega) t ht
  unfold pm
  rw [List.getD_eq_getElem?_getD, List.getD_eq_getElem?_getD, List.getElem?_map, List.getElem?_eq_getElem (by omega)]
  rfl
