theorem up_loop {P : Nat → Prop} {n : Nat} (hn : P n) (hs : ∀ j, j < n → P (j + 1) → P j) : ∀ j, j ≤ n → P j := by
  have key : ∀ k j, j + k = n → P j := by
    intro k
    induction k with
    | zero => intro j e; rw [Nat.add_zero] at e; subst e; exact hn
    | succ k ih => intro j e; exact hs j (by omega) (ih (j + 1) (by omega))
  intro j hj
  exact key (n - j) j (by omega)
/-- how many of k numbers from a on -/
def ct (p : Nat → Bool) (a : Nat) : Nat → Nat
  | 0 => 0
  | k + 1 => ct p a k + (if p (a + k) then 1 else 0)
theorem ct_le (p : Nat → Bool) (a : Nat) : ∀ k, ct p a k ≤ k
  | 0 => Nat.le_refl 0
  | k + 1 => by have := ct_le p a k; unfold ct; split <;> omega
theorem ct_not (p : Nat → Bool) (a : Nat) : ∀ k, ct p a k + ct (fun h => !p h) a k = k
  | 0 => rfl
  | k + 1 => by
    have := ct_not p a k
    unfold ct
    cases p (a + k) <;> simp <;> omega
theorem ct_pos {p : Nat → Bool} {a k : Nat} : ∀ n, k < n → p (a + k) = true → 0 < ct p a n
  | 0, h, _ => by omega
  | n + 1, h, hp => by
    unfold ct
    by_cases e : k = n
    · subst e; rw [hp]; simp
    · have := ct_pos n (by omega) hp
      omega
def isO (f : Nat → Int32) (o : Int32) (h : Nat) : Bool := decide (f h = o)
theorem nI_le' {a b : Nat} (h : a ≤ b) (hb : b < 2 ^ 31) : nI a ≤ nI b := (nI_leI (by omega) hb).mpr h
theorem nI_nle' {a b : Nat} (h : b < a) (ha : a < 2 ^ 31) : ¬ nI a ≤ nI b := fun q => by have := (nI_leI ha (by omega)).mp q; omega
theorem nI_p1 (a : Nat) : nI a + 1 = nI (a + 1) := nI_add a 1
theorem nI_p0 (a : Nat) : nI a + 0 = nI a := nI_add a 0
theorem EV.hoursX {d : Nat} {σ : QS} {a n : Nat} {o : Int32} (hn : a + n ≤ 24) : EV d 16 0 [some (.inr 1), some (.inl (nI a)), some (.inl (nI (a + n))), some (.inl o), none, none] [] σ (qis (nI (ct (isO (σ 2) o) a n)) σ) := by
  refine pH_hoursIn_0 ?_
  have key := up_loop (P := fun j => EV d 16 1 [some (.inr 1), some (.inl (nI a)), some (.inl (nI (a + n))), some (.inl o), some (.inl (nI (ct (isO (σ 2) o) a j))), some (.inl (nI (a + j)))] [] σ (qis (nI (ct (isO (σ 2) o) a n)) σ)) (n := n) ?_ ?_ 0 (by omega)
  · exact key
  · exact pH_hoursIn_1 ⟨fun _ => ⟨rfl, rfl⟩, fun q => absurd (nI_le' (Nat.le_refl _) (by omega)) q⟩
  · intro j hj ih
    refine pH_hoursIn_1 ⟨fun q => absurd q (nI_nle' (by omega) (by omega)), fun _ => ⟨vp_in_nI (by omega) (by decide), ?_, ?_⟩⟩
    · intro q
      rw [cl_nI (by omega)] at q
      have e : ct (isO (σ 2) o) a (j + 1) = ct (isO (σ 2) o) a j := by simp [ct, isO, q]
      rw [e, show a + (j + 1) = a + j + 1 by omega] at ih
      rw [nI_p1]; exact ih
    · intro q
      rw [cl_nI (by omega)] at q
      have e : ct (isO (σ 2) o) a (j + 1) = ct (isO (σ 2) o) a j + 1 := by simp [ct, isO, q]
      rw [e, show a + (j + 1) = a + j + 1 by omega] at ih
      rw [nI_p1, nI_p1]; exact ih
theorem EV.hoursM {d : Nat} {σ : QS} {a n : Nat} {o : Int32} (hn : a + n ≤ 24) : EV d 187 0 [some (.inr 69), some (.inl (nI a)), some (.inl (nI (a + n))), some (.inl o), none, none] [] σ (qis (nI (ct (isO (σ 70) o) a n)) σ) := by
  refine pM_hoursIn_0 ?_
  have key := up_loop (P := fun j => EV d 187 1 [some (.inr 69), some (.inl (nI a)), some (.inl (nI (a + n))), some (.inl o), some (.inl (nI (ct (isO (σ 70) o) a j))), some (.inl (nI (a + j)))] [] σ (qis (nI (ct (isO (σ 70) o) a n)) σ)) (n := n) ?_ ?_ 0 (by omega)
  · exact key
  · exact pM_hoursIn_1 ⟨fun _ => ⟨rfl, rfl⟩, fun q => absurd (nI_le' (Nat.le_refl _) (by omega)) q⟩
  · intro j hj ih
    refine pM_hoursIn_1 ⟨fun q => absurd q (nI_nle' (by omega) (by omega)), fun _ => ⟨vp_in_nI (by omega) (by decide), ?_, ?_⟩⟩
    · intro q
      rw [cl_nI (by omega)] at q
      have e : ct (isO (σ 70) o) a (j + 1) = ct (isO (σ 70) o) a j := by simp [ct, isO, q]
      rw [e, show a + (j + 1) = a + j + 1 by omega] at ih
      rw [nI_p1, nI_p0]; exact ih
    · intro q
      rw [cl_nI (by omega)] at q
      have e : ct (isO (σ 70) o) a (j + 1) = ct (isO (σ 70) o) a j + 1 := by simp [ct, isO, q]
      rw [e, show a + (j + 1) = a + j + 1 by omega] at ih
      rw [nI_p1, nI_p1]; exact ih
def own24 (f : Nat → Int32) : Nat := 24 - ct (isO f 12) 0 24
theorem EV.ownedX {d : Nat} {σ : QS} : EV (d + 1) 15 0 [some (.inr 1)] [] σ (qis (nI (own24 (σ 2))) σ) := by
  refine pH_ownedHours_0 (ex_I (EV.hoursX (a := 0) (n := 24) (by omega)) ⟨?_, rfl⟩)
  have h := ct_le (isO (σ 2) 12) 0 24
  show some (nI 24 - nI (ct (isO (σ 2) 12) 0 24)) = some (nI (own24 (σ 2)))
  rw [pk_sub h]
  rfl
theorem EV.ownedM {d : Nat} {σ : QS} : EV d 190 0 [some (.inr 69), none, none] [] σ (qis (nI (own24 (σ 70))) σ) := by
  refine pM_ownedMany_0 ?_
  have e24 : own24 (σ 70) = ct (fun h => !isO (σ 70) 12 h) 0 24 := by
    have := ct_not (isO (σ 70) 12) 0 24
    unfold own24
    omega
  rw [e24]
  have key := up_loop (P := fun j => EV d 190 1 [some (.inr 69), some (.inl (nI (ct (fun h => !isO (σ 70) 12 h) 0 j))), some (.inl (nI j))] [] σ (qis (nI (ct (fun h => !isO (σ 70) 12 h) 0 24)) σ)) (n := 24) ?_ ?_ 0 (by omega)
  · exact key
  · exact pM_ownedMany_1 ⟨fun _ => ⟨rfl, rfl⟩, fun q => absurd (nI_le' (Nat.le_refl 24) (by omega)) q⟩
  · intro j hj ih
    refine pM_ownedMany_1 ⟨fun q => absurd q (nI_nle' (a := 24) (by omega) (by omega)), fun _ => ⟨vp_in_nI (by omega) (by decide), ?_, ?_⟩⟩
    · intro q
      rw [cl_nI (by omega)] at q
      have e : ct (fun h => !isO (σ 70) 12 h) 0 (j + 1) = ct (fun h => !isO (σ 70) 12 h) 0 j + 1 := by simp [ct, isO, q]
      rw [e] at ih
      rw [nI_p1, nI_p1]; exact ih
    · intro q
      rw [cl_nI (by omega)] at q
      have e : ct (fun h => !isO (σ 70) 12 h) 0 (j + 1) = ct (fun h => !isO (σ 70) 12 h) 0 j := by simp [ct, isO, q]
      rw [e] at ih
      rw [nI_p1, nI_p0]; exact ih
theorem iOw_swap {f g : Nat → Int32} (h : iOw f g) {i j : Nat} (hi : i < 24) (hj : j < 24) : iOw (upd (upd f i (f j)) j (f i)) (upd (upd g i (g j)) j (g i)) := by
  obtain ⟨x, hx, ex⟩ := h.2 i hi
  obtain ⟨y, hy, ey⟩ := h.2 j hj
  rw [h.1, ex, ey]
  exact iOw_upd (iOw_upd ⟨rfl, h.2⟩ hy) hx
theorem sim_swap (σ : QS) (a b : Int32) (hI : IB σ) : Sim 84 171 [some (.inr 0), some (.inl a), some (.inl b)] [some (.inr 69), some (.inl a), some (.inl b)] σ := by
  by_cases h0 : a < 0
  · exact Sim.no 0 hI (pX_swap_0 (by simp [h0, qis])) (pM_swap_0 (by simp [h0, qis]))
  by_cases h1 : 24 ≤ a
  · exact Sim.no 0 hI (pX_swap_0 (by simp [h0, h1, qis])) (pM_swap_0 (by simp [h0, h1, qis]))
  by_cases h2 : b < 0
  · exact Sim.no 0 hI (pX_swap_0 (by simp [h0, h1, h2, qis])) (pM_swap_0 (by simp [h0, h1, h2, qis]))
  by_cases h3 : 24 ≤ b
  · exact Sim.no 0 hI (pX_swap_0 (by simp [h0, h1, h2, h3, qis])) (pM_swap_0 (by simp [h0, h1, h2, h3, qis]))
  by_cases h4 : a = b
  · exact Sim.no 0 hI (pX_swap_0 (by simp [h0, h1, h2, h3, h4, qis])) (pM_swap_0 (by simp [h0, h1, h2, h3, h4, qis]))
  obtain ⟨i, hi, rfl⟩ := ix_of (n := 24) rfl (by decide) h0 h1
  obtain ⟨j, hj, rfl⟩ := ix_of (n := 24) rfl (by decide) h2 h3
  have i0 : vp_in (nI i) 24 := vp_in_nI (by omega) (by decide)
  have c0 : (nI i).toNatClampNeg = i := cl_nI (by omega)
  have i1 : vp_in (nI j) 24 := vp_in_nI (by omega) (by decide)
  have c1 : (nI j).toNatClampNeg = j := cl_nI (by omega)
  obtain ⟨a1, a2, a3, a4, a5, a6, a7, a8⟩ := hI
  refine ⟨1, _, _, pX_swap_0 (by simp only [h0, h1, h2, h3, h4, i0, i1, c0, c1, not_true_eq_false, not_false_eq_true, true_and, and_self, forall_const, false_implies, true_implies, and_true, qis, q_fit10, q_fit11]; first | exact ⟨rfl, rfl⟩ | rfl), pM_swap_0 (by simp only [h0, h1, h2, h3, h4, i0, c0, i1, c1, not_true_eq_false, not_false_eq_true, true_and, and_self, forall_const, false_implies, true_implies, and_true, qis, q_fit10, q_fit11]; first | exact ⟨rfl, rfl⟩ | rfl), ?_, ?_, ?_⟩
  · exact ⟨iOw_swap a1 hi hj, a2, a3, a4, a5, a6, a7, a8⟩
  · repeat (refine FrL.set (by decide) ?_)
    exact FrL.rf
  · exact Or.inl ⟨rfl, rfl⟩

