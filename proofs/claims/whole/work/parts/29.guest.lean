theorem st_lt {a b : Int32} (h0 : ¬ a < 0) (h1 : ¬ 24 ≤ a) : b < a + 1 ↔ b ≤ a := by
  obtain ⟨j, hj, rfl⟩ := ix_of (n := 24) rfl (by decide) h0 h1
  rw [nI_p1, i_lt, i_le, nI_toInt (by omega), nI_toInt (by omega)]
  omega
theorem st_ok {a b : Int32} (h0 : ¬ a < 0) (h1 : ¬ b ≤ a) (h2 : ¬ 24 < b) : ∃ x n, 0 < n ∧ x + n ≤ 24 ∧ a = nI x ∧ b = nI (x + n) := by
  have hb : ¬ b < 0 := by
    intro q
    apply h1
    rw [i_le]
    rw [i_lt] at q h0
    rw [show (0 : Int32).toInt = 0 from by decide] at q h0
    omega
  obtain ⟨y, hy, rfl⟩ := ix_of' (n := 24) rfl (by decide) hb h2
  have ha : ¬ 24 ≤ a := by
    intro q
    apply h1
    rw [i_le] at q ⊢
    rw [nI_toInt (by omega)]
    rw [show (24 : Int32).toInt = 24 from by decide] at q
    omega
  obtain ⟨x, hx, rfl⟩ := ix_of (n := 24) rfl (by decide) h0 ha
  have : x < y := by
    rcases Nat.lt_or_ge x y with q | q
    · exact q
    · exact absurd (nI_le' q (by omega)) h1
  exact ⟨x, y - x, by omega, by omega, rfl, by rw [show x + (y - x) = y by omega]⟩
theorem ct_two {p q : Nat → Bool} (h : ∀ k, ¬ (p k = true ∧ q k = true)) (a : Nat) : ∀ n, ct p a n + ct q a n ≤ n
  | 0 => Nat.le_refl 0
  | n + 1 => by
    have := ct_two h a n
    have := h (a + n)
    unfold ct
    cases e1 : p (a + n) <;> cases e2 : q (a + n) <;> simp_all <;> omega
/-- what is left of the pence, and how many lower OWNERS have some HOUR, behind j OWNERS -/
def gL (f : Nat → Int32) (x n : Nat) (p : Int32) : Nat → Int32
  | 0 => p
  | j + 1 => gL f x n p j - (p * nI (ct (isO f (nI j)) x n)) / nI (n - ct (isO f 12) x n)
def gA (f : Nat → Int32) (x n o : Nat) : Nat → Nat
  | 0 => 0
  | j + 1 => if 0 < ct (isO f (nI j)) x n ∧ j < o then gA f x n o j + 1 else gA f x n o j
def gV (f : Nat → Int32) (x n o : Nat) (p : Int32) : Int32 := if ct (isO f (nI o)) x n = 0 then 0 else (p * nI (ct (isO f (nI o)) x n)) / nI (n - ct (isO f 12) x n) + (if gL f x n p 12 ≤ nI (gA f x n o 12) then 0 else 1)
theorem gA_le (f : Nat → Int32) (x n o : Nat) : ∀ j, gA f x n o j ≤ j
  | 0 => Nat.le_refl 0
  | j + 1 => by have := gA_le f x n o j; unfold gA; split <;> omega
theorem g_all {f : Nat → Int32} {x n o : Nat} (ho : o < 12) (hm : ¬ ct (isO f (nI o)) x n = 0) (hn : n ≤ 24) : 0 < n - ct (isO f 12) x n ∧ ¬ nI (n - ct (isO f 12) x n) = 0 ∧ ¬ nI (n - ct (isO f 12) x n) < 1 := by
  have h2 := ct_two (p := isO f 12) (q := isO f (nI o)) (by
    intro k q
    have e1 := of_decide_eq_true q.1
    have e2 := of_decide_eq_true q.2
    rw [e1] at e2
    have := (nI_eq (a := 12) (b := o) (by decide) (by omega)).mp e2
    omega) x n
  have hp : 0 < n - ct (isO f 12) x n := by omega
  refine ⟨hp, nI_ne0 hp (by omega), ?_⟩
  intro q
  have := (nI_ltI (b := 1) (by omega) (by decide)).mp q
  omega
theorem nI_le0 {a : Nat} (h : a < 2 ^ 31) : nI a ≤ 0 ↔ a = 0 := by
  have := nI_leI (a := a) (b := 0) h (by decide)
  rw [show (0 : Int32) = nI 0 from rfl, this]
  omega
theorem EV.shareX {d : Nat} {σ : QS} {x n o : Nat} {p : Int32} (hn0 : 0 < n) (hn : x + n ≤ 24) (ho : o < 12) : EV (d + 1) 21 0 [some (.inr 1), some (.inl (nI x)), some (.inl (nI (x + n))), some (.inl p), some (.inl (nI o)), none, none, none, none, none, none] [] σ (qis (gV (σ 2) x n o p) σ) := by
  have hs : (nI (x + n) - nI x) - nI (ct (isO (σ 2) 12) x n) = nI (n - ct (isO (σ 2) 12) x n) := by
    have h := ct_le (isO (σ 2) 12) x n
    rw [pk_sub (by omega), pk_sub (by omega)]
    congr 1
    omega
  have h12 : (12 : Int32) = nI 12 := rfl
  refine pH_shareOf_0 (ex_I (EV.hoursX hn) (ex_I (EV.hoursX hn) ?_))
  rw [hs]
  by_cases hm : ct (isO (σ 2) (nI o)) x n = 0
  · have e : qis (gV (σ 2) x n o p) σ (some 0) σ := ⟨by unfold gV; rw [if_pos hm], rfl⟩
    exact ⟨fun _ => e, fun _ => ⟨fun q => absurd (by rw [hm]; rfl) q, fun _ => e⟩⟩
  · refine ⟨fun q => absurd q (g_all ho hm (by omega)).2.2, fun _ => ⟨fun _ => ?_, fun q => absurd q (nI_ne0 (by omega) (by have := ct_le (isO (σ 2) (nI o)) x n; omega))⟩⟩
    unfold gV
    rw [if_neg hm]
    obtain ⟨g1, g2, g3⟩ := g_all ho hm (by omega)
    have key := up_loop (P := fun j => ∀ w, EV (d + 1) 21 6 [some (.inr 1), some (.inl (nI x)), some (.inl (nI (x + n))), some (.inl p), some (.inl (nI o)), some (.inl (nI (n - ct (isO (σ 2) 12) x n))), some (.inl (nI (ct (isO (σ 2) (nI o)) x n))), some (.inl (gL (σ 2) x n p j)), some (.inl (nI (gA (σ 2) x n o j))), some (.inl (nI j)), w] [] σ (qis ((p * nI (ct (isO (σ 2) (nI o)) x n)) / nI (n - ct (isO (σ 2) 12) x n) + (if gL (σ 2) x n p 12 ≤ nI (gA (σ 2) x n o 12) then 0 else 1)) σ)) (n := 12) ?_ ?_ 0 (by omega)
    · exact key none
    · intro w
      exact pH_shareOf_6 ⟨fun _ => ⟨g2, fun q => ⟨by rw [if_pos q], rfl⟩, fun q => ⟨by rw [if_neg q], rfl⟩⟩, fun q => absurd (nI_le' (Nat.le_refl 12) (by omega)) q⟩
    · intro j hj ih w
      refine pH_shareOf_6 ⟨fun q => absurd q (nI_nle' (a := 12) (by omega) (by omega)), fun _ => ex_I (EV.hoursX hn) ⟨g2, fun q => ?_, fun q => ⟨fun q2 => ?_, fun q2 => ?_⟩⟩⟩
      · have h1 : ¬ (0 < ct (isO (σ 2) (nI j)) x n ∧ j < o) := fun z => nI_nle' z.2 (by omega) q
        have := ih (some (.inl (nI (ct (isO (σ 2) (nI j)) x n))))
        rw [gA, if_neg h1, gL] at this
        rw [nI_p1]; exact this
      · have h1 : ¬ (0 < ct (isO (σ 2) (nI j)) x n ∧ j < o) := fun z => by
          have := (nI_le0 (by have := ct_le (isO (σ 2) (nI j)) x n; omega)).mp q2
          omega
        have := ih (some (.inl (nI (ct (isO (σ 2) (nI j)) x n))))
        rw [gA, if_neg h1, gL] at this
        rw [nI_p1]; exact this
      · have h1 : 0 < ct (isO (σ 2) (nI j)) x n ∧ j < o := by
          refine ⟨?_, ?_⟩
          · rcases Nat.eq_zero_or_pos (ct (isO (σ 2) (nI j)) x n) with z | z
            · rw [z] at q2; exact absurd (by decide) q2
            · exact z
          · rcases Nat.lt_or_ge j o with z | z
            · exact z
            · exact absurd (nI_le' z (by omega)) q
        have := ih (some (.inl (nI (ct (isO (σ 2) (nI j)) x n))))
        rw [gA, if_pos h1, gL] at this
        rw [nI_p1, nI_p1]; exact this
theorem EV.shareM {d : Nat} {σ : QS} {x n o : Nat} {p : Int32} (hn0 : 0 < n) (hn : x + n ≤ 24) (ho : o < 12) : ∃ R9 : Int32 → QS → Prop, EV d 187 0 [some (.inr 69), some (.inl (nI x)), some (.inl (nI (x + n))), some (.inl 12), none, none] [] σ (qI R9) ∧ ∀ y11 s10, R9 y11 s10 → ∃ R12 : Int32 → QS → Prop, EV d 187 0 [some (.inr 69), some (.inl (nI x)), some (.inl (nI (x + n))), some (.inl (nI o)), none, none] [] s10 (qI R12) ∧ ∀ y14 s13, R12 y14 s13 → (¬ y14 = 0 → EV (d + 1) 188 14 [some (.inr 69), some (.inl (nI x)), some (.inl (nI (x + n))), some (.inl p), some (.inl (nI o)), some (.inl ((nI (x + n) - nI x) - y11)), some (.inl p), some (.inl 0), some (.inl 0), none] [] s13 (qis (gV (σ 70) x n o p) σ)) ∧ (y14 = 0 → (qis (gV (σ 70) x n o p) σ) (some 0) s13) := by
  have hs : (nI (x + n) - nI x) - nI (ct (isO (σ 70) 12) x n) = nI (n - ct (isO (σ 70) 12) x n) := by
    have h := ct_le (isO (σ 70) 12) x n
    rw [pk_sub (by omega), pk_sub (by omega)]
    congr 1
    omega
  have h12 : (12 : Int32) = nI 12 := rfl
  refine ex_I (EV.hoursM hn) (ex_I (EV.hoursM hn) ?_)
  rw [hs]
  by_cases hm : ct (isO (σ 70) (nI o)) x n = 0
  · have e : qis (gV (σ 70) x n o p) σ (some 0) σ := ⟨by unfold gV; rw [if_pos hm], rfl⟩
    exact ⟨fun q => absurd (by rw [hm]; rfl) q, fun _ => e⟩
  · refine ⟨fun _ => ?_, fun q => absurd q (nI_ne0 (by omega) (by have := ct_le (isO (σ 70) (nI o)) x n; omega))⟩
    unfold gV
    rw [if_neg hm]
    obtain ⟨g1, g2, g3⟩ := g_all ho hm (by omega)
    have key := up_loop (P := fun j => ∀ w, EV (d + 1) 188 14 [some (.inr 69), some (.inl (nI x)), some (.inl (nI (x + n))), some (.inl p), some (.inl (nI o)), some (.inl (nI (n - ct (isO (σ 70) 12) x n))), some (.inl (gL (σ 70) x n p j)), some (.inl (nI (gA (σ 70) x n o j))), some (.inl (nI j)), w] [] σ (qis ((p * nI (ct (isO (σ 70) (nI o)) x n)) / nI (n - ct (isO (σ 70) 12) x n) + (if gL (σ 70) x n p 12 ≤ nI (gA (σ 70) x n o 12) then 0 else 1)) σ)) (n := 12) ?_ ?_ 0 (by omega)
    · exact key none
    · intro w
      exact pM_guest_14 ⟨fun _ => ex_I (EV.hoursM hn) ⟨g2, fun q => ⟨by rw [if_pos q], rfl⟩, fun q => ⟨by rw [if_neg q], rfl⟩⟩, fun q => absurd (nI_le' (Nat.le_refl 12) (by omega)) q⟩
    · intro j hj ih w
      refine pM_guest_14 ⟨fun q => absurd q (nI_nle' (a := 12) (by omega) (by omega)), fun _ => ex_I (EV.hoursM hn) ⟨g2, fun q2 => ?_, fun q2 => ⟨fun q => ?_, fun q => ?_⟩⟩⟩
      · have h1 : ¬ (0 < ct (isO (σ 70) (nI j)) x n ∧ j < o) := fun z => by
          have := (nI_le0 (by have := ct_le (isO (σ 70) (nI j)) x n; omega)).mp q2
          omega
        have := ih (some (.inl (nI (ct (isO (σ 70) (nI j)) x n))))
        rw [gA, if_neg h1, gL] at this
        rw [nI_p1, nI_p0]; exact this
      · have h1 : ¬ (0 < ct (isO (σ 70) (nI j)) x n ∧ j < o) := fun z => nI_nle' z.2 (by omega) q
        have := ih (some (.inl (nI (ct (isO (σ 70) (nI j)) x n))))
        rw [gA, if_neg h1, gL] at this
        rw [nI_p1, nI_p0]; exact this
      · have h1 : 0 < ct (isO (σ 70) (nI j)) x n ∧ j < o := by
          refine ⟨?_, ?_⟩
          · rcases Nat.eq_zero_or_pos (ct (isO (σ 70) (nI j)) x n) with z | z
            · rw [z] at q2; exact absurd (by decide) q2
            · exact z
          · rcases Nat.lt_or_ge j o with z | z
            · exact z
            · exact absurd (nI_le' z (by omega)) q
        have := ih (some (.inl (nI (ct (isO (σ 70) (nI j)) x n))))
        rw [gA, if_pos h1, gL] at this
        rw [nI_p1, nI_p1]; exact this
theorem sim_guest (σ : QS) (a b p o : Int32) (hI : IB σ) : Sim 94 188 [some (.inr 0), some (.inl a), some (.inl b), some (.inl p), some (.inl o)] [some (.inr 69), some (.inl a), some (.inl b), some (.inl p), some (.inl o), none, none, none, none, none] σ := by
  have no : ∀ r s, qis r s (some r) s := fun r s => ⟨rfl, rfl⟩
  by_cases h0 : a < 0
  · exact Sim.no (-1) hI (pX_guest_0 (by simp [h0, qis])) (pM_guest_0 (by simp [h0, qis]))
  by_cases h1 : b ≤ a
  · exact Sim.no (-1) hI (pX_guest_0 (by simp [h0, h1, qis])) (pM_guest_0 ⟨fun _ => no _ _, fun _ => ⟨fun _ => no _ _, fun q => ⟨fun _ => no _ _, fun q2 => absurd ((st_lt h0 q).mpr h1) q2⟩⟩⟩)
  by_cases h2 : 24 < b
  · exact Sim.no (-1) hI (pX_guest_0 (by simp [h0, h1, h2, qis])) (pM_guest_0 ⟨fun _ => no _ _, fun _ => ⟨fun _ => no _ _, fun q => ⟨fun _ => no _ _, fun q2 => ⟨fun _ => no _ _, fun q3 => absurd h2 q3⟩⟩⟩⟩)
  obtain ⟨x, n, hn0, hn, rfl, rfl⟩ := st_ok h0 h1 h2
  have g0 : ¬ 24 ≤ nI x := nI_nle' (a := 24) (by omega) (by omega)
  have g1 : ¬ nI (x + n) < nI x + 1 := fun q => h1 ((st_lt h0 g0).mp q)
  by_cases h3 : p < 0
  · exact Sim.no (-1) hI (pX_guest_0 (by simp [h0, h1, h2, h3, qis])) (pM_guest_0 (by simp [h0, g0, g1, h2, h3, qis]))
  by_cases h4 : 99999 < p
  · exact Sim.no (-1) hI (pX_guest_0 (by simp [h0, h1, h2, h3, h4, qis])) (pM_guest_0 (by simp [h0, g0, g1, h2, h3, h4, qis]))
  by_cases h5 : o < 0
  · exact Sim.no (-1) hI (pX_guest_0 (by simp [h0, h1, h2, h3, h4, h5, qis])) (pM_guest_0 (by simp [h0, g0, g1, h2, h3, h4, h5, qis]))
  by_cases h6 : 12 ≤ o
  · exact Sim.no (-1) hI (pX_guest_0 (by simp [h0, h1, h2, h3, h4, h5, h6, qis])) (pM_guest_0 (by simp [h0, g0, g1, h2, h3, h4, h5, h6, qis]))
  obtain ⟨k, hk, rfl⟩ := ix_of (n := 12) rfl (by decide) h5 h6
  have e : σ 2 = σ 70 := hI.1.1.symm
  refine Sim.no (gV (σ 70) x n k p) hI (pX_guest_0 ?_) (pM_guest_0 ?_)
  · rw [← e]
    exact ⟨fun q => absurd q h0, fun _ => ⟨fun q => absurd q h1, fun _ => ⟨fun q => absurd q h2, fun _ => ⟨fun q => absurd q h3, fun _ => ⟨fun q => absurd q h4, fun _ => ⟨fun q => absurd q h5, fun _ => ⟨fun q => absurd q h6, fun _ => ex_I (EV.shareX hn0 hn hk) ⟨rfl, rfl⟩⟩⟩⟩⟩⟩⟩⟩
  · exact ⟨fun q => absurd q h0, fun _ => ⟨fun q => absurd q g0, fun _ => ⟨fun q => absurd q g1, fun _ => ⟨fun q => absurd q h2, fun _ => ⟨fun q => absurd q h3, fun _ => ⟨fun q => absurd q h4, fun _ => ⟨fun q => absurd q h5, fun _ => ⟨fun q => absurd q h6, fun _ => EV.shareM hn0 hn hk⟩⟩⟩⟩⟩⟩⟩⟩
