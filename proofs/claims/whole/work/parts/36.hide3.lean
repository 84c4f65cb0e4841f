/-- the ROOM in the i-th HOUR of the stay -/
def pr (f lk : Nat → Int32) (p : Int32) (x n : Nat) : Nat → Nat
  | 0 => am (Dd f lk p (x + n) (n - 1)) 7
  | i + 1 => am (Wd (hp f p (x + (i + 1))) (Dd f lk p (x + n) (n - 1 - (i + 1))) (pr f lk p x n i)) 7
theorem pr_lt (f lk : Nat → Int32) (p : Int32) (x n : Nat) : ∀ i, pr f lk p x n i < 8
  | 0 => by have := am_le (Dd f lk p (x + n) (n - 1)) 7; unfold pr; omega
  | i + 1 => by have := am_le (Wd (hp f p (x + (i + 1))) (Dd f lk p (x + n) (n - 1 - (i + 1))) (pr f lk p x n i)) 7; unfold pr; omega
def HdX (σ : QS) (p : Int32) (x n : Nat) (s : QS) : Prop := s 65 4 = nI (Dd (σ 2) (σ 42) p (x + n) (n - 1) (pr (σ 2) (σ 42) p x n 0)) ∧ (∀ i, i < n → s 67 (x + i) = nI (pr (σ 2) (σ 42) p x n i)) ∧ ∀ c, c ≠ 65 → c ≠ 66 → c ≠ 67 → s c = σ c
theorem EV.seekX {d : Nat} {σ : QS} {x n : Nat} {p : Int32} (hn0 : 0 < n) (hn : x + n ≤ 24) (hf : ∀ h, h < 24 → ∃ o, o ≤ 12 ∧ σ 2 h = nI o) : EV (d + 3) 8 0 [some (.inr 65), some (.inl (nI x)), some (.inl (nI (x + n))), some (.inl p), none, none] [] σ (qI (fun y s => y = (if Dd (σ 2) (σ 42) p (x + n) (n - 1) (pr (σ 2) (σ 42) p x n 0) < 1000 then 1 else 0) ∧ HdX σ p x n s)) := by
  refine EV.seek1 hn0 hn hf ?_
  intro C w5 hC
  have hC2 : ∀ i, i < n → ∀ r, r < 8 → C ((x + i) * 8 + r) = nI (Dd (σ 2) (σ 42) p (x + n) (n - 1 - i) r) := by
    intro i hi r hr
    have := hC (n - 1 - i) (by omega) r hr
    rw [show x + n - 1 - (n - 1 - i) = x + i by omega] at this
    exact this
  have main : ∀ m i Rr w5, i + m = n → (∀ k, k < i → Rr (x + k) = nI (pr (σ 2) (σ 42) p x n k)) → EV (d + 3) 8 8 [some (.inr 65), some (.inl (nI x)), some (.inl (nI (x + n))), some (.inl p), some (.inl (nI (x + i))), w5] [] (q_set (q_set σ 66 C) 67 Rr) (qI (fun y s => y = (if Dd (σ 2) (σ 42) p (x + n) (n - 1) (pr (σ 2) (σ 42) p x n 0) < 1000 then 1 else 0) ∧ HdX σ p x n s)) := by
    intro m
    induction m with
    | zero =>
      intro i Rr w5 hi hR
      have hi : i = n := by omega
      subst hi
      have h0 := pr_lt (σ 2) (σ 42) p x i 0
      have r0 : (q_set (q_set σ 66 C) 67 Rr) 67 x = nI (pr (σ 2) (σ 42) p x i 0) := hR 0 hn0
      have e3 : nI x * 8 + nI (pr (σ 2) (σ 42) p x i 0) = nI (x * 8 + pr (σ 2) (σ 42) p x i 0) := by rw [show nI x * 8 = nI (x * 8) from pk_mul _ 8]; exact nI_add _ _
      have c66 : (q_set (q_set σ 66 C) 67 Rr) 66 (x * 8 + pr (σ 2) (σ 42) p x i 0) = nI (Dd (σ 2) (σ 42) p (x + i) (i - 1) (pr (σ 2) (σ 42) p x i 0)) := hC2 0 hn0 _ h0
      have hD : Dd (σ 2) (σ 42) p (x + i) (i - 1) (pr (σ 2) (σ 42) p x i 0) ≤ 1000 := Dd_le (by omega) _
      have hx : HdX σ p x i (q_set (q_set (q_set σ 66 C) 67 Rr) 65 (upd ((q_set (q_set σ 66 C) 67 Rr) 65) 4 (nI (Dd (σ 2) (σ 42) p (x + i) (i - 1) (pr (σ 2) (σ 42) p x i 0))))) := by
        refine ⟨rfl, fun k hk => hR k hk, fun c h1 h2 h3 => ?_⟩
        rw [q_set_ne _ _ h1, q_set_ne _ _ h3, q_set_ne _ _ h2]
      refine pG_seek_8 ⟨fun _ => ⟨vp_in_nI (by omega) (by decide), ?_⟩, fun q => absurd (nI_le' (Nat.le_refl _) (by omega)) q⟩
      rw [cl_nI (by omega), r0, e3, cl_nI (by omega), c66, upd_eq]
      refine ⟨vp_in_nI (by omega) (by decide), fun q => ?_, fun q => ?_⟩
      · have : ¬ Dd (σ 2) (σ 42) p (x + i) (i - 1) (pr (σ 2) (σ 42) p x i 0) < 1000 := by
          have := (nI_leI (a := 1000) (by decide) (by omega)).mp q
          omega
        exact ⟨0, rfl, by rw [if_neg this], hx⟩
      · have : Dd (σ 2) (σ 42) p (x + i) (i - 1) (pr (σ 2) (σ 42) p x i 0) < 1000 := by
          rcases Nat.lt_or_ge (Dd (σ 2) (σ 42) p (x + i) (i - 1) (pr (σ 2) (σ 42) p x i 0)) 1000 with z | z
          · exact z
          · exact absurd (nI_le' z (by omega)) q
        exact ⟨1, rfl, by rw [if_pos this], hx⟩
    | succ m ih =>
      intro i Rr w5 hi hR
      have ii : vp_in (nI (x + i)) 24 := vp_in_nI (by omega) (by decide)
      have cS : ∀ r, r < 8 → (q_set (q_set σ 66 C) 67 Rr) 66 ((x + i) * 8 + r) = nI (Dd (σ 2) (σ 42) p (x + n) (n - 1 - i) r) := fun r hr => hC2 i (by omega) r hr
      have hD : ∀ q, Dd (σ 2) (σ 42) p (x + n) (n - 1 - i) q ≤ 1000 := fun q => Dd_le (by omega) q
      have nxt : ∀ v w, v = nI (pr (σ 2) (σ 42) p x n i) → EV (d + 3) 8 8 [some (.inr 65), some (.inl (nI x)), some (.inl (nI (x + n))), some (.inl p), some (.inl (nI (x + i + 1))), w] [] (q_set (q_set σ 66 C) 67 (upd Rr (x + i) v)) (qI (fun y s => y = (if Dd (σ 2) (σ 42) p (x + n) (n - 1) (pr (σ 2) (σ 42) p x n 0) < 1000 then 1 else 0) ∧ HdX σ p x n s)) := by
        intro v w hv
        refine ih (i + 1) _ _ (by omega) ?_
        intro k hk
        by_cases e : k = i
        · subst e; rw [upd_eq]; exact hv
        · rw [upd_ne _ _ (by omega)]; exact hR k (by omega)
      refine pG_seek_8 ⟨fun q => absurd q (nI_nle' (by omega) (by omega)), fun _ => ⟨fun q => ?_, fun q => ?_⟩⟩
      · have hi0 : 0 < i := by
          rcases Nat.eq_zero_or_pos i with z | z
          · subst z; exact absurd rfl q
          · exact z
        have em : nI (x + i) - 1 = nI (x + (i - 1)) := by
          have := pk_sub (a := x + i) (b := 1) (by omega)
          rw [show x + i - 1 = x + (i - 1) by omega] at this
          exact this
        have r1 : (q_set (q_set σ 66 C) 67 Rr) 67 (x + (i - 1)) = nI (pr (σ 2) (σ 42) p x n (i - 1)) := hR (i - 1) (by omega)
        rw [em, cl_nI (by omega), r1]
        refine ⟨vp_in_nI (by omega) (by decide), ex_I (EV.bestX (G := Wd (hp (σ 2) p (x + i)) (Dd (σ 2) (σ 42) p (x + n) (n - 1 - i)) (pr (σ 2) (σ 42) p x n (i - 1))) (fun r hr => Wd_lt (hD r)) (fun r hr => EV.withX (by omega) hr (pr_lt _ _ _ _ _ _) (cS r hr))) ⟨ii, ?_⟩⟩
        rw [cl_nI (by omega), nI_p1, q_set_same, q_set_eq]
        refine nxt _ _ ?_
        obtain ⟨k, rfl⟩ : ∃ k, i = k + 1 := ⟨i - 1, by omega⟩
        rfl
      · have hi0 : i = 0 := by
          have := (nI_eq (by omega) (by omega)).mp q
          omega
        subst hi0
        refine ex_I (EV.bestX (G := Dd (σ 2) (σ 42) p (x + n) (n - 1)) (fun r hr => by have := hD r; rw [Nat.sub_zero] at this; omega) (fun r hr => EV.withX0 (by omega) hr (cS r hr))) ⟨ii, ?_⟩
        rw [cl_nI (by omega), nI_p1, q_set_same, q_set_eq]
        exact nxt _ _ rfl
  have := main n 0 ((q_set σ 66 C) 67) w5 (by omega) (fun k hk => absurd hk (Nat.not_lt_zero k))
  rw [q_set_id] at this
  exact this
