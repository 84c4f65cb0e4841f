/-! where a THING lies -/
def cl (f lk : Nat → Int32) (h r : Nat) : Bool := decide (((lk (f h).toNatClampNeg >>> (nI r &&& 31)) &&& 1) = 0)
def hp (f : Nat → Int32) (p : Int32) (h : Nat) : Bool := decide (¬ f h = 12 ∧ ¬ ((p >>> (f h &&& 31)) &&& 1) = 0)
def am (g : Nat → Nat) : Nat → Nat
  | 0 => 0
  | k + 1 => if g (k + 1) < g (am g k) then k + 1 else am g k
def Wd (hb : Bool) (g : Nat → Nat) (s q : Nat) : Nat := if s = q then g q else if hb = true then g q + 1 else g q + 1000
def Dd (f lk : Nat → Int32) (p : Int32) (to : Nat) : Nat → Nat → Nat
  | 0, r => if cl f lk (to - 1) r = true then 0 else 1000
  | k + 1, r => if cl f lk (to - 1 - (k + 1)) r = true then min 1000 (Wd (hp f p (to - 1 - k)) (Dd f lk p to k) r (am (Wd (hp f p (to - 1 - k)) (Dd f lk p to k) r) 7)) else 1000
theorem am_le (g : Nat → Nat) : ∀ k, am g k ≤ k
  | 0 => Nat.le_refl 0
  | k + 1 => by have := am_le g k; unfold am; split <;> omega
theorem am_min (g : Nat → Nat) : ∀ k j, j ≤ k → g (am g k) ≤ g j
  | 0, j, h => by rw [show j = 0 by omega]; exact Nat.le_refl _
  | k + 1, j, h => by
    have ih := am_min g k
    unfold am
    by_cases e : j = k + 1
    · subst e; split <;> omega
    · have := ih j (by omega)
      split <;> omega
theorem am_first (g : Nat → Nat) : ∀ k j, j < am g k → g (am g k) < g j
  | 0, j, h => absurd h (Nat.not_lt_zero j)
  | k + 1, j, h => by
    have ih := am_first g k
    have hm := am_min g k
    unfold am at h ⊢
    split at h
    · rename_i q
      rw [if_pos q]
      have := hm j (by omega)
      omega
    · rename_i q
      rw [if_neg q]
      exact ih j h
theorem Dd_rng {f lk : Nat → Int32} {p : Int32} {to : Nat} : ∀ k, k ≤ 23 → ∀ r, Dd f lk p to k r ≤ k ∨ Dd f lk p to k r = 1000
  | 0, _, r => by unfold Dd; split <;> omega
  | k + 1, hk, r => by
    have ih := Dd_rng (f := f) (lk := lk) (p := p) (to := to) k (by omega)
    unfold Dd
    split
    · have h1 := ih (am (Wd (hp f p (to - 1 - k)) (Dd f lk p to k) r) 7)
      generalize hq : am (Wd (hp f p (to - 1 - k)) (Dd f lk p to k) r) 7 = q at h1 ⊢
      unfold Wd
      split
      · omega
      · split <;> omega
    · exact Or.inr rfl
theorem EV.withX0 {d : Nat} {σ : QS} {h r : Nat} {p : Int32} {g : Nat → Nat} (hh : h < 24) (hr : r < 8) (hg : σ 66 (h * 8 + r) = nI (g r)) : EV d 11 0 [some (.inr 65), some (.inl (nI h)), some (.inl (-1)), some (.inl (nI r)), some (.inl p), none, none] [] σ (qis (nI (g r)) σ) := by
  have e1 : nI h * 8 + nI r = nI (h * 8 + r) := by rw [show nI h * 8 = nI (h * 8) from pk_mul h 8]; exact nI_add _ _
  have c1 : (nI (h * 8 + r)).toNatClampNeg = h * 8 + r := cl_nI (by omega)
  refine pG_with_0 ?_
  rw [e1, c1, hg]
  exact ⟨vp_in_nI (by omega) (by decide), fun _ => ⟨rfl, rfl⟩, fun q => absurd rfl q⟩
theorem EV.withX {d : Nat} {σ : QS} {h r s : Nat} {p : Int32} {g : Nat → Nat} (hh : h < 24) (hr : r < 8) (hs : s < 8) (hg : σ 66 (h * 8 + r) = nI (g r)) : EV d 11 0 [some (.inr 65), some (.inl (nI h)), some (.inl (nI s)), some (.inl (nI r)), some (.inl p), none, none] [] σ (qis (nI (Wd (hp (σ 2) p h) g s r)) σ) := by
  have e1 : nI h * 8 + nI r = nI (h * 8 + r) := by rw [show nI h * 8 = nI (h * 8) from pk_mul h 8]; exact nI_add _ _
  have c1 : (nI (h * 8 + r)).toNatClampNeg = h * 8 + r := cl_nI (by omega)
  have ch : (nI h).toNatClampNeg = h := cl_nI (by omega)
  have ih : vp_in (nI h) 24 := vp_in_nI hh (by decide)
  have n1 : ¬ nI s = (-1) := by
    intro e
    have := nI_toInt (n := s) (by omega)
    rw [e] at this
    rw [show ((-1 : Int32)).toInt = -1 from by decide] at this
    omega
  have es : (nI s = nI r) = (s = r) := nI_eqP (by omega) (by omega)
  refine pG_with_0 ?_
  rw [e1, c1, hg, ch]
  refine ⟨vp_in_nI (by omega) (by decide), fun q => absurd q n1, fun _ => ⟨fun q => ⟨ih, fun q2 => ?_, fun q2 => ⟨ih, fun q3 => ?_, fun q3 => ?_⟩⟩, fun q => ?_⟩⟩
  · rw [es] at q
    refine ⟨?_, rfl⟩
    rw [Wd, if_neg q, if_neg (by unfold hp; rw [decide_eq_true_eq]; exact fun z => z.1 q2)]
    exact congrArg some (nI_add _ 1000)
  · rw [es] at q
    refine ⟨?_, rfl⟩
    rw [Wd, if_neg q, if_neg (by unfold hp; rw [decide_eq_true_eq]; exact fun z => z.2 q3)]
    exact congrArg some (nI_add _ 1000)
  · rw [es] at q
    refine ⟨?_, rfl⟩
    rw [Wd, if_neg q, if_pos (by unfold hp; rw [decide_eq_true_eq]; exact ⟨q2, q3⟩)]
    exact congrArg some (nI_add _ 1)
  · rw [es] at q
    exact ⟨by rw [Wd, if_pos q], rfl⟩
theorem EV.bestX {d : Nat} {σ : QS} {h : Nat} {q p : Int32} {G : Nat → Nat} (hG : ∀ r, r < 8 → G r < 4000) (hW : ∀ r, r < 8 → EV d 11 0 [some (.inr 65), some (.inl (nI h)), some (.inl q), some (.inl (nI r)), some (.inl p), none, none] [] σ (qis (nI (G r)) σ)) : EV (d + 1) 10 0 [some (.inr 65), some (.inl (nI h)), some (.inl q), some (.inl p), none, none] [] σ (qis (nI (am G 7)) σ) := by
  refine pG_best_0 ?_
  have key := up_loop (P := fun j => EV (d + 1) 10 1 [some (.inr 65), some (.inl (nI h)), some (.inl q), some (.inl p), some (.inl (nI (am G j))), some (.inl (nI (j + 1)))] [] σ (qis (nI (am G 7)) σ)) (n := 7) ?_ ?_ 0 (by omega)
  · exact key
  · exact pG_best_1 ⟨fun _ => ⟨rfl, rfl⟩, fun z => absurd (nI_le' (Nat.le_refl 8) (by omega)) z⟩
  · intro j hj ih
    have ha := am_le G j
    refine pG_best_1 ⟨fun z => absurd z (nI_nle' (a := 8) (by omega) (by omega)), fun _ => ex_I (hW (j + 1) (by omega)) (ex_I (hW (am G j) (by omega)) ⟨fun z => ?_, fun z => ?_⟩)⟩
    · rw [nI_leP (by have := hG (am G j) (by omega); omega) (by have := hG (j + 1) (by omega); omega)] at z
      rw [am, if_neg (by omega)] at ih
      rw [nI_p1]; exact ih
    · rw [nI_leP (by have := hG (am G j) (by omega); omega) (by have := hG (j + 1) (by omega); omega)] at z
      rw [am, if_pos (by omega)] at ih
      rw [nI_p1]; exact ih
