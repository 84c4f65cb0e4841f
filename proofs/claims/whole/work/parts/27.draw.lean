def dx (x : Nat) : Nat → Nat
  | 0 => x
  | j + 1 => (25173 * dx x j + 13849) % 65536
def dow (f : Nat → Int32) (x : Nat) : Nat → Nat → Int32
  | 0 => f
  | j + 1 => upd (dow f x j) (dx x (j + 1) % 24) (nI (dx x (j + 1) / 24 % 12))
theorem dx_lt {x : Nat} (h : x ≤ 65535) : ∀ j, dx x j ≤ 65535
  | 0 => h
  | j + 1 => by unfold dx; omega
theorem iOw_dow {f g : Nat → Int32} (h : iOw f g) (x : Nat) : ∀ j, iOw (dow f x j) (dow g x j)
  | 0 => h
  | j + 1 => iOw_upd (iOw_dow h x j) (by omega)
theorem q_set_set2 (σ : QS) (c e : Nat) (f g f' g' : Nat → Int32) (h : c ≠ e) : q_set (q_set (q_set (q_set σ c f) e g) c f') e g' = q_set (q_set σ c f') e g' := by
  funext k
  simp only [q_set]
  by_cases h1 : k = e
  · simp [h1]
  · by_cases h2 : k = c
    · simp [h2, h]
    · simp [h1, h2]
theorem q_set_id2 (σ : QS) (c e : Nat) {f g : Nat → Int32} (h1 : f = σ c) (h2 : g = σ e) : q_set (q_set σ c f) e g = σ := by
  subst h1; subst h2
  funext k
  simp only [q_set]
  by_cases h1 : k = e
  · simp [h1]
  · by_cases h2 : k = c
    · simp only [h2, if_true]
      split
      · rename_i h; rw [h]
      · rfl
    · simp [h1, h2]
theorem upd_id {f : Nat → Int32} {i : Nat} {x : Int32} (h : f i = x) : upd f i x = f := by
  funext k
  simp only [upd]
  split
  · rename_i e; rw [e]; exact h.symm
  · rfl
theorem nI_div {a : Nat} (d : Nat) (ha : a < 2 ^ 31) (h0 : 0 < d) (hd : d < 2 ^ 31) : nI a / nI d = nI (a / d) := pk_div ha h0 hd
def drS (σ : QS) (c k e x : Nat) (j : Nat) : QS := q_set (q_set σ c (upd (σ c) k (nI (dx x j)))) e (dow (σ e) x j)
theorem EV.drawX {d : Nat} {σ : QS} {x n : Nat} {Q : QQ} (hx : σ 1 4 = nI x) (hx2 : x ≤ 65535) (hn : n ≤ 40) (hQ : EV (d + 2) 97 4 [some (.inr 0), some (.inl (nI n)), some (.inl (nI n))] [] (drS σ 1 4 2 x n) Q) : EV (d + 2) 97 4 [some (.inr 0), some (.inl (nI n)), some (.inl 0)] [] σ Q := by
  have key := up_loop (P := fun j => EV (d + 2) 97 4 [some (.inr 0), some (.inl (nI n)), some (.inl (nI j))] [] (drS σ 1 4 2 x j) Q) (n := n) hQ ?_ 0 (by omega)
  · have e0 : drS σ 1 4 2 x 0 = σ := q_set_id2 σ 1 2 (upd_id hx) rfl
    rw [e0] at key
    exact key
  · intro j hj ih
    have hb := dx_lt hx2 j
    have hb1 := dx_lt hx2 (j + 1)
    have e1 : 25173 * nI (dx x j) + 13849 = nI (25173 * dx x j + 13849) := by
      rw [show (25173 : Int32) = nI 25173 from rfl, pk_mul]
      exact nI_add _ 13849
    have e2 : nI (25173 * dx x j + 13849) - nI (25173 * dx x j + 13849) / 65536 * 65536 = nI (dx x (j + 1)) := nI_rem 65536 (by omega) (by decide) (by decide)
    have e3 : nI (dx x (j + 1)) - nI (dx x (j + 1)) / 24 * 24 = nI (dx x (j + 1) % 24) := nI_rem 24 (by omega) (by decide) (by decide)
    have e4 : nI (dx x (j + 1)) / 24 = nI (dx x (j + 1) / 24) := nI_div 24 (by omega) (by decide) (by decide)
    have e5 : nI (dx x (j + 1) / 24) - nI (dx x (j + 1) / 24) / 12 * 12 = nI (dx x (j + 1) / 24 % 12) := nI_rem 12 (by omega) (by decide) (by decide)
    have c3 : (nI (dx x (j + 1) % 24)).toNatClampNeg = dx x (j + 1) % 24 := cl_nI (by omega)
    have r1 : drS σ 1 4 2 x j 1 = upd (σ 1) 4 (nI (dx x j)) := rfl
    have r2 : drS σ 1 4 2 x j 2 = dow (σ 2) x j := rfl
    refine pX_draw_4 ⟨fun q => absurd q (nI_nle' (by omega) (by omega)), fun _ => ?_⟩
    have e3' : nI (dx x (j + 1)) - nI (dx x (j + 1) / 24) * 24 = nI (dx x (j + 1) % 24) := by rw [← e4]; exact e3
    simp only [r1, r2, upd_eq, upd_same, e1, e2, e3', e4, e5, c3, nI_p1]
    refine ⟨by decide, by decide, by decide, by decide, vp_in_nI (by omega) (by decide), ?_⟩
    unfold drS
    rw [q_set_set2 _ _ _ _ _ _ _ (by decide)]
    exact ih
theorem EV.drawM {d : Nat} {σ : QS} {x n : Nat} {Q : QQ} (hx : σ 69 0 = nI x) (hx2 : x ≤ 65535) (hn : n ≤ 40) (hQ : EV (d + 1) 192 4 [some (.inr 69), some (.inl (nI n)), some (.inl (nI n))] [] (drS σ 69 0 70 x n) Q) : EV (d + 1) 192 4 [some (.inr 69), some (.inl (nI n)), some (.inl 0)] [] σ Q := by
  have key := up_loop (P := fun j => EV (d + 1) 192 4 [some (.inr 69), some (.inl (nI n)), some (.inl (nI j))] [] (drS σ 69 0 70 x j) Q) (n := n) hQ ?_ 0 (by omega)
  · have e0 : drS σ 69 0 70 x 0 = σ := q_set_id2 σ 69 70 (upd_id hx) rfl
    rw [e0] at key
    exact key
  · intro j hj ih
    have hb := dx_lt hx2 j
    have hb1 := dx_lt hx2 (j + 1)
    have e1 : 25173 * nI (dx x j) + 13849 = nI (25173 * dx x j + 13849) := by
      rw [show (25173 : Int32) = nI 25173 from rfl, pk_mul]
      exact nI_add _ 13849
    have e2 : nI (25173 * dx x j + 13849) - nI (25173 * dx x j + 13849) / 65536 * 65536 = nI (dx x (j + 1)) := nI_rem 65536 (by omega) (by decide) (by decide)
    have e3 : nI (dx x (j + 1)) - nI (dx x (j + 1)) / 24 * 24 = nI (dx x (j + 1) % 24) := nI_rem 24 (by omega) (by decide) (by decide)
    have e4 : nI (dx x (j + 1)) / 24 = nI (dx x (j + 1) / 24) := nI_div 24 (by omega) (by decide) (by decide)
    have e5 : nI (dx x (j + 1) / 24) - nI (dx x (j + 1) / 24) / 12 * 12 = nI (dx x (j + 1) / 24 % 12) := nI_rem 12 (by omega) (by decide) (by decide)
    have c3 : (nI (dx x (j + 1) % 24)).toNatClampNeg = dx x (j + 1) % 24 := cl_nI (by omega)
    have r1 : drS σ 69 0 70 x j 69 = upd (σ 69) 0 (nI (dx x j)) := rfl
    have r2 : drS σ 69 0 70 x j 70 = dow (σ 70) x j := rfl
    refine pM_draw_4 ⟨fun q => absurd q (nI_nle' (by omega) (by omega)), fun _ => ?_⟩
    have e3' : nI (dx x (j + 1)) - nI (dx x (j + 1) / 24) * 24 = nI (dx x (j + 1) % 24) := by rw [← e4]; exact e3
    simp only [r1, r2, upd_eq, upd_same, e1, e2, e3', e4, e5, c3, nI_p1]
    refine ⟨by decide, by decide, by decide, by decide, vp_in_nI (by omega) (by decide), ?_⟩
    unfold drS
    rw [q_set_set2 _ _ _ _ _ _ _ (by decide)]
    exact ih
theorem sim_draw (σ : QS) (n : Int32) (hI : IB σ) : Sim 97 192 [some (.inr 0), some (.inl n), none] [some (.inr 69), some (.inl n), none] σ := by
  by_cases h0 : n < 1
  · exact Sim.no (-1) hI (pX_draw_0 (by simp [h0, qis])) (pM_draw_0 (by simp [h0, qis]))
  by_cases h1 : 40 < n
  · have g1 : ¬ n ≤ 40 := fun q => absurd h1 ((i_nlt n 40).mp q)
    exact Sim.no (-1) hI (pX_draw_0 (by simp [h0, h1, g1, qis])) (pM_draw_0 (by simp [h0, h1, g1, qis]))
  have g1 : n ≤ 40 := (i_nlt n 40).mpr h1
  have g0 : ¬ n < 0 := by
    intro q
    apply h0
    rw [i_lt] at q ⊢
    rw [show (0 : Int32).toInt = 0 from by decide] at q
    rw [show (1 : Int32).toInt = 1 from by decide]
    omega
  obtain ⟨j, hj, rfl⟩ := ix_of' (n := 40) rfl (by decide) g0 h1
  obtain ⟨a1, a2, a3, a4, a5, a6, a7, a8⟩ := hI
  obtain ⟨b1, x, hx, hx2⟩ := a4
  have hx3 : σ 69 0 = nI x := b1.trans hx2
  refine Sim.mk2 (σ1 := q_set (q_set (drS σ 1 4 2 x j) 0 (upd (drS σ 1 4 2 x j 0) 12 0)) 61 (upd (drS σ 1 4 2 x j 61) 3 0)) (G := fun τ => drS τ 69 0 70 x j) (nI (own24 (dow (σ 2) x j))) (pX_draw_0 ?_) ?_ (fun τ hτ => pM_draw_0 ?_) ?_ ?_ ?_
  · refine ⟨fun q => absurd q h0, fun _ => ⟨fun _ => EV.drawX hx2 hx hj (pX_draw_4 ⟨fun _ => ⟨q_fit10, q_fit10, ex_I EV.ownedX ⟨rfl, rfl⟩⟩, fun q => absurd (nI_le' (Nat.le_refl _) (by omega)) q⟩), fun q => absurd g1 q⟩⟩
  · unfold drS
    repeat (refine FrM.set (by decide) ?_)
    exact FrM.rf
  · refine ⟨fun q => absurd q h0, fun _ => ⟨fun q => absurd q h1, fun _ => EV.drawM (by rw [hτ 69 (by decide)]; exact hx3) hx hj (pM_draw_4 ⟨fun _ => ex_I EV.ownedM ⟨?_, rfl⟩, fun q => absurd (nI_le' (Nat.le_refl _) (by omega)) q⟩)⟩⟩
    show some (nI (own24 (dow (τ 70) x j))) = some (nI (own24 (dow (σ 2) x j)))
    rw [hτ 70 (by decide), a1.1]
  · exact ⟨iOw_dow a1 x j, a2, a3, ⟨rfl, dx x j, dx_lt hx j, rfl⟩, a5, a6, a7, a8⟩
  · unfold drS
    repeat (refine FrL.set (by decide) ?_)
    exact FrL.rf
  · exact Or.inl ⟨rfl, rfl⟩
