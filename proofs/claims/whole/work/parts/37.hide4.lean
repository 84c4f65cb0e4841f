def En (w : Nat) : Int32 := if w < 1000 then nI w else 1000000000
theorem En_lo {w : Nat} (h : w < 1000) : En w = nI w := by unfold En; rw [if_pos h]
theorem En_hi {w : Nat} (h : 1000 ≤ w) : En w = 1000000000 := by unfold En; rw [if_neg (by omega)]
theorem En_lt {a b : Nat} : En a < En b ↔ a < b ∧ a < 1000 := by
  by_cases ha : a < 1000
  · rw [En_lo ha]
    by_cases hb : b < 1000
    · rw [En_lo hb, nI_ltI (by omega) (by omega)]
      omega
    · rw [En_hi (by omega), show (1000000000 : Int32) = nI 1000000000 from rfl, nI_ltI (by omega) (by decide)]
      omega
  · rw [En_hi (by omega)]
    constructor
    · intro q
      exfalso
      by_cases hb : b < 1000
      · rw [En_lo hb, show (1000000000 : Int32) = nI 1000000000 from rfl, nI_ltI (by decide) (by omega)] at q
        omega
      · rw [En_hi (by omega)] at q
        exact absurd q (by decide)
    · omega
theorem En_le {a b : Nat} : En a ≤ En b ↔ ¬ (b < a ∧ b < 1000) := by
  rw [i_nlt, En_lt]
theorem and1 (y : Int32) : y &&& 1 = 0 ∨ y &&& 1 = 1 := by
  obtain ⟨j, hj, e⟩ := pk_andE y (m := 1) 1 (by decide)
  rcases (show j = 0 ∨ j = 1 by omega) with rfl | rfl
  · exact Or.inl e
  · exact Or.inr e
theorem idx8 (h q : Nat) : 8 * nI h + nI q = nI (h * 8 + q) := by
  have := pk_mul 8 h
  rw [Nat.mul_comm 8 h] at this
  rw [show (8 : Int32) * nI h = nI (h * 8) from this]
  exact nI_add _ _
theorem EV.movesM {d : Nat} {σ : QS} {h s q : Nat} {p : Int32} {g : Nat → Nat} (hh : h < 24) (hs : s < 8) (hq : q < 8) (hg : σ 108 (h * 8 + q) = En (g q)) (hr : g q ≤ 23 ∨ g q = 1000) : EV (d + 1) 180 0 [some (.inr 69), some (.inl (nI h)), some (.inl (nI s)), some (.inl (nI q)), some (.inl p), none] [] σ (qis (En (Wd (hp (σ 70) p h) g s q)) σ) := by
  have ch : (nI h).toNatClampNeg = h := cl_nI (by omega)
  have ih : vp_in (nI h) 24 := vp_in_nI hh (by decide)
  have es : (nI s = nI q) = (s = q) := nI_eqP (by omega) (by omega)
  refine pM_movesBy_0 ?_
  rw [idx8, cl_nI (by omega), hg, ch]
  refine ⟨vp_in_nI (by omega) (by decide), fun q1 => ?_, fun q1 => ?_⟩
  · have h1 : g q = 1000 := by
      rcases hr with z | z
      · rw [En_lo (by omega)] at q1
        exact absurd q1 (nI_nle' (a := 1000000000) (by omega) (by omega))
      · exact z
    refine ⟨?_, rfl⟩
    have : 1000 ≤ Wd (hp (σ 70) p h) g s q := by
      unfold Wd
      split
      · omega
      · split <;> omega
    rw [En_hi this]
  · have h1 : g q ≤ 23 := by
      rcases hr with z | z
      · exact z
      · rw [z, En_hi (by omega)] at q1; exact absurd (by decide) q1
    have eg : En (g q) = nI (g q) := En_lo (by omega)
    rw [eg, nI_p0, nI_p1]
    refine ⟨fun q2 => ⟨fun q3 => absurd q2 q3, fun _ => ?_⟩, fun q2 => ⟨ih, fun q3 => ?_, fun q3 => ⟨ih, fun q4 => ?_, fun q4 => ⟨fun _ => ?_, fun q5 => absurd q5 q2⟩⟩⟩⟩
    · rw [es] at q2
      refine ⟨?_, rfl⟩
      rw [Wd, if_pos q2, En_lo (by omega)]
    · rw [es] at q2
      refine ⟨?_, rfl⟩
      rw [Wd, if_neg q2, if_neg (by unfold hp; rw [decide_eq_true_eq]; exact fun z => z.1 q3), En_hi (by omega)]
    · rw [es] at q2
      refine ⟨?_, rfl⟩
      have hz : ¬ hp (σ 70) p h = true := by
        unfold hp
        rw [decide_eq_true_eq]
        exact fun z => ((and1 _).elim z.2 q4)
      rw [Wd, if_neg q2, if_neg hz, En_hi (by omega)]
    · rw [es] at q2
      refine ⟨?_, rfl⟩
      have hz : hp (σ 70) p h = true := by
        unfold hp
        rw [decide_eq_true_eq]
        exact ⟨q3, by rw [q4]; decide⟩
      rw [Wd, if_neg q2, if_pos hz, En_lo (by omega)]
theorem En_am {W : Nat → Nat} {j : Nat} : (if En (W (j + 1)) < En (W (am W j)) then En (W (j + 1)) else En (W (am W j))) = En (W (am W (j + 1))) := by
  by_cases h : W (j + 1) < W (am W j)
  · rw [am, if_pos h]
    by_cases h2 : W (j + 1) < 1000
    · rw [if_pos (En_lt.mpr ⟨h, h2⟩)]
    · rw [if_neg (fun z => h2 (En_lt.mp z).2), En_hi (by omega), En_hi (by omega)]
  · rw [am, if_neg h, if_neg (fun z => h (En_lt.mp z).1)]
theorem En_min (w : Nat) : En (min 1000 w) = En w := by
  by_cases h : w < 1000
  · rw [Nat.min_eq_right (by omega)]
  · rw [Nat.min_eq_left (by omega), En_hi (by omega), En_hi (by omega)]
theorem z_bit : ∀ r, r < 8 → ((0 : Int32) >>> (nI r &&& 31)) &&& 1 = 0 := by decide +kernel
def MsM (f lk : Nat → Int32) (p : Int32) (to j : Nat) (C : Nat → Int32) : Prop := ∀ k, k < j → ∀ r, r < 8 → C ((to - 1 - k) * 8 + r) = En (Dd f lk p to k r)
set_option maxHeartbeats 1000000 in
theorem EV.laysM {d : Nat} {σ : QS} {lk : Nat → Int32} {x n : Nat} {p : Int32} (hn0 : 0 < n) (hn : x + n ≤ 24) (hf : ∀ h, h < 24 → ∃ o, o ≤ 12 ∧ σ 70 h = nI o) (hlk : ∀ o, o < 12 → σ 79 o = lk o) (hlk2 : lk 12 = 0) : EV (d + 2) 181 0 [some (.inr 69), some (.inl (nI x)), some (.inl (nI (x + n))), some (.inl p), none, none, none, none, none] [] σ (qV (fun s => ∃ C, s = q_set σ 108 C ∧ MsM (σ 70) lk p (x + n) n C)) := by
  refine pM_laysMoves_0 ?_
  have outer : ∀ m j C w5 w6 w7 w8, j + m = n → MsM (σ 70) lk p (x + n) j C → EV (d + 2) 181 1 [some (.inr 69), some (.inl (nI x)), some (.inl (nI (x + n))), some (.inl p), some (.inl (nI (x + n) - nI (j + 1))), w5, w6, w7, w8] [] (q_set σ 108 C) (qV (fun s => ∃ C, s = q_set σ 108 C ∧ MsM (σ 70) lk p (x + n) n C)) := by
    intro m
    induction m with
    | zero =>
      intro j C w5 w6 w7 w8 hj hC
      have hj : j = n := by omega
      subst hj
      refine pM_laysMoves_1 ⟨fun _ => ⟨rfl, C, rfl, hC⟩, fun q => absurd ?_ q⟩
      rw [i_lt, pk_sub_toInt (by omega) (by omega), nI_toInt (by omega)]
      omega
    | succ m ih =>
      intro j C w5 w6 w7 w8 hj hC
      have eh : nI (x + n) - nI (j + 1) = nI (x + n - (j + 1)) := pk_sub (by omega)
      have eb : nI (x + n) - 1 = nI (x + n - 1) := pk_sub (b := 1) (by omega)
      rw [eh]
      refine pM_laysMoves_1 ⟨fun q => ?_, fun _ => ?_⟩
      · rw [nI_ltP (by omega) (by omega)] at q; omega
      generalize hH : x + n - (j + 1) = H at eh ⊢
      have hH24 : H < 24 := by omega
      have inner : ∀ i r C w6 w7 w8, i + r = 8 → MsM (σ 70) lk p (x + n) j C → (∀ q, q < r → C (H * 8 + q) = En (Dd (σ 70) lk p (x + n) j q)) → EV (d + 2) 181 3 [some (.inr 69), some (.inl (nI x)), some (.inl (nI (x + n))), some (.inl p), some (.inl (nI H)), some (.inl (nI r)), w6, w7, w8] [] (q_set σ 108 C) (qV (fun s => ∃ C, s = q_set σ 108 C ∧ MsM (σ 70) lk p (x + n) n C)) := by
        intro i
        induction i with
        | zero =>
          intro r C w6 w7 w8 hi hC hr
          have hr8 : r = 8 := by omega
          subst hr8
          refine pM_laysMoves_3 ⟨fun _ => ?_, fun q => absurd (nI_le' (Nat.le_refl 8) (by omega)) q⟩
          have e2 : nI H + (-1) = nI (x + n) - nI (j + 1 + 1) := by
            rw [← eh, ← nI_p1 (j + 1)]
            generalize nI (x + n) = A
            generalize nI (j + 1) = B
            apply Int32.toBitVec_inj.mp
            simp only [Int32.toBitVec_add, Int32.toBitVec_sub]
            rw [show ((-1 : Int32)).toBitVec = -(1 : Int32).toBitVec from by decide]
            rw [← BitVec.sub_eq_add_neg, BitVec.sub_sub]
          rw [e2]
          refine ih (j + 1) C _ _ _ _ (by omega) ?_
          intro k hk q hq
          by_cases e : k = j
          · subst e
            rw [show x + n - 1 - k = H by omega]
            exact hr q hq
          · exact hC k (by omega) q hq
        | succ i ihi =>
          intro r C w6 w7 w8 hi hC hr
          have cH : (nI H).toNatClampNeg = H := cl_nI (by omega)
          have iH : vp_in (nI H) 24 := vp_in_nI hH24 (by decide)
          have ix : vp_in (nI (H * 8 + r)) 200 := vp_in_nI (by omega) (by decide)
          have cx : (nI (H * 8 + r)).toNatClampNeg = H * 8 + r := cl_nI (by omega)
          have nxt : ∀ v w6 w7 w8, v = En (Dd (σ 70) lk p (x + n) j r) → EV (d + 2) 181 3 [some (.inr 69), some (.inl (nI x)), some (.inl (nI (x + n))), some (.inl p), some (.inl (nI H)), some (.inl (nI (r + 1))), w6, w7, w8] [] (q_set σ 108 (upd C (H * 8 + r) v)) (qV (fun s => ∃ C, s = q_set σ 108 C ∧ MsM (σ 70) lk p (x + n) n C)) := by
            intro v w6 w7 w8 hv
            refine ihi (r + 1) _ _ _ _ (by omega) ?_ ?_
            · intro k hk q hq
              rw [upd_ne _ _ (by omega)]
              exact hC k hk q hq
            · intro q hq
              by_cases e : q = r
              · subst e; rw [upd_eq]; exact hv
              · rw [upd_ne _ _ (by omega)]
                exact hr q (by omega)
          have s70 : (q_set σ 108 C) 70 = σ 70 := q_set_ne _ _ (by decide)
          have s79 : (q_set σ 108 C) 79 = σ 79 := q_set_ne _ _ (by decide)
          obtain ⟨ow, how, eow⟩ := hf H hH24
          have fin : ∀ B w6 w7 w8, (cl (σ 70) lk H r = true → B = En (Dd (σ 70) lk p (x + n) j r)) → (cl (σ 70) lk H r = false → (1000000000 : Int32) = En (Dd (σ 70) lk p (x + n) j r)) →
              (vp_in (nI H) 24) ∧ (((σ 70 H) = 12 → (vp_in (nI (H * 8 + r)) 200) ∧ (EV (d + 2) 181 3 [some (.inr 69), some (.inl (nI x)), some (.inl (nI (x + n))), some (.inl p), some (.inl (nI H)), some (.inl (nI (r + 1))), w6, w7, w8] [] (q_set σ 108 (upd C (H * 8 + r) B)) (qV (fun s => ∃ C, s = q_set σ 108 C ∧ MsM (σ 70) lk p (x + n) n C)))) ∧ (¬ (σ 70 H) = 12 → (vp_in (nI H) 24) ∧ ((vp_in (σ 70 H) 12) ∧ ((¬ (((σ 79 (σ 70 H).toNatClampNeg) >>> (nI r &&& 31)) &&& 1) = 0 → (vp_in (nI (H * 8 + r)) 200) ∧ (EV (d + 2) 181 3 [some (.inr 69), some (.inl (nI x)), some (.inl (nI (x + n))), some (.inl p), some (.inl (nI H)), some (.inl (nI (r + 1))), w6, w7, w8] [] (q_set σ 108 (upd C (H * 8 + r) 1000000000)) (qV (fun s => ∃ C, s = q_set σ 108 C ∧ MsM (σ 70) lk p (x + n) n C)))) ∧ ((((σ 79 (σ 70 H).toNatClampNeg) >>> (nI r &&& 31)) &&& 1) = 0 → (vp_in (nI (H * 8 + r)) 200) ∧ (EV (d + 2) 181 3 [some (.inr 69), some (.inl (nI x)), some (.inl (nI (x + n))), some (.inl p), some (.inl (nI H)), some (.inl (nI (r + 1))), w6, w7, w8] [] (q_set σ 108 (upd C (H * 8 + r) B)) (qV (fun s => ∃ C, s = q_set σ 108 C ∧ MsM (σ 70) lk p (x + n) n C))))))))  := by
            intro B w6 w7 w8 h1 h2
            refine ⟨iH, fun q => ⟨ix, nxt _ _ _ _ (h1 ?_)⟩, fun q => ?_⟩
            · unfold cl
              rw [q, show ((12 : Int32)).toNatClampNeg = 12 from by decide, hlk2, z_bit r (by omega)]
              rfl
            · have o12 : ow < 12 := by
                rcases Nat.lt_or_ge ow 12 with z | z
                · exact z
                · exfalso; apply q; rw [eow, show ow = 12 by omega]; rfl
              have el : σ 79 (σ 70 H).toNatClampNeg = lk (σ 70 H).toNatClampNeg := by rw [eow, cl_nI (by omega)]; exact hlk ow o12
              refine ⟨iH, by rw [eow]; exact vp_in_nI o12 (by decide), fun q2 => ⟨ix, nxt _ _ _ _ (h2 ?_)⟩, fun q2 => ⟨ix, nxt _ _ _ _ (h1 ?_)⟩⟩
              · rw [el] at q2; exact decide_eq_false q2
              · rw [el] at q2; exact decide_eq_true q2
          refine pM_laysMoves_3 ⟨fun q => absurd q (nI_nle' (a := 8) (by omega) (by omega)), fun _ => ?_⟩
          rw [eb, nI_eqP (a := H) (b := x + n - 1) (by omega) (by omega)]
          refine ⟨fun q => ?_, fun q => ?_⟩
          · obtain ⟨k, rfl⟩ : ∃ k, j = k + 1 := ⟨j - 1, by omega⟩
            have hCk : ∀ q, q < 8 → (q_set σ 108 C) 108 ((H + 1) * 8 + q) = En (Dd (σ 70) lk p (x + n) k q) := by
              intro q hq
              have := hC k (by omega) q hq
              rw [show x + n - 1 - k = H + 1 by omega] at this
              exact this
            have hr8 : r < 8 := by omega
            have mv : ∀ q, q < 8 → EV (d + 1) 180 0 [some (.inr 69), some (.inl (nI (H + 1))), some (.inl (nI r)), some (.inl (nI q)), some (.inl p), none] [] (q_set σ 108 C) (qis (En (Wd (hp (σ 70) p (H + 1)) (Dd (σ 70) lk p (x + n) k) r q)) (q_set σ 108 C)) := fun q hq => EV.movesM (by omega) hr8 hq (hCk q hq) (by have := Dd_rng (f := σ 70) (lk := lk) (p := p) (to := x + n) k (by omega) q; omega)
            have eD : ∀ b, cl (σ 70) lk H r = b → Dd (σ 70) lk p (x + n) (k + 1) r = if b = true then min 1000 (Wd (hp (σ 70) p (H + 1)) (Dd (σ 70) lk p (x + n) k) r (am (Wd (hp (σ 70) p (H + 1)) (Dd (σ 70) lk p (x + n) k) r) 7)) else 1000 := by
              intro b hb
              rw [Dd, show x + n - 1 - (k + 1) = H by omega, show x + n - 1 - k = H + 1 by omega, hb]
            generalize hW : Wd (hp (σ 70) p (H + 1)) (Dd (σ 70) lk p (x + n) k) r = W at mv eD
            have hl : ¬ nI (x + n - 1) ≤ nI H := nI_nle' (by omega) (by omega)
            have loop := up_loop (P := fun q => ∀ w8, EV (d + 2) 181 8 [some (.inr 69), some (.inl (nI x)), some (.inl (nI (x + n))), some (.inl p), some (.inl (nI H)), some (.inl (nI r)), some (.inl (En (W (am W q)))), some (.inl (nI (q + 1))), w8] [] (q_set σ 108 C) (qV (fun s => ∃ C, s = q_set σ 108 C ∧ MsM (σ 70) lk p (x + n) n C))) (n := 7) ?_ ?_ 0 (by omega)
            · refine pM_laysMoves_8 ⟨fun q => absurd q (by decide), fun _ => ⟨fun q2 => ?_, fun _ => ?_⟩⟩
              · rw [eb] at q2; exact absurd q2 hl
              · rw [nI_p1]
                refine ex_I (mv 0 (by omega)) ⟨fun q3 => ?_, fun q3 => ?_⟩
                · have hw : 1000 ≤ W 0 := by
                    rcases Nat.lt_or_ge (W 0) 1000 with z | z
                    · rw [En_lo z] at q3
                      exact absurd q3 (nI_nle' (a := 1000000000) (by omega) (by omega))
                    · exact z
                  have := loop (some (.inl (En (W 0))))
                  rw [show am W 0 = 0 from rfl, En_hi hw] at this
                  rw [En_hi hw]
                  exact this
                · exact loop (some (.inl (En (W 0))))
            · intro w8
              refine pM_laysMoves_8 ⟨fun _ => ?_, fun q => absurd (nI_le' (Nat.le_refl 8) (by omega)) q⟩
              simp only [idx8, cx, cH, nI_p1, q_set_same, q_set_eq, s70, s79]
              exact fin _ _ _ _ (fun e => by rw [eD true e, if_pos rfl, En_min]) (fun e => by rw [eD false e]; rfl)
            · intro q hq ihq w8
              refine pM_laysMoves_8 ⟨fun z => absurd z (nI_nle' (a := 8) (by omega) (by omega)), fun _ => ⟨fun q2 => ?_, fun _ => ?_⟩⟩
              · rw [eb] at q2; exact absurd q2 hl
              · rw [nI_p1, nI_p1]
                refine ex_I (mv (q + 1) (by omega)) ⟨fun q3 => ?_, fun q3 => ?_⟩
                · have := ihq (some (.inl (En (W (q + 1)))))
                  rw [← En_am, if_neg ((i_nlt _ _).mp q3)] at this
                  exact this
                · have h3 : En (W (q + 1)) < En (W (am W q)) := by
                    rcases Classical.em (En (W (q + 1)) < En (W (am W q))) with z | z
                    · exact z
                    · exact absurd ((i_nlt _ _).mpr z) q3
                  have := ihq (some (.inl (En (W (q + 1)))))
                  rw [← En_am, if_pos h3] at this
                  exact this
          · have hj0 : j = 0 := by omega
            subst hj0
            have eD : ∀ b, cl (σ 70) lk H r = b → Dd (σ 70) lk p (x + n) 0 r = if b = true then 0 else 1000 := by
              intro b hb
              rw [Dd, show x + n - 1 = H by omega, hb]
            refine pM_laysMoves_8 ⟨fun q => absurd q (by decide), fun _ => ⟨fun _ => ?_, fun q2 => absurd ?_ q2⟩⟩
            · simp only [idx8, cx, cH, nI_p1, q_set_same, q_set_eq, s70, s79]
              exact fin 0 _ _ _ (fun e => by rw [eD true e]; rfl) (fun e => by rw [eD false e]; rfl)
            · rw [eb]
              exact nI_le' (by omega) (by omega)
      exact inner 8 0 C _ _ _ (by omega) hC (fun q hq => absurd hq (Nat.not_lt_zero q))
  have := outer n 0 (σ 108) none none none none (by omega) (fun k hk => absurd hk (Nat.not_lt_zero k))
  rw [q_set_id] at this
  exact this
