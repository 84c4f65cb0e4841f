def tS (S : QS) (n : Nat) (y : Int32) : QS := q_set (q_set S 12 (upd (S 12) n y)) 11 (upd (S 11) 1 (nI (n + 1)))
def mS (S : QS) (n : Nat) (y : Int32) : QS := q_set (q_set S 80 (upd (S 80) n y)) 69 (upd (S 69) 12 (nI (n + 1)))
def tA (S : QS) (n : Nat) (x : Int32) : QS := tS (tS (tS (tS S n ((x >>> ((24 : Int32) &&& 31)) &&& 255)) (n + 1) ((x >>> ((16 : Int32) &&& 31)) &&& 255)) (n + 2) ((x >>> ((8 : Int32) &&& 31)) &&& 255)) (n + 3) ((x >>> ((0 : Int32) &&& 31)) &&& 255)
def mB (x : Int32) : Int32 := vp_nar .byte x.toInt8.toInt32
def mA (S : QS) (n : Nat) (x : Int32) : QS := mS (mS (mS (mS S n (mB (x >>> ((24 : Int32) &&& 31)))) (n + 1) (mB (x >>> ((16 : Int32) &&& 31)))) (n + 2) (mB (x >>> ((8 : Int32) &&& 31)))) (n + 3) (mB (x >>> ((0 : Int32) &&& 31)))
theorem tS_11 (S : QS) (n : Nat) (y : Int32) : tS S n y 11 1 = nI (n + 1) := rfl
theorem mS_69 (S : QS) (n : Nat) (y : Int32) : mS S n y 69 12 = nI (n + 1) := rfl
theorem add1 {d : Nat} {S : QS} {n : Nat} {x v : Int32} {Q : QQ} (hs : S 11 1 = nI n) (hn : n < 220) (hv : ¬ v < 0) (h : EV d 56 1 [some (.inr 11), some (.inl x), some (.inl (v + (-8)))] [] (tS S n ((x >>> (v &&& 31)) &&& 255)) Q) : EV d 56 1 [some (.inr 11), some (.inl x), some (.inl v)] [] S Q := by
  refine pT_add_1 ⟨fun q => absurd q hv, fun _ => ⟨fun q => ?_, fun _ => ⟨?_, ?_⟩⟩⟩
  · rw [hs] at q
    exact absurd q (nI_nle' (a := 220) (by omega) (by omega))
  · rw [hs]; exact vp_in_nI hn (by decide)
  · rw [hs, cl_nI (by omega), nI_p1]
    exact h
theorem EV.addX {d : Nat} {S : QS} {n : Nat} {x : Int32} (hs : S 11 1 = nI n) (hn : n + 4 ≤ 220) : EV d 56 0 [some (.inr 11), some (.inl x), none] [] S (qvs (tA S n x)) := by
  refine pT_add_0 (add1 hs (by omega) (by decide) (add1 (tS_11 _ _ _) (by omega) (by decide) (add1 (tS_11 _ _ _) (by omega) (by decide) (add1 (tS_11 _ _ _) (by omega) (by decide) (pT_add_1 ⟨fun _ => ⟨rfl, ?_⟩, fun q => absurd (by decide) q⟩)))))
  unfold tA
  rw [show (24 : Int32) + (-8) = 16 from by decide, show (16 : Int32) + (-8) = 8 from by decide, show (8 : Int32) + (-8) = 0 from by decide]
theorem typ1 {d : Nat} {S : QS} {n : Nat} {x v : Int32} {Q : QQ} (hs : S 69 12 = nI n) (hn : n < 220) (hv : ¬ v < 0) (h : EV d 120 1 [some (.inr 69), some (.inl x), some (.inl (v + (-1)))] [] (mS S n (mB (x >>> ((8 * v) &&& 31)))) Q) : EV d 120 1 [some (.inr 69), some (.inl x), some (.inl v)] [] S Q := by
  refine pM_types_1 ⟨fun q => absurd q hv, fun _ => ⟨?_, ?_⟩⟩
  · rw [hs]; exact vp_in_nI hn (by decide)
  · rw [hs, cl_nI (by omega), nI_p1]
    exact h
theorem EV.addM {d : Nat} {S : QS} {n : Nat} {x : Int32} (hs : S 69 12 = nI n) (hn : n + 4 ≤ 220) : EV d 120 0 [some (.inr 69), some (.inl x), none] [] S (qvs (mA S n x)) := by
  refine pM_types_0 (typ1 hs (by omega) (by decide) (typ1 (mS_69 _ _ _) (by omega) (by decide) (typ1 (mS_69 _ _ _) (by omega) (by decide) (typ1 (mS_69 _ _ _) (by omega) (by decide) (pM_types_1 ⟨fun _ => ⟨rfl, ?_⟩, fun q => absurd (by decide) q⟩)))))
  unfold mA
  rw [show (3 : Int32) + (-1) = 2 from by decide, show (2 : Int32) + (-1) = 1 from by decide, show (1 : Int32) + (-1) = 0 from by decide, show (8 : Int32) * 3 = 24 from by decide, show (8 : Int32) * 2 = 16 from by decide, show (8 : Int32) * 1 = 8 from by decide, show (8 : Int32) * 0 = 0 from by decide]
theorem by_b (x : Int32) : x.toInt8.toInt32 &&& 255 = x &&& 255 := by
  apply Int32.toBitVec_inj.mp
  rw [Int32.toBitVec_and, Int32.toBitVec_and, Int8.toBitVec_toInt32, Int32.toBitVec_toInt8]
  apply BitVec.eq_of_getLsbD_eq
  intro i hi
  rw [BitVec.getLsbD_and, BitVec.getLsbD_and]
  have hm : ∀ i < 32, 8 ≤ i → (255 : Int32).toBitVec.getLsbD i = false := by decide
  rcases Nat.lt_or_ge i 8 with z | z
  · rw [BitVec.getLsbD_signExtend, BitVec.getLsbD_signExtend, if_pos z, if_pos hi]
    simp only [z, hi, decide_true, Bool.true_and]
  · rw [hm i hi z]; simp
/-! ===== the char cast and 65535 ===== -/
theorem mB_and (x : Int32) : mB x &&& 255 = x &&& 255 := by
  unfold mB
  rw [pk_vb, by_b]
def iBy (b t : Nat → Int32) : Prop := ∀ i, i < 220 → b i = t i &&& 255
theorem iBy_upd {b t : Nat → Int32} (h : iBy b t) (n : Nat) (x : Int32) : iBy (upd b n (x &&& 255)) (upd t n (mB x)) := by
  intro i hi
  simp only [upd]
  split
  · exact (mB_and x).symm
  · exact h i hi
theorem iBy_A {S T : QS} (h : iBy (S 12) (T 80)) (n : Nat) (x : Int32) : iBy (tA S n x 12) (mA T n x 80) := iBy_upd (iBy_upd (iBy_upd (iBy_upd h _ _) _ _) _ _) _ _
theorem tA_11 (S : QS) (n : Nat) (x : Int32) : tA S n x 11 1 = nI (n + 4) := rfl
theorem mA_69 (S : QS) (n : Nat) (x : Int32) : mA S n x 69 12 = nI (n + 4) := rfl
def t5 (S : QS) (n : Nat) (a b c e f : Int32) : QS := tA (tA (tA (tA (tA S n a) (n + 4) b) (n + 8) c) (n + 12) e) (n + 16) f
def m5 (S : QS) (n : Nat) (a b c e f : Int32) : QS := mA (mA (mA (mA (mA S n a) (n + 4) b) (n + 8) c) (n + 12) e) (n + 16) f
theorem tA_ne {S : QS} {n : Nat} {x : Int32} {c : Nat} (h1 : c ≠ 11) (h2 : c ≠ 12) : tA S n x c = S c := by
  simp only [tA, tS, q_set, if_neg h1, if_neg h2]
theorem mA_ne {S : QS} {n : Nat} {x : Int32} {c : Nat} (h1 : c ≠ 69) (h2 : c ≠ 80) : mA S n x c = S c := by
  simp only [mA, mS, q_set, if_neg h1, if_neg h2]
theorem t5_ne {S : QS} {n : Nat} {a b c e f : Int32} {k : Nat} (h1 : k ≠ 11) (h2 : k ≠ 12) : t5 S n a b c e f k = S k := by
  unfold t5
  rw [tA_ne h1 h2, tA_ne h1 h2, tA_ne h1 h2, tA_ne h1 h2, tA_ne h1 h2]
theorem m5_ne {S : QS} {n : Nat} {a b c e f : Int32} {k : Nat} (h1 : k ≠ 69) (h2 : k ≠ 80) : m5 S n a b c e f k = S k := by
  unfold m5
  rw [mA_ne h1 h2, mA_ne h1 h2, mA_ne h1 h2, mA_ne h1 h2, mA_ne h1 h2]
theorem mA_slot {S : QS} {n : Nat} {x : Int32} {k : Nat} (h : k ≠ 12) : mA S n x 69 k = S 69 k := by
  show upd (upd (upd (upd (S 69) 12 _) 12 _) 12 _) 12 _ k = S 69 k
  rw [upd_ne _ _ h, upd_ne _ _ h, upd_ne _ _ h, upd_ne _ _ h]
theorem m5_slot {S : QS} {n : Nat} {a b c e f : Int32} {k : Nat} (h : k ≠ 12) : m5 S n a b c e f 69 k = S 69 k := by
  unfold m5
  rw [mA_slot h, mA_slot h, mA_slot h, mA_slot h, mA_slot h]
theorem sim_feed (σ : QS) (a b c e f : Int32) (hI : IB σ) : Sim 73 121 [some (.inr 0), some (.inl a), some (.inl b), some (.inl c), some (.inl e), some (.inl f)] [some (.inr 69), some (.inl a), some (.inl b), some (.inl c), some (.inl e), some (.inl f)] σ := by
  have hI' := hI
  obtain ⟨a1, a2, a3, a4, a5, a6, a7, a8⟩ := hI'
  obtain ⟨b1, ⟨n, hn, hn2⟩, b3⟩ := a6
  have hm : σ 69 12 = nI n := b1.trans hn2
  by_cases h : n + 20 ≤ 220
  · refine Sim.mk2 (σ1 := t5 σ n a b c e f) (G := fun τ => m5 τ n a b c e f) (nI (n + 20)) (pX_feed_0 ⟨fun _ => ?_, fun q => ?_⟩) ?_ (fun τ hτ => pM_feed_0 ⟨fun _ => ?_, fun q => ?_⟩) ?_ ?_ ?_
    · exact ex_V (EV.addX hn2 (by omega)) (ex_V (EV.addX (tA_11 _ _ _) (by omega)) (ex_V (EV.addX (tA_11 _ _ _) (by omega)) (ex_V (EV.addX (tA_11 _ _ _) (by omega)) (ex_V (EV.addX (tA_11 _ _ _) (by omega)) ⟨rfl, rfl⟩))))
    · exfalso
      apply q
      rw [hn2]
      exact (nI_add n 20) ▸ nI_le' (b := 220) h (by decide)
    · intro k hk
      exact t5_ne (by omega) (by omega)
    · have hm2 : τ 69 12 = nI n := by rw [hτ 69 (by decide)]; exact hm
      exact ex_V (EV.addM hm2 (by omega)) (ex_V (EV.addM (mA_69 _ _ _) (by omega)) (ex_V (EV.addM (mA_69 _ _ _) (by omega)) (ex_V (EV.addM (mA_69 _ _ _) (by omega)) (ex_V (EV.addM (mA_69 _ _ _) (by omega)) ⟨rfl, rfl⟩))))
    · exfalso
      apply q
      rw [hτ 69 (by decide), hm]
      exact (nI_add n 20) ▸ nI_le' (b := 220) h (by decide)
    · have r : ∀ k, k ≠ 11 → k ≠ 12 → k ≠ 69 → k ≠ 80 → m5 (t5 σ n a b c e f) n a b c e f k = σ k := fun k h1 h2 h3 h4 => by rw [m5_ne h3 h4, t5_ne h1 h2]
      have r69 : ∀ k, k ≠ 12 → m5 (t5 σ n a b c e f) n a b c e f 69 k = σ 69 k := fun k h1 => by rw [m5_slot h1, t5_ne (by decide) (by decide)]
      refine ⟨?_, ?_, ?_, ?_, ?_, ⟨rfl, ⟨n + 20, h, rfl⟩, ?_⟩, ?_, ?_⟩
      · rw [r 2 (by decide) (by decide) (by decide) (by decide), r 70 (by decide) (by decide) (by decide) (by decide)]; exact a1
      · rw [r 3 (by decide) (by decide) (by decide) (by decide), r 72 (by decide) (by decide) (by decide) (by decide), r 73 (by decide) (by decide) (by decide) (by decide), r 74 (by decide) (by decide) (by decide) (by decide)]; exact a2
      · rw [r 5 (by decide) (by decide) (by decide) (by decide), r 75 (by decide) (by decide) (by decide) (by decide), r 4 (by decide) (by decide) (by decide) (by decide), r 76 (by decide) (by decide) (by decide) (by decide), r 77 (by decide) (by decide) (by decide) (by decide), r 78 (by decide) (by decide) (by decide) (by decide)]; exact a3
      · rw [r 1 (by decide) (by decide) (by decide) (by decide), r69 0 (by decide)]; exact a4
      · unfold iKp
        rw [r 0 (by decide) (by decide) (by decide) (by decide), r69 55 (by decide), r69 56 (by decide), r 7 (by decide) (by decide) (by decide) (by decide), r 8 (by decide) (by decide) (by decide) (by decide), r 9 (by decide) (by decide) (by decide) (by decide), r 10 (by decide) (by decide) (by decide) (by decide), r 6 (by decide) (by decide) (by decide) (by decide), r 110 (by decide) (by decide) (by decide) (by decide), r 111 (by decide) (by decide) (by decide) (by decide), r 112 (by decide) (by decide) (by decide) (by decide), r 113 (by decide) (by decide) (by decide) (by decide), r 114 (by decide) (by decide) (by decide) (by decide), r 115 (by decide) (by decide) (by decide) (by decide), r 116 (by decide) (by decide) (by decide) (by decide), r 117 (by decide) (by decide) (by decide) (by decide)]
        exact a5
      · rw [m5_ne (by decide) (by decide)]
        exact iBy_A (iBy_A (iBy_A (iBy_A (iBy_A (S := σ) (T := t5 σ n a b c e f) (by rw [t5_ne (by decide) (by decide)]; exact b3) _ _) _ _) _ _) _ _) _ _
      · rw [r 42 (by decide) (by decide) (by decide) (by decide), r 79 (by decide) (by decide) (by decide) (by decide)]; exact a7
      · rw [r 43 (by decide) (by decide) (by decide) (by decide), r 71 (by decide) (by decide) (by decide) (by decide)]; exact a8
    · intro k hk
      show m5 (t5 σ n a b c e f) n a b c e f k = σ k
      rw [m5_ne (by omega) (by omega), t5_ne (by omega) (by omega)]
    · refine Or.inr ⟨?_, fun k hk => ?_⟩
      · show m5 (t5 σ n a b c e f) n a b c e f 0 12 = σ 0 12
        rw [m5_ne (by decide) (by decide), t5_ne (by decide) (by decide)]
      · show m5 (t5 σ n a b c e f) n a b c e f k = σ k
        rw [m5_ne (by omega) (by omega), t5_ne (by omega) (by omega)]
  · have h2 : ¬ nI n + 20 ≤ 220 := by
      rw [show nI n + 20 = nI (n + 20) from nI_add n 20]
      exact nI_nle' (b := 220) (by omega) (by omega)
    refine Sim.no (-1) hI (pX_feed_0 ⟨fun q => ?_, fun _ => ⟨rfl, rfl⟩⟩) (pM_feed_0 ⟨fun q => ?_, fun _ => ⟨rfl, rfl⟩⟩)
    · rw [hn2] at q; exact absurd q h2
    · rw [hm] at q; exact absurd q h2
