theorem fa_or (a b : Nat) : nI a ||| nI b = nI (a ||| b) := by
  apply Int32.toBitVec_inj.1
  show BitVec.ofNat 32 a ||| BitVec.ofNat 32 b = BitVec.ofNat 32 (a ||| b)
  apply BitVec.eq_of_getLsbD_eq
  intro i hi
  simp [hi]
def bcI (x : Int32) : Int32 := ((((((((x - (((x.toUInt32 >>> ((1 : Int32).toUInt32 &&& Int32.toUInt32 31)).toInt32) &&& 1431655765)) &&& 858993459) + ((((x - (((x.toUInt32 >>> ((1 : Int32).toUInt32 &&& Int32.toUInt32 31)).toInt32) &&& 1431655765)).toUInt32 >>> ((2 : Int32).toUInt32 &&& Int32.toUInt32 31)).toInt32) &&& 858993459)) + (((((x - (((x.toUInt32 >>> ((1 : Int32).toUInt32 &&& Int32.toUInt32 31)).toInt32) &&& 1431655765)) &&& 858993459) + ((((x - (((x.toUInt32 >>> ((1 : Int32).toUInt32 &&& Int32.toUInt32 31)).toInt32) &&& 1431655765)).toUInt32 >>> ((2 : Int32).toUInt32 &&& Int32.toUInt32 31)).toInt32) &&& 858993459)).toUInt32 >>> ((4 : Int32).toUInt32 &&& Int32.toUInt32 31)).toInt32)) &&& 252645135) + (((((((x - (((x.toUInt32 >>> ((1 : Int32).toUInt32 &&& Int32.toUInt32 31)).toInt32) &&& 1431655765)) &&& 858993459) + ((((x - (((x.toUInt32 >>> ((1 : Int32).toUInt32 &&& Int32.toUInt32 31)).toInt32) &&& 1431655765)).toUInt32 >>> ((2 : Int32).toUInt32 &&& Int32.toUInt32 31)).toInt32) &&& 858993459)) + (((((x - (((x.toUInt32 >>> ((1 : Int32).toUInt32 &&& Int32.toUInt32 31)).toInt32) &&& 1431655765)) &&& 858993459) + ((((x - (((x.toUInt32 >>> ((1 : Int32).toUInt32 &&& Int32.toUInt32 31)).toInt32) &&& 1431655765)).toUInt32 >>> ((2 : Int32).toUInt32 &&& Int32.toUInt32 31)).toInt32) &&& 858993459)).toUInt32 >>> ((4 : Int32).toUInt32 &&& Int32.toUInt32 31)).toInt32)) &&& 252645135).toUInt32 >>> ((8 : Int32).toUInt32 &&& Int32.toUInt32 31)).toInt32)) + ((((((((x - (((x.toUInt32 >>> ((1 : Int32).toUInt32 &&& Int32.toUInt32 31)).toInt32) &&& 1431655765)) &&& 858993459) + ((((x - (((x.toUInt32 >>> ((1 : Int32).toUInt32 &&& Int32.toUInt32 31)).toInt32) &&& 1431655765)).toUInt32 >>> ((2 : Int32).toUInt32 &&& Int32.toUInt32 31)).toInt32) &&& 858993459)) + (((((x - (((x.toUInt32 >>> ((1 : Int32).toUInt32 &&& Int32.toUInt32 31)).toInt32) &&& 1431655765)) &&& 858993459) + ((((x - (((x.toUInt32 >>> ((1 : Int32).toUInt32 &&& Int32.toUInt32 31)).toInt32) &&& 1431655765)).toUInt32 >>> ((2 : Int32).toUInt32 &&& Int32.toUInt32 31)).toInt32) &&& 858993459)).toUInt32 >>> ((4 : Int32).toUInt32 &&& Int32.toUInt32 31)).toInt32)) &&& 252645135) + (((((((x - (((x.toUInt32 >>> ((1 : Int32).toUInt32 &&& Int32.toUInt32 31)).toInt32) &&& 1431655765)) &&& 858993459) + ((((x - (((x.toUInt32 >>> ((1 : Int32).toUInt32 &&& Int32.toUInt32 31)).toInt32) &&& 1431655765)).toUInt32 >>> ((2 : Int32).toUInt32 &&& Int32.toUInt32 31)).toInt32) &&& 858993459)) + (((((x - (((x.toUInt32 >>> ((1 : Int32).toUInt32 &&& Int32.toUInt32 31)).toInt32) &&& 1431655765)) &&& 858993459) + ((((x - (((x.toUInt32 >>> ((1 : Int32).toUInt32 &&& Int32.toUInt32 31)).toInt32) &&& 1431655765)).toUInt32 >>> ((2 : Int32).toUInt32 &&& Int32.toUInt32 31)).toInt32) &&& 858993459)).toUInt32 >>> ((4 : Int32).toUInt32 &&& Int32.toUInt32 31)).toInt32)) &&& 252645135).toUInt32 >>> ((8 : Int32).toUInt32 &&& Int32.toUInt32 31)).toInt32)).toUInt32 >>> ((16 : Int32).toUInt32 &&& Int32.toUInt32 31)).toInt32)) &&& 63)
theorem EV.bc {d : Nat} {σ : QS} {x : Int32} : EV d 199 0 [some (.inl x)] [] σ (qis (bcI x) σ) := pJ_bitCount_0 ⟨rfl, rfl⟩
def sm (X : Int32) : Nat → Int32
  | 0 => 0
  | j + 1 => sm X j + ((X >>> (nI j &&& 31)) &&& 1)
set_option maxRecDepth 100000 in
theorem bc_sm : ∀ m, m < 4096 → bcI (nI m) = sm (nI m) 12 := by decide +kernel
def lc (f w : Nat → Int32) (b h : Nat) : Bool := decide (¬ f h = 12 ∧ ¬ (b < 24 ∧ f h = f b) ∧ (b < h ∧ w h = 0 ∨ ¬ b < h ∧ w h = 1))
def lsI (f w : Nat → Int32) (b : Nat) : Nat → Int32
  | 0 => 0
  | j + 1 => if lc f w b j = true then lsI f w b j ||| (1 <<< (f j &&& 31)) else lsI f w b j
theorem sh1 : ∀ o, o < 13 → (1 : Int32) <<< (nI o &&& 31) = nI (2 ^ o) := by decide +kernel
theorem lsI_rng {f w : Nat → Int32} (hf : ∀ h, h < 24 → ∃ o, o ≤ 12 ∧ f h = nI o) {b : Nat} : ∀ j, j ≤ 24 → ∃ m, m < 4096 ∧ lsI f w b j = nI m
  | 0, _ => ⟨0, by decide, rfl⟩
  | j + 1, hj => by
    obtain ⟨m, hm, e⟩ := lsI_rng hf (b := b) j (by omega)
    unfold lsI
    split
    · rename_i hc
      obtain ⟨o, ho, eo⟩ := hf j (by omega)
      have h12 := (of_decide_eq_true hc).1
      have o12 : o < 12 := by
        rcases Nat.lt_or_ge o 12 with z | z
        · exact z
        · exfalso; apply h12; rw [eo, show o = 12 by omega]; rfl
      refine ⟨m ||| 2 ^ o, ?_, ?_⟩
      · exact Nat.or_lt_two_pow (n := 12) hm (Nat.pow_lt_pow_right (by decide) o12)
      · rw [e, eo, sh1 o (by omega), fa_or]
    · exact ⟨m, hm, e⟩
def lia (f w : Nat → Int32) (b : Nat) : Int32 := sm (lsI f w b 24) 12
theorem nI_leP {a b : Nat} (ha : a < 2 ^ 31) (hb : b < 2 ^ 31) : (nI a ≤ nI b) = (a ≤ b) := propext (nI_leI ha hb)
theorem w012 {w : Nat → Int32} {j : Nat} (h : ∃ o, o ≤ 2 ∧ w j = nI o) : w j = 0 ∨ w j = 1 ∨ w j = 2 := by
  obtain ⟨o, ho, e⟩ := h
  rcases (show o = 0 ∨ o = 1 ∨ o = 2 by omega) with rfl | rfl | rfl
  · exact Or.inl e
  · exact Or.inr (Or.inl e)
  · exact Or.inr (Or.inr e)
theorem EV.liarsX {d : Nat} {σ : QS} {b : Nat} (hb : b ≤ 24) (hf : ∀ h, h < 24 → ∃ o, o ≤ 12 ∧ σ 2 h = nI o) : EV (d + 1) 68 0 [some (.inr 68), some (.inl (nI b)), none, none, none, none] [] σ (qis (lia (σ 2) (σ 43) b) σ) := by
  have main : ∀ v2, (b < 24 → v2 = σ 2 b) → (b = 24 → v2 = 12) → EV (d + 1) 68 4 [some (.inr 68), some (.inl (nI b)), some (.inl v2), some (.inl 0), some (.inl 0), none] [] σ (qis (lia (σ 2) (σ 43) b) σ) := by
    intro v2 hv1 hv2
    have key := up_loop (P := fun j => ∀ w5, EV (d + 1) 68 4 [some (.inr 68), some (.inl (nI b)), some (.inl v2), some (.inl (lsI (σ 2) (σ 43) b j)), some (.inl (nI j)), w5] [] σ (qis (lia (σ 2) (σ 43) b) σ)) (n := 24) ?_ ?_ 0 (by omega)
    · exact key none
    · intro w5
      refine pV_liars_4 ⟨fun _ => ex_I EV.bc ⟨?_, rfl⟩, fun q => absurd (nI_le' (Nat.le_refl 24) (by omega)) q⟩
      obtain ⟨m, hm, e⟩ := lsI_rng (w := σ 43) (b := b) hf 24 (by omega)
      unfold lia
      rw [e, bc_sm m hm]
    · intro j hj ih w5
      have i0 : vp_in (nI j) 24 := vp_in_nI hj (by decide)
      have c0 : (nI j).toNatClampNeg = j := cl_nI (by omega)
      have hle : (nI j ≤ nI b) = (j ≤ b) := nI_leP (by omega) (by omega)
      have hb24 : b < 24 ∨ b = 24 := by omega
      have k1 : lc (σ 2) (σ 43) b j = true → ∀ w5, EV (d + 1) 68 4 [some (.inr 68), some (.inl (nI b)), some (.inl v2), some (.inl (lsI (σ 2) (σ 43) b j ||| (1 <<< (σ 2 j &&& 31)))), some (.inl (nI (j + 1))), w5] [] σ (qis (lia (σ 2) (σ 43) b) σ) := by
        intro e w5
        have := ih w5
        rw [lsI, if_pos e] at this
        exact this
      have k0 : lc (σ 2) (σ 43) b j = false → ∀ w5, EV (d + 1) 68 4 [some (.inr 68), some (.inl (nI b)), some (.inl v2), some (.inl (lsI (σ 2) (σ 43) b j)), some (.inl (nI (j + 1))), w5] [] σ (qis (lia (σ 2) (σ 43) b) σ) := by
        intro e w5
        have := ih w5
        rw [lsI, if_neg (by rw [e]; decide)] at this
        exact this
      clear ih
      refine pV_liars_4 ⟨fun q => absurd q (nI_nle' (a := 24) (by omega) (by omega)), fun _ => ?_⟩
      simp only [c0, nI_p1, hle]
      refine ⟨?_, ⟨fun q5 => ?_, fun q5 => ⟨?_, ⟨fun q6 => ?_, fun q6 => ⟨fun q7 => ⟨?_, ⟨fun q8 => ?_, fun q8 => ⟨?_, ?_⟩⟩⟩, fun q7 => ⟨?_, ⟨fun q9 => ?_, fun q9 => ⟨?_, ?_⟩⟩⟩⟩⟩⟩⟩⟩
      all_goals first | exact i0 | exact k1 (decide_eq_true (by grind)) _ | exact k0 (decide_eq_false (by grind)) _
  refine pV_liars_0 ⟨fun q => ⟨?_, ?_⟩, fun q => ?_⟩
  · have : b ≠ 24 := fun e => q (by rw [e]; rfl)
    exact vp_in_nI (by omega) (by decide)
  · have : b ≠ 24 := fun e => q (by rw [e]; rfl)
    rw [cl_nI (by omega)]
    exact main _ (fun _ => rfl) (fun e => absurd e this)
  · have : b = 24 := (nI_eq (b := 24) (by omega) (by decide)).mp q
    exact main _ (fun e => by omega) (fun _ => rfl)
theorem EV.liarsM {d : Nat} {σ : QS} {b : Nat} (hb : b ≤ 24) (hw : ∀ h, h < 24 → ∃ o, o ≤ 2 ∧ σ 71 h = nI o) : EV d 184 0 [some (.inr 69), some (.inl (nI b)), none, none, none] [] σ (qis (lia (σ 70) (σ 71) b) σ) := by
  refine pM_liarsOf_0 ?_
  have last : EV d 184 17 [some (.inr 69), some (.inl (nI b)), some (.inl (lsI (σ 70) (σ 71) b 24)), some (.inl 0), some (.inl 0)] [] σ (qis (lia (σ 70) (σ 71) b) σ) := by
    have key := up_loop (P := fun j => EV d 184 17 [some (.inr 69), some (.inl (nI b)), some (.inl (lsI (σ 70) (σ 71) b 24)), some (.inl (sm (lsI (σ 70) (σ 71) b 24) j)), some (.inl (nI j))] [] σ (qis (lia (σ 70) (σ 71) b) σ)) (n := 12) ?_ ?_ 0 (by omega)
    · exact key
    · exact pM_liarsOf_17 ⟨fun _ => ⟨rfl, rfl⟩, fun q => absurd (nI_le' (Nat.le_refl 12) (by omega)) q⟩
    · intro j hj ih
      refine pM_liarsOf_17 ⟨fun q => absurd q (nI_nle' (a := 12) (by omega) (by omega)), fun _ => ?_⟩
      rw [nI_p1]
      exact ih
  have key := up_loop (P := fun j => ∀ w4, EV d 184 1 [some (.inr 69), some (.inl (nI b)), some (.inl (lsI (σ 70) (σ 71) b j)), some (.inl (nI j)), w4] [] σ (qis (lia (σ 70) (σ 71) b) σ)) (n := 24) ?_ ?_ 0 (by omega)
  · exact key none
  · intro w4
    exact pM_liarsOf_1 ⟨fun _ => last, fun q => absurd (nI_le' (Nat.le_refl 24) (by omega)) q⟩
  · intro j hj ih w4
    have i0 : vp_in (nI j) 24 := vp_in_nI hj (by decide)
    have c0 : (nI j).toNatClampNeg = j := cl_nI (by omega)
    have cb : (nI b).toNatClampNeg = b := cl_nI (by omega)
    have hle : (nI j ≤ nI b) = (j ≤ b) := nI_leP (by omega) (by omega)
    have hle2 : ((24 : Int32) ≤ nI b) = (24 ≤ b) := nI_leP (a := 24) (by omega) (by omega)
    have ib : ¬ 24 ≤ b → vp_in (nI b) 24 := fun h => vp_in_nI (by omega) (by decide)
    have hw3 := w012 (hw j hj)
    have n01 : ¬ (0 : Int32) = 1 := by decide
    have n02 : ¬ (0 : Int32) = 2 := by decide
    have n12 : ¬ (1 : Int32) = 2 := by decide
    have k1 : lc (σ 70) (σ 71) b j = true → ∀ w4, EV d 184 1 [some (.inr 69), some (.inl (nI b)), some (.inl (lsI (σ 70) (σ 71) b j ||| (1 <<< (σ 70 j &&& 31)))), some (.inl (nI (j + 1))), w4] [] σ (qis (lia (σ 70) (σ 71) b) σ) := by
      intro e w4
      have := ih w4
      rw [lsI, if_pos e] at this
      exact this
    have k0 : lc (σ 70) (σ 71) b j = false → ∀ w4, EV d 184 1 [some (.inr 69), some (.inl (nI b)), some (.inl (lsI (σ 70) (σ 71) b j)), some (.inl (nI (j + 1))), w4] [] σ (qis (lia (σ 70) (σ 71) b) σ) := by
      intro e w4
      have := ih w4
      rw [lsI, if_neg (by rw [e]; decide)] at this
      exact this
    clear ih last
    refine pM_liarsOf_1 ⟨fun q => absurd q (nI_nle' (a := 24) (by omega) (by omega)), fun _ => ?_⟩
    simp only [c0, cb, nI_p1, hle, hle2]
    refine ⟨?_, ⟨fun q2 => ?_, fun q2 => ⟨?_, ⟨fun q3 => ?_, fun q3 => ⟨fun q4 => ⟨fun q5 => ⟨?_, ⟨fun q6 => ?_, fun q6 => ⟨?_, ?_⟩⟩⟩, fun q5 => ⟨?_, ⟨fun q7 => ⟨?_, ?_⟩, fun q7 => ?_⟩⟩⟩, fun q4 => ⟨?_, ⟨?_, ⟨fun q8 => ⟨fun q9 => ⟨?_, ⟨fun q10 => ?_, fun q10 => ⟨?_, ?_⟩⟩⟩, fun q9 => ⟨?_, ⟨fun q11 => ⟨?_, ?_⟩, fun q11 => ?_⟩⟩⟩, fun q8 => ?_⟩⟩⟩⟩⟩⟩⟩⟩
    all_goals first | exact i0 | exact ib (by assumption) | exact k1 (decide_eq_true (by grind)) _ | exact k0 (decide_eq_false (by grind)) _
