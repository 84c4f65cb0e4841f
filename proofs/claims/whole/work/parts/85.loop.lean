/-! the law's loop -/
theorem lw_gt {L i : Nat} (hL : L ≤ 3072) (hi : i ≤ 4000) : (Int32.ofNat L - 6 < nI i) ↔ L < i + 6 := by
  have h1 := pk_sub_toInt (a := L) (b := 6) (by omega) (by decide)
  have e1 : (Int32.ofNat L - 6 : Int32) = nI L - nI 6 := rfl
  rw [e1, i_lt, h1, nI_toInt (by omega)]
  omega
set_option maxHeartbeats 4000000 in
set_option maxRecDepth 100000 in
theorem lw_loop {p : Program} {l : Launch} {e : Env} {s : State} {m : MethodId} {below : List Frame} {meth : Method} {c0 : Code} {ad : Nat → Nat} {ca : Nat → ClassId} {dC : Nat → ClassId} {dI : Nat → Nat → Nat} {cells slots b L : Nat} {xs : Nat → Int32} (X : lC p s m #[Value.ref b] c0 ad ca dC dI) (hr : meth.sig.returnType = ret) (hlocks : meth.locks = false) (hX : va_X b L xs s s.heap) (hbl : b < s.heap.size) (hL : L ≤ 3072) (hcs : cells ≤ 600000 ∧ slots ≤ 7302250) : ∀ n i σ (H : Heap) (locs : List Loc) (ls : Array Slot) (z : Int32), L < i + n → i ≤ L + 6 → z = nI i → lH ls b ad z → INV σ → FCh σ → va_P (dC, dI) q_cl (q_ws ad ca σ) H → va_S (lA s) s.heap H locs → W p l e room_1 s m #[Value.ref b] below meth c0 H locs cells slots (lw_Z below #[Value.ref b] s) (F0 m 18 ls []) := by
  have hx := X.1
  have hb := X.2.1
  have hbA : ¬ lA s b := Nat.not_le.mpr hbl
  have fin : ∀ (H : Heap) (locs : List Loc) (ls : Array Slot), va_S (lA s) s.heap H locs → W p l e room_1 s m #[Value.ref b] below meth c0 H locs cells slots (lw_Z below #[Value.ref b] s) (F0 m 1161 ls []) := by
    intro H locs ls hS
    refine lv_iconst (v := 1) hx hb dL_law_1161 (by decide) ?_
    refine va_forget (fun q hq => hS.2.2 q hq) ?_
    refine W.widen (k := 600000) (n := 7302250) hcs.1 hcs.2 ?_
    exact lw_ret hx hb hr hlocks dL_law_1162
  intro n
  induction n with
  | zero =>
    intro i σ H locs ls z hn hi hz hl hI hF hP hS
    refine lv_iload_n hx hb dL_law_18 rfl (lv_at hl 0 rfl) ?_
    refine lv_aload_n hx hb dL_law_19 rfl (lv_at hl 1 rfl) ?_
    refine va_slen hx hb hX hbl hbA hS dL_law_20 ?_
    refine lv_bipush (v := 6) hx hb dL_law_21 (by decide) ?_
    refine lv_isub hx hb dL_law_23 ?_
    refine lv_icmp_gt (tgt := 1161) hx hb dL_law_24 (by decide) (fun _ => fin H locs ls hS) (fun q => absurd (by rw [hz]; exact (lw_gt hL (by omega)).mpr (by omega)) q)
  | succ n ih =>
    intro i σ H locs ls z hn hi hz hl hI hF hP hS
    refine lv_iload_n hx hb dL_law_18 rfl (lv_at hl 0 rfl) ?_
    refine lv_aload_n hx hb dL_law_19 rfl (lv_at hl 1 rfl) ?_
    refine va_slen hx hb hX hbl hbA hS dL_law_20 ?_
    refine lv_bipush (v := 6) hx hb dL_law_21 (by decide) ?_
    refine lv_isub hx hb dL_law_23 ?_
    refine lv_icmp_gt (tgt := 1161) hx hb dL_law_24 (by decide) (fun _ => fin H locs ls hS) (fun q => ?_)
    have hi6 : i + 6 ≤ L := by
      rcases Nat.lt_or_ge L (i + 6) with w | w
      · exact absurd (by rw [hz]; exact (lw_gt hL (by omega)).mpr w) q
      · exact w
    have back : ∀ (σ2 : QS) (H1 : Heap) (locs1 : List Loc), INV σ2 → FCh σ2 → va_P (dC, dI) q_cl (q_ws ad ca σ2) H1 → va_S (lA s) s.heap H1 locs1 → W p l e room_1 s m #[Value.ref b] below meth c0 H1 locs1 cells slots (lw_Z below #[Value.ref b] s) (F0 m 1155 ls []) := by
      intro σ2 H1 locs1 hI2 hF2 hP2 hS2
      obtain ⟨z2, ez2⟩ : ∃ y : Int32, y = z + 6 := ⟨_, rfl⟩
      refine lv_iinc (v := z2) (lv' := [(3, .int z2), (0, .ref b), (1, .ref (ad 0)), (2, .ref (ad 69))]) hx hb dL_law_1155 hl (k := 0) rfl (by rw [ez2]; rfl) (by decide) rfl (fun ls hl => ?_)
      refine lv_goto (tgt := 18) hx hb dL_law_1158 (by decide) ?_
      exact ih (i + 6) σ2 H1 locs1 ls z2 (by omega) (by omega) (by rw [ez2, hz]; exact nI_add i 6) hl hI2 hF2 hP2 hS2
    refine lv_aload_n hx hb dL_law_27 rfl (lv_at hl 1 rfl) ?_
    refine lv_iload_n hx hb dL_law_28 rfl (lv_at hl 0 rfl) ?_
    refine va_sld hx hb hX hbl hbA hS (by rw [hz]; exact vp_in_nI (by omega) (by omega)) dL_law_29 ?_
    refine lv_bipush (v := 31) hx hb dL_law_30 (by decide) ?_
    refine lv_iand hx hb dL_law_32 ?_
    obtain ⟨j, hj, ej⟩ := pk_andE (xs z.toNatClampNeg) (m := 31) 5 (by decide)
    rw [ej]
    rcases (show j = 0 ∨ j = 1 ∨ j = 2 ∨ j = 3 ∨ j = 4 ∨ j = 5 ∨ j = 6 ∨ j = 7 ∨ j = 8 ∨ j = 9 ∨ j = 10 ∨ j = 11 ∨ j = 12 ∨ j = 13 ∨ j = 14 ∨ j = 15 ∨ j = 16 ∨ j = 17 ∨ j = 18 ∨ j = 19 ∨ j = 20 ∨ j = 21 ∨ j = 22 ∨ j = 23 ∨ j = 24 ∨ j = 25 ∨ j = 26 ∨ j = 27 ∨ j = 28 ∨ j = 29 ∨ j = 30 ∨ j = 31 by omega) with rfl | rfl | rfl | rfl | rfl | rfl | rfl | rfl | rfl | rfl | rfl | rfl | rfl | rfl | rfl | rfl | rfl | rfl | rfl | rfl | rfl | rfl | rfl | rfl | rfl | rfl | rfl | rfl | rfl | rfl | rfl | rfl
    · exact lv_tableIn (tgt := 172) hx hb dL_law_33 (by decide) (by decide) (off := 139) (by decide) (by decide) (lw_k0 X hX hbl hL hcs hl hz hi6 hI hF hP hS back)
    · exact lv_tableIn (tgt := 205) hx hb dL_law_33 (by decide) (by decide) (off := 172) (by decide) (by decide) (lw_k1 X hX hbl hL hcs hl hz hi6 hI hF hP hS back)
    · exact lv_tableIn (tgt := 258) hx hb dL_law_33 (by decide) (by decide) (off := 225) (by decide) (by decide) (lw_k2 X hX hbl hL hcs hl hz hi6 hI hF hP hS back)
    · exact lv_tableIn (tgt := 321) hx hb dL_law_33 (by decide) (by decide) (off := 288) (by decide) (by decide) (lw_k3 X hX hbl hL hcs hl hz hi6 hI hF hP hS back)
    · exact lv_tableIn (tgt := 354) hx hb dL_law_33 (by decide) (by decide) (off := 321) (by decide) (by decide) (lw_k4 X hX hbl hL hcs hl hz hi6 hI hF hP hS back)
    · exact lv_tableIn (tgt := 407) hx hb dL_law_33 (by decide) (by decide) (off := 374) (by decide) (by decide) (lw_k5 X hX hbl hL hcs hl hz hi6 hI hF hP hS back)
    · exact lv_tableIn (tgt := 430) hx hb dL_law_33 (by decide) (by decide) (off := 397) (by decide) (by decide) (lw_k6 X hX hbl hL hcs hl hz hi6 hI hF hP hS back)
    · exact lv_tableIn (tgt := 473) hx hb dL_law_33 (by decide) (by decide) (off := 440) (by decide) (by decide) (lw_k7 X hX hbl hL hcs hl hz hi6 hI hF hP hS back)
    · exact lv_tableIn (tgt := 506) hx hb dL_law_33 (by decide) (by decide) (off := 473) (by decide) (by decide) (lw_k8 X hX hbl hL hcs hl hz hi6 hI hF hP hS back)
    · exact lv_tableIn (tgt := 539) hx hb dL_law_33 (by decide) (by decide) (off := 506) (by decide) (by decide) (lw_k9 X hX hbl hL hcs hl hz hi6 hI hF hP hS back)
    · exact lv_tableIn (tgt := 572) hx hb dL_law_33 (by decide) (by decide) (off := 539) (by decide) (by decide) (lw_k10 X hX hbl hL hcs hl hz hi6 hI hF hP hS back)
    · exact lv_tableIn (tgt := 595) hx hb dL_law_33 (by decide) (by decide) (off := 562) (by decide) (by decide) (lw_k11 X hX hbl hL hcs hl hz hi6 hI hF hP hS back)
    · exact lv_tableIn (tgt := 618) hx hb dL_law_33 (by decide) (by decide) (off := 585) (by decide) (by decide) (lw_k12 X hX hbl hL hcs hl hz hi6 hI hF hP hS back)
    · exact lv_tableIn (tgt := 661) hx hb dL_law_33 (by decide) (by decide) (off := 628) (by decide) (by decide) (lw_k13 X hX hbl hL hcs hl hz hi6 hI hF hP hS back)
    · exact lv_tableIn (tgt := 694) hx hb dL_law_33 (by decide) (by decide) (off := 661) (by decide) (by decide) (lw_k14 X hX hbl hL hcs hl hz hi6 hI hF hP hS back)
    · exact lv_tableIn (tgt := 717) hx hb dL_law_33 (by decide) (by decide) (off := 684) (by decide) (by decide) (lw_k15 X hX hbl hL hcs hl hz hi6 hI hF hP hS back)
    · exact lv_tableIn (tgt := 730) hx hb dL_law_33 (by decide) (by decide) (off := 697) (by decide) (by decide) (lw_k16 X hX hbl hL hcs hl hz hi6 hI hF hP hS back)
    · exact lv_tableIn (tgt := 753) hx hb dL_law_33 (by decide) (by decide) (off := 720) (by decide) (by decide) (lw_k17 X hX hbl hL hcs hl hz hi6 hI hF hP hS back)
    · exact lv_tableIn (tgt := 786) hx hb dL_law_33 (by decide) (by decide) (off := 753) (by decide) (by decide) (lw_k18 X hX hbl hL hcs hl hz hi6 hI hF hP hS back)
    · exact lv_tableIn (tgt := 819) hx hb dL_law_33 (by decide) (by decide) (off := 786) (by decide) (by decide) (lw_k19 X hX hbl hL hcs hl hz hi6 hI hF hP hS back)
    · exact lv_tableIn (tgt := 872) hx hb dL_law_33 (by decide) (by decide) (off := 839) (by decide) (by decide) (lw_k20 X hX hbl hL hcs hl hz hi6 hI hF hP hS back)
    · exact lv_tableIn (tgt := 905) hx hb dL_law_33 (by decide) (by decide) (off := 872) (by decide) (by decide) (lw_k21 X hX hbl hL hcs hl hz hi6 hI hF hP hS back)
    · exact lv_tableIn (tgt := 928) hx hb dL_law_33 (by decide) (by decide) (off := 895) (by decide) (by decide) (lw_k22 X hX hbl hL hcs hl hz hi6 hI hF hP hS back)
    · exact lv_tableIn (tgt := 951) hx hb dL_law_33 (by decide) (by decide) (off := 918) (by decide) (by decide) (lw_k23 X hX hbl hL hcs hl hz hi6 hI hF hP hS back)
    · exact lv_tableIn (tgt := 1004) hx hb dL_law_33 (by decide) (by decide) (off := 971) (by decide) (by decide) (lw_k24 X hX hbl hL hcs hl hz hi6 hI hF hP hS back)
    · exact lv_tableIn (tgt := 1027) hx hb dL_law_33 (by decide) (by decide) (off := 994) (by decide) (by decide) (lw_k25 X hX hbl hL hcs hl hz hi6 hI hF hP hS back)
    · exact lv_tableIn (tgt := 1050) hx hb dL_law_33 (by decide) (by decide) (off := 1017) (by decide) (by decide) (lw_k26 X hX hbl hL hcs hl hz hi6 hI hF hP hS back)
    · exact lv_tableIn (tgt := 1073) hx hb dL_law_33 (by decide) (by decide) (off := 1040) (by decide) (by decide) (lw_k27 X hX hbl hL hcs hl hz hi6 hI hF hP hS back)
    · exact lv_tableIn (tgt := 1086) hx hb dL_law_33 (by decide) (by decide) (off := 1053) (by decide) (by decide) (lw_k28 X hX hbl hL hcs hl hz hi6 hI hF hP hS back)
    · exact lv_tableIn (tgt := 1099) hx hb dL_law_33 (by decide) (by decide) (off := 1066) (by decide) (by decide) (lw_k29 X hX hbl hL hcs hl hz hi6 hI hF hP hS back)
    · exact lv_tableIn (tgt := 1132) hx hb dL_law_33 (by decide) (by decide) (off := 1099) (by decide) (by decide) (lw_k30 X hX hbl hL hcs hl hz hi6 hI hF hP hS back)
    · exact lv_tableOut (tgt := 1155) hx hb dL_law_33 (by decide) (by decide) (back σ H locs hI hF hP hS)
