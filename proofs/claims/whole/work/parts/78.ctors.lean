/-! the small constructors -/
theorem va_D_set {A : Nat → Prop} {ws : va_W} {i a : Nat} {x y : va_E} (hD : va_D A ws) (hi : ws[i]? = some (a, x)) : va_D A (ws.set i (a, y)) := by
  have key : ∀ (k : Nat) (q : Nat × va_E), (ws.set i (a, y))[k]? = some q → ∃ q2, ws[k]? = some q2 ∧ q2.1 = q.1 := by
    intro k q h
    by_cases e : i = k
    · subst e
      rw [List.getElem?_set, if_pos rfl, if_pos (List.getElem?_eq_some_iff.mp hi).1] at h
      cases h
      exact ⟨_, hi, rfl⟩
    · rw [List.getElem?_set_ne e] at h
      exact ⟨q, h, rfl⟩
  refine ⟨fun k j p q h1 h2 h3 => ?_, fun k q h => ?_⟩
  · obtain ⟨p2, g1, g2⟩ := key k p h1
    obtain ⟨q2, g3, g4⟩ := key j q h2
    exact hD.1 k j p2 q2 g1 g3 (by rw [g2, g4]; exact h3)
  · obtain ⟨q2, g1, g2⟩ := key k q h
    rw [← g2]
    exact hD.2 k q2 g1
theorem kc_fillAt {p : Program} {l : Launch} {e : Env} {R : Room} {s : State} {m : MethodId} {args : Array Value} {below : List Frame} {meth : Method} {c : Code} {H : Heap} {locs : List Loc} {cells slots : Nat} {Q : State → Prop} {cc : ByteArray} {nL pc : Nat} {ls : Array Slot} {rest : List Value} {own : String} {ca : Nat → ClassId} {dC : Nat → ClassId} {dI : Nat → Nat → Nat} {A : Nat → Prop} {ws : va_W} {a i idx N : Nat} {f : Nat → Int32} {v : Int32} {rm : Room} {x' : va_E} (X : kC p s m args c cc nL own ca dC dI A) (hls : ls.size = nL) (hM : kMet l dC dI ca yJ7_fill_53178 cJ7_fill_53178 4 rm (.inl (ca 0, N, .inl f)) [.int v] (fun h0 _ => [(h0, x')]) 0 0) (hmc : rm.cells = 0 ∧ rm.slots = 0) (hR : rm.frames + 1 ≤ R.frames ∧ 8 + (4 + 11) + rm.locals ≤ R.locals) (hlk : Cond.methodLink own idx yJ7_fill_53178 ∈ gw) (hrest : (rest.map fun v => v.category).sum ≤ 8) (hi : ws[i]? = some (a, .inl (ca 0, N, .inl f))) (hP : va_P (dC, dI) q_cl ws H) (hD : va_D A ws) (hS : va_S A s.heap H locs) (hdg : decode cc pc = .ok (.invokestatic idx, 3)) (hf : cells ≤ R.cells ∧ slots ≤ R.slots) (kk : ∀ (H1 : Heap) (locs1 : List Loc), va_P (dC, dI) q_cl (ws.set i (a, x')) H1 → va_D A (ws.set i (a, x')) → va_S A s.heap H1 locs1 → W p l e R s m args below meth c H1 locs1 cells slots Q (F0 m (pc + 3) ls rest)) : W p l e R s m args below meth c H locs cells slots Q (F0 m pc ls (.int v :: .ref a :: rest)) := by
  have X' := X
  obtain ⟨hx, hbc, hml, hown, hts, hK, hA⟩ := X'
  have cw : CallB R s args own idx yJ7_fill_53178 cJ7_fill_53178 4 none (Cond.code yJ7_fill_53178 cJ7_fill_53178 4 none :: gw) rm 0 0 2 ∧ (Cond.static yJ7_fill_53178).before args s = true :=
    ⟨⟨hmc.1, hmc.2, hR.1, hR.2, kc_gw hts kw_fc, List.mem_cons_self, hts _ kw_fc, hts _ kw_fi, ⟨by decide +kernel, by decide +kernel⟩, fun sig h => by
      have hd : (parseMethodDescriptor yJ7_fill_53178.desc).map (fun d => d.parameters.length) = some 2 := by decide +kernel
      rw [h] at hd
      exact (Option.some.inj hd).symm, hts _ hlk⟩, hts _ kw_fs⟩
  have hP0 : va_P (dC, dI) q_cl ([] ++ [(a, .inl (ca 0, N, .inl f))]) H := by
    intro k q hk
    rcases k with _ | k
    · cases hk; exact hP _ _ hi
    · cases hk
  have hF : ∀ q, va_A [(a, .inl (ca 0, N, .inl f))] H.size q → A q := by
    rintro q (⟨j, e, hj⟩ | hj)
    · rcases j with _ | j
      · have e1 : a = q := by cases hj; rfl
        rw [← e1]
        exact hD.2 _ _ hi
      · cases hj
    · exact hA q (Nat.le_trans hS.1 hj)
  refine va_callv (va_runS (As := [.ref a, .int v]) (rest := rest) (g := F0 m pc ls (.int v :: .ref a :: rest)) ⟨hx, hbc, hml, hown, hts⟩ (hM a H.size) cw (kc_pre (As := [.int v]) X hP0) rfl rfl hls rfl (lv_room hrest) hdg hf) hS (fun q _ h => hF q h) hF (fun u t H1 locs1 ht hvm hw hB hz1 hk1 hS1 => ?_)
  obtain ⟨hP1, hK1, hD1⟩ := hB
  rw [ht] at hP1
  refine kk H1 locs1 (fun k q hk => ?_) (va_D_set hD hi) hS1
  by_cases e : i = k
  · subst e
    rw [List.getElem?_set, if_pos rfl, if_pos (List.getElem?_eq_some_iff.mp hi).1] at hk
    cases hk
    exact hP1 0 _ rfl
  · rw [List.getElem?_set_ne e] at hk
    refine (hP k q hk).kept (hk1 q.1 (hP k q hk).lt ?_)
    rintro (⟨j, z, hj⟩ | hj)
    · rcases j with _ | j
      · have e1 : a = q.1 := by cases hj; rfl
        exact e (hD.1 i k _ q hi hk e1)
      · cases hj
    · have := (hP k q hk).lt
      omega

theorem dX0_init_0 : decode cX0_init 0 = .ok (.aload_n 0, 1) := by decide +kernel
theorem dX0_init_1 : decode cX0_init 1 = .ok (.invokespecial 3, 3) := by decide +kernel
theorem dX0_init_4 : decode cX0_init 4 = .ok (.aload_n 0, 1) := by decide +kernel
theorem dX0_init_5 : decode cX0_init 5 = .ok (.bipush 24, 2) := by decide +kernel
theorem dX0_init_7 : decode cX0_init 7 = .ok (.newarray .int, 2) := by decide +kernel
theorem dX0_init_9 : decode cX0_init 9 = .ok (.putfield 9, 3) := by decide +kernel
theorem dX0_init_12 : decode cX0_init 12 = .ok (.aload_n 0, 1) := by decide +kernel
theorem dX0_init_13 : decode cX0_init 13 = .ok (.sipush 600, 3) := by decide +kernel
theorem dX0_init_16 : decode cX0_init 16 = .ok (.newarray .int, 2) := by decide +kernel
theorem dX0_init_18 : decode cX0_init 18 = .ok (.putfield 15, 3) := by decide +kernel
theorem dX0_init_21 : decode cX0_init 21 = .ok (.aload_n 0, 1) := by decide +kernel
theorem dX0_init_22 : decode cX0_init 22 = .ok (.bipush 24, 2) := by decide +kernel
theorem dX0_init_24 : decode cX0_init 24 = .ok (.newarray .int, 2) := by decide +kernel
theorem dX0_init_26 : decode cX0_init 26 = .ok (.putfield 18, 3) := by decide +kernel
theorem dX0_init_29 : decode cX0_init 29 = .ok (.aload_n 0, 1) := by decide +kernel
theorem dX0_init_30 : decode cX0_init 30 = .ok (.bipush 24, 2) := by decide +kernel
theorem dX0_init_32 : decode cX0_init 32 = .ok (.newarray .int, 2) := by decide +kernel
theorem dX0_init_34 : decode cX0_init 34 = .ok (.putfield 21, 3) := by decide +kernel
theorem dX0_init_37 : decode cX0_init 37 = .ok (.aload_n 0, 1) := by decide +kernel
theorem dX0_init_38 : decode cX0_init 38 = .ok (.bipush 24, 2) := by decide +kernel
theorem dX0_init_40 : decode cX0_init 40 = .ok (.newarray .int, 2) := by decide +kernel
theorem dX0_init_42 : decode cX0_init 42 = .ok (.putfield 24, 3) := by decide +kernel
theorem dX0_init_45 : decode cX0_init 45 = .ok (.aload_n 0, 1) := by decide +kernel
theorem dX0_init_46 : decode cX0_init 46 = .ok (.bipush 24, 2) := by decide +kernel
theorem dX0_init_48 : decode cX0_init 48 = .ok (.newarray .int, 2) := by decide +kernel
theorem dX0_init_50 : decode cX0_init 50 = .ok (.putfield 27, 3) := by decide +kernel
theorem dX0_init_53 : decode cX0_init 53 = .ok (.aload_n 0, 1) := by decide +kernel
theorem dX0_init_54 : decode cX0_init 54 = .ok (.aload_n 1, 1) := by decide +kernel
theorem dX0_init_55 : decode cX0_init 55 = .ok (.putfield 30, 3) := by decide +kernel
theorem dX0_init_58 : decode cX0_init 58 = .ok (.aload_n 0, 1) := by decide +kernel
theorem dX0_init_59 : decode cX0_init 59 = .ok (.aload_n 2, 1) := by decide +kernel
theorem dX0_init_60 : decode cX0_init 60 = .ok (.putfield 34, 3) := by decide +kernel
theorem dX0_init_63 : decode cX0_init 63 = .ok (.aload_n 0, 1) := by decide +kernel
theorem dX0_init_64 : decode cX0_init 64 = .ok (.aload_n 3, 1) := by decide +kernel
theorem dX0_init_65 : decode cX0_init 65 = .ok (.putfield 38, 3) := by decide +kernel
theorem dX0_init_68 : decode cX0_init 68 = .ok (.return_, 1) := by decide +kernel
theorem kw_f0_9 : Cond.fieldLink RX0 9 "BellHours$Day" "owners" "[I" ∈ gw := gw_of (q_tb_in (j := 1) (List.mem_of_getElem? (i := 170) (by decide +kernel))) rfl
theorem kw_f0_15 : Cond.fieldLink RX0 15 "BellHours$Day" "found" "[I" ∈ gw := gw_of (q_tb_in (j := 1) (List.mem_of_getElem? (i := 175) (by decide +kernel))) rfl
theorem kw_f0_18 : Cond.fieldLink RX0 18 "BellHours$Day" "worths" "[I" ∈ gw := gw_of (q_tb_in (j := 1) (List.mem_of_getElem? (i := 178) (by decide +kernel))) rfl
theorem kw_f0_21 : Cond.fieldLink RX0 21 "BellHours$Day" "fines" "[I" ∈ gw := gw_of (q_tb_in (j := 1) (List.mem_of_getElem? (i := 180) (by decide +kernel))) rfl
theorem kw_f0_24 : Cond.fieldLink RX0 24 "BellHours$Day" "undone" "[I" ∈ gw := gw_of (q_tb_in (j := 1) (List.mem_of_getElem? (i := 182) (by decide +kernel))) rfl
theorem kw_f0_27 : Cond.fieldLink RX0 27 "BellHours$Day" "firstUndone" "[I" ∈ gw := gw_of (q_tb_in (j := 1) (List.mem_of_getElem? (i := 184) (by decide +kernel))) rfl
theorem kw_f0_30 : Cond.fieldLink RX0 30 "BellHours$Day" "house" "LBellHours$House;" ∈ gw := gw_of (q_tb_in (j := 1) (List.mem_of_getElem? (i := 167) (by decide +kernel))) rfl
theorem kw_f0_34 : Cond.fieldLink RX0 34 "BellHours$Day" "law" "LBellHours$Law;" ∈ gw := gw_of (q_tb_in (j := 1) (List.mem_of_getElem? (i := 168) (by decide +kernel))) rfl
theorem kw_f0_38 : Cond.fieldLink RX0 38 "BellHours$Day" "scene" "LBellHours$Scene;" ∈ gw := gw_of (q_tb_in (j := 1) (List.mem_of_getElem? (i := 169) (by decide +kernel))) rfl
def wX0 (ca : Nat → ClassId) (r0 : Nat) (r1 : Nat) (r2 : Nat) (h0 : Nat) (q : Nat → Nat) : va_W := [(h0, .inr (0, [.ref r0, .ref r1, .ref r2, .ref (q 0), .ref (q 1), .ref (q 2), .ref (q 3), .ref (q 4), .ref (q 5)])), (q 0, .inl (ca 0, 24, .inl (fun _ => 0))), (q 1, .inl (ca 0, 600, .inl (fun _ => 0))), (q 2, .inl (ca 0, 24, .inl (fun _ => 0))), (q 3, .inl (ca 0, 24, .inl (fun _ => 0))), (q 4, .inl (ca 0, 24, .inl (fun _ => 0))), (q 5, .inl (ca 0, 24, .inl (fun _ => 0)))]
def rX0 : Room := { frames := 2, cells := 6, slots := 720, locals := 60 }
set_option maxHeartbeats 4000000 in
set_option maxRecDepth 100000 in
theorem kX0 (l : Launch) (dC : Nat → ClassId) (dI : Nat → Nat → Nat) (ca : Nat → ClassId) (r0 : Nat) (r1 : Nat) (r2 : Nat) : kMet l dC dI ca yX0_init cX0_init 4 rX0 (.inr (0, [.null, .null, .null, .null, .null, .null, .null, .null, .null])) [.ref r0, .ref r1, .ref r2] (wX0 ca r0 r1 r2) 6 720 := by
  refine kc_start (by decide) (Nat.le_of_ble_eq_true rfl) ?_
  intro h0 p e s m args below meth c A ls X hnm hr hlocks hl hP hD hS
  have hx := X.1
  have hb := X.2.1
  have hl : lv_has ls 4 [(0, .ref h0), (1, .ref r0), (2, .ref r1), (3, .ref r2)] := hl
  refine lv_aload_n hx hb dX0_init_0 rfl (lv_at hl 0 rfl) ?_
  refine kc_obj X hl.1 kw_ob0 (Nat.le_of_ble_eq_true rfl) (Nat.le_of_ble_eq_true rfl) (Nat.le_of_ble_eq_true rfl) dX0_init_1 ?_
  refine lv_aload_n hx hb dX0_init_4 rfl (lv_at hl 0 rfl) ?_
  refine lv_bipush (v := 24) hx hb dX0_init_5 (by decide) ?_
  refine kc_newi X hP hD hS (N := 24) (by decide) (by decide) (Nat.le_of_ble_eq_true rfl) (Nat.le_of_ble_eq_true rfl) (Nat.le_of_ble_eq_true rfl) dX0_init_7 (fun a1 H hP hD hS => ?_)
  have hP : va_P (dC, dI) q_cl [(h0, .inr (0, [.null, .null, .null, .null, .null, .null, .null, .null, .null])), (a1, .inl (ca 0, 24, .inl (fun _ => 0)))] H := hP
  have hD : va_D A [(h0, .inr (0, [.null, .null, .null, .null, .null, .null, .null, .null, .null])), (a1, .inl (ca 0, 24, .inl (fun _ => 0)))] := hD
  refine kc_put (b := 0) (k := 3) (q0 := 0) (v := .ref a1) (ty := .array .int) X hnm hP hD hS rfl (by decide) (by decide) kw_f0_9 rfl (by decide +kernel) rfl rfl (Nat.le_of_ble_eq_true rfl) dX0_init_9 (fun H locs hP hD hS => ?_)
  have hP : va_P (dC, dI) q_cl [(h0, .inr (0, [.null, .null, .null, .ref a1, .null, .null, .null, .null, .null])), (a1, .inl (ca 0, 24, .inl (fun _ => 0)))] H := hP
  have hD : va_D A [(h0, .inr (0, [.null, .null, .null, .ref a1, .null, .null, .null, .null, .null])), (a1, .inl (ca 0, 24, .inl (fun _ => 0)))] := hD
  refine lv_aload_n hx hb dX0_init_12 rfl (lv_at hl 0 rfl) ?_
  refine lv_sipush (v := 600) hx hb dX0_init_13 (by decide) ?_
  refine kc_newi X hP hD hS (N := 600) (by decide) (by decide) (Nat.le_of_ble_eq_true rfl) (Nat.le_of_ble_eq_true rfl) (Nat.le_of_ble_eq_true rfl) dX0_init_16 (fun a2 H hP hD hS => ?_)
  have hP : va_P (dC, dI) q_cl [(h0, .inr (0, [.null, .null, .null, .ref a1, .null, .null, .null, .null, .null])), (a1, .inl (ca 0, 24, .inl (fun _ => 0))), (a2, .inl (ca 0, 600, .inl (fun _ => 0)))] H := hP
  have hD : va_D A [(h0, .inr (0, [.null, .null, .null, .ref a1, .null, .null, .null, .null, .null])), (a1, .inl (ca 0, 24, .inl (fun _ => 0))), (a2, .inl (ca 0, 600, .inl (fun _ => 0)))] := hD
  refine kc_put (b := 0) (k := 4) (q0 := 0) (v := .ref a2) (ty := .array .int) X hnm hP hD hS rfl (by decide) (by decide) kw_f0_15 rfl (by decide +kernel) rfl rfl (Nat.le_of_ble_eq_true rfl) dX0_init_18 (fun H locs hP hD hS => ?_)
  have hP : va_P (dC, dI) q_cl [(h0, .inr (0, [.null, .null, .null, .ref a1, .ref a2, .null, .null, .null, .null])), (a1, .inl (ca 0, 24, .inl (fun _ => 0))), (a2, .inl (ca 0, 600, .inl (fun _ => 0)))] H := hP
  have hD : va_D A [(h0, .inr (0, [.null, .null, .null, .ref a1, .ref a2, .null, .null, .null, .null])), (a1, .inl (ca 0, 24, .inl (fun _ => 0))), (a2, .inl (ca 0, 600, .inl (fun _ => 0)))] := hD
  refine lv_aload_n hx hb dX0_init_21 rfl (lv_at hl 0 rfl) ?_
  refine lv_bipush (v := 24) hx hb dX0_init_22 (by decide) ?_
  refine kc_newi X hP hD hS (N := 24) (by decide) (by decide) (Nat.le_of_ble_eq_true rfl) (Nat.le_of_ble_eq_true rfl) (Nat.le_of_ble_eq_true rfl) dX0_init_24 (fun a3 H hP hD hS => ?_)
  have hP : va_P (dC, dI) q_cl [(h0, .inr (0, [.null, .null, .null, .ref a1, .ref a2, .null, .null, .null, .null])), (a1, .inl (ca 0, 24, .inl (fun _ => 0))), (a2, .inl (ca 0, 600, .inl (fun _ => 0))), (a3, .inl (ca 0, 24, .inl (fun _ => 0)))] H := hP
  have hD : va_D A [(h0, .inr (0, [.null, .null, .null, .ref a1, .ref a2, .null, .null, .null, .null])), (a1, .inl (ca 0, 24, .inl (fun _ => 0))), (a2, .inl (ca 0, 600, .inl (fun _ => 0))), (a3, .inl (ca 0, 24, .inl (fun _ => 0)))] := hD
  refine kc_put (b := 0) (k := 5) (q0 := 0) (v := .ref a3) (ty := .array .int) X hnm hP hD hS rfl (by decide) (by decide) kw_f0_18 rfl (by decide +kernel) rfl rfl (Nat.le_of_ble_eq_true rfl) dX0_init_26 (fun H locs hP hD hS => ?_)
  have hP : va_P (dC, dI) q_cl [(h0, .inr (0, [.null, .null, .null, .ref a1, .ref a2, .ref a3, .null, .null, .null])), (a1, .inl (ca 0, 24, .inl (fun _ => 0))), (a2, .inl (ca 0, 600, .inl (fun _ => 0))), (a3, .inl (ca 0, 24, .inl (fun _ => 0)))] H := hP
  have hD : va_D A [(h0, .inr (0, [.null, .null, .null, .ref a1, .ref a2, .ref a3, .null, .null, .null])), (a1, .inl (ca 0, 24, .inl (fun _ => 0))), (a2, .inl (ca 0, 600, .inl (fun _ => 0))), (a3, .inl (ca 0, 24, .inl (fun _ => 0)))] := hD
  refine lv_aload_n hx hb dX0_init_29 rfl (lv_at hl 0 rfl) ?_
  refine lv_bipush (v := 24) hx hb dX0_init_30 (by decide) ?_
  refine kc_newi X hP hD hS (N := 24) (by decide) (by decide) (Nat.le_of_ble_eq_true rfl) (Nat.le_of_ble_eq_true rfl) (Nat.le_of_ble_eq_true rfl) dX0_init_32 (fun a4 H hP hD hS => ?_)
  have hP : va_P (dC, dI) q_cl [(h0, .inr (0, [.null, .null, .null, .ref a1, .ref a2, .ref a3, .null, .null, .null])), (a1, .inl (ca 0, 24, .inl (fun _ => 0))), (a2, .inl (ca 0, 600, .inl (fun _ => 0))), (a3, .inl (ca 0, 24, .inl (fun _ => 0))), (a4, .inl (ca 0, 24, .inl (fun _ => 0)))] H := hP
  have hD : va_D A [(h0, .inr (0, [.null, .null, .null, .ref a1, .ref a2, .ref a3, .null, .null, .null])), (a1, .inl (ca 0, 24, .inl (fun _ => 0))), (a2, .inl (ca 0, 600, .inl (fun _ => 0))), (a3, .inl (ca 0, 24, .inl (fun _ => 0))), (a4, .inl (ca 0, 24, .inl (fun _ => 0)))] := hD
  refine kc_put (b := 0) (k := 6) (q0 := 0) (v := .ref a4) (ty := .array .int) X hnm hP hD hS rfl (by decide) (by decide) kw_f0_21 rfl (by decide +kernel) rfl rfl (Nat.le_of_ble_eq_true rfl) dX0_init_34 (fun H locs hP hD hS => ?_)
  have hP : va_P (dC, dI) q_cl [(h0, .inr (0, [.null, .null, .null, .ref a1, .ref a2, .ref a3, .ref a4, .null, .null])), (a1, .inl (ca 0, 24, .inl (fun _ => 0))), (a2, .inl (ca 0, 600, .inl (fun _ => 0))), (a3, .inl (ca 0, 24, .inl (fun _ => 0))), (a4, .inl (ca 0, 24, .inl (fun _ => 0)))] H := hP
  have hD : va_D A [(h0, .inr (0, [.null, .null, .null, .ref a1, .ref a2, .ref a3, .ref a4, .null, .null])), (a1, .inl (ca 0, 24, .inl (fun _ => 0))), (a2, .inl (ca 0, 600, .inl (fun _ => 0))), (a3, .inl (ca 0, 24, .inl (fun _ => 0))), (a4, .inl (ca 0, 24, .inl (fun _ => 0)))] := hD
  refine lv_aload_n hx hb dX0_init_37 rfl (lv_at hl 0 rfl) ?_
  refine lv_bipush (v := 24) hx hb dX0_init_38 (by decide) ?_
  refine kc_newi X hP hD hS (N := 24) (by decide) (by decide) (Nat.le_of_ble_eq_true rfl) (Nat.le_of_ble_eq_true rfl) (Nat.le_of_ble_eq_true rfl) dX0_init_40 (fun a5 H hP hD hS => ?_)
  have hP : va_P (dC, dI) q_cl [(h0, .inr (0, [.null, .null, .null, .ref a1, .ref a2, .ref a3, .ref a4, .null, .null])), (a1, .inl (ca 0, 24, .inl (fun _ => 0))), (a2, .inl (ca 0, 600, .inl (fun _ => 0))), (a3, .inl (ca 0, 24, .inl (fun _ => 0))), (a4, .inl (ca 0, 24, .inl (fun _ => 0))), (a5, .inl (ca 0, 24, .inl (fun _ => 0)))] H := hP
  have hD : va_D A [(h0, .inr (0, [.null, .null, .null, .ref a1, .ref a2, .ref a3, .ref a4, .null, .null])), (a1, .inl (ca 0, 24, .inl (fun _ => 0))), (a2, .inl (ca 0, 600, .inl (fun _ => 0))), (a3, .inl (ca 0, 24, .inl (fun _ => 0))), (a4, .inl (ca 0, 24, .inl (fun _ => 0))), (a5, .inl (ca 0, 24, .inl (fun _ => 0)))] := hD
  refine kc_put (b := 0) (k := 7) (q0 := 0) (v := .ref a5) (ty := .array .int) X hnm hP hD hS rfl (by decide) (by decide) kw_f0_24 rfl (by decide +kernel) rfl rfl (Nat.le_of_ble_eq_true rfl) dX0_init_42 (fun H locs hP hD hS => ?_)
  have hP : va_P (dC, dI) q_cl [(h0, .inr (0, [.null, .null, .null, .ref a1, .ref a2, .ref a3, .ref a4, .ref a5, .null])), (a1, .inl (ca 0, 24, .inl (fun _ => 0))), (a2, .inl (ca 0, 600, .inl (fun _ => 0))), (a3, .inl (ca 0, 24, .inl (fun _ => 0))), (a4, .inl (ca 0, 24, .inl (fun _ => 0))), (a5, .inl (ca 0, 24, .inl (fun _ => 0)))] H := hP
  have hD : va_D A [(h0, .inr (0, [.null, .null, .null, .ref a1, .ref a2, .ref a3, .ref a4, .ref a5, .null])), (a1, .inl (ca 0, 24, .inl (fun _ => 0))), (a2, .inl (ca 0, 600, .inl (fun _ => 0))), (a3, .inl (ca 0, 24, .inl (fun _ => 0))), (a4, .inl (ca 0, 24, .inl (fun _ => 0))), (a5, .inl (ca 0, 24, .inl (fun _ => 0)))] := hD
  refine lv_aload_n hx hb dX0_init_45 rfl (lv_at hl 0 rfl) ?_
  refine lv_bipush (v := 24) hx hb dX0_init_46 (by decide) ?_
  refine kc_newi X hP hD hS (N := 24) (by decide) (by decide) (Nat.le_of_ble_eq_true rfl) (Nat.le_of_ble_eq_true rfl) (Nat.le_of_ble_eq_true rfl) dX0_init_48 (fun a6 H hP hD hS => ?_)
  have hP : va_P (dC, dI) q_cl [(h0, .inr (0, [.null, .null, .null, .ref a1, .ref a2, .ref a3, .ref a4, .ref a5, .null])), (a1, .inl (ca 0, 24, .inl (fun _ => 0))), (a2, .inl (ca 0, 600, .inl (fun _ => 0))), (a3, .inl (ca 0, 24, .inl (fun _ => 0))), (a4, .inl (ca 0, 24, .inl (fun _ => 0))), (a5, .inl (ca 0, 24, .inl (fun _ => 0))), (a6, .inl (ca 0, 24, .inl (fun _ => 0)))] H := hP
  have hD : va_D A [(h0, .inr (0, [.null, .null, .null, .ref a1, .ref a2, .ref a3, .ref a4, .ref a5, .null])), (a1, .inl (ca 0, 24, .inl (fun _ => 0))), (a2, .inl (ca 0, 600, .inl (fun _ => 0))), (a3, .inl (ca 0, 24, .inl (fun _ => 0))), (a4, .inl (ca 0, 24, .inl (fun _ => 0))), (a5, .inl (ca 0, 24, .inl (fun _ => 0))), (a6, .inl (ca 0, 24, .inl (fun _ => 0)))] := hD
  refine kc_put (b := 0) (k := 8) (q0 := 0) (v := .ref a6) (ty := .array .int) X hnm hP hD hS rfl (by decide) (by decide) kw_f0_27 rfl (by decide +kernel) rfl rfl (Nat.le_of_ble_eq_true rfl) dX0_init_50 (fun H locs hP hD hS => ?_)
  have hP : va_P (dC, dI) q_cl [(h0, .inr (0, [.null, .null, .null, .ref a1, .ref a2, .ref a3, .ref a4, .ref a5, .ref a6])), (a1, .inl (ca 0, 24, .inl (fun _ => 0))), (a2, .inl (ca 0, 600, .inl (fun _ => 0))), (a3, .inl (ca 0, 24, .inl (fun _ => 0))), (a4, .inl (ca 0, 24, .inl (fun _ => 0))), (a5, .inl (ca 0, 24, .inl (fun _ => 0))), (a6, .inl (ca 0, 24, .inl (fun _ => 0)))] H := hP
  have hD : va_D A [(h0, .inr (0, [.null, .null, .null, .ref a1, .ref a2, .ref a3, .ref a4, .ref a5, .ref a6])), (a1, .inl (ca 0, 24, .inl (fun _ => 0))), (a2, .inl (ca 0, 600, .inl (fun _ => 0))), (a3, .inl (ca 0, 24, .inl (fun _ => 0))), (a4, .inl (ca 0, 24, .inl (fun _ => 0))), (a5, .inl (ca 0, 24, .inl (fun _ => 0))), (a6, .inl (ca 0, 24, .inl (fun _ => 0)))] := hD
  refine lv_aload_n hx hb dX0_init_53 rfl (lv_at hl 0 rfl) ?_
  refine lv_aload_n hx hb dX0_init_54 rfl (lv_at hl 1 rfl) ?_
  refine kc_put (b := 0) (k := 0) (q0 := 0) (v := .ref r0) (ty := .object "BellHours$House") X hnm hP hD hS rfl (by decide) (by decide) kw_f0_30 rfl (by decide +kernel) rfl rfl (Nat.le_of_ble_eq_true rfl) dX0_init_55 (fun H locs hP hD hS => ?_)
  have hP : va_P (dC, dI) q_cl [(h0, .inr (0, [.ref r0, .null, .null, .ref a1, .ref a2, .ref a3, .ref a4, .ref a5, .ref a6])), (a1, .inl (ca 0, 24, .inl (fun _ => 0))), (a2, .inl (ca 0, 600, .inl (fun _ => 0))), (a3, .inl (ca 0, 24, .inl (fun _ => 0))), (a4, .inl (ca 0, 24, .inl (fun _ => 0))), (a5, .inl (ca 0, 24, .inl (fun _ => 0))), (a6, .inl (ca 0, 24, .inl (fun _ => 0)))] H := hP
  have hD : va_D A [(h0, .inr (0, [.ref r0, .null, .null, .ref a1, .ref a2, .ref a3, .ref a4, .ref a5, .ref a6])), (a1, .inl (ca 0, 24, .inl (fun _ => 0))), (a2, .inl (ca 0, 600, .inl (fun _ => 0))), (a3, .inl (ca 0, 24, .inl (fun _ => 0))), (a4, .inl (ca 0, 24, .inl (fun _ => 0))), (a5, .inl (ca 0, 24, .inl (fun _ => 0))), (a6, .inl (ca 0, 24, .inl (fun _ => 0)))] := hD
  refine lv_aload_n hx hb dX0_init_58 rfl (lv_at hl 0 rfl) ?_
  refine lv_aload_n hx hb dX0_init_59 rfl (lv_at hl 2 rfl) ?_
  refine kc_put (b := 0) (k := 1) (q0 := 0) (v := .ref r1) (ty := .object "BellHours$Law") X hnm hP hD hS rfl (by decide) (by decide) kw_f0_34 rfl (by decide +kernel) rfl rfl (Nat.le_of_ble_eq_true rfl) dX0_init_60 (fun H locs hP hD hS => ?_)
  have hP : va_P (dC, dI) q_cl [(h0, .inr (0, [.ref r0, .ref r1, .null, .ref a1, .ref a2, .ref a3, .ref a4, .ref a5, .ref a6])), (a1, .inl (ca 0, 24, .inl (fun _ => 0))), (a2, .inl (ca 0, 600, .inl (fun _ => 0))), (a3, .inl (ca 0, 24, .inl (fun _ => 0))), (a4, .inl (ca 0, 24, .inl (fun _ => 0))), (a5, .inl (ca 0, 24, .inl (fun _ => 0))), (a6, .inl (ca 0, 24, .inl (fun _ => 0)))] H := hP
  have hD : va_D A [(h0, .inr (0, [.ref r0, .ref r1, .null, .ref a1, .ref a2, .ref a3, .ref a4, .ref a5, .ref a6])), (a1, .inl (ca 0, 24, .inl (fun _ => 0))), (a2, .inl (ca 0, 600, .inl (fun _ => 0))), (a3, .inl (ca 0, 24, .inl (fun _ => 0))), (a4, .inl (ca 0, 24, .inl (fun _ => 0))), (a5, .inl (ca 0, 24, .inl (fun _ => 0))), (a6, .inl (ca 0, 24, .inl (fun _ => 0)))] := hD
  refine lv_aload_n hx hb dX0_init_63 rfl (lv_at hl 0 rfl) ?_
  refine lv_aload_n hx hb dX0_init_64 rfl (lv_at hl 3 rfl) ?_
  refine kc_put (b := 0) (k := 2) (q0 := 0) (v := .ref r2) (ty := .object "BellHours$Scene") X hnm hP hD hS rfl (by decide) (by decide) kw_f0_38 rfl (by decide +kernel) rfl rfl (Nat.le_of_ble_eq_true rfl) dX0_init_65 (fun H locs hP hD hS => ?_)
  have hP : va_P (dC, dI) q_cl [(h0, .inr (0, [.ref r0, .ref r1, .ref r2, .ref a1, .ref a2, .ref a3, .ref a4, .ref a5, .ref a6])), (a1, .inl (ca 0, 24, .inl (fun _ => 0))), (a2, .inl (ca 0, 600, .inl (fun _ => 0))), (a3, .inl (ca 0, 24, .inl (fun _ => 0))), (a4, .inl (ca 0, 24, .inl (fun _ => 0))), (a5, .inl (ca 0, 24, .inl (fun _ => 0))), (a6, .inl (ca 0, 24, .inl (fun _ => 0)))] H := hP
  have hD : va_D A [(h0, .inr (0, [.ref r0, .ref r1, .ref r2, .ref a1, .ref a2, .ref a3, .ref a4, .ref a5, .ref a6])), (a1, .inl (ca 0, 24, .inl (fun _ => 0))), (a2, .inl (ca 0, 600, .inl (fun _ => 0))), (a3, .inl (ca 0, 24, .inl (fun _ => 0))), (a4, .inl (ca 0, 24, .inl (fun _ => 0))), (a5, .inl (ca 0, 24, .inl (fun _ => 0))), (a6, .inl (ca 0, 24, .inl (fun _ => 0)))] := hD
  have hP9 := hP.sub (ws' := wX0 ca r0 r1 r2 h0 (fun i => ([a1, a2, a3, a4, a5, a6] : List Nat).getD i 0)) [0, 1, 2, 3, 4, 5, 6] rfl
  have hD9 := hD.sub (ws' := wX0 ca r0 r1 r2 h0 (fun i => ([a1, a2, a3, a4, a5, a6] : List Nat).getD i 0)) [0, 1, 2, 3, 4, 5, 6] (by decide) rfl
  exact kc_ret X hr hlocks (fun i => ([a1, a2, a3, a4, a5, a6] : List Nat).getD i 0) hP9 hD9 hS dX0_init_68
theorem dX1_init_0 : decode cX1_init 0 = .ok (.aload_n 0, 1) := by decide +kernel
theorem dX1_init_1 : decode cX1_init 1 = .ok (.invokespecial 3, 3) := by decide +kernel
theorem dX1_init_4 : decode cX1_init 4 = .ok (.aload_n 0, 1) := by decide +kernel
theorem dX1_init_5 : decode cX1_init 5 = .ok (.sipush 192, 3) := by decide +kernel
theorem dX1_init_8 : decode cX1_init 8 = .ok (.newarray .int, 2) := by decide +kernel
theorem dX1_init_10 : decode cX1_init 10 = .ok (.putfield 9, 3) := by decide +kernel
theorem dX1_init_13 : decode cX1_init 13 = .ok (.aload_n 0, 1) := by decide +kernel
theorem dX1_init_14 : decode cX1_init 14 = .ok (.bipush 24, 2) := by decide +kernel
theorem dX1_init_16 : decode cX1_init 16 = .ok (.newarray .int, 2) := by decide +kernel
theorem dX1_init_18 : decode cX1_init 18 = .ok (.putfield 15, 3) := by decide +kernel
theorem dX1_init_21 : decode cX1_init 21 = .ok (.aload_n 0, 1) := by decide +kernel
theorem dX1_init_22 : decode cX1_init 22 = .ok (.iconst 0, 1) := by decide +kernel
theorem dX1_init_23 : decode cX1_init 23 = .ok (.putfield 18, 3) := by decide +kernel
theorem dX1_init_26 : decode cX1_init 26 = .ok (.aload_n 0, 1) := by decide +kernel
theorem dX1_init_27 : decode cX1_init 27 = .ok (.aload_n 1, 1) := by decide +kernel
theorem dX1_init_28 : decode cX1_init 28 = .ok (.putfield 22, 3) := by decide +kernel
theorem dX1_init_31 : decode cX1_init 31 = .ok (.aload_n 0, 1) := by decide +kernel
theorem dX1_init_32 : decode cX1_init 32 = .ok (.aload_n 2, 1) := by decide +kernel
theorem dX1_init_33 : decode cX1_init 33 = .ok (.putfield 25, 3) := by decide +kernel
theorem dX1_init_36 : decode cX1_init 36 = .ok (.return_, 1) := by decide +kernel
theorem kw_f1_9 : Cond.fieldLink RX1 9 "BellHours$Hiding" "costs" "[I" ∈ gw := gw_of (q_tb_in (j := 2) (List.mem_of_getElem? (i := 32) (by decide +kernel))) rfl
theorem kw_f1_15 : Cond.fieldLink RX1 15 "BellHours$Hiding" "rooms" "[I" ∈ gw := gw_of (q_tb_in (j := 2) (List.mem_of_getElem? (i := 33) (by decide +kernel))) rfl
theorem kw_f1_18 : Cond.fieldLink RX1 18 "BellHours$Hiding" "moves" "I" ∈ gw := gw_of (q_tb_in (j := 2) (List.mem_of_getElem? (i := 35) (by decide +kernel))) rfl
theorem kw_f1_22 : Cond.fieldLink RX1 22 "BellHours$Hiding" "owners" "[I" ∈ gw := gw_of (q_tb_in (j := 2) (List.mem_of_getElem? (i := 30) (by decide +kernel))) rfl
theorem kw_f1_25 : Cond.fieldLink RX1 25 "BellHours$Hiding" "looks" "[I" ∈ gw := gw_of (q_tb_in (j := 2) (List.mem_of_getElem? (i := 31) (by decide +kernel))) rfl
def wX1 (ca : Nat → ClassId) (r0 : Nat) (r1 : Nat) (h0 : Nat) (q : Nat → Nat) : va_W := [(h0, .inr (1, [.ref r0, .ref r1, .ref (q 0), .ref (q 1), .int 0])), (q 0, .inl (ca 0, 192, .inl (fun _ => 0))), (q 1, .inl (ca 0, 24, .inl (fun _ => 0)))]
def rX1 : Room := { frames := 2, cells := 2, slots := 216, locals := 60 }
set_option maxHeartbeats 4000000 in
set_option maxRecDepth 100000 in
theorem kX1 (l : Launch) (dC : Nat → ClassId) (dI : Nat → Nat → Nat) (ca : Nat → ClassId) (r0 : Nat) (r1 : Nat) : kMet l dC dI ca yX1_init cX1_init 3 rX1 (.inr (1, [.null, .null, .null, .null, .int 0])) [.ref r0, .ref r1] (wX1 ca r0 r1) 2 216 := by
  refine kc_start (by decide) (Nat.le_of_ble_eq_true rfl) ?_
  intro h0 p e s m args below meth c A ls X hnm hr hlocks hl hP hD hS
  have hx := X.1
  have hb := X.2.1
  have hl : lv_has ls 3 [(0, .ref h0), (1, .ref r0), (2, .ref r1)] := hl
  refine lv_aload_n hx hb dX1_init_0 rfl (lv_at hl 0 rfl) ?_
  refine kc_obj X hl.1 kw_ob1 (Nat.le_of_ble_eq_true rfl) (Nat.le_of_ble_eq_true rfl) (Nat.le_of_ble_eq_true rfl) dX1_init_1 ?_
  refine lv_aload_n hx hb dX1_init_4 rfl (lv_at hl 0 rfl) ?_
  refine lv_sipush (v := 192) hx hb dX1_init_5 (by decide) ?_
  refine kc_newi X hP hD hS (N := 192) (by decide) (by decide) (Nat.le_of_ble_eq_true rfl) (Nat.le_of_ble_eq_true rfl) (Nat.le_of_ble_eq_true rfl) dX1_init_8 (fun a1 H hP hD hS => ?_)
  have hP : va_P (dC, dI) q_cl [(h0, .inr (1, [.null, .null, .null, .null, .int 0])), (a1, .inl (ca 0, 192, .inl (fun _ => 0)))] H := hP
  have hD : va_D A [(h0, .inr (1, [.null, .null, .null, .null, .int 0])), (a1, .inl (ca 0, 192, .inl (fun _ => 0)))] := hD
  refine kc_put (b := 1) (k := 2) (q0 := 0) (v := .ref a1) (ty := .array .int) X hnm hP hD hS rfl (by decide) (by decide) kw_f1_9 rfl (by decide +kernel) rfl rfl (Nat.le_of_ble_eq_true rfl) dX1_init_10 (fun H locs hP hD hS => ?_)
  have hP : va_P (dC, dI) q_cl [(h0, .inr (1, [.null, .null, .ref a1, .null, .int 0])), (a1, .inl (ca 0, 192, .inl (fun _ => 0)))] H := hP
  have hD : va_D A [(h0, .inr (1, [.null, .null, .ref a1, .null, .int 0])), (a1, .inl (ca 0, 192, .inl (fun _ => 0)))] := hD
  refine lv_aload_n hx hb dX1_init_13 rfl (lv_at hl 0 rfl) ?_
  refine lv_bipush (v := 24) hx hb dX1_init_14 (by decide) ?_
  refine kc_newi X hP hD hS (N := 24) (by decide) (by decide) (Nat.le_of_ble_eq_true rfl) (Nat.le_of_ble_eq_true rfl) (Nat.le_of_ble_eq_true rfl) dX1_init_16 (fun a2 H hP hD hS => ?_)
  have hP : va_P (dC, dI) q_cl [(h0, .inr (1, [.null, .null, .ref a1, .null, .int 0])), (a1, .inl (ca 0, 192, .inl (fun _ => 0))), (a2, .inl (ca 0, 24, .inl (fun _ => 0)))] H := hP
  have hD : va_D A [(h0, .inr (1, [.null, .null, .ref a1, .null, .int 0])), (a1, .inl (ca 0, 192, .inl (fun _ => 0))), (a2, .inl (ca 0, 24, .inl (fun _ => 0)))] := hD
  refine kc_put (b := 1) (k := 3) (q0 := 0) (v := .ref a2) (ty := .array .int) X hnm hP hD hS rfl (by decide) (by decide) kw_f1_15 rfl (by decide +kernel) rfl rfl (Nat.le_of_ble_eq_true rfl) dX1_init_18 (fun H locs hP hD hS => ?_)
  have hP : va_P (dC, dI) q_cl [(h0, .inr (1, [.null, .null, .ref a1, .ref a2, .int 0])), (a1, .inl (ca 0, 192, .inl (fun _ => 0))), (a2, .inl (ca 0, 24, .inl (fun _ => 0)))] H := hP
  have hD : va_D A [(h0, .inr (1, [.null, .null, .ref a1, .ref a2, .int 0])), (a1, .inl (ca 0, 192, .inl (fun _ => 0))), (a2, .inl (ca 0, 24, .inl (fun _ => 0)))] := hD
  refine lv_aload_n hx hb dX1_init_21 rfl (lv_at hl 0 rfl) ?_
  refine lv_iconst (v := 0) hx hb dX1_init_22 (by decide) ?_
  refine kc_put (b := 1) (k := 4) (q0 := 0) (v := .int 0) (ty := .int) X hnm hP hD hS rfl (by decide) (by decide) kw_f1_18 rfl (by decide +kernel) rfl rfl (Nat.le_of_ble_eq_true rfl) dX1_init_23 (fun H locs hP hD hS => ?_)
  have hP : va_P (dC, dI) q_cl [(h0, .inr (1, [.null, .null, .ref a1, .ref a2, .int 0])), (a1, .inl (ca 0, 192, .inl (fun _ => 0))), (a2, .inl (ca 0, 24, .inl (fun _ => 0)))] H := hP
  have hD : va_D A [(h0, .inr (1, [.null, .null, .ref a1, .ref a2, .int 0])), (a1, .inl (ca 0, 192, .inl (fun _ => 0))), (a2, .inl (ca 0, 24, .inl (fun _ => 0)))] := hD
  refine lv_aload_n hx hb dX1_init_26 rfl (lv_at hl 0 rfl) ?_
  refine lv_aload_n hx hb dX1_init_27 rfl (lv_at hl 1 rfl) ?_
  refine kc_put (b := 1) (k := 0) (q0 := 0) (v := .ref r0) (ty := .array .int) X hnm hP hD hS rfl (by decide) (by decide) kw_f1_22 rfl (by decide +kernel) rfl rfl (Nat.le_of_ble_eq_true rfl) dX1_init_28 (fun H locs hP hD hS => ?_)
  have hP : va_P (dC, dI) q_cl [(h0, .inr (1, [.ref r0, .null, .ref a1, .ref a2, .int 0])), (a1, .inl (ca 0, 192, .inl (fun _ => 0))), (a2, .inl (ca 0, 24, .inl (fun _ => 0)))] H := hP
  have hD : va_D A [(h0, .inr (1, [.ref r0, .null, .ref a1, .ref a2, .int 0])), (a1, .inl (ca 0, 192, .inl (fun _ => 0))), (a2, .inl (ca 0, 24, .inl (fun _ => 0)))] := hD
  refine lv_aload_n hx hb dX1_init_31 rfl (lv_at hl 0 rfl) ?_
  refine lv_aload_n hx hb dX1_init_32 rfl (lv_at hl 2 rfl) ?_
  refine kc_put (b := 1) (k := 1) (q0 := 0) (v := .ref r1) (ty := .array .int) X hnm hP hD hS rfl (by decide) (by decide) kw_f1_25 rfl (by decide +kernel) rfl rfl (Nat.le_of_ble_eq_true rfl) dX1_init_33 (fun H locs hP hD hS => ?_)
  have hP : va_P (dC, dI) q_cl [(h0, .inr (1, [.ref r0, .ref r1, .ref a1, .ref a2, .int 0])), (a1, .inl (ca 0, 192, .inl (fun _ => 0))), (a2, .inl (ca 0, 24, .inl (fun _ => 0)))] H := hP
  have hD : va_D A [(h0, .inr (1, [.ref r0, .ref r1, .ref a1, .ref a2, .int 0])), (a1, .inl (ca 0, 192, .inl (fun _ => 0))), (a2, .inl (ca 0, 24, .inl (fun _ => 0)))] := hD
  have hP9 := hP.sub (ws' := wX1 ca r0 r1 h0 (fun i => ([a1, a2] : List Nat).getD i 0)) [0, 1, 2] rfl
  have hD9 := hD.sub (ws' := wX1 ca r0 r1 h0 (fun i => ([a1, a2] : List Nat).getD i 0)) [0, 1, 2] (by decide) rfl
  exact kc_ret X hr hlocks (fun i => ([a1, a2] : List Nat).getD i 0) hP9 hD9 hS dX1_init_36
theorem dX2_init_0 : decode cX2_init 0 = .ok (.aload_n 0, 1) := by decide +kernel
theorem dX2_init_1 : decode cX2_init 1 = .ok (.invokespecial 3, 3) := by decide +kernel
theorem dX2_init_4 : decode cX2_init 4 = .ok (.aload_n 0, 1) := by decide +kernel
theorem dX2_init_5 : decode cX2_init 5 = .ok (.bipush 24, 2) := by decide +kernel
theorem dX2_init_7 : decode cX2_init 7 = .ok (.newarray .int, 2) := by decide +kernel
theorem dX2_init_9 : decode cX2_init 9 = .ok (.putfield 9, 3) := by decide +kernel
theorem dX2_init_12 : decode cX2_init 12 = .ok (.aload_n 0, 1) := by decide +kernel
theorem dX2_init_13 : decode cX2_init 13 = .ok (.bipush 24, 2) := by decide +kernel
theorem dX2_init_15 : decode cX2_init 15 = .ok (.newarray .int, 2) := by decide +kernel
theorem dX2_init_17 : decode cX2_init 17 = .ok (.putfield 15, 3) := by decide +kernel
theorem dX2_init_20 : decode cX2_init 20 = .ok (.aload_n 0, 1) := by decide +kernel
theorem dX2_init_21 : decode cX2_init 21 = .ok (.sipush 180, 3) := by decide +kernel
theorem dX2_init_24 : decode cX2_init 24 = .ok (.newarray .int, 2) := by decide +kernel
theorem dX2_init_26 : decode cX2_init 26 = .ok (.putfield 18, 3) := by decide +kernel
theorem dX2_init_29 : decode cX2_init 29 = .ok (.aload_n 0, 1) := by decide +kernel
theorem dX2_init_30 : decode cX2_init 30 = .ok (.bipush 12, 2) := by decide +kernel
theorem dX2_init_32 : decode cX2_init 32 = .ok (.newarray .int, 2) := by decide +kernel
theorem dX2_init_34 : decode cX2_init 34 = .ok (.putfield 21, 3) := by decide +kernel
theorem dX2_init_37 : decode cX2_init 37 = .ok (.aload_n 0, 1) := by decide +kernel
theorem dX2_init_38 : decode cX2_init 38 = .ok (.iconst 1, 1) := by decide +kernel
theorem dX2_init_39 : decode cX2_init 39 = .ok (.putfield 24, 3) := by decide +kernel
theorem dX2_init_42 : decode cX2_init 42 = .ok (.aload_n 0, 1) := by decide +kernel
theorem dX2_init_43 : decode cX2_init 43 = .ok (.getfield 9, 3) := by decide +kernel
theorem dX2_init_46 : decode cX2_init 46 = .ok (.bipush 12, 2) := by decide +kernel
theorem dX2_init_48 : decode cX2_init 48 = .ok (.invokestatic 28, 3) := by decide +kernel
theorem dX2_init_51 : decode cX2_init 51 = .ok (.return_, 1) := by decide +kernel
theorem kw_f2_9 : Cond.fieldLink RX2 9 "BellHours$House" "owners" "[I" ∈ gw := gw_of (q_tb_in (j := 1) (List.mem_of_getElem? (i := 39) (by decide +kernel))) rfl
theorem kw_f2_15 : Cond.fieldLink RX2 15 "BellHours$House" "rooms" "[I" ∈ gw := gw_of (q_tb_in (j := 1) (List.mem_of_getElem? (i := 42) (by decide +kernel))) rfl
theorem kw_f2_18 : Cond.fieldLink RX2 18 "BellHours$House" "acts" "[I" ∈ gw := gw_of (q_tb_in (j := 1) (List.mem_of_getElem? (i := 45) (by decide +kernel))) rfl
theorem kw_f2_21 : Cond.fieldLink RX2 21 "BellHours$House" "actCounts" "[I" ∈ gw := gw_of (q_tb_in (j := 1) (List.mem_of_getElem? (i := 48) (by decide +kernel))) rfl
theorem kw_f2_24 : Cond.fieldLink RX2 24 "BellHours$House" "x" "I" ∈ gw := gw_of (q_tb_in (j := 1) (List.mem_of_getElem? (i := 52) (by decide +kernel))) rfl
theorem kw_fl2 : Cond.methodLink RX2 28 yJ7_fill_53178 ∈ gw := gw_of (q_tb_in (j := 1) (List.mem_of_getElem? (i := 36) (by decide +kernel))) rfl
def wX2 (ca : Nat → ClassId) (h0 : Nat) (q : Nat → Nat) : va_W := [(h0, .inr (2, [.ref (q 0), .ref (q 1), .ref (q 2), .ref (q 3), .int 1])), (q 0, .inl (ca 0, 24, .inl (cpy (fun _ => 0) (fun _ => 12) 0 24))), (q 1, .inl (ca 0, 24, .inl (fun _ => 0))), (q 2, .inl (ca 0, 180, .inl (fun _ => 0))), (q 3, .inl (ca 0, 12, .inl (fun _ => 0)))]
def rX2 : Room := { frames := 2, cells := 4, slots := 240, locals := 60 }
set_option maxHeartbeats 4000000 in
set_option maxRecDepth 100000 in
theorem kX2 (l : Launch) (dC : Nat → ClassId) (dI : Nat → Nat → Nat) (ca : Nat → ClassId) : kMet l dC dI ca yX2_init cX2_init 1 rX2 (.inr (2, [.null, .null, .null, .null, .int 0])) [] (wX2 ca) 4 240 := by
  refine kc_start (by decide) (Nat.le_of_ble_eq_true rfl) ?_
  intro h0 p e s m args below meth c A ls X hnm hr hlocks hl hP hD hS
  have hx := X.1
  have hb := X.2.1
  have hl : lv_has ls 1 [(0, .ref h0)] := hl
  refine lv_aload_n hx hb dX2_init_0 rfl (lv_at hl 0 rfl) ?_
  refine kc_obj X hl.1 kw_ob2 (Nat.le_of_ble_eq_true rfl) (Nat.le_of_ble_eq_true rfl) (Nat.le_of_ble_eq_true rfl) dX2_init_1 ?_
  refine lv_aload_n hx hb dX2_init_4 rfl (lv_at hl 0 rfl) ?_
  refine lv_bipush (v := 24) hx hb dX2_init_5 (by decide) ?_
  refine kc_newi X hP hD hS (N := 24) (by decide) (by decide) (Nat.le_of_ble_eq_true rfl) (Nat.le_of_ble_eq_true rfl) (Nat.le_of_ble_eq_true rfl) dX2_init_7 (fun a1 H hP hD hS => ?_)
  have hP : va_P (dC, dI) q_cl [(h0, .inr (2, [.null, .null, .null, .null, .int 0])), (a1, .inl (ca 0, 24, .inl (fun _ => 0)))] H := hP
  have hD : va_D A [(h0, .inr (2, [.null, .null, .null, .null, .int 0])), (a1, .inl (ca 0, 24, .inl (fun _ => 0)))] := hD
  refine kc_put (b := 2) (k := 0) (q0 := 0) (v := .ref a1) (ty := .array .int) X hnm hP hD hS rfl (by decide) (by decide) kw_f2_9 rfl (by decide +kernel) rfl rfl (Nat.le_of_ble_eq_true rfl) dX2_init_9 (fun H locs hP hD hS => ?_)
  have hP : va_P (dC, dI) q_cl [(h0, .inr (2, [.ref a1, .null, .null, .null, .int 0])), (a1, .inl (ca 0, 24, .inl (fun _ => 0)))] H := hP
  have hD : va_D A [(h0, .inr (2, [.ref a1, .null, .null, .null, .int 0])), (a1, .inl (ca 0, 24, .inl (fun _ => 0)))] := hD
  refine lv_aload_n hx hb dX2_init_12 rfl (lv_at hl 0 rfl) ?_
  refine lv_bipush (v := 24) hx hb dX2_init_13 (by decide) ?_
  refine kc_newi X hP hD hS (N := 24) (by decide) (by decide) (Nat.le_of_ble_eq_true rfl) (Nat.le_of_ble_eq_true rfl) (Nat.le_of_ble_eq_true rfl) dX2_init_15 (fun a2 H hP hD hS => ?_)
  have hP : va_P (dC, dI) q_cl [(h0, .inr (2, [.ref a1, .null, .null, .null, .int 0])), (a1, .inl (ca 0, 24, .inl (fun _ => 0))), (a2, .inl (ca 0, 24, .inl (fun _ => 0)))] H := hP
  have hD : va_D A [(h0, .inr (2, [.ref a1, .null, .null, .null, .int 0])), (a1, .inl (ca 0, 24, .inl (fun _ => 0))), (a2, .inl (ca 0, 24, .inl (fun _ => 0)))] := hD
  refine kc_put (b := 2) (k := 1) (q0 := 0) (v := .ref a2) (ty := .array .int) X hnm hP hD hS rfl (by decide) (by decide) kw_f2_15 rfl (by decide +kernel) rfl rfl (Nat.le_of_ble_eq_true rfl) dX2_init_17 (fun H locs hP hD hS => ?_)
  have hP : va_P (dC, dI) q_cl [(h0, .inr (2, [.ref a1, .ref a2, .null, .null, .int 0])), (a1, .inl (ca 0, 24, .inl (fun _ => 0))), (a2, .inl (ca 0, 24, .inl (fun _ => 0)))] H := hP
  have hD : va_D A [(h0, .inr (2, [.ref a1, .ref a2, .null, .null, .int 0])), (a1, .inl (ca 0, 24, .inl (fun _ => 0))), (a2, .inl (ca 0, 24, .inl (fun _ => 0)))] := hD
  refine lv_aload_n hx hb dX2_init_20 rfl (lv_at hl 0 rfl) ?_
  refine lv_sipush (v := 180) hx hb dX2_init_21 (by decide) ?_
  refine kc_newi X hP hD hS (N := 180) (by decide) (by decide) (Nat.le_of_ble_eq_true rfl) (Nat.le_of_ble_eq_true rfl) (Nat.le_of_ble_eq_true rfl) dX2_init_24 (fun a3 H hP hD hS => ?_)
  have hP : va_P (dC, dI) q_cl [(h0, .inr (2, [.ref a1, .ref a2, .null, .null, .int 0])), (a1, .inl (ca 0, 24, .inl (fun _ => 0))), (a2, .inl (ca 0, 24, .inl (fun _ => 0))), (a3, .inl (ca 0, 180, .inl (fun _ => 0)))] H := hP
  have hD : va_D A [(h0, .inr (2, [.ref a1, .ref a2, .null, .null, .int 0])), (a1, .inl (ca 0, 24, .inl (fun _ => 0))), (a2, .inl (ca 0, 24, .inl (fun _ => 0))), (a3, .inl (ca 0, 180, .inl (fun _ => 0)))] := hD
  refine kc_put (b := 2) (k := 2) (q0 := 0) (v := .ref a3) (ty := .array .int) X hnm hP hD hS rfl (by decide) (by decide) kw_f2_18 rfl (by decide +kernel) rfl rfl (Nat.le_of_ble_eq_true rfl) dX2_init_26 (fun H locs hP hD hS => ?_)
  have hP : va_P (dC, dI) q_cl [(h0, .inr (2, [.ref a1, .ref a2, .ref a3, .null, .int 0])), (a1, .inl (ca 0, 24, .inl (fun _ => 0))), (a2, .inl (ca 0, 24, .inl (fun _ => 0))), (a3, .inl (ca 0, 180, .inl (fun _ => 0)))] H := hP
  have hD : va_D A [(h0, .inr (2, [.ref a1, .ref a2, .ref a3, .null, .int 0])), (a1, .inl (ca 0, 24, .inl (fun _ => 0))), (a2, .inl (ca 0, 24, .inl (fun _ => 0))), (a3, .inl (ca 0, 180, .inl (fun _ => 0)))] := hD
  refine lv_aload_n hx hb dX2_init_29 rfl (lv_at hl 0 rfl) ?_
  refine lv_bipush (v := 12) hx hb dX2_init_30 (by decide) ?_
  refine kc_newi X hP hD hS (N := 12) (by decide) (by decide) (Nat.le_of_ble_eq_true rfl) (Nat.le_of_ble_eq_true rfl) (Nat.le_of_ble_eq_true rfl) dX2_init_32 (fun a4 H hP hD hS => ?_)
  have hP : va_P (dC, dI) q_cl [(h0, .inr (2, [.ref a1, .ref a2, .ref a3, .null, .int 0])), (a1, .inl (ca 0, 24, .inl (fun _ => 0))), (a2, .inl (ca 0, 24, .inl (fun _ => 0))), (a3, .inl (ca 0, 180, .inl (fun _ => 0))), (a4, .inl (ca 0, 12, .inl (fun _ => 0)))] H := hP
  have hD : va_D A [(h0, .inr (2, [.ref a1, .ref a2, .ref a3, .null, .int 0])), (a1, .inl (ca 0, 24, .inl (fun _ => 0))), (a2, .inl (ca 0, 24, .inl (fun _ => 0))), (a3, .inl (ca 0, 180, .inl (fun _ => 0))), (a4, .inl (ca 0, 12, .inl (fun _ => 0)))] := hD
  refine kc_put (b := 2) (k := 3) (q0 := 0) (v := .ref a4) (ty := .array .int) X hnm hP hD hS rfl (by decide) (by decide) kw_f2_21 rfl (by decide +kernel) rfl rfl (Nat.le_of_ble_eq_true rfl) dX2_init_34 (fun H locs hP hD hS => ?_)
  have hP : va_P (dC, dI) q_cl [(h0, .inr (2, [.ref a1, .ref a2, .ref a3, .ref a4, .int 0])), (a1, .inl (ca 0, 24, .inl (fun _ => 0))), (a2, .inl (ca 0, 24, .inl (fun _ => 0))), (a3, .inl (ca 0, 180, .inl (fun _ => 0))), (a4, .inl (ca 0, 12, .inl (fun _ => 0)))] H := hP
  have hD : va_D A [(h0, .inr (2, [.ref a1, .ref a2, .ref a3, .ref a4, .int 0])), (a1, .inl (ca 0, 24, .inl (fun _ => 0))), (a2, .inl (ca 0, 24, .inl (fun _ => 0))), (a3, .inl (ca 0, 180, .inl (fun _ => 0))), (a4, .inl (ca 0, 12, .inl (fun _ => 0)))] := hD
  refine lv_aload_n hx hb dX2_init_37 rfl (lv_at hl 0 rfl) ?_
  refine lv_iconst (v := 1) hx hb dX2_init_38 (by decide) ?_
  refine kc_put (b := 2) (k := 4) (q0 := 0) (v := .int 1) (ty := .int) X hnm hP hD hS rfl (by decide) (by decide) kw_f2_24 rfl (by decide +kernel) rfl rfl (Nat.le_of_ble_eq_true rfl) dX2_init_39 (fun H locs hP hD hS => ?_)
  have hP : va_P (dC, dI) q_cl [(h0, .inr (2, [.ref a1, .ref a2, .ref a3, .ref a4, .int 1])), (a1, .inl (ca 0, 24, .inl (fun _ => 0))), (a2, .inl (ca 0, 24, .inl (fun _ => 0))), (a3, .inl (ca 0, 180, .inl (fun _ => 0))), (a4, .inl (ca 0, 12, .inl (fun _ => 0)))] H := hP
  have hD : va_D A [(h0, .inr (2, [.ref a1, .ref a2, .ref a3, .ref a4, .int 1])), (a1, .inl (ca 0, 24, .inl (fun _ => 0))), (a2, .inl (ca 0, 24, .inl (fun _ => 0))), (a3, .inl (ca 0, 180, .inl (fun _ => 0))), (a4, .inl (ca 0, 12, .inl (fun _ => 0)))] := hD
  refine lv_aload_n hx hb dX2_init_42 rfl (lv_at hl 0 rfl) ?_
  refine kc_get (b := 2) (k := 0) (q0 := 0) X hP rfl (by decide) (by decide) kw_f2_9 rfl dX2_init_43 ?_
  refine lv_bipush (v := 12) hx hb dX2_init_46 (by decide) ?_
  refine kc_fillAt (i := 1) X hl.1 (kc_fillM l dC dI ca 24 (by decide) (fun _ => 0) 12) ⟨rfl, rfl⟩ ⟨Nat.le_of_ble_eq_true rfl, Nat.le_of_ble_eq_true rfl⟩ kw_fl2 (Nat.le_of_ble_eq_true rfl) rfl hP hD hS dX2_init_48 ⟨Nat.le_of_ble_eq_true rfl, Nat.le_of_ble_eq_true rfl⟩ (fun H locs hP hD hS => ?_)
  have hP : va_P (dC, dI) q_cl [(h0, .inr (2, [.ref a1, .ref a2, .ref a3, .ref a4, .int 1])), (a1, .inl (ca 0, 24, .inl (cpy (fun _ => 0) (fun _ => 12) 0 24))), (a2, .inl (ca 0, 24, .inl (fun _ => 0))), (a3, .inl (ca 0, 180, .inl (fun _ => 0))), (a4, .inl (ca 0, 12, .inl (fun _ => 0)))] H := hP
  have hD : va_D A [(h0, .inr (2, [.ref a1, .ref a2, .ref a3, .ref a4, .int 1])), (a1, .inl (ca 0, 24, .inl (cpy (fun _ => 0) (fun _ => 12) 0 24))), (a2, .inl (ca 0, 24, .inl (fun _ => 0))), (a3, .inl (ca 0, 180, .inl (fun _ => 0))), (a4, .inl (ca 0, 12, .inl (fun _ => 0)))] := hD
  have hP9 := hP.sub (ws' := wX2 ca h0 (fun i => ([a1, a2, a3, a4] : List Nat).getD i 0)) [0, 1, 2, 3, 4] rfl
  have hD9 := hD.sub (ws' := wX2 ca h0 (fun i => ([a1, a2, a3, a4] : List Nat).getD i 0)) [0, 1, 2, 3, 4] (by decide) rfl
  exact kc_ret X hr hlocks (fun i => ([a1, a2, a3, a4] : List Nat).getD i 0) hP9 hD9 hS dX2_init_51
theorem dX3_init_0 : decode cX3_init 0 = .ok (.aload_n 0, 1) := by decide +kernel
theorem dX3_init_1 : decode cX3_init 1 = .ok (.invokespecial 3, 3) := by decide +kernel
theorem dX3_init_4 : decode cX3_init 4 = .ok (.aload_n 0, 1) := by decide +kernel
theorem dX3_init_5 : decode cX3_init 5 = .ok (.iconst 0, 1) := by decide +kernel
theorem dX3_init_6 : decode cX3_init 6 = .ok (.putfield 9, 3) := by decide +kernel
theorem dX3_init_9 : decode cX3_init 9 = .ok (.aload_n 0, 1) := by decide +kernel
theorem dX3_init_10 : decode cX3_init 10 = .ok (.iconst 0, 1) := by decide +kernel
theorem dX3_init_11 : decode cX3_init 11 = .ok (.putfield 15, 3) := by decide +kernel
theorem dX3_init_14 : decode cX3_init 14 = .ok (.aload_n 0, 1) := by decide +kernel
theorem dX3_init_15 : decode cX3_init 15 = .ok (.sipush 200, 3) := by decide +kernel
theorem dX3_init_18 : decode cX3_init 18 = .ok (.newarray .char, 2) := by decide +kernel
theorem dX3_init_20 : decode cX3_init 20 = .ok (.putfield 18, 3) := by decide +kernel
theorem dX3_init_23 : decode cX3_init 23 = .ok (.aload_n 0, 1) := by decide +kernel
theorem dX3_init_24 : decode cX3_init 24 = .ok (.sipush 200, 3) := by decide +kernel
theorem dX3_init_27 : decode cX3_init 27 = .ok (.newarray .int, 2) := by decide +kernel
theorem dX3_init_29 : decode cX3_init 29 = .ok (.putfield 22, 3) := by decide +kernel
theorem dX3_init_32 : decode cX3_init 32 = .ok (.aload_n 0, 1) := by decide +kernel
theorem dX3_init_33 : decode cX3_init 33 = .ok (.bipush 14, 2) := by decide +kernel
theorem dX3_init_35 : decode cX3_init 35 = .ok (.newarray .int, 2) := by decide +kernel
theorem dX3_init_37 : decode cX3_init 37 = .ok (.putfield 26, 3) := by decide +kernel
theorem dX3_init_40 : decode cX3_init 40 = .ok (.aload_n 0, 1) := by decide +kernel
theorem dX3_init_41 : decode cX3_init 41 = .ok (.bipush 14, 2) := by decide +kernel
theorem dX3_init_43 : decode cX3_init 43 = .ok (.newarray .int, 2) := by decide +kernel
theorem dX3_init_45 : decode cX3_init 45 = .ok (.putfield 29, 3) := by decide +kernel
theorem dX3_init_48 : decode cX3_init 48 = .ok (.aload_n 0, 1) := by decide +kernel
theorem dX3_init_49 : decode cX3_init 49 = .ok (.bipush 14, 2) := by decide +kernel
theorem dX3_init_51 : decode cX3_init 51 = .ok (.newarray .int, 2) := by decide +kernel
theorem dX3_init_53 : decode cX3_init 53 = .ok (.putfield 32, 3) := by decide +kernel
theorem dX3_init_56 : decode cX3_init 56 = .ok (.aload_n 0, 1) := by decide +kernel
theorem dX3_init_57 : decode cX3_init 57 = .ok (.bipush 98, 2) := by decide +kernel
theorem dX3_init_59 : decode cX3_init 59 = .ok (.newarray .int, 2) := by decide +kernel
theorem dX3_init_61 : decode cX3_init 61 = .ok (.putfield 35, 3) := by decide +kernel
theorem dX3_init_64 : decode cX3_init 64 = .ok (.aload_n 0, 1) := by decide +kernel
theorem dX3_init_65 : decode cX3_init 65 = .ok (.bipush 7, 2) := by decide +kernel
theorem dX3_init_67 : decode cX3_init 67 = .ok (.newarray .int, 2) := by decide +kernel
theorem dX3_init_69 : decode cX3_init 69 = .ok (.putfield 38, 3) := by decide +kernel
theorem dX3_init_72 : decode cX3_init 72 = .ok (.aload_n 0, 1) := by decide +kernel
theorem dX3_init_73 : decode cX3_init 73 = .ok (.bipush 32, 2) := by decide +kernel
theorem dX3_init_75 : decode cX3_init 75 = .ok (.newarray .int, 2) := by decide +kernel
theorem dX3_init_77 : decode cX3_init 77 = .ok (.putfield 41, 3) := by decide +kernel
theorem dX3_init_80 : decode cX3_init 80 = .ok (.return_, 1) := by decide +kernel
theorem kw_f3_9 : Cond.fieldLink RX3 9 "BellHours$Law" "clauses" "I" ∈ gw := gw_of (q_tb_in (j := 1) (List.mem_of_getElem? (i := 88) (by decide +kernel))) rfl
theorem kw_f3_15 : Cond.fieldLink RX3 15 "BellHours$Law" "size" "I" ∈ gw := gw_of (q_tb_in (j := 1) (List.mem_of_getElem? (i := 90) (by decide +kernel))) rfl
theorem kw_f3_18 : Cond.fieldLink RX3 18 "BellHours$Law" "signs" "[C" ∈ gw := gw_of (q_tb_in (j := 1) (List.mem_of_getElem? (i := 92) (by decide +kernel))) rfl
theorem kw_f3_22 : Cond.fieldLink RX3 22 "BellHours$Law" "with" "[I" ∈ gw := gw_of (q_tb_in (j := 1) (List.mem_of_getElem? (i := 93) (by decide +kernel))) rfl
theorem kw_f3_26 : Cond.fieldLink RX3 26 "BellHours$Law" "numberFrom" "[I" ∈ gw := gw_of (q_tb_in (j := 1) (List.mem_of_getElem? (i := 94) (by decide +kernel))) rfl
theorem kw_f3_29 : Cond.fieldLink RX3 29 "BellHours$Law" "testFrom" "[I" ∈ gw := gw_of (q_tb_in (j := 1) (List.mem_of_getElem? (i := 95) (by decide +kernel))) rfl
theorem kw_f3_32 : Cond.fieldLink RX3 32 "BellHours$Law" "testTo" "[I" ∈ gw := gw_of (q_tb_in (j := 1) (List.mem_of_getElem? (i := 96) (by decide +kernel))) rfl
theorem kw_f3_35 : Cond.fieldLink RX3 35 "BellHours$Law" "ofLetter" "[I" ∈ gw := gw_of (q_tb_in (j := 1) (List.mem_of_getElem? (i := 97) (by decide +kernel))) rfl
theorem kw_f3_38 : Cond.fieldLink RX3 38 "BellHours$Law" "letterCounts" "[I" ∈ gw := gw_of (q_tb_in (j := 1) (List.mem_of_getElem? (i := 98) (by decide +kernel))) rfl
theorem kw_f3_41 : Cond.fieldLink RX3 41 "BellHours$Law" "pile" "[I" ∈ gw := gw_of (q_tb_in (j := 1) (List.mem_of_getElem? (i := 99) (by decide +kernel))) rfl
def wX3 (ca : Nat → ClassId) (h0 : Nat) (q : Nat → Nat) : va_W := [(h0, .inr (3, [.int 0, .int 0, .ref (q 0), .ref (q 1), .ref (q 2), .ref (q 3), .ref (q 4), .ref (q 5), .ref (q 6), .ref (q 7)])), (q 0, .inl (ca 1, 200, .inl (fun _ => 0))), (q 1, .inl (ca 0, 200, .inl (fun _ => 0))), (q 2, .inl (ca 0, 14, .inl (fun _ => 0))), (q 3, .inl (ca 0, 14, .inl (fun _ => 0))), (q 4, .inl (ca 0, 14, .inl (fun _ => 0))), (q 5, .inl (ca 0, 98, .inl (fun _ => 0))), (q 6, .inl (ca 0, 7, .inl (fun _ => 0))), (q 7, .inl (ca 0, 32, .inl (fun _ => 0)))]
def rX3 : Room := { frames := 2, cells := 8, slots := 579, locals := 60 }
set_option maxHeartbeats 4000000 in
set_option maxRecDepth 100000 in
theorem kX3 (l : Launch) (dC : Nat → ClassId) (dI : Nat → Nat → Nat) (ca : Nat → ClassId) : kMet l dC dI ca yX3_init cX3_init 1 rX3 (.inr (3, [.int 0, .int 0, .null, .null, .null, .null, .null, .null, .null, .null])) [] (wX3 ca) 8 579 := by
  refine kc_start (by decide) (Nat.le_of_ble_eq_true rfl) ?_
  intro h0 p e s m args below meth c A ls X hnm hr hlocks hl hP hD hS
  have hx := X.1
  have hb := X.2.1
  have hl : lv_has ls 1 [(0, .ref h0)] := hl
  refine lv_aload_n hx hb dX3_init_0 rfl (lv_at hl 0 rfl) ?_
  refine kc_obj X hl.1 kw_ob3 (Nat.le_of_ble_eq_true rfl) (Nat.le_of_ble_eq_true rfl) (Nat.le_of_ble_eq_true rfl) dX3_init_1 ?_
  refine lv_aload_n hx hb dX3_init_4 rfl (lv_at hl 0 rfl) ?_
  refine lv_iconst (v := 0) hx hb dX3_init_5 (by decide) ?_
  refine kc_put (b := 3) (k := 0) (q0 := 0) (v := .int 0) (ty := .int) X hnm hP hD hS rfl (by decide) (by decide) kw_f3_9 rfl (by decide +kernel) rfl rfl (Nat.le_of_ble_eq_true rfl) dX3_init_6 (fun H locs hP hD hS => ?_)
  have hP : va_P (dC, dI) q_cl [(h0, .inr (3, [.int 0, .int 0, .null, .null, .null, .null, .null, .null, .null, .null]))] H := hP
  have hD : va_D A [(h0, .inr (3, [.int 0, .int 0, .null, .null, .null, .null, .null, .null, .null, .null]))] := hD
  refine lv_aload_n hx hb dX3_init_9 rfl (lv_at hl 0 rfl) ?_
  refine lv_iconst (v := 0) hx hb dX3_init_10 (by decide) ?_
  refine kc_put (b := 3) (k := 1) (q0 := 0) (v := .int 0) (ty := .int) X hnm hP hD hS rfl (by decide) (by decide) kw_f3_15 rfl (by decide +kernel) rfl rfl (Nat.le_of_ble_eq_true rfl) dX3_init_11 (fun H locs hP hD hS => ?_)
  have hP : va_P (dC, dI) q_cl [(h0, .inr (3, [.int 0, .int 0, .null, .null, .null, .null, .null, .null, .null, .null]))] H := hP
  have hD : va_D A [(h0, .inr (3, [.int 0, .int 0, .null, .null, .null, .null, .null, .null, .null, .null]))] := hD
  refine lv_aload_n hx hb dX3_init_14 rfl (lv_at hl 0 rfl) ?_
  refine lv_sipush (v := 200) hx hb dX3_init_15 (by decide) ?_
  refine kc_newc X hP hD hS (N := 200) (by decide) (by decide) (Nat.le_of_ble_eq_true rfl) (Nat.le_of_ble_eq_true rfl) (Nat.le_of_ble_eq_true rfl) dX3_init_18 (fun a1 H hP hD hS => ?_)
  have hP : va_P (dC, dI) q_cl [(h0, .inr (3, [.int 0, .int 0, .null, .null, .null, .null, .null, .null, .null, .null])), (a1, .inl (ca 1, 200, .inl (fun _ => 0)))] H := hP
  have hD : va_D A [(h0, .inr (3, [.int 0, .int 0, .null, .null, .null, .null, .null, .null, .null, .null])), (a1, .inl (ca 1, 200, .inl (fun _ => 0)))] := hD
  refine kc_put (b := 3) (k := 2) (q0 := 0) (v := .ref a1) (ty := .array .char) X hnm hP hD hS rfl (by decide) (by decide) kw_f3_18 rfl (by decide +kernel) rfl rfl (Nat.le_of_ble_eq_true rfl) dX3_init_20 (fun H locs hP hD hS => ?_)
  have hP : va_P (dC, dI) q_cl [(h0, .inr (3, [.int 0, .int 0, .ref a1, .null, .null, .null, .null, .null, .null, .null])), (a1, .inl (ca 1, 200, .inl (fun _ => 0)))] H := hP
  have hD : va_D A [(h0, .inr (3, [.int 0, .int 0, .ref a1, .null, .null, .null, .null, .null, .null, .null])), (a1, .inl (ca 1, 200, .inl (fun _ => 0)))] := hD
  refine lv_aload_n hx hb dX3_init_23 rfl (lv_at hl 0 rfl) ?_
  refine lv_sipush (v := 200) hx hb dX3_init_24 (by decide) ?_
  refine kc_newi X hP hD hS (N := 200) (by decide) (by decide) (Nat.le_of_ble_eq_true rfl) (Nat.le_of_ble_eq_true rfl) (Nat.le_of_ble_eq_true rfl) dX3_init_27 (fun a2 H hP hD hS => ?_)
  have hP : va_P (dC, dI) q_cl [(h0, .inr (3, [.int 0, .int 0, .ref a1, .null, .null, .null, .null, .null, .null, .null])), (a1, .inl (ca 1, 200, .inl (fun _ => 0))), (a2, .inl (ca 0, 200, .inl (fun _ => 0)))] H := hP
  have hD : va_D A [(h0, .inr (3, [.int 0, .int 0, .ref a1, .null, .null, .null, .null, .null, .null, .null])), (a1, .inl (ca 1, 200, .inl (fun _ => 0))), (a2, .inl (ca 0, 200, .inl (fun _ => 0)))] := hD
  refine kc_put (b := 3) (k := 3) (q0 := 0) (v := .ref a2) (ty := .array .int) X hnm hP hD hS rfl (by decide) (by decide) kw_f3_22 rfl (by decide +kernel) rfl rfl (Nat.le_of_ble_eq_true rfl) dX3_init_29 (fun H locs hP hD hS => ?_)
  have hP : va_P (dC, dI) q_cl [(h0, .inr (3, [.int 0, .int 0, .ref a1, .ref a2, .null, .null, .null, .null, .null, .null])), (a1, .inl (ca 1, 200, .inl (fun _ => 0))), (a2, .inl (ca 0, 200, .inl (fun _ => 0)))] H := hP
  have hD : va_D A [(h0, .inr (3, [.int 0, .int 0, .ref a1, .ref a2, .null, .null, .null, .null, .null, .null])), (a1, .inl (ca 1, 200, .inl (fun _ => 0))), (a2, .inl (ca 0, 200, .inl (fun _ => 0)))] := hD
  refine lv_aload_n hx hb dX3_init_32 rfl (lv_at hl 0 rfl) ?_
  refine lv_bipush (v := 14) hx hb dX3_init_33 (by decide) ?_
  refine kc_newi X hP hD hS (N := 14) (by decide) (by decide) (Nat.le_of_ble_eq_true rfl) (Nat.le_of_ble_eq_true rfl) (Nat.le_of_ble_eq_true rfl) dX3_init_35 (fun a3 H hP hD hS => ?_)
  have hP : va_P (dC, dI) q_cl [(h0, .inr (3, [.int 0, .int 0, .ref a1, .ref a2, .null, .null, .null, .null, .null, .null])), (a1, .inl (ca 1, 200, .inl (fun _ => 0))), (a2, .inl (ca 0, 200, .inl (fun _ => 0))), (a3, .inl (ca 0, 14, .inl (fun _ => 0)))] H := hP
  have hD : va_D A [(h0, .inr (3, [.int 0, .int 0, .ref a1, .ref a2, .null, .null, .null, .null, .null, .null])), (a1, .inl (ca 1, 200, .inl (fun _ => 0))), (a2, .inl (ca 0, 200, .inl (fun _ => 0))), (a3, .inl (ca 0, 14, .inl (fun _ => 0)))] := hD
  refine kc_put (b := 3) (k := 4) (q0 := 0) (v := .ref a3) (ty := .array .int) X hnm hP hD hS rfl (by decide) (by decide) kw_f3_26 rfl (by decide +kernel) rfl rfl (Nat.le_of_ble_eq_true rfl) dX3_init_37 (fun H locs hP hD hS => ?_)
  have hP : va_P (dC, dI) q_cl [(h0, .inr (3, [.int 0, .int 0, .ref a1, .ref a2, .ref a3, .null, .null, .null, .null, .null])), (a1, .inl (ca 1, 200, .inl (fun _ => 0))), (a2, .inl (ca 0, 200, .inl (fun _ => 0))), (a3, .inl (ca 0, 14, .inl (fun _ => 0)))] H := hP
  have hD : va_D A [(h0, .inr (3, [.int 0, .int 0, .ref a1, .ref a2, .ref a3, .null, .null, .null, .null, .null])), (a1, .inl (ca 1, 200, .inl (fun _ => 0))), (a2, .inl (ca 0, 200, .inl (fun _ => 0))), (a3, .inl (ca 0, 14, .inl (fun _ => 0)))] := hD
  refine lv_aload_n hx hb dX3_init_40 rfl (lv_at hl 0 rfl) ?_
  refine lv_bipush (v := 14) hx hb dX3_init_41 (by decide) ?_
  refine kc_newi X hP hD hS (N := 14) (by decide) (by decide) (Nat.le_of_ble_eq_true rfl) (Nat.le_of_ble_eq_true rfl) (Nat.le_of_ble_eq_true rfl) dX3_init_43 (fun a4 H hP hD hS => ?_)
  have hP : va_P (dC, dI) q_cl [(h0, .inr (3, [.int 0, .int 0, .ref a1, .ref a2, .ref a3, .null, .null, .null, .null, .null])), (a1, .inl (ca 1, 200, .inl (fun _ => 0))), (a2, .inl (ca 0, 200, .inl (fun _ => 0))), (a3, .inl (ca 0, 14, .inl (fun _ => 0))), (a4, .inl (ca 0, 14, .inl (fun _ => 0)))] H := hP
  have hD : va_D A [(h0, .inr (3, [.int 0, .int 0, .ref a1, .ref a2, .ref a3, .null, .null, .null, .null, .null])), (a1, .inl (ca 1, 200, .inl (fun _ => 0))), (a2, .inl (ca 0, 200, .inl (fun _ => 0))), (a3, .inl (ca 0, 14, .inl (fun _ => 0))), (a4, .inl (ca 0, 14, .inl (fun _ => 0)))] := hD
  refine kc_put (b := 3) (k := 5) (q0 := 0) (v := .ref a4) (ty := .array .int) X hnm hP hD hS rfl (by decide) (by decide) kw_f3_29 rfl (by decide +kernel) rfl rfl (Nat.le_of_ble_eq_true rfl) dX3_init_45 (fun H locs hP hD hS => ?_)
  have hP : va_P (dC, dI) q_cl [(h0, .inr (3, [.int 0, .int 0, .ref a1, .ref a2, .ref a3, .ref a4, .null, .null, .null, .null])), (a1, .inl (ca 1, 200, .inl (fun _ => 0))), (a2, .inl (ca 0, 200, .inl (fun _ => 0))), (a3, .inl (ca 0, 14, .inl (fun _ => 0))), (a4, .inl (ca 0, 14, .inl (fun _ => 0)))] H := hP
  have hD : va_D A [(h0, .inr (3, [.int 0, .int 0, .ref a1, .ref a2, .ref a3, .ref a4, .null, .null, .null, .null])), (a1, .inl (ca 1, 200, .inl (fun _ => 0))), (a2, .inl (ca 0, 200, .inl (fun _ => 0))), (a3, .inl (ca 0, 14, .inl (fun _ => 0))), (a4, .inl (ca 0, 14, .inl (fun _ => 0)))] := hD
  refine lv_aload_n hx hb dX3_init_48 rfl (lv_at hl 0 rfl) ?_
  refine lv_bipush (v := 14) hx hb dX3_init_49 (by decide) ?_
  refine kc_newi X hP hD hS (N := 14) (by decide) (by decide) (Nat.le_of_ble_eq_true rfl) (Nat.le_of_ble_eq_true rfl) (Nat.le_of_ble_eq_true rfl) dX3_init_51 (fun a5 H hP hD hS => ?_)
  have hP : va_P (dC, dI) q_cl [(h0, .inr (3, [.int 0, .int 0, .ref a1, .ref a2, .ref a3, .ref a4, .null, .null, .null, .null])), (a1, .inl (ca 1, 200, .inl (fun _ => 0))), (a2, .inl (ca 0, 200, .inl (fun _ => 0))), (a3, .inl (ca 0, 14, .inl (fun _ => 0))), (a4, .inl (ca 0, 14, .inl (fun _ => 0))), (a5, .inl (ca 0, 14, .inl (fun _ => 0)))] H := hP
  have hD : va_D A [(h0, .inr (3, [.int 0, .int 0, .ref a1, .ref a2, .ref a3, .ref a4, .null, .null, .null, .null])), (a1, .inl (ca 1, 200, .inl (fun _ => 0))), (a2, .inl (ca 0, 200, .inl (fun _ => 0))), (a3, .inl (ca 0, 14, .inl (fun _ => 0))), (a4, .inl (ca 0, 14, .inl (fun _ => 0))), (a5, .inl (ca 0, 14, .inl (fun _ => 0)))] := hD
  refine kc_put (b := 3) (k := 6) (q0 := 0) (v := .ref a5) (ty := .array .int) X hnm hP hD hS rfl (by decide) (by decide) kw_f3_32 rfl (by decide +kernel) rfl rfl (Nat.le_of_ble_eq_true rfl) dX3_init_53 (fun H locs hP hD hS => ?_)
  have hP : va_P (dC, dI) q_cl [(h0, .inr (3, [.int 0, .int 0, .ref a1, .ref a2, .ref a3, .ref a4, .ref a5, .null, .null, .null])), (a1, .inl (ca 1, 200, .inl (fun _ => 0))), (a2, .inl (ca 0, 200, .inl (fun _ => 0))), (a3, .inl (ca 0, 14, .inl (fun _ => 0))), (a4, .inl (ca 0, 14, .inl (fun _ => 0))), (a5, .inl (ca 0, 14, .inl (fun _ => 0)))] H := hP
  have hD : va_D A [(h0, .inr (3, [.int 0, .int 0, .ref a1, .ref a2, .ref a3, .ref a4, .ref a5, .null, .null, .null])), (a1, .inl (ca 1, 200, .inl (fun _ => 0))), (a2, .inl (ca 0, 200, .inl (fun _ => 0))), (a3, .inl (ca 0, 14, .inl (fun _ => 0))), (a4, .inl (ca 0, 14, .inl (fun _ => 0))), (a5, .inl (ca 0, 14, .inl (fun _ => 0)))] := hD
  refine lv_aload_n hx hb dX3_init_56 rfl (lv_at hl 0 rfl) ?_
  refine lv_bipush (v := 98) hx hb dX3_init_57 (by decide) ?_
  refine kc_newi X hP hD hS (N := 98) (by decide) (by decide) (Nat.le_of_ble_eq_true rfl) (Nat.le_of_ble_eq_true rfl) (Nat.le_of_ble_eq_true rfl) dX3_init_59 (fun a6 H hP hD hS => ?_)
  have hP : va_P (dC, dI) q_cl [(h0, .inr (3, [.int 0, .int 0, .ref a1, .ref a2, .ref a3, .ref a4, .ref a5, .null, .null, .null])), (a1, .inl (ca 1, 200, .inl (fun _ => 0))), (a2, .inl (ca 0, 200, .inl (fun _ => 0))), (a3, .inl (ca 0, 14, .inl (fun _ => 0))), (a4, .inl (ca 0, 14, .inl (fun _ => 0))), (a5, .inl (ca 0, 14, .inl (fun _ => 0))), (a6, .inl (ca 0, 98, .inl (fun _ => 0)))] H := hP
  have hD : va_D A [(h0, .inr (3, [.int 0, .int 0, .ref a1, .ref a2, .ref a3, .ref a4, .ref a5, .null, .null, .null])), (a1, .inl (ca 1, 200, .inl (fun _ => 0))), (a2, .inl (ca 0, 200, .inl (fun _ => 0))), (a3, .inl (ca 0, 14, .inl (fun _ => 0))), (a4, .inl (ca 0, 14, .inl (fun _ => 0))), (a5, .inl (ca 0, 14, .inl (fun _ => 0))), (a6, .inl (ca 0, 98, .inl (fun _ => 0)))] := hD
  refine kc_put (b := 3) (k := 7) (q0 := 0) (v := .ref a6) (ty := .array .int) X hnm hP hD hS rfl (by decide) (by decide) kw_f3_35 rfl (by decide +kernel) rfl rfl (Nat.le_of_ble_eq_true rfl) dX3_init_61 (fun H locs hP hD hS => ?_)
  have hP : va_P (dC, dI) q_cl [(h0, .inr (3, [.int 0, .int 0, .ref a1, .ref a2, .ref a3, .ref a4, .ref a5, .ref a6, .null, .null])), (a1, .inl (ca 1, 200, .inl (fun _ => 0))), (a2, .inl (ca 0, 200, .inl (fun _ => 0))), (a3, .inl (ca 0, 14, .inl (fun _ => 0))), (a4, .inl (ca 0, 14, .inl (fun _ => 0))), (a5, .inl (ca 0, 14, .inl (fun _ => 0))), (a6, .inl (ca 0, 98, .inl (fun _ => 0)))] H := hP
  have hD : va_D A [(h0, .inr (3, [.int 0, .int 0, .ref a1, .ref a2, .ref a3, .ref a4, .ref a5, .ref a6, .null, .null])), (a1, .inl (ca 1, 200, .inl (fun _ => 0))), (a2, .inl (ca 0, 200, .inl (fun _ => 0))), (a3, .inl (ca 0, 14, .inl (fun _ => 0))), (a4, .inl (ca 0, 14, .inl (fun _ => 0))), (a5, .inl (ca 0, 14, .inl (fun _ => 0))), (a6, .inl (ca 0, 98, .inl (fun _ => 0)))] := hD
  refine lv_aload_n hx hb dX3_init_64 rfl (lv_at hl 0 rfl) ?_
  refine lv_bipush (v := 7) hx hb dX3_init_65 (by decide) ?_
  refine kc_newi X hP hD hS (N := 7) (by decide) (by decide) (Nat.le_of_ble_eq_true rfl) (Nat.le_of_ble_eq_true rfl) (Nat.le_of_ble_eq_true rfl) dX3_init_67 (fun a7 H hP hD hS => ?_)
  have hP : va_P (dC, dI) q_cl [(h0, .inr (3, [.int 0, .int 0, .ref a1, .ref a2, .ref a3, .ref a4, .ref a5, .ref a6, .null, .null])), (a1, .inl (ca 1, 200, .inl (fun _ => 0))), (a2, .inl (ca 0, 200, .inl (fun _ => 0))), (a3, .inl (ca 0, 14, .inl (fun _ => 0))), (a4, .inl (ca 0, 14, .inl (fun _ => 0))), (a5, .inl (ca 0, 14, .inl (fun _ => 0))), (a6, .inl (ca 0, 98, .inl (fun _ => 0))), (a7, .inl (ca 0, 7, .inl (fun _ => 0)))] H := hP
  have hD : va_D A [(h0, .inr (3, [.int 0, .int 0, .ref a1, .ref a2, .ref a3, .ref a4, .ref a5, .ref a6, .null, .null])), (a1, .inl (ca 1, 200, .inl (fun _ => 0))), (a2, .inl (ca 0, 200, .inl (fun _ => 0))), (a3, .inl (ca 0, 14, .inl (fun _ => 0))), (a4, .inl (ca 0, 14, .inl (fun _ => 0))), (a5, .inl (ca 0, 14, .inl (fun _ => 0))), (a6, .inl (ca 0, 98, .inl (fun _ => 0))), (a7, .inl (ca 0, 7, .inl (fun _ => 0)))] := hD
  refine kc_put (b := 3) (k := 8) (q0 := 0) (v := .ref a7) (ty := .array .int) X hnm hP hD hS rfl (by decide) (by decide) kw_f3_38 rfl (by decide +kernel) rfl rfl (Nat.le_of_ble_eq_true rfl) dX3_init_69 (fun H locs hP hD hS => ?_)
  have hP : va_P (dC, dI) q_cl [(h0, .inr (3, [.int 0, .int 0, .ref a1, .ref a2, .ref a3, .ref a4, .ref a5, .ref a6, .ref a7, .null])), (a1, .inl (ca 1, 200, .inl (fun _ => 0))), (a2, .inl (ca 0, 200, .inl (fun _ => 0))), (a3, .inl (ca 0, 14, .inl (fun _ => 0))), (a4, .inl (ca 0, 14, .inl (fun _ => 0))), (a5, .inl (ca 0, 14, .inl (fun _ => 0))), (a6, .inl (ca 0, 98, .inl (fun _ => 0))), (a7, .inl (ca 0, 7, .inl (fun _ => 0)))] H := hP
  have hD : va_D A [(h0, .inr (3, [.int 0, .int 0, .ref a1, .ref a2, .ref a3, .ref a4, .ref a5, .ref a6, .ref a7, .null])), (a1, .inl (ca 1, 200, .inl (fun _ => 0))), (a2, .inl (ca 0, 200, .inl (fun _ => 0))), (a3, .inl (ca 0, 14, .inl (fun _ => 0))), (a4, .inl (ca 0, 14, .inl (fun _ => 0))), (a5, .inl (ca 0, 14, .inl (fun _ => 0))), (a6, .inl (ca 0, 98, .inl (fun _ => 0))), (a7, .inl (ca 0, 7, .inl (fun _ => 0)))] := hD
  refine lv_aload_n hx hb dX3_init_72 rfl (lv_at hl 0 rfl) ?_
  refine lv_bipush (v := 32) hx hb dX3_init_73 (by decide) ?_
  refine kc_newi X hP hD hS (N := 32) (by decide) (by decide) (Nat.le_of_ble_eq_true rfl) (Nat.le_of_ble_eq_true rfl) (Nat.le_of_ble_eq_true rfl) dX3_init_75 (fun a8 H hP hD hS => ?_)
  have hP : va_P (dC, dI) q_cl [(h0, .inr (3, [.int 0, .int 0, .ref a1, .ref a2, .ref a3, .ref a4, .ref a5, .ref a6, .ref a7, .null])), (a1, .inl (ca 1, 200, .inl (fun _ => 0))), (a2, .inl (ca 0, 200, .inl (fun _ => 0))), (a3, .inl (ca 0, 14, .inl (fun _ => 0))), (a4, .inl (ca 0, 14, .inl (fun _ => 0))), (a5, .inl (ca 0, 14, .inl (fun _ => 0))), (a6, .inl (ca 0, 98, .inl (fun _ => 0))), (a7, .inl (ca 0, 7, .inl (fun _ => 0))), (a8, .inl (ca 0, 32, .inl (fun _ => 0)))] H := hP
  have hD : va_D A [(h0, .inr (3, [.int 0, .int 0, .ref a1, .ref a2, .ref a3, .ref a4, .ref a5, .ref a6, .ref a7, .null])), (a1, .inl (ca 1, 200, .inl (fun _ => 0))), (a2, .inl (ca 0, 200, .inl (fun _ => 0))), (a3, .inl (ca 0, 14, .inl (fun _ => 0))), (a4, .inl (ca 0, 14, .inl (fun _ => 0))), (a5, .inl (ca 0, 14, .inl (fun _ => 0))), (a6, .inl (ca 0, 98, .inl (fun _ => 0))), (a7, .inl (ca 0, 7, .inl (fun _ => 0))), (a8, .inl (ca 0, 32, .inl (fun _ => 0)))] := hD
  refine kc_put (b := 3) (k := 9) (q0 := 0) (v := .ref a8) (ty := .array .int) X hnm hP hD hS rfl (by decide) (by decide) kw_f3_41 rfl (by decide +kernel) rfl rfl (Nat.le_of_ble_eq_true rfl) dX3_init_77 (fun H locs hP hD hS => ?_)
  have hP : va_P (dC, dI) q_cl [(h0, .inr (3, [.int 0, .int 0, .ref a1, .ref a2, .ref a3, .ref a4, .ref a5, .ref a6, .ref a7, .ref a8])), (a1, .inl (ca 1, 200, .inl (fun _ => 0))), (a2, .inl (ca 0, 200, .inl (fun _ => 0))), (a3, .inl (ca 0, 14, .inl (fun _ => 0))), (a4, .inl (ca 0, 14, .inl (fun _ => 0))), (a5, .inl (ca 0, 14, .inl (fun _ => 0))), (a6, .inl (ca 0, 98, .inl (fun _ => 0))), (a7, .inl (ca 0, 7, .inl (fun _ => 0))), (a8, .inl (ca 0, 32, .inl (fun _ => 0)))] H := hP
  have hD : va_D A [(h0, .inr (3, [.int 0, .int 0, .ref a1, .ref a2, .ref a3, .ref a4, .ref a5, .ref a6, .ref a7, .ref a8])), (a1, .inl (ca 1, 200, .inl (fun _ => 0))), (a2, .inl (ca 0, 200, .inl (fun _ => 0))), (a3, .inl (ca 0, 14, .inl (fun _ => 0))), (a4, .inl (ca 0, 14, .inl (fun _ => 0))), (a5, .inl (ca 0, 14, .inl (fun _ => 0))), (a6, .inl (ca 0, 98, .inl (fun _ => 0))), (a7, .inl (ca 0, 7, .inl (fun _ => 0))), (a8, .inl (ca 0, 32, .inl (fun _ => 0)))] := hD
  have hP9 := hP.sub (ws' := wX3 ca h0 (fun i => ([a1, a2, a3, a4, a5, a6, a7, a8] : List Nat).getD i 0)) [0, 1, 2, 3, 4, 5, 6, 7, 8] rfl
  have hD9 := hD.sub (ws' := wX3 ca h0 (fun i => ([a1, a2, a3, a4, a5, a6, a7, a8] : List Nat).getD i 0)) [0, 1, 2, 3, 4, 5, 6, 7, 8] (by decide) rfl
  exact kc_ret X hr hlocks (fun i => ([a1, a2, a3, a4, a5, a6, a7, a8] : List Nat).getD i 0) hP9 hD9 hS dX3_init_80
theorem dX4_init_0 : decode cX4_init 0 = .ok (.aload_n 0, 1) := by decide +kernel
theorem dX4_init_1 : decode cX4_init 1 = .ok (.invokespecial 3, 3) := by decide +kernel
theorem dX4_init_4 : decode cX4_init 4 = .ok (.aload_n 0, 1) := by decide +kernel
theorem dX4_init_5 : decode cX4_init 5 = .ok (.iconst 5, 1) := by decide +kernel
theorem dX4_init_6 : decode cX4_init 6 = .ok (.newarray .int, 2) := by decide +kernel
theorem dX4_init_8 : decode cX4_init 8 = .ok (.putfield 9, 3) := by decide +kernel
theorem dX4_init_11 : decode cX4_init 11 = .ok (.aload_n 0, 1) := by decide +kernel
theorem dX4_init_12 : decode cX4_init 12 = .ok (.iconst 5, 1) := by decide +kernel
theorem dX4_init_13 : decode cX4_init 13 = .ok (.newarray .int, 2) := by decide +kernel
theorem dX4_init_15 : decode cX4_init 15 = .ok (.putfield 15, 3) := by decide +kernel
theorem dX4_init_18 : decode cX4_init 18 = .ok (.aload_n 0, 1) := by decide +kernel
theorem dX4_init_19 : decode cX4_init 19 = .ok (.iconst 0, 1) := by decide +kernel
theorem dX4_init_20 : decode cX4_init 20 = .ok (.putfield 18, 3) := by decide +kernel
theorem dX4_init_23 : decode cX4_init 23 = .ok (.aload_n 0, 1) := by decide +kernel
theorem dX4_init_24 : decode cX4_init 24 = .ok (.aload_n 1, 1) := by decide +kernel
theorem dX4_init_25 : decode cX4_init 25 = .ok (.putfield 22, 3) := by decide +kernel
theorem dX4_init_28 : decode cX4_init 28 = .ok (.aload_n 0, 1) := by decide +kernel
theorem dX4_init_29 : decode cX4_init 29 = .ok (.aload_n 2, 1) := by decide +kernel
theorem dX4_init_30 : decode cX4_init 30 = .ok (.putfield 26, 3) := by decide +kernel
theorem dX4_init_33 : decode cX4_init 33 = .ok (.aload_n 0, 1) := by decide +kernel
theorem dX4_init_34 : decode cX4_init 34 = .ok (.aload_n 3, 1) := by decide +kernel
theorem dX4_init_35 : decode cX4_init 35 = .ok (.putfield 30, 3) := by decide +kernel
theorem dX4_init_38 : decode cX4_init 38 = .ok (.return_, 1) := by decide +kernel
theorem kw_f4_9 : Cond.fieldLink RX4 9 "BellHours$Orders" "row" "[I" ∈ gw := gw_of (q_tb_in (j := 2) (List.mem_of_getElem? (i := 6) (by decide +kernel))) rfl
theorem kw_f4_15 : Cond.fieldLink RX4 15 "BellHours$Orders" "best" "[I" ∈ gw := gw_of (q_tb_in (j := 2) (List.mem_of_getElem? (i := 7) (by decide +kernel))) rfl
theorem kw_f4_18 : Cond.fieldLink RX4 18 "BellHours$Orders" "most" "I" ∈ gw := gw_of (q_tb_in (j := 2) (List.mem_of_getElem? (i := 9) (by decide +kernel))) rfl
theorem kw_f4_22 : Cond.fieldLink RX4 22 "BellHours$Orders" "house" "LBellHours$House;" ∈ gw := gw_of (q_tb_in (j := 2) (List.mem_of_getElem? (i := 3) (by decide +kernel))) rfl
theorem kw_f4_26 : Cond.fieldLink RX4 26 "BellHours$Orders" "law" "LBellHours$Law;" ∈ gw := gw_of (q_tb_in (j := 2) (List.mem_of_getElem? (i := 4) (by decide +kernel))) rfl
theorem kw_f4_30 : Cond.fieldLink RX4 30 "BellHours$Orders" "scene" "LBellHours$Scene;" ∈ gw := gw_of (q_tb_in (j := 2) (List.mem_of_getElem? (i := 5) (by decide +kernel))) rfl
def wX4 (ca : Nat → ClassId) (r0 : Nat) (r1 : Nat) (r2 : Nat) (h0 : Nat) (q : Nat → Nat) : va_W := [(h0, .inr (4, [.ref r0, .ref r1, .ref r2, .ref (q 0), .ref (q 1), .int 0])), (q 0, .inl (ca 0, 5, .inl (fun _ => 0))), (q 1, .inl (ca 0, 5, .inl (fun _ => 0)))]
def rX4 : Room := { frames := 2, cells := 2, slots := 10, locals := 60 }
set_option maxHeartbeats 4000000 in
set_option maxRecDepth 100000 in
theorem kX4 (l : Launch) (dC : Nat → ClassId) (dI : Nat → Nat → Nat) (ca : Nat → ClassId) (r0 : Nat) (r1 : Nat) (r2 : Nat) : kMet l dC dI ca yX4_init cX4_init 4 rX4 (.inr (4, [.null, .null, .null, .null, .null, .int 0])) [.ref r0, .ref r1, .ref r2] (wX4 ca r0 r1 r2) 2 10 := by
  refine kc_start (by decide) (Nat.le_of_ble_eq_true rfl) ?_
  intro h0 p e s m args below meth c A ls X hnm hr hlocks hl hP hD hS
  have hx := X.1
  have hb := X.2.1
  have hl : lv_has ls 4 [(0, .ref h0), (1, .ref r0), (2, .ref r1), (3, .ref r2)] := hl
  refine lv_aload_n hx hb dX4_init_0 rfl (lv_at hl 0 rfl) ?_
  refine kc_obj X hl.1 kw_ob4 (Nat.le_of_ble_eq_true rfl) (Nat.le_of_ble_eq_true rfl) (Nat.le_of_ble_eq_true rfl) dX4_init_1 ?_
  refine lv_aload_n hx hb dX4_init_4 rfl (lv_at hl 0 rfl) ?_
  refine lv_iconst (v := 5) hx hb dX4_init_5 (by decide) ?_
  refine kc_newi X hP hD hS (N := 5) (by decide) (by decide) (Nat.le_of_ble_eq_true rfl) (Nat.le_of_ble_eq_true rfl) (Nat.le_of_ble_eq_true rfl) dX4_init_6 (fun a1 H hP hD hS => ?_)
  have hP : va_P (dC, dI) q_cl [(h0, .inr (4, [.null, .null, .null, .null, .null, .int 0])), (a1, .inl (ca 0, 5, .inl (fun _ => 0)))] H := hP
  have hD : va_D A [(h0, .inr (4, [.null, .null, .null, .null, .null, .int 0])), (a1, .inl (ca 0, 5, .inl (fun _ => 0)))] := hD
  refine kc_put (b := 4) (k := 3) (q0 := 0) (v := .ref a1) (ty := .array .int) X hnm hP hD hS rfl (by decide) (by decide) kw_f4_9 rfl (by decide +kernel) rfl rfl (Nat.le_of_ble_eq_true rfl) dX4_init_8 (fun H locs hP hD hS => ?_)
  have hP : va_P (dC, dI) q_cl [(h0, .inr (4, [.null, .null, .null, .ref a1, .null, .int 0])), (a1, .inl (ca 0, 5, .inl (fun _ => 0)))] H := hP
  have hD : va_D A [(h0, .inr (4, [.null, .null, .null, .ref a1, .null, .int 0])), (a1, .inl (ca 0, 5, .inl (fun _ => 0)))] := hD
  refine lv_aload_n hx hb dX4_init_11 rfl (lv_at hl 0 rfl) ?_
  refine lv_iconst (v := 5) hx hb dX4_init_12 (by decide) ?_
  refine kc_newi X hP hD hS (N := 5) (by decide) (by decide) (Nat.le_of_ble_eq_true rfl) (Nat.le_of_ble_eq_true rfl) (Nat.le_of_ble_eq_true rfl) dX4_init_13 (fun a2 H hP hD hS => ?_)
  have hP : va_P (dC, dI) q_cl [(h0, .inr (4, [.null, .null, .null, .ref a1, .null, .int 0])), (a1, .inl (ca 0, 5, .inl (fun _ => 0))), (a2, .inl (ca 0, 5, .inl (fun _ => 0)))] H := hP
  have hD : va_D A [(h0, .inr (4, [.null, .null, .null, .ref a1, .null, .int 0])), (a1, .inl (ca 0, 5, .inl (fun _ => 0))), (a2, .inl (ca 0, 5, .inl (fun _ => 0)))] := hD
  refine kc_put (b := 4) (k := 4) (q0 := 0) (v := .ref a2) (ty := .array .int) X hnm hP hD hS rfl (by decide) (by decide) kw_f4_15 rfl (by decide +kernel) rfl rfl (Nat.le_of_ble_eq_true rfl) dX4_init_15 (fun H locs hP hD hS => ?_)
  have hP : va_P (dC, dI) q_cl [(h0, .inr (4, [.null, .null, .null, .ref a1, .ref a2, .int 0])), (a1, .inl (ca 0, 5, .inl (fun _ => 0))), (a2, .inl (ca 0, 5, .inl (fun _ => 0)))] H := hP
  have hD : va_D A [(h0, .inr (4, [.null, .null, .null, .ref a1, .ref a2, .int 0])), (a1, .inl (ca 0, 5, .inl (fun _ => 0))), (a2, .inl (ca 0, 5, .inl (fun _ => 0)))] := hD
  refine lv_aload_n hx hb dX4_init_18 rfl (lv_at hl 0 rfl) ?_
  refine lv_iconst (v := 0) hx hb dX4_init_19 (by decide) ?_
  refine kc_put (b := 4) (k := 5) (q0 := 0) (v := .int 0) (ty := .int) X hnm hP hD hS rfl (by decide) (by decide) kw_f4_18 rfl (by decide +kernel) rfl rfl (Nat.le_of_ble_eq_true rfl) dX4_init_20 (fun H locs hP hD hS => ?_)
  have hP : va_P (dC, dI) q_cl [(h0, .inr (4, [.null, .null, .null, .ref a1, .ref a2, .int 0])), (a1, .inl (ca 0, 5, .inl (fun _ => 0))), (a2, .inl (ca 0, 5, .inl (fun _ => 0)))] H := hP
  have hD : va_D A [(h0, .inr (4, [.null, .null, .null, .ref a1, .ref a2, .int 0])), (a1, .inl (ca 0, 5, .inl (fun _ => 0))), (a2, .inl (ca 0, 5, .inl (fun _ => 0)))] := hD
  refine lv_aload_n hx hb dX4_init_23 rfl (lv_at hl 0 rfl) ?_
  refine lv_aload_n hx hb dX4_init_24 rfl (lv_at hl 1 rfl) ?_
  refine kc_put (b := 4) (k := 0) (q0 := 0) (v := .ref r0) (ty := .object "BellHours$House") X hnm hP hD hS rfl (by decide) (by decide) kw_f4_22 rfl (by decide +kernel) rfl rfl (Nat.le_of_ble_eq_true rfl) dX4_init_25 (fun H locs hP hD hS => ?_)
  have hP : va_P (dC, dI) q_cl [(h0, .inr (4, [.ref r0, .null, .null, .ref a1, .ref a2, .int 0])), (a1, .inl (ca 0, 5, .inl (fun _ => 0))), (a2, .inl (ca 0, 5, .inl (fun _ => 0)))] H := hP
  have hD : va_D A [(h0, .inr (4, [.ref r0, .null, .null, .ref a1, .ref a2, .int 0])), (a1, .inl (ca 0, 5, .inl (fun _ => 0))), (a2, .inl (ca 0, 5, .inl (fun _ => 0)))] := hD
  refine lv_aload_n hx hb dX4_init_28 rfl (lv_at hl 0 rfl) ?_
  refine lv_aload_n hx hb dX4_init_29 rfl (lv_at hl 2 rfl) ?_
  refine kc_put (b := 4) (k := 1) (q0 := 0) (v := .ref r1) (ty := .object "BellHours$Law") X hnm hP hD hS rfl (by decide) (by decide) kw_f4_26 rfl (by decide +kernel) rfl rfl (Nat.le_of_ble_eq_true rfl) dX4_init_30 (fun H locs hP hD hS => ?_)
  have hP : va_P (dC, dI) q_cl [(h0, .inr (4, [.ref r0, .ref r1, .null, .ref a1, .ref a2, .int 0])), (a1, .inl (ca 0, 5, .inl (fun _ => 0))), (a2, .inl (ca 0, 5, .inl (fun _ => 0)))] H := hP
  have hD : va_D A [(h0, .inr (4, [.ref r0, .ref r1, .null, .ref a1, .ref a2, .int 0])), (a1, .inl (ca 0, 5, .inl (fun _ => 0))), (a2, .inl (ca 0, 5, .inl (fun _ => 0)))] := hD
  refine lv_aload_n hx hb dX4_init_33 rfl (lv_at hl 0 rfl) ?_
  refine lv_aload_n hx hb dX4_init_34 rfl (lv_at hl 3 rfl) ?_
  refine kc_put (b := 4) (k := 2) (q0 := 0) (v := .ref r2) (ty := .object "BellHours$Scene") X hnm hP hD hS rfl (by decide) (by decide) kw_f4_30 rfl (by decide +kernel) rfl rfl (Nat.le_of_ble_eq_true rfl) dX4_init_35 (fun H locs hP hD hS => ?_)
  have hP : va_P (dC, dI) q_cl [(h0, .inr (4, [.ref r0, .ref r1, .ref r2, .ref a1, .ref a2, .int 0])), (a1, .inl (ca 0, 5, .inl (fun _ => 0))), (a2, .inl (ca 0, 5, .inl (fun _ => 0)))] H := hP
  have hD : va_D A [(h0, .inr (4, [.ref r0, .ref r1, .ref r2, .ref a1, .ref a2, .int 0])), (a1, .inl (ca 0, 5, .inl (fun _ => 0))), (a2, .inl (ca 0, 5, .inl (fun _ => 0)))] := hD
  have hP9 := hP.sub (ws' := wX4 ca r0 r1 r2 h0 (fun i => ([a1, a2] : List Nat).getD i 0)) [0, 1, 2] rfl
  have hD9 := hD.sub (ws' := wX4 ca r0 r1 r2 h0 (fun i => ([a1, a2] : List Nat).getD i 0)) [0, 1, 2] (by decide) rfl
  exact kc_ret X hr hlocks (fun i => ([a1, a2] : List Nat).getD i 0) hP9 hD9 hS dX4_init_38
theorem dX5_init_0 : decode cX5_init 0 = .ok (.aload_n 0, 1) := by decide +kernel
theorem dX5_init_1 : decode cX5_init 1 = .ok (.invokespecial 3, 3) := by decide +kernel
theorem dX5_init_4 : decode cX5_init 4 = .ok (.aload_n 0, 1) := by decide +kernel
theorem dX5_init_5 : decode cX5_init 5 = .ok (.iconst 0, 1) := by decide +kernel
theorem dX5_init_6 : decode cX5_init 6 = .ok (.putfield 9, 3) := by decide +kernel
theorem dX5_init_9 : decode cX5_init 9 = .ok (.aload_n 0, 1) := by decide +kernel
theorem dX5_init_10 : decode cX5_init 10 = .ok (.iconst 0, 1) := by decide +kernel
theorem dX5_init_11 : decode cX5_init 11 = .ok (.putfield 15, 3) := by decide +kernel
theorem dX5_init_14 : decode cX5_init 14 = .ok (.aload_n 0, 1) := by decide +kernel
theorem dX5_init_15 : decode cX5_init 15 = .ok (.iconst 0, 1) := by decide +kernel
theorem dX5_init_16 : decode cX5_init 16 = .ok (.putfield 18, 3) := by decide +kernel
theorem dX5_init_19 : decode cX5_init 19 = .ok (.aload_n 0, 1) := by decide +kernel
theorem dX5_init_20 : decode cX5_init 20 = .ok (.iconst 0, 1) := by decide +kernel
theorem dX5_init_21 : decode cX5_init 21 = .ok (.putfield 22, 3) := by decide +kernel
theorem dX5_init_24 : decode cX5_init 24 = .ok (.aload_n 0, 1) := by decide +kernel
theorem dX5_init_25 : decode cX5_init 25 = .ok (.aload_n 1, 1) := by decide +kernel
theorem dX5_init_26 : decode cX5_init 26 = .ok (.putfield 25, 3) := by decide +kernel
theorem dX5_init_29 : decode cX5_init 29 = .ok (.aload_n 0, 1) := by decide +kernel
theorem dX5_init_30 : decode cX5_init 30 = .ok (.aload_n 2, 1) := by decide +kernel
theorem dX5_init_31 : decode cX5_init 31 = .ok (.putfield 29, 3) := by decide +kernel
theorem dX5_init_34 : decode cX5_init 34 = .ok (.return_, 1) := by decide +kernel
theorem kw_f5_9 : Cond.fieldLink RX5 9 "BellHours$Reader" "size" "I" ∈ gw := gw_of (q_tb_in (j := 1) (List.mem_of_getElem? (i := 130) (by decide +kernel))) rfl
theorem kw_f5_15 : Cond.fieldLink RX5 15 "BellHours$Reader" "at" "I" ∈ gw := gw_of (q_tb_in (j := 1) (List.mem_of_getElem? (i := 131) (by decide +kernel))) rfl
theorem kw_f5_18 : Cond.fieldLink RX5 18 "BellHours$Reader" "sign" "C" ∈ gw := gw_of (q_tb_in (j := 1) (List.mem_of_getElem? (i := 132) (by decide +kernel))) rfl
theorem kw_f5_22 : Cond.fieldLink RX5 22 "BellHours$Reader" "fault" "I" ∈ gw := gw_of (q_tb_in (j := 1) (List.mem_of_getElem? (i := 133) (by decide +kernel))) rfl
theorem kw_f5_25 : Cond.fieldLink RX5 25 "BellHours$Reader" "text" "[I" ∈ gw := gw_of (q_tb_in (j := 1) (List.mem_of_getElem? (i := 128) (by decide +kernel))) rfl
theorem kw_f5_29 : Cond.fieldLink RX5 29 "BellHours$Reader" "law" "LBellHours$Law;" ∈ gw := gw_of (q_tb_in (j := 1) (List.mem_of_getElem? (i := 129) (by decide +kernel))) rfl
def wX5 (ca : Nat → ClassId) (r0 : Nat) (r1 : Nat) (h0 : Nat) (q : Nat → Nat) : va_W := [(h0, .inr (5, [.ref r0, .ref r1, .int 0, .int 0, .int 0, .int 0]))]
def rX5 : Room := { frames := 2, cells := 0, slots := 0, locals := 60 }
set_option maxHeartbeats 4000000 in
set_option maxRecDepth 100000 in
theorem kX5 (l : Launch) (dC : Nat → ClassId) (dI : Nat → Nat → Nat) (ca : Nat → ClassId) (r0 : Nat) (r1 : Nat) : kMet l dC dI ca yX5_init cX5_init 3 rX5 (.inr (5, [.null, .null, .int 0, .int 0, .int 0, .int 0])) [.ref r0, .ref r1] (wX5 ca r0 r1) 0 0 := by
  refine kc_start (by decide) (Nat.le_of_ble_eq_true rfl) ?_
  intro h0 p e s m args below meth c A ls X hnm hr hlocks hl hP hD hS
  have hx := X.1
  have hb := X.2.1
  have hl : lv_has ls 3 [(0, .ref h0), (1, .ref r0), (2, .ref r1)] := hl
  refine lv_aload_n hx hb dX5_init_0 rfl (lv_at hl 0 rfl) ?_
  refine kc_obj X hl.1 kw_ob5 (Nat.le_of_ble_eq_true rfl) (Nat.le_of_ble_eq_true rfl) (Nat.le_of_ble_eq_true rfl) dX5_init_1 ?_
  refine lv_aload_n hx hb dX5_init_4 rfl (lv_at hl 0 rfl) ?_
  refine lv_iconst (v := 0) hx hb dX5_init_5 (by decide) ?_
  refine kc_put (b := 5) (k := 2) (q0 := 0) (v := .int 0) (ty := .int) X hnm hP hD hS rfl (by decide) (by decide) kw_f5_9 rfl (by decide +kernel) rfl rfl (Nat.le_of_ble_eq_true rfl) dX5_init_6 (fun H locs hP hD hS => ?_)
  have hP : va_P (dC, dI) q_cl [(h0, .inr (5, [.null, .null, .int 0, .int 0, .int 0, .int 0]))] H := hP
  have hD : va_D A [(h0, .inr (5, [.null, .null, .int 0, .int 0, .int 0, .int 0]))] := hD
  refine lv_aload_n hx hb dX5_init_9 rfl (lv_at hl 0 rfl) ?_
  refine lv_iconst (v := 0) hx hb dX5_init_10 (by decide) ?_
  refine kc_put (b := 5) (k := 3) (q0 := 0) (v := .int 0) (ty := .int) X hnm hP hD hS rfl (by decide) (by decide) kw_f5_15 rfl (by decide +kernel) rfl rfl (Nat.le_of_ble_eq_true rfl) dX5_init_11 (fun H locs hP hD hS => ?_)
  have hP : va_P (dC, dI) q_cl [(h0, .inr (5, [.null, .null, .int 0, .int 0, .int 0, .int 0]))] H := hP
  have hD : va_D A [(h0, .inr (5, [.null, .null, .int 0, .int 0, .int 0, .int 0]))] := hD
  refine lv_aload_n hx hb dX5_init_14 rfl (lv_at hl 0 rfl) ?_
  refine lv_iconst (v := 0) hx hb dX5_init_15 (by decide) ?_
  refine kc_put (b := 5) (k := 4) (q0 := 0) (v := .int 0) (ty := .char) X hnm hP hD hS rfl (by decide) (by decide) kw_f5_18 rfl (by decide +kernel) rfl rfl (Nat.le_of_ble_eq_true rfl) dX5_init_16 (fun H locs hP hD hS => ?_)
  have hP : va_P (dC, dI) q_cl [(h0, .inr (5, [.null, .null, .int 0, .int 0, .int 0, .int 0]))] H := hP
  have hD : va_D A [(h0, .inr (5, [.null, .null, .int 0, .int 0, .int 0, .int 0]))] := hD
  refine lv_aload_n hx hb dX5_init_19 rfl (lv_at hl 0 rfl) ?_
  refine lv_iconst (v := 0) hx hb dX5_init_20 (by decide) ?_
  refine kc_put (b := 5) (k := 5) (q0 := 0) (v := .int 0) (ty := .int) X hnm hP hD hS rfl (by decide) (by decide) kw_f5_22 rfl (by decide +kernel) rfl rfl (Nat.le_of_ble_eq_true rfl) dX5_init_21 (fun H locs hP hD hS => ?_)
  have hP : va_P (dC, dI) q_cl [(h0, .inr (5, [.null, .null, .int 0, .int 0, .int 0, .int 0]))] H := hP
  have hD : va_D A [(h0, .inr (5, [.null, .null, .int 0, .int 0, .int 0, .int 0]))] := hD
  refine lv_aload_n hx hb dX5_init_24 rfl (lv_at hl 0 rfl) ?_
  refine lv_aload_n hx hb dX5_init_25 rfl (lv_at hl 1 rfl) ?_
  refine kc_put (b := 5) (k := 0) (q0 := 0) (v := .ref r0) (ty := .array .int) X hnm hP hD hS rfl (by decide) (by decide) kw_f5_25 rfl (by decide +kernel) rfl rfl (Nat.le_of_ble_eq_true rfl) dX5_init_26 (fun H locs hP hD hS => ?_)
  have hP : va_P (dC, dI) q_cl [(h0, .inr (5, [.ref r0, .null, .int 0, .int 0, .int 0, .int 0]))] H := hP
  have hD : va_D A [(h0, .inr (5, [.ref r0, .null, .int 0, .int 0, .int 0, .int 0]))] := hD
  refine lv_aload_n hx hb dX5_init_29 rfl (lv_at hl 0 rfl) ?_
  refine lv_aload_n hx hb dX5_init_30 rfl (lv_at hl 2 rfl) ?_
  refine kc_put (b := 5) (k := 1) (q0 := 0) (v := .ref r1) (ty := .object "BellHours$Law") X hnm hP hD hS rfl (by decide) (by decide) kw_f5_29 rfl (by decide +kernel) rfl rfl (Nat.le_of_ble_eq_true rfl) dX5_init_31 (fun H locs hP hD hS => ?_)
  have hP : va_P (dC, dI) q_cl [(h0, .inr (5, [.ref r0, .ref r1, .int 0, .int 0, .int 0, .int 0]))] H := hP
  have hD : va_D A [(h0, .inr (5, [.ref r0, .ref r1, .int 0, .int 0, .int 0, .int 0]))] := hD
  have hP9 := hP.sub (ws' := wX5 ca r0 r1 h0 (fun i => ([] : List Nat).getD i 0)) [0] rfl
  have hD9 := hD.sub (ws' := wX5 ca r0 r1 h0 (fun i => ([] : List Nat).getD i 0)) [0] (by decide) rfl
  exact kc_ret X hr hlocks (fun i => ([] : List Nat).getD i 0) hP9 hD9 hS dX5_init_34
theorem dX6_init_0 : decode cX6_init 0 = .ok (.aload_n 0, 1) := by decide +kernel
theorem dX6_init_1 : decode cX6_init 1 = .ok (.invokespecial 3, 3) := by decide +kernel
theorem dX6_init_4 : decode cX6_init 4 = .ok (.aload_n 0, 1) := by decide +kernel
theorem dX6_init_5 : decode cX6_init 5 = .ok (.bipush 24, 2) := by decide +kernel
theorem dX6_init_7 : decode cX6_init 7 = .ok (.newarray .int, 2) := by decide +kernel
theorem dX6_init_9 : decode cX6_init 9 = .ok (.putfield 9, 3) := by decide +kernel
theorem dX6_init_12 : decode cX6_init 12 = .ok (.aload_n 0, 1) := by decide +kernel
theorem dX6_init_13 : decode cX6_init 13 = .ok (.bipush 9, 2) := by decide +kernel
theorem dX6_init_15 : decode cX6_init 15 = .ok (.newarray .int, 2) := by decide +kernel
theorem dX6_init_17 : decode cX6_init 17 = .ok (.putfield 15, 3) := by decide +kernel
theorem dX6_init_20 : decode cX6_init 20 = .ok (.return_, 1) := by decide +kernel
theorem kw_f6_9 : Cond.fieldLink RX6 9 "BellHours$Scene" "cells" "[I" ∈ gw := gw_of (q_tb_in (j := 1) (List.mem_of_getElem? (i := 153) (by decide +kernel))) rfl
theorem kw_f6_15 : Cond.fieldLink RX6 15 "BellHours$Scene" "seen" "[I" ∈ gw := gw_of (q_tb_in (j := 1) (List.mem_of_getElem? (i := 155) (by decide +kernel))) rfl
def wX6 (ca : Nat → ClassId) (h0 : Nat) (q : Nat → Nat) : va_W := [(h0, .inr (6, [.ref (q 0), .ref (q 1)])), (q 0, .inl (ca 0, 24, .inl (fun _ => 0))), (q 1, .inl (ca 0, 9, .inl (fun _ => 0)))]
def rX6 : Room := { frames := 2, cells := 2, slots := 33, locals := 60 }
set_option maxHeartbeats 4000000 in
set_option maxRecDepth 100000 in
theorem kX6 (l : Launch) (dC : Nat → ClassId) (dI : Nat → Nat → Nat) (ca : Nat → ClassId) : kMet l dC dI ca yX6_init cX6_init 1 rX6 (.inr (6, [.null, .null])) [] (wX6 ca) 2 33 := by
  refine kc_start (by decide) (Nat.le_of_ble_eq_true rfl) ?_
  intro h0 p e s m args below meth c A ls X hnm hr hlocks hl hP hD hS
  have hx := X.1
  have hb := X.2.1
  have hl : lv_has ls 1 [(0, .ref h0)] := hl
  refine lv_aload_n hx hb dX6_init_0 rfl (lv_at hl 0 rfl) ?_
  refine kc_obj X hl.1 kw_ob6 (Nat.le_of_ble_eq_true rfl) (Nat.le_of_ble_eq_true rfl) (Nat.le_of_ble_eq_true rfl) dX6_init_1 ?_
  refine lv_aload_n hx hb dX6_init_4 rfl (lv_at hl 0 rfl) ?_
  refine lv_bipush (v := 24) hx hb dX6_init_5 (by decide) ?_
  refine kc_newi X hP hD hS (N := 24) (by decide) (by decide) (Nat.le_of_ble_eq_true rfl) (Nat.le_of_ble_eq_true rfl) (Nat.le_of_ble_eq_true rfl) dX6_init_7 (fun a1 H hP hD hS => ?_)
  have hP : va_P (dC, dI) q_cl [(h0, .inr (6, [.null, .null])), (a1, .inl (ca 0, 24, .inl (fun _ => 0)))] H := hP
  have hD : va_D A [(h0, .inr (6, [.null, .null])), (a1, .inl (ca 0, 24, .inl (fun _ => 0)))] := hD
  refine kc_put (b := 6) (k := 0) (q0 := 0) (v := .ref a1) (ty := .array .int) X hnm hP hD hS rfl (by decide) (by decide) kw_f6_9 rfl (by decide +kernel) rfl rfl (Nat.le_of_ble_eq_true rfl) dX6_init_9 (fun H locs hP hD hS => ?_)
  have hP : va_P (dC, dI) q_cl [(h0, .inr (6, [.ref a1, .null])), (a1, .inl (ca 0, 24, .inl (fun _ => 0)))] H := hP
  have hD : va_D A [(h0, .inr (6, [.ref a1, .null])), (a1, .inl (ca 0, 24, .inl (fun _ => 0)))] := hD
  refine lv_aload_n hx hb dX6_init_12 rfl (lv_at hl 0 rfl) ?_
  refine lv_bipush (v := 9) hx hb dX6_init_13 (by decide) ?_
  refine kc_newi X hP hD hS (N := 9) (by decide) (by decide) (Nat.le_of_ble_eq_true rfl) (Nat.le_of_ble_eq_true rfl) (Nat.le_of_ble_eq_true rfl) dX6_init_15 (fun a2 H hP hD hS => ?_)
  have hP : va_P (dC, dI) q_cl [(h0, .inr (6, [.ref a1, .null])), (a1, .inl (ca 0, 24, .inl (fun _ => 0))), (a2, .inl (ca 0, 9, .inl (fun _ => 0)))] H := hP
  have hD : va_D A [(h0, .inr (6, [.ref a1, .null])), (a1, .inl (ca 0, 24, .inl (fun _ => 0))), (a2, .inl (ca 0, 9, .inl (fun _ => 0)))] := hD
  refine kc_put (b := 6) (k := 1) (q0 := 0) (v := .ref a2) (ty := .array .int) X hnm hP hD hS rfl (by decide) (by decide) kw_f6_15 rfl (by decide +kernel) rfl rfl (Nat.le_of_ble_eq_true rfl) dX6_init_17 (fun H locs hP hD hS => ?_)
  have hP : va_P (dC, dI) q_cl [(h0, .inr (6, [.ref a1, .ref a2])), (a1, .inl (ca 0, 24, .inl (fun _ => 0))), (a2, .inl (ca 0, 9, .inl (fun _ => 0)))] H := hP
  have hD : va_D A [(h0, .inr (6, [.ref a1, .ref a2])), (a1, .inl (ca 0, 24, .inl (fun _ => 0))), (a2, .inl (ca 0, 9, .inl (fun _ => 0)))] := hD
  have hP9 := hP.sub (ws' := wX6 ca h0 (fun i => ([a1, a2] : List Nat).getD i 0)) [0, 1, 2] rfl
  have hD9 := hD.sub (ws' := wX6 ca h0 (fun i => ([a1, a2] : List Nat).getD i 0)) [0, 1, 2] (by decide) rfl
  exact kc_ret X hr hlocks (fun i => ([a1, a2] : List Nat).getD i 0) hP9 hD9 hS dX6_init_20
theorem dX7_init_0 : decode cX7_init 0 = .ok (.aload_n 0, 1) := by decide +kernel
theorem dX7_init_1 : decode cX7_init 1 = .ok (.invokespecial 3, 3) := by decide +kernel
theorem dX7_init_4 : decode cX7_init 4 = .ok (.aload_n 0, 1) := by decide +kernel
theorem dX7_init_5 : decode cX7_init 5 = .ok (.sipush 220, 3) := by decide +kernel
theorem dX7_init_8 : decode cX7_init 8 = .ok (.newarray .int, 2) := by decide +kernel
theorem dX7_init_10 : decode cX7_init 10 = .ok (.putfield 9, 3) := by decide +kernel
theorem dX7_init_13 : decode cX7_init 13 = .ok (.aload_n 0, 1) := by decide +kernel
theorem dX7_init_14 : decode cX7_init 14 = .ok (.iconst 0, 1) := by decide +kernel
theorem dX7_init_15 : decode cX7_init 15 = .ok (.putfield 15, 3) := by decide +kernel
theorem dX7_init_18 : decode cX7_init 18 = .ok (.return_, 1) := by decide +kernel
theorem kw_f7_9 : Cond.fieldLink RX7 9 "BellHours$Tape" "bytes" "[I" ∈ gw := gw_of (q_tb_in (j := 1) (List.mem_of_getElem? (i := 72) (by decide +kernel))) rfl
theorem kw_f7_15 : Cond.fieldLink RX7 15 "BellHours$Tape" "size" "I" ∈ gw := gw_of (q_tb_in (j := 1) (List.mem_of_getElem? (i := 74) (by decide +kernel))) rfl
def wX7 (ca : Nat → ClassId) (h0 : Nat) (q : Nat → Nat) : va_W := [(h0, .inr (7, [.ref (q 0), .int 0])), (q 0, .inl (ca 0, 220, .inl (fun _ => 0)))]
def rX7 : Room := { frames := 2, cells := 1, slots := 220, locals := 60 }
set_option maxHeartbeats 4000000 in
set_option maxRecDepth 100000 in
theorem kX7 (l : Launch) (dC : Nat → ClassId) (dI : Nat → Nat → Nat) (ca : Nat → ClassId) : kMet l dC dI ca yX7_init cX7_init 1 rX7 (.inr (7, [.null, .int 0])) [] (wX7 ca) 1 220 := by
  refine kc_start (by decide) (Nat.le_of_ble_eq_true rfl) ?_
  intro h0 p e s m args below meth c A ls X hnm hr hlocks hl hP hD hS
  have hx := X.1
  have hb := X.2.1
  have hl : lv_has ls 1 [(0, .ref h0)] := hl
  refine lv_aload_n hx hb dX7_init_0 rfl (lv_at hl 0 rfl) ?_
  refine kc_obj X hl.1 kw_ob7 (Nat.le_of_ble_eq_true rfl) (Nat.le_of_ble_eq_true rfl) (Nat.le_of_ble_eq_true rfl) dX7_init_1 ?_
  refine lv_aload_n hx hb dX7_init_4 rfl (lv_at hl 0 rfl) ?_
  refine lv_sipush (v := 220) hx hb dX7_init_5 (by decide) ?_
  refine kc_newi X hP hD hS (N := 220) (by decide) (by decide) (Nat.le_of_ble_eq_true rfl) (Nat.le_of_ble_eq_true rfl) (Nat.le_of_ble_eq_true rfl) dX7_init_8 (fun a1 H hP hD hS => ?_)
  have hP : va_P (dC, dI) q_cl [(h0, .inr (7, [.null, .int 0])), (a1, .inl (ca 0, 220, .inl (fun _ => 0)))] H := hP
  have hD : va_D A [(h0, .inr (7, [.null, .int 0])), (a1, .inl (ca 0, 220, .inl (fun _ => 0)))] := hD
  refine kc_put (b := 7) (k := 0) (q0 := 0) (v := .ref a1) (ty := .array .int) X hnm hP hD hS rfl (by decide) (by decide) kw_f7_9 rfl (by decide +kernel) rfl rfl (Nat.le_of_ble_eq_true rfl) dX7_init_10 (fun H locs hP hD hS => ?_)
  have hP : va_P (dC, dI) q_cl [(h0, .inr (7, [.ref a1, .int 0])), (a1, .inl (ca 0, 220, .inl (fun _ => 0)))] H := hP
  have hD : va_D A [(h0, .inr (7, [.ref a1, .int 0])), (a1, .inl (ca 0, 220, .inl (fun _ => 0)))] := hD
  refine lv_aload_n hx hb dX7_init_13 rfl (lv_at hl 0 rfl) ?_
  refine lv_iconst (v := 0) hx hb dX7_init_14 (by decide) ?_
  refine kc_put (b := 7) (k := 1) (q0 := 0) (v := .int 0) (ty := .int) X hnm hP hD hS rfl (by decide) (by decide) kw_f7_15 rfl (by decide +kernel) rfl rfl (Nat.le_of_ble_eq_true rfl) dX7_init_15 (fun H locs hP hD hS => ?_)
  have hP : va_P (dC, dI) q_cl [(h0, .inr (7, [.ref a1, .int 0])), (a1, .inl (ca 0, 220, .inl (fun _ => 0)))] H := hP
  have hD : va_D A [(h0, .inr (7, [.ref a1, .int 0])), (a1, .inl (ca 0, 220, .inl (fun _ => 0)))] := hD
  have hP9 := hP.sub (ws' := wX7 ca h0 (fun i => ([a1] : List Nat).getD i 0)) [0, 1] rfl
  have hD9 := hD.sub (ws' := wX7 ca h0 (fun i => ([a1] : List Nat).getD i 0)) [0, 1] (by decide) rfl
  exact kc_ret X hr hlocks (fun i => ([a1] : List Nat).getD i 0) hP9 hD9 hS dX7_init_18
theorem dX8_init_0 : decode cX8_init 0 = .ok (.aload_n 0, 1) := by decide +kernel
theorem dX8_init_1 : decode cX8_init 1 = .ok (.invokespecial 3, 3) := by decide +kernel
theorem dX8_init_4 : decode cX8_init 4 = .ok (.aload_n 0, 1) := by decide +kernel
theorem dX8_init_5 : decode cX8_init 5 = .ok (.iconst 0, 1) := by decide +kernel
theorem dX8_init_6 : decode cX8_init 6 = .ok (.putfield 9, 3) := by decide +kernel
theorem dX8_init_9 : decode cX8_init 9 = .ok (.aload_n 0, 1) := by decide +kernel
theorem dX8_init_10 : decode cX8_init 10 = .ok (.iconst (-1), 1) := by decide +kernel
theorem dX8_init_11 : decode cX8_init 11 = .ok (.putfield 15, 3) := by decide +kernel
theorem dX8_init_14 : decode cX8_init 14 = .ok (.aload_n 0, 1) := by decide +kernel
theorem dX8_init_15 : decode cX8_init 15 = .ok (.iconst (-1), 1) := by decide +kernel
theorem dX8_init_16 : decode cX8_init 16 = .ok (.putfield 19, 3) := by decide +kernel
theorem dX8_init_19 : decode cX8_init 19 = .ok (.aload_n 0, 1) := by decide +kernel
theorem dX8_init_20 : decode cX8_init 20 = .ok (.iconst 0, 1) := by decide +kernel
theorem dX8_init_21 : decode cX8_init 21 = .ok (.putfield 22, 3) := by decide +kernel
theorem dX8_init_24 : decode cX8_init 24 = .ok (.aload_n 0, 1) := by decide +kernel
theorem dX8_init_25 : decode cX8_init 25 = .ok (.aload_n 1, 1) := by decide +kernel
theorem dX8_init_26 : decode cX8_init 26 = .ok (.putfield 25, 3) := by decide +kernel
theorem dX8_init_29 : decode cX8_init 29 = .ok (.aload_n 0, 1) := by decide +kernel
theorem dX8_init_30 : decode cX8_init 30 = .ok (.aload_n 2, 1) := by decide +kernel
theorem dX8_init_31 : decode cX8_init 31 = .ok (.putfield 29, 3) := by decide +kernel
theorem dX8_init_34 : decode cX8_init 34 = .ok (.aload_n 0, 1) := by decide +kernel
theorem dX8_init_35 : decode cX8_init 35 = .ok (.aload_n 3, 1) := by decide +kernel
theorem dX8_init_36 : decode cX8_init 36 = .ok (.putfield 32, 3) := by decide +kernel
theorem dX8_init_39 : decode cX8_init 39 = .ok (.return_, 1) := by decide +kernel
theorem kw_f8_9 : Cond.fieldLink RX8 9 "BellHours$Trade" "stands" "Z" ∈ gw := gw_of (q_tb_in (j := 1) (List.mem_of_getElem? (i := 214) (by decide +kernel))) rfl
theorem kw_f8_15 : Cond.fieldLink RX8 15 "BellHours$Trade" "one" "I" ∈ gw := gw_of (q_tb_in (j := 1) (List.mem_of_getElem? (i := 216) (by decide +kernel))) rfl
theorem kw_f8_19 : Cond.fieldLink RX8 19 "BellHours$Trade" "other" "I" ∈ gw := gw_of (q_tb_in (j := 1) (List.mem_of_getElem? (i := 218) (by decide +kernel))) rfl
theorem kw_f8_22 : Cond.fieldLink RX8 22 "BellHours$Trade" "together" "I" ∈ gw := gw_of (q_tb_in (j := 1) (List.mem_of_getElem? (i := 220) (by decide +kernel))) rfl
theorem kw_f8_25 : Cond.fieldLink RX8 25 "BellHours$Trade" "day" "LBellHours$Day;" ∈ gw := gw_of (q_tb_in (j := 1) (List.mem_of_getElem? (i := 211) (by decide +kernel))) rfl
theorem kw_f8_29 : Cond.fieldLink RX8 29 "BellHours$Trade" "trial" "LBellHours$Day;" ∈ gw := gw_of (q_tb_in (j := 1) (List.mem_of_getElem? (i := 212) (by decide +kernel))) rfl
theorem kw_f8_32 : Cond.fieldLink RX8 32 "BellHours$Trade" "law" "LBellHours$Law;" ∈ gw := gw_of (q_tb_in (j := 1) (List.mem_of_getElem? (i := 213) (by decide +kernel))) rfl
def wX8 (ca : Nat → ClassId) (r0 : Nat) (r1 : Nat) (r2 : Nat) (h0 : Nat) (q : Nat → Nat) : va_W := [(h0, .inr (8, [.ref r0, .ref r1, .ref r2, .int 0, .int (-1), .int (-1), .int 0]))]
def rX8 : Room := { frames := 2, cells := 0, slots := 0, locals := 60 }
set_option maxHeartbeats 4000000 in
set_option maxRecDepth 100000 in
theorem kX8 (l : Launch) (dC : Nat → ClassId) (dI : Nat → Nat → Nat) (ca : Nat → ClassId) (r0 : Nat) (r1 : Nat) (r2 : Nat) : kMet l dC dI ca yX8_init cX8_init 4 rX8 (.inr (8, [.null, .null, .null, .int 0, .int 0, .int 0, .int 0])) [.ref r0, .ref r1, .ref r2] (wX8 ca r0 r1 r2) 0 0 := by
  refine kc_start (by decide) (Nat.le_of_ble_eq_true rfl) ?_
  intro h0 p e s m args below meth c A ls X hnm hr hlocks hl hP hD hS
  have hx := X.1
  have hb := X.2.1
  have hl : lv_has ls 4 [(0, .ref h0), (1, .ref r0), (2, .ref r1), (3, .ref r2)] := hl
  refine lv_aload_n hx hb dX8_init_0 rfl (lv_at hl 0 rfl) ?_
  refine kc_obj X hl.1 kw_ob8 (Nat.le_of_ble_eq_true rfl) (Nat.le_of_ble_eq_true rfl) (Nat.le_of_ble_eq_true rfl) dX8_init_1 ?_
  refine lv_aload_n hx hb dX8_init_4 rfl (lv_at hl 0 rfl) ?_
  refine lv_iconst (v := 0) hx hb dX8_init_5 (by decide) ?_
  refine kc_put (b := 8) (k := 3) (q0 := 0) (v := .int 0) (ty := .boolean) X hnm hP hD hS rfl (by decide) (by decide) kw_f8_9 rfl (by decide +kernel) rfl rfl (Nat.le_of_ble_eq_true rfl) dX8_init_6 (fun H locs hP hD hS => ?_)
  have hP : va_P (dC, dI) q_cl [(h0, .inr (8, [.null, .null, .null, .int 0, .int 0, .int 0, .int 0]))] H := hP
  have hD : va_D A [(h0, .inr (8, [.null, .null, .null, .int 0, .int 0, .int 0, .int 0]))] := hD
  refine lv_aload_n hx hb dX8_init_9 rfl (lv_at hl 0 rfl) ?_
  refine lv_iconst (v := (-1)) hx hb dX8_init_10 (by decide) ?_
  refine kc_put (b := 8) (k := 4) (q0 := 0) (v := .int (-1)) (ty := .int) X hnm hP hD hS rfl (by decide) (by decide) kw_f8_15 rfl (by decide +kernel) rfl rfl (Nat.le_of_ble_eq_true rfl) dX8_init_11 (fun H locs hP hD hS => ?_)
  have hP : va_P (dC, dI) q_cl [(h0, .inr (8, [.null, .null, .null, .int 0, .int (-1), .int 0, .int 0]))] H := hP
  have hD : va_D A [(h0, .inr (8, [.null, .null, .null, .int 0, .int (-1), .int 0, .int 0]))] := hD
  refine lv_aload_n hx hb dX8_init_14 rfl (lv_at hl 0 rfl) ?_
  refine lv_iconst (v := (-1)) hx hb dX8_init_15 (by decide) ?_
  refine kc_put (b := 8) (k := 5) (q0 := 0) (v := .int (-1)) (ty := .int) X hnm hP hD hS rfl (by decide) (by decide) kw_f8_19 rfl (by decide +kernel) rfl rfl (Nat.le_of_ble_eq_true rfl) dX8_init_16 (fun H locs hP hD hS => ?_)
  have hP : va_P (dC, dI) q_cl [(h0, .inr (8, [.null, .null, .null, .int 0, .int (-1), .int (-1), .int 0]))] H := hP
  have hD : va_D A [(h0, .inr (8, [.null, .null, .null, .int 0, .int (-1), .int (-1), .int 0]))] := hD
  refine lv_aload_n hx hb dX8_init_19 rfl (lv_at hl 0 rfl) ?_
  refine lv_iconst (v := 0) hx hb dX8_init_20 (by decide) ?_
  refine kc_put (b := 8) (k := 6) (q0 := 0) (v := .int 0) (ty := .int) X hnm hP hD hS rfl (by decide) (by decide) kw_f8_22 rfl (by decide +kernel) rfl rfl (Nat.le_of_ble_eq_true rfl) dX8_init_21 (fun H locs hP hD hS => ?_)
  have hP : va_P (dC, dI) q_cl [(h0, .inr (8, [.null, .null, .null, .int 0, .int (-1), .int (-1), .int 0]))] H := hP
  have hD : va_D A [(h0, .inr (8, [.null, .null, .null, .int 0, .int (-1), .int (-1), .int 0]))] := hD
  refine lv_aload_n hx hb dX8_init_24 rfl (lv_at hl 0 rfl) ?_
  refine lv_aload_n hx hb dX8_init_25 rfl (lv_at hl 1 rfl) ?_
  refine kc_put (b := 8) (k := 0) (q0 := 0) (v := .ref r0) (ty := .object "BellHours$Day") X hnm hP hD hS rfl (by decide) (by decide) kw_f8_25 rfl (by decide +kernel) rfl rfl (Nat.le_of_ble_eq_true rfl) dX8_init_26 (fun H locs hP hD hS => ?_)
  have hP : va_P (dC, dI) q_cl [(h0, .inr (8, [.ref r0, .null, .null, .int 0, .int (-1), .int (-1), .int 0]))] H := hP
  have hD : va_D A [(h0, .inr (8, [.ref r0, .null, .null, .int 0, .int (-1), .int (-1), .int 0]))] := hD
  refine lv_aload_n hx hb dX8_init_29 rfl (lv_at hl 0 rfl) ?_
  refine lv_aload_n hx hb dX8_init_30 rfl (lv_at hl 2 rfl) ?_
  refine kc_put (b := 8) (k := 1) (q0 := 0) (v := .ref r1) (ty := .object "BellHours$Day") X hnm hP hD hS rfl (by decide) (by decide) kw_f8_29 rfl (by decide +kernel) rfl rfl (Nat.le_of_ble_eq_true rfl) dX8_init_31 (fun H locs hP hD hS => ?_)
  have hP : va_P (dC, dI) q_cl [(h0, .inr (8, [.ref r0, .ref r1, .null, .int 0, .int (-1), .int (-1), .int 0]))] H := hP
  have hD : va_D A [(h0, .inr (8, [.ref r0, .ref r1, .null, .int 0, .int (-1), .int (-1), .int 0]))] := hD
  refine lv_aload_n hx hb dX8_init_34 rfl (lv_at hl 0 rfl) ?_
  refine lv_aload_n hx hb dX8_init_35 rfl (lv_at hl 3 rfl) ?_
  refine kc_put (b := 8) (k := 2) (q0 := 0) (v := .ref r2) (ty := .object "BellHours$Law") X hnm hP hD hS rfl (by decide) (by decide) kw_f8_32 rfl (by decide +kernel) rfl rfl (Nat.le_of_ble_eq_true rfl) dX8_init_36 (fun H locs hP hD hS => ?_)
  have hP : va_P (dC, dI) q_cl [(h0, .inr (8, [.ref r0, .ref r1, .ref r2, .int 0, .int (-1), .int (-1), .int 0]))] H := hP
  have hD : va_D A [(h0, .inr (8, [.ref r0, .ref r1, .ref r2, .int 0, .int (-1), .int (-1), .int 0]))] := hD
  have hP9 := hP.sub (ws' := wX8 ca r0 r1 r2 h0 (fun i => ([] : List Nat).getD i 0)) [0] rfl
  have hD9 := hD.sub (ws' := wX8 ca r0 r1 r2 h0 (fun i => ([] : List Nat).getD i 0)) [0] (by decide) rfl
  exact kc_ret X hr hlocks (fun i => ([] : List Nat).getD i 0) hP9 hD9 hS dX8_init_39
theorem dX9_init_0 : decode cX9_init 0 = .ok (.aload_n 0, 1) := by decide +kernel
theorem dX9_init_1 : decode cX9_init 1 = .ok (.invokespecial 3, 3) := by decide +kernel
theorem dX9_init_4 : decode cX9_init 4 = .ok (.aload_n 0, 1) := by decide +kernel
theorem dX9_init_5 : decode cX9_init 5 = .ok (.aload_n 1, 1) := by decide +kernel
theorem dX9_init_6 : decode cX9_init 6 = .ok (.putfield 9, 3) := by decide +kernel
theorem dX9_init_9 : decode cX9_init 9 = .ok (.aload_n 0, 1) := by decide +kernel
theorem dX9_init_10 : decode cX9_init 10 = .ok (.aload_n 2, 1) := by decide +kernel
theorem dX9_init_11 : decode cX9_init 11 = .ok (.putfield 15, 3) := by decide +kernel
theorem dX9_init_14 : decode cX9_init 14 = .ok (.return_, 1) := by decide +kernel
theorem kw_f9_9 : Cond.fieldLink RX9 9 "BellHours$Vase" "owners" "[I" ∈ gw := gw_of (q_tb_in (j := 2) (List.mem_of_getElem? (i := 54) (by decide +kernel))) rfl
theorem kw_f9_15 : Cond.fieldLink RX9 15 "BellHours$Vase" "words" "[I" ∈ gw := gw_of (q_tb_in (j := 2) (List.mem_of_getElem? (i := 55) (by decide +kernel))) rfl
def wX9 (ca : Nat → ClassId) (r0 : Nat) (r1 : Nat) (h0 : Nat) (q : Nat → Nat) : va_W := [(h0, .inr (9, [.ref r0, .ref r1]))]
def rX9 : Room := { frames := 2, cells := 0, slots := 0, locals := 60 }
set_option maxHeartbeats 4000000 in
set_option maxRecDepth 100000 in
theorem kX9 (l : Launch) (dC : Nat → ClassId) (dI : Nat → Nat → Nat) (ca : Nat → ClassId) (r0 : Nat) (r1 : Nat) : kMet l dC dI ca yX9_init cX9_init 3 rX9 (.inr (9, [.null, .null])) [.ref r0, .ref r1] (wX9 ca r0 r1) 0 0 := by
  refine kc_start (by decide) (Nat.le_of_ble_eq_true rfl) ?_
  intro h0 p e s m args below meth c A ls X hnm hr hlocks hl hP hD hS
  have hx := X.1
  have hb := X.2.1
  have hl : lv_has ls 3 [(0, .ref h0), (1, .ref r0), (2, .ref r1)] := hl
  refine lv_aload_n hx hb dX9_init_0 rfl (lv_at hl 0 rfl) ?_
  refine kc_obj X hl.1 kw_ob9 (Nat.le_of_ble_eq_true rfl) (Nat.le_of_ble_eq_true rfl) (Nat.le_of_ble_eq_true rfl) dX9_init_1 ?_
  refine lv_aload_n hx hb dX9_init_4 rfl (lv_at hl 0 rfl) ?_
  refine lv_aload_n hx hb dX9_init_5 rfl (lv_at hl 1 rfl) ?_
  refine kc_put (b := 9) (k := 0) (q0 := 0) (v := .ref r0) (ty := .array .int) X hnm hP hD hS rfl (by decide) (by decide) kw_f9_9 rfl (by decide +kernel) rfl rfl (Nat.le_of_ble_eq_true rfl) dX9_init_6 (fun H locs hP hD hS => ?_)
  have hP : va_P (dC, dI) q_cl [(h0, .inr (9, [.ref r0, .null]))] H := hP
  have hD : va_D A [(h0, .inr (9, [.ref r0, .null]))] := hD
  refine lv_aload_n hx hb dX9_init_9 rfl (lv_at hl 0 rfl) ?_
  refine lv_aload_n hx hb dX9_init_10 rfl (lv_at hl 2 rfl) ?_
  refine kc_put (b := 9) (k := 1) (q0 := 0) (v := .ref r1) (ty := .array .int) X hnm hP hD hS rfl (by decide) (by decide) kw_f9_15 rfl (by decide +kernel) rfl rfl (Nat.le_of_ble_eq_true rfl) dX9_init_11 (fun H locs hP hD hS => ?_)
  have hP : va_P (dC, dI) q_cl [(h0, .inr (9, [.ref r0, .ref r1]))] H := hP
  have hD : va_D A [(h0, .inr (9, [.ref r0, .ref r1]))] := hD
  have hP9 := hP.sub (ws' := wX9 ca r0 r1 h0 (fun i => ([] : List Nat).getD i 0)) [0] rfl
  have hD9 := hD.sub (ws' := wX9 ca r0 r1 h0 (fun i => ([] : List Nat).getD i 0)) [0] (by decide) rfl
  exact kc_ret X hr hlocks (fun i => ([] : List Nat).getD i 0) hP9 hD9 hS dX9_init_14
