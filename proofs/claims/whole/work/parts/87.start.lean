/-! the law begins: what the tables and the premises give -/
theorem ws_l : Cond.laysStatic "BellHours$Law" "LEAST" "[I" ∈ lw_tbl := q_tb_in (j := 3) (List.mem_of_getElem? (i := 154) (by decide +kernel))
theorem ws_m : Cond.laysStatic "BellHours$Law" "MOST" "[I" ∈ lw_tbl := q_tb_in (j := 3) (List.mem_of_getElem? (i := 156) (by decide +kernel))
theorem ws_c : Cond.laysStatic "java/lang/String" "COMPACT_STRINGS" "Z" ∈ lw_tbl := q_tb_in (j := 2) (List.mem_of_getElem? (i := 183) (by decide +kernel))
theorem ws_is : Cond.initialized "java/lang/String" ∈ lw_tbl := q_tb_in (j := 1) (List.mem_of_getElem? (i := 15) (by decide +kernel))
theorem ws_il : Cond.initialized "BellHours$Law" ∈ lw_tbl := q_tb_in (j := 1) (List.mem_of_getElem? (i := 5) (by decide +kernel))
theorem ws_s1 : Cond.stringRef "BellHours$Reader" 47 "nsdhwfc" ∈ lw_tbl := q_tb_in (j := 2) (List.mem_of_getElem? (i := 169) (by decide +kernel))
theorem ws_s2 : Cond.stringRef "BellHours$Reader" 111 "karsdhtop" ∈ lw_tbl := q_tb_in (j := 3) (List.mem_of_getElem? (i := 50) (by decide +kernel))
theorem ws_n43 : q_nw (10, 43, 7, 0) ∈ lw_tbl := q_tb_in (j := 1) (List.mem_of_getElem? (i := 73) (by decide +kernel))
theorem ws_n25 : Cond.methodLinkNest RX10 25 yX7_init "BellHours" ∈ lw_tbl := q_tb_in (j := 1) (List.mem_of_getElem? (i := 68) (by decide +kernel))
theorem ws_n32 : Cond.methodLinkNest RX10 32 yX3_init "BellHours" ∈ lw_tbl := q_tb_in (j := 1) (List.mem_of_getElem? (i := 84) (by decide +kernel))
theorem ws_n62 : Cond.methodLinkNest RX10 62 yX6_init "BellHours" ∈ lw_tbl := q_tb_in (j := 1) (List.mem_of_getElem? (i := 149) (by decide +kernel))
theorem ws_c7 : Cond.classLink R_law 7 (q_T 10).1 ∈ gw := gw_of (q_tb_in (j := 1) (List.mem_of_getElem? (i := 22) (by decide +kernel))) rfl
theorem ws_c10 : Cond.classLink R_law 10 (q_T 11).1 ∈ gw := gw_of (q_tb_in (j := 4) (List.mem_of_getElem? (i := 200) (by decide +kernel))) rfl
theorem ws_m9 : Cond.methodLink R_law 9 yX10_init ∈ gw := gw_of (q_tb_in (j := 1) (List.mem_of_getElem? (i := 24) (by decide +kernel))) rfl
theorem ws_m12 : Cond.methodLink R_law 12 yX11_init ∈ gw := gw_of (q_tb_in (j := 4) (List.mem_of_getElem? (i := 202) (by decide +kernel))) rfl
theorem ws_able {b : Nat} (hb : b < 12) : Cond.instantiable (q_T b).1 (q_T b).2.2 ∈ gw := by
  rcases (show b = 0 ∨ b = 1 ∨ b = 2 ∨ b = 3 ∨ b = 4 ∨ b = 5 ∨ b = 6 ∨ b = 7 ∨ b = 8 ∨ b = 9 ∨ b = 10 ∨ b = 11 by omega) with rfl | rfl | rfl | rfl | rfl | rfl | rfl | rfl | rfl | rfl | rfl | rfl
  · exact kw_able0
  · exact kw_able1
  · exact kw_able2
  · exact kw_able3
  · exact kw_able4
  · exact kw_able5
  · exact kw_able6
  · exact kw_able7
  · exact kw_able8
  · exact kw_able9
  · exact kw_able10
  · exact kw_able11
theorem ws_K {s : State} {args : Array Value} (hts : ∀ w ∈ gw, w.before args s = true) (hao : (Cond.arrayOver (.object "BellHours$Law")).before args s = true) : ∃ (dC : Nat → ClassId) (dI : Nat → Nat → Nat) (ca : Nat → ClassId), va_K (dC, dI) q_cl (q_tys ca) s := by
  obtain ⟨c0, k0, comp0, a0, b0, d0⟩ := Cond.arrayClass_spec (hts _ kw_ai)
  obtain ⟨c1, k1, comp1, a1, b1, d1⟩ := Cond.arrayClass_spec (hts _ kw_ac)
  obtain ⟨c2, k2, comp2, a2, b2, d2⟩ := Cond.arrayClass_spec (hts _ kw_ab)
  obtain ⟨comp3, c3, k3, a3, -, b3, d3, e3⟩ := Cond.arrayOver_spec hao
  have hk : ∀ b : Nat, ∃ q : ClassId × (Nat → Nat), b < 12 → u_Kn s (q_T b).1 (q_T b).2.1 (q_T b).2.2 q.1 q.2 := by
    intro b
    by_cases hb : b < 12
    · obtain ⟨cC, iS, h⟩ := u_known hts (q_T_ws hb) (hts _ (ws_able hb))
      exact ⟨(cC, iS), fun _ => h⟩
    · exact ⟨(c0, fun _ => 0), fun h => absurd h hb⟩
  refine ⟨fun b => (Classical.choose (hk b)).1, fun b => (Classical.choose (hk b)).2, fun k => [c0, c1, c2, c3].getD k c0, fun k q hq => ?_, fun k q hq => ?_⟩
  · have hl : k < 12 := (List.getElem?_eq_some_iff.mp hq).1
    have e := q_cl_at hl
    rw [e] at hq
    have e2 := Option.some.inj hq
    rw [← e2]
    exact Classical.choose_spec (hk k) hl
  · match k with
    | 0 => cases hq; exact ⟨fun N z => ⟨(fun k h => by cases h), k0, b0, comp0, d0⟩, a0⟩
    | 1 => cases hq; exact ⟨fun N z => ⟨(fun k h => by cases h), k1, b1, comp1, d1⟩, a1⟩
    | 2 => cases hq; exact ⟨fun N z => ⟨(fun k h => by cases h), k2, b2, comp2, d2⟩, a2⟩
    | 3 => cases hq; exact ⟨fun N z => ⟨(fun k h => by cases h), k3, b3, comp3, d3⟩, k3, comp3, b3, d3, a3, e3⟩
    | k + 4 => cases hq
def ws_tm (i : Nat) : Term := if i = 0 then .string "BellHours$Reader" 47 else .string "BellHours$Reader" 111
set_option maxHeartbeats 4000000 in
set_option maxRecDepth 100000 in
theorem ws_Out {s : State} {b : Nat} (hts0 : ∀ w ∈ lw_tbl, w.before #[Value.ref b] s = true) (hgv : (Jvm.Cond.and given_1 narrow_1).before #[Value.ref b] s = true) : ∃ o : Nat → Nat, ∀ ad : Nat → Nat, (∀ c, 118 ≤ c → ad c = o c) → (∀ c, c < 118 → s.heap.size ≤ ad c) → q_Out ad s s.heap := by
  have hs := flat_of_before _ hgv
  have hA : ∀ a : Nat, a < s.heap.size → ¬ lA s a := fun a h z => by
    have z : s.heap.size ≤ a := z
    omega
  obtain ⟨t1, e1, hT1⟩ := va_Tof (args := #[Value.ref b]) (s := s) (tm := .static "BellHours$Law" "LEAST" "[I") (ty := .int) (N := 7) (f := fun j => .int (q_ro 118 j)) (A := lA s) (by decide) (hs _ (by decide +kernel)) (va_eqt (hs _ (by decide +kernel))) (fun j hj => by
    rcases (show j = 0 ∨ j = 1 ∨ j = 2 ∨ j = 3 ∨ j = 4 ∨ j = 5 ∨ j = 6 by omega) with rfl | rfl | rfl | rfl | rfl | rfl | rfl <;> exact va_eqt (hs _ (by decide +kernel))) hA
  obtain ⟨t2, e2, hT2⟩ := va_Tof (args := #[Value.ref b]) (s := s) (tm := .static "BellHours$Law" "MOST" "[I") (ty := .int) (N := 7) (f := fun j => .int (q_ro 119 j)) (A := lA s) (by decide) (hs _ (by decide +kernel)) (va_eqt (hs _ (by decide +kernel))) (fun j hj => by
    rcases (show j = 0 ∨ j = 1 ∨ j = 2 ∨ j = 3 ∨ j = 4 ∨ j = 5 ∨ j = 6 by omega) with rfl | rfl | rfl | rfl | rfl | rfl | rfl <;> exact va_eqt (hs _ (by decide +kernel))) hA
  have hZ1 := va_Zof (hts0 _ ws_l) (hts0 _ ws_il) e1 hA
  have hZ2 := va_Zof (hts0 _ ws_m) (hts0 _ ws_il) e2 hA
  have hZ3 := va_Zof (v := .int 1) (hts0 _ ws_c) (hts0 _ ws_is) (va_eqt (hs _ (by decide +kernel))) hA
  have tw : ∀ i : Nat, i < 2 → i = 0 ∨ i = 1 := fun i h => by omega
  obtain ⟨adK, adV, hS, hK⟩ := vk_Sof (args := #[Value.ref b]) (s := s) (N := 2) (tm := ws_tm) (len := [7, 9]) (byt := [q_str1, q_str2]) (A := lA s) (fun i hi => by rcases tw i hi with rfl | rfl <;> decide) (fun i hi => by rcases tw i hi with rfl | rfl <;> exact hs _ (by decide +kernel)) (fun i hi => by rcases tw i hi with rfl | rfl <;> exact hs _ (by decide +kernel)) (fun i hi => by rcases tw i hi with rfl | rfl <;> exact hs _ (by decide +kernel)) (fun i hi => by rcases tw i hi with rfl | rfl <;> exact hs _ (by decide +kernel)) (fun i hi j hj => by
    rcases tw i hi with rfl | rfl
    · have hj : j < 7 := hj
      rcases (show j = 0 ∨ j = 1 ∨ j = 2 ∨ j = 3 ∨ j = 4 ∨ j = 5 ∨ j = 6 by omega) with rfl | rfl | rfl | rfl | rfl | rfl | rfl <;> exact hs _ (by decide +kernel)
    · have hj : j < 9 := hj
      rcases (show j = 0 ∨ j = 1 ∨ j = 2 ∨ j = 3 ∨ j = 4 ∨ j = 5 ∨ j = 6 ∨ j = 7 ∨ j = 8 by omega) with rfl | rfl | rfl | rfl | rfl | rfl | rfl | rfl | rfl <;> exact hs _ (by decide +kernel)) (fun i j hi hj hne => by
    rcases tw i hi with rfl | rfl <;> rcases tw j hj with rfl | rfl
    · exact absurd rfl hne
    · exact Or.inl (hs _ (by decide +kernel))
    · exact Or.inr (hs _ (by decide +kernel))
    · exact absurd rfl hne) hA
  refine ⟨fun c => if c = 118 then t1 else if c = 119 then t2 else adK (c - 120), fun ad ho hlo => ?_⟩
  have hB := lw_sub hlo
  have a8 : ad 118 = t1 := by rw [ho 118 (by decide)]; rfl
  have a9 : ad 119 = t2 := by rw [ho 119 (by decide)]; rfl
  have a0 : ad 120 = adK 0 := by rw [ho 120 (by decide)]; rfl
  have a1 : ad 121 = adK 1 := by rw [ho 121 (by decide)]; rfl
  have aS : (fun i => ad (120 + i)) = adK := by
    funext i
    rw [ho (120 + i) (by omega)]
    show (if 120 + i = 118 then t1 else if 120 + i = 119 then t2 else adK (120 + i - 120)) = adK i
    rw [if_neg (by omega), if_neg (by omega), Nat.add_sub_cancel_left]
  unfold q_Out
  rw [a8, a9, a0, a1, aS]
  exact ⟨fun e he => va_Nw.of rfl (hts0 _ (q_nlk_in e he)), ⟨hZ1.narrow hB, hT1.narrow hB⟩, ⟨hZ2.narrow hB, hT2.narrow hB⟩, vk_R.of (hts0 _ ws_s1) (hK 0 (by decide)), vk_R.of (hts0 _ ws_s2) (hK 1 (by decide)), hZ3.narrow hB, adV, hS.narrow hB⟩
theorem ws_N {s : State} {b : Nat} (hts0 : ∀ w ∈ lw_tbl, w.before #[Value.ref b] s = true) : kNx s := ⟨fun e he => va_Nw.of rfl (hts0 _ (q_nlk_in e he)), va_Nw.of rfl (hts0 _ ws_n43), va_Nw.of rfl (hts0 _ ws_n25), va_Nw.of rfl (hts0 _ ws_n32), va_Nw.of rfl (hts0 _ ws_n62), va_AO.of (hts0 _ kw_ao)⟩
theorem kc_preX {p : Program} {s : State} {m : MethodId} {args : Array Value} {c : Code} {H : Heap} {cc : ByteArray} {nL : Nat} {own : String} {ca : Nat → ClassId} {dC : Nat → ClassId} {dI : Nat → Nat → Nat} {A : Nat → Prop} {w0 : va_W} {a : Nat} {x : va_E} {As : List Value} (X : kC p s m args c cc nL own ca dC dI A) (hN : kNx s) (hP : va_P (dC, dI) q_cl (w0 ++ [(a, x)]) H) : PreS s H (va_Pc (.ref a :: As) (fun U => kIn dC dI ca H.size a x U ∧ kNx U)) (.ref a :: As) := by
  obtain ⟨h1, h2⟩ := kc_pre (As := As) X hP
  exact ⟨fun av U g mk q => ⟨q.1, (h1 av U g mk ⟨q.1, q.2.1⟩).2, kNx_same rfl q.2.2⟩, fun U hU hW => ⟨rfl, (h2 U hU hW).2, kNx_warm hW hN⟩⟩
theorem kc_initX {p : Program} {l : Launch} {e : Env} {R : Room} {s : State} {m : MethodId} {args : Array Value} {below : List Frame} {meth : Method} {c : Code} {H : Heap} {locs : List Loc} {cells slots : Nat} {Q : State → Prop} {cc : ByteArray} {nL pc : Nat} {ls : Array Slot} {rest : List Value} {own : String} {ca : Nat → ClassId} {dC : Nat → ClassId} {dI : Nat → Nat → Nat} {A : Nat → Prop} {w0 : va_W} {a idx n maxL mc ms : Nat} {x : va_E} {As st0 : List Value} {y : MethodName} {b : ByteArray} {rm : Room} {W1 : Nat → (Nat → Nat) → va_W} (X : kC p s m args c cc nL own ca dC dI A) (hN : kNx s) (hls : ls.size = nL) (hM : kMetX l dC dI ca y b maxL rm x As W1 mc ms) (hmc : rm.cells = mc ∧ rm.slots = ms) (hR : rm.frames + 1 ≤ R.frames ∧ 8 + (maxL + 11) + rm.locals ≤ R.locals) (hcode : Cond.code y b maxL none ∈ gw) (hini : Cond.initialized y.cls ∈ gw) (hmh : y.cls ≠ "java/lang/invoke/MethodHandle" ∧ y.cls ≠ "java/lang/invoke/VarHandle") (hdes : (parseMethodDescriptor y.desc).map (fun d => d.parameters.length) = some n) (hnm : y.name = "<init>") (hinst : Cond.instanceMethod y ∈ gw) (hlk : Cond.methodLink own idx y ∈ gw) (hn : As.length = n) (hst : st0 = As.reverse ++ .ref a :: rest) (hrest : (rest.map fun v => v.category).sum ≤ 8) (hP : va_P (dC, dI) q_cl (w0 ++ [(a, x)]) H) (hD : va_D A (w0 ++ [(a, x)])) (hS : va_S A s.heap H locs) (hdg : decode cc pc = .ok (.invokespecial idx, 3)) (hf : cells + mc ≤ R.cells ∧ slots + ms ≤ R.slots) (kk : ∀ (q : Nat → Nat) (H1 : Heap) (locs1 : List Loc), va_P (dC, dI) q_cl (w0 ++ W1 a q) H1 → va_D A (w0 ++ W1 a q) → va_S A s.heap H1 locs1 → W p l e R s m args below meth c H1 locs1 (cells + mc) (slots + ms) Q (F0 m (pc + 3) ls rest)) : W p l e R s m args below meth c H locs cells slots Q (F0 m pc ls st0) := by
  have X' := X
  obtain ⟨hx, hbc, hml, hown, hts, hK, hA⟩ := X'
  have cw : CallB R s args own idx y b maxL none (Cond.code y b maxL none :: gw) rm mc ms n ∧ y.name = "<init>" ∧ (Cond.instanceMethod y).before args s = true :=
    ⟨⟨hmc.1, hmc.2, hR.1, hR.2, kc_gw hts hcode, List.mem_cons_self, hts _ hcode, hts _ hini, hmh, fun sig h => by
      rw [h] at hdes
      exact (Option.some.inj hdes).symm, hts _ hlk⟩, hnm, hts _ hinst⟩
  exact kc_back X hP hD hS (va_runI (As := As) (rest := rest) (g := F0 m pc ls st0) ⟨hx, hbc, hml, hown, hts⟩ (hM a H.size) cw (kc_preX X hN hP) rfl hn hls hst (lv_room hrest) hdg hf) kk
set_option maxHeartbeats 8000000 in
set_option maxRecDepth 100000 in
/-- from the entry, for every script of at most 3072 ints, the law comes to its end with true -/
theorem whole_start {p : Program} {e : Env} {s : State} {m : MethodId} {below : List Frame} {meth : Method} {c : Code} (l : Launch) {b L : Nat} {xs : Nat → Int32} (hL : L ≤ 3072) (C0 : lw_At p s m meth c b L xs) : W p l e room_1 s m #[Value.ref b] below meth c s.heap [] 0 0 (lw_Z below #[Value.ref b] s) (entryFrame m ([Value.ref b] : List Value).toArray 4) := by
  obtain ⟨hx, hb, hr, hml, hown, hts0, hX, hbl, hlocks, hgv⟩ := C0
  have hts : ∀ w ∈ gw, w.before #[Value.ref b] s = true := fun w hw => hts0 w (List.mem_filter.mp hw).1
  obtain ⟨dC, dI, ca, hK⟩ := ws_K hts (hts0 _ kw_ao)
  obtain ⟨o, hO⟩ := ws_Out hts0 hgv
  have hN := ws_N hts0
  have X : kC p s m #[Value.ref b] c code 4 R_law ca dC dI (lA s) := ⟨hx, hb, hml, hown, hts, hK, fun q h => h⟩
  rw [lg_entry_eq]
  have hl0 := lv_entry [Value.ref b] (n := 4) (Nat.le_of_ble_eq_true rfl)
  replace hl0 : lv_has _ 4 [(0, .ref b)] := hl0
  refine kc_new (ws := []) (b := 10) (N := 17) (fs := [.null, .null, .int 0, .null, .null, .null, .null, .null, .null, .null, .null, .null, .int 0, .null, .null, .null, .null]) X (fun k q h => by cases h) ⟨(fun i j p q h => by cases h), (fun k q h => by cases h)⟩ va_S.rf (by decide) rfl ws_c7 kw_able10 kw_ini10 (by decide +kernel) (Nat.le_of_ble_eq_true rfl) (Nat.le_of_ble_eq_true rfl) dL_law_0 (fun x H1 hP1 hD1 hS1 => ?_)
  refine lv_dup hx hb dL_law_3 rfl ?_
  refine kc_initX (As := []) (rest := [.ref x]) X hN hl0.1 (kX10 l dC dI ca) ⟨rfl, rfl⟩ ⟨(Nat.le_of_ble_eq_true rfl), (Nat.le_of_ble_eq_true rfl)⟩ kw_code10 kw_ini10 ⟨by decide +kernel, by decide +kernel⟩ (n := 0) (by decide +kernel) rfl kw_inst10 ws_m9 rfl rfl (Nat.le_of_ble_eq_true rfl) hP1 hD1 hS1 dL_law_4 ⟨(Nat.le_of_ble_eq_true rfl), (Nat.le_of_ble_eq_true rfl)⟩ (fun q H2 locs2 hP2 hD2 hS2 => ?_)
  clear hP1 hD1 hS1
  rw [List.nil_append] at hP2 hD2
  refine lv_astore_n (lv' := [(1, .ref x), (0, .ref b)]) hx hb dL_law_7 rfl hl0 (by decide) rfl (fun ls1 hl1 => ?_)
  refine kc_new (b := 11) (N := 65) (fs := [.int 0, .null, .null, .null, .null, .null, .null, .null, .null, .null, .null, .null, .int 0, .int 0, .int 0, .int 0, .int 0, .int 0, .int 0, .int 0, .int 0, .null, .null, .null, .null, .null, .null, .null, .null, .null, .null, .null, .null, .null, .null, .null, .null, .null, .null, .null, .null, .null, .null, .null, .null, .null, .null, .int 0, .int 0, .null, .int 0, .int 0, .int 0, .null, .null, .int 0, .int 0, .null, .null, .null, .null, .null, .null, .null, .null]) X hP2 hD2 hS2 (by decide) rfl ws_c10 kw_able11 kw_ini11 (by decide +kernel) (Nat.le_of_ble_eq_true rfl) (Nat.le_of_ble_eq_true rfl) dL_law_8 (fun y H3 hP3 hD3 hS3 => ?_)
  clear hP2 hD2 hS2
  refine lv_dup hx hb dL_law_11 rfl ?_
  refine kc_init (As := []) (rest := [.ref y]) X hl1.1 (kX11 l dC dI ca) ⟨rfl, rfl⟩ ⟨(Nat.le_of_ble_eq_true rfl), (Nat.le_of_ble_eq_true rfl)⟩ kw_code11 kw_ini11 ⟨by decide +kernel, by decide +kernel⟩ (n := 0) (by decide +kernel) rfl kw_inst11 ws_m12 rfl rfl (Nat.le_of_ble_eq_true rfl) hP3 hD3 hS3 dL_law_12 ⟨(Nat.le_of_ble_eq_true rfl), (Nat.le_of_ble_eq_true rfl)⟩ (fun r H4 locs4 hP4 hD4 hS4 => ?_)
  clear hP3 hD3 hS3
  refine lv_astore_n (lv' := [(2, .ref y), (1, .ref x), (0, .ref b)]) hx hb dL_law_15 rfl hl1 (by decide) rfl (fun ls2 hl2 => ?_)
  refine lv_iconst (v := 0) hx hb dL_law_16 (by decide) ?_
  refine lv_istore_n (lv' := [(3, .int 0), (2, .ref y), (1, .ref x), (0, .ref b)]) hx hb dL_law_17 rfl hl2 (by decide) rfl (fun ls3 hl3 => ?_)
  rw [q_ws_0 ca x y q r o] at hP4 hD4
  have hi : ∀ i j, i < 118 → j < 118 → ad0 x y q r o i = ad0 x y q r o j → i = j := fun i j h1 h2 e => hD4.1 i j _ _ (q_ws_at h1) (q_ws_at h2) e
  have hlo : ∀ c, c < 118 → s.heap.size ≤ ad0 x y q r o c := fun c hc => hD4.2 c _ (q_ws_at hc)
  have hZ := hO (ad0 x y q r o) (fun c hc => by unfold ad0; rw [if_neg (by omega), if_neg (by omega), if_neg (by omega), if_neg (by omega)]) hlo
  have hl4 : lv_has ls3 4 [(3, .int 0), (0, .ref b), (1, .ref x), (2, .ref y)] := ⟨hl3.1, hl3.2.1, fun z hz => hl3.2.2 z (by
    simp only [List.mem_cons, List.not_mem_nil, or_false] at hz ⊢
    rcases hz with h | h | h | h <;> simp [h])⟩
  exact lw_loop (ad := ad0 x y q r o) ⟨hx, hb, hml, hown, hts, hK, hZ, hi, hlo⟩ hr hlocks hX hbl hL ⟨Nat.le_of_ble_eq_true rfl, Nat.le_of_ble_eq_true rfl⟩ (L + 1) 0 s0 H4 locs4 ls3 0 (by omega) (by omega) rfl hl4 INV_0 FCh_0 hP4 hS4

