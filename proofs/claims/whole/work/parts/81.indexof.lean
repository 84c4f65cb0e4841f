theorem dJ0_indexOf_0f7a4_0 : decode cJ0_indexOf_0f7a4 0 = .ok (.aload_n 0, 1) := by decide +kernel
theorem dJ0_indexOf_0f7a4_1 : decode cJ0_indexOf_0f7a4 1 = .ok (.iload_n 1, 1) := by decide +kernel
theorem dJ0_indexOf_0f7a4_2 : decode cJ0_indexOf_0f7a4 2 = .ok (.iconst 0, 1) := by decide +kernel
theorem dJ0_indexOf_0f7a4_3 : decode cJ0_indexOf_0f7a4 3 = .ok (.invokevirtual 633, 3) := by decide +kernel
theorem dJ0_indexOf_0f7a4_6 : decode cJ0_indexOf_0f7a4 6 = .ok (.ireturn, 1) := by decide +kernel
theorem dJ0_indexOf_7cf53_0 : decode cJ0_indexOf_7cf53 0 = .ok (.aload_n 0, 1) := by decide +kernel
theorem dJ0_indexOf_7cf53_1 : decode cJ0_indexOf_7cf53 1 = .ok (.invokevirtual 492, 3) := by decide +kernel
theorem dJ0_indexOf_7cf53_4 : decode cJ0_indexOf_7cf53 4 = .ok (.ifCond .eq 19, 3) := by decide +kernel
theorem dJ0_indexOf_7cf53_7 : decode cJ0_indexOf_7cf53 7 = .ok (.aload_n 0, 1) := by decide +kernel
theorem dJ0_indexOf_7cf53_8 : decode cJ0_indexOf_7cf53 8 = .ok (.getfield 9, 3) := by decide +kernel
theorem dJ0_indexOf_7cf53_11 : decode cJ0_indexOf_7cf53 11 = .ok (.iload_n 1, 1) := by decide +kernel
theorem dJ0_indexOf_7cf53_12 : decode cJ0_indexOf_7cf53 12 = .ok (.iload_n 2, 1) := by decide +kernel
theorem dJ0_indexOf_7cf53_13 : decode cJ0_indexOf_7cf53 13 = .ok (.aload_n 0, 1) := by decide +kernel
theorem dJ0_indexOf_7cf53_14 : decode cJ0_indexOf_7cf53 14 = .ok (.invokevirtual 505, 3) := by decide +kernel
theorem dJ0_indexOf_7cf53_17 : decode cJ0_indexOf_7cf53 17 = .ok (.invokestatic 637, 3) := by decide +kernel
theorem dJ0_indexOf_7cf53_20 : decode cJ0_indexOf_7cf53 20 = .ok (.goto 16, 3) := by decide +kernel
theorem dJ0_indexOf_7cf53_23 : decode cJ0_indexOf_7cf53 23 = .ok (.aload_n 0, 1) := by decide +kernel
theorem dJ0_indexOf_7cf53_24 : decode cJ0_indexOf_7cf53 24 = .ok (.getfield 9, 3) := by decide +kernel
theorem dJ0_indexOf_7cf53_27 : decode cJ0_indexOf_7cf53 27 = .ok (.iload_n 1, 1) := by decide +kernel
theorem dJ0_indexOf_7cf53_28 : decode cJ0_indexOf_7cf53 28 = .ok (.iload_n 2, 1) := by decide +kernel
theorem dJ0_indexOf_7cf53_29 : decode cJ0_indexOf_7cf53 29 = .ok (.aload_n 0, 1) := by decide +kernel
theorem dJ0_indexOf_7cf53_30 : decode cJ0_indexOf_7cf53 30 = .ok (.invokevirtual 505, 3) := by decide +kernel
theorem dJ0_indexOf_7cf53_33 : decode cJ0_indexOf_7cf53 33 = .ok (.invokestatic 640, 3) := by decide +kernel
theorem dJ0_indexOf_7cf53_36 : decode cJ0_indexOf_7cf53 36 = .ok (.ireturn, 1) := by decide +kernel
theorem dJ0_isLatin1_aae02_0 : decode cJ0_isLatin1_aae02 0 = .ok (.getstatic 38, 3) := by decide +kernel
theorem dJ0_isLatin1_aae02_3 : decode cJ0_isLatin1_aae02 3 = .ok (.ifCond .eq 14, 3) := by decide +kernel
theorem dJ0_isLatin1_aae02_6 : decode cJ0_isLatin1_aae02 6 = .ok (.aload_n 0, 1) := by decide +kernel
theorem dJ0_isLatin1_aae02_7 : decode cJ0_isLatin1_aae02 7 = .ok (.getfield 15, 3) := by decide +kernel
theorem dJ0_isLatin1_aae02_10 : decode cJ0_isLatin1_aae02 10 = .ok (.ifCond .ne 7, 3) := by decide +kernel
theorem dJ0_isLatin1_aae02_13 : decode cJ0_isLatin1_aae02 13 = .ok (.iconst 1, 1) := by decide +kernel
theorem dJ0_isLatin1_aae02_14 : decode cJ0_isLatin1_aae02 14 = .ok (.goto 4, 3) := by decide +kernel
theorem dJ0_isLatin1_aae02_17 : decode cJ0_isLatin1_aae02 17 = .ok (.iconst 0, 1) := by decide +kernel
theorem dJ0_isLatin1_aae02_18 : decode cJ0_isLatin1_aae02 18 = .ok (.ireturn, 1) := by decide +kernel
theorem dJ0_length_8abf5_0 : decode cJ0_length_8abf5 0 = .ok (.aload_n 0, 1) := by decide +kernel
theorem dJ0_length_8abf5_1 : decode cJ0_length_8abf5 1 = .ok (.getfield 9, 3) := by decide +kernel
theorem dJ0_length_8abf5_4 : decode cJ0_length_8abf5 4 = .ok (.arraylength, 1) := by decide +kernel
theorem dJ0_length_8abf5_5 : decode cJ0_length_8abf5 5 = .ok (.aload_n 0, 1) := by decide +kernel
theorem dJ0_length_8abf5_6 : decode cJ0_length_8abf5 6 = .ok (.invokevirtual 335, 3) := by decide +kernel
theorem dJ0_length_8abf5_9 : decode cJ0_length_8abf5 9 = .ok (.ishr, 1) := by decide +kernel
theorem dJ0_length_8abf5_10 : decode cJ0_length_8abf5 10 = .ok (.ireturn, 1) := by decide +kernel
theorem dJ0_coder_7d493_0 : decode cJ0_coder_7d493 0 = .ok (.getstatic 38, 3) := by decide +kernel
theorem dJ0_coder_7d493_3 : decode cJ0_coder_7d493 3 = .ok (.ifCond .eq 10, 3) := by decide +kernel
theorem dJ0_coder_7d493_6 : decode cJ0_coder_7d493 6 = .ok (.aload_n 0, 1) := by decide +kernel
theorem dJ0_coder_7d493_7 : decode cJ0_coder_7d493 7 = .ok (.getfield 15, 3) := by decide +kernel
theorem dJ0_coder_7d493_10 : decode cJ0_coder_7d493 10 = .ok (.goto 4, 3) := by decide +kernel
theorem dJ0_coder_7d493_13 : decode cJ0_coder_7d493 13 = .ok (.iconst 1, 1) := by decide +kernel
theorem dJ0_coder_7d493_14 : decode cJ0_coder_7d493 14 = .ok (.ireturn, 1) := by decide +kernel
theorem dJ1_indexOf_4cfef_0 : decode cJ1_indexOf_4cfef 0 = .ok (.iload_n 1, 1) := by decide +kernel
theorem dJ1_indexOf_4cfef_1 : decode cJ1_indexOf_4cfef 1 = .ok (.invokestatic 88, 3) := by decide +kernel
theorem dJ1_indexOf_4cfef_4 : decode cJ1_indexOf_4cfef 4 = .ok (.ifCond .ne 5, 3) := by decide +kernel
theorem dJ1_indexOf_4cfef_7 : decode cJ1_indexOf_4cfef 7 = .ok (.iconst (-1), 1) := by decide +kernel
theorem dJ1_indexOf_4cfef_8 : decode cJ1_indexOf_4cfef 8 = .ok (.ireturn, 1) := by decide +kernel
theorem dJ1_indexOf_4cfef_9 : decode cJ1_indexOf_4cfef 9 = .ok (.iload_n 2, 1) := by decide +kernel
theorem dJ1_indexOf_4cfef_10 : decode cJ1_indexOf_4cfef 10 = .ok (.iconst 0, 1) := by decide +kernel
theorem dJ1_indexOf_4cfef_11 : decode cJ1_indexOf_4cfef 11 = .ok (.invokestatic 92, 3) := by decide +kernel
theorem dJ1_indexOf_4cfef_14 : decode cJ1_indexOf_4cfef 14 = .ok (.istore_n 2, 1) := by decide +kernel
theorem dJ1_indexOf_4cfef_15 : decode cJ1_indexOf_4cfef 15 = .ok (.iload_n 3, 1) := by decide +kernel
theorem dJ1_indexOf_4cfef_16 : decode cJ1_indexOf_4cfef 16 = .ok (.aload_n 0, 1) := by decide +kernel
theorem dJ1_indexOf_4cfef_17 : decode cJ1_indexOf_4cfef 17 = .ok (.arraylength, 1) := by decide +kernel
theorem dJ1_indexOf_4cfef_18 : decode cJ1_indexOf_4cfef 18 = .ok (.invokestatic 38, 3) := by decide +kernel
theorem dJ1_indexOf_4cfef_21 : decode cJ1_indexOf_4cfef 21 = .ok (.istore_n 3, 1) := by decide +kernel
theorem dJ1_indexOf_4cfef_22 : decode cJ1_indexOf_4cfef 22 = .ok (.iload_n 2, 1) := by decide +kernel
theorem dJ1_indexOf_4cfef_23 : decode cJ1_indexOf_4cfef 23 = .ok (.iload_n 3, 1) := by decide +kernel
theorem dJ1_indexOf_4cfef_24 : decode cJ1_indexOf_4cfef 24 = .ok (.if_icmp .lt 5, 3) := by decide +kernel
theorem dJ1_indexOf_4cfef_27 : decode cJ1_indexOf_4cfef 27 = .ok (.iconst (-1), 1) := by decide +kernel
theorem dJ1_indexOf_4cfef_28 : decode cJ1_indexOf_4cfef 28 = .ok (.ireturn, 1) := by decide +kernel
theorem dJ1_indexOf_4cfef_29 : decode cJ1_indexOf_4cfef 29 = .ok (.aload_n 0, 1) := by decide +kernel
theorem dJ1_indexOf_4cfef_30 : decode cJ1_indexOf_4cfef 30 = .ok (.iload_n 1, 1) := by decide +kernel
theorem dJ1_indexOf_4cfef_31 : decode cJ1_indexOf_4cfef 31 = .ok (.iload_n 2, 1) := by decide +kernel
theorem dJ1_indexOf_4cfef_32 : decode cJ1_indexOf_4cfef 32 = .ok (.iload_n 3, 1) := by decide +kernel
theorem dJ1_indexOf_4cfef_33 : decode cJ1_indexOf_4cfef 33 = .ok (.invokestatic 95, 3) := by decide +kernel
theorem dJ1_indexOf_4cfef_36 : decode cJ1_indexOf_4cfef 36 = .ok (.ireturn, 1) := by decide +kernel
theorem dJ1_indexOfChar_4cfef_0 : decode cJ1_indexOfChar_4cfef 0 = .ok (.iload_n 1, 1) := by decide +kernel
theorem dJ1_indexOfChar_4cfef_1 : decode cJ1_indexOfChar_4cfef 1 = .ok (.i2b, 1) := by decide +kernel
theorem dJ1_indexOfChar_4cfef_2 : decode cJ1_indexOfChar_4cfef 2 = .ok (.istore 4, 2) := by decide +kernel
theorem dJ1_indexOfChar_4cfef_4 : decode cJ1_indexOfChar_4cfef 4 = .ok (.iload_n 2, 1) := by decide +kernel
theorem dJ1_indexOfChar_4cfef_5 : decode cJ1_indexOfChar_4cfef 5 = .ok (.istore 5, 2) := by decide +kernel
theorem dJ1_indexOfChar_4cfef_7 : decode cJ1_indexOfChar_4cfef 7 = .ok (.iload 5, 2) := by decide +kernel
theorem dJ1_indexOfChar_4cfef_9 : decode cJ1_indexOfChar_4cfef 9 = .ok (.iload_n 3, 1) := by decide +kernel
theorem dJ1_indexOfChar_4cfef_10 : decode cJ1_indexOfChar_4cfef 10 = .ok (.if_icmp .ge 21, 3) := by decide +kernel
theorem dJ1_indexOfChar_4cfef_13 : decode cJ1_indexOfChar_4cfef 13 = .ok (.aload_n 0, 1) := by decide +kernel
theorem dJ1_indexOfChar_4cfef_14 : decode cJ1_indexOfChar_4cfef 14 = .ok (.iload 5, 2) := by decide +kernel
theorem dJ1_indexOfChar_4cfef_16 : decode cJ1_indexOfChar_4cfef 16 = .ok (.baload, 1) := by decide +kernel
theorem dJ1_indexOfChar_4cfef_17 : decode cJ1_indexOfChar_4cfef 17 = .ok (.iload 4, 2) := by decide +kernel
theorem dJ1_indexOfChar_4cfef_19 : decode cJ1_indexOfChar_4cfef 19 = .ok (.if_icmp .ne 6, 3) := by decide +kernel
theorem dJ1_indexOfChar_4cfef_22 : decode cJ1_indexOfChar_4cfef 22 = .ok (.iload 5, 2) := by decide +kernel
theorem dJ1_indexOfChar_4cfef_24 : decode cJ1_indexOfChar_4cfef 24 = .ok (.ireturn, 1) := by decide +kernel
theorem dJ1_indexOfChar_4cfef_25 : decode cJ1_indexOfChar_4cfef 25 = .ok (.iinc 5 1, 3) := by decide +kernel
theorem dJ1_indexOfChar_4cfef_28 : decode cJ1_indexOfChar_4cfef 28 = .ok (.goto (-21), 3) := by decide +kernel
theorem dJ1_indexOfChar_4cfef_31 : decode cJ1_indexOfChar_4cfef 31 = .ok (.iconst (-1), 1) := by decide +kernel
theorem dJ1_indexOfChar_4cfef_32 : decode cJ1_indexOfChar_4cfef 32 = .ok (.ireturn, 1) := by decide +kernel
theorem dJ1_canEncode_9a6ad_0 : decode cJ1_canEncode_9a6ad 0 = .ok (.iload_n 0, 1) := by decide +kernel
theorem dJ1_canEncode_9a6ad_1 : decode cJ1_canEncode_9a6ad 1 = .ok (.ifCond .lt 14, 3) := by decide +kernel
theorem dJ1_canEncode_9a6ad_4 : decode cJ1_canEncode_9a6ad 4 = .ok (.iload_n 0, 1) := by decide +kernel
theorem dJ1_canEncode_9a6ad_5 : decode cJ1_canEncode_9a6ad 5 = .ok (.sipush 255, 3) := by decide +kernel
theorem dJ1_canEncode_9a6ad_8 : decode cJ1_canEncode_9a6ad 8 = .ok (.if_icmp .gt 7, 3) := by decide +kernel
theorem dJ1_canEncode_9a6ad_11 : decode cJ1_canEncode_9a6ad 11 = .ok (.iconst 1, 1) := by decide +kernel
theorem dJ1_canEncode_9a6ad_12 : decode cJ1_canEncode_9a6ad 12 = .ok (.goto 4, 3) := by decide +kernel
theorem dJ1_canEncode_9a6ad_15 : decode cJ1_canEncode_9a6ad 15 = .ok (.iconst 0, 1) := by decide +kernel
theorem dJ1_canEncode_9a6ad_16 : decode cJ1_canEncode_9a6ad 16 = .ok (.ireturn, 1) := by decide +kernel
theorem sw_canC : Cond.code yJ1_canEncode_9a6ad cJ1_canEncode_9a6ad 1 (some .boolean) ∈ gw := gw_of (q_tb_in (j := 2) (List.mem_of_getElem? (i := 197) (rfl))) rfl
theorem sw_canS : Cond.static yJ1_canEncode_9a6ad ∈ gw := gw_of (q_tb_in (j := 2) (List.mem_of_getElem? (i := 196) (by decide +kernel))) rfl
theorem sw_ixcC : Cond.code yJ1_indexOfChar_4cfef cJ1_indexOfChar_4cfef 6 (some .int) ∈ gw := gw_of (q_tb_in (j := 2) (List.mem_of_getElem? (i := 204) (rfl))) rfl
theorem sw_ixcS : Cond.static yJ1_indexOfChar_4cfef ∈ gw := gw_of (q_tb_in (j := 2) (List.mem_of_getElem? (i := 203) (by decide +kernel))) rfl
theorem sw_ix1C : Cond.code yJ1_indexOf_4cfef cJ1_indexOf_4cfef 4 (some .int) ∈ gw := gw_of (q_tb_in (j := 2) (List.mem_of_getElem? (i := 194) (rfl))) rfl
theorem sw_ix1S : Cond.static yJ1_indexOf_4cfef ∈ gw := gw_of (q_tb_in (j := 2) (List.mem_of_getElem? (i := 193) (by decide +kernel))) rfl
theorem sw_latC : Cond.code yJ0_isLatin1_aae02 cJ0_isLatin1_aae02 1 (some .boolean) ∈ gw := gw_of (q_tb_in (j := 2) (List.mem_of_getElem? (i := 181) (rfl))) rfl
theorem sw_latI : Cond.instanceMethod yJ0_isLatin1_aae02 ∈ gw := gw_of (q_tb_in (j := 2) (List.mem_of_getElem? (i := 179) (by decide +kernel))) rfl
theorem sw_latL : Cond.selects RJ0 yJ0_isLatin1_aae02 yJ0_isLatin1_aae02 ∈ gw := gw_of (q_tb_in (j := 2) (List.mem_of_getElem? (i := 180) (by decide +kernel))) rfl
theorem sw_lenC : Cond.code yJ0_length_8abf5 cJ0_length_8abf5 1 (some .int) ∈ gw := gw_of (q_tb_in (j := 2) (List.mem_of_getElem? (i := 187) (rfl))) rfl
theorem sw_lenI : Cond.instanceMethod yJ0_length_8abf5 ∈ gw := gw_of (q_tb_in (j := 2) (List.mem_of_getElem? (i := 185) (by decide +kernel))) rfl
theorem sw_lenL : Cond.selects RJ0 yJ0_length_8abf5 yJ0_length_8abf5 ∈ gw := gw_of (q_tb_in (j := 2) (List.mem_of_getElem? (i := 186) (by decide +kernel))) rfl
theorem sw_codC : Cond.code yJ0_coder_7d493 cJ0_coder_7d493 1 (some .byte) ∈ gw := gw_of (q_tb_in (j := 2) (List.mem_of_getElem? (i := 191) (rfl))) rfl
theorem sw_codI : Cond.instanceMethod yJ0_coder_7d493 ∈ gw := gw_of (q_tb_in (j := 2) (List.mem_of_getElem? (i := 189) (by decide +kernel))) rfl
theorem sw_codL : Cond.selects RJ0 yJ0_coder_7d493 yJ0_coder_7d493 ∈ gw := gw_of (q_tb_in (j := 2) (List.mem_of_getElem? (i := 190) (by decide +kernel))) rfl
theorem sw_ix2C : Cond.code yJ0_indexOf_7cf53 cJ0_indexOf_7cf53 3 (some .int) ∈ gw := gw_of (q_tb_in (j := 2) (List.mem_of_getElem? (i := 177) (rfl))) rfl
theorem sw_ix2I : Cond.instanceMethod yJ0_indexOf_7cf53 ∈ gw := gw_of (q_tb_in (j := 2) (List.mem_of_getElem? (i := 175) (by decide +kernel))) rfl
theorem sw_ix2L : Cond.selects RJ0 yJ0_indexOf_7cf53 yJ0_indexOf_7cf53 ∈ gw := gw_of (q_tb_in (j := 2) (List.mem_of_getElem? (i := 176) (by decide +kernel))) rfl
theorem sw_can : Cond.methodLink RJ1 88 yJ1_canEncode_9a6ad ∈ gw := gw_of (q_tb_in (j := 2) (List.mem_of_getElem? (i := 195) (by decide +kernel))) rfl
theorem sw_ixc : Cond.methodLink RJ1 95 yJ1_indexOfChar_4cfef ∈ gw := gw_of (q_tb_in (j := 2) (List.mem_of_getElem? (i := 202) (by decide +kernel))) rfl
theorem sw_ix1 : Cond.methodLink RJ0 637 yJ1_indexOf_4cfef ∈ gw := gw_of (q_tb_in (j := 2) (List.mem_of_getElem? (i := 192) (by decide +kernel))) rfl
theorem sw_lat : Cond.methodLink RJ0 492 yJ0_isLatin1_aae02 ∈ gw := gw_of (q_tb_in (j := 2) (List.mem_of_getElem? (i := 178) (by decide +kernel))) rfl
theorem sw_len : Cond.methodLink RJ0 505 yJ0_length_8abf5 ∈ gw := gw_of (q_tb_in (j := 2) (List.mem_of_getElem? (i := 184) (by decide +kernel))) rfl
theorem sw_cod : Cond.methodLink RJ0 335 yJ0_coder_7d493 ∈ gw := gw_of (q_tb_in (j := 2) (List.mem_of_getElem? (i := 188) (by decide +kernel))) rfl
theorem sw_ix2 : Cond.methodLink RJ0 633 yJ0_indexOf_7cf53 ∈ gw := gw_of (q_tb_in (j := 2) (List.mem_of_getElem? (i := 174) (by decide +kernel))) rfl
theorem sw_max : Cond.methodLink RJ1 92 Lib.Math.max.name ∈ gw := gw_of (q_tb_in (j := 2) (List.mem_of_getElem? (i := 198) (by decide +kernel))) rfl
theorem sw_min : Cond.methodLink RJ1 38 Lib.Math.min.name ∈ gw := gw_of (q_tb_in (j := 2) (List.mem_of_getElem? (i := 201) (by decide +kernel))) rfl
theorem sw_ini1 : Cond.initialized RJ1 ∈ gw := gw_of (q_tb_in (j := 1) (List.mem_of_getElem? (i := 16) (by decide +kernel))) rfl
theorem sw_cs : Cond.fieldLink RJ0 38 "java/lang/String" "COMPACT_STRINGS" "Z" ∈ gw := gw_of (q_tb_in (j := 2) (List.mem_of_getElem? (i := 182) (by decide +kernel))) rfl
theorem sw_co : Cond.fieldLink RJ0 15 "java/lang/String" "coder" "B" ∈ gw := gw_of (q_tb_in (j := 7) (List.mem_of_getElem? (i := 28) (by decide +kernel))) rfl
theorem sw_va : Cond.fieldLink RJ0 9 "java/lang/String" "value" "[B" ∈ gw := gw_of (q_tb_in (j := 7) (List.mem_of_getElem? (i := 29) (by decide +kernel))) rfl
/-! String.indexOf -/
def sMet (l : Launch) (y : MethodName) (cc : ByteArray) (nL : Nat) (ret : Option FieldType) (rm : Room) (av : List Value) (I : State → Prop) (r : Int32) : Prop := Met l y (Cond.code y cc nL ret :: gw) rm (va_Pc av I) (fun _ st oc t => oc = .returned (some (.int r)) ∧ t.heap = st.heap) 0 0 (fun _ => False)
/-- a premise that is of the heap and the tables alone -/
def sI (I : State → Prop) : Prop := (∀ u U : State, u.vm = U.vm → U.heap = u.heap → I u → I U) ∧ ∀ s U : State, s.WarmedH U.vm → U.heap = s.heap → I s → I U
def sC (p : Program) (s : State) (m : MethodId) (args : Array Value) (c : Code) (cc : ByteArray) (nL : Nat) (own : String) (I : State → Prop) : Prop := p.tables.exec = Jvm.exec ∧ c.code = cc ∧ c.maxLocals = nL ∧ s.vm.findClass own = some m.cls ∧ (∀ w ∈ gw, w.before args s = true) ∧ I s
theorem sm_start {l : Launch} {y : MethodName} {cc : ByteArray} {nL : Nat} {ret : Option FieldType} {rm : Room} {av : List Value} {I : State → Prop} {r : Int32} (hy : plainName y.cls = true) (hn : (lg_sl av).length ≤ nL) (body : ∀ (p : Program) (e : Env) (s : State) (m : MethodId) (args : Array Value) (below : List Frame) (meth : Method) (c : Code) (ls : Array Slot), sC p s m args c cc nL y.cls I → meth.sig.returnType = ret → meth.locks = false → lv_has ls nL (lv_args 0 av) → W p l e rm s m args below meth c s.heap [] 0 0 (MQ below (fun _ st oc t => oc = .returned (some (.int r)) ∧ t.heap = st.heap) args s 0 0 (fun _ => False)) (F0 m 0 ls [])) : sMet l y cc nL ret rm av I r := by
  refine Met.ofW (cc := cc) (maxL := nL) (ret := ret) hy rfl ?_
  intro p e s m args below meth c s₁ B hml hv
  obtain ⟨rfl, hI⟩ := hv
  have hts := atoms_spec (ws := Cond.code y cc nL ret :: gw) B.pre
  have hown : s.vm.findClass y.cls = some m.cls := findClass_of_methodNamed B.named
  rw [lg_entry_eq]
  exact body p e s m _ below meth c _ ⟨B.exec, B.bytes, hml, hown, fun w hw => hts w (List.mem_cons_of_mem _ hw), hI⟩ B.returns B.notSynchronized (lv_entry av (n := nL) hn)
section
variable {p : Program} {l : Launch} {e : Env} {R : Room} {s : State} {m : MethodId} {args : Array Value} {below : List Frame} {meth : Method} {c : Code} {H : Heap} {Q : State → Prop} {cc : ByteArray} {nL pc : Nat} {ls : Array Slot} {rest : List Value} {own : String} {I : State → Prop}
theorem sm_ret {v r : Int32} {ty : FieldType} (X : sC p s m args c cc nL own I) (hr : meth.sig.returnType = some ty) (hn : narrow ty (.int v) = .int v) (hlocks : meth.locks = false) (hv : v = r) (hdg : decode cc pc = .ok (.ireturn, 1)) : W p l e R s m args below meth c s.heap [] 0 0 (MQ below (fun _ st oc t => oc = .returned (some (.int r)) ∧ t.heap = st.heap) args s 0 0 (fun _ => False)) (F0 m pc ls [.int v]) := by
  subst hv
  exact W.zret X.1 X.2.1 hr hn (fun t ht _ => ⟨rfl, ht⟩) (fun q hq => by cases hq) hdg hlocks
theorem sm_go {r : Int32} {st0 : List Value} (hr : va_Run p l e R s m args below meth c s.heap [] 0 0 0 0 (F0 m pc ls st0) rest (fun st oc t => oc = .returned (some (.int r)) ∧ t.heap = st.heap) (fun _ => False)) (kk : W p l e R s m args below meth c s.heap [] 0 0 Q (F0 m (pc + 3) ls (.int r :: rest))) : W p l e R s m args below meth c s.heap [] 0 0 Q (F0 m pc ls st0) := by
  intro T hT Xs
  obtain ⟨v, st1, t, T', Lx, h0, X', hLx, e1, e2, ⟨hv, hh⟩, stp⟩ := hr T hT Xs
  cases hv
  have eH : T'.heap = s.heap := by rw [e1, hh, h0]
  have eL : Lx = [] := List.eq_nil_iff_forall_not_mem.mpr (fun q hq => hLx q hq)
  subst eL
  obtain ⟨t2, a1, b1⟩ := kk T' eH X'
  exact ⟨t2, stp t2 a1, b1⟩
theorem sm_callS {y : MethodName} {b : ByteArray} {maxL n idx : Nat} {ret : Option FieldType} {rm : Room} {As st0 : List Value} {J : State → Prop} {r : Int32} (X : sC p s m args c cc nL own I) (hls : ls.size = nL) (hM : sMet l y b maxL ret rm As J r) (hJ : sI J) (hj : J s) (hmc : rm.cells = 0 ∧ rm.slots = 0) (hR : rm.frames + 1 ≤ R.frames ∧ 8 + (maxL + 11) + rm.locals ≤ R.locals) (hcode : Cond.code y b maxL ret ∈ gw) (hini : Cond.initialized y.cls ∈ gw) (hmh : y.cls ≠ "java/lang/invoke/MethodHandle" ∧ y.cls ≠ "java/lang/invoke/VarHandle") (hdes : (parseMethodDescriptor y.desc).map (fun d => d.parameters.length) = some n) (hstat : Cond.static y ∈ gw) (hlk : Cond.methodLink own idx y ∈ gw) (hn : As.length = n) (hst : st0 = As.reverse ++ rest) (hrest : (rest.map fun v => v.category).sum ≤ 8) (hdg : decode cc pc = .ok (.invokestatic idx, 3)) (kk : W p l e R s m args below meth c s.heap [] 0 0 Q (F0 m (pc + 3) ls (.int r :: rest))) : W p l e R s m args below meth c s.heap [] 0 0 Q (F0 m pc ls st0) := by
  obtain ⟨hx, hbc, hml, hown, hts, hI⟩ := X
  have cw : CallB R s args own idx y b maxL ret (Cond.code y b maxL ret :: gw) rm 0 0 n ∧ (Cond.static y).before args s = true :=
    ⟨⟨hmc.1, hmc.2, hR.1, hR.2, kc_gw hts hcode, List.mem_cons_self, hts _ hcode, hts _ hini, hmh, fun sig h => by
      rw [h] at hdes
      exact (Option.some.inj hdes).symm, hts _ hlk⟩, hts _ hstat⟩
  exact sm_go (va_runS (As := As) (rest := rest) (g := F0 m pc ls st0) ⟨hx, hbc, hml, hown, hts⟩ hM cw ⟨fun a U g mk q => ⟨q.1, hJ.1 U (U.calling g mk a) rfl rfl q.2⟩, fun U hU hW => ⟨rfl, hJ.2 s U hW hU hj⟩⟩ rfl hn hls hst (lv_room hrest) hdg ⟨Nat.zero_le _, Nat.zero_le _⟩) kk
theorem sm_callV {y : MethodName} {b : ByteArray} {maxL n idx a : Nat} {ret : Option FieldType} {rm : Room} {As st0 : List Value} {J : State → Prop} {r : Int32} (X : sC p s m args c cc nL own I) (hls : ls.size = nL) (hM : sMet l y b maxL ret rm (.ref a :: As) J r) (hJ : sI J) (hj : J s) (hmc : rm.cells = 0 ∧ rm.slots = 0) (hR : rm.frames + 1 ≤ R.frames ∧ 8 + (maxL + 11) + rm.locals ≤ R.locals) (hcode : Cond.code y b maxL ret ∈ gw) (hini : Cond.initialized y.cls ∈ gw) (hmh : y.cls ≠ "java/lang/invoke/MethodHandle" ∧ y.cls ≠ "java/lang/invoke/VarHandle") (hdes : (parseMethodDescriptor y.desc).map (fun d => d.parameters.length) = some n) (hinst : Cond.instanceMethod y ∈ gw) (hsel : Cond.selects y.cls y y ∈ gw) (hlk : Cond.methodLink own idx y ∈ gw) (hrecv : ∃ cell : Cell, s.heap[a]? = some cell ∧ cell.vm.isStatics = false ∧ s.vm.findClass y.cls = some cell.cls) (hn : As.length = n) (hst : st0 = As.reverse ++ .ref a :: rest) (hrest : (rest.map fun v => v.category).sum ≤ 8) (hdg : decode cc pc = .ok (.invokevirtual idx, 3)) (kk : W p l e R s m args below meth c s.heap [] 0 0 Q (F0 m (pc + 3) ls (.int r :: rest))) : W p l e R s m args below meth c s.heap [] 0 0 Q (F0 m pc ls st0) := by
  obtain ⟨hx, hbc, hml, hown, hts, hI⟩ := X
  have cw : CallW R s args own y.cls idx y b maxL ret (Cond.code y b maxL ret :: gw) rm 0 0 n :=
    ⟨⟨hmc.1, hmc.2, hR.1, hR.2, kc_gw hts hcode, List.mem_cons_self, hts _ hcode, hts _ hini, hmh, fun sig h => by
      rw [h] at hdes
      exact (Option.some.inj hdes).symm, hts _ hlk⟩, hts _ hinst, hts _ hsel⟩
  exact sm_go (va_runV (As := As) (rest := rest) (g := F0 m pc ls st0) ⟨hx, hbc, hml, hown, hts⟩ hM cw ⟨fun a U g mk q => ⟨q.1, hJ.1 U (U.calling g mk a) rfl rfl q.2⟩, hrecv, fun U hU hW => ⟨rfl, hJ.2 s U hW hU hj⟩⟩ rfl hn hls hst (lv_room hrest) hdg ⟨Nat.zero_le _, Nat.zero_le _⟩) kk
end
theorem sI_tr : sI (fun _ => True) := ⟨fun _ _ _ _ _ => trivial, fun _ _ _ _ _ => trivial⟩
def r0 : Room := { frames := 0, cells := 0, slots := 0, locals := 0 }
/-- canEncode -/
theorem sm_can (l : Launch) (x : Int32) : sMet l yJ1_canEncode_9a6ad cJ1_canEncode_9a6ad 1 (some .boolean) r0 [.int x] (fun _ => True) (if x < 0 then 0 else if 255 < x then 0 else 1) := by
  refine sm_start (by decide) (Nat.le_of_ble_eq_true rfl) ?_
  intro p e s m args below meth c ls X hr hlocks hl
  have hx := X.1
  have hb := X.2.1
  have hl : lv_has ls 1 [(0, .int x)] := hl
  refine lv_iload_n hx hb dJ1_canEncode_9a6ad_0 rfl (lv_at hl 0 rfl) ?_
  refine lv_if_lt (tgt := 15) hx hb dJ1_canEncode_9a6ad_1 (by decide) (fun q => ?_) (fun q => ?_)
  · rw [if_pos q]
    refine lv_iconst (v := 0) hx hb dJ1_canEncode_9a6ad_15 (by decide) ?_
    exact sm_ret X hr (by decide) hlocks rfl dJ1_canEncode_9a6ad_16
  · rw [if_neg q]
    refine lv_iload_n hx hb dJ1_canEncode_9a6ad_4 rfl (lv_at hl 0 rfl) ?_
    refine lv_sipush (v := 255) hx hb dJ1_canEncode_9a6ad_5 (by decide) ?_
    refine lv_icmp_gt (tgt := 15) hx hb dJ1_canEncode_9a6ad_8 (by decide) (fun q2 => ?_) (fun q2 => ?_)
    · rw [if_pos q2]
      refine lv_iconst (v := 0) hx hb dJ1_canEncode_9a6ad_15 (by decide) ?_
      exact sm_ret X hr (by decide) hlocks rfl dJ1_canEncode_9a6ad_16
    · rw [if_neg q2]
      refine lv_iconst (v := 1) hx hb dJ1_canEncode_9a6ad_11 (by decide) ?_
      refine lv_goto (tgt := 16) hx hb dJ1_canEncode_9a6ad_12 (by decide) ?_
      exact sm_ret X hr (by decide) hlocks rfl dJ1_canEncode_9a6ad_16
/-- the bytes of a text -/
def sB (a : Nat) (bs : List Int32) (A : Nat → Prop) (U : State) : Prop := va_T .byte a bs.length (fun j => .int (bs.getD j 0)) A U U.heap
theorem sI_B (a : Nat) (bs : List Int32) (A : Nat → Prop) : sI (sB a bs A) := by
  refine ⟨fun u U h1 h2 h => ?_, fun s U hW h2 h => ?_⟩
  · unfold sB
    rw [h2]
    exact va_T.moved (by rw [h1]; exact Vm.Alike.refl _) h
  · unfold sB
    rw [h2]
    exact va_T.moved hW.alike h
theorem q_ix_at {bs : List Int32} {x : Int32} : ∀ (k n : Nat), q_ix (bs.drop k) x (n + k) = if h : k < bs.length then (if bs[k] = x then nI (n + k) else q_ix (bs.drop (k + 1)) x (n + (k + 1))) else -1 := by
  intro k n
  by_cases h : k < bs.length
  · rw [dif_pos h, List.drop_eq_getElem_cons h, q_ix]
    rfl
  · rw [dif_neg h, List.drop_eq_nil_of_le (by omega), q_ix]
theorem sm_ixc (l : Launch) (a : Nat) (bs : List Int32) (A : Nat → Prop) (x : Int32) (hbs : bs.length ≤ 100) : sMet l yJ1_indexOfChar_4cfef cJ1_indexOfChar_4cfef 6 (some .int) r0 [.ref a, .int x, .int 0, .int (nI bs.length)] (sB a bs A) (q_ix bs x.toInt8.toInt32 0) := by
  refine sm_start (by decide) (Nat.le_of_ble_eq_true rfl) ?_
  intro p e s m args below meth c ls X hr hlocks hl
  have hx := X.1
  have hb := X.2.1
  have hT : va_T .byte a bs.length (fun j => .int (bs.getD j 0)) A s s.heap := X.2.2.2.2.2
  have hl : lv_has ls 6 [(0, .ref a), (1, .int x), (2, .int 0), (3, .int (nI bs.length))] := hl
  refine lv_iload_n hx hb dJ1_indexOfChar_4cfef_0 rfl (lv_at hl 1 rfl) ?_
  refine lv_i2b (v := x.toInt8.toInt32) hx hb dJ1_indexOfChar_4cfef_1 rfl ?_
  refine lv_istore (lv' := [(4, .int x.toInt8.toInt32), (0, .ref a), (1, .int x), (2, .int 0), (3, .int (nI bs.length))]) hx hb dJ1_indexOfChar_4cfef_2 hl (by decide) rfl (fun ls hl => ?_)
  refine lv_iload_n hx hb dJ1_indexOfChar_4cfef_4 rfl (lv_at hl 3 rfl) ?_
  refine lv_istore (lv' := [(5, .int 0), (4, .int x.toInt8.toInt32), (0, .ref a), (1, .int x), (2, .int 0), (3, .int (nI bs.length))]) hx hb dJ1_indexOfChar_4cfef_5 hl (by decide) rfl (fun ls hl => ?_)
  generalize x.toInt8.toInt32 = y at hl ⊢
  have loop : ∀ j k (ls : Array Slot) (z : Int32), k + j = bs.length → z = nI k → lv_has ls 6 [(5, .int z), (4, .int y), (0, .ref a), (3, .int (nI bs.length))] → q_ix (bs.drop k) y k = q_ix bs y 0 → W p l e r0 s m args below meth c s.heap [] 0 0 (MQ below (fun _ st oc t => oc = .returned (some (.int (q_ix bs y 0))) ∧ t.heap = st.heap) args s 0 0 (fun _ => False)) (F0 m 7 ls []) := by
    intro j
    induction j with
    | zero =>
      intro k ls z hk hz hl he
      have h1 := q_ix_at (bs := bs) (x := y) k 0
      rw [Nat.zero_add, dif_neg (by omega)] at h1
      refine lv_iload hx hb dJ1_indexOfChar_4cfef_7 (lv_at hl 0 rfl) ?_
      refine lv_iload_n hx hb dJ1_indexOfChar_4cfef_9 rfl (lv_at hl 3 rfl) ?_
      refine lv_icmp_ge (tgt := 31) hx hb dJ1_indexOfChar_4cfef_10 (by decide) (fun _ => ?_) (fun q => ?_)
      · refine lv_iconst (v := -1) hx hb dJ1_indexOfChar_4cfef_31 (by decide) ?_
        exact sm_ret X hr rfl hlocks (h1.symm.trans he) dJ1_indexOfChar_4cfef_32
      · exact absurd (by rw [hz]; exact nI_le (by omega) (by omega)) q
    | succ j ih =>
      intro k ls z hk hz hl he
      have hkl : k < bs.length := by omega
      have h1 := q_ix_at (bs := bs) (x := y) k 0
      rw [Nat.zero_add, Nat.zero_add, dif_pos hkl] at h1
      refine lv_iload hx hb dJ1_indexOfChar_4cfef_7 (lv_at hl 0 rfl) ?_
      refine lv_iload_n hx hb dJ1_indexOfChar_4cfef_9 rfl (lv_at hl 3 rfl) ?_
      refine lv_icmp_ge (tgt := 31) hx hb dJ1_indexOfChar_4cfef_10 (by decide) (fun q => ?_) (fun _ => ?_)
      · rw [hz] at q
        exact absurd q (nI_ge (by omega) (by omega))
      refine lv_aload_n hx hb dJ1_indexOfChar_4cfef_13 rfl (lv_at hl 2 rfl) ?_
      refine lv_iload hx hb dJ1_indexOfChar_4cfef_14 (lv_at hl 0 rfl) ?_
      refine va_tb (v := .int bs[k]) hx hb hT va_S.rf (by rw [hz]; exact vp_in_nI hkl (by omega)) (by rw [hz, cl_nI (by omega)]; show Value.int (bs.getD k 0) = _; rw [List.getD_eq_getElem?_getD, List.getElem?_eq_getElem hkl]; rfl) dJ1_indexOfChar_4cfef_16 ?_
      refine lv_iload hx hb dJ1_indexOfChar_4cfef_17 (lv_at hl 1 rfl) ?_
      refine lv_icmp_ne (tgt := 25) hx hb dJ1_indexOfChar_4cfef_19 (by decide) (fun q => ?_) (fun q => ?_)
      · rw [if_neg q] at h1
        obtain ⟨z2, ez2⟩ : ∃ w : Int32, w = z + 1 := ⟨_, rfl⟩
        refine lv_iinc (v := z2) (lv' := [(5, .int z2), (4, .int y), (0, .ref a), (3, .int (nI bs.length))]) hx hb dJ1_indexOfChar_4cfef_25 hl (k := 0) rfl (by rw [ez2]; rfl) (by decide) rfl (fun ls hl => ?_)
        refine lv_goto (tgt := 7) hx hb dJ1_indexOfChar_4cfef_28 (by decide) ?_
        exact ih (k + 1) ls z2 (by omega) (by rw [ez2, hz]; exact nI_1 k) hl (h1.symm.trans he)
      · rw [if_pos q] at h1
        refine lv_iload hx hb dJ1_indexOfChar_4cfef_22 (lv_at hl 0 rfl) ?_
        exact sm_ret X hr rfl hlocks (by rw [hz]; exact h1.symm.trans he) dJ1_indexOfChar_4cfef_24
  exact loop bs.length 0 ls 0 (by omega) rfl (lv_sub hl [0, 1, 2, 5] rfl) (by rw [List.drop_zero])
def r1 : Room := { frames := 1, cells := 0, slots := 0, locals := 60 }
theorem sm_ix1 (l : Launch) (a : Nat) (bs : List Int32) (A : Nat → Prop) (x : Int32) (hbs : bs.length ≤ 100) (hb0 : 0 < bs.length) : sMet l yJ1_indexOf_4cfef cJ1_indexOf_4cfef 4 (some .int) r1 [.ref a, .int x, .int 0, .int (nI bs.length)] (sB a bs A) (if x < 0 then -1 else if 255 < x then -1 else q_ix bs x.toInt8.toInt32 0) := by
  refine sm_start (by decide) (Nat.le_of_ble_eq_true rfl) ?_
  intro p e s m args below meth c ls X hr hlocks hl
  have hx := X.1
  have hb := X.2.1
  have hml := X.2.2.1
  have hown := X.2.2.2.1
  have hts := X.2.2.2.2.1
  have hT : va_T .byte a bs.length (fun j => .int (bs.getD j 0)) A s s.heap := X.2.2.2.2.2
  have hl : lv_has ls 4 [(0, .ref a), (1, .int x), (2, .int 0), (3, .int (nI bs.length))] := hl
  refine lv_iload_n hx hb dJ1_indexOf_4cfef_0 rfl (lv_at hl 1 rfl) ?_
  refine sm_callS (As := [.int x]) (rest := []) (n := 1) X hl.1 (sm_can l x) sI_tr trivial ⟨rfl, rfl⟩ ⟨Nat.le_of_ble_eq_true rfl, Nat.le_of_ble_eq_true rfl⟩ sw_canC sw_ini1 ⟨by decide +kernel, by decide +kernel⟩ (by decide +kernel) sw_canS sw_can rfl rfl (Nat.le_of_ble_eq_true rfl) dJ1_indexOf_4cfef_1 ?_
  by_cases q0 : x < 0
  · rw [if_pos q0, if_pos q0]
    refine lv_if_ne (tgt := 9) hx hb dJ1_indexOf_4cfef_4 (by decide) (fun q => absurd rfl q) (fun _ => ?_)
    refine lv_iconst (v := -1) hx hb dJ1_indexOf_4cfef_7 (by decide) ?_
    exact sm_ret X hr rfl hlocks rfl dJ1_indexOf_4cfef_8
  rw [if_neg q0, if_neg q0]
  by_cases q1 : 255 < x
  · rw [if_pos q1, if_pos q1]
    refine lv_if_ne (tgt := 9) hx hb dJ1_indexOf_4cfef_4 (by decide) (fun q => absurd rfl q) (fun _ => ?_)
    refine lv_iconst (v := -1) hx hb dJ1_indexOf_4cfef_7 (by decide) ?_
    exact sm_ret X hr rfl hlocks rfl dJ1_indexOf_4cfef_8
  rw [if_neg q1, if_neg q1]
  refine lv_if_ne (tgt := 9) hx hb dJ1_indexOf_4cfef_4 (by decide) (fun _ => ?_) (fun q => absurd q (by decide))
  refine lv_iload_n hx hb dJ1_indexOf_4cfef_9 rfl (lv_at hl 2 rfl) ?_
  refine lv_iconst (v := 0) hx hb dJ1_indexOf_4cfef_10 (by decide) ?_
  refine va_mmax hx hb (by rw [hml]; exact hl.1.symm) hown (hts _ sw_max) (hts _ q_wmx1) (hts _ q_wmx2) (hts _ q_wmx3) (Nat.le_of_ble_eq_true rfl) (Nat.le_of_ble_eq_true rfl) (Nat.zero_le _) (Nat.zero_le _) dJ1_indexOf_4cfef_11 ?_
  refine W.eq (g2 := F0 m 14 ls [.int 0]) rfl ?_
  refine lv_istore_n (lv' := [(2, .int 0), (0, .ref a), (1, .int x), (3, .int (nI bs.length))]) hx hb dJ1_indexOf_4cfef_14 rfl hl (by decide) rfl (fun ls hl => ?_)
  refine lv_iload_n hx hb dJ1_indexOf_4cfef_15 rfl (lv_at hl 3 rfl) ?_
  refine lv_aload_n hx hb dJ1_indexOf_4cfef_16 rfl (lv_at hl 1 rfl) ?_
  refine va_tlen (v := nI bs.length) hx hb hT va_S.rf rfl dJ1_indexOf_4cfef_17 ?_
  refine va_mmin hx hb (by rw [hml]; exact hl.1.symm) hown (hts _ sw_min) (hts _ q_wmn1) (hts _ q_wmx2) (hts _ q_wmn3) (Nat.le_of_ble_eq_true rfl) (Nat.le_of_ble_eq_true rfl) (Nat.zero_le _) (Nat.zero_le _) dJ1_indexOf_4cfef_18 ?_
  rw [ite_self]
  refine lv_istore_n (lv' := [(3, .int (nI bs.length)), (2, .int 0), (0, .ref a), (1, .int x)]) hx hb dJ1_indexOf_4cfef_21 rfl hl (by decide) rfl (fun ls hl => ?_)
  refine lv_iload_n hx hb dJ1_indexOf_4cfef_22 rfl (lv_at hl 1 rfl) ?_
  refine lv_iload_n hx hb dJ1_indexOf_4cfef_23 rfl (lv_at hl 0 rfl) ?_
  refine lv_icmp_lt (tgt := 29) hx hb dJ1_indexOf_4cfef_24 (by decide) (fun _ => ?_) (fun q => absurd (show nI 0 < nI bs.length from nI_lt hb0 (by omega)) q)
  refine lv_aload_n hx hb dJ1_indexOf_4cfef_29 rfl (lv_at hl 2 rfl) ?_
  refine lv_iload_n hx hb dJ1_indexOf_4cfef_30 rfl (lv_at hl 3 rfl) ?_
  refine lv_iload_n hx hb dJ1_indexOf_4cfef_31 rfl (lv_at hl 1 rfl) ?_
  refine lv_iload_n hx hb dJ1_indexOf_4cfef_32 rfl (lv_at hl 0 rfl) ?_
  refine sm_callS (As := [.ref a, .int x, .int 0, .int (nI bs.length)]) (rest := []) (n := 4) X hl.1 (sm_ixc l a bs A x hbs) (sI_B a bs A) hT ⟨rfl, rfl⟩ ⟨Nat.le_of_ble_eq_true rfl, Nat.le_of_ble_eq_true rfl⟩ sw_ixcC sw_ini1 ⟨by decide +kernel, by decide +kernel⟩ (by decide +kernel) sw_ixcS sw_ixc rfl rfl (Nat.le_of_ble_eq_true rfl) dJ1_indexOf_4cfef_33 ?_
  exact sm_ret X hr rfl hlocks rfl dJ1_indexOf_4cfef_36
/-- a text -/
def sS (k : Nat) (b : Nat) (bs : List Int32) (A : Nat → Prop) (U : State) : Prop := va_O "java/lang/String" k A U U.heap ∧ va_OF "java/lang/String" "coder" "B" (.int 0) k A U U.heap ∧ va_OF "java/lang/String" "value" "[B" (.ref b) k A U U.heap ∧ va_T .byte b bs.length (fun j => .int (bs.getD j 0)) A U U.heap ∧ va_Z "java/lang/String" "COMPACT_STRINGS" "Z" (.int 1) A U U.heap
theorem sI_S (k b : Nat) (bs : List Int32) (A : Nat → Prop) : sI (sS k b bs A) := by
  have key : ∀ u U : State, u.vm.Alike U.vm → U.heap = u.heap → sS k b bs A u → sS k b bs A U := by
    rintro u U hA h2 ⟨h3, h4, h5, h6, h7⟩
    unfold sS
    rw [h2]
    exact ⟨va_O.moved hA h3, va_OF.moved hA h4, va_OF.moved hA h5, va_T.moved hA h6, va_Z.moved hA h7⟩
  exact ⟨fun u U h1 h2 h => key u U (by rw [h1]; exact Vm.Alike.refl _) h2 h, fun s U hW h2 h => key s U hW.alike h2 h⟩
theorem sS_recv {k b : Nat} {bs : List Int32} {A : Nat → Prop} {s : State} (h : sS k b bs A s) : ∃ cell : Cell, s.heap[k]? = some cell ∧ cell.vm.isStatics = false ∧ s.vm.findClass "java/lang/String" = some cell.cls := by
  obtain ⟨cell, h1, h2, h3, -⟩ := h.1
  exact ⟨cell, h1, h2, h3⟩
theorem sm_lat (l : Launch) (k b : Nat) (bs : List Int32) (A : Nat → Prop) : sMet l yJ0_isLatin1_aae02 cJ0_isLatin1_aae02 1 (some .boolean) r0 [.ref k] (sS k b bs A) 1 := by
  refine sm_start (by decide) (Nat.le_of_ble_eq_true rfl) ?_
  intro p e s m args below meth c ls X hr hlocks hl
  have X' := X
  obtain ⟨hx, hb, hml, hown, hts, h1, h2, h3, h4, h5⟩ := X'
  have hl : lv_has ls 1 [(0, .ref k)] := hl
  refine va_gets hx hb h5 va_S.rf hown (hts _ sw_cs) (fun _ h => h) dJ0_isLatin1_aae02_0 ?_
  refine lv_if_eq (tgt := 17) hx hb dJ0_isLatin1_aae02_3 (by decide) (fun q => absurd q (by decide)) (fun _ => ?_)
  refine lv_aload_n hx hb dJ0_isLatin1_aae02_6 rfl (lv_at hl 0 rfl) ?_
  refine vk_getf hx hb h2 va_S.rf hown (hts _ sw_co) (fun _ h => h) dJ0_isLatin1_aae02_7 ?_
  refine lv_if_ne (tgt := 17) hx hb dJ0_isLatin1_aae02_10 (by decide) (fun q => absurd rfl q) (fun _ => ?_)
  refine lv_iconst (v := 1) hx hb dJ0_isLatin1_aae02_13 (by decide) ?_
  refine lv_goto (tgt := 18) hx hb dJ0_isLatin1_aae02_14 (by decide) ?_
  exact sm_ret X hr (by decide) hlocks rfl dJ0_isLatin1_aae02_18
theorem sm_cod (l : Launch) (k b : Nat) (bs : List Int32) (A : Nat → Prop) : sMet l yJ0_coder_7d493 cJ0_coder_7d493 1 (some .byte) r0 [.ref k] (sS k b bs A) 0 := by
  refine sm_start (by decide) (Nat.le_of_ble_eq_true rfl) ?_
  intro p e s m args below meth c ls X hr hlocks hl
  have X' := X
  obtain ⟨hx, hb, hml, hown, hts, h1, h2, h3, h4, h5⟩ := X'
  have hl : lv_has ls 1 [(0, .ref k)] := hl
  refine va_gets hx hb h5 va_S.rf hown (hts _ sw_cs) (fun _ h => h) dJ0_coder_7d493_0 ?_
  refine lv_if_eq (tgt := 13) hx hb dJ0_coder_7d493_3 (by decide) (fun q => absurd q (by decide)) (fun _ => ?_)
  refine lv_aload_n hx hb dJ0_coder_7d493_6 rfl (lv_at hl 0 rfl) ?_
  refine vk_getf hx hb h2 va_S.rf hown (hts _ sw_co) (fun _ h => h) dJ0_coder_7d493_7 ?_
  refine lv_goto (tgt := 14) hx hb dJ0_coder_7d493_10 (by decide) ?_
  exact sm_ret X hr (by decide) hlocks rfl dJ0_coder_7d493_14
theorem sm_len (l : Launch) (k b : Nat) (bs : List Int32) (A : Nat → Prop) (hbs : bs.length ≤ 100) : sMet l yJ0_length_8abf5 cJ0_length_8abf5 1 (some .int) r1 [.ref k] (sS k b bs A) (nI bs.length) := by
  refine sm_start (by decide) (Nat.le_of_ble_eq_true rfl) ?_
  intro p e s m args below meth c ls X hr hlocks hl
  have X' := X
  obtain ⟨hx, hb, hml, hown, hts, hS⟩ := X'
  have hS' := hS
  obtain ⟨h1, h2, h3, h4, h5⟩ := hS'
  have hl : lv_has ls 1 [(0, .ref k)] := hl
  refine lv_aload_n hx hb dJ0_length_8abf5_0 rfl (lv_at hl 0 rfl) ?_
  refine vk_getf hx hb h3 va_S.rf hown (hts _ sw_va) (fun _ h => h) dJ0_length_8abf5_1 ?_
  refine va_tlen (v := nI bs.length) hx hb h4 va_S.rf rfl dJ0_length_8abf5_4 ?_
  refine lv_aload_n hx hb dJ0_length_8abf5_5 rfl (lv_at hl 0 rfl) ?_
  refine sm_callV (As := []) (rest := [.int (nI bs.length)]) (n := 0) X hl.1 (sm_cod l k b bs A) (sI_S k b bs A) hS ⟨rfl, rfl⟩ ⟨Nat.le_of_ble_eq_true rfl, Nat.le_of_ble_eq_true rfl⟩ sw_codC q_wix3 ⟨by decide +kernel, by decide +kernel⟩ (by decide +kernel) sw_codI sw_codL sw_cod (sS_recv hS) rfl rfl (Nat.le_of_ble_eq_true rfl) dJ0_length_8abf5_6 ?_
  refine lv_ishr hx hb dJ0_length_8abf5_9 ?_
  refine sm_ret X hr rfl hlocks ?_ dJ0_length_8abf5_10
  have key : ∀ n, n < 101 → nI n >>> ((0 : Int32) &&& 31) = nI n := by decide +kernel
  exact key bs.length (by omega)
def r2 : Room := { frames := 2, cells := 0, slots := 0, locals := 120 }
theorem sm_ix2 (l : Launch) (k b : Nat) (bs : List Int32) (A : Nat → Prop) (x : Int32) (hbs : bs.length ≤ 100) (hb0 : 0 < bs.length) : sMet l yJ0_indexOf_7cf53 cJ0_indexOf_7cf53 3 (some .int) r2 [.ref k, .int x, .int 0] (sS k b bs A) (if x < 0 then -1 else if 255 < x then -1 else q_ix bs x.toInt8.toInt32 0) := by
  refine sm_start (by decide) (Nat.le_of_ble_eq_true rfl) ?_
  intro p e s m args below meth c ls X hr hlocks hl
  have X' := X
  obtain ⟨hx, hb, hml, hown, hts, hS⟩ := X'
  have hS' := hS
  obtain ⟨h1, h2, h3, h4, h5⟩ := hS'
  have hl : lv_has ls 3 [(0, .ref k), (1, .int x), (2, .int 0)] := hl
  refine lv_aload_n hx hb dJ0_indexOf_7cf53_0 rfl (lv_at hl 0 rfl) ?_
  refine sm_callV (As := []) (rest := []) (n := 0) X hl.1 (sm_lat l k b bs A) (sI_S k b bs A) hS ⟨rfl, rfl⟩ ⟨Nat.le_of_ble_eq_true rfl, Nat.le_of_ble_eq_true rfl⟩ sw_latC q_wix3 ⟨by decide +kernel, by decide +kernel⟩ (by decide +kernel) sw_latI sw_latL sw_lat (sS_recv hS) rfl rfl (Nat.le_of_ble_eq_true rfl) dJ0_indexOf_7cf53_1 ?_
  refine lv_if_eq (tgt := 23) hx hb dJ0_indexOf_7cf53_4 (by decide) (fun q => absurd q (by decide)) (fun _ => ?_)
  refine lv_aload_n hx hb dJ0_indexOf_7cf53_7 rfl (lv_at hl 0 rfl) ?_
  refine vk_getf hx hb h3 va_S.rf hown (hts _ sw_va) (fun _ h => h) dJ0_indexOf_7cf53_8 ?_
  refine lv_iload_n hx hb dJ0_indexOf_7cf53_11 rfl (lv_at hl 1 rfl) ?_
  refine lv_iload_n hx hb dJ0_indexOf_7cf53_12 rfl (lv_at hl 2 rfl) ?_
  refine lv_aload_n hx hb dJ0_indexOf_7cf53_13 rfl (lv_at hl 0 rfl) ?_
  refine sm_callV (As := []) (rest := [.int 0, .int x, .ref b]) (n := 0) X hl.1 (sm_len l k b bs A hbs) (sI_S k b bs A) hS ⟨rfl, rfl⟩ ⟨Nat.le_of_ble_eq_true rfl, Nat.le_of_ble_eq_true rfl⟩ sw_lenC q_wix3 ⟨by decide +kernel, by decide +kernel⟩ (by decide +kernel) sw_lenI sw_lenL sw_len (sS_recv hS) rfl rfl (Nat.le_of_ble_eq_true rfl) dJ0_indexOf_7cf53_14 ?_
  refine sm_callS (As := [.ref b, .int x, .int 0, .int (nI bs.length)]) (rest := []) (n := 4) X hl.1 (sm_ix1 l b bs A x hbs hb0) (sI_B b bs A) h4 ⟨rfl, rfl⟩ ⟨Nat.le_of_ble_eq_true rfl, Nat.le_of_ble_eq_true rfl⟩ sw_ix1C sw_ini1 ⟨by decide +kernel, by decide +kernel⟩ (by decide +kernel) sw_ix1S sw_ix1 rfl rfl (Nat.le_of_ble_eq_true rfl) dJ0_indexOf_7cf53_17 ?_
  refine lv_goto (tgt := 36) hx hb dJ0_indexOf_7cf53_20 (by decide) ?_
  exact sm_ret X hr rfl hlocks rfl dJ0_indexOf_7cf53_36
theorem q_txt_ix (c : Nat) (hc : c = 120 ∨ c = 121) (x : Int32) : (if x < 0 then (-1 : Int32) else if 255 < x then -1 else q_ix (q_txt c) x.toInt8.toInt32 0) = q_ix (q_txt c) x 0 := by
  by_cases q0 : x < 0
  · rw [if_pos q0]
    have ne : ∀ y : Int32, y ∈ q_txt c → ¬ y = x := by
      intro y hy e
      subst e
      have : ∀ c, c = 120 ∨ c = 121 → ∀ y ∈ q_txt c, ¬ y < 0 := by rintro c (rfl | rfl) <;> decide
      exact this c hc y hy q0
    have key : ∀ (bs : List Int32) (k : Nat), (∀ y ∈ bs, ¬ y = x) → q_ix bs x k = -1 := by
      intro bs
      induction bs with
      | nil => intro k _; rfl
      | cons b bs ih =>
        intro k h
        rw [q_ix, if_neg (h b List.mem_cons_self)]
        exact ih (k + 1) (fun y hy => h y (List.mem_cons_of_mem _ hy))
    exact (key _ 0 ne).symm
  rw [if_neg q0]
  by_cases q1 : 255 < x
  · rw [if_pos q1]
    have ne : ∀ y : Int32, y ∈ q_txt c → ¬ y = x := by
      intro y hy e
      subst e
      have : ∀ c, c = 120 ∨ c = 121 → ∀ y ∈ q_txt c, ¬ 255 < y := by rintro c (rfl | rfl) <;> decide
      exact this c hc y hy q1
    have key : ∀ (bs : List Int32) (k : Nat), (∀ y ∈ bs, ¬ y = x) → q_ix bs x k = -1 := by
      intro bs
      induction bs with
      | nil => intro k _; rfl
      | cons b bs ih =>
        intro k h
        rw [q_ix, if_neg (h b List.mem_cons_self)]
        exact ih (k + 1) (fun y hy => h y (List.mem_cons_of_mem _ hy))
    exact (key _ 0 ne).symm
  rw [if_neg q1]
  obtain ⟨j, hj, rfl⟩ : ∃ j, j ≤ 255 ∧ x = nI j := ix_of' (c := 255) (n := 255) rfl (by decide) q0 q1
  have : ∀ c, c = 120 ∨ c = 121 → ∀ j, j < 256 → q_ix (q_txt c) (nI j).toInt8.toInt32 0 = q_ix (q_txt c) (nI j) 0 := by rintro c (rfl | rfl) <;> decide +kernel
  exact this c hc j (by omega)
theorem q_Ix_ok (l : Launch) (ad : Nat → Nat) : q_Ix l ad := by
  intro c x hc
  have hc2 := q_lay_tx hc
  refine Met.ofW (cc := cJ0_indexOf_0f7a4) (maxL := 2) (ret := some .int) (by decide) rfl ?_
  intro p e s m args below meth c0 s₁ B hml hv
  obtain ⟨rfl, hO⟩ := hv
  have hts0 := atoms_spec (ws := Cond.code yJ0_indexOf_0f7a4 cJ0_indexOf_0f7a4 2 (some .int) :: gw) B.pre
  have hown : s.vm.findClass yJ0_indexOf_0f7a4.cls = some m.cls := findClass_of_methodNamed B.named
  have hts : ∀ w ∈ gw, w.before _ s = true := fun w hw => hts0 w (List.mem_cons_of_mem _ hw)
  have hx := B.exec
  have hb := B.bytes
  have hr := B.returns
  have hlocks := B.notSynchronized
  obtain ⟨-, -, -, -, -, hZ, adV, hE⟩ := hO
  have hS : ∃ b, sS (ad c) b (q_txt c) (q_A ad) s := by
    rcases hc2 with rfl | rfl
    · obtain ⟨a1, a2, a3, a4⟩ := hE.1 0 (by omega)
      exact ⟨adV 0, a1, a2, a3, a4, hZ⟩
    · obtain ⟨a1, a2, a3, a4⟩ := hE.1 1 (by omega)
      exact ⟨adV 1, a1, a2, a3, a4, hZ⟩
  obtain ⟨b, hS⟩ := hS
  have hlen : (q_txt c).length ≤ 100 ∧ 0 < (q_txt c).length := by rcases hc2 with rfl | rfl <;> decide
  have X : sC p s m _ c0 cJ0_indexOf_0f7a4 2 yJ0_indexOf_0f7a4.cls (sS (ad c) b (q_txt c) (q_A ad)) := ⟨hx, hb, hml, hown, hts, hS⟩
  have hl := lv_entry ([.ref (ad c), .int x]) (n := 2) (Nat.le_of_ble_eq_true rfl)
  rw [lg_entry_eq]
  generalize (lg_sl ([.ref (ad c), .int x]) ++ List.replicate (2 - (lg_sl ([.ref (ad c), .int x])).length) Slot.unset).toArray = ls at hl ⊢
  have hl : lv_has ls 2 [(0, .ref (ad c)), (1, .int x)] := hl
  refine lv_aload_n hx hb dJ0_indexOf_0f7a4_0 rfl (lv_at hl 0 rfl) ?_
  refine lv_iload_n hx hb dJ0_indexOf_0f7a4_1 rfl (lv_at hl 1 rfl) ?_
  refine lv_iconst (v := 0) hx hb dJ0_indexOf_0f7a4_2 (by decide) ?_
  refine sm_callV (As := [.int x, .int 0]) (rest := []) (n := 2) X hl.1 (sm_ix2 l (ad c) b (q_txt c) (q_A ad) x hlen.1 hlen.2) (sI_S _ _ _ _) hS ⟨rfl, rfl⟩ ⟨Nat.le_of_ble_eq_true rfl, Nat.le_of_ble_eq_true rfl⟩ sw_ix2C q_wix3 ⟨by decide +kernel, by decide +kernel⟩ (by decide +kernel) sw_ix2I sw_ix2L sw_ix2 (sS_recv hS) rfl rfl (Nat.le_of_ble_eq_true rfl) dJ0_indexOf_0f7a4_3 ?_
  exact sm_ret X hr rfl hlocks (q_txt_ix c hc2 x) dJ0_indexOf_0f7a4_6
