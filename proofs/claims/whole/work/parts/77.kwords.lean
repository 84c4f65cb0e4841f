/-! constructors: words, rows -/
theorem kw_oi : Cond.instanceMethod objectInit ∈ gw := gw_of (q_tb_in (j := 1) (List.mem_of_getElem? (i := 28) (by decide +kernel))) rfl
theorem kw_oc : Cond.code objectInit ⟨#[0xb1]⟩ 1 none ∈ gw := gw_of (q_tb_in (j := 1) (List.mem_of_getElem? (i := 29) (rfl))) rfl
theorem kw_ai : Cond.arrayClass .int ∈ gw := gw_of (q_tb_in (j := 1) (List.mem_of_getElem? (i := 65) (by decide +kernel))) rfl
theorem kw_ac : Cond.arrayClass .char ∈ gw := gw_of (q_tb_in (j := 1) (List.mem_of_getElem? (i := 121) (by decide +kernel))) rfl
theorem kw_ab : Cond.arrayClass .byte ∈ gw := gw_of (q_tb_in (j := 3) (List.mem_of_getElem? (i := 86) (by decide +kernel))) rfl
theorem kw_ao : Cond.arrayOver (.object "BellHours$Law") ∈ lw_tbl := q_tb_in (j := 1) (List.mem_of_getElem? (i := 82) (by decide +kernel))
theorem kw_code0 : Cond.code yX0_init cX0_init 4 none ∈ gw := gw_of (q_tb_in (j := 1) (List.mem_of_getElem? (i := 165) (rfl))) rfl
theorem kw_inst0 : Cond.instanceMethod yX0_init ∈ gw := gw_of (q_tb_in (j := 1) (List.mem_of_getElem? (i := 164) (by decide +kernel))) rfl
theorem kw_able0 : Cond.instantiable RX0 9 ∈ gw := gw_of (q_tb_in (j := 1) (List.mem_of_getElem? (i := 162) (by decide +kernel))) rfl
theorem kw_ini0 : Cond.initialized RX0 ∈ gw := gw_of (q_tb_in (j := 1) (List.mem_of_getElem? (i := 8) (by decide +kernel))) rfl
theorem kw_ob0 : Cond.methodLink RX0 3 objectInit ∈ gw := gw_of (q_tb_in (j := 1) (List.mem_of_getElem? (i := 166) (by decide +kernel))) rfl
theorem kw_code1 : Cond.code yX1_init cX1_init 3 none ∈ gw := gw_of (q_tb_in (j := 2) (List.mem_of_getElem? (i := 28) (rfl))) rfl
theorem kw_inst1 : Cond.instanceMethod yX1_init ∈ gw := gw_of (q_tb_in (j := 2) (List.mem_of_getElem? (i := 27) (by decide +kernel))) rfl
theorem kw_able1 : Cond.instantiable RX1 5 ∈ gw := gw_of (q_tb_in (j := 2) (List.mem_of_getElem? (i := 25) (by decide +kernel))) rfl
theorem kw_ini1 : Cond.initialized RX1 ∈ gw := gw_of (q_tb_in (j := 1) (List.mem_of_getElem? (i := 11) (by decide +kernel))) rfl
theorem kw_ob1 : Cond.methodLink RX1 3 objectInit ∈ gw := gw_of (q_tb_in (j := 2) (List.mem_of_getElem? (i := 29) (by decide +kernel))) rfl
theorem kw_code2 : Cond.code yX2_init cX2_init 1 none ∈ gw := gw_of (q_tb_in (j := 1) (List.mem_of_getElem? (i := 34) (rfl))) rfl
theorem kw_inst2 : Cond.instanceMethod yX2_init ∈ gw := gw_of (q_tb_in (j := 1) (List.mem_of_getElem? (i := 33) (by decide +kernel))) rfl
theorem kw_able2 : Cond.instantiable RX2 5 ∈ gw := gw_of (q_tb_in (j := 1) (List.mem_of_getElem? (i := 31) (by decide +kernel))) rfl
theorem kw_ini2 : Cond.initialized RX2 ∈ gw := gw_of (q_tb_in (j := 1) (List.mem_of_getElem? (i := 2) (by decide +kernel))) rfl
theorem kw_ob2 : Cond.methodLink RX2 3 objectInit ∈ gw := gw_of (q_tb_in (j := 1) (List.mem_of_getElem? (i := 35) (by decide +kernel))) rfl
theorem kw_code3 : Cond.code yX3_init cX3_init 1 none ∈ gw := gw_of (q_tb_in (j := 1) (List.mem_of_getElem? (i := 86) (rfl))) rfl
theorem kw_inst3 : Cond.instanceMethod yX3_init ∈ gw := gw_of (q_tb_in (j := 1) (List.mem_of_getElem? (i := 85) (by decide +kernel))) rfl
theorem kw_able3 : Cond.instantiable RX3 10 ∈ gw := gw_of (q_tb_in (j := 1) (List.mem_of_getElem? (i := 83) (by decide +kernel))) rfl
theorem kw_ini3 : Cond.initialized RX3 ∈ gw := gw_of (q_tb_in (j := 1) (List.mem_of_getElem? (i := 5) (by decide +kernel))) rfl
theorem kw_ob3 : Cond.methodLink RX3 3 objectInit ∈ gw := gw_of (q_tb_in (j := 1) (List.mem_of_getElem? (i := 87) (by decide +kernel))) rfl
theorem kw_code4 : Cond.code yX4_init cX4_init 4 none ∈ gw := gw_of (q_tb_in (j := 2) (List.mem_of_getElem? (i := 1) (rfl))) rfl
theorem kw_inst4 : Cond.instanceMethod yX4_init ∈ gw := gw_of (q_tb_in (j := 2) (List.mem_of_getElem? (i := 0) (by decide +kernel))) rfl
theorem kw_able4 : Cond.instantiable RX4 6 ∈ gw := gw_of (q_tb_in (j := 1) (List.mem_of_getElem? (i := 238) (by decide +kernel))) rfl
theorem kw_ini4 : Cond.initialized RX4 ∈ gw := gw_of (q_tb_in (j := 1) (List.mem_of_getElem? (i := 10) (by decide +kernel))) rfl
theorem kw_ob4 : Cond.methodLink RX4 3 objectInit ∈ gw := gw_of (q_tb_in (j := 2) (List.mem_of_getElem? (i := 2) (by decide +kernel))) rfl
theorem kw_code5 : Cond.code yX5_init cX5_init 3 none ∈ gw := gw_of (q_tb_in (j := 1) (List.mem_of_getElem? (i := 126) (rfl))) rfl
theorem kw_inst5 : Cond.instanceMethod yX5_init ∈ gw := gw_of (q_tb_in (j := 1) (List.mem_of_getElem? (i := 125) (by decide +kernel))) rfl
theorem kw_able5 : Cond.instantiable RX5 6 ∈ gw := gw_of (q_tb_in (j := 1) (List.mem_of_getElem? (i := 123) (by decide +kernel))) rfl
theorem kw_ini5 : Cond.initialized RX5 ∈ gw := gw_of (q_tb_in (j := 1) (List.mem_of_getElem? (i := 6) (by decide +kernel))) rfl
theorem kw_ob5 : Cond.methodLink RX5 3 objectInit ∈ gw := gw_of (q_tb_in (j := 1) (List.mem_of_getElem? (i := 127) (by decide +kernel))) rfl
theorem kw_code6 : Cond.code yX6_init cX6_init 1 none ∈ gw := gw_of (q_tb_in (j := 1) (List.mem_of_getElem? (i := 151) (rfl))) rfl
theorem kw_inst6 : Cond.instanceMethod yX6_init ∈ gw := gw_of (q_tb_in (j := 1) (List.mem_of_getElem? (i := 150) (by decide +kernel))) rfl
theorem kw_able6 : Cond.instantiable RX6 2 ∈ gw := gw_of (q_tb_in (j := 1) (List.mem_of_getElem? (i := 148) (by decide +kernel))) rfl
theorem kw_ini6 : Cond.initialized RX6 ∈ gw := gw_of (q_tb_in (j := 1) (List.mem_of_getElem? (i := 7) (by decide +kernel))) rfl
theorem kw_ob6 : Cond.methodLink RX6 3 objectInit ∈ gw := gw_of (q_tb_in (j := 1) (List.mem_of_getElem? (i := 152) (by decide +kernel))) rfl
theorem kw_code7 : Cond.code yX7_init cX7_init 1 none ∈ gw := gw_of (q_tb_in (j := 1) (List.mem_of_getElem? (i := 70) (rfl))) rfl
theorem kw_inst7 : Cond.instanceMethod yX7_init ∈ gw := gw_of (q_tb_in (j := 1) (List.mem_of_getElem? (i := 69) (by decide +kernel))) rfl
theorem kw_able7 : Cond.instantiable RX7 2 ∈ gw := gw_of (q_tb_in (j := 1) (List.mem_of_getElem? (i := 67) (by decide +kernel))) rfl
theorem kw_ini7 : Cond.initialized RX7 ∈ gw := gw_of (q_tb_in (j := 1) (List.mem_of_getElem? (i := 4) (by decide +kernel))) rfl
theorem kw_ob7 : Cond.methodLink RX7 3 objectInit ∈ gw := gw_of (q_tb_in (j := 1) (List.mem_of_getElem? (i := 71) (by decide +kernel))) rfl
theorem kw_code8 : Cond.code yX8_init cX8_init 4 none ∈ gw := gw_of (q_tb_in (j := 1) (List.mem_of_getElem? (i := 209) (rfl))) rfl
theorem kw_inst8 : Cond.instanceMethod yX8_init ∈ gw := gw_of (q_tb_in (j := 1) (List.mem_of_getElem? (i := 208) (by decide +kernel))) rfl
theorem kw_able8 : Cond.instantiable RX8 7 ∈ gw := gw_of (q_tb_in (j := 1) (List.mem_of_getElem? (i := 206) (by decide +kernel))) rfl
theorem kw_ini8 : Cond.initialized RX8 ∈ gw := gw_of (q_tb_in (j := 1) (List.mem_of_getElem? (i := 9) (by decide +kernel))) rfl
theorem kw_ob8 : Cond.methodLink RX8 3 objectInit ∈ gw := gw_of (q_tb_in (j := 1) (List.mem_of_getElem? (i := 210) (by decide +kernel))) rfl
theorem kw_code9 : Cond.code yX9_init cX9_init 3 none ∈ gw := gw_of (q_tb_in (j := 2) (List.mem_of_getElem? (i := 52) (rfl))) rfl
theorem kw_inst9 : Cond.instanceMethod yX9_init ∈ gw := gw_of (q_tb_in (j := 2) (List.mem_of_getElem? (i := 51) (by decide +kernel))) rfl
theorem kw_able9 : Cond.instantiable RX9 2 ∈ gw := gw_of (q_tb_in (j := 2) (List.mem_of_getElem? (i := 49) (by decide +kernel))) rfl
theorem kw_ini9 : Cond.initialized RX9 ∈ gw := gw_of (q_tb_in (j := 1) (List.mem_of_getElem? (i := 12) (by decide +kernel))) rfl
theorem kw_ob9 : Cond.methodLink RX9 3 objectInit ∈ gw := gw_of (q_tb_in (j := 2) (List.mem_of_getElem? (i := 53) (by decide +kernel))) rfl
theorem kw_code10 : Cond.code yX10_init cX10_init 1 none ∈ gw := gw_of (q_tb_in (j := 1) (List.mem_of_getElem? (i := 26) (rfl))) rfl
theorem kw_inst10 : Cond.instanceMethod yX10_init ∈ gw := gw_of (q_tb_in (j := 1) (List.mem_of_getElem? (i := 25) (by decide +kernel))) rfl
theorem kw_able10 : Cond.instantiable RX10 17 ∈ gw := gw_of (q_tb_in (j := 1) (List.mem_of_getElem? (i := 23) (by decide +kernel))) rfl
theorem kw_ini10 : Cond.initialized RX10 ∈ gw := gw_of (q_tb_in (j := 1) (List.mem_of_getElem? (i := 1) (by decide +kernel))) rfl
theorem kw_ob10 : Cond.methodLink RX10 3 objectInit ∈ gw := gw_of (q_tb_in (j := 1) (List.mem_of_getElem? (i := 27) (by decide +kernel))) rfl
theorem kw_code11 : Cond.code yX11_init cX11_init 2 none ∈ gw := gw_of (q_tb_in (j := 4) (List.mem_of_getElem? (i := 204) (rfl))) rfl
theorem kw_inst11 : Cond.instanceMethod yX11_init ∈ gw := gw_of (q_tb_in (j := 4) (List.mem_of_getElem? (i := 203) (by decide +kernel))) rfl
theorem kw_able11 : Cond.instantiable RX11 65 ∈ gw := gw_of (q_tb_in (j := 4) (List.mem_of_getElem? (i := 201) (by decide +kernel))) rfl
theorem kw_ini11 : Cond.initialized RX11 ∈ gw := gw_of (q_tb_in (j := 1) (List.mem_of_getElem? (i := 13) (by decide +kernel))) rfl
theorem kw_ob11 : Cond.methodLink RX11 1 objectInit ∈ gw := gw_of (q_tb_in (j := 4) (List.mem_of_getElem? (i := 205) (by decide +kernel))) rfl
theorem kw_fc : Cond.code yJ7_fill_53178 cJ7_fill_53178 4 none ∈ gw := gw_of (q_tb_in (j := 1) (List.mem_of_getElem? (i := 38) (rfl))) rfl
theorem kw_fs : Cond.static yJ7_fill_53178 ∈ gw := gw_of (q_tb_in (j := 1) (List.mem_of_getElem? (i := 37) (by decide +kernel))) rfl
theorem kw_fi : Cond.initialized RJ7 ∈ gw := gw_of (q_tb_in (j := 1) (List.mem_of_getElem? (i := 3) (by decide +kernel))) rfl
theorem dJ7_fill_53178_0 : decode cJ7_fill_53178 0 = .ok (.iconst 0, 1) := by decide +kernel
theorem dJ7_fill_53178_1 : decode cJ7_fill_53178 1 = .ok (.istore_n 2, 1) := by decide +kernel
theorem dJ7_fill_53178_2 : decode cJ7_fill_53178 2 = .ok (.aload_n 0, 1) := by decide +kernel
theorem dJ7_fill_53178_3 : decode cJ7_fill_53178 3 = .ok (.arraylength, 1) := by decide +kernel
theorem dJ7_fill_53178_4 : decode cJ7_fill_53178 4 = .ok (.istore_n 3, 1) := by decide +kernel
theorem dJ7_fill_53178_5 : decode cJ7_fill_53178 5 = .ok (.iload_n 2, 1) := by decide +kernel
theorem dJ7_fill_53178_6 : decode cJ7_fill_53178 6 = .ok (.iload_n 3, 1) := by decide +kernel
theorem dJ7_fill_53178_7 : decode cJ7_fill_53178 7 = .ok (.if_icmp .ge 13, 3) := by decide +kernel
theorem dJ7_fill_53178_10 : decode cJ7_fill_53178 10 = .ok (.aload_n 0, 1) := by decide +kernel
theorem dJ7_fill_53178_11 : decode cJ7_fill_53178 11 = .ok (.iload_n 2, 1) := by decide +kernel
theorem dJ7_fill_53178_12 : decode cJ7_fill_53178 12 = .ok (.iload_n 1, 1) := by decide +kernel
theorem dJ7_fill_53178_13 : decode cJ7_fill_53178 13 = .ok (.iastore, 1) := by decide +kernel
theorem dJ7_fill_53178_14 : decode cJ7_fill_53178 14 = .ok (.iinc 2 1, 3) := by decide +kernel
theorem dJ7_fill_53178_17 : decode cJ7_fill_53178 17 = .ok (.goto (-12), 3) := by decide +kernel
theorem dJ7_fill_53178_20 : decode cJ7_fill_53178 20 = .ok (.return_, 1) := by decide +kernel
def kC (p : Program) (s : State) (m : MethodId) (args : Array Value) (c : Code) (cc : ByteArray) (nL : Nat) (own : String) (ca : Nat → ClassId) (dC : Nat → ClassId) (dI : Nat → Nat → Nat) (A : Nat → Prop) : Prop := p.tables.exec = Jvm.exec ∧ c.code = cc ∧ c.maxLocals = nL ∧ s.vm.findClass own = some m.cls ∧ (∀ w ∈ gw, w.before args s = true) ∧ va_K (dC, dI) q_cl (q_tys ca) s ∧ ∀ q : Nat, s.heap.size ≤ q → A q
theorem kc_ra {ca : Nat → ClassId} {dC : Nat → ClassId} {dI : Nat → Nat → Nat} {s : State} {cA : ClassId} {ty : FieldType} {k : Nat} (h : va_K (dC, dI) q_cl (q_tys ca ++ [(cA, ty)]) s) (hk : (q_tys ca)[k]? = some (ca k, ty)) (ht : ∀ C, ty ≠ .object C) : cA = ca k := by
  have h1 := (h.2 4 (cA, ty) rfl).2
  have hl : k < (q_tys ca).length := (List.getElem?_eq_some_iff.mp hk).1
  have h2 := (h.2 k (ca k, ty) (by rw [List.getElem?_append_left hl]; exact hk)).2
  cases ty with
  | object C => exact absurd rfl (ht C)
  | byte => exact Option.some.inj (h1.symm.trans h2)
  | char => exact Option.some.inj (h1.symm.trans h2)
  | double => exact Option.some.inj (h1.symm.trans h2)
  | float => exact Option.some.inj (h1.symm.trans h2)
  | int => exact Option.some.inj (h1.symm.trans h2)
  | long => exact Option.some.inj (h1.symm.trans h2)
  | short => exact Option.some.inj (h1.symm.trans h2)
  | boolean => exact Option.some.inj (h1.symm.trans h2)
  | array t => exact Option.some.inj (h1.symm.trans h2)
theorem kc_join {A0 : Nat → Prop} {D : va_G} {cl : List vw_C} {w0 w1 : va_W} {a : Nat} {x : va_E} {H H1 : Heap} (hP : va_P D cl (w0 ++ [(a, x)]) H) (hD : va_D A0 (w0 ++ [(a, x)])) (hk : ∀ q : Nat, q < H.size → ¬ va_A [(a, x)] H.size q → H1[q]? = H[q]?) (hF : ∀ q, va_A [(a, x)] H.size q → A0 q) (hP1 : va_P D cl w1 H1) (hD1 : va_D (va_A [(a, x)] H.size) w1) : va_P D cl (w0 ++ w1) H1 ∧ va_D A0 (w0 ++ w1) := by
  have ha : (w0 ++ [(a, x)])[w0.length]? = some (a, x) := by rw [List.getElem?_append_right (Nat.le_refl _), Nat.sub_self]; rfl
  have in0 : ∀ (k : Nat) (q : Nat × va_E), w0[k]? = some q → (w0 ++ [(a, x)])[k]? = some q := fun k q h => by
    rw [List.getElem?_append_left (List.getElem?_eq_some_iff.mp h).1]; exact h
  have apart : ∀ (k : Nat) (q : Nat × va_E), w0[k]? = some q → q.1 < H.size ∧ ¬ va_A [(a, x)] H.size q.1 := by
    intro k q h
    have hl := (hP k q (in0 k q h)).lt
    refine ⟨hl, ?_⟩
    rintro (⟨j, e, hj⟩ | hj)
    · rcases j with _ | j
      · have e1 : a = q.1 := by cases hj; rfl
        have := hD.1 _ _ _ _ (in0 k q h) ha e1.symm
        have := (List.getElem?_eq_some_iff.mp h).1
        omega
      · cases hj
    · omega
  refine ⟨va_P.app (fun k q h => (hP k q (in0 k q h)).kept (hk q.1 (apart k q h).1 (apart k q h).2)) hP1, va_D.app ⟨fun i j p q h1 h2 e => hD.1 i j p q (in0 i p h1) (in0 j q h2) e, fun k q h => hD.2 k q (in0 k q h)⟩ (hD1.weaken (fun k q _ h => hF q.1 h)) (fun i j p q h1 h2 e => (apart i p h1).2 (by rw [e]; exact hD1.2 j q h2))⟩
def kIn (dC : Nat → ClassId) (dI : Nat → Nat → Nat) (ca : Nat → ClassId) (sz h0 : Nat) (x : va_E) (U : State) : Prop := U.heap.size = sz ∧ va_P (dC, dI) q_cl [(h0, x)] U.heap ∧ va_K (dC, dI) q_cl (q_tys ca) U ∧ va_D (fun _ => True) [(h0, x)]
def kOut (dC : Nat → ClassId) (dI : Nat → Nat → Nat) (ca : Nat → ClassId) (A : Nat → Prop) (w : va_W) (t : State) : Prop := va_P (dC, dI) q_cl w t.heap ∧ va_K (dC, dI) q_cl (q_tys ca) t ∧ va_D A w
/-- a constructor's (or a static method's) contract: the cell (h0, x) becomes the cells w -/
def kMet (l : Launch) (dC : Nat → ClassId) (dI : Nat → Nat → Nat) (ca : Nat → ClassId) (y : MethodName) (cc : ByteArray) (nL : Nat) (rm : Room) (x : va_E) (As : List Value) (w : Nat → (Nat → Nat) → va_W) (mc ms : Nat) : Prop := ∀ h0 sz : Nat, Met l y (Cond.code y cc nL none :: gw) rm (va_Pc (.ref h0 :: As) (kIn dC dI ca sz h0 x)) (va_Qv (fun _ : Nat → Nat => True) (fun q t => kOut dC dI ca (va_A [(h0, x)] sz) (w h0 q) t) (va_A [(h0, x)] sz)) mc ms (va_A [(h0, x)] sz)
section
variable {p : Program} {l : Launch} {e : Env} {R : Room} {s : State} {m : MethodId} {args : Array Value} {below : List Frame} {meth : Method} {c : Code} {H : Heap} {locs : List Loc} {cells slots : Nat} {Q : State → Prop} {cc : ByteArray} {nL pc : Nat} {ls : Array Slot} {rest : List Value} {own : String} {ca : Nat → ClassId} {dC : Nat → ClassId} {dI : Nat → Nat → Nat} {A : Nat → Prop} {ws : va_W}
theorem kc_newi (X : kC p s m args c cc nL own ca dC dI A) (hP : va_P (dC, dI) q_cl ws H) (hD : va_D A ws) (hS : va_S A s.heap H locs) {n : Int32} {N : Nat} (hn : ¬ n < 0) (hN : n.toNatClampNeg = N) (h4 : N * 4 ≤ 536870912) (hcells : cells + 1 ≤ R.cells) (hslots : slots + N ≤ R.slots) (hdg : decode cc pc = .ok (.newarray .int, 2)) (kk : ∀ (q : Nat) (H1 : Heap), va_P (dC, dI) q_cl (ws ++ [(q, .inl (ca 0, N, .inl (fun _ => 0)))]) H1 → va_D A (ws ++ [(q, .inl (ca 0, N, .inl (fun _ => 0)))]) → va_S A s.heap H1 locs → W p l e R s m args below meth c H1 locs (cells + 1) (slots + N) Q (F0 m (pc + 2) ls (.ref q :: rest))) : W p l e R s m args below meth c H locs cells slots Q (F0 m pc ls (.int n :: rest)) := by
  obtain ⟨hx, hb, hml, hown, hts, hK, hA⟩ := X
  refine va_newa (atype := .int) (ty := .int) (a0 := (N, .inl (fun _ => 0))) hx hb (hts _ kw_ai) rfl hK hP hD hS hA (fun cA => rfl) hn hN h4 hcells hslots hdg (fun q cA H1 hK1 hP1 hD1 hS1 => ?_)
  have e0 : cA = ca 0 := kc_ra hK1 rfl (fun C z => by cases z)
  subst e0
  exact kk q H1 hP1 hD1 hS1
theorem kc_newc (X : kC p s m args c cc nL own ca dC dI A) (hP : va_P (dC, dI) q_cl ws H) (hD : va_D A ws) (hS : va_S A s.heap H locs) {n : Int32} {N : Nat} (hn : ¬ n < 0) (hN : n.toNatClampNeg = N) (h4 : N * 2 ≤ 536870912) (hcells : cells + 1 ≤ R.cells) (hslots : slots + N ≤ R.slots) (hdg : decode cc pc = .ok (.newarray .char, 2)) (kk : ∀ (q : Nat) (H1 : Heap), va_P (dC, dI) q_cl (ws ++ [(q, .inl (ca 1, N, .inl (fun _ => 0)))]) H1 → va_D A (ws ++ [(q, .inl (ca 1, N, .inl (fun _ => 0)))]) → va_S A s.heap H1 locs → W p l e R s m args below meth c H1 locs (cells + 1) (slots + N) Q (F0 m (pc + 2) ls (.ref q :: rest))) : W p l e R s m args below meth c H locs cells slots Q (F0 m pc ls (.int n :: rest)) := by
  obtain ⟨hx, hb, hml, hown, hts, hK, hA⟩ := X
  refine va_newa (atype := .char) (ty := .char) (a0 := (N, .inl (fun _ => 0))) hx hb (hts _ kw_ac) rfl hK hP hD hS hA (fun cA => rfl) hn hN h4 hcells hslots hdg (fun q cA H1 hK1 hP1 hD1 hS1 => ?_)
  have e0 : cA = ca 1 := kc_ra hK1 rfl (fun C z => by cases z)
  subst e0
  exact kk q H1 hP1 hD1 hS1
theorem kc_newb (X : kC p s m args c cc nL own ca dC dI A) (hP : va_P (dC, dI) q_cl ws H) (hD : va_D A ws) (hS : va_S A s.heap H locs) {n : Int32} {N : Nat} (hn : ¬ n < 0) (hN : n.toNatClampNeg = N) (h4 : N * 1 ≤ 536870912) (hcells : cells + 1 ≤ R.cells) (hslots : slots + N ≤ R.slots) (hdg : decode cc pc = .ok (.newarray .byte, 2)) (kk : ∀ (q : Nat) (H1 : Heap), va_P (dC, dI) q_cl (ws ++ [(q, .inl (ca 2, N, .inl (fun _ => 0)))]) H1 → va_D A (ws ++ [(q, .inl (ca 2, N, .inl (fun _ => 0)))]) → va_S A s.heap H1 locs → W p l e R s m args below meth c H1 locs (cells + 1) (slots + N) Q (F0 m (pc + 2) ls (.ref q :: rest))) : W p l e R s m args below meth c H locs cells slots Q (F0 m pc ls (.int n :: rest)) := by
  obtain ⟨hx, hb, hml, hown, hts, hK, hA⟩ := X
  refine va_newa (atype := .byte) (ty := .byte) (a0 := (N, .inl (fun _ => 0))) hx hb (hts _ kw_ab) rfl hK hP hD hS hA (fun cA => rfl) hn hN h4 hcells hslots hdg (fun q cA H1 hK1 hP1 hD1 hS1 => ?_)
  have e0 : cA = ca 2 := kc_ra hK1 rfl (fun C z => by cases z)
  subst e0
  exact kk q H1 hP1 hD1 hS1
theorem kc_put {a b k idx q0 : Nat} {fs : List Value} {v : Value} {ty : FieldType} (X : kC p s m args c cc nL own ca dC dI A) (hin : meth.name = "<init>") (hP : va_P (dC, dI) q_cl ws H) (hD : va_D A ws) (hS : va_S A s.heap H locs) (he : ws[q0]? = some (a, .inr (b, fs))) (hb : b < 12) (hk : k < (q_T b).2.2) (hlk : Cond.fieldLink own idx ((q_T b).2.1 k).1 ((q_T b).2.1 k).2.1 ((q_T b).2.1 k).2.2.1 ∈ gw) (hdecl : ((q_T b).2.1 k).1 = own) (hd : parseFieldDescriptor ((q_T b).2.1 k).2.2.1 = some ty) (hn : narrow ty v = v) (hfit : fits ty v = true) (hl : k < fs.length) (hdg : decode cc pc = .ok (.putfield idx, 3)) (kk : ∀ (H1 : Heap) (locs1 : List Loc), va_P (dC, dI) q_cl (ws.set q0 (a, .inr (b, fs.set k v))) H1 → va_D A (ws.set q0 (a, .inr (b, fs.set k v))) → va_S A s.heap H1 locs1 → W p l e R s m args below meth c H1 locs1 cells slots Q (F0 m (pc + 3) ls rest)) : W p l e R s m args below meth c H locs cells slots Q (F0 m pc ls (v :: .ref a :: rest)) := by
  obtain ⟨hx, hbc, hml, hown, hts, hK, hA⟩ := X
  cases hfin : ((q_T b).2.1 k).2.2.2 with
  | true => exact va_putF (D := (dC, dI)) (C := (q_T b).1) (T := (q_T b).2.1) (N := (q_T b).2.2) hx hbc hts (q_T_ws hb) _ (q_cl_ty _ (q_T_in hb)) (q_cl_nm _ (q_T_in hb)) hown hK hP hD hS q0 he (q_cl_at hb) k hk (hts _ hlk) (fun _ h9 => h9) hfin hin hdecl hd hn hfit hl hdg kk
  | false => exact va_put (D := (dC, dI)) (C := (q_T b).1) (T := (q_T b).2.1) (N := (q_T b).2.2) hx hbc hts (q_T_ws hb) _ (q_cl_ty _ (q_T_in hb)) (q_cl_nm _ (q_T_in hb)) hown hK hP hD hS q0 he (q_cl_at hb) k hk (hts _ hlk) (fun _ h9 => h9) hfin hd hn hfit hl hdg kk
theorem kc_get {a b k idx q0 : Nat} {fs : List Value} {v : Value} (X : kC p s m args c cc nL own ca dC dI A) (hP : va_P (dC, dI) q_cl ws H) (he : ws[q0]? = some (a, .inr (b, fs))) (hb : b < 12) (hk : k < (q_T b).2.2) (hlk : Cond.fieldLink own idx ((q_T b).2.1 k).1 ((q_T b).2.1 k).2.1 ((q_T b).2.1 k).2.2.1 ∈ gw) (hv : fs[k]? = some v) (hdg : decode cc pc = .ok (.getfield idx, 3)) (kk : W p l e R s m args below meth c H locs cells slots Q (F0 m (pc + 3) ls (v :: rest))) : W p l e R s m args below meth c H locs cells slots Q (F0 m pc ls (.ref a :: rest)) := by
  obtain ⟨hx, hbc, hml, hown, hts, hK, hA⟩ := X
  exact va_get (D := (dC, dI)) (C := (q_T b).1) (T := (q_T b).2.1) (N := (q_T b).2.2) hx hbc hts (q_T_ws hb) hown hK hP q0 he (q_cl_at hb) k hk (hts _ hlk) (fun _ h9 => h9) hv hdg kk
theorem kc_obj {a idx : Nat} (X : kC p s m args c cc nL own ca dC dI A) (hls : ls.size = nL) (hlk : Cond.methodLink own idx objectInit ∈ gw) (hf : 1 ≤ R.frames) (hlo : 30 ≤ R.locals) (hr : (rest.map fun v => v.category).sum ≤ 8) (hdg : decode cc pc = .ok (.invokespecial idx, 3)) (kk : W p l e R s m args below meth c H locs cells slots Q (F0 m (pc + 3) ls rest)) : W p l e R s m args below meth c H locs cells slots Q (F0 m pc ls (.ref a :: rest)) := by
  obtain ⟨hx, hbc, hml, hown, hts, hK, hA⟩ := X
  have := lv_room (m := m) (pc := pc) (ls := ls) (rest := .ref a :: rest) hr
  exact W.objInit hx hbc hown (hts _ hlk) (hts _ kw_oi) (hts _ kw_oc) rfl (by rw [hml]; exact hls) rfl hdg hf (by omega) kk
theorem kc_new {b N idx : Nat} {fs : List Value} (X : kC p s m args c cc nL own ca dC dI A) (hP : va_P (dC, dI) q_cl ws H) (hD : va_D A ws) (hS : va_S A s.heap H locs) (hb : b < 12) (hN : (q_T b).2.2 = N) (hcl : Cond.classLink own idx (q_T b).1 ∈ gw) (hab : Cond.instantiable (q_T b).1 (q_T b).2.2 ∈ gw) (hini : Cond.initialized (q_T b).1 ∈ gw) (hfs : ∀ j, j < (q_T b).2.2 → defaultValue ((parseFieldDescriptor ((q_T b).2.1 j).2.2.1).getD .int) = vp_V fs j) (hcells : cells + 1 ≤ R.cells) (hslots : slots + N ≤ R.slots) (hdg : decode cc pc = .ok (.new idx, 3)) (kk : ∀ (q : Nat) (H1 : Heap), va_P (dC, dI) q_cl (ws ++ [(q, .inr (b, fs))]) H1 → va_D A (ws ++ [(q, .inr (b, fs))]) → va_S A s.heap H1 locs → W p l e R s m args below meth c H1 locs (cells + 1) (slots + N) Q (F0 m (pc + 3) ls (.ref q :: rest))) : W p l e R s m args below meth c H locs cells slots Q (F0 m pc ls rest) := by
  obtain ⟨hx, hbc, hml, hown, hts, hK, hA⟩ := X
  subst hN
  exact va_new (D := (dC, dI)) (C := (q_T b).1) (T := (q_T b).2.1) (N := (q_T b).2.2) hx hbc hts (q_T_ws hb) _ (q_cl_ty _ (q_T_in hb)) hown (hts _ hcl) (hts _ hab) (hts _ hini) hK hP hD hS hA (q_cl_at hb) hfs hcells hslots hdg kk
theorem kIn_blind {x : va_E} {av : List Value} {sz h0 : Nat} : FrameBlind (va_Pc av (kIn dC dI ca sz h0 x)) := fun a U g mk q => ⟨q.1, q.2.1, q.2.2.1, va_K.moved (u := U) (U := U.calling g mk a) (Vm.Alike.refl U.vm) q.2.2.2.1, q.2.2.2.2⟩
/-- the end of a call that makes cells -/
theorem kc_back {w0 : va_W} {a : Nat} {x : va_E} {W1 : (Nat → Nat) → va_W} {av : Array Value} {mc ms : Nat} {st0 : List Value} (X : kC p s m args c cc nL own ca dC dI A) (hP : va_P (dC, dI) q_cl (w0 ++ [(a, x)]) H) (hD : va_D A (w0 ++ [(a, x)])) (hS : va_S A s.heap H locs) (hr : va_Run p l e R s m args below meth c H locs cells slots mc ms (F0 m pc ls st0) rest (va_Qv (fun _ : Nat → Nat => True) (fun q t => kOut dC dI ca (va_A [(a, x)] H.size) (W1 q) t) (va_A [(a, x)] H.size) av) (va_A [(a, x)] H.size)) (kk : ∀ (q : Nat → Nat) (H1 : Heap) (locs1 : List Loc), va_P (dC, dI) q_cl (w0 ++ W1 q) H1 → va_D A (w0 ++ W1 q) → va_S A s.heap H1 locs1 → W p l e R s m args below meth c H1 locs1 (cells + mc) (slots + ms) Q (F0 m (pc + 3) ls rest)) : W p l e R s m args below meth c H locs cells slots Q (F0 m pc ls st0) := by
  have hA := X.2.2.2.2.2.2
  have ha : (w0 ++ [(a, x)])[w0.length]? = some (a, x) := by rw [List.getElem?_append_right (Nat.le_refl _), Nat.sub_self]; rfl
  have hF : ∀ q, va_A [(a, x)] H.size q → A q := by
    rintro q (⟨j, e, hj⟩ | hj)
    · rcases j with _ | j
      · have e1 : a = q := by cases hj; rfl
        rw [← e1]
        exact hD.2 _ _ ha
      · cases hj
    · exact hA q (Nat.le_trans hS.1 hj)
  refine va_callv hr hS (fun q _ h => hF q h) hF (fun u t H1 locs1 ht hvm hw hB hz1 hk1 hS1 => ?_)
  obtain ⟨hP1, hK1, hD1⟩ := hB
  rw [ht] at hP1
  obtain ⟨hP2, hD2⟩ := kc_join hP hD hk1 hF hP1 hD1
  exact kk u H1 locs1 hP2 hD2 hS1
theorem kc_pre {w0 : va_W} {a : Nat} {x : va_E} {As : List Value} (X : kC p s m args c cc nL own ca dC dI A) (hP : va_P (dC, dI) q_cl (w0 ++ [(a, x)]) H) : PreS s H (va_Pc (.ref a :: As) (kIn dC dI ca H.size a x)) (.ref a :: As) := by
  have ha : (w0 ++ [(a, x)])[w0.length]? = some (a, x) := by rw [List.getElem?_append_right (Nat.le_refl _), Nat.sub_self]; rfl
  refine ⟨kIn_blind, fun U hU hW => ⟨rfl, by rw [hU], ?_, va_K.moved hW.alike X.2.2.2.2.2.1, ?_, fun _ _ _ => trivial⟩⟩
  · rw [hU]
    intro k q hk
    rcases k with _ | k
    · cases hk; exact hP _ _ ha
    · cases hk
  · intro i j p q h1 h2 _
    rcases i with _ | i
    · rcases j with _ | j
      · rfl
      · cases h2
    · cases h1
theorem kc_gw (hts : ∀ w ∈ gw, w.before args s = true) {y : MethodName} {b : ByteArray} {n : Nat} {r : Option FieldType} (hcode : Cond.code y b n r ∈ gw) : ∀ w ∈ (Cond.code y b n r :: gw), ∀ (a' : Array Value) (U : State), s.WarmedH U.vm → w.before a' U = true := fun w hw a' U hW => gw_at hts hW w ((List.mem_cons.mp hw).elim (fun h => by rw [h]; exact hcode) id)
theorem kc_init {w0 : va_W} {a idx n maxL mc ms : Nat} {x : va_E} {As st0 : List Value} {y : MethodName} {b : ByteArray} {rm : Room} {W1 : Nat → (Nat → Nat) → va_W} (X : kC p s m args c cc nL own ca dC dI A) (hls : ls.size = nL) (hM : kMet l dC dI ca y b maxL rm x As W1 mc ms) (hmc : rm.cells = mc ∧ rm.slots = ms) (hR : rm.frames + 1 ≤ R.frames ∧ 8 + (maxL + 11) + rm.locals ≤ R.locals) (hcode : Cond.code y b maxL none ∈ gw) (hini : Cond.initialized y.cls ∈ gw) (hmh : y.cls ≠ "java/lang/invoke/MethodHandle" ∧ y.cls ≠ "java/lang/invoke/VarHandle") (hdes : (parseMethodDescriptor y.desc).map (fun d => d.parameters.length) = some n) (hnm : y.name = "<init>") (hinst : Cond.instanceMethod y ∈ gw) (hlk : Cond.methodLink own idx y ∈ gw) (hn : As.length = n) (hst : st0 = As.reverse ++ .ref a :: rest) (hrest : (rest.map fun v => v.category).sum ≤ 8) (hP : va_P (dC, dI) q_cl (w0 ++ [(a, x)]) H) (hD : va_D A (w0 ++ [(a, x)])) (hS : va_S A s.heap H locs) (hdg : decode cc pc = .ok (.invokespecial idx, 3)) (hf : cells + mc ≤ R.cells ∧ slots + ms ≤ R.slots) (kk : ∀ (q : Nat → Nat) (H1 : Heap) (locs1 : List Loc), va_P (dC, dI) q_cl (w0 ++ W1 a q) H1 → va_D A (w0 ++ W1 a q) → va_S A s.heap H1 locs1 → W p l e R s m args below meth c H1 locs1 (cells + mc) (slots + ms) Q (F0 m (pc + 3) ls rest)) : W p l e R s m args below meth c H locs cells slots Q (F0 m pc ls st0) := by
  have X' := X
  obtain ⟨hx, hbc, hml, hown, hts, hK, hA⟩ := X'
  have cw : CallB R s args own idx y b maxL none (Cond.code y b maxL none :: gw) rm mc ms n ∧ y.name = "<init>" ∧ (Cond.instanceMethod y).before args s = true :=
    ⟨⟨hmc.1, hmc.2, hR.1, hR.2, kc_gw hts hcode, List.mem_cons_self, hts _ hcode, hts _ hini, hmh, fun sig h => by
      rw [h] at hdes
      exact (Option.some.inj hdes).symm, hts _ hlk⟩, hnm, hts _ hinst⟩
  exact kc_back X hP hD hS (va_runI (As := As) (rest := rest) (g := F0 m pc ls st0) ⟨hx, hbc, hml, hown, hts⟩ (hM a H.size) cw (kc_pre X hP) rfl hn hls hst (lv_room hrest) hdg hf) kk
theorem kc_initN {w0 : va_W} {a idx n maxL mc ms : Nat} {x : va_E} {As st0 : List Value} {y : MethodName} {b : ByteArray} {rm : Room} {host : String} {W1 : Nat → (Nat → Nat) → va_W} (X : kC p s m args c cc nL own ca dC dI A) (hls : ls.size = nL) (hM : kMet l dC dI ca y b maxL rm x As W1 mc ms) (hmc : rm.cells = mc ∧ rm.slots = ms) (hR : rm.frames + 1 ≤ R.frames ∧ 8 + (maxL + 11) + rm.locals ≤ R.locals) (hcode : Cond.code y b maxL none ∈ gw) (hini : Cond.initialized y.cls ∈ gw) (hmh : y.cls ≠ "java/lang/invoke/MethodHandle" ∧ y.cls ≠ "java/lang/invoke/VarHandle") (hdes : (parseMethodDescriptor y.desc).map (fun d => d.parameters.length) = some n) (hnm : y.name = "<init>") (hinst : Cond.instanceMethod y ∈ gw) (hlk : va_Nw (.methodLinkNest own idx y host) s) (hn : As.length = n) (hst : st0 = As.reverse ++ .ref a :: rest) (hrest : (rest.map fun v => v.category).sum ≤ 8) (hP : va_P (dC, dI) q_cl (w0 ++ [(a, x)]) H) (hD : va_D A (w0 ++ [(a, x)])) (hS : va_S A s.heap H locs) (hdg : decode cc pc = .ok (.invokespecial idx, 3)) (hf : cells + mc ≤ R.cells ∧ slots + ms ≤ R.slots) (kk : ∀ (q : Nat → Nat) (H1 : Heap) (locs1 : List Loc), va_P (dC, dI) q_cl (w0 ++ W1 a q) H1 → va_D A (w0 ++ W1 a q) → va_S A s.heap H1 locs1 → W p l e R s m args below meth c H1 locs1 (cells + mc) (slots + ms) Q (F0 m (pc + 3) ls rest)) : W p l e R s m args below meth c H locs cells slots Q (F0 m pc ls st0) := by
  have X' := X
  obtain ⟨hx, hbc, hml, hown, hts, hK, hA⟩ := X'
  have hgood : GoodIn gw (Cond.code y b maxL none :: gw) := fun w hw => by
    have hm : w ∈ gw := (List.mem_cons.mp hw).elim (fun h => by rw [h]; exact hcode) id
    exact ⟨hm, gw_good w hm⟩
  exact kc_back X hP hD hS (va_runIN (As := As) (rest := rest) (g := F0 m pc ls st0) ⟨hx, hbc, hml, hown, hts⟩ (hM a H.size) ⟨va_cnB n hts hgood rfl hmc.1 hmc.2 hlk (hts _ hini) ⟨hmh.1, hmh.2, hdes⟩ hR, hnm, hts _ hinst⟩ (kc_pre X hP) rfl hn hls hst (lv_room hrest) hdg hf) kk
theorem kc_fill {w0 : va_W} {a idx N : Nat} {f : Nat → Int32} {v : Int32} {rm : Room} {W1 : Nat → (Nat → Nat) → va_W} (X : kC p s m args c cc nL own ca dC dI A) (hls : ls.size = nL) (hM : kMet l dC dI ca yJ7_fill_53178 cJ7_fill_53178 4 rm (.inl (ca 0, N, .inl f)) [.int v] W1 0 0) (hmc : rm.cells = 0 ∧ rm.slots = 0) (hR : rm.frames + 1 ≤ R.frames ∧ 8 + (4 + 11) + rm.locals ≤ R.locals) (hlk : Cond.methodLink own idx yJ7_fill_53178 ∈ gw) (hrest : (rest.map fun v => v.category).sum ≤ 8) (hP : va_P (dC, dI) q_cl (w0 ++ [(a, .inl (ca 0, N, .inl f))]) H) (hD : va_D A (w0 ++ [(a, .inl (ca 0, N, .inl f))])) (hS : va_S A s.heap H locs) (hdg : decode cc pc = .ok (.invokestatic idx, 3)) (hf : cells ≤ R.cells ∧ slots ≤ R.slots) (kk : ∀ (q : Nat → Nat) (H1 : Heap) (locs1 : List Loc), va_P (dC, dI) q_cl (w0 ++ W1 a q) H1 → va_D A (w0 ++ W1 a q) → va_S A s.heap H1 locs1 → W p l e R s m args below meth c H1 locs1 cells slots Q (F0 m (pc + 3) ls rest)) : W p l e R s m args below meth c H locs cells slots Q (F0 m pc ls (.int v :: .ref a :: rest)) := by
  have X' := X
  obtain ⟨hx, hbc, hml, hown, hts, hK, hA⟩ := X'
  have cw : CallB R s args own idx yJ7_fill_53178 cJ7_fill_53178 4 none (Cond.code yJ7_fill_53178 cJ7_fill_53178 4 none :: gw) rm 0 0 2 ∧ (Cond.static yJ7_fill_53178).before args s = true :=
    ⟨⟨hmc.1, hmc.2, hR.1, hR.2, kc_gw hts kw_fc, List.mem_cons_self, hts _ kw_fc, hts _ kw_fi, ⟨by decide +kernel, by decide +kernel⟩, fun sig h => by
      have hd : (parseMethodDescriptor yJ7_fill_53178.desc).map (fun d => d.parameters.length) = some 2 := by decide +kernel
      rw [h] at hd
      exact (Option.some.inj hd).symm, hts _ hlk⟩, hts _ kw_fs⟩
  exact kc_back X hP hD hS (va_runS (As := [.ref a, .int v]) (rest := rest) (g := F0 m pc ls (.int v :: .ref a :: rest)) ⟨hx, hbc, hml, hown, hts⟩ (hM a H.size) cw (kc_pre (As := [.int v]) X hP) rfl rfl hls rfl (lv_room hrest) hdg hf) kk
end
theorem kc_start {l : Launch} {dC : Nat → ClassId} {dI : Nat → Nat → Nat} {ca : Nat → ClassId} {y : MethodName} {cc : ByteArray} {nL : Nat} {rm : Room} {x : va_E} {As : List Value} {W1 : Nat → (Nat → Nat) → va_W} {mc ms : Nat} (hy : plainName y.cls = true) (hn : (lg_sl As).length + 1 ≤ nL) (body : ∀ (h0 : Nat) (p : Program) (e : Env) (s : State) (m : MethodId) (args : Array Value) (below : List Frame) (meth : Method) (c : Code) (A : Nat → Prop) (ls : Array Slot), kC p s m args c cc nL y.cls ca dC dI A → meth.name = y.name → meth.sig.returnType = none → meth.locks = false → lv_has ls nL (lv_args 0 (.ref h0 :: As)) → va_P (dC, dI) q_cl [(h0, x)] s.heap → va_D A [(h0, x)] → va_S A s.heap s.heap [] → W p l e rm s m args below meth c s.heap [] 0 0 (MQ below (va_Qv (fun _ : Nat → Nat => True) (fun q t => kOut dC dI ca A (W1 h0 q) t) A) args s mc ms A) (F0 m 0 ls [])) : kMet l dC dI ca y cc nL rm x As W1 mc ms := by
  intro h0 sz
  refine Met.ofW (cc := cc) (maxL := nL) (ret := none) hy rfl ?_
  intro p e s m args below meth c s₁ B hml hv
  obtain ⟨rfl, hsz, hP, hK, hD0⟩ := hv
  have hx := B.exec
  have hb := B.bytes
  have hr := B.returns
  have hts := atoms_spec (ws := Cond.code y cc nL none :: gw) B.pre
  have hown : s.vm.findClass y.cls = some m.cls := findClass_of_methodNamed B.named
  have hlocks := B.notSynchronized
  have hnm : meth.name = y.name := (name_of_methodNamed B.named B.method).1
  subst hsz
  have hD := hD0.self (sz := s.heap.size)
  have hA : ∀ q : Nat, s.heap.size ≤ q → va_A [(h0, x)] s.heap.size q := fun q h => Or.inr h
  have hl := lv_entry (.ref h0 :: As) (n := nL) (by show (lg_sl As).length + 1 ≤ nL; exact hn)
  rw [lg_entry_eq]
  exact body h0 p e s m _ below meth c _ _ ⟨hx, hb, hml, hown, fun w hw => hts w (List.mem_cons_of_mem _ hw), hK, hA⟩ hnm hr hlocks hl hP hD va_S.rf
theorem kc_ret {p : Program} {l : Launch} {e : Env} {R : Room} {s : State} {m : MethodId} {args : Array Value} {below : List Frame} {meth : Method} {c : Code} {H : Heap} {locs : List Loc} {cells slots : Nat} {cc : ByteArray} {nL pc : Nat} {ls : Array Slot} {own : String} {ca : Nat → ClassId} {dC : Nat → ClassId} {dI : Nat → Nat → Nat} {A : Nat → Prop} {W1 : (Nat → Nat) → va_W} (X : kC p s m args c cc nL own ca dC dI A) (hr : meth.sig.returnType = none) (hlocks : meth.locks = false) (q : Nat → Nat) (hP : va_P (dC, dI) q_cl (W1 q) H) (hD : va_D A (W1 q)) (hS : va_S A s.heap H locs) (hdg : decode cc pc = .ok (.return_, 1)) : W p l e R s m args below meth c H locs cells slots (MQ below (va_Qv (fun _ : Nat → Nat => True) (fun q t => kOut dC dI ca A (W1 q) t) A) args s cells slots A) (F0 m pc ls []) := by
  obtain ⟨hx, hb, hml, hown, hts, hK, hA⟩ := X
  exact W.vret hx hb hr (fun t ht hW => ⟨⟨q, rfl, trivial, by rw [ht]; exact hP, va_K.moved hW.alike hK, hD⟩, hS.F ht⟩) hS.2.2 hdg hlocks
/-- Arrays.fill -/
theorem kc_fillM (l : Launch) (dC : Nat → ClassId) (dI : Nat → Nat → Nat) (ca : Nat → ClassId) (N : Nat) (hN : N < 2 ^ 31) (f : Nat → Int32) (v : Int32) : kMet l dC dI ca yJ7_fill_53178 cJ7_fill_53178 4 { frames := 0, cells := 0, slots := 0, locals := 0 } (.inl (ca 0, N, .inl f)) [.int v] (fun h0 _ => [(h0, .inl (ca 0, N, .inl (cpy f (fun _ => v) 0 N)))]) 0 0 := by
  refine kc_start (by decide) (Nat.le_of_ble_eq_true rfl) ?_
  intro h0 p e s m args below meth c A ls X hnm hr hlocks hl hP hD hS
  have X' := X
  obtain ⟨hx, hb, hml, hown, hts, hK, hA⟩ := X'
  have hl : lv_has ls 4 [(0, .ref h0), (1, .int v)] := hl
  refine lv_iconst (v := 0) hx hb dJ7_fill_53178_0 (by decide) ?_
  refine lv_istore_n (lv' := [(2, .int 0), (0, .ref h0), (1, .int v)]) hx hb dJ7_fill_53178_1 rfl hl (by decide) rfl (fun ls hl => ?_)
  refine lv_aload_n hx hb dJ7_fill_53178_2 rfl (lv_at hl 1 rfl) ?_
  refine va_alen (v := nI N) hx hb hK hP 0 0 rfl rfl rfl dJ7_fill_53178_3 ?_
  refine lv_istore_n (lv' := [(3, .int (nI N)), (2, .int 0), (0, .ref h0), (1, .int v)]) hx hb dJ7_fill_53178_4 rfl hl (by decide) rfl (fun ls hl => ?_)
  have loop : ∀ j k (H : Heap) (locs : List Loc) (ls : Array Slot) (z : Int32), k + j = N → z = nI k → lv_has ls 4 [(2, .int z), (3, .int (nI N)), (0, .ref h0), (1, .int v)] → va_P (dC, dI) q_cl [(h0, .inl (ca 0, N, .inl (cpy f (fun _ => v) 0 k)))] H → va_D A [(h0, .inl (ca 0, N, .inl (cpy f (fun _ => v) 0 k)))] → va_S A s.heap H locs → W p l e { frames := 0, cells := 0, slots := 0, locals := 0 } s m args below meth c H locs 0 0 (MQ below (va_Qv (fun _ : Nat → Nat => True) (fun q t => kOut dC dI ca A ((fun h0 _ => [(h0, .inl (ca 0, N, .inl (cpy f (fun _ => v) 0 N)))]) h0 q) t) A) args s 0 0 A) (F0 m 5 ls []) := by
    intro j
    induction j with
    | zero =>
      intro k H locs ls z hk hz hl hP hD hS
      refine lv_iload_n hx hb dJ7_fill_53178_5 rfl (lv_at hl 0 rfl) ?_
      refine lv_iload_n hx hb dJ7_fill_53178_6 rfl (lv_at hl 1 rfl) ?_
      refine lv_icmp_ge (tgt := 20) hx hb dJ7_fill_53178_7 (by decide) (fun _ => ?_) (fun q => ?_)
      · have e : k = N := by omega
        subst e
        exact kc_ret X hr hlocks (fun _ => 0) hP hD hS dJ7_fill_53178_20
      · exact absurd (by rw [hz]; exact nI_le (by omega) (by omega)) q
    | succ j ih =>
      intro k H locs ls z hk hz hl hP hD hS
      refine lv_iload_n hx hb dJ7_fill_53178_5 rfl (lv_at hl 0 rfl) ?_
      refine lv_iload_n hx hb dJ7_fill_53178_6 rfl (lv_at hl 1 rfl) ?_
      refine lv_icmp_ge (tgt := 20) hx hb dJ7_fill_53178_7 (by decide) (fun q => ?_) (fun _ => ?_)
      · rw [hz] at q
        exact absurd q (nI_ge (by omega) hN)
      · refine lv_aload_n hx hb dJ7_fill_53178_10 rfl (lv_at hl 2 rfl) ?_
        refine lv_iload_n hx hb dJ7_fill_53178_11 rfl (lv_at hl 0 rfl) ?_
        refine lv_iload_n hx hb dJ7_fill_53178_12 rfl (lv_at hl 3 rfl) ?_
        refine va_iast hx hb hK hP hD hS 0 0 rfl rfl (by rw [hz]; exact vp_in_nI (by omega) hN) dJ7_fill_53178_13 (fun H locs hP hD hS => ?_)
        obtain ⟨z2, ez2⟩ : ∃ y : Int32, y = z + 1 := ⟨_, rfl⟩
        refine lv_iinc (v := z2) (lv' := [(2, .int z2), (3, .int (nI N)), (0, .ref h0), (1, .int v)]) hx hb dJ7_fill_53178_14 hl (k := 0) rfl (by rw [ez2]; rfl) (by decide) rfl (fun ls hl => ?_)
        refine lv_goto (tgt := 5) hx hb dJ7_fill_53178_17 (by decide) ?_
        have e1 : upd (cpy f (fun _ => v) 0 k) z.toNatClampNeg v = cpy f (fun _ => v) 0 (k + 1) := by
          rw [hz, cl_nI (by omega)]
          have := cpy_s f (fun _ => v) 0 k
          rw [Nat.zero_add] at this
          exact this
        have hP : va_P (dC, dI) q_cl [(h0, .inl (ca 0, N, .inl (upd (cpy f (fun _ => v) 0 k) z.toNatClampNeg v)))] H := hP
        have hD : va_D A [(h0, .inl (ca 0, N, .inl (upd (cpy f (fun _ => v) 0 k) z.toNatClampNeg v)))] := hD
        rw [e1] at hP hD
        exact ih (k + 1) H locs ls z2 (by omega) (by rw [ez2, hz]; exact nI_1 k) hl hP hD hS
  have hP : va_P (dC, dI) q_cl [(h0, .inl (ca 0, N, .inl (cpy f (fun _ => v) 0 0)))] s.heap := by rw [cpy_0]; exact hP
  have hD : va_D A [(h0, .inl (ca 0, N, .inl (cpy f (fun _ => v) 0 0)))] := by rw [cpy_0]; exact hD
  exact loop N 0 s.heap [] ls 0 (by omega) rfl (lv_sub hl [1, 0, 2, 3] rfl) hP hD hS
