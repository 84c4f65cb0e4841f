theorem q_lk60 : Cond.fieldLink RX3 60 "BellHours$Law" "LEAST" "[I" ∈ gw := gw_of (q_tb_in (j := 3) (List.mem_of_getElem? (i := 153) (by decide +kernel))) rfl
theorem q_lk63 : Cond.fieldLink RX3 63 "BellHours$Law" "MOST" "[I" ∈ gw := gw_of (q_tb_in (j := 3) (List.mem_of_getElem? (i := 155) (by decide +kernel))) rfl
theorem q_wmx1 : Cond.static Lib.Math.max.name ∈ gw := gw_of (q_tb_in (j := 2) (List.mem_of_getElem? (i := 199) (by decide +kernel))) rfl
theorem q_wmx2 : Cond.initialized "java/lang/Math" ∈ gw := gw_of (q_tb_in (j := 1) (List.mem_of_getElem? (i := 14) (by decide +kernel))) rfl
theorem q_wmx3 : Cond.code Lib.Math.max.name Lib.Math.max.code 2 (some .int) ∈ gw := gw_of (q_tb_in (j := 2) (List.mem_of_getElem? (i := 200) (rfl))) rfl
theorem q_wmn1 : Cond.static Lib.Math.min.name ∈ gw := gw_of (q_tb_in (j := 2) (List.mem_of_getElem? (i := 158) (by decide +kernel))) rfl
theorem q_wmn3 : Cond.code Lib.Math.min.name Lib.Math.min.code 2 (some .int) ∈ gw := gw_of (q_tb_in (j := 2) (List.mem_of_getElem? (i := 159) (rfl))) rfl
theorem q_wac1 : Cond.native arraycopyName ∈ gw := gw_of (q_tb_in (j := 3) (List.mem_of_getElem? (i := 85) (by decide +kernel))) rfl
theorem q_wac2 : Cond.static arraycopyName ∈ gw := gw_of (q_tb_in (j := 3) (List.mem_of_getElem? (i := 84) (by decide +kernel))) rfl
theorem q_wac3 : Cond.initialized "java/lang/System" ∈ gw := gw_of (q_tb_in (j := 1) (List.mem_of_getElem? (i := 20) (by decide +kernel))) rfl
theorem q_wix1 : Cond.instanceMethod yJ0_indexOf_0f7a4 ∈ gw := gw_of (q_tb_in (j := 2) (List.mem_of_getElem? (i := 171) (by decide +kernel))) rfl
theorem q_wix2 : Cond.selects RJ0 yJ0_indexOf_0f7a4 yJ0_indexOf_0f7a4 ∈ gw := gw_of (q_tb_in (j := 2) (List.mem_of_getElem? (i := 172) (by decide +kernel))) rfl
theorem q_wix3 : Cond.initialized RJ0 ∈ gw := gw_of (q_tb_in (j := 1) (List.mem_of_getElem? (i := 15) (by decide +kernel))) rfl
theorem q_wix4 : Cond.code yJ0_indexOf_0f7a4 cJ0_indexOf_0f7a4 2 (some .int) ∈ gw := gw_of (q_tb_in (j := 2) (List.mem_of_getElem? (i := 173) (rfl))) rfl
theorem gw_good : ∀ w ∈ gw, ((w.onTables && w.keeps) = true ∨ ∃ ty, w = .arrayClass ty) := fun w h => good_of_word (List.mem_filter.mp h).2
theorem gw_at {s U : State} {args a' : Array Value} (hts : ∀ w ∈ gw, w.before args s = true) (hW : s.WarmedH U.vm) : ∀ w ∈ gw, w.before a' U = true := fun w h => word_at hW (gw_good w h) (hts w h)
set_option maxRecDepth 100000 in
theorem q_cl_in : ∀ r ∈ q_cl, ∀ w ∈ u_ws r.1 r.2.1 r.2.2, w ∈ tables_1_1 ∨ w ∈ tables_1_4 ∨ w ∈ tables_1_5 ∨ w ∈ tables_1_2 ∨ w ∈ tables_1_3 ∨ w ∈ tables_1_6 ∨ w ∈ tables_1_7 := by decide +kernel
set_option maxRecDepth 100000 in
theorem q_cl_nm : ∀ r ∈ q_cl, ∀ a, a < r.2.2 → ∀ b, b < r.2.2 → a ≠ b → (r.2.1 a).2.1 ≠ (r.2.1 b).2.1 := by decide +kernel
set_option maxRecDepth 100000 in
theorem q_cl_ty : ∀ r ∈ q_cl, ∀ a, a < r.2.2 → parseFieldDescriptor (r.2.1 a).2.2.1 = some ((parseFieldDescriptor (r.2.1 a).2.2.1).getD .int) := by decide +kernel
set_option maxRecDepth 100000 in
theorem q_flk_rng : ∀ e ∈ q_flk, e.2.2.2 < (q_T e.2.2.1).2.2 ∧ e.2.2.1 < 12 := by decide +kernel
set_option maxRecDepth 100000 in
theorem q_nlk_rng : ∀ e ∈ q_nlk, e.2.2.2 < (q_T e.2.2.1).2.2 ∧ e.2.2.1 < 12 := by decide +kernel
theorem q_T_in {b : Nat} (h : b < 12) : q_T b ∈ q_cl := List.mem_of_getElem? (q_cl_at h)
theorem u_ws_good {C : String} {T : u_T} {N : Nat} {w : Cond} (h : w ∈ u_ws C T N) : goodWord w = true := by
  obtain ⟨k, -, rfl⟩ := List.mem_map.mp h
  unfold u_lay
  split <;> rfl
theorem q_T_ws {b : Nat} (h : b < 12) : ∀ w ∈ u_ws (q_T b).1 (q_T b).2.1 (q_T b).2.2, w ∈ gw := by
  intro w hw
  refine gw_of ?_ (u_ws_good hw)
  rcases q_cl_in _ (q_T_in h) w hw with q | q | q | q | q | q | q
  · exact q_tb_in (j := 1) q
  · exact q_tb_in (j := 4) q
  · exact q_tb_in (j := 5) q
  · exact q_tb_in (j := 2) q
  · exact q_tb_in (j := 3) q
  · exact q_tb_in (j := 6) q
  · exact q_tb_in (j := 7) q
/-- what lies outside the two objects: statics, the two texts, the links between nest mates -/
def q_Out (ad : Nat → Nat) (U : State) (H : Heap) : Prop :=
  (∀ e ∈ q_nlk, va_Nw (q_nw e) U) ∧
  (va_Z "BellHours$Law" "LEAST" "[I" (.ref (ad 118)) (q_A ad) U H ∧ va_T .int (ad 118) 7 (fun j => .int (q_ro 118 j)) (q_A ad) U H) ∧
  (va_Z "BellHours$Law" "MOST" "[I" (.ref (ad 119)) (q_A ad) U H ∧ va_T .int (ad 119) 7 (fun j => .int (q_ro 119 j)) (q_A ad) U H) ∧
  vk_R RX5 47 "nsdhwfc" (ad 120) U ∧ vk_R RX5 111 "karsdhtop" (ad 121) U ∧
  va_Z "java/lang/String" "COMPACT_STRINGS" "Z" (.int 1) (q_A ad) U H ∧ ∃ adV : Nat → Nat, vk_S 2 [7, 9] [q_str1, q_str2] (fun i => ad (120 + i)) adV (q_A ad) U H
theorem q_Out_moved {ad : Nat → Nat} {s U : State} {H H1 : Heap} (h : q_Out ad s H) (hW : s.WarmedH U.vm) (hk : ∀ q : Nat, q < H.size → ¬ q_A ad q → H1[q]? = H[q]?) : q_Out ad U H1 := by
  obtain ⟨h1, ⟨h2, h3⟩, ⟨h4, h5⟩, h6, h7, h8, adV, h9⟩ := h
  have hal := hW.alike
  exact ⟨fun e he => va_Nw.warmF hW (h1 e he), ⟨(h2.kept hk).moved hal, (h3.kept hk).moved hal⟩, ⟨(h4.kept hk).moved hal, (h5.kept hk).moved hal⟩, h6.warm hW, h7.warm hW, (h8.kept hk).moved hal, adV, (h9.kept hk).moved hal⟩
def q_rmI : Room := { frames := 6, cells := 0, slots := 0, locals := 300 }
/-- String.indexOf on the two texts -/
def q_Ix (l : Launch) (ad : Nat → Nat) : Prop := ∀ (c : Nat) (x : Int32), (q_lay c).1 = 101 → Met l yJ0_indexOf_0f7a4 (Cond.code yJ0_indexOf_0f7a4 cJ0_indexOf_0f7a4 2 (some .int) :: gw) q_rmI (va_Pc [.ref (ad c), .int x] (fun U => q_Out ad U U.heap)) (fun _ st oc t => oc = .returned (some (.int (q_ix (q_txt c) x 0))) ∧ t.heap = st.heap) 0 0 (fun _ => False)
def q_Cx (p : Program) (l : Launch) (R : Room) (s : State) (m : MethodId) (args : Array Value) (c0 : Code) (ad : Nat → Nat) (ca : Nat → ClassId) (dC : Nat → ClassId) (dI : Nat → Nat → Nat) (cc : ByteArray) (own nL : Nat) : Prop :=
  p.tables.exec = Jvm.exec ∧ c0.code = cc ∧ c0.maxLocals = nL ∧ s.vm.findClass (q_own own) = some m.cls ∧ (∀ w ∈ gw, w.before args s = true) ∧ va_K (dC, dI) q_cl (q_tys ca) s ∧ q_Out ad s s.heap ∧ (∀ i j, i < 118 → j < 118 → ad i = ad j → i = j) ∧ 8 ≤ R.frames ∧ 400 ≤ R.locals ∧ q_Ix l ad
def q_W (p : Program) (l : Launch) (e : Env) (R : Room) (s : State) (m : MethodId) (args : Array Value) (below : List Frame) (meth : Method) (c0 : Code) (Qs : State → Prop) (ad : Nat → Nat) (ca : Nat → ClassId) (dC : Nat → ClassId) (dI : Nat → Nat → Nat) (nL : Nat) (pc : Nat) (L : QL) (st : List QV) (σ : QS) : Prop :=
  L.length = nL → ∀ (ls : Array Slot) (H : Heap) (locs : List Loc), lv_has ls nL (q_lv ad L) → va_P (dC, dI) q_cl (q_ws ad ca σ) H → va_S (q_A ad) s.heap H locs → W p l e R s m args below meth c0 H locs 0 0 Qs (F0 m pc ls (st.map (q_v ad)))
theorem qs_iconst {p : Program} {l : Launch} {e : Env} {R : Room} {s : State} {m : MethodId} {args : Array Value} {below : List Frame} {meth : Method} {c0 : Code} {Qs : State → Prop} {ad : Nat → Nat} {ca : Nat → ClassId} {dC : Nat → ClassId} {dI : Nat → Nat → Nat} {cc : ByteArray} {own nL : Nat} (X : q_Cx p l R s m args c0 ad ca dC dI cc own nL) {pc : Nat} {L : QL} {st : List QV} {σ : QS} {n : Int} {v : Int32} (hd : decode cc pc = .ok (.iconst n, 1)) (hv : Int32.ofInt n = v) (k : q_W p l e R s m args below meth c0 Qs ad ca dC dI nL (pc + 1) (L) (.inl v :: st) σ) : q_W p l e R s m args below meth c0 Qs ad ca dC dI nL (pc) (L) (st) σ := by
  obtain ⟨hx, hb, hml, hown, hts, hK, hZ, hi, hf, hlo, hIx⟩ := X
  intro hL ls H locs hl hP hS
  exact lv_iconst hx hb hd hv (k hL ls H locs hl hP hS)
theorem qs_bipush {p : Program} {l : Launch} {e : Env} {R : Room} {s : State} {m : MethodId} {args : Array Value} {below : List Frame} {meth : Method} {c0 : Code} {Qs : State → Prop} {ad : Nat → Nat} {ca : Nat → ClassId} {dC : Nat → ClassId} {dI : Nat → Nat → Nat} {cc : ByteArray} {own nL : Nat} (X : q_Cx p l R s m args c0 ad ca dC dI cc own nL) {pc : Nat} {L : QL} {st : List QV} {σ : QS} {n : Int} {v : Int32} (hd : decode cc pc = .ok (.bipush n, 2)) (hv : (Int8.ofInt n).toInt32 = v) (k : q_W p l e R s m args below meth c0 Qs ad ca dC dI nL (pc + 2) (L) (.inl v :: st) σ) : q_W p l e R s m args below meth c0 Qs ad ca dC dI nL (pc) (L) (st) σ := by
  obtain ⟨hx, hb, hml, hown, hts, hK, hZ, hi, hf, hlo, hIx⟩ := X
  intro hL ls H locs hl hP hS
  exact lv_bipush hx hb hd hv (k hL ls H locs hl hP hS)
theorem qs_sipush {p : Program} {l : Launch} {e : Env} {R : Room} {s : State} {m : MethodId} {args : Array Value} {below : List Frame} {meth : Method} {c0 : Code} {Qs : State → Prop} {ad : Nat → Nat} {ca : Nat → ClassId} {dC : Nat → ClassId} {dI : Nat → Nat → Nat} {cc : ByteArray} {own nL : Nat} (X : q_Cx p l R s m args c0 ad ca dC dI cc own nL) {pc : Nat} {L : QL} {st : List QV} {σ : QS} {n : Int} {v : Int32} (hd : decode cc pc = .ok (.sipush n, 3)) (hv : (Int16.ofInt n).toInt32 = v) (k : q_W p l e R s m args below meth c0 Qs ad ca dC dI nL (pc + 3) (L) (.inl v :: st) σ) : q_W p l e R s m args below meth c0 Qs ad ca dC dI nL (pc) (L) (st) σ := by
  obtain ⟨hx, hb, hml, hown, hts, hK, hZ, hi, hf, hlo, hIx⟩ := X
  intro hL ls H locs hl hP hS
  exact lv_sipush hx hb hd hv (k hL ls H locs hl hP hS)
theorem qs_ldc {p : Program} {l : Launch} {e : Env} {R : Room} {s : State} {m : MethodId} {args : Array Value} {below : List Frame} {meth : Method} {c0 : Code} {Qs : State → Prop} {ad : Nat → Nat} {ca : Nat → ClassId} {dC : Nat → ClassId} {dI : Nat → Nat → Nat} {cc : ByteArray} {own nL : Nat} (X : q_Cx p l R s m args c0 ad ca dC dI cc own nL) {pc : Nat} {L : QL} {st : List QV} {σ : QS} {i : Nat} {v : Int32} (hd : decode cc pc = .ok (.ldc i, 2)) (hv : (own, i, v) ∈ q_cnk) (k : q_W p l e R s m args below meth c0 Qs ad ca dC dI nL (pc + 2) (L) (.inl v :: st) σ) : q_W p l e R s m args below meth c0 Qs ad ca dC dI nL (pc) (L) (st) σ := by
  obtain ⟨hx, hb, hml, hown, hts, hK, hZ, hi, hf, hlo, hIx⟩ := X
  intro hL ls H locs hl hP hS
  exact lv_ldc hx hb hown (hts _ (gw_of (q_cnk_in _ hv) rfl)) hd (k hL ls H locs hl hP hS)
theorem qs_ldcw {p : Program} {l : Launch} {e : Env} {R : Room} {s : State} {m : MethodId} {args : Array Value} {below : List Frame} {meth : Method} {c0 : Code} {Qs : State → Prop} {ad : Nat → Nat} {ca : Nat → ClassId} {dC : Nat → ClassId} {dI : Nat → Nat → Nat} {cc : ByteArray} {own nL : Nat} (X : q_Cx p l R s m args c0 ad ca dC dI cc own nL) {pc : Nat} {L : QL} {st : List QV} {σ : QS} {i : Nat} {v : Int32} (hd : decode cc pc = .ok (.ldc_w i, 3)) (hv : (own, i, v) ∈ q_cnk) (k : q_W p l e R s m args below meth c0 Qs ad ca dC dI nL (pc + 3) (L) (.inl v :: st) σ) : q_W p l e R s m args below meth c0 Qs ad ca dC dI nL (pc) (L) (st) σ := by
  obtain ⟨hx, hb, hml, hown, hts, hK, hZ, hi, hf, hlo, hIx⟩ := X
  intro hL ls H locs hl hP hS
  exact lv_ldcw hx hb hown (hts _ (gw_of (q_cnk_in _ hv) rfl)) hd (k hL ls H locs hl hP hS)
theorem qs_ldcs {p : Program} {l : Launch} {e : Env} {R : Room} {s : State} {m : MethodId} {args : Array Value} {below : List Frame} {meth : Method} {c0 : Code} {Qs : State → Prop} {ad : Nat → Nat} {ca : Nat → ClassId} {dC : Nat → ClassId} {dI : Nat → Nat → Nat} {cc : ByteArray} {own nL : Nat} (X : q_Cx p l R s m args c0 ad ca dC dI cc own nL) {pc : Nat} {L : QL} {st : List QV} {σ : QS} {i a : Nat} (hd : decode cc pc = .ok (.ldc i, 2)) (hv : own = 5 ∧ (i = 47 ∧ a = 120 ∨ i = 111 ∧ a = 121)) (k : q_W p l e R s m args below meth c0 Qs ad ca dC dI nL (pc + 2) (L) (.inr a :: st) σ) : q_W p l e R s m args below meth c0 Qs ad ca dC dI nL (pc) (L) (st) σ := by
  obtain ⟨hx, hb, hml, hown, hts, hK, hZ, hi, hf, hlo, hIx⟩ := X
  intro hL ls H locs hl hP hS
  obtain ⟨rfl, h⟩ := hv
  rcases h with ⟨rfl, rfl⟩ | ⟨rfl, rfl⟩
  · exact va_ldcS hx hb hown hZ.2.2.2.1 hd (k hL ls H locs hl hP hS)
  · exact va_ldcS hx hb hown hZ.2.2.2.2.1 hd (k hL ls H locs hl hP hS)
theorem qs_iload_n {p : Program} {l : Launch} {e : Env} {R : Room} {s : State} {m : MethodId} {args : Array Value} {below : List Frame} {meth : Method} {c0 : Code} {Qs : State → Prop} {ad : Nat → Nat} {ca : Nat → ClassId} {dC : Nat → ClassId} {dI : Nat → Nat → Nat} {cc : ByteArray} {own nL : Nat} (X : q_Cx p l R s m args c0 ad ca dC dI cc own nL) {pc : Nat} {L : QL} {st : List QV} {σ : QS} {k0 : Fin 4} {a : Nat} (ha : k0.val = a) {x : Int32} (hd : decode cc pc = .ok (.iload_n k0, 1)) (hq : L[a]? = some (some (.inl x))) (k : q_W p l e R s m args below meth c0 Qs ad ca dC dI nL (pc + 1) (L) (.inl x :: st) σ) : q_W p l e R s m args below meth c0 Qs ad ca dC dI nL (pc) (L) (st) σ := by
  obtain ⟨hx, hb, hml, hown, hts, hK, hZ, hi, hf, hlo, hIx⟩ := X
  intro hL ls H locs hl hP hS
  exact lv_iload_n hx hb hd ha (q_lv_get hl hq) (k hL ls H locs hl hP hS)
theorem qs_iload {p : Program} {l : Launch} {e : Env} {R : Room} {s : State} {m : MethodId} {args : Array Value} {below : List Frame} {meth : Method} {c0 : Code} {Qs : State → Prop} {ad : Nat → Nat} {ca : Nat → ClassId} {dC : Nat → ClassId} {dI : Nat → Nat → Nat} {cc : ByteArray} {own nL : Nat} (X : q_Cx p l R s m args c0 ad ca dC dI cc own nL) {pc : Nat} {L : QL} {st : List QV} {σ : QS} {a : Nat} {x : Int32} (hd : decode cc pc = .ok (.iload a, 2)) (hq : L[a]? = some (some (.inl x))) (k : q_W p l e R s m args below meth c0 Qs ad ca dC dI nL (pc + 2) (L) (.inl x :: st) σ) : q_W p l e R s m args below meth c0 Qs ad ca dC dI nL (pc) (L) (st) σ := by
  obtain ⟨hx, hb, hml, hown, hts, hK, hZ, hi, hf, hlo, hIx⟩ := X
  intro hL ls H locs hl hP hS
  exact lv_iload hx hb hd (q_lv_get hl hq) (k hL ls H locs hl hP hS)
theorem qs_aload_n {p : Program} {l : Launch} {e : Env} {R : Room} {s : State} {m : MethodId} {args : Array Value} {below : List Frame} {meth : Method} {c0 : Code} {Qs : State → Prop} {ad : Nat → Nat} {ca : Nat → ClassId} {dC : Nat → ClassId} {dI : Nat → Nat → Nat} {cc : ByteArray} {own nL : Nat} (X : q_Cx p l R s m args c0 ad ca dC dI cc own nL) {pc : Nat} {L : QL} {st : List QV} {σ : QS} {k0 : Fin 4} {a : Nat} (ha : k0.val = a) {x : Nat} (hd : decode cc pc = .ok (.aload_n k0, 1)) (hq : L[a]? = some (some (.inr x))) (k : q_W p l e R s m args below meth c0 Qs ad ca dC dI nL (pc + 1) (L) (.inr x :: st) σ) : q_W p l e R s m args below meth c0 Qs ad ca dC dI nL (pc) (L) (st) σ := by
  obtain ⟨hx, hb, hml, hown, hts, hK, hZ, hi, hf, hlo, hIx⟩ := X
  intro hL ls H locs hl hP hS
  exact lv_aload_n hx hb hd ha (q_lv_get hl hq) (k hL ls H locs hl hP hS)
theorem qs_aload {p : Program} {l : Launch} {e : Env} {R : Room} {s : State} {m : MethodId} {args : Array Value} {below : List Frame} {meth : Method} {c0 : Code} {Qs : State → Prop} {ad : Nat → Nat} {ca : Nat → ClassId} {dC : Nat → ClassId} {dI : Nat → Nat → Nat} {cc : ByteArray} {own nL : Nat} (X : q_Cx p l R s m args c0 ad ca dC dI cc own nL) {pc : Nat} {L : QL} {st : List QV} {σ : QS} {a : Nat} {x : Nat} (hd : decode cc pc = .ok (.aload a, 2)) (hq : L[a]? = some (some (.inr x))) (k : q_W p l e R s m args below meth c0 Qs ad ca dC dI nL (pc + 2) (L) (.inr x :: st) σ) : q_W p l e R s m args below meth c0 Qs ad ca dC dI nL (pc) (L) (st) σ := by
  obtain ⟨hx, hb, hml, hown, hts, hK, hZ, hi, hf, hlo, hIx⟩ := X
  intro hL ls H locs hl hP hS
  exact lv_aload hx hb hd (q_lv_get hl hq) (k hL ls H locs hl hP hS)
theorem qs_istore_n {p : Program} {l : Launch} {e : Env} {R : Room} {s : State} {m : MethodId} {args : Array Value} {below : List Frame} {meth : Method} {c0 : Code} {Qs : State → Prop} {ad : Nat → Nat} {ca : Nat → ClassId} {dC : Nat → ClassId} {dI : Nat → Nat → Nat} {cc : ByteArray} {own nL : Nat} (X : q_Cx p l R s m args c0 ad ca dC dI cc own nL) {pc : Nat} {L : QL} {st : List QV} {σ : QS} {k0 : Fin 4} {a : Nat} (ha : k0.val = a) {x : Int32} (hd : decode cc pc = .ok (.istore_n k0, 1)) (hq : a < L.length) (k : q_W p l e R s m args below meth c0 Qs ad ca dC dI nL (pc + 1) (L.set a (some (.inl x))) (st) σ) : q_W p l e R s m args below meth c0 Qs ad ca dC dI nL (pc) (L) (.inl x :: st) σ := by
  obtain ⟨hx, hb, hml, hown, hts, hK, hZ, hi, hf, hlo, hIx⟩ := X
  intro hL ls H locs hl hP hS
  exact lv_istore_n hx hb hd ha hl (by omega) rfl (fun ls2 hl2 => k (by rw [List.length_set]; exact hL) ls2 H locs (q_lv_put hq hl2) hP hS)
theorem qs_istore {p : Program} {l : Launch} {e : Env} {R : Room} {s : State} {m : MethodId} {args : Array Value} {below : List Frame} {meth : Method} {c0 : Code} {Qs : State → Prop} {ad : Nat → Nat} {ca : Nat → ClassId} {dC : Nat → ClassId} {dI : Nat → Nat → Nat} {cc : ByteArray} {own nL : Nat} (X : q_Cx p l R s m args c0 ad ca dC dI cc own nL) {pc : Nat} {L : QL} {st : List QV} {σ : QS} {a : Nat} {x : Int32} (hd : decode cc pc = .ok (.istore a, 2)) (hq : a < L.length) (k : q_W p l e R s m args below meth c0 Qs ad ca dC dI nL (pc + 2) (L.set a (some (.inl x))) (st) σ) : q_W p l e R s m args below meth c0 Qs ad ca dC dI nL (pc) (L) (.inl x :: st) σ := by
  obtain ⟨hx, hb, hml, hown, hts, hK, hZ, hi, hf, hlo, hIx⟩ := X
  intro hL ls H locs hl hP hS
  exact lv_istore hx hb hd hl (by omega) rfl (fun ls2 hl2 => k (by rw [List.length_set]; exact hL) ls2 H locs (q_lv_put hq hl2) hP hS)
theorem q_lv_idx {ad : Nat → Nat} {L : QL} {a : Nat} {x : QV} (h : L[a]? = some (some x)) : ∃ k : Nat, (q_lv ad L)[k]? = some (a, q_v ad x) := List.getElem?_of_mem (q_lv_mem.mpr ⟨x, h, rfl⟩)
theorem qs_iinc {p : Program} {l : Launch} {e : Env} {R : Room} {s : State} {m : MethodId} {args : Array Value} {below : List Frame} {meth : Method} {c0 : Code} {Qs : State → Prop} {ad : Nat → Nat} {ca : Nat → ClassId} {dC : Nat → ClassId} {dI : Nat → Nat → Nat} {cc : ByteArray} {own nL : Nat} (X : q_Cx p l R s m args c0 ad ca dC dI cc own nL) {pc : Nat} {L : QL} {st : List QV} {σ : QS} {a : Nat} {n : Int} {v x : Int32} (hd : decode cc pc = .ok (.iinc a n, 3)) (hv : Int32.ofInt n = v) (hq : L[a]? = some (some (.inl x))) (k : q_W p l e R s m args below meth c0 Qs ad ca dC dI nL (pc + 3) (L.set a (some (.inl (x + v)))) (st) σ) : q_W p l e R s m args below meth c0 Qs ad ca dC dI nL (pc) (L) (st) σ := by
  obtain ⟨hx, hb, hml, hown, hts, hK, hZ, hi, hf, hlo, hIx⟩ := X
  intro hL ls H locs hl hP hS
  have hq2 := (List.getElem?_eq_some_iff.mp hq).1
  obtain ⟨j, hj⟩ := q_lv_idx (ad := ad) hq
  exact lv_iinc hx hb hd hl hj (by rw [hv]) (by omega) rfl (fun ls2 hl2 => k (by rw [List.length_set]; exact hL) ls2 H locs (q_lv_put (y := .inl (x + v)) hq2 hl2) hP hS)
theorem qs_iadd {p : Program} {l : Launch} {e : Env} {R : Room} {s : State} {m : MethodId} {args : Array Value} {below : List Frame} {meth : Method} {c0 : Code} {Qs : State → Prop} {ad : Nat → Nat} {ca : Nat → ClassId} {dC : Nat → ClassId} {dI : Nat → Nat → Nat} {cc : ByteArray} {own nL : Nat} (X : q_Cx p l R s m args c0 ad ca dC dI cc own nL) {pc : Nat} {L : QL} {st : List QV} {σ : QS} {x y : Int32} (hd : decode cc pc = .ok (.iadd, 1)) (k : q_W p l e R s m args below meth c0 Qs ad ca dC dI nL (pc + 1) (L) (.inl (x + y) :: st) σ) : q_W p l e R s m args below meth c0 Qs ad ca dC dI nL (pc) (L) (.inl y :: .inl x :: st) σ := by
  obtain ⟨hx, hb, hml, hown, hts, hK, hZ, hi, hf, hlo, hIx⟩ := X
  intro hL ls H locs hl hP hS
  exact lv_iadd hx hb hd (k hL ls H locs hl hP hS)
theorem qs_isub {p : Program} {l : Launch} {e : Env} {R : Room} {s : State} {m : MethodId} {args : Array Value} {below : List Frame} {meth : Method} {c0 : Code} {Qs : State → Prop} {ad : Nat → Nat} {ca : Nat → ClassId} {dC : Nat → ClassId} {dI : Nat → Nat → Nat} {cc : ByteArray} {own nL : Nat} (X : q_Cx p l R s m args c0 ad ca dC dI cc own nL) {pc : Nat} {L : QL} {st : List QV} {σ : QS} {x y : Int32} (hd : decode cc pc = .ok (.isub, 1)) (k : q_W p l e R s m args below meth c0 Qs ad ca dC dI nL (pc + 1) (L) (.inl (x - y) :: st) σ) : q_W p l e R s m args below meth c0 Qs ad ca dC dI nL (pc) (L) (.inl y :: .inl x :: st) σ := by
  obtain ⟨hx, hb, hml, hown, hts, hK, hZ, hi, hf, hlo, hIx⟩ := X
  intro hL ls H locs hl hP hS
  exact lv_isub hx hb hd (k hL ls H locs hl hP hS)
theorem qs_imul {p : Program} {l : Launch} {e : Env} {R : Room} {s : State} {m : MethodId} {args : Array Value} {below : List Frame} {meth : Method} {c0 : Code} {Qs : State → Prop} {ad : Nat → Nat} {ca : Nat → ClassId} {dC : Nat → ClassId} {dI : Nat → Nat → Nat} {cc : ByteArray} {own nL : Nat} (X : q_Cx p l R s m args c0 ad ca dC dI cc own nL) {pc : Nat} {L : QL} {st : List QV} {σ : QS} {x y : Int32} (hd : decode cc pc = .ok (.imul, 1)) (k : q_W p l e R s m args below meth c0 Qs ad ca dC dI nL (pc + 1) (L) (.inl (x * y) :: st) σ) : q_W p l e R s m args below meth c0 Qs ad ca dC dI nL (pc) (L) (.inl y :: .inl x :: st) σ := by
  obtain ⟨hx, hb, hml, hown, hts, hK, hZ, hi, hf, hlo, hIx⟩ := X
  intro hL ls H locs hl hP hS
  exact lv_imul hx hb hd (k hL ls H locs hl hP hS)
theorem qs_iand {p : Program} {l : Launch} {e : Env} {R : Room} {s : State} {m : MethodId} {args : Array Value} {below : List Frame} {meth : Method} {c0 : Code} {Qs : State → Prop} {ad : Nat → Nat} {ca : Nat → ClassId} {dC : Nat → ClassId} {dI : Nat → Nat → Nat} {cc : ByteArray} {own nL : Nat} (X : q_Cx p l R s m args c0 ad ca dC dI cc own nL) {pc : Nat} {L : QL} {st : List QV} {σ : QS} {x y : Int32} (hd : decode cc pc = .ok (.iand, 1)) (k : q_W p l e R s m args below meth c0 Qs ad ca dC dI nL (pc + 1) (L) (.inl (x &&& y) :: st) σ) : q_W p l e R s m args below meth c0 Qs ad ca dC dI nL (pc) (L) (.inl y :: .inl x :: st) σ := by
  obtain ⟨hx, hb, hml, hown, hts, hK, hZ, hi, hf, hlo, hIx⟩ := X
  intro hL ls H locs hl hP hS
  exact lv_iand hx hb hd (k hL ls H locs hl hP hS)
theorem qs_ior {p : Program} {l : Launch} {e : Env} {R : Room} {s : State} {m : MethodId} {args : Array Value} {below : List Frame} {meth : Method} {c0 : Code} {Qs : State → Prop} {ad : Nat → Nat} {ca : Nat → ClassId} {dC : Nat → ClassId} {dI : Nat → Nat → Nat} {cc : ByteArray} {own nL : Nat} (X : q_Cx p l R s m args c0 ad ca dC dI cc own nL) {pc : Nat} {L : QL} {st : List QV} {σ : QS} {x y : Int32} (hd : decode cc pc = .ok (.ior, 1)) (k : q_W p l e R s m args below meth c0 Qs ad ca dC dI nL (pc + 1) (L) (.inl (x ||| y) :: st) σ) : q_W p l e R s m args below meth c0 Qs ad ca dC dI nL (pc) (L) (.inl y :: .inl x :: st) σ := by
  obtain ⟨hx, hb, hml, hown, hts, hK, hZ, hi, hf, hlo, hIx⟩ := X
  intro hL ls H locs hl hP hS
  exact lv_ior hx hb hd (k hL ls H locs hl hP hS)
theorem qs_ishl {p : Program} {l : Launch} {e : Env} {R : Room} {s : State} {m : MethodId} {args : Array Value} {below : List Frame} {meth : Method} {c0 : Code} {Qs : State → Prop} {ad : Nat → Nat} {ca : Nat → ClassId} {dC : Nat → ClassId} {dI : Nat → Nat → Nat} {cc : ByteArray} {own nL : Nat} (X : q_Cx p l R s m args c0 ad ca dC dI cc own nL) {pc : Nat} {L : QL} {st : List QV} {σ : QS} {x y : Int32} (hd : decode cc pc = .ok (.ishl, 1)) (k : q_W p l e R s m args below meth c0 Qs ad ca dC dI nL (pc + 1) (L) (.inl (x <<< (y &&& 31)) :: st) σ) : q_W p l e R s m args below meth c0 Qs ad ca dC dI nL (pc) (L) (.inl y :: .inl x :: st) σ := by
  obtain ⟨hx, hb, hml, hown, hts, hK, hZ, hi, hf, hlo, hIx⟩ := X
  intro hL ls H locs hl hP hS
  exact lv_ishl hx hb hd (k hL ls H locs hl hP hS)
theorem qs_ishr {p : Program} {l : Launch} {e : Env} {R : Room} {s : State} {m : MethodId} {args : Array Value} {below : List Frame} {meth : Method} {c0 : Code} {Qs : State → Prop} {ad : Nat → Nat} {ca : Nat → ClassId} {dC : Nat → ClassId} {dI : Nat → Nat → Nat} {cc : ByteArray} {own nL : Nat} (X : q_Cx p l R s m args c0 ad ca dC dI cc own nL) {pc : Nat} {L : QL} {st : List QV} {σ : QS} {x y : Int32} (hd : decode cc pc = .ok (.ishr, 1)) (k : q_W p l e R s m args below meth c0 Qs ad ca dC dI nL (pc + 1) (L) (.inl (x >>> (y &&& 31)) :: st) σ) : q_W p l e R s m args below meth c0 Qs ad ca dC dI nL (pc) (L) (.inl y :: .inl x :: st) σ := by
  obtain ⟨hx, hb, hml, hown, hts, hK, hZ, hi, hf, hlo, hIx⟩ := X
  intro hL ls H locs hl hP hS
  exact lv_ishr hx hb hd (k hL ls H locs hl hP hS)
theorem qs_iushr {p : Program} {l : Launch} {e : Env} {R : Room} {s : State} {m : MethodId} {args : Array Value} {below : List Frame} {meth : Method} {c0 : Code} {Qs : State → Prop} {ad : Nat → Nat} {ca : Nat → ClassId} {dC : Nat → ClassId} {dI : Nat → Nat → Nat} {cc : ByteArray} {own nL : Nat} (X : q_Cx p l R s m args c0 ad ca dC dI cc own nL) {pc : Nat} {L : QL} {st : List QV} {σ : QS} {x y : Int32} (hd : decode cc pc = .ok (.iushr, 1)) (k : q_W p l e R s m args below meth c0 Qs ad ca dC dI nL (pc + 1) (L) (.inl ((x.toUInt32 >>> (y.toUInt32 &&& Int32.toUInt32 31)).toInt32) :: st) σ) : q_W p l e R s m args below meth c0 Qs ad ca dC dI nL (pc) (L) (.inl y :: .inl x :: st) σ := by
  obtain ⟨hx, hb, hml, hown, hts, hK, hZ, hi, hf, hlo, hIx⟩ := X
  intro hL ls H locs hl hP hS
  exact lv_iushr hx hb hd rfl (k hL ls H locs hl hP hS)
theorem qs_idiv {p : Program} {l : Launch} {e : Env} {R : Room} {s : State} {m : MethodId} {args : Array Value} {below : List Frame} {meth : Method} {c0 : Code} {Qs : State → Prop} {ad : Nat → Nat} {ca : Nat → ClassId} {dC : Nat → ClassId} {dI : Nat → Nat → Nat} {cc : ByteArray} {own nL : Nat} (X : q_Cx p l R s m args c0 ad ca dC dI cc own nL) {pc : Nat} {L : QL} {st : List QV} {σ : QS} {x y : Int32} (hd : decode cc pc = .ok (.idiv, 1)) (hy : ¬ y = 0) (k : q_W p l e R s m args below meth c0 Qs ad ca dC dI nL (pc + 1) (L) (.inl (x / y) :: st) σ) : q_W p l e R s m args below meth c0 Qs ad ca dC dI nL (pc) (L) (.inl y :: .inl x :: st) σ := by
  obtain ⟨hx, hb, hml, hown, hts, hK, hZ, hi, hf, hlo, hIx⟩ := X
  intro hL ls H locs hl hP hS
  exact lv_idiv hx hb hd hy (k hL ls H locs hl hP hS)
theorem qs_irem {p : Program} {l : Launch} {e : Env} {R : Room} {s : State} {m : MethodId} {args : Array Value} {below : List Frame} {meth : Method} {c0 : Code} {Qs : State → Prop} {ad : Nat → Nat} {ca : Nat → ClassId} {dC : Nat → ClassId} {dI : Nat → Nat → Nat} {cc : ByteArray} {own nL : Nat} (X : q_Cx p l R s m args c0 ad ca dC dI cc own nL) {pc : Nat} {L : QL} {st : List QV} {σ : QS} {x y : Int32} (hd : decode cc pc = .ok (.irem, 1)) (hy : ¬ y = 0) (k : q_W p l e R s m args below meth c0 Qs ad ca dC dI nL (pc + 1) (L) (.inl (x - x / y * y) :: st) σ) : q_W p l e R s m args below meth c0 Qs ad ca dC dI nL (pc) (L) (.inl y :: .inl x :: st) σ := by
  obtain ⟨hx, hb, hml, hown, hts, hK, hZ, hi, hf, hlo, hIx⟩ := X
  intro hL ls H locs hl hP hS
  exact lv_irem hx hb hd hy (k hL ls H locs hl hP hS)
theorem qs_ineg {p : Program} {l : Launch} {e : Env} {R : Room} {s : State} {m : MethodId} {args : Array Value} {below : List Frame} {meth : Method} {c0 : Code} {Qs : State → Prop} {ad : Nat → Nat} {ca : Nat → ClassId} {dC : Nat → ClassId} {dI : Nat → Nat → Nat} {cc : ByteArray} {own nL : Nat} (X : q_Cx p l R s m args c0 ad ca dC dI cc own nL) {pc : Nat} {L : QL} {st : List QV} {σ : QS} {x : Int32} (hd : decode cc pc = .ok (.ineg, 1)) (k : q_W p l e R s m args below meth c0 Qs ad ca dC dI nL (pc + 1) (L) (.inl (-x) :: st) σ) : q_W p l e R s m args below meth c0 Qs ad ca dC dI nL (pc) (L) (.inl x :: st) σ := by
  obtain ⟨hx, hb, hml, hown, hts, hK, hZ, hi, hf, hlo, hIx⟩ := X
  intro hL ls H locs hl hP hS
  exact lv_ineg hx hb hd (k hL ls H locs hl hP hS)
theorem qs_i2c {p : Program} {l : Launch} {e : Env} {R : Room} {s : State} {m : MethodId} {args : Array Value} {below : List Frame} {meth : Method} {c0 : Code} {Qs : State → Prop} {ad : Nat → Nat} {ca : Nat → ClassId} {dC : Nat → ClassId} {dI : Nat → Nat → Nat} {cc : ByteArray} {own nL : Nat} (X : q_Cx p l R s m args c0 ad ca dC dI cc own nL) {pc : Nat} {L : QL} {st : List QV} {σ : QS} {x : Int32} (hd : decode cc pc = .ok (.i2c, 1)) (k : q_W p l e R s m args below meth c0 Qs ad ca dC dI nL (pc + 1) (L) (.inl ((x.toUInt32 % 65536).toInt32) :: st) σ) : q_W p l e R s m args below meth c0 Qs ad ca dC dI nL (pc) (L) (.inl x :: st) σ := by
  obtain ⟨hx, hb, hml, hown, hts, hK, hZ, hi, hf, hlo, hIx⟩ := X
  intro hL ls H locs hl hP hS
  exact lv_i2c hx hb hd rfl (k hL ls H locs hl hP hS)
theorem qs_i2b {p : Program} {l : Launch} {e : Env} {R : Room} {s : State} {m : MethodId} {args : Array Value} {below : List Frame} {meth : Method} {c0 : Code} {Qs : State → Prop} {ad : Nat → Nat} {ca : Nat → ClassId} {dC : Nat → ClassId} {dI : Nat → Nat → Nat} {cc : ByteArray} {own nL : Nat} (X : q_Cx p l R s m args c0 ad ca dC dI cc own nL) {pc : Nat} {L : QL} {st : List QV} {σ : QS} {x : Int32} (hd : decode cc pc = .ok (.i2b, 1)) (k : q_W p l e R s m args below meth c0 Qs ad ca dC dI nL (pc + 1) (L) (.inl (x.toInt8.toInt32) :: st) σ) : q_W p l e R s m args below meth c0 Qs ad ca dC dI nL (pc) (L) (.inl x :: st) σ := by
  obtain ⟨hx, hb, hml, hown, hts, hK, hZ, hi, hf, hlo, hIx⟩ := X
  intro hL ls H locs hl hP hS
  exact lv_i2b hx hb hd rfl (k hL ls H locs hl hP hS)
theorem qs_dup {p : Program} {l : Launch} {e : Env} {R : Room} {s : State} {m : MethodId} {args : Array Value} {below : List Frame} {meth : Method} {c0 : Code} {Qs : State → Prop} {ad : Nat → Nat} {ca : Nat → ClassId} {dC : Nat → ClassId} {dI : Nat → Nat → Nat} {cc : ByteArray} {own nL : Nat} (X : q_Cx p l R s m args c0 ad ca dC dI cc own nL) {pc : Nat} {L : QL} {st : List QV} {σ : QS} {x : QV} (hd : decode cc pc = .ok (.dup, 1)) (k : q_W p l e R s m args below meth c0 Qs ad ca dC dI nL (pc + 1) (L) (x :: x :: st) σ) : q_W p l e R s m args below meth c0 Qs ad ca dC dI nL (pc) (L) (x :: st) σ := by
  obtain ⟨hx, hb, hml, hown, hts, hK, hZ, hi, hf, hlo, hIx⟩ := X
  intro hL ls H locs hl hP hS
  exact lv_dup hx hb hd (q_v_cat ad x) (k hL ls H locs hl hP hS)
theorem qs_dup2 {p : Program} {l : Launch} {e : Env} {R : Room} {s : State} {m : MethodId} {args : Array Value} {below : List Frame} {meth : Method} {c0 : Code} {Qs : State → Prop} {ad : Nat → Nat} {ca : Nat → ClassId} {dC : Nat → ClassId} {dI : Nat → Nat → Nat} {cc : ByteArray} {own nL : Nat} (X : q_Cx p l R s m args c0 ad ca dC dI cc own nL) {pc : Nat} {L : QL} {st : List QV} {σ : QS} {x y : QV} (hd : decode cc pc = .ok (.dup2, 1)) (k : q_W p l e R s m args below meth c0 Qs ad ca dC dI nL (pc + 1) (L) (y :: x :: y :: x :: st) σ) : q_W p l e R s m args below meth c0 Qs ad ca dC dI nL (pc) (L) (y :: x :: st) σ := by
  obtain ⟨hx, hb, hml, hown, hts, hK, hZ, hi, hf, hlo, hIx⟩ := X
  intro hL ls H locs hl hP hS
  exact lv_dup2_11 hx hb hd (q_v_cat ad y) (q_v_cat ad x) (k hL ls H locs hl hP hS)
theorem qs_pop {p : Program} {l : Launch} {e : Env} {R : Room} {s : State} {m : MethodId} {args : Array Value} {below : List Frame} {meth : Method} {c0 : Code} {Qs : State → Prop} {ad : Nat → Nat} {ca : Nat → ClassId} {dC : Nat → ClassId} {dI : Nat → Nat → Nat} {cc : ByteArray} {own nL : Nat} (X : q_Cx p l R s m args c0 ad ca dC dI cc own nL) {pc : Nat} {L : QL} {st : List QV} {σ : QS} {x : QV} (hd : decode cc pc = .ok (.pop, 1)) (k : q_W p l e R s m args below meth c0 Qs ad ca dC dI nL (pc + 1) (L) (st) σ) : q_W p l e R s m args below meth c0 Qs ad ca dC dI nL (pc) (L) (x :: st) σ := by
  obtain ⟨hx, hb, hml, hown, hts, hK, hZ, hi, hf, hlo, hIx⟩ := X
  intro hL ls H locs hl hP hS
  exact lv_pop hx hb hd (q_v_cat ad x) (k hL ls H locs hl hP hS)
