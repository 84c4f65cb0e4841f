/-! the class's constructor -/
def kNx (U : State) : Prop := (∀ e ∈ q_nlk, va_Nw (q_nw e) U) ∧ va_Nw (q_nw (10, 43, 7, 0)) U ∧ va_Nw (.methodLinkNest RX10 25 yX7_init "BellHours") U ∧ va_Nw (.methodLinkNest RX10 32 yX3_init "BellHours") U ∧ va_Nw (.methodLinkNest RX10 62 yX6_init "BellHours") U ∧ va_AO "BellHours$Law" U
theorem kNx_same {u U : State} (h : u.vm = U.vm) (hN : kNx u) : kNx U := by
  obtain ⟨h1, h2, h3, h4, h5, h6⟩ := hN
  exact ⟨fun e he => va_Nw.same rfl h (h1 e he), va_Nw.same rfl h h2, va_Nw.same rfl h h3, va_Nw.same rfl h h4, va_Nw.same rfl h h5, va_AO.moved (by rw [h]; exact Vm.Alike.refl _) h6⟩
theorem kNx_warm {s U : State} (hW : s.WarmedH U.vm) (hN : kNx s) : kNx U := by
  obtain ⟨h1, h2, h3, h4, h5, h6⟩ := hN
  exact ⟨fun e he => va_Nw.warmF hW (h1 e he), va_Nw.warmF hW h2, va_Nw.warmM hW h3, va_Nw.warmM hW h4, va_Nw.warmM hW h5, va_AO.moved hW.alike h6⟩
def kMetX (l : Launch) (dC : Nat → ClassId) (dI : Nat → Nat → Nat) (ca : Nat → ClassId) (y : MethodName) (cc : ByteArray) (nL : Nat) (rm : Room) (x : va_E) (As : List Value) (w : Nat → (Nat → Nat) → va_W) (mc ms : Nat) : Prop := ∀ h0 sz : Nat, Met l y (Cond.code y cc nL none :: gw) rm (va_Pc (.ref h0 :: As) (fun U => kIn dC dI ca sz h0 x U ∧ kNx U)) (va_Qv (fun _ : Nat → Nat => True) (fun q t => kOut dC dI ca (va_A [(h0, x)] sz) (w h0 q) t) (va_A [(h0, x)] sz)) mc ms (va_A [(h0, x)] sz)
theorem kc_startX {l : Launch} {dC : Nat → ClassId} {dI : Nat → Nat → Nat} {ca : Nat → ClassId} {y : MethodName} {cc : ByteArray} {nL : Nat} {rm : Room} {x : va_E} {As : List Value} {W1 : Nat → (Nat → Nat) → va_W} {mc ms : Nat} (hy : plainName y.cls = true) (hn : (lg_sl As).length + 1 ≤ nL) (body : ∀ (h0 : Nat) (p : Program) (e : Env) (s : State) (m : MethodId) (args : Array Value) (below : List Frame) (meth : Method) (c : Code) (A : Nat → Prop) (ls : Array Slot), kC p s m args c cc nL y.cls ca dC dI A → kNx s → meth.name = y.name → meth.sig.returnType = none → meth.locks = false → lv_has ls nL (lv_args 0 (.ref h0 :: As)) → va_P (dC, dI) q_cl [(h0, x)] s.heap → va_D A [(h0, x)] → va_S A s.heap s.heap [] → W p l e rm s m args below meth c s.heap [] 0 0 (MQ below (va_Qv (fun _ : Nat → Nat => True) (fun q t => kOut dC dI ca A (W1 h0 q) t) A) args s mc ms A) (F0 m 0 ls [])) : kMetX l dC dI ca y cc nL rm x As W1 mc ms := by
  intro h0 sz
  refine Met.ofW (cc := cc) (maxL := nL) (ret := none) hy rfl ?_
  intro p e s m args below meth c s₁ B hml hv
  obtain ⟨rfl, ⟨hsz, hP, hK, hD0⟩, hN⟩ := hv
  have hx := B.exec
  have hb := B.bytes
  have hr := B.returns
  have hts := atoms_spec (ws := Cond.code y cc nL none :: gw) B.pre
  have hown : s.vm.findClass y.cls = some m.cls := findClass_of_methodNamed B.named
  have hlocks := B.notSynchronized
  have hnm : meth.name = y.name := (name_of_methodNamed B.named B.method).1
  subst hsz
  have hD := hD0.self (sz := s.heap.size)
  have hA : ∀ q : Nat, s.heap.size ≤ q → va_A [(h0, x)] s.heap.size q := fun q h => Or.inr h
  have hl := lv_entry (.ref h0 :: As) (n := nL) (by show (lg_sl As).length + 1 ≤ nL; exact hn)
  rw [lg_entry_eq]
  exact body h0 p e s m _ below meth c _ _ ⟨hx, hb, hml, hown, fun w hw => hts w (List.mem_cons_of_mem _ hw), hK, hA⟩ hN hnm hr hlocks hl hP hD va_S.rf
section
variable {p : Program} {l : Launch} {e : Env} {R : Room} {s : State} {m : MethodId} {args : Array Value} {below : List Frame} {meth : Method} {c : Code} {H : Heap} {locs : List Loc} {cells slots : Nat} {Q : State → Prop} {cc : ByteArray} {nL pc : Nat} {ls : Array Slot} {rest : List Value} {own : String} {ca : Nat → ClassId} {dC : Nat → ClassId} {dI : Nat → Nat → Nat} {A : Nat → Prop} {ws : va_W}
theorem kc_getN {a b k idx q0 : Nat} {fs : List Value} {v : Value} (X : kC p s m args c cc nL own ca dC dI A) (hP : va_P (dC, dI) q_cl ws H) (he : ws[q0]? = some (a, .inr (b, fs))) (hb : b < 12) (hk : k < (q_T b).2.2) (hlk : va_Nw (.fieldLinkNest own idx ((q_T b).2.1 k).1 ((q_T b).2.1 k).2.1 ((q_T b).2.1 k).2.2.1 "BellHours") s) (hv : fs[k]? = some v) (hdg : decode cc pc = .ok (.getfield idx, 3)) (kk : W p l e R s m args below meth c H locs cells slots Q (F0 m (pc + 3) ls (v :: rest))) : W p l e R s m args below meth c H locs cells slots Q (F0 m pc ls (.ref a :: rest)) := by
  obtain ⟨hx, hbc, hml, hown, hts, hK, hA⟩ := X
  exact va_getN (D := (dC, dI)) (C := (q_T b).1) (T := (q_T b).2.1) (N := (q_T b).2.2) hx hbc hts (q_T_ws hb) hown hK hP q0 he (q_cl_at hb) k hk (va_Nw.use rfl hlk) (fun _ h9 => h9) hv hdg kk
theorem kc_newq {idx : Nat} (X : kC p s m args c cc nL own ca dC dI A) (hN : kNx s) (hP : va_P (dC, dI) q_cl ws H) (hD : va_D A ws) (hS : va_S A s.heap H locs) {n : Int32} {N : Nat} (hn : ¬ n < 0) (hN2 : n.toNatClampNeg = N) (h4 : N * 4 ≤ 536870912) (hlk : Cond.classLink own idx "BellHours$Law" ∈ gw) (hcells : cells + 1 ≤ R.cells) (hslots : slots + N ≤ R.slots) (hdg : decode cc pc = .ok (.anewarray idx, 3)) (kk : ∀ (q : Nat) (H1 : Heap), va_P (dC, dI) q_cl (ws ++ [(q, .inl (ca 3, N, .inr (.inr (.inr (.inr (fun _ => none))))))]) H1 → va_D A (ws ++ [(q, .inl (ca 3, N, .inr (.inr (.inr (.inr (fun _ => none))))))]) → va_S A s.heap H1 locs → W p l e R s m args below meth c H1 locs (cells + 1) (slots + N) Q (F0 m (pc + 3) ls (.ref q :: rest))) : W p l e R s m args below meth c H locs cells slots Q (F0 m pc ls (.int n :: rest)) := by
  obtain ⟨hx, hb, hml, hown, hts, hK, hA⟩ := X
  refine va_newq (C := "BellHours$Law") hx hb hown (hts _ hlk) hN.2.2.2.2.2 hK hP hD hS hA hn hN2 h4 hcells hslots hdg (fun q cA H1 hK1 hP1 hD1 hS1 => ?_)
  obtain ⟨kA, comp, f1, f2, f3, f4⟩ := (hK1.2 4 (cA, .object "BellHours$Law") rfl).2
  obtain ⟨kA', comp', g1, g2, g3, g4⟩ := (hK1.2 3 (ca 3, .object "BellHours$Law") rfl).2
  have e0 : cA = ca 3 := Option.some.inj (f4.symm.trans g4)
  subst e0
  exact kk q H1 hP1 hD1 hS1
end

theorem dX10_init_0 : decode cX10_init 0 = .ok (.aload_n 0, 1) := by decide +kernel
theorem dX10_init_1 : decode cX10_init 1 = .ok (.invokespecial 3, 3) := by decide +kernel
theorem dX10_init_4 : decode cX10_init 4 = .ok (.aload_n 0, 1) := by decide +kernel
theorem dX10_init_5 : decode cX10_init 5 = .ok (.new 9, 3) := by decide +kernel
theorem dX10_init_8 : decode cX10_init 8 = .ok (.dup, 1) := by decide +kernel
theorem dX10_init_9 : decode cX10_init 9 = .ok (.invokespecial 11, 3) := by decide +kernel
theorem dX10_init_12 : decode cX10_init 12 = .ok (.putfield 12, 3) := by decide +kernel
theorem dX10_init_15 : decode cX10_init 15 = .ok (.aload_n 0, 1) := by decide +kernel
theorem dX10_init_16 : decode cX10_init 16 = .ok (.new 9, 3) := by decide +kernel
theorem dX10_init_19 : decode cX10_init 19 = .ok (.dup, 1) := by decide +kernel
theorem dX10_init_20 : decode cX10_init 20 = .ok (.invokespecial 11, 3) := by decide +kernel
theorem dX10_init_23 : decode cX10_init 23 = .ok (.putfield 16, 3) := by decide +kernel
theorem dX10_init_26 : decode cX10_init 26 = .ok (.aload_n 0, 1) := by decide +kernel
theorem dX10_init_27 : decode cX10_init 27 = .ok (.iconst 0, 1) := by decide +kernel
theorem dX10_init_28 : decode cX10_init 28 = .ok (.putfield 19, 3) := by decide +kernel
theorem dX10_init_31 : decode cX10_init 31 = .ok (.aload_n 0, 1) := by decide +kernel
theorem dX10_init_32 : decode cX10_init 32 = .ok (.new 23, 3) := by decide +kernel
theorem dX10_init_35 : decode cX10_init 35 = .ok (.dup, 1) := by decide +kernel
theorem dX10_init_36 : decode cX10_init 36 = .ok (.invokespecial 25, 3) := by decide +kernel
theorem dX10_init_39 : decode cX10_init 39 = .ok (.putfield 26, 3) := by decide +kernel
theorem dX10_init_42 : decode cX10_init 42 = .ok (.aload_n 0, 1) := by decide +kernel
theorem dX10_init_43 : decode cX10_init 43 = .ok (.iconst 2, 1) := by decide +kernel
theorem dX10_init_44 : decode cX10_init 44 = .ok (.anewarray 30, 3) := by decide +kernel
theorem dX10_init_47 : decode cX10_init 47 = .ok (.dup, 1) := by decide +kernel
theorem dX10_init_48 : decode cX10_init 48 = .ok (.iconst 0, 1) := by decide +kernel
theorem dX10_init_49 : decode cX10_init 49 = .ok (.new 30, 3) := by decide +kernel
theorem dX10_init_52 : decode cX10_init 52 = .ok (.dup, 1) := by decide +kernel
theorem dX10_init_53 : decode cX10_init 53 = .ok (.invokespecial 32, 3) := by decide +kernel
theorem dX10_init_56 : decode cX10_init 56 = .ok (.aastore, 1) := by decide +kernel
theorem dX10_init_57 : decode cX10_init 57 = .ok (.dup, 1) := by decide +kernel
theorem dX10_init_58 : decode cX10_init 58 = .ok (.iconst 1, 1) := by decide +kernel
theorem dX10_init_59 : decode cX10_init 59 = .ok (.new 30, 3) := by decide +kernel
theorem dX10_init_62 : decode cX10_init 62 = .ok (.dup, 1) := by decide +kernel
theorem dX10_init_63 : decode cX10_init 63 = .ok (.invokespecial 32, 3) := by decide +kernel
theorem dX10_init_66 : decode cX10_init 66 = .ok (.aastore, 1) := by decide +kernel
theorem dX10_init_67 : decode cX10_init 67 = .ok (.putfield 33, 3) := by decide +kernel
theorem dX10_init_70 : decode cX10_init 70 = .ok (.aload_n 0, 1) := by decide +kernel
theorem dX10_init_71 : decode cX10_init 71 = .ok (.new 30, 3) := by decide +kernel
theorem dX10_init_74 : decode cX10_init 74 = .ok (.dup, 1) := by decide +kernel
theorem dX10_init_75 : decode cX10_init 75 = .ok (.invokespecial 32, 3) := by decide +kernel
theorem dX10_init_78 : decode cX10_init 78 = .ok (.putfield 37, 3) := by decide +kernel
theorem dX10_init_81 : decode cX10_init 81 = .ok (.aload_n 0, 1) := by decide +kernel
theorem dX10_init_82 : decode cX10_init 82 = .ok (.new 41, 3) := by decide +kernel
theorem dX10_init_85 : decode cX10_init 85 = .ok (.dup, 1) := by decide +kernel
theorem dX10_init_86 : decode cX10_init 86 = .ok (.aload_n 0, 1) := by decide +kernel
theorem dX10_init_87 : decode cX10_init 87 = .ok (.getfield 26, 3) := by decide +kernel
theorem dX10_init_90 : decode cX10_init 90 = .ok (.getfield 43, 3) := by decide +kernel
theorem dX10_init_93 : decode cX10_init 93 = .ok (.aload_n 0, 1) := by decide +kernel
theorem dX10_init_94 : decode cX10_init 94 = .ok (.getfield 37, 3) := by decide +kernel
theorem dX10_init_97 : decode cX10_init 97 = .ok (.invokespecial 47, 3) := by decide +kernel
theorem dX10_init_100 : decode cX10_init 100 = .ok (.putfield 50, 3) := by decide +kernel
theorem dX10_init_103 : decode cX10_init 103 = .ok (.aload_n 0, 1) := by decide +kernel
theorem dX10_init_104 : decode cX10_init 104 = .ok (.bipush 13, 2) := by decide +kernel
theorem dX10_init_106 : decode cX10_init 106 = .ok (.newarray .int, 2) := by decide +kernel
theorem dX10_init_108 : decode cX10_init 108 = .ok (.putfield 54, 3) := by decide +kernel
theorem dX10_init_111 : decode cX10_init 111 = .ok (.aload_n 0, 1) := by decide +kernel
theorem dX10_init_112 : decode cX10_init 112 = .ok (.bipush 24, 2) := by decide +kernel
theorem dX10_init_114 : decode cX10_init 114 = .ok (.newarray .int, 2) := by decide +kernel
theorem dX10_init_116 : decode cX10_init 116 = .ok (.putfield 57, 3) := by decide +kernel
theorem dX10_init_119 : decode cX10_init 119 = .ok (.aload_n 0, 1) := by decide +kernel
theorem dX10_init_120 : decode cX10_init 120 = .ok (.new 60, 3) := by decide +kernel
theorem dX10_init_123 : decode cX10_init 123 = .ok (.dup, 1) := by decide +kernel
theorem dX10_init_124 : decode cX10_init 124 = .ok (.invokespecial 62, 3) := by decide +kernel
theorem dX10_init_127 : decode cX10_init 127 = .ok (.putfield 63, 3) := by decide +kernel
theorem dX10_init_130 : decode cX10_init 130 = .ok (.aload_n 0, 1) := by decide +kernel
theorem dX10_init_131 : decode cX10_init 131 = .ok (.new 67, 3) := by decide +kernel
theorem dX10_init_134 : decode cX10_init 134 = .ok (.dup, 1) := by decide +kernel
theorem dX10_init_135 : decode cX10_init 135 = .ok (.aload_n 0, 1) := by decide +kernel
theorem dX10_init_136 : decode cX10_init 136 = .ok (.getfield 12, 3) := by decide +kernel
theorem dX10_init_139 : decode cX10_init 139 = .ok (.aload_n 0, 1) := by decide +kernel
theorem dX10_init_140 : decode cX10_init 140 = .ok (.getfield 33, 3) := by decide +kernel
theorem dX10_init_143 : decode cX10_init 143 = .ok (.iconst 0, 1) := by decide +kernel
theorem dX10_init_144 : decode cX10_init 144 = .ok (.aaload, 1) := by decide +kernel
theorem dX10_init_145 : decode cX10_init 145 = .ok (.aload_n 0, 1) := by decide +kernel
theorem dX10_init_146 : decode cX10_init 146 = .ok (.getfield 63, 3) := by decide +kernel
theorem dX10_init_149 : decode cX10_init 149 = .ok (.invokespecial 69, 3) := by decide +kernel
theorem dX10_init_152 : decode cX10_init 152 = .ok (.putfield 72, 3) := by decide +kernel
theorem dX10_init_155 : decode cX10_init 155 = .ok (.aload_n 0, 1) := by decide +kernel
theorem dX10_init_156 : decode cX10_init 156 = .ok (.new 67, 3) := by decide +kernel
theorem dX10_init_159 : decode cX10_init 159 = .ok (.dup, 1) := by decide +kernel
theorem dX10_init_160 : decode cX10_init 160 = .ok (.aload_n 0, 1) := by decide +kernel
theorem dX10_init_161 : decode cX10_init 161 = .ok (.getfield 12, 3) := by decide +kernel
theorem dX10_init_164 : decode cX10_init 164 = .ok (.aload_n 0, 1) := by decide +kernel
theorem dX10_init_165 : decode cX10_init 165 = .ok (.getfield 33, 3) := by decide +kernel
theorem dX10_init_168 : decode cX10_init 168 = .ok (.iconst 0, 1) := by decide +kernel
theorem dX10_init_169 : decode cX10_init 169 = .ok (.aaload, 1) := by decide +kernel
theorem dX10_init_170 : decode cX10_init 170 = .ok (.aload_n 0, 1) := by decide +kernel
theorem dX10_init_171 : decode cX10_init 171 = .ok (.getfield 63, 3) := by decide +kernel
theorem dX10_init_174 : decode cX10_init 174 = .ok (.invokespecial 69, 3) := by decide +kernel
theorem dX10_init_177 : decode cX10_init 177 = .ok (.putfield 76, 3) := by decide +kernel
theorem dX10_init_180 : decode cX10_init 180 = .ok (.aload_n 0, 1) := by decide +kernel
theorem dX10_init_181 : decode cX10_init 181 = .ok (.iconst 0, 1) := by decide +kernel
theorem dX10_init_182 : decode cX10_init 182 = .ok (.putfield 79, 3) := by decide +kernel
theorem dX10_init_185 : decode cX10_init 185 = .ok (.aload_n 0, 1) := by decide +kernel
theorem dX10_init_186 : decode cX10_init 186 = .ok (.new 82, 3) := by decide +kernel
theorem dX10_init_189 : decode cX10_init 189 = .ok (.dup, 1) := by decide +kernel
theorem dX10_init_190 : decode cX10_init 190 = .ok (.aload_n 0, 1) := by decide +kernel
theorem dX10_init_191 : decode cX10_init 191 = .ok (.getfield 72, 3) := by decide +kernel
theorem dX10_init_194 : decode cX10_init 194 = .ok (.aload_n 0, 1) := by decide +kernel
theorem dX10_init_195 : decode cX10_init 195 = .ok (.getfield 76, 3) := by decide +kernel
theorem dX10_init_198 : decode cX10_init 198 = .ok (.aload_n 0, 1) := by decide +kernel
theorem dX10_init_199 : decode cX10_init 199 = .ok (.getfield 33, 3) := by decide +kernel
theorem dX10_init_202 : decode cX10_init 202 = .ok (.iconst 0, 1) := by decide +kernel
theorem dX10_init_203 : decode cX10_init 203 = .ok (.aaload, 1) := by decide +kernel
theorem dX10_init_204 : decode cX10_init 204 = .ok (.invokespecial 84, 3) := by decide +kernel
theorem dX10_init_207 : decode cX10_init 207 = .ok (.putfield 87, 3) := by decide +kernel
theorem dX10_init_210 : decode cX10_init 210 = .ok (.aload_n 0, 1) := by decide +kernel
theorem dX10_init_211 : decode cX10_init 211 = .ok (.new 91, 3) := by decide +kernel
theorem dX10_init_214 : decode cX10_init 214 = .ok (.dup, 1) := by decide +kernel
theorem dX10_init_215 : decode cX10_init 215 = .ok (.aload_n 0, 1) := by decide +kernel
theorem dX10_init_216 : decode cX10_init 216 = .ok (.getfield 12, 3) := by decide +kernel
theorem dX10_init_219 : decode cX10_init 219 = .ok (.aload_n 0, 1) := by decide +kernel
theorem dX10_init_220 : decode cX10_init 220 = .ok (.getfield 33, 3) := by decide +kernel
theorem dX10_init_223 : decode cX10_init 223 = .ok (.iconst 0, 1) := by decide +kernel
theorem dX10_init_224 : decode cX10_init 224 = .ok (.aaload, 1) := by decide +kernel
theorem dX10_init_225 : decode cX10_init 225 = .ok (.aload_n 0, 1) := by decide +kernel
theorem dX10_init_226 : decode cX10_init 226 = .ok (.getfield 63, 3) := by decide +kernel
theorem dX10_init_229 : decode cX10_init 229 = .ok (.invokespecial 93, 3) := by decide +kernel
theorem dX10_init_232 : decode cX10_init 232 = .ok (.putfield 94, 3) := by decide +kernel
theorem dX10_init_235 : decode cX10_init 235 = .ok (.aload_n 0, 1) := by decide +kernel
theorem dX10_init_236 : decode cX10_init 236 = .ok (.new 98, 3) := by decide +kernel
theorem dX10_init_239 : decode cX10_init 239 = .ok (.dup, 1) := by decide +kernel
theorem dX10_init_240 : decode cX10_init 240 = .ok (.aload_n 0, 1) := by decide +kernel
theorem dX10_init_241 : decode cX10_init 241 = .ok (.getfield 12, 3) := by decide +kernel
theorem dX10_init_244 : decode cX10_init 244 = .ok (.getfield 100, 3) := by decide +kernel
theorem dX10_init_247 : decode cX10_init 247 = .ok (.aload_n 0, 1) := by decide +kernel
theorem dX10_init_248 : decode cX10_init 248 = .ok (.getfield 54, 3) := by decide +kernel
theorem dX10_init_251 : decode cX10_init 251 = .ok (.invokespecial 103, 3) := by decide +kernel
theorem dX10_init_254 : decode cX10_init 254 = .ok (.putfield 106, 3) := by decide +kernel
theorem dX10_init_257 : decode cX10_init 257 = .ok (.aload_n 0, 1) := by decide +kernel
theorem dX10_init_258 : decode cX10_init 258 = .ok (.new 110, 3) := by decide +kernel
theorem dX10_init_261 : decode cX10_init 261 = .ok (.dup, 1) := by decide +kernel
theorem dX10_init_262 : decode cX10_init 262 = .ok (.aload_n 0, 1) := by decide +kernel
theorem dX10_init_263 : decode cX10_init 263 = .ok (.getfield 12, 3) := by decide +kernel
theorem dX10_init_266 : decode cX10_init 266 = .ok (.getfield 100, 3) := by decide +kernel
theorem dX10_init_269 : decode cX10_init 269 = .ok (.aload_n 0, 1) := by decide +kernel
theorem dX10_init_270 : decode cX10_init 270 = .ok (.getfield 57, 3) := by decide +kernel
theorem dX10_init_273 : decode cX10_init 273 = .ok (.invokespecial 112, 3) := by decide +kernel
theorem dX10_init_276 : decode cX10_init 276 = .ok (.putfield 113, 3) := by decide +kernel
theorem dX10_init_279 : decode cX10_init 279 = .ok (.aload_n 0, 1) := by decide +kernel
theorem dX10_init_280 : decode cX10_init 280 = .ok (.getfield 57, 3) := by decide +kernel
theorem dX10_init_283 : decode cX10_init 283 = .ok (.iconst 2, 1) := by decide +kernel
theorem dX10_init_284 : decode cX10_init 284 = .ok (.invokestatic 117, 3) := by decide +kernel
theorem dX10_init_287 : decode cX10_init 287 = .ok (.return_, 1) := by decide +kernel
theorem kw_cl9 : Cond.classLink RX10 9 "BellHours$House" ∈ gw := gw_of (q_tb_in (j := 1) (List.mem_of_getElem? (i := 30) (by decide +kernel))) rfl
theorem kw_ml11 : Cond.methodLink RX10 11 yX2_init ∈ gw := gw_of (q_tb_in (j := 1) (List.mem_of_getElem? (i := 32) (by decide +kernel))) rfl
theorem kw_f10_12 : Cond.fieldLink RX10 12 "BellHours" "house" "LBellHours$House;" ∈ gw := gw_of (q_tb_in (j := 2) (List.mem_of_getElem? (i := 62) (by decide +kernel))) rfl
theorem kw_f10_16 : Cond.fieldLink RX10 16 "BellHours" "kept" "LBellHours$House;" ∈ gw := gw_of (q_tb_in (j := 2) (List.mem_of_getElem? (i := 63) (by decide +kernel))) rfl
theorem kw_f10_19 : Cond.fieldLink RX10 19 "BellHours" "wasKept" "Z" ∈ gw := gw_of (q_tb_in (j := 2) (List.mem_of_getElem? (i := 64) (by decide +kernel))) rfl
theorem kw_cl23 : Cond.classLink RX10 23 "BellHours$Tape" ∈ gw := gw_of (q_tb_in (j := 1) (List.mem_of_getElem? (i := 66) (by decide +kernel))) rfl
theorem kw_f10_26 : Cond.fieldLink RX10 26 "BellHours" "tape" "LBellHours$Tape;" ∈ gw := gw_of (q_tb_in (j := 2) (List.mem_of_getElem? (i := 65) (by decide +kernel))) rfl
theorem kw_cl30 : Cond.classLink RX10 30 "BellHours$Law" ∈ gw := gw_of (q_tb_in (j := 1) (List.mem_of_getElem? (i := 81) (by decide +kernel))) rfl
theorem kw_f10_33 : Cond.fieldLink RX10 33 "BellHours" "laws" "[LBellHours$Law;" ∈ gw := gw_of (q_tb_in (j := 2) (List.mem_of_getElem? (i := 66) (by decide +kernel))) rfl
theorem kw_f10_37 : Cond.fieldLink RX10 37 "BellHours" "spare" "LBellHours$Law;" ∈ gw := gw_of (q_tb_in (j := 2) (List.mem_of_getElem? (i := 67) (by decide +kernel))) rfl
theorem kw_cl41 : Cond.classLink RX10 41 "BellHours$Reader" ∈ gw := gw_of (q_tb_in (j := 1) (List.mem_of_getElem? (i := 122) (by decide +kernel))) rfl
theorem kw_ml47 : Cond.methodLink RX10 47 yX5_init ∈ gw := gw_of (q_tb_in (j := 1) (List.mem_of_getElem? (i := 124) (by decide +kernel))) rfl
theorem kw_f10_50 : Cond.fieldLink RX10 50 "BellHours" "reader" "LBellHours$Reader;" ∈ gw := gw_of (q_tb_in (j := 2) (List.mem_of_getElem? (i := 68) (by decide +kernel))) rfl
theorem kw_f10_54 : Cond.fieldLink RX10 54 "BellHours" "looks" "[I" ∈ gw := gw_of (q_tb_in (j := 2) (List.mem_of_getElem? (i := 69) (by decide +kernel))) rfl
theorem kw_f10_57 : Cond.fieldLink RX10 57 "BellHours" "words" "[I" ∈ gw := gw_of (q_tb_in (j := 2) (List.mem_of_getElem? (i := 70) (by decide +kernel))) rfl
theorem kw_cl60 : Cond.classLink RX10 60 "BellHours$Scene" ∈ gw := gw_of (q_tb_in (j := 1) (List.mem_of_getElem? (i := 147) (by decide +kernel))) rfl
theorem kw_f10_63 : Cond.fieldLink RX10 63 "BellHours" "scene" "LBellHours$Scene;" ∈ gw := gw_of (q_tb_in (j := 2) (List.mem_of_getElem? (i := 71) (by decide +kernel))) rfl
theorem kw_cl67 : Cond.classLink RX10 67 "BellHours$Day" ∈ gw := gw_of (q_tb_in (j := 1) (List.mem_of_getElem? (i := 161) (by decide +kernel))) rfl
theorem kw_ml69 : Cond.methodLink RX10 69 yX0_init ∈ gw := gw_of (q_tb_in (j := 1) (List.mem_of_getElem? (i := 163) (by decide +kernel))) rfl
theorem kw_f10_72 : Cond.fieldLink RX10 72 "BellHours" "day" "LBellHours$Day;" ∈ gw := gw_of (q_tb_in (j := 2) (List.mem_of_getElem? (i := 72) (by decide +kernel))) rfl
theorem kw_f10_76 : Cond.fieldLink RX10 76 "BellHours" "trial" "LBellHours$Day;" ∈ gw := gw_of (q_tb_in (j := 2) (List.mem_of_getElem? (i := 73) (by decide +kernel))) rfl
theorem kw_f10_79 : Cond.fieldLink RX10 79 "BellHours" "dayStands" "Z" ∈ gw := gw_of (q_tb_in (j := 2) (List.mem_of_getElem? (i := 74) (by decide +kernel))) rfl
theorem kw_cl82 : Cond.classLink RX10 82 "BellHours$Trade" ∈ gw := gw_of (q_tb_in (j := 1) (List.mem_of_getElem? (i := 205) (by decide +kernel))) rfl
theorem kw_ml84 : Cond.methodLink RX10 84 yX8_init ∈ gw := gw_of (q_tb_in (j := 1) (List.mem_of_getElem? (i := 207) (by decide +kernel))) rfl
theorem kw_f10_87 : Cond.fieldLink RX10 87 "BellHours" "trade" "LBellHours$Trade;" ∈ gw := gw_of (q_tb_in (j := 2) (List.mem_of_getElem? (i := 75) (by decide +kernel))) rfl
theorem kw_cl91 : Cond.classLink RX10 91 "BellHours$Orders" ∈ gw := gw_of (q_tb_in (j := 1) (List.mem_of_getElem? (i := 237) (by decide +kernel))) rfl
theorem kw_ml93 : Cond.methodLink RX10 93 yX4_init ∈ gw := gw_of (q_tb_in (j := 1) (List.mem_of_getElem? (i := 239) (by decide +kernel))) rfl
theorem kw_f10_94 : Cond.fieldLink RX10 94 "BellHours" "orders" "LBellHours$Orders;" ∈ gw := gw_of (q_tb_in (j := 2) (List.mem_of_getElem? (i := 76) (by decide +kernel))) rfl
theorem kw_cl98 : Cond.classLink RX10 98 "BellHours$Hiding" ∈ gw := gw_of (q_tb_in (j := 2) (List.mem_of_getElem? (i := 24) (by decide +kernel))) rfl
theorem kw_ml103 : Cond.methodLink RX10 103 yX1_init ∈ gw := gw_of (q_tb_in (j := 2) (List.mem_of_getElem? (i := 26) (by decide +kernel))) rfl
theorem kw_f10_106 : Cond.fieldLink RX10 106 "BellHours" "hiding" "LBellHours$Hiding;" ∈ gw := gw_of (q_tb_in (j := 2) (List.mem_of_getElem? (i := 77) (by decide +kernel))) rfl
theorem kw_cl110 : Cond.classLink RX10 110 "BellHours$Vase" ∈ gw := gw_of (q_tb_in (j := 2) (List.mem_of_getElem? (i := 48) (by decide +kernel))) rfl
theorem kw_ml112 : Cond.methodLink RX10 112 yX9_init ∈ gw := gw_of (q_tb_in (j := 2) (List.mem_of_getElem? (i := 50) (by decide +kernel))) rfl
theorem kw_f10_113 : Cond.fieldLink RX10 113 "BellHours" "vase" "LBellHours$Vase;" ∈ gw := gw_of (q_tb_in (j := 2) (List.mem_of_getElem? (i := 78) (by decide +kernel))) rfl
theorem kw_fl10 : Cond.methodLink RX10 117 yJ7_fill_53178 ∈ gw := gw_of (q_tb_in (j := 2) (List.mem_of_getElem? (i := 61) (by decide +kernel))) rfl
def fl10 (ca : Nat → ClassId) (h0 x1 x2 x3 x4 x5 x6 x7 x8 x9 x10 x11 x12 x13 x14 x15 x16 x17 : Nat) (q1 q2 q3 q4 q5 q6 q7 q8 q9 q10 q11 q12 q13 q14 : Nat → Nat) (lf : Nat → Option Nat) : va_W := [(h0, .inr (10, [.ref x1, .ref x2, .int 0, .ref x3, .ref x4, .ref x7, .ref x8, .ref x9, .ref x10, .ref x11, .ref x12, .ref x13, .int 0, .ref x14, .ref x15, .ref x16, .ref x17])), (x1, .inr (2, [.ref (q1 0), .ref (q1 1), .ref (q1 2), .ref (q1 3), .int 1])), ((q1 0), .inl (ca 0, 24, .inl (cpy (fun _ => 0) (fun _ => 12) 0 24))), ((q1 1), .inl (ca 0, 24, .inl (fun _ => 0))), ((q1 2), .inl (ca 0, 180, .inl (fun _ => 0))), ((q1 3), .inl (ca 0, 12, .inl (fun _ => 0))), (x2, .inr (2, [.ref (q2 0), .ref (q2 1), .ref (q2 2), .ref (q2 3), .int 1])), ((q2 0), .inl (ca 0, 24, .inl (cpy (fun _ => 0) (fun _ => 12) 0 24))), ((q2 1), .inl (ca 0, 24, .inl (fun _ => 0))), ((q2 2), .inl (ca 0, 180, .inl (fun _ => 0))), ((q2 3), .inl (ca 0, 12, .inl (fun _ => 0))), (x3, .inr (7, [.ref (q3 0), .int 0])), ((q3 0), .inl (ca 0, 220, .inl (fun _ => 0))), (x4, .inl (ca 3, 2, .inr (.inr (.inr (.inr (lf)))))), (x5, .inr (3, [.int 0, .int 0, .ref (q4 0), .ref (q4 1), .ref (q4 2), .ref (q4 3), .ref (q4 4), .ref (q4 5), .ref (q4 6), .ref (q4 7)])), ((q4 0), .inl (ca 1, 200, .inl (fun _ => 0))), ((q4 1), .inl (ca 0, 200, .inl (fun _ => 0))), ((q4 2), .inl (ca 0, 14, .inl (fun _ => 0))), ((q4 3), .inl (ca 0, 14, .inl (fun _ => 0))), ((q4 4), .inl (ca 0, 14, .inl (fun _ => 0))), ((q4 5), .inl (ca 0, 98, .inl (fun _ => 0))), ((q4 6), .inl (ca 0, 7, .inl (fun _ => 0))), ((q4 7), .inl (ca 0, 32, .inl (fun _ => 0))), (x6, .inr (3, [.int 0, .int 0, .ref (q5 0), .ref (q5 1), .ref (q5 2), .ref (q5 3), .ref (q5 4), .ref (q5 5), .ref (q5 6), .ref (q5 7)])), ((q5 0), .inl (ca 1, 200, .inl (fun _ => 0))), ((q5 1), .inl (ca 0, 200, .inl (fun _ => 0))), ((q5 2), .inl (ca 0, 14, .inl (fun _ => 0))), ((q5 3), .inl (ca 0, 14, .inl (fun _ => 0))), ((q5 4), .inl (ca 0, 14, .inl (fun _ => 0))), ((q5 5), .inl (ca 0, 98, .inl (fun _ => 0))), ((q5 6), .inl (ca 0, 7, .inl (fun _ => 0))), ((q5 7), .inl (ca 0, 32, .inl (fun _ => 0))), (x7, .inr (3, [.int 0, .int 0, .ref (q6 0), .ref (q6 1), .ref (q6 2), .ref (q6 3), .ref (q6 4), .ref (q6 5), .ref (q6 6), .ref (q6 7)])), ((q6 0), .inl (ca 1, 200, .inl (fun _ => 0))), ((q6 1), .inl (ca 0, 200, .inl (fun _ => 0))), ((q6 2), .inl (ca 0, 14, .inl (fun _ => 0))), ((q6 3), .inl (ca 0, 14, .inl (fun _ => 0))), ((q6 4), .inl (ca 0, 14, .inl (fun _ => 0))), ((q6 5), .inl (ca 0, 98, .inl (fun _ => 0))), ((q6 6), .inl (ca 0, 7, .inl (fun _ => 0))), ((q6 7), .inl (ca 0, 32, .inl (fun _ => 0))), (x8, .inr (5, [.ref (q3 0), .ref x7, .int 0, .int 0, .int 0, .int 0])), (x9, .inl (ca 0, 13, .inl (fun _ => 0))), (x10, .inl (ca 0, 24, .inl (cpy (fun _ => 0) (fun _ => 2) 0 24))), (x11, .inr (6, [.ref (q8 0), .ref (q8 1)])), ((q8 0), .inl (ca 0, 24, .inl (fun _ => 0))), ((q8 1), .inl (ca 0, 9, .inl (fun _ => 0))), (x12, .inr (0, [.ref x1, .ref x5, .ref x11, .ref (q9 0), .ref (q9 1), .ref (q9 2), .ref (q9 3), .ref (q9 4), .ref (q9 5)])), ((q9 0), .inl (ca 0, 24, .inl (fun _ => 0))), ((q9 1), .inl (ca 0, 600, .inl (fun _ => 0))), ((q9 2), .inl (ca 0, 24, .inl (fun _ => 0))), ((q9 3), .inl (ca 0, 24, .inl (fun _ => 0))), ((q9 4), .inl (ca 0, 24, .inl (fun _ => 0))), ((q9 5), .inl (ca 0, 24, .inl (fun _ => 0))), (x13, .inr (0, [.ref x1, .ref x5, .ref x11, .ref (q10 0), .ref (q10 1), .ref (q10 2), .ref (q10 3), .ref (q10 4), .ref (q10 5)])), ((q10 0), .inl (ca 0, 24, .inl (fun _ => 0))), ((q10 1), .inl (ca 0, 600, .inl (fun _ => 0))), ((q10 2), .inl (ca 0, 24, .inl (fun _ => 0))), ((q10 3), .inl (ca 0, 24, .inl (fun _ => 0))), ((q10 4), .inl (ca 0, 24, .inl (fun _ => 0))), ((q10 5), .inl (ca 0, 24, .inl (fun _ => 0))), (x14, .inr (8, [.ref x12, .ref x13, .ref x5, .int 0, .int (-1), .int (-1), .int 0])), (x15, .inr (4, [.ref x1, .ref x5, .ref x11, .ref (q12 0), .ref (q12 1), .int 0])), ((q12 0), .inl (ca 0, 5, .inl (fun _ => 0))), ((q12 1), .inl (ca 0, 5, .inl (fun _ => 0))), (x16, .inr (1, [.ref (q1 0), .ref x9, .ref (q13 0), .ref (q13 1), .int 0])), ((q13 0), .inl (ca 0, 192, .inl (fun _ => 0))), ((q13 1), .inl (ca 0, 24, .inl (fun _ => 0))), (x17, .inr (9, [.ref (q1 0), .ref x10]))]
def wX10 (ca : Nat → ClassId) (_ : Nat) (q : Nat → Nat) : va_W := [(q 0, .inr (10, [.ref (q 1), .ref (q 6), .int 0, .ref (q 11), .ref (q 40), .ref (q 31), .ref (q 41), .ref (q 42), .ref (q 43), .ref (q 44), .ref (q 47), .ref (q 54), .int 0, .ref (q 61), .ref (q 62), .ref (q 65), .ref (q 68)])), (q 1, .inr (2, [.ref (q 2), .ref (q 3), .ref (q 4), .ref (q 5), .int 1])), (q 2, .inl (ca 0, 24, .inl (cpy (fun _ => 0) (fun _ => 12) 0 24))), (q 3, .inl (ca 0, 24, .inl (fun _ => 0))), (q 4, .inl (ca 0, 180, .inl (fun _ => 0))), (q 5, .inl (ca 0, 12, .inl (fun _ => 0))), (q 6, .inr (2, [.ref (q 7), .ref (q 8), .ref (q 9), .ref (q 10), .int 1])), (q 7, .inl (ca 0, 24, .inl (cpy (fun _ => 0) (fun _ => 12) 0 24))), (q 8, .inl (ca 0, 24, .inl (fun _ => 0))), (q 9, .inl (ca 0, 180, .inl (fun _ => 0))), (q 10, .inl (ca 0, 12, .inl (fun _ => 0))), (q 11, .inr (7, [.ref (q 12), .int 0])), (q 12, .inl (ca 0, 220, .inl (fun _ => 0))), (q 13, .inr (3, [.int 0, .int 0, .ref (q 14), .ref (q 15), .ref (q 16), .ref (q 17), .ref (q 18), .ref (q 19), .ref (q 20), .ref (q 21)])), (q 14, .inl (ca 1, 200, .inl (fun _ => 0))), (q 15, .inl (ca 0, 200, .inl (fun _ => 0))), (q 16, .inl (ca 0, 14, .inl (fun _ => 0))), (q 17, .inl (ca 0, 14, .inl (fun _ => 0))), (q 18, .inl (ca 0, 14, .inl (fun _ => 0))), (q 19, .inl (ca 0, 98, .inl (fun _ => 0))), (q 20, .inl (ca 0, 7, .inl (fun _ => 0))), (q 21, .inl (ca 0, 32, .inl (fun _ => 0))), (q 22, .inr (3, [.int 0, .int 0, .ref (q 23), .ref (q 24), .ref (q 25), .ref (q 26), .ref (q 27), .ref (q 28), .ref (q 29), .ref (q 30)])), (q 23, .inl (ca 1, 200, .inl (fun _ => 0))), (q 24, .inl (ca 0, 200, .inl (fun _ => 0))), (q 25, .inl (ca 0, 14, .inl (fun _ => 0))), (q 26, .inl (ca 0, 14, .inl (fun _ => 0))), (q 27, .inl (ca 0, 14, .inl (fun _ => 0))), (q 28, .inl (ca 0, 98, .inl (fun _ => 0))), (q 29, .inl (ca 0, 7, .inl (fun _ => 0))), (q 30, .inl (ca 0, 32, .inl (fun _ => 0))), (q 31, .inr (3, [.int 0, .int 0, .ref (q 32), .ref (q 33), .ref (q 34), .ref (q 35), .ref (q 36), .ref (q 37), .ref (q 38), .ref (q 39)])), (q 32, .inl (ca 1, 200, .inl (fun _ => 0))), (q 33, .inl (ca 0, 200, .inl (fun _ => 0))), (q 34, .inl (ca 0, 14, .inl (fun _ => 0))), (q 35, .inl (ca 0, 14, .inl (fun _ => 0))), (q 36, .inl (ca 0, 14, .inl (fun _ => 0))), (q 37, .inl (ca 0, 98, .inl (fun _ => 0))), (q 38, .inl (ca 0, 7, .inl (fun _ => 0))), (q 39, .inl (ca 0, 32, .inl (fun _ => 0))), (q 40, .inl (ca 3, 2, .inr (.inr (.inr (.inr (fun i => ([some 13, some 22].getD i none).map q)))))), (q 41, .inr (5, [.ref (q 12), .ref (q 31), .int 0, .int 0, .int 0, .int 0])), (q 42, .inl (ca 0, 13, .inl (fun _ => 0))), (q 43, .inl (ca 0, 24, .inl (cpy (fun _ => 0) (fun _ => 2) 0 24))), (q 44, .inr (6, [.ref (q 45), .ref (q 46)])), (q 45, .inl (ca 0, 24, .inl (fun _ => 0))), (q 46, .inl (ca 0, 9, .inl (fun _ => 0))), (q 47, .inr (0, [.ref (q 1), .ref (q 13), .ref (q 44), .ref (q 48), .ref (q 49), .ref (q 50), .ref (q 51), .ref (q 52), .ref (q 53)])), (q 48, .inl (ca 0, 24, .inl (fun _ => 0))), (q 49, .inl (ca 0, 600, .inl (fun _ => 0))), (q 50, .inl (ca 0, 24, .inl (fun _ => 0))), (q 51, .inl (ca 0, 24, .inl (fun _ => 0))), (q 52, .inl (ca 0, 24, .inl (fun _ => 0))), (q 53, .inl (ca 0, 24, .inl (fun _ => 0))), (q 54, .inr (0, [.ref (q 1), .ref (q 13), .ref (q 44), .ref (q 55), .ref (q 56), .ref (q 57), .ref (q 58), .ref (q 59), .ref (q 60)])), (q 55, .inl (ca 0, 24, .inl (fun _ => 0))), (q 56, .inl (ca 0, 600, .inl (fun _ => 0))), (q 57, .inl (ca 0, 24, .inl (fun _ => 0))), (q 58, .inl (ca 0, 24, .inl (fun _ => 0))), (q 59, .inl (ca 0, 24, .inl (fun _ => 0))), (q 60, .inl (ca 0, 24, .inl (fun _ => 0))), (q 61, .inr (8, [.ref (q 47), .ref (q 54), .ref (q 13), .int 0, .int (-1), .int (-1), .int 0])), (q 62, .inr (4, [.ref (q 1), .ref (q 13), .ref (q 44), .ref (q 63), .ref (q 64), .int 0])), (q 63, .inl (ca 0, 5, .inl (fun _ => 0))), (q 64, .inl (ca 0, 5, .inl (fun _ => 0))), (q 65, .inr (1, [.ref (q 2), .ref (q 42), .ref (q 66), .ref (q 67), .int 0])), (q 66, .inl (ca 0, 192, .inl (fun _ => 0))), (q 67, .inl (ca 0, 24, .inl (fun _ => 0))), (q 68, .inr (9, [.ref (q 2), .ref (q 43)]))]
def ad10 (h0 x1 x2 x3 x4 x5 x6 x7 x8 x9 x10 x11 x12 x13 x14 x15 x16 x17 : Nat) (q1 q2 q3 q4 q5 q6 q7 q8 q9 q10 q11 q12 q13 q14 : Nat → Nat) (c : Nat) : Nat := ([h0, x1, (q1 0), (q1 1), (q1 2), (q1 3), x2, (q2 0), (q2 1), (q2 2), (q2 3), x3, (q3 0), x5, (q4 0), (q4 1), (q4 2), (q4 3), (q4 4), (q4 5), (q4 6), (q4 7), x6, (q5 0), (q5 1), (q5 2), (q5 3), (q5 4), (q5 5), (q5 6), (q5 7), x7, (q6 0), (q6 1), (q6 2), (q6 3), (q6 4), (q6 5), (q6 6), (q6 7), x4, x8, x9, x10, x11, (q8 0), (q8 1), x12, (q9 0), (q9 1), (q9 2), (q9 3), (q9 4), (q9 5), x13, (q10 0), (q10 1), (q10 2), (q10 3), (q10 4), (q10 5), x14, x15, (q12 0), (q12 1), x16, (q13 0), (q13 1), x17] : List Nat).getD c 0
set_option maxHeartbeats 4000000 in
set_option maxRecDepth 100000 in
theorem fl10_p (ca : Nat → ClassId) (h0 x1 x2 x3 x4 x5 x6 x7 x8 x9 x10 x11 x12 x13 x14 x15 x16 x17 : Nat) (q1 q2 q3 q4 q5 q6 q7 q8 q9 q10 q11 q12 q13 q14 : Nat → Nat) : ([0, 1, 2, 3, 4, 5, 6, 7, 8, 9, 10, 11, 12, 14, 15, 16, 17, 18, 19, 20, 21, 22, 23, 24, 25, 26, 27, 28, 29, 30, 31, 32, 33, 34, 35, 36, 37, 38, 39, 40, 13, 41, 42, 43, 44, 45, 46, 47, 48, 49, 50, 51, 52, 53, 54, 55, 56, 57, 58, 59, 60, 61, 62, 63, 64, 65, 66, 67, 68] : List Nat).filterMap (fun i => (fl10 ca h0 x1 x2 x3 x4 x5 x6 x7 x8 x9 x10 x11 x12 x13 x14 x15 x16 x17 q1 q2 q3 q4 q5 q6 q7 q8 q9 q10 q11 q12 q13 q14 (fun i => ([some 13, some 22].getD i none).map (ad10 h0 x1 x2 x3 x4 x5 x6 x7 x8 x9 x10 x11 x12 x13 x14 x15 x16 x17 q1 q2 q3 q4 q5 q6 q7 q8 q9 q10 q11 q12 q13 q14)))[i]?) = wX10 ca h0 (ad10 h0 x1 x2 x3 x4 x5 x6 x7 x8 x9 x10 x11 x12 x13 x14 x15 x16 x17 q1 q2 q3 q4 q5 q6 q7 q8 q9 q10 q11 q12 q13 q14) := rfl
set_option maxHeartbeats 4000000 in
set_option maxRecDepth 100000 in
theorem fl10_d (ca : Nat → ClassId) (h0 x1 x2 x3 x4 x5 x6 x7 x8 x9 x10 x11 x12 x13 x14 x15 x16 x17 : Nat) (q1 q2 q3 q4 q5 q6 q7 q8 q9 q10 q11 q12 q13 q14 : Nat → Nat) : ([0, 1, 2, 3, 4, 5, 6, 7, 8, 9, 10, 11, 12, 14, 15, 16, 17, 18, 19, 20, 21, 22, 23, 24, 25, 26, 27, 28, 29, 30, 31, 32, 33, 34, 35, 36, 37, 38, 39, 40, 13, 41, 42, 43, 44, 45, 46, 47, 48, 49, 50, 51, 52, 53, 54, 55, 56, 57, 58, 59, 60, 61, 62, 63, 64, 65, 66, 67, 68] : List Nat).map (fun i => (fl10 ca h0 x1 x2 x3 x4 x5 x6 x7 x8 x9 x10 x11 x12 x13 x14 x15 x16 x17 q1 q2 q3 q4 q5 q6 q7 q8 q9 q10 q11 q12 q13 q14 (fun i => ([some 13, some 22].getD i none).map (ad10 h0 x1 x2 x3 x4 x5 x6 x7 x8 x9 x10 x11 x12 x13 x14 x15 x16 x17 q1 q2 q3 q4 q5 q6 q7 q8 q9 q10 q11 q12 q13 q14)))[i]?) = (wX10 ca h0 (ad10 h0 x1 x2 x3 x4 x5 x6 x7 x8 x9 x10 x11 x12 x13 x14 x15 x16 x17 q1 q2 q3 q4 q5 q6 q7 q8 q9 q10 q11 q12 q13 q14)).map some := rfl
theorem fl10_f (ca : Nat → ClassId) (h0 x1 x2 x3 x4 x5 x6 x7 x8 x9 x10 x11 x12 x13 x14 x15 x16 x17 : Nat) (q1 q2 q3 q4 q5 q6 q7 q8 q9 q10 q11 q12 q13 q14 : Nat → Nat) : (va_up (va_up (fun _ => none) (0 : Int32).toNatClampNeg (some x5)) (1 : Int32).toNatClampNeg (some x6)) = (fun i => ([some 13, some 22].getD i none).map (ad10 h0 x1 x2 x3 x4 x5 x6 x7 x8 x9 x10 x11 x12 x13 x14 x15 x16 x17 q1 q2 q3 q4 q5 q6 q7 q8 q9 q10 q11 q12 q13 q14)) := by
  funext i
  match i with
  | 0 => rfl
  | 1 => rfl
  | i + 2 => rfl
set_option maxHeartbeats 4000000 in
set_option maxRecDepth 100000 in
theorem fl10_e (ca : Nat → ClassId) (h0 x1 x2 x3 x4 x5 x6 x7 x8 x9 x10 x11 x12 x13 x14 x15 x16 x17 : Nat) (q1 q2 q3 q4 q5 q6 q7 q8 q9 q10 q11 q12 q13 q14 : Nat → Nat) : ((((((((((((((((([(h0, .inr (10, [.ref x1, .ref x2, .int 0, .ref x3, .ref x4, .ref x7, .ref x8, .ref x9, .ref x10, .ref x11, .ref x12, .ref x13, .int 0, .ref x14, .ref x15, .ref x16, .ref x17]))] ++ wX2 ca x1 q1) ++ wX2 ca x2 q2) ++ wX7 ca x3 q3) ++ [(x4, .inl (ca 3, 2, .inr (.inr (.inr (.inr (va_up (va_up (fun _ => none) (0 : Int32).toNatClampNeg (some x5)) (1 : Int32).toNatClampNeg (some x6)))))))]) ++ wX3 ca x5 q4) ++ wX3 ca x6 q5) ++ wX3 ca x7 q6) ++ wX5 ca (q3 0) x7 x8 q7) ++ [(x9, .inl (ca 0, 13, .inl (fun _ => 0)))]) ++ [(x10, .inl (ca 0, 24, .inl (cpy (fun _ => 0) (fun _ => 2) 0 24)))]) ++ wX6 ca x11 q8) ++ wX0 ca x1 x5 x11 x12 q9) ++ wX0 ca x1 x5 x11 x13 q10) ++ wX8 ca x12 x13 x5 x14 q11) ++ wX4 ca x1 x5 x11 x15 q12) ++ wX1 ca (q1 0) x9 x16 q13) ++ wX9 ca (q1 0) x10 x17 q14) = fl10 ca h0 x1 x2 x3 x4 x5 x6 x7 x8 x9 x10 x11 x12 x13 x14 x15 x16 x17 q1 q2 q3 q4 q5 q6 q7 q8 q9 q10 q11 q12 q13 q14 (va_up (va_up (fun _ => none) (0 : Int32).toNatClampNeg (some x5)) (1 : Int32).toNatClampNeg (some x6)) := by
  simp only [wX0, wX1, wX2, wX3, wX4, wX5, wX6, wX7, wX8, wX9, fl10, List.cons_append, List.nil_append, List.append_assoc]
def rX10 : Room := { frames := 4, cells := 68, slots := 4263, locals := 200 }
set_option maxHeartbeats 20000000 in
set_option maxRecDepth 100000 in
theorem kX10 (l : Launch) (dC : Nat → ClassId) (dI : Nat → Nat → Nat) (ca : Nat → ClassId) : kMetX l dC dI ca yX10_init cX10_init 1 rX10 (.inr (10, [.null, .null, .int 0, .null, .null, .null, .null, .null, .null, .null, .null, .null, .int 0, .null, .null, .null, .null])) [] (wX10 ca) 68 4263 := by
  refine kc_startX (by decide) (Nat.le_of_ble_eq_true rfl) ?_
  intro h0 p e s m args below meth c A ls X hN hnm hr hlocks hl hP hD hS
  have hx := X.1
  have hb := X.2.1
  have hl : lv_has ls 1 [(0, .ref h0)] := hl
  refine lv_aload_n hx hb dX10_init_0 rfl (lv_at hl 0 rfl) ?_
  refine kc_obj X hl.1 kw_ob10 (Nat.le_of_ble_eq_true rfl) (Nat.le_of_ble_eq_true rfl) (Nat.le_of_ble_eq_true rfl) dX10_init_1 ?_
  refine lv_aload_n hx hb dX10_init_4 rfl (lv_at hl 0 rfl) ?_
  refine kc_new (b := 2) (N := 5) (fs := [.null, .null, .null, .null, .int 0]) X hP hD hS (by decide) rfl kw_cl9 kw_able2 kw_ini2 (by decide +kernel) (Nat.le_of_ble_eq_true rfl) (Nat.le_of_ble_eq_true rfl) dX10_init_5 (fun x1 H hP hD hS => ?_)
  refine lv_dup hx hb dX10_init_8 rfl ?_
  refine kc_init (As := []) (rest := [.ref x1, .ref h0]) X hl.1 (kX2 l dC dI ca) ⟨rfl, rfl⟩ ⟨(Nat.le_of_ble_eq_true rfl), (Nat.le_of_ble_eq_true rfl)⟩ kw_code2 kw_ini2 ⟨by decide +kernel, by decide +kernel⟩ (n := 0) (by decide +kernel) rfl kw_inst2 kw_ml11 rfl rfl (Nat.le_of_ble_eq_true rfl) hP hD hS dX10_init_9 ⟨(Nat.le_of_ble_eq_true rfl), (Nat.le_of_ble_eq_true rfl)⟩ (fun q1 H locs hP hD hS => ?_)
  refine kc_put (b := 10) (k := 0) (q0 := 0) (v := .ref x1) (ty := .object "BellHours$House") X hnm hP hD hS rfl (by decide) (by decide) kw_f10_12 rfl (by decide +kernel) rfl rfl (Nat.le_of_ble_eq_true rfl) dX10_init_12 (fun H locs hP hD hS => ?_)
  have hP : va_P (dC, dI) q_cl ([(h0, .inr (10, [.ref x1, .null, .int 0, .null, .null, .null, .null, .null, .null, .null, .null, .null, .int 0, .null, .null, .null, .null]))] ++ wX2 ca x1 q1) H := hP
  have hD : va_D A ([(h0, .inr (10, [.ref x1, .null, .int 0, .null, .null, .null, .null, .null, .null, .null, .null, .null, .int 0, .null, .null, .null, .null]))] ++ wX2 ca x1 q1) := hD
  refine lv_aload_n hx hb dX10_init_15 rfl (lv_at hl 0 rfl) ?_
  refine kc_new (b := 2) (N := 5) (fs := [.null, .null, .null, .null, .int 0]) X hP hD hS (by decide) rfl kw_cl9 kw_able2 kw_ini2 (by decide +kernel) (Nat.le_of_ble_eq_true rfl) (Nat.le_of_ble_eq_true rfl) dX10_init_16 (fun x2 H hP hD hS => ?_)
  refine lv_dup hx hb dX10_init_19 rfl ?_
  refine kc_init (As := []) (rest := [.ref x2, .ref h0]) X hl.1 (kX2 l dC dI ca) ⟨rfl, rfl⟩ ⟨(Nat.le_of_ble_eq_true rfl), (Nat.le_of_ble_eq_true rfl)⟩ kw_code2 kw_ini2 ⟨by decide +kernel, by decide +kernel⟩ (n := 0) (by decide +kernel) rfl kw_inst2 kw_ml11 rfl rfl (Nat.le_of_ble_eq_true rfl) hP hD hS dX10_init_20 ⟨(Nat.le_of_ble_eq_true rfl), (Nat.le_of_ble_eq_true rfl)⟩ (fun q2 H locs hP hD hS => ?_)
  refine kc_put (b := 10) (k := 1) (q0 := 0) (v := .ref x2) (ty := .object "BellHours$House") X hnm hP hD hS rfl (by decide) (by decide) kw_f10_16 rfl (by decide +kernel) rfl rfl (Nat.le_of_ble_eq_true rfl) dX10_init_23 (fun H locs hP hD hS => ?_)
  have hP : va_P (dC, dI) q_cl (([(h0, .inr (10, [.ref x1, .ref x2, .int 0, .null, .null, .null, .null, .null, .null, .null, .null, .null, .int 0, .null, .null, .null, .null]))] ++ wX2 ca x1 q1) ++ wX2 ca x2 q2) H := hP
  have hD : va_D A (([(h0, .inr (10, [.ref x1, .ref x2, .int 0, .null, .null, .null, .null, .null, .null, .null, .null, .null, .int 0, .null, .null, .null, .null]))] ++ wX2 ca x1 q1) ++ wX2 ca x2 q2) := hD
  refine lv_aload_n hx hb dX10_init_26 rfl (lv_at hl 0 rfl) ?_
  refine lv_iconst (v := 0) hx hb dX10_init_27 (by decide) ?_
  refine kc_put (b := 10) (k := 2) (q0 := 0) (v := .int 0) (ty := .boolean) X hnm hP hD hS rfl (by decide) (by decide) kw_f10_19 rfl (by decide +kernel) rfl rfl (Nat.le_of_ble_eq_true rfl) dX10_init_28 (fun H locs hP hD hS => ?_)
  have hP : va_P (dC, dI) q_cl (([(h0, .inr (10, [.ref x1, .ref x2, .int 0, .null, .null, .null, .null, .null, .null, .null, .null, .null, .int 0, .null, .null, .null, .null]))] ++ wX2 ca x1 q1) ++ wX2 ca x2 q2) H := hP
  have hD : va_D A (([(h0, .inr (10, [.ref x1, .ref x2, .int 0, .null, .null, .null, .null, .null, .null, .null, .null, .null, .int 0, .null, .null, .null, .null]))] ++ wX2 ca x1 q1) ++ wX2 ca x2 q2) := hD
  refine lv_aload_n hx hb dX10_init_31 rfl (lv_at hl 0 rfl) ?_
  refine kc_new (b := 7) (N := 2) (fs := [.null, .int 0]) X hP hD hS (by decide) rfl kw_cl23 kw_able7 kw_ini7 (by decide +kernel) (Nat.le_of_ble_eq_true rfl) (Nat.le_of_ble_eq_true rfl) dX10_init_32 (fun x3 H hP hD hS => ?_)
  refine lv_dup hx hb dX10_init_35 rfl ?_
  refine kc_initN (As := []) (rest := [.ref x3, .ref h0]) X hl.1 (kX7 l dC dI ca) ⟨rfl, rfl⟩ ⟨(Nat.le_of_ble_eq_true rfl), (Nat.le_of_ble_eq_true rfl)⟩ kw_code7 kw_ini7 ⟨by decide +kernel, by decide +kernel⟩ (n := 0) (by decide +kernel) rfl kw_inst7 hN.2.2.1 rfl rfl (Nat.le_of_ble_eq_true rfl) hP hD hS dX10_init_36 ⟨(Nat.le_of_ble_eq_true rfl), (Nat.le_of_ble_eq_true rfl)⟩ (fun q3 H locs hP hD hS => ?_)
  refine kc_put (b := 10) (k := 3) (q0 := 0) (v := .ref x3) (ty := .object "BellHours$Tape") X hnm hP hD hS rfl (by decide) (by decide) kw_f10_26 rfl (by decide +kernel) rfl rfl (Nat.le_of_ble_eq_true rfl) dX10_init_39 (fun H locs hP hD hS => ?_)
  have hP : va_P (dC, dI) q_cl ((([(h0, .inr (10, [.ref x1, .ref x2, .int 0, .ref x3, .null, .null, .null, .null, .null, .null, .null, .null, .int 0, .null, .null, .null, .null]))] ++ wX2 ca x1 q1) ++ wX2 ca x2 q2) ++ wX7 ca x3 q3) H := hP
  have hD : va_D A ((([(h0, .inr (10, [.ref x1, .ref x2, .int 0, .ref x3, .null, .null, .null, .null, .null, .null, .null, .null, .int 0, .null, .null, .null, .null]))] ++ wX2 ca x1 q1) ++ wX2 ca x2 q2) ++ wX7 ca x3 q3) := hD
  refine lv_aload_n hx hb dX10_init_42 rfl (lv_at hl 0 rfl) ?_
  refine lv_iconst (v := 2) hx hb dX10_init_43 (by decide) ?_
  refine kc_newq X hN hP hD hS (N := 2) (by decide) (by decide) (Nat.le_of_ble_eq_true rfl) kw_cl30 (Nat.le_of_ble_eq_true rfl) (Nat.le_of_ble_eq_true rfl) dX10_init_44 (fun x4 H hP hD hS => ?_)
  have hP : va_P (dC, dI) q_cl (((([(h0, .inr (10, [.ref x1, .ref x2, .int 0, .ref x3, .null, .null, .null, .null, .null, .null, .null, .null, .int 0, .null, .null, .null, .null]))] ++ wX2 ca x1 q1) ++ wX2 ca x2 q2) ++ wX7 ca x3 q3) ++ [(x4, .inl (ca 3, 2, .inr (.inr (.inr (.inr (fun _ => none))))))]) H := hP
  have hD : va_D A (((([(h0, .inr (10, [.ref x1, .ref x2, .int 0, .ref x3, .null, .null, .null, .null, .null, .null, .null, .null, .int 0, .null, .null, .null, .null]))] ++ wX2 ca x1 q1) ++ wX2 ca x2 q2) ++ wX7 ca x3 q3) ++ [(x4, .inl (ca 3, 2, .inr (.inr (.inr (.inr (fun _ => none))))))]) := hD
  refine lv_dup hx hb dX10_init_47 rfl ?_
  refine lv_iconst (v := 0) hx hb dX10_init_48 (by decide) ?_
  refine kc_new (b := 3) (N := 10) (fs := [.int 0, .int 0, .null, .null, .null, .null, .null, .null, .null, .null]) X hP hD hS (by decide) rfl kw_cl30 kw_able3 kw_ini3 (by decide +kernel) (Nat.le_of_ble_eq_true rfl) (Nat.le_of_ble_eq_true rfl) dX10_init_49 (fun x5 H hP hD hS => ?_)
  refine lv_dup hx hb dX10_init_52 rfl ?_
  refine kc_initN (As := []) (rest := [.ref x5, .int 0, .ref x4, .ref x4, .ref h0]) X hl.1 (kX3 l dC dI ca) ⟨rfl, rfl⟩ ⟨(Nat.le_of_ble_eq_true rfl), (Nat.le_of_ble_eq_true rfl)⟩ kw_code3 kw_ini3 ⟨by decide +kernel, by decide +kernel⟩ (n := 0) (by decide +kernel) rfl kw_inst3 hN.2.2.2.1 rfl rfl (Nat.le_of_ble_eq_true rfl) hP hD hS dX10_init_53 ⟨(Nat.le_of_ble_eq_true rfl), (Nat.le_of_ble_eq_true rfl)⟩ (fun q4 H locs hP hD hS => ?_)
  refine va_astq (i := 0) (v := x5) hx hb X.2.2.2.2.2.1 hP hD hS 13 3 14 3 rfl rfl rfl rfl (show vp_in (nI 0) 2 from vp_in_nI (by decide) (by decide)) dX10_init_56 (fun H locs hP hD hS => ?_)
  have hP : va_P (dC, dI) q_cl ((((([(h0, .inr (10, [.ref x1, .ref x2, .int 0, .ref x3, .null, .null, .null, .null, .null, .null, .null, .null, .int 0, .null, .null, .null, .null]))] ++ wX2 ca x1 q1) ++ wX2 ca x2 q2) ++ wX7 ca x3 q3) ++ [(x4, .inl (ca 3, 2, .inr (.inr (.inr (.inr (va_up (fun _ => none) (0 : Int32).toNatClampNeg (some x5)))))))]) ++ wX3 ca x5 q4) H := hP
  have hD : va_D A ((((([(h0, .inr (10, [.ref x1, .ref x2, .int 0, .ref x3, .null, .null, .null, .null, .null, .null, .null, .null, .int 0, .null, .null, .null, .null]))] ++ wX2 ca x1 q1) ++ wX2 ca x2 q2) ++ wX7 ca x3 q3) ++ [(x4, .inl (ca 3, 2, .inr (.inr (.inr (.inr (va_up (fun _ => none) (0 : Int32).toNatClampNeg (some x5)))))))]) ++ wX3 ca x5 q4) := hD
  refine lv_dup hx hb dX10_init_57 rfl ?_
  refine lv_iconst (v := 1) hx hb dX10_init_58 (by decide) ?_
  refine kc_new (b := 3) (N := 10) (fs := [.int 0, .int 0, .null, .null, .null, .null, .null, .null, .null, .null]) X hP hD hS (by decide) rfl kw_cl30 kw_able3 kw_ini3 (by decide +kernel) (Nat.le_of_ble_eq_true rfl) (Nat.le_of_ble_eq_true rfl) dX10_init_59 (fun x6 H hP hD hS => ?_)
  refine lv_dup hx hb dX10_init_62 rfl ?_
  refine kc_initN (As := []) (rest := [.ref x6, .int 1, .ref x4, .ref x4, .ref h0]) X hl.1 (kX3 l dC dI ca) ⟨rfl, rfl⟩ ⟨(Nat.le_of_ble_eq_true rfl), (Nat.le_of_ble_eq_true rfl)⟩ kw_code3 kw_ini3 ⟨by decide +kernel, by decide +kernel⟩ (n := 0) (by decide +kernel) rfl kw_inst3 hN.2.2.2.1 rfl rfl (Nat.le_of_ble_eq_true rfl) hP hD hS dX10_init_63 ⟨(Nat.le_of_ble_eq_true rfl), (Nat.le_of_ble_eq_true rfl)⟩ (fun q5 H locs hP hD hS => ?_)
  refine va_astq (i := 1) (v := x6) hx hb X.2.2.2.2.2.1 hP hD hS 13 3 23 3 rfl rfl rfl rfl (show vp_in (nI 1) 2 from vp_in_nI (by decide) (by decide)) dX10_init_66 (fun H locs hP hD hS => ?_)
  have hP : va_P (dC, dI) q_cl (((((([(h0, .inr (10, [.ref x1, .ref x2, .int 0, .ref x3, .null, .null, .null, .null, .null, .null, .null, .null, .int 0, .null, .null, .null, .null]))] ++ wX2 ca x1 q1) ++ wX2 ca x2 q2) ++ wX7 ca x3 q3) ++ [(x4, .inl (ca 3, 2, .inr (.inr (.inr (.inr (va_up (va_up (fun _ => none) (0 : Int32).toNatClampNeg (some x5)) (1 : Int32).toNatClampNeg (some x6)))))))]) ++ wX3 ca x5 q4) ++ wX3 ca x6 q5) H := hP
  have hD : va_D A (((((([(h0, .inr (10, [.ref x1, .ref x2, .int 0, .ref x3, .null, .null, .null, .null, .null, .null, .null, .null, .int 0, .null, .null, .null, .null]))] ++ wX2 ca x1 q1) ++ wX2 ca x2 q2) ++ wX7 ca x3 q3) ++ [(x4, .inl (ca 3, 2, .inr (.inr (.inr (.inr (va_up (va_up (fun _ => none) (0 : Int32).toNatClampNeg (some x5)) (1 : Int32).toNatClampNeg (some x6)))))))]) ++ wX3 ca x5 q4) ++ wX3 ca x6 q5) := hD
  refine kc_put (b := 10) (k := 4) (q0 := 0) (v := .ref x4) (ty := .array (.object "BellHours$Law")) X hnm hP hD hS rfl (by decide) (by decide) kw_f10_33 rfl (by decide +kernel) rfl rfl (Nat.le_of_ble_eq_true rfl) dX10_init_67 (fun H locs hP hD hS => ?_)
  have hP : va_P (dC, dI) q_cl (((((([(h0, .inr (10, [.ref x1, .ref x2, .int 0, .ref x3, .ref x4, .null, .null, .null, .null, .null, .null, .null, .int 0, .null, .null, .null, .null]))] ++ wX2 ca x1 q1) ++ wX2 ca x2 q2) ++ wX7 ca x3 q3) ++ [(x4, .inl (ca 3, 2, .inr (.inr (.inr (.inr (va_up (va_up (fun _ => none) (0 : Int32).toNatClampNeg (some x5)) (1 : Int32).toNatClampNeg (some x6)))))))]) ++ wX3 ca x5 q4) ++ wX3 ca x6 q5) H := hP
  have hD : va_D A (((((([(h0, .inr (10, [.ref x1, .ref x2, .int 0, .ref x3, .ref x4, .null, .null, .null, .null, .null, .null, .null, .int 0, .null, .null, .null, .null]))] ++ wX2 ca x1 q1) ++ wX2 ca x2 q2) ++ wX7 ca x3 q3) ++ [(x4, .inl (ca 3, 2, .inr (.inr (.inr (.inr (va_up (va_up (fun _ => none) (0 : Int32).toNatClampNeg (some x5)) (1 : Int32).toNatClampNeg (some x6)))))))]) ++ wX3 ca x5 q4) ++ wX3 ca x6 q5) := hD
  refine lv_aload_n hx hb dX10_init_70 rfl (lv_at hl 0 rfl) ?_
  refine kc_new (b := 3) (N := 10) (fs := [.int 0, .int 0, .null, .null, .null, .null, .null, .null, .null, .null]) X hP hD hS (by decide) rfl kw_cl30 kw_able3 kw_ini3 (by decide +kernel) (Nat.le_of_ble_eq_true rfl) (Nat.le_of_ble_eq_true rfl) dX10_init_71 (fun x7 H hP hD hS => ?_)
  refine lv_dup hx hb dX10_init_74 rfl ?_
  refine kc_initN (As := []) (rest := [.ref x7, .ref h0]) X hl.1 (kX3 l dC dI ca) ⟨rfl, rfl⟩ ⟨(Nat.le_of_ble_eq_true rfl), (Nat.le_of_ble_eq_true rfl)⟩ kw_code3 kw_ini3 ⟨by decide +kernel, by decide +kernel⟩ (n := 0) (by decide +kernel) rfl kw_inst3 hN.2.2.2.1 rfl rfl (Nat.le_of_ble_eq_true rfl) hP hD hS dX10_init_75 ⟨(Nat.le_of_ble_eq_true rfl), (Nat.le_of_ble_eq_true rfl)⟩ (fun q6 H locs hP hD hS => ?_)
  refine kc_put (b := 10) (k := 5) (q0 := 0) (v := .ref x7) (ty := .object "BellHours$Law") X hnm hP hD hS rfl (by decide) (by decide) kw_f10_37 rfl (by decide +kernel) rfl rfl (Nat.le_of_ble_eq_true rfl) dX10_init_78 (fun H locs hP hD hS => ?_)
  have hP : va_P (dC, dI) q_cl ((((((([(h0, .inr (10, [.ref x1, .ref x2, .int 0, .ref x3, .ref x4, .ref x7, .null, .null, .null, .null, .null, .null, .int 0, .null, .null, .null, .null]))] ++ wX2 ca x1 q1) ++ wX2 ca x2 q2) ++ wX7 ca x3 q3) ++ [(x4, .inl (ca 3, 2, .inr (.inr (.inr (.inr (va_up (va_up (fun _ => none) (0 : Int32).toNatClampNeg (some x5)) (1 : Int32).toNatClampNeg (some x6)))))))]) ++ wX3 ca x5 q4) ++ wX3 ca x6 q5) ++ wX3 ca x7 q6) H := hP
  have hD : va_D A ((((((([(h0, .inr (10, [.ref x1, .ref x2, .int 0, .ref x3, .ref x4, .ref x7, .null, .null, .null, .null, .null, .null, .int 0, .null, .null, .null, .null]))] ++ wX2 ca x1 q1) ++ wX2 ca x2 q2) ++ wX7 ca x3 q3) ++ [(x4, .inl (ca 3, 2, .inr (.inr (.inr (.inr (va_up (va_up (fun _ => none) (0 : Int32).toNatClampNeg (some x5)) (1 : Int32).toNatClampNeg (some x6)))))))]) ++ wX3 ca x5 q4) ++ wX3 ca x6 q5) ++ wX3 ca x7 q6) := hD
  refine lv_aload_n hx hb dX10_init_81 rfl (lv_at hl 0 rfl) ?_
  refine kc_new (b := 5) (N := 6) (fs := [.null, .null, .int 0, .int 0, .int 0, .int 0]) X hP hD hS (by decide) rfl kw_cl41 kw_able5 kw_ini5 (by decide +kernel) (Nat.le_of_ble_eq_true rfl) (Nat.le_of_ble_eq_true rfl) dX10_init_82 (fun x8 H hP hD hS => ?_)
  refine lv_dup hx hb dX10_init_85 rfl ?_
  refine lv_aload_n hx hb dX10_init_86 rfl (lv_at hl 0 rfl) ?_
  refine kc_get (b := 10) (k := 3) (q0 := 0) X hP rfl (by decide) (by decide) kw_f10_26 rfl dX10_init_87 ?_
  refine kc_getN (b := 7) (k := 0) (q0 := 11) X hP rfl (by decide) (by decide) (hN.2.1) rfl dX10_init_90 ?_
  refine lv_aload_n hx hb dX10_init_93 rfl (lv_at hl 0 rfl) ?_
  refine kc_get (b := 10) (k := 5) (q0 := 0) X hP rfl (by decide) (by decide) kw_f10_37 rfl dX10_init_94 ?_
  refine kc_init (As := [.ref (q3 0), .ref x7]) (rest := [.ref x8, .ref h0]) X hl.1 (kX5 l dC dI ca (q3 0) x7) ⟨rfl, rfl⟩ ⟨(Nat.le_of_ble_eq_true rfl), (Nat.le_of_ble_eq_true rfl)⟩ kw_code5 kw_ini5 ⟨by decide +kernel, by decide +kernel⟩ (n := 2) (by decide +kernel) rfl kw_inst5 kw_ml47 rfl rfl (Nat.le_of_ble_eq_true rfl) hP hD hS dX10_init_97 ⟨(Nat.le_of_ble_eq_true rfl), (Nat.le_of_ble_eq_true rfl)⟩ (fun q7 H locs hP hD hS => ?_)
  refine kc_put (b := 10) (k := 6) (q0 := 0) (v := .ref x8) (ty := .object "BellHours$Reader") X hnm hP hD hS rfl (by decide) (by decide) kw_f10_50 rfl (by decide +kernel) rfl rfl (Nat.le_of_ble_eq_true rfl) dX10_init_100 (fun H locs hP hD hS => ?_)
  have hP : va_P (dC, dI) q_cl (((((((([(h0, .inr (10, [.ref x1, .ref x2, .int 0, .ref x3, .ref x4, .ref x7, .ref x8, .null, .null, .null, .null, .null, .int 0, .null, .null, .null, .null]))] ++ wX2 ca x1 q1) ++ wX2 ca x2 q2) ++ wX7 ca x3 q3) ++ [(x4, .inl (ca 3, 2, .inr (.inr (.inr (.inr (va_up (va_up (fun _ => none) (0 : Int32).toNatClampNeg (some x5)) (1 : Int32).toNatClampNeg (some x6)))))))]) ++ wX3 ca x5 q4) ++ wX3 ca x6 q5) ++ wX3 ca x7 q6) ++ wX5 ca (q3 0) x7 x8 q7) H := hP
  have hD : va_D A (((((((([(h0, .inr (10, [.ref x1, .ref x2, .int 0, .ref x3, .ref x4, .ref x7, .ref x8, .null, .null, .null, .null, .null, .int 0, .null, .null, .null, .null]))] ++ wX2 ca x1 q1) ++ wX2 ca x2 q2) ++ wX7 ca x3 q3) ++ [(x4, .inl (ca 3, 2, .inr (.inr (.inr (.inr (va_up (va_up (fun _ => none) (0 : Int32).toNatClampNeg (some x5)) (1 : Int32).toNatClampNeg (some x6)))))))]) ++ wX3 ca x5 q4) ++ wX3 ca x6 q5) ++ wX3 ca x7 q6) ++ wX5 ca (q3 0) x7 x8 q7) := hD
  refine lv_aload_n hx hb dX10_init_103 rfl (lv_at hl 0 rfl) ?_
  refine lv_bipush (v := 13) hx hb dX10_init_104 (by decide) ?_
  refine kc_newi X hP hD hS (N := 13) (by decide) (by decide) (Nat.le_of_ble_eq_true rfl) (Nat.le_of_ble_eq_true rfl) (Nat.le_of_ble_eq_true rfl) dX10_init_106 (fun x9 H hP hD hS => ?_)
  have hP : va_P (dC, dI) q_cl ((((((((([(h0, .inr (10, [.ref x1, .ref x2, .int 0, .ref x3, .ref x4, .ref x7, .ref x8, .null, .null, .null, .null, .null, .int 0, .null, .null, .null, .null]))] ++ wX2 ca x1 q1) ++ wX2 ca x2 q2) ++ wX7 ca x3 q3) ++ [(x4, .inl (ca 3, 2, .inr (.inr (.inr (.inr (va_up (va_up (fun _ => none) (0 : Int32).toNatClampNeg (some x5)) (1 : Int32).toNatClampNeg (some x6)))))))]) ++ wX3 ca x5 q4) ++ wX3 ca x6 q5) ++ wX3 ca x7 q6) ++ wX5 ca (q3 0) x7 x8 q7) ++ [(x9, .inl (ca 0, 13, .inl (fun _ => 0)))]) H := hP
  have hD : va_D A ((((((((([(h0, .inr (10, [.ref x1, .ref x2, .int 0, .ref x3, .ref x4, .ref x7, .ref x8, .null, .null, .null, .null, .null, .int 0, .null, .null, .null, .null]))] ++ wX2 ca x1 q1) ++ wX2 ca x2 q2) ++ wX7 ca x3 q3) ++ [(x4, .inl (ca 3, 2, .inr (.inr (.inr (.inr (va_up (va_up (fun _ => none) (0 : Int32).toNatClampNeg (some x5)) (1 : Int32).toNatClampNeg (some x6)))))))]) ++ wX3 ca x5 q4) ++ wX3 ca x6 q5) ++ wX3 ca x7 q6) ++ wX5 ca (q3 0) x7 x8 q7) ++ [(x9, .inl (ca 0, 13, .inl (fun _ => 0)))]) := hD
  refine kc_put (b := 10) (k := 7) (q0 := 0) (v := .ref x9) (ty := .array .int) X hnm hP hD hS rfl (by decide) (by decide) kw_f10_54 rfl (by decide +kernel) rfl rfl (Nat.le_of_ble_eq_true rfl) dX10_init_108 (fun H locs hP hD hS => ?_)
  have hP : va_P (dC, dI) q_cl ((((((((([(h0, .inr (10, [.ref x1, .ref x2, .int 0, .ref x3, .ref x4, .ref x7, .ref x8, .ref x9, .null, .null, .null, .null, .int 0, .null, .null, .null, .null]))] ++ wX2 ca x1 q1) ++ wX2 ca x2 q2) ++ wX7 ca x3 q3) ++ [(x4, .inl (ca 3, 2, .inr (.inr (.inr (.inr (va_up (va_up (fun _ => none) (0 : Int32).toNatClampNeg (some x5)) (1 : Int32).toNatClampNeg (some x6)))))))]) ++ wX3 ca x5 q4) ++ wX3 ca x6 q5) ++ wX3 ca x7 q6) ++ wX5 ca (q3 0) x7 x8 q7) ++ [(x9, .inl (ca 0, 13, .inl (fun _ => 0)))]) H := hP
  have hD : va_D A ((((((((([(h0, .inr (10, [.ref x1, .ref x2, .int 0, .ref x3, .ref x4, .ref x7, .ref x8, .ref x9, .null, .null, .null, .null, .int 0, .null, .null, .null, .null]))] ++ wX2 ca x1 q1) ++ wX2 ca x2 q2) ++ wX7 ca x3 q3) ++ [(x4, .inl (ca 3, 2, .inr (.inr (.inr (.inr (va_up (va_up (fun _ => none) (0 : Int32).toNatClampNeg (some x5)) (1 : Int32).toNatClampNeg (some x6)))))))]) ++ wX3 ca x5 q4) ++ wX3 ca x6 q5) ++ wX3 ca x7 q6) ++ wX5 ca (q3 0) x7 x8 q7) ++ [(x9, .inl (ca 0, 13, .inl (fun _ => 0)))]) := hD
  refine lv_aload_n hx hb dX10_init_111 rfl (lv_at hl 0 rfl) ?_
  refine lv_bipush (v := 24) hx hb dX10_init_112 (by decide) ?_
  refine kc_newi X hP hD hS (N := 24) (by decide) (by decide) (Nat.le_of_ble_eq_true rfl) (Nat.le_of_ble_eq_true rfl) (Nat.le_of_ble_eq_true rfl) dX10_init_114 (fun x10 H hP hD hS => ?_)
  have hP : va_P (dC, dI) q_cl (((((((((([(h0, .inr (10, [.ref x1, .ref x2, .int 0, .ref x3, .ref x4, .ref x7, .ref x8, .ref x9, .null, .null, .null, .null, .int 0, .null, .null, .null, .null]))] ++ wX2 ca x1 q1) ++ wX2 ca x2 q2) ++ wX7 ca x3 q3) ++ [(x4, .inl (ca 3, 2, .inr (.inr (.inr (.inr (va_up (va_up (fun _ => none) (0 : Int32).toNatClampNeg (some x5)) (1 : Int32).toNatClampNeg (some x6)))))))]) ++ wX3 ca x5 q4) ++ wX3 ca x6 q5) ++ wX3 ca x7 q6) ++ wX5 ca (q3 0) x7 x8 q7) ++ [(x9, .inl (ca 0, 13, .inl (fun _ => 0)))]) ++ [(x10, .inl (ca 0, 24, .inl (fun _ => 0)))]) H := hP
  have hD : va_D A (((((((((([(h0, .inr (10, [.ref x1, .ref x2, .int 0, .ref x3, .ref x4, .ref x7, .ref x8, .ref x9, .null, .null, .null, .null, .int 0, .null, .null, .null, .null]))] ++ wX2 ca x1 q1) ++ wX2 ca x2 q2) ++ wX7 ca x3 q3) ++ [(x4, .inl (ca 3, 2, .inr (.inr (.inr (.inr (va_up (va_up (fun _ => none) (0 : Int32).toNatClampNeg (some x5)) (1 : Int32).toNatClampNeg (some x6)))))))]) ++ wX3 ca x5 q4) ++ wX3 ca x6 q5) ++ wX3 ca x7 q6) ++ wX5 ca (q3 0) x7 x8 q7) ++ [(x9, .inl (ca 0, 13, .inl (fun _ => 0)))]) ++ [(x10, .inl (ca 0, 24, .inl (fun _ => 0)))]) := hD
  refine kc_put (b := 10) (k := 8) (q0 := 0) (v := .ref x10) (ty := .array .int) X hnm hP hD hS rfl (by decide) (by decide) kw_f10_57 rfl (by decide +kernel) rfl rfl (Nat.le_of_ble_eq_true rfl) dX10_init_116 (fun H locs hP hD hS => ?_)
  have hP : va_P (dC, dI) q_cl (((((((((([(h0, .inr (10, [.ref x1, .ref x2, .int 0, .ref x3, .ref x4, .ref x7, .ref x8, .ref x9, .ref x10, .null, .null, .null, .int 0, .null, .null, .null, .null]))] ++ wX2 ca x1 q1) ++ wX2 ca x2 q2) ++ wX7 ca x3 q3) ++ [(x4, .inl (ca 3, 2, .inr (.inr (.inr (.inr (va_up (va_up (fun _ => none) (0 : Int32).toNatClampNeg (some x5)) (1 : Int32).toNatClampNeg (some x6)))))))]) ++ wX3 ca x5 q4) ++ wX3 ca x6 q5) ++ wX3 ca x7 q6) ++ wX5 ca (q3 0) x7 x8 q7) ++ [(x9, .inl (ca 0, 13, .inl (fun _ => 0)))]) ++ [(x10, .inl (ca 0, 24, .inl (fun _ => 0)))]) H := hP
  have hD : va_D A (((((((((([(h0, .inr (10, [.ref x1, .ref x2, .int 0, .ref x3, .ref x4, .ref x7, .ref x8, .ref x9, .ref x10, .null, .null, .null, .int 0, .null, .null, .null, .null]))] ++ wX2 ca x1 q1) ++ wX2 ca x2 q2) ++ wX7 ca x3 q3) ++ [(x4, .inl (ca 3, 2, .inr (.inr (.inr (.inr (va_up (va_up (fun _ => none) (0 : Int32).toNatClampNeg (some x5)) (1 : Int32).toNatClampNeg (some x6)))))))]) ++ wX3 ca x5 q4) ++ wX3 ca x6 q5) ++ wX3 ca x7 q6) ++ wX5 ca (q3 0) x7 x8 q7) ++ [(x9, .inl (ca 0, 13, .inl (fun _ => 0)))]) ++ [(x10, .inl (ca 0, 24, .inl (fun _ => 0)))]) := hD
  refine lv_aload_n hx hb dX10_init_119 rfl (lv_at hl 0 rfl) ?_
  refine kc_new (b := 6) (N := 2) (fs := [.null, .null]) X hP hD hS (by decide) rfl kw_cl60 kw_able6 kw_ini6 (by decide +kernel) (Nat.le_of_ble_eq_true rfl) (Nat.le_of_ble_eq_true rfl) dX10_init_120 (fun x11 H hP hD hS => ?_)
  refine lv_dup hx hb dX10_init_123 rfl ?_
  refine kc_initN (As := []) (rest := [.ref x11, .ref h0]) X hl.1 (kX6 l dC dI ca) ⟨rfl, rfl⟩ ⟨(Nat.le_of_ble_eq_true rfl), (Nat.le_of_ble_eq_true rfl)⟩ kw_code6 kw_ini6 ⟨by decide +kernel, by decide +kernel⟩ (n := 0) (by decide +kernel) rfl kw_inst6 hN.2.2.2.2.1 rfl rfl (Nat.le_of_ble_eq_true rfl) hP hD hS dX10_init_124 ⟨(Nat.le_of_ble_eq_true rfl), (Nat.le_of_ble_eq_true rfl)⟩ (fun q8 H locs hP hD hS => ?_)
  refine kc_put (b := 10) (k := 9) (q0 := 0) (v := .ref x11) (ty := .object "BellHours$Scene") X hnm hP hD hS rfl (by decide) (by decide) kw_f10_63 rfl (by decide +kernel) rfl rfl (Nat.le_of_ble_eq_true rfl) dX10_init_127 (fun H locs hP hD hS => ?_)
  have hP : va_P (dC, dI) q_cl ((((((((((([(h0, .inr (10, [.ref x1, .ref x2, .int 0, .ref x3, .ref x4, .ref x7, .ref x8, .ref x9, .ref x10, .ref x11, .null, .null, .int 0, .null, .null, .null, .null]))] ++ wX2 ca x1 q1) ++ wX2 ca x2 q2) ++ wX7 ca x3 q3) ++ [(x4, .inl (ca 3, 2, .inr (.inr (.inr (.inr (va_up (va_up (fun _ => none) (0 : Int32).toNatClampNeg (some x5)) (1 : Int32).toNatClampNeg (some x6)))))))]) ++ wX3 ca x5 q4) ++ wX3 ca x6 q5) ++ wX3 ca x7 q6) ++ wX5 ca (q3 0) x7 x8 q7) ++ [(x9, .inl (ca 0, 13, .inl (fun _ => 0)))]) ++ [(x10, .inl (ca 0, 24, .inl (fun _ => 0)))]) ++ wX6 ca x11 q8) H := hP
  have hD : va_D A ((((((((((([(h0, .inr (10, [.ref x1, .ref x2, .int 0, .ref x3, .ref x4, .ref x7, .ref x8, .ref x9, .ref x10, .ref x11, .null, .null, .int 0, .null, .null, .null, .null]))] ++ wX2 ca x1 q1) ++ wX2 ca x2 q2) ++ wX7 ca x3 q3) ++ [(x4, .inl (ca 3, 2, .inr (.inr (.inr (.inr (va_up (va_up (fun _ => none) (0 : Int32).toNatClampNeg (some x5)) (1 : Int32).toNatClampNeg (some x6)))))))]) ++ wX3 ca x5 q4) ++ wX3 ca x6 q5) ++ wX3 ca x7 q6) ++ wX5 ca (q3 0) x7 x8 q7) ++ [(x9, .inl (ca 0, 13, .inl (fun _ => 0)))]) ++ [(x10, .inl (ca 0, 24, .inl (fun _ => 0)))]) ++ wX6 ca x11 q8) := hD
  refine lv_aload_n hx hb dX10_init_130 rfl (lv_at hl 0 rfl) ?_
  refine kc_new (b := 0) (N := 9) (fs := [.null, .null, .null, .null, .null, .null, .null, .null, .null]) X hP hD hS (by decide) rfl kw_cl67 kw_able0 kw_ini0 (by decide +kernel) (Nat.le_of_ble_eq_true rfl) (Nat.le_of_ble_eq_true rfl) dX10_init_131 (fun x12 H hP hD hS => ?_)
  refine lv_dup hx hb dX10_init_134 rfl ?_
  refine lv_aload_n hx hb dX10_init_135 rfl (lv_at hl 0 rfl) ?_
  refine kc_get (b := 10) (k := 0) (q0 := 0) X hP rfl (by decide) (by decide) kw_f10_12 rfl dX10_init_136 ?_
  refine lv_aload_n hx hb dX10_init_139 rfl (lv_at hl 0 rfl) ?_
  refine kc_get (b := 10) (k := 4) (q0 := 0) X hP rfl (by decide) (by decide) kw_f10_33 rfl dX10_init_140 ?_
  refine lv_iconst (v := 0) hx hb dX10_init_143 (by decide) ?_
  refine va_aldq (i := 0) hx hb X.2.2.2.2.2.1 hP 13 3 rfl rfl (show vp_in (nI 0) 2 from vp_in_nI (by decide) (by decide)) dX10_init_144 ?_
  refine W.eq (g2 := F0 m 145 ls [.ref x5, .ref x1, .ref x12, .ref x12, .ref h0]) rfl ?_
  refine lv_aload_n hx hb dX10_init_145 rfl (lv_at hl 0 rfl) ?_
  refine kc_get (b := 10) (k := 9) (q0 := 0) X hP rfl (by decide) (by decide) kw_f10_63 rfl dX10_init_146 ?_
  refine kc_init (As := [.ref x1, .ref x5, .ref x11]) (rest := [.ref x12, .ref h0]) X hl.1 (kX0 l dC dI ca x1 x5 x11) ⟨rfl, rfl⟩ ⟨(Nat.le_of_ble_eq_true rfl), (Nat.le_of_ble_eq_true rfl)⟩ kw_code0 kw_ini0 ⟨by decide +kernel, by decide +kernel⟩ (n := 3) (by decide +kernel) rfl kw_inst0 kw_ml69 rfl rfl (Nat.le_of_ble_eq_true rfl) hP hD hS dX10_init_149 ⟨(Nat.le_of_ble_eq_true rfl), (Nat.le_of_ble_eq_true rfl)⟩ (fun q9 H locs hP hD hS => ?_)
  refine kc_put (b := 10) (k := 10) (q0 := 0) (v := .ref x12) (ty := .object "BellHours$Day") X hnm hP hD hS rfl (by decide) (by decide) kw_f10_72 rfl (by decide +kernel) rfl rfl (Nat.le_of_ble_eq_true rfl) dX10_init_152 (fun H locs hP hD hS => ?_)
  have hP : va_P (dC, dI) q_cl (((((((((((([(h0, .inr (10, [.ref x1, .ref x2, .int 0, .ref x3, .ref x4, .ref x7, .ref x8, .ref x9, .ref x10, .ref x11, .ref x12, .null, .int 0, .null, .null, .null, .null]))] ++ wX2 ca x1 q1) ++ wX2 ca x2 q2) ++ wX7 ca x3 q3) ++ [(x4, .inl (ca 3, 2, .inr (.inr (.inr (.inr (va_up (va_up (fun _ => none) (0 : Int32).toNatClampNeg (some x5)) (1 : Int32).toNatClampNeg (some x6)))))))]) ++ wX3 ca x5 q4) ++ wX3 ca x6 q5) ++ wX3 ca x7 q6) ++ wX5 ca (q3 0) x7 x8 q7) ++ [(x9, .inl (ca 0, 13, .inl (fun _ => 0)))]) ++ [(x10, .inl (ca 0, 24, .inl (fun _ => 0)))]) ++ wX6 ca x11 q8) ++ wX0 ca x1 x5 x11 x12 q9) H := hP
  have hD : va_D A (((((((((((([(h0, .inr (10, [.ref x1, .ref x2, .int 0, .ref x3, .ref x4, .ref x7, .ref x8, .ref x9, .ref x10, .ref x11, .ref x12, .null, .int 0, .null, .null, .null, .null]))] ++ wX2 ca x1 q1) ++ wX2 ca x2 q2) ++ wX7 ca x3 q3) ++ [(x4, .inl (ca 3, 2, .inr (.inr (.inr (.inr (va_up (va_up (fun _ => none) (0 : Int32).toNatClampNeg (some x5)) (1 : Int32).toNatClampNeg (some x6)))))))]) ++ wX3 ca x5 q4) ++ wX3 ca x6 q5) ++ wX3 ca x7 q6) ++ wX5 ca (q3 0) x7 x8 q7) ++ [(x9, .inl (ca 0, 13, .inl (fun _ => 0)))]) ++ [(x10, .inl (ca 0, 24, .inl (fun _ => 0)))]) ++ wX6 ca x11 q8) ++ wX0 ca x1 x5 x11 x12 q9) := hD
  refine lv_aload_n hx hb dX10_init_155 rfl (lv_at hl 0 rfl) ?_
  refine kc_new (b := 0) (N := 9) (fs := [.null, .null, .null, .null, .null, .null, .null, .null, .null]) X hP hD hS (by decide) rfl kw_cl67 kw_able0 kw_ini0 (by decide +kernel) (Nat.le_of_ble_eq_true rfl) (Nat.le_of_ble_eq_true rfl) dX10_init_156 (fun x13 H hP hD hS => ?_)
  refine lv_dup hx hb dX10_init_159 rfl ?_
  refine lv_aload_n hx hb dX10_init_160 rfl (lv_at hl 0 rfl) ?_
  refine kc_get (b := 10) (k := 0) (q0 := 0) X hP rfl (by decide) (by decide) kw_f10_12 rfl dX10_init_161 ?_
  refine lv_aload_n hx hb dX10_init_164 rfl (lv_at hl 0 rfl) ?_
  refine kc_get (b := 10) (k := 4) (q0 := 0) X hP rfl (by decide) (by decide) kw_f10_33 rfl dX10_init_165 ?_
  refine lv_iconst (v := 0) hx hb dX10_init_168 (by decide) ?_
  refine va_aldq (i := 0) hx hb X.2.2.2.2.2.1 hP 13 3 rfl rfl (show vp_in (nI 0) 2 from vp_in_nI (by decide) (by decide)) dX10_init_169 ?_
  refine W.eq (g2 := F0 m 170 ls [.ref x5, .ref x1, .ref x13, .ref x13, .ref h0]) rfl ?_
  refine lv_aload_n hx hb dX10_init_170 rfl (lv_at hl 0 rfl) ?_
  refine kc_get (b := 10) (k := 9) (q0 := 0) X hP rfl (by decide) (by decide) kw_f10_63 rfl dX10_init_171 ?_
  refine kc_init (As := [.ref x1, .ref x5, .ref x11]) (rest := [.ref x13, .ref h0]) X hl.1 (kX0 l dC dI ca x1 x5 x11) ⟨rfl, rfl⟩ ⟨(Nat.le_of_ble_eq_true rfl), (Nat.le_of_ble_eq_true rfl)⟩ kw_code0 kw_ini0 ⟨by decide +kernel, by decide +kernel⟩ (n := 3) (by decide +kernel) rfl kw_inst0 kw_ml69 rfl rfl (Nat.le_of_ble_eq_true rfl) hP hD hS dX10_init_174 ⟨(Nat.le_of_ble_eq_true rfl), (Nat.le_of_ble_eq_true rfl)⟩ (fun q10 H locs hP hD hS => ?_)
  refine kc_put (b := 10) (k := 11) (q0 := 0) (v := .ref x13) (ty := .object "BellHours$Day") X hnm hP hD hS rfl (by decide) (by decide) kw_f10_76 rfl (by decide +kernel) rfl rfl (Nat.le_of_ble_eq_true rfl) dX10_init_177 (fun H locs hP hD hS => ?_)
  have hP : va_P (dC, dI) q_cl ((((((((((((([(h0, .inr (10, [.ref x1, .ref x2, .int 0, .ref x3, .ref x4, .ref x7, .ref x8, .ref x9, .ref x10, .ref x11, .ref x12, .ref x13, .int 0, .null, .null, .null, .null]))] ++ wX2 ca x1 q1) ++ wX2 ca x2 q2) ++ wX7 ca x3 q3) ++ [(x4, .inl (ca 3, 2, .inr (.inr (.inr (.inr (va_up (va_up (fun _ => none) (0 : Int32).toNatClampNeg (some x5)) (1 : Int32).toNatClampNeg (some x6)))))))]) ++ wX3 ca x5 q4) ++ wX3 ca x6 q5) ++ wX3 ca x7 q6) ++ wX5 ca (q3 0) x7 x8 q7) ++ [(x9, .inl (ca 0, 13, .inl (fun _ => 0)))]) ++ [(x10, .inl (ca 0, 24, .inl (fun _ => 0)))]) ++ wX6 ca x11 q8) ++ wX0 ca x1 x5 x11 x12 q9) ++ wX0 ca x1 x5 x11 x13 q10) H := hP
  have hD : va_D A ((((((((((((([(h0, .inr (10, [.ref x1, .ref x2, .int 0, .ref x3, .ref x4, .ref x7, .ref x8, .ref x9, .ref x10, .ref x11, .ref x12, .ref x13, .int 0, .null, .null, .null, .null]))] ++ wX2 ca x1 q1) ++ wX2 ca x2 q2) ++ wX7 ca x3 q3) ++ [(x4, .inl (ca 3, 2, .inr (.inr (.inr (.inr (va_up (va_up (fun _ => none) (0 : Int32).toNatClampNeg (some x5)) (1 : Int32).toNatClampNeg (some x6)))))))]) ++ wX3 ca x5 q4) ++ wX3 ca x6 q5) ++ wX3 ca x7 q6) ++ wX5 ca (q3 0) x7 x8 q7) ++ [(x9, .inl (ca 0, 13, .inl (fun _ => 0)))]) ++ [(x10, .inl (ca 0, 24, .inl (fun _ => 0)))]) ++ wX6 ca x11 q8) ++ wX0 ca x1 x5 x11 x12 q9) ++ wX0 ca x1 x5 x11 x13 q10) := hD
  refine lv_aload_n hx hb dX10_init_180 rfl (lv_at hl 0 rfl) ?_
  refine lv_iconst (v := 0) hx hb dX10_init_181 (by decide) ?_
  refine kc_put (b := 10) (k := 12) (q0 := 0) (v := .int 0) (ty := .boolean) X hnm hP hD hS rfl (by decide) (by decide) kw_f10_79 rfl (by decide +kernel) rfl rfl (Nat.le_of_ble_eq_true rfl) dX10_init_182 (fun H locs hP hD hS => ?_)
  have hP : va_P (dC, dI) q_cl ((((((((((((([(h0, .inr (10, [.ref x1, .ref x2, .int 0, .ref x3, .ref x4, .ref x7, .ref x8, .ref x9, .ref x10, .ref x11, .ref x12, .ref x13, .int 0, .null, .null, .null, .null]))] ++ wX2 ca x1 q1) ++ wX2 ca x2 q2) ++ wX7 ca x3 q3) ++ [(x4, .inl (ca 3, 2, .inr (.inr (.inr (.inr (va_up (va_up (fun _ => none) (0 : Int32).toNatClampNeg (some x5)) (1 : Int32).toNatClampNeg (some x6)))))))]) ++ wX3 ca x5 q4) ++ wX3 ca x6 q5) ++ wX3 ca x7 q6) ++ wX5 ca (q3 0) x7 x8 q7) ++ [(x9, .inl (ca 0, 13, .inl (fun _ => 0)))]) ++ [(x10, .inl (ca 0, 24, .inl (fun _ => 0)))]) ++ wX6 ca x11 q8) ++ wX0 ca x1 x5 x11 x12 q9) ++ wX0 ca x1 x5 x11 x13 q10) H := hP
  have hD : va_D A ((((((((((((([(h0, .inr (10, [.ref x1, .ref x2, .int 0, .ref x3, .ref x4, .ref x7, .ref x8, .ref x9, .ref x10, .ref x11, .ref x12, .ref x13, .int 0, .null, .null, .null, .null]))] ++ wX2 ca x1 q1) ++ wX2 ca x2 q2) ++ wX7 ca x3 q3) ++ [(x4, .inl (ca 3, 2, .inr (.inr (.inr (.inr (va_up (va_up (fun _ => none) (0 : Int32).toNatClampNeg (some x5)) (1 : Int32).toNatClampNeg (some x6)))))))]) ++ wX3 ca x5 q4) ++ wX3 ca x6 q5) ++ wX3 ca x7 q6) ++ wX5 ca (q3 0) x7 x8 q7) ++ [(x9, .inl (ca 0, 13, .inl (fun _ => 0)))]) ++ [(x10, .inl (ca 0, 24, .inl (fun _ => 0)))]) ++ wX6 ca x11 q8) ++ wX0 ca x1 x5 x11 x12 q9) ++ wX0 ca x1 x5 x11 x13 q10) := hD
  refine lv_aload_n hx hb dX10_init_185 rfl (lv_at hl 0 rfl) ?_
  refine kc_new (b := 8) (N := 7) (fs := [.null, .null, .null, .int 0, .int 0, .int 0, .int 0]) X hP hD hS (by decide) rfl kw_cl82 kw_able8 kw_ini8 (by decide +kernel) (Nat.le_of_ble_eq_true rfl) (Nat.le_of_ble_eq_true rfl) dX10_init_186 (fun x14 H hP hD hS => ?_)
  refine lv_dup hx hb dX10_init_189 rfl ?_
  refine lv_aload_n hx hb dX10_init_190 rfl (lv_at hl 0 rfl) ?_
  refine kc_get (b := 10) (k := 10) (q0 := 0) X hP rfl (by decide) (by decide) kw_f10_72 rfl dX10_init_191 ?_
  refine lv_aload_n hx hb dX10_init_194 rfl (lv_at hl 0 rfl) ?_
  refine kc_get (b := 10) (k := 11) (q0 := 0) X hP rfl (by decide) (by decide) kw_f10_76 rfl dX10_init_195 ?_
  refine lv_aload_n hx hb dX10_init_198 rfl (lv_at hl 0 rfl) ?_
  refine kc_get (b := 10) (k := 4) (q0 := 0) X hP rfl (by decide) (by decide) kw_f10_33 rfl dX10_init_199 ?_
  refine lv_iconst (v := 0) hx hb dX10_init_202 (by decide) ?_
  refine va_aldq (i := 0) hx hb X.2.2.2.2.2.1 hP 13 3 rfl rfl (show vp_in (nI 0) 2 from vp_in_nI (by decide) (by decide)) dX10_init_203 ?_
  refine W.eq (g2 := F0 m 204 ls [.ref x5, .ref x13, .ref x12, .ref x14, .ref x14, .ref h0]) rfl ?_
  refine kc_init (As := [.ref x12, .ref x13, .ref x5]) (rest := [.ref x14, .ref h0]) X hl.1 (kX8 l dC dI ca x12 x13 x5) ⟨rfl, rfl⟩ ⟨(Nat.le_of_ble_eq_true rfl), (Nat.le_of_ble_eq_true rfl)⟩ kw_code8 kw_ini8 ⟨by decide +kernel, by decide +kernel⟩ (n := 3) (by decide +kernel) rfl kw_inst8 kw_ml84 rfl rfl (Nat.le_of_ble_eq_true rfl) hP hD hS dX10_init_204 ⟨(Nat.le_of_ble_eq_true rfl), (Nat.le_of_ble_eq_true rfl)⟩ (fun q11 H locs hP hD hS => ?_)
  refine kc_put (b := 10) (k := 13) (q0 := 0) (v := .ref x14) (ty := .object "BellHours$Trade") X hnm hP hD hS rfl (by decide) (by decide) kw_f10_87 rfl (by decide +kernel) rfl rfl (Nat.le_of_ble_eq_true rfl) dX10_init_207 (fun H locs hP hD hS => ?_)
  have hP : va_P (dC, dI) q_cl (((((((((((((([(h0, .inr (10, [.ref x1, .ref x2, .int 0, .ref x3, .ref x4, .ref x7, .ref x8, .ref x9, .ref x10, .ref x11, .ref x12, .ref x13, .int 0, .ref x14, .null, .null, .null]))] ++ wX2 ca x1 q1) ++ wX2 ca x2 q2) ++ wX7 ca x3 q3) ++ [(x4, .inl (ca 3, 2, .inr (.inr (.inr (.inr (va_up (va_up (fun _ => none) (0 : Int32).toNatClampNeg (some x5)) (1 : Int32).toNatClampNeg (some x6)))))))]) ++ wX3 ca x5 q4) ++ wX3 ca x6 q5) ++ wX3 ca x7 q6) ++ wX5 ca (q3 0) x7 x8 q7) ++ [(x9, .inl (ca 0, 13, .inl (fun _ => 0)))]) ++ [(x10, .inl (ca 0, 24, .inl (fun _ => 0)))]) ++ wX6 ca x11 q8) ++ wX0 ca x1 x5 x11 x12 q9) ++ wX0 ca x1 x5 x11 x13 q10) ++ wX8 ca x12 x13 x5 x14 q11) H := hP
  have hD : va_D A (((((((((((((([(h0, .inr (10, [.ref x1, .ref x2, .int 0, .ref x3, .ref x4, .ref x7, .ref x8, .ref x9, .ref x10, .ref x11, .ref x12, .ref x13, .int 0, .ref x14, .null, .null, .null]))] ++ wX2 ca x1 q1) ++ wX2 ca x2 q2) ++ wX7 ca x3 q3) ++ [(x4, .inl (ca 3, 2, .inr (.inr (.inr (.inr (va_up (va_up (fun _ => none) (0 : Int32).toNatClampNeg (some x5)) (1 : Int32).toNatClampNeg (some x6)))))))]) ++ wX3 ca x5 q4) ++ wX3 ca x6 q5) ++ wX3 ca x7 q6) ++ wX5 ca (q3 0) x7 x8 q7) ++ [(x9, .inl (ca 0, 13, .inl (fun _ => 0)))]) ++ [(x10, .inl (ca 0, 24, .inl (fun _ => 0)))]) ++ wX6 ca x11 q8) ++ wX0 ca x1 x5 x11 x12 q9) ++ wX0 ca x1 x5 x11 x13 q10) ++ wX8 ca x12 x13 x5 x14 q11) := hD
  refine lv_aload_n hx hb dX10_init_210 rfl (lv_at hl 0 rfl) ?_
  refine kc_new (b := 4) (N := 6) (fs := [.null, .null, .null, .null, .null, .int 0]) X hP hD hS (by decide) rfl kw_cl91 kw_able4 kw_ini4 (by decide +kernel) (Nat.le_of_ble_eq_true rfl) (Nat.le_of_ble_eq_true rfl) dX10_init_211 (fun x15 H hP hD hS => ?_)
  refine lv_dup hx hb dX10_init_214 rfl ?_
  refine lv_aload_n hx hb dX10_init_215 rfl (lv_at hl 0 rfl) ?_
  refine kc_get (b := 10) (k := 0) (q0 := 0) X hP rfl (by decide) (by decide) kw_f10_12 rfl dX10_init_216 ?_
  refine lv_aload_n hx hb dX10_init_219 rfl (lv_at hl 0 rfl) ?_
  refine kc_get (b := 10) (k := 4) (q0 := 0) X hP rfl (by decide) (by decide) kw_f10_33 rfl dX10_init_220 ?_
  refine lv_iconst (v := 0) hx hb dX10_init_223 (by decide) ?_
  refine va_aldq (i := 0) hx hb X.2.2.2.2.2.1 hP 13 3 rfl rfl (show vp_in (nI 0) 2 from vp_in_nI (by decide) (by decide)) dX10_init_224 ?_
  refine W.eq (g2 := F0 m 225 ls [.ref x5, .ref x1, .ref x15, .ref x15, .ref h0]) rfl ?_
  refine lv_aload_n hx hb dX10_init_225 rfl (lv_at hl 0 rfl) ?_
  refine kc_get (b := 10) (k := 9) (q0 := 0) X hP rfl (by decide) (by decide) kw_f10_63 rfl dX10_init_226 ?_
  refine kc_init (As := [.ref x1, .ref x5, .ref x11]) (rest := [.ref x15, .ref h0]) X hl.1 (kX4 l dC dI ca x1 x5 x11) ⟨rfl, rfl⟩ ⟨(Nat.le_of_ble_eq_true rfl), (Nat.le_of_ble_eq_true rfl)⟩ kw_code4 kw_ini4 ⟨by decide +kernel, by decide +kernel⟩ (n := 3) (by decide +kernel) rfl kw_inst4 kw_ml93 rfl rfl (Nat.le_of_ble_eq_true rfl) hP hD hS dX10_init_229 ⟨(Nat.le_of_ble_eq_true rfl), (Nat.le_of_ble_eq_true rfl)⟩ (fun q12 H locs hP hD hS => ?_)
  refine kc_put (b := 10) (k := 14) (q0 := 0) (v := .ref x15) (ty := .object "BellHours$Orders") X hnm hP hD hS rfl (by decide) (by decide) kw_f10_94 rfl (by decide +kernel) rfl rfl (Nat.le_of_ble_eq_true rfl) dX10_init_232 (fun H locs hP hD hS => ?_)
  have hP : va_P (dC, dI) q_cl ((((((((((((((([(h0, .inr (10, [.ref x1, .ref x2, .int 0, .ref x3, .ref x4, .ref x7, .ref x8, .ref x9, .ref x10, .ref x11, .ref x12, .ref x13, .int 0, .ref x14, .ref x15, .null, .null]))] ++ wX2 ca x1 q1) ++ wX2 ca x2 q2) ++ wX7 ca x3 q3) ++ [(x4, .inl (ca 3, 2, .inr (.inr (.inr (.inr (va_up (va_up (fun _ => none) (0 : Int32).toNatClampNeg (some x5)) (1 : Int32).toNatClampNeg (some x6)))))))]) ++ wX3 ca x5 q4) ++ wX3 ca x6 q5) ++ wX3 ca x7 q6) ++ wX5 ca (q3 0) x7 x8 q7) ++ [(x9, .inl (ca 0, 13, .inl (fun _ => 0)))]) ++ [(x10, .inl (ca 0, 24, .inl (fun _ => 0)))]) ++ wX6 ca x11 q8) ++ wX0 ca x1 x5 x11 x12 q9) ++ wX0 ca x1 x5 x11 x13 q10) ++ wX8 ca x12 x13 x5 x14 q11) ++ wX4 ca x1 x5 x11 x15 q12) H := hP
  have hD : va_D A ((((((((((((((([(h0, .inr (10, [.ref x1, .ref x2, .int 0, .ref x3, .ref x4, .ref x7, .ref x8, .ref x9, .ref x10, .ref x11, .ref x12, .ref x13, .int 0, .ref x14, .ref x15, .null, .null]))] ++ wX2 ca x1 q1) ++ wX2 ca x2 q2) ++ wX7 ca x3 q3) ++ [(x4, .inl (ca 3, 2, .inr (.inr (.inr (.inr (va_up (va_up (fun _ => none) (0 : Int32).toNatClampNeg (some x5)) (1 : Int32).toNatClampNeg (some x6)))))))]) ++ wX3 ca x5 q4) ++ wX3 ca x6 q5) ++ wX3 ca x7 q6) ++ wX5 ca (q3 0) x7 x8 q7) ++ [(x9, .inl (ca 0, 13, .inl (fun _ => 0)))]) ++ [(x10, .inl (ca 0, 24, .inl (fun _ => 0)))]) ++ wX6 ca x11 q8) ++ wX0 ca x1 x5 x11 x12 q9) ++ wX0 ca x1 x5 x11 x13 q10) ++ wX8 ca x12 x13 x5 x14 q11) ++ wX4 ca x1 x5 x11 x15 q12) := hD
  refine lv_aload_n hx hb dX10_init_235 rfl (lv_at hl 0 rfl) ?_
  refine kc_new (b := 1) (N := 5) (fs := [.null, .null, .null, .null, .int 0]) X hP hD hS (by decide) rfl kw_cl98 kw_able1 kw_ini1 (by decide +kernel) (Nat.le_of_ble_eq_true rfl) (Nat.le_of_ble_eq_true rfl) dX10_init_236 (fun x16 H hP hD hS => ?_)
  refine lv_dup hx hb dX10_init_239 rfl ?_
  refine lv_aload_n hx hb dX10_init_240 rfl (lv_at hl 0 rfl) ?_
  refine kc_get (b := 10) (k := 0) (q0 := 0) X hP rfl (by decide) (by decide) kw_f10_12 rfl dX10_init_241 ?_
  refine kc_getN (b := 2) (k := 0) (q0 := 1) X hP rfl (by decide) (by decide) (hN.1 (10, 100, 2, 0) (by decide +kernel)) rfl dX10_init_244 ?_
  refine lv_aload_n hx hb dX10_init_247 rfl (lv_at hl 0 rfl) ?_
  refine kc_get (b := 10) (k := 7) (q0 := 0) X hP rfl (by decide) (by decide) kw_f10_54 rfl dX10_init_248 ?_
  refine kc_init (As := [.ref (q1 0), .ref x9]) (rest := [.ref x16, .ref h0]) X hl.1 (kX1 l dC dI ca (q1 0) x9) ⟨rfl, rfl⟩ ⟨(Nat.le_of_ble_eq_true rfl), (Nat.le_of_ble_eq_true rfl)⟩ kw_code1 kw_ini1 ⟨by decide +kernel, by decide +kernel⟩ (n := 2) (by decide +kernel) rfl kw_inst1 kw_ml103 rfl rfl (Nat.le_of_ble_eq_true rfl) hP hD hS dX10_init_251 ⟨(Nat.le_of_ble_eq_true rfl), (Nat.le_of_ble_eq_true rfl)⟩ (fun q13 H locs hP hD hS => ?_)
  refine kc_put (b := 10) (k := 15) (q0 := 0) (v := .ref x16) (ty := .object "BellHours$Hiding") X hnm hP hD hS rfl (by decide) (by decide) kw_f10_106 rfl (by decide +kernel) rfl rfl (Nat.le_of_ble_eq_true rfl) dX10_init_254 (fun H locs hP hD hS => ?_)
  have hP : va_P (dC, dI) q_cl (((((((((((((((([(h0, .inr (10, [.ref x1, .ref x2, .int 0, .ref x3, .ref x4, .ref x7, .ref x8, .ref x9, .ref x10, .ref x11, .ref x12, .ref x13, .int 0, .ref x14, .ref x15, .ref x16, .null]))] ++ wX2 ca x1 q1) ++ wX2 ca x2 q2) ++ wX7 ca x3 q3) ++ [(x4, .inl (ca 3, 2, .inr (.inr (.inr (.inr (va_up (va_up (fun _ => none) (0 : Int32).toNatClampNeg (some x5)) (1 : Int32).toNatClampNeg (some x6)))))))]) ++ wX3 ca x5 q4) ++ wX3 ca x6 q5) ++ wX3 ca x7 q6) ++ wX5 ca (q3 0) x7 x8 q7) ++ [(x9, .inl (ca 0, 13, .inl (fun _ => 0)))]) ++ [(x10, .inl (ca 0, 24, .inl (fun _ => 0)))]) ++ wX6 ca x11 q8) ++ wX0 ca x1 x5 x11 x12 q9) ++ wX0 ca x1 x5 x11 x13 q10) ++ wX8 ca x12 x13 x5 x14 q11) ++ wX4 ca x1 x5 x11 x15 q12) ++ wX1 ca (q1 0) x9 x16 q13) H := hP
  have hD : va_D A (((((((((((((((([(h0, .inr (10, [.ref x1, .ref x2, .int 0, .ref x3, .ref x4, .ref x7, .ref x8, .ref x9, .ref x10, .ref x11, .ref x12, .ref x13, .int 0, .ref x14, .ref x15, .ref x16, .null]))] ++ wX2 ca x1 q1) ++ wX2 ca x2 q2) ++ wX7 ca x3 q3) ++ [(x4, .inl (ca 3, 2, .inr (.inr (.inr (.inr (va_up (va_up (fun _ => none) (0 : Int32).toNatClampNeg (some x5)) (1 : Int32).toNatClampNeg (some x6)))))))]) ++ wX3 ca x5 q4) ++ wX3 ca x6 q5) ++ wX3 ca x7 q6) ++ wX5 ca (q3 0) x7 x8 q7) ++ [(x9, .inl (ca 0, 13, .inl (fun _ => 0)))]) ++ [(x10, .inl (ca 0, 24, .inl (fun _ => 0)))]) ++ wX6 ca x11 q8) ++ wX0 ca x1 x5 x11 x12 q9) ++ wX0 ca x1 x5 x11 x13 q10) ++ wX8 ca x12 x13 x5 x14 q11) ++ wX4 ca x1 x5 x11 x15 q12) ++ wX1 ca (q1 0) x9 x16 q13) := hD
  refine lv_aload_n hx hb dX10_init_257 rfl (lv_at hl 0 rfl) ?_
  refine kc_new (b := 9) (N := 2) (fs := [.null, .null]) X hP hD hS (by decide) rfl kw_cl110 kw_able9 kw_ini9 (by decide +kernel) (Nat.le_of_ble_eq_true rfl) (Nat.le_of_ble_eq_true rfl) dX10_init_258 (fun x17 H hP hD hS => ?_)
  refine lv_dup hx hb dX10_init_261 rfl ?_
  refine lv_aload_n hx hb dX10_init_262 rfl (lv_at hl 0 rfl) ?_
  refine kc_get (b := 10) (k := 0) (q0 := 0) X hP rfl (by decide) (by decide) kw_f10_12 rfl dX10_init_263 ?_
  refine kc_getN (b := 2) (k := 0) (q0 := 1) X hP rfl (by decide) (by decide) (hN.1 (10, 100, 2, 0) (by decide +kernel)) rfl dX10_init_266 ?_
  refine lv_aload_n hx hb dX10_init_269 rfl (lv_at hl 0 rfl) ?_
  refine kc_get (b := 10) (k := 8) (q0 := 0) X hP rfl (by decide) (by decide) kw_f10_57 rfl dX10_init_270 ?_
  refine kc_init (As := [.ref (q1 0), .ref x10]) (rest := [.ref x17, .ref h0]) X hl.1 (kX9 l dC dI ca (q1 0) x10) ⟨rfl, rfl⟩ ⟨(Nat.le_of_ble_eq_true rfl), (Nat.le_of_ble_eq_true rfl)⟩ kw_code9 kw_ini9 ⟨by decide +kernel, by decide +kernel⟩ (n := 2) (by decide +kernel) rfl kw_inst9 kw_ml112 rfl rfl (Nat.le_of_ble_eq_true rfl) hP hD hS dX10_init_273 ⟨(Nat.le_of_ble_eq_true rfl), (Nat.le_of_ble_eq_true rfl)⟩ (fun q14 H locs hP hD hS => ?_)
  refine kc_put (b := 10) (k := 16) (q0 := 0) (v := .ref x17) (ty := .object "BellHours$Vase") X hnm hP hD hS rfl (by decide) (by decide) kw_f10_113 rfl (by decide +kernel) rfl rfl (Nat.le_of_ble_eq_true rfl) dX10_init_276 (fun H locs hP hD hS => ?_)
  have hP : va_P (dC, dI) q_cl ((((((((((((((((([(h0, .inr (10, [.ref x1, .ref x2, .int 0, .ref x3, .ref x4, .ref x7, .ref x8, .ref x9, .ref x10, .ref x11, .ref x12, .ref x13, .int 0, .ref x14, .ref x15, .ref x16, .ref x17]))] ++ wX2 ca x1 q1) ++ wX2 ca x2 q2) ++ wX7 ca x3 q3) ++ [(x4, .inl (ca 3, 2, .inr (.inr (.inr (.inr (va_up (va_up (fun _ => none) (0 : Int32).toNatClampNeg (some x5)) (1 : Int32).toNatClampNeg (some x6)))))))]) ++ wX3 ca x5 q4) ++ wX3 ca x6 q5) ++ wX3 ca x7 q6) ++ wX5 ca (q3 0) x7 x8 q7) ++ [(x9, .inl (ca 0, 13, .inl (fun _ => 0)))]) ++ [(x10, .inl (ca 0, 24, .inl (fun _ => 0)))]) ++ wX6 ca x11 q8) ++ wX0 ca x1 x5 x11 x12 q9) ++ wX0 ca x1 x5 x11 x13 q10) ++ wX8 ca x12 x13 x5 x14 q11) ++ wX4 ca x1 x5 x11 x15 q12) ++ wX1 ca (q1 0) x9 x16 q13) ++ wX9 ca (q1 0) x10 x17 q14) H := hP
  have hD : va_D A ((((((((((((((((([(h0, .inr (10, [.ref x1, .ref x2, .int 0, .ref x3, .ref x4, .ref x7, .ref x8, .ref x9, .ref x10, .ref x11, .ref x12, .ref x13, .int 0, .ref x14, .ref x15, .ref x16, .ref x17]))] ++ wX2 ca x1 q1) ++ wX2 ca x2 q2) ++ wX7 ca x3 q3) ++ [(x4, .inl (ca 3, 2, .inr (.inr (.inr (.inr (va_up (va_up (fun _ => none) (0 : Int32).toNatClampNeg (some x5)) (1 : Int32).toNatClampNeg (some x6)))))))]) ++ wX3 ca x5 q4) ++ wX3 ca x6 q5) ++ wX3 ca x7 q6) ++ wX5 ca (q3 0) x7 x8 q7) ++ [(x9, .inl (ca 0, 13, .inl (fun _ => 0)))]) ++ [(x10, .inl (ca 0, 24, .inl (fun _ => 0)))]) ++ wX6 ca x11 q8) ++ wX0 ca x1 x5 x11 x12 q9) ++ wX0 ca x1 x5 x11 x13 q10) ++ wX8 ca x12 x13 x5 x14 q11) ++ wX4 ca x1 x5 x11 x15 q12) ++ wX1 ca (q1 0) x9 x16 q13) ++ wX9 ca (q1 0) x10 x17 q14) := hD
  refine lv_aload_n hx hb dX10_init_279 rfl (lv_at hl 0 rfl) ?_
  refine kc_get (b := 10) (k := 8) (q0 := 0) X hP rfl (by decide) (by decide) kw_f10_57 rfl dX10_init_280 ?_
  refine lv_iconst (v := 2) hx hb dX10_init_283 (by decide) ?_
  refine kc_fillAt (i := 43) X hl.1 (kc_fillM l dC dI ca 24 (by decide) (fun _ => 0) 2) ⟨rfl, rfl⟩ ⟨(Nat.le_of_ble_eq_true rfl), (Nat.le_of_ble_eq_true rfl)⟩ kw_fl10 (Nat.le_of_ble_eq_true rfl) rfl hP hD hS dX10_init_284 ⟨(Nat.le_of_ble_eq_true rfl), (Nat.le_of_ble_eq_true rfl)⟩ (fun H locs hP hD hS => ?_)
  have hP : va_P (dC, dI) q_cl ((((((((((((((((([(h0, .inr (10, [.ref x1, .ref x2, .int 0, .ref x3, .ref x4, .ref x7, .ref x8, .ref x9, .ref x10, .ref x11, .ref x12, .ref x13, .int 0, .ref x14, .ref x15, .ref x16, .ref x17]))] ++ wX2 ca x1 q1) ++ wX2 ca x2 q2) ++ wX7 ca x3 q3) ++ [(x4, .inl (ca 3, 2, .inr (.inr (.inr (.inr (va_up (va_up (fun _ => none) (0 : Int32).toNatClampNeg (some x5)) (1 : Int32).toNatClampNeg (some x6)))))))]) ++ wX3 ca x5 q4) ++ wX3 ca x6 q5) ++ wX3 ca x7 q6) ++ wX5 ca (q3 0) x7 x8 q7) ++ [(x9, .inl (ca 0, 13, .inl (fun _ => 0)))]) ++ [(x10, .inl (ca 0, 24, .inl (cpy (fun _ => 0) (fun _ => 2) 0 24)))]) ++ wX6 ca x11 q8) ++ wX0 ca x1 x5 x11 x12 q9) ++ wX0 ca x1 x5 x11 x13 q10) ++ wX8 ca x12 x13 x5 x14 q11) ++ wX4 ca x1 x5 x11 x15 q12) ++ wX1 ca (q1 0) x9 x16 q13) ++ wX9 ca (q1 0) x10 x17 q14) H := hP
  have hD : va_D A ((((((((((((((((([(h0, .inr (10, [.ref x1, .ref x2, .int 0, .ref x3, .ref x4, .ref x7, .ref x8, .ref x9, .ref x10, .ref x11, .ref x12, .ref x13, .int 0, .ref x14, .ref x15, .ref x16, .ref x17]))] ++ wX2 ca x1 q1) ++ wX2 ca x2 q2) ++ wX7 ca x3 q3) ++ [(x4, .inl (ca 3, 2, .inr (.inr (.inr (.inr (va_up (va_up (fun _ => none) (0 : Int32).toNatClampNeg (some x5)) (1 : Int32).toNatClampNeg (some x6)))))))]) ++ wX3 ca x5 q4) ++ wX3 ca x6 q5) ++ wX3 ca x7 q6) ++ wX5 ca (q3 0) x7 x8 q7) ++ [(x9, .inl (ca 0, 13, .inl (fun _ => 0)))]) ++ [(x10, .inl (ca 0, 24, .inl (cpy (fun _ => 0) (fun _ => 2) 0 24)))]) ++ wX6 ca x11 q8) ++ wX0 ca x1 x5 x11 x12 q9) ++ wX0 ca x1 x5 x11 x13 q10) ++ wX8 ca x12 x13 x5 x14 q11) ++ wX4 ca x1 x5 x11 x15 q12) ++ wX1 ca (q1 0) x9 x16 q13) ++ wX9 ca (q1 0) x10 x17 q14) := hD
  rw [fl10_e ca h0 x1 x2 x3 x4 x5 x6 x7 x8 x9 x10 x11 x12 x13 x14 x15 x16 x17 q1 q2 q3 q4 q5 q6 q7 q8 q9 q10 q11 q12 q13 q14] at hP hD
  rw [fl10_f ca h0 x1 x2 x3 x4 x5 x6 x7 x8 x9 x10 x11 x12 x13 x14 x15 x16 x17 q1 q2 q3 q4 q5 q6 q7 q8 q9 q10 q11 q12 q13 q14] at hP hD
  exact kc_ret X hr hlocks (ad10 h0 x1 x2 x3 x4 x5 x6 x7 x8 x9 x10 x11 x12 x13 x14 x15 x16 x17 q1 q2 q3 q4 q5 q6 q7 q8 q9 q10 q11 q12 q13 q14) (hP.sub [0, 1, 2, 3, 4, 5, 6, 7, 8, 9, 10, 11, 12, 14, 15, 16, 17, 18, 19, 20, 21, 22, 23, 24, 25, 26, 27, 28, 29, 30, 31, 32, 33, 34, 35, 36, 37, 38, 39, 40, 13, 41, 42, 43, 44, 45, 46, 47, 48, 49, 50, 51, 52, 53, 54, 55, 56, 57, 58, 59, 60, 61, 62, 63, 64, 65, 66, 67, 68] (fl10_p ca h0 x1 x2 x3 x4 x5 x6 x7 x8 x9 x10 x11 x12 x13 x14 x15 x16 x17 q1 q2 q3 q4 q5 q6 q7 q8 q9 q10 q11 q12 q13 q14)) (hD.sub [0, 1, 2, 3, 4, 5, 6, 7, 8, 9, 10, 11, 12, 14, 15, 16, 17, 18, 19, 20, 21, 22, 23, 24, 25, 26, 27, 28, 29, 30, 31, 32, 33, 34, 35, 36, 37, 38, 39, 40, 13, 41, 42, 43, 44, 45, 46, 47, 48, 49, 50, 51, 52, 53, 54, 55, 56, 57, 58, 59, 60, 61, 62, 63, 64, 65, 66, 67, 68] (by decide) (fl10_d ca h0 x1 x2 x3 x4 x5 x6 x7 x8 x9 x10 x11 x12 x13 x14 x15 x16 x17 q1 q2 q3 q4 q5 q6 q7 q8 q9 q10 q11 q12 q13 q14)) hS dX10_init_287
