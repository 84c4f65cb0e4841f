def R_law : String := "BellHoursLaw"
def lw_P (b : Addr) (xs : List Int32) (args : Array Value) (s : State) : Prop := args = #[.ref b] ∧ s.IntsAt b xs ∧ xs.length ≤ 3072 ∧ (Jvm.Cond.and given_1 narrow_1).before args s = true
def lw_Q (_ : Array Value) (s : State) (o : Outcome) (t : State) : Prop := o = .returned (some (.int 1)) ∧ Framed s o t [] 600000 7302250
def lw_Z (below : List Frame) (a : Array Value) (s : State) : State → Prop := fun t => ∃ o, t.status = .running ∧ Ended t below o ∧ lw_Q a s o t
/-- the law's own end, with 1 on the stack, nothing written that was there before, its room as the claim has it -/
theorem lw_ret {p : Program} {l : Launch} {e : Env} {s : State} {m : MethodId} {below : List Frame} {meth : Method} {c : Code} {b : Nat} (hx : p.tables.exec = Jvm.exec) (hb : c.code = code) (hr : meth.sig.returnType = ret) (hlocks : meth.locks = false) {pc : Nat} {H : Heap} {ls : Array Slot} (hdg : decode code pc = .ok (.ireturn, 1)) : W p l e room_1 s m #[Value.ref b] below meth c H [] 600000 7302250 (lw_Z below #[Value.ref b] s) (F0 m pc ls [.int 1]) := by
  intro T hT X
  obtain ⟨fs, hret, hrun, hended, hW, hframe⟩ := X.leave (v := some (.int 1)) (hlocks := hlocks) (fun h => by rw [hr] at h; cases h)
  have hmeth' : T.vm.method? m = some meth := X.method'
  refine ⟨T.setFrames fs, ?_, .returned (some (.int 1)), hrun, hended, rfl, ⟨_, rfl⟩, hW, hframe⟩
  jvm_step X.here [X.here.top, hx, hb, hdg, hmeth', hr, ret, narrow_b1]
  (try refine ⟨rfl, ?_⟩); (try refine ⟨rfl, ?_⟩)
  first | (intro acts; rw [hret _ acts rfl rfl rfl]) | rw [hret _ _ rfl rfl rfl]
  exact Steps.refl _
/-- what holds at the law's entry: the machine, the code, the tables' words (any of lw_tbl by 'hts w (by decide +kernel)'), the script of L ints xs at the cell b, what the Statement gives of the start (any of its parts by flat_of_before) -/
def lw_At (p : Program) (s : State) (m : MethodId) (meth : Method) (c : Code) (b L : Nat) (xs : Nat → Int32) : Prop :=
  p.tables.exec = Jvm.exec ∧ c.code = code ∧ meth.sig.returnType = ret ∧ c.maxLocals = 4 ∧ s.vm.findClass R_law = some m.cls ∧ (∀ w ∈ lw_tbl, w.before #[Value.ref b] s = true) ∧ va_X b L xs s s.heap ∧ b < s.heap.size ∧ meth.locks = false ∧ (Jvm.Cond.and given_1 narrow_1).before #[Value.ref b] s = true
theorem lw_m13 : Cond.methodLink R_law 13 (q_y 71).1 ∈ gw := gw_of (q_tb_in (j := 2) (List.mem_of_getElem? (i := 114) (by decide +kernel))) rfl
theorem lw_m17 : Cond.methodLink R_law 17 (q_y 116).1 ∈ gw := gw_of (q_tb_in (j := 5) (List.mem_of_getElem? (i := 162) (by decide +kernel))) rfl
theorem lw_m18 : Cond.methodLink R_law 18 (q_y 72).1 ∈ gw := gw_of (q_tb_in (j := 2) (List.mem_of_getElem? (i := 128) (by decide +kernel))) rfl
theorem lw_m22 : Cond.methodLink R_law 22 (q_y 117).1 ∈ gw := gw_of (q_tb_in (j := 5) (List.mem_of_getElem? (i := 172) (by decide +kernel))) rfl
theorem lw_m23 : Cond.methodLink R_law 23 (q_y 73).1 ∈ gw := gw_of (q_tb_in (j := 2) (List.mem_of_getElem? (i := 138) (by decide +kernel))) rfl
theorem lw_m27 : Cond.methodLink R_law 27 (q_y 121).1 ∈ gw := gw_of (q_tb_in (j := 5) (List.mem_of_getElem? (i := 190) (by decide +kernel))) rfl
theorem lw_m28 : Cond.methodLink R_law 28 (q_y 74).1 ∈ gw := gw_of (q_tb_in (j := 2) (List.mem_of_getElem? (i := 146) (by decide +kernel))) rfl
theorem lw_m32 : Cond.methodLink R_law 32 (q_y 143).1 ∈ gw := gw_of (q_tb_in (j := 5) (List.mem_of_getElem? (i := 198) (by decide +kernel))) rfl
theorem lw_m33 : Cond.methodLink R_law 33 (q_y 75).1 ∈ gw := gw_of (q_tb_in (j := 3) (List.mem_of_getElem? (i := 87) (by decide +kernel))) rfl
theorem lw_m37 : Cond.methodLink R_law 37 (q_y 118).1 ∈ gw := gw_of (q_tb_in (j := 5) (List.mem_of_getElem? (i := 182) (by decide +kernel))) rfl
theorem lw_m38 : Cond.methodLink R_law 38 (q_y 76).1 ∈ gw := gw_of (q_tb_in (j := 3) (List.mem_of_getElem? (i := 99) (by decide +kernel))) rfl
theorem lw_m42 : Cond.methodLink R_law 42 (q_y 119).1 ∈ gw := gw_of (q_tb_in (j := 5) (List.mem_of_getElem? (i := 186) (by decide +kernel))) rfl
theorem lw_m43 : Cond.methodLink R_law 43 (q_y 77).1 ∈ gw := gw_of (q_tb_in (j := 3) (List.mem_of_getElem? (i := 103) (by decide +kernel))) rfl
theorem lw_m47 : Cond.methodLink R_law 47 (q_y 156).1 ∈ gw := gw_of (q_tb_in (j := 6) (List.mem_of_getElem? (i := 44) (by decide +kernel))) rfl
theorem lw_m48 : Cond.methodLink R_law 48 (q_y 78).1 ∈ gw := gw_of (q_tb_in (j := 3) (List.mem_of_getElem? (i := 176) (by decide +kernel))) rfl
theorem lw_m51 : Cond.methodLink R_law 51 (q_y 157).1 ∈ gw := gw_of (q_tb_in (j := 6) (List.mem_of_getElem? (i := 94) (by decide +kernel))) rfl
theorem lw_m52 : Cond.methodLink R_law 52 (q_y 79).1 ∈ gw := gw_of (q_tb_in (j := 3) (List.mem_of_getElem? (i := 181) (by decide +kernel))) rfl
theorem lw_m55 : Cond.methodLink R_law 55 (q_y 160).1 ∈ gw := gw_of (q_tb_in (j := 6) (List.mem_of_getElem? (i := 99) (by decide +kernel))) rfl
theorem lw_m56 : Cond.methodLink R_law 56 (q_y 80).1 ∈ gw := gw_of (q_tb_in (j := 3) (List.mem_of_getElem? (i := 198) (by decide +kernel))) rfl
theorem lw_m59 : Cond.methodLink R_law 59 (q_y 163).1 ∈ gw := gw_of (q_tb_in (j := 6) (List.mem_of_getElem? (i := 111) (by decide +kernel))) rfl
theorem lw_m60 : Cond.methodLink R_law 60 (q_y 81).1 ∈ gw := gw_of (q_tb_in (j := 3) (List.mem_of_getElem? (i := 228) (by decide +kernel))) rfl
theorem lw_m63 : Cond.methodLink R_law 63 (q_y 164).1 ∈ gw := gw_of (q_tb_in (j := 6) (List.mem_of_getElem? (i := 124) (by decide +kernel))) rfl
theorem lw_m64 : Cond.methodLink R_law 64 (q_y 82).1 ∈ gw := gw_of (q_tb_in (j := 4) (List.mem_of_getElem? (i := 5) (by decide +kernel))) rfl
theorem lw_m67 : Cond.methodLink R_law 67 (q_y 165).1 ∈ gw := gw_of (q_tb_in (j := 6) (List.mem_of_getElem? (i := 128) (by decide +kernel))) rfl
theorem lw_m68 : Cond.methodLink R_law 68 (q_y 83).1 ∈ gw := gw_of (q_tb_in (j := 4) (List.mem_of_getElem? (i := 17) (by decide +kernel))) rfl
theorem lw_m71 : Cond.methodLink R_law 71 (q_y 170).1 ∈ gw := gw_of (q_tb_in (j := 6) (List.mem_of_getElem? (i := 132) (by decide +kernel))) rfl
theorem lw_m72 : Cond.methodLink R_law 72 (q_y 84).1 ∈ gw := gw_of (q_tb_in (j := 4) (List.mem_of_getElem? (i := 34) (by decide +kernel))) rfl
theorem lw_m75 : Cond.methodLink R_law 75 (q_y 171).1 ∈ gw := gw_of (q_tb_in (j := 6) (List.mem_of_getElem? (i := 152) (by decide +kernel))) rfl
theorem lw_m76 : Cond.methodLink R_law 76 (q_y 85).1 ∈ gw := gw_of (q_tb_in (j := 4) (List.mem_of_getElem? (i := 42) (by decide +kernel))) rfl
theorem lw_m79 : Cond.methodLink R_law 79 (q_y 173).1 ∈ gw := gw_of (q_tb_in (j := 6) (List.mem_of_getElem? (i := 156) (by decide +kernel))) rfl
theorem lw_m80 : Cond.methodLink R_law 80 (q_y 86).1 ∈ gw := gw_of (q_tb_in (j := 4) (List.mem_of_getElem? (i := 57) (by decide +kernel))) rfl
theorem lw_m84 : Cond.methodLink R_law 84 (q_y 174).1 ∈ gw := gw_of (q_tb_in (j := 6) (List.mem_of_getElem? (i := 164) (by decide +kernel))) rfl
theorem lw_m85 : Cond.methodLink R_law 85 (q_y 87).1 ∈ gw := gw_of (q_tb_in (j := 4) (List.mem_of_getElem? (i := 61) (by decide +kernel))) rfl
theorem lw_m88 : Cond.methodLink R_law 88 (q_y 175).1 ∈ gw := gw_of (q_tb_in (j := 6) (List.mem_of_getElem? (i := 168) (by decide +kernel))) rfl
theorem lw_m89 : Cond.methodLink R_law 89 (q_y 88).1 ∈ gw := gw_of (q_tb_in (j := 4) (List.mem_of_getElem? (i := 65) (by decide +kernel))) rfl
theorem lw_m92 : Cond.methodLink R_law 92 (q_y 176).1 ∈ gw := gw_of (q_tb_in (j := 6) (List.mem_of_getElem? (i := 172) (by decide +kernel))) rfl
theorem lw_m93 : Cond.methodLink R_law 93 (q_y 89).1 ∈ gw := gw_of (q_tb_in (j := 4) (List.mem_of_getElem? (i := 69) (by decide +kernel))) rfl
theorem lw_m96 : Cond.methodLink R_law 96 (q_y 177).1 ∈ gw := gw_of (q_tb_in (j := 6) (List.mem_of_getElem? (i := 176) (by decide +kernel))) rfl
theorem lw_m97 : Cond.methodLink R_law 97 (q_y 90).1 ∈ gw := gw_of (q_tb_in (j := 4) (List.mem_of_getElem? (i := 73) (by decide +kernel))) rfl
theorem lw_m100 : Cond.methodLink R_law 100 (q_y 182).1 ∈ gw := gw_of (q_tb_in (j := 6) (List.mem_of_getElem? (i := 180) (by decide +kernel))) rfl
theorem lw_m101 : Cond.methodLink R_law 101 (q_y 91).1 ∈ gw := gw_of (q_tb_in (j := 4) (List.mem_of_getElem? (i := 97) (by decide +kernel))) rfl
theorem lw_m104 : Cond.methodLink R_law 104 (q_y 183).1 ∈ gw := gw_of (q_tb_in (j := 6) (List.mem_of_getElem? (i := 201) (by decide +kernel))) rfl
theorem lw_m105 : Cond.methodLink R_law 105 (q_y 92).1 ∈ gw := gw_of (q_tb_in (j := 4) (List.mem_of_getElem? (i := 101) (by decide +kernel))) rfl
theorem lw_m108 : Cond.methodLink R_law 108 (q_y 185).1 ∈ gw := gw_of (q_tb_in (j := 6) (List.mem_of_getElem? (i := 205) (by decide +kernel))) rfl
theorem lw_m109 : Cond.methodLink R_law 109 (q_y 93).1 ∈ gw := gw_of (q_tb_in (j := 4) (List.mem_of_getElem? (i := 123) (by decide +kernel))) rfl
theorem lw_m112 : Cond.methodLink R_law 112 (q_y 186).1 ∈ gw := gw_of (q_tb_in (j := 6) (List.mem_of_getElem? (i := 213) (by decide +kernel))) rfl
theorem lw_m113 : Cond.methodLink R_law 113 (q_y 94).1 ∈ gw := gw_of (q_tb_in (j := 4) (List.mem_of_getElem? (i := 131) (by decide +kernel))) rfl
theorem lw_m116 : Cond.methodLink R_law 116 (q_y 188).1 ∈ gw := gw_of (q_tb_in (j := 6) (List.mem_of_getElem? (i := 218) (by decide +kernel))) rfl
theorem lw_m117 : Cond.methodLink R_law 117 (q_y 95).1 ∈ gw := gw_of (q_tb_in (j := 4) (List.mem_of_getElem? (i := 141) (by decide +kernel))) rfl
theorem lw_m120 : Cond.methodLink R_law 120 (q_y 189).1 ∈ gw := gw_of (q_tb_in (j := 6) (List.mem_of_getElem? (i := 227) (by decide +kernel))) rfl
theorem lw_m121 : Cond.methodLink R_law 121 (q_y 96).1 ∈ gw := gw_of (q_tb_in (j := 4) (List.mem_of_getElem? (i := 153) (by decide +kernel))) rfl
theorem lw_m125 : Cond.methodLink R_law 125 (q_y 191).1 ∈ gw := gw_of (q_tb_in (j := 6) (List.mem_of_getElem? (i := 231) (by decide +kernel))) rfl
theorem lw_m126 : Cond.methodLink R_law 126 (q_y 97).1 ∈ gw := gw_of (q_tb_in (j := 4) (List.mem_of_getElem? (i := 158) (by decide +kernel))) rfl
theorem lw_m129 : Cond.methodLink R_law 129 (q_y 192).1 ∈ gw := gw_of (q_tb_in (j := 6) (List.mem_of_getElem? (i := 236) (by decide +kernel))) rfl
theorem lw_m130 : Cond.methodLink R_law 130 (q_y 98).1 ∈ gw := gw_of (q_tb_in (j := 4) (List.mem_of_getElem? (i := 171) (by decide +kernel))) rfl
theorem lw_m133 : Cond.methodLink R_law 133 (q_y 194).1 ∈ gw := gw_of (q_tb_in (j := 7) (List.mem_of_getElem? (i := 5) (by decide +kernel))) rfl
theorem lw_m134 : Cond.methodLink R_law 134 (q_y 99).1 ∈ gw := gw_of (q_tb_in (j := 4) (List.mem_of_getElem? (i := 180) (by decide +kernel))) rfl
theorem lw_m138 : Cond.methodLink R_law 138 (q_y 195).1 ∈ gw := gw_of (q_tb_in (j := 7) (List.mem_of_getElem? (i := 12) (by decide +kernel))) rfl
theorem lw_m139 : Cond.methodLink R_law 139 (q_y 100).1 ∈ gw := gw_of (q_tb_in (j := 4) (List.mem_of_getElem? (i := 184) (by decide +kernel))) rfl
theorem lw_m142 : Cond.methodLink R_law 142 (q_y 197).1 ∈ gw := gw_of (q_tb_in (j := 7) (List.mem_of_getElem? (i := 16) (by decide +kernel))) rfl
theorem lw_m143 : Cond.methodLink R_law 143 (q_y 101).1 ∈ gw := gw_of (q_tb_in (j := 4) (List.mem_of_getElem? (i := 196) (by decide +kernel))) rfl
theorem lw_m146 : Cond.methodLink R_law 146 (q_y 198).1 ∈ gw := gw_of (q_tb_in (j := 7) (List.mem_of_getElem? (i := 24) (by decide +kernel))) rfl
/-! the law: what holds while it runs -/
def lC (p : Program) (s : State) (m : MethodId) (args : Array Value) (c0 : Code) (ad : Nat → Nat) (ca : Nat → ClassId) (dC : Nat → ClassId) (dI : Nat → Nat → Nat) : Prop := p.tables.exec = Jvm.exec ∧ c0.code = code ∧ c0.maxLocals = 4 ∧ s.vm.findClass R_law = some m.cls ∧ (∀ w ∈ gw, w.before args s = true) ∧ va_K (dC, dI) q_cl (q_tys ca) s ∧ q_Out ad s s.heap ∧ (∀ i j, i < 118 → j < 118 → ad i = ad j → i = j) ∧ ∀ c, c < 118 → s.heap.size ≤ ad c
def lA (s : State) : Nat → Prop := fun q => s.heap.size ≤ q
theorem lw_sub {s : State} {ad : Nat → Nat} (h : ∀ c, c < 118 → s.heap.size ≤ ad c) : ∀ q, q_A ad q → lA s q := by
  rintro q ⟨c, hc, rfl⟩
  exact h c hc
set_option maxHeartbeats 4000000 in
theorem lw_go {p : Program} {l : Launch} {e : Env} {s : State} {m : MethodId} {args : Array Value} {below : List Frame} {meth : Method} {c0 : Code} {Q : State → Prop} {ad : Nat → Nat} {ca : Nat → ClassId} {dC : Nat → ClassId} {dI : Nat → Nat → Nat} {H : Heap} {locs : List Loc} {cells slots pc : Nat} {ls : Array Slot} {rest : List Value} {mi idx c : Nat} {As : List Int32} {Lx : QL} {M : QM} {σ : QS} {Rq : Int32 → QS → Prop} (X : lC p s m args c0 ad ca dC dI) (hls : ls.size = 4) (hM : q_g16 q_ms mi = some M) (hki : mi ∈ q_ki) (hkl : mi ∈ q_kl) (hlk : Cond.methodLink R_law idx (q_y mi).1 ∈ gw) (hlay : (q_lay c).1 = (q_y mi).2.2.2.2.1 / 2 + 4) (hev : (q_y mi).2.2.2.2.1 % 2 = 0) (hna : (q_y mi).2.2.2.2.2 = As.length + 1) (hent : q_ent (q_y mi).2.2.2.2.2 (q_y mi).2.2.1 ((As.map (Sum.inl : Int32 → QV)).reverse ++ [(Sum.inr c : QV)]) = Lx) (h1 : EV 60 mi 0 Lx [] σ (qI Rq)) (hrest : (rest.map fun v => v.category).sum ≤ 8) (hcs : cells ≤ 600000 ∧ slots ≤ 7302250) (hP : va_P (dC, dI) q_cl (q_ws ad ca σ) H) (hS : va_S (lA s) s.heap H locs) (hd : decode code pc = .ok (.invokevirtual idx, 3)) (kk : ∀ (r : Int32) (σ2 : QS) (H1 : Heap) (locs1 : List Loc), Rq r σ2 → va_P (dC, dI) q_cl (q_ws ad ca σ2) H1 → va_S (lA s) s.heap H1 locs1 → W p l e room_1 s m args below meth c0 H1 locs1 cells slots Q (F0 m (pc + 3) ls (.int r :: rest))) : W p l e room_1 s m args below meth c0 H locs cells slots Q (F0 m pc ls ((As.map Value.int).reverse ++ .ref (ad c) :: rest)) := by
  obtain ⟨hx, hb, hml, hown, hts, hK, hZ, hi, hlo⟩ := X
  obtain ⟨hok, hcode, hcls, hdes, hpl, hnm, hml30, hmh, hini⟩ := q_mk hM
  have hy := q_y_of hM
  rw [hy] at hlay hev hna hent hlk
  dsimp only at hlay hev hna hent hlk
  have hA : ∀ q, q_A ad q → lA s q := lw_sub hlo
  have hstl : ((As.map (Sum.inl : Int32 → QV)).reverse ++ [(Sum.inr c : QV)]).length = As.length + 1 := by simp
  have hst : M.2.2.2.2.2.1 ≤ ((As.map (Sum.inl : Int32 → QV)).reverse ++ [(Sum.inr c : QV)]).length := by rw [hstl, hna]; exact Nat.le_refl _
  subst hent
  have hMet := q_met (ca := ca) (dC := dC) (dI := dI) hi (q_Ix_ok l ad) hM hst (q_sound h1)
  have hrev : ((((As.map (Sum.inl : Int32 → QV)).reverse ++ [(Sum.inr c : QV)]).take M.2.2.2.2.2.1).reverse).map (q_v ad) = .ref (ad c) :: As.map Value.int := by
    rw [List.take_of_length_le (by rw [hstl, hna]; exact Nat.le_refl _)]
    simp [q_v, Function.comp_def]
  rw [hrev] at hMet
  have hcell : c < 118 := q_lay_lt (c := c) (by
    have : ∀ mi, mi < 201 → (q_y mi).2.2.2.2.1 < 60 := by decide +kernel
    have := this mi (q_ms_lt2 hM)
    rw [hy] at this
    dsimp only at this
    omega)
  have hb12 : M.2.2.2.2.1 / 2 < 12 := by
    have : ∀ c, c < 118 → (q_lay c).1 < 16 := by decide +kernel
    have := this c hcell
    omega
  have he := q_ws_at (ad := ad) (ca := ca) (σ := σ) hcell
  rw [q_en_o hlay] at he
  have hclsT : (q_T (M.2.2.2.2.1 / 2)).1 = M.1.cls := by
    rw [hcls]
    have : ∀ b, b < 12 → (q_T b).1 = q_own b := by decide +kernel
    exact this _ hb12
  have hrecv := va_recv hK hP (q_cl_at hb12) he
  rw [hclsT] at hrecv
  have hgw : ∀ w ∈ (Cond.code M.1 M.2.1 M.2.2.1 M.2.2.2.1 :: gw), ∀ (a' : Array Value) (U : State), s.WarmedH U.vm → w.before a' U = true := fun w hw a' U hW => gw_at hts hW w ((List.mem_cons.mp hw).elim (fun h => by rw [h]; exact hcode) id)
  have hwi := q_ki_in _ hki
  unfold q_wi at hwi
  have hwl := q_kl_in _ hkl
  unfold q_wl at hwl
  rw [hy] at hwi hwl
  have hR1 : (q_rm 60).frames + 1 ≤ room_1.frames := by decide
  have hR2 : 8 + (M.2.2.1 + 11) + (q_rm 60).locals ≤ room_1.locals := by
    have h1 : (q_rm 60).locals = 4240 := rfl
    have h2 : room_1.locals = 84000 := rfl
    omega
  have cw : CallW room_1 s args R_law M.1.cls idx M.1 M.2.1 M.2.2.1 M.2.2.2.1 (Cond.code M.1 M.2.1 M.2.2.1 M.2.2.2.1 :: gw) (q_rm 60) 0 0 As.length :=
    ⟨⟨rfl, rfl, hR1, hR2, hgw, List.mem_cons_self, hts _ hcode, hts _ hini, hmh, fun sig h => by
      rw [h] at hdes
      have hz : sig.parameters.length = _ := Option.some.inj hdes
      omega, hts _ hlk⟩, hts _ (gw_of hwi rfl), hts _ (gw_of hwl rfl)⟩
  have hk0 : ∀ q : Nat, q < s.heap.size → ¬ q_A ad q → H[q]? = s.heap[q]? := fun q h1 _ => hS.2.1 q h1 (fun z => by have z : s.heap.size ≤ q := z; omega)
  have hp : PreV s H M.1.cls (ad c) (va_Pc (.ref (ad c) :: As.map Value.int) (fun U => q_In ad ca dC dI σ U)) (As.map Value.int) :=
    ⟨q_In_blind, hrecv, fun U hU hW => ⟨rfl, by rw [hU]; exact hP, va_K.moved hW.alike hK, by rw [hU]; exact q_Out_moved hZ hW hk0⟩⟩
  have hrun := va_runV (locs := locs) (cells := cells) (slots := slots) (below := below) (e := e) (meth := meth) (rest := rest) (g := F0 m pc ls ((As.map Value.int).reverse ++ .ref (ad c) :: rest)) ⟨hx, hb, hml, hown, hts⟩ hMet cw hp rfl (by simp) hls rfl (lv_room hrest) hd hcs
  intro T hT Xs
  obtain ⟨v, st1, t, T', Lx, h0, X', hLx, e1, e2, ⟨⟨r, u, hv, hq, hP2, hK2, hO2⟩, hz, hk⟩, stp⟩ := hrun T hT Xs
  rw [h0] at hz hk
  obtain ⟨x, rfl, hq⟩ := hq
  have hS' : va_S (lA s) s.heap T'.heap (locs ++ Lx) := ⟨Nat.le_trans hS.1 (by rw [e1]; exact hz), fun q h1 h2 => by rw [e1, hk q (Nat.lt_of_lt_of_le h1 hS.1) (fun z => h2 (hA q z))]; exact hS.2.1 q h1 h2, fun q hq => (List.mem_append.mp hq).elim (hS.2.2 q) (fun z => hA _ (hLx q z))⟩
  rw [← e1] at hP2
  obtain ⟨t2, a1, b1⟩ := kk x u T'.heap (locs ++ Lx) hq hP2 hS' T' rfl X'
  cases hv
  exact ⟨t2, stp t2 a1, b1⟩
/-- a number of the script is put on the stack -/
theorem lw_arg {p : Program} {l : Launch} {e : Env} {s : State} {m : MethodId} {args : Array Value} {below : List Frame} {meth : Method} {c0 : Code} {Q : State → Prop} {H : Heap} {locs : List Loc} {cells slots pc b L i k : Nat} {xs : Nat → Int32} {ls : Array Slot} {rest : List Value} {z : Int32} {kn : Int} (hx : p.tables.exec = Jvm.exec) (hb : c0.code = code) (hX : va_X b L xs s s.heap) (hbl : b < s.heap.size) (hS : va_S (lA s) s.heap H locs) (hz : z = nI i) (hi : i + 6 ≤ L) (hL : L ≤ 3072) (hk : k ≤ 5) (hn : Int32.ofInt kn = nI k) (h0 : ls[0]? = some (.val (.ref b))) (h3 : ls[3]? = some (.val (.int z))) (d0 : decode code pc = .ok (.aload_n 0, 1)) (d1 : decode code (pc + 1) = .ok (.iload_n 3, 1)) (d2 : decode code (pc + 2) = .ok (.iconst kn, 1)) (d3 : decode code (pc + 3) = .ok (.iadd, 1)) (d4 : decode code (pc + 4) = .ok (.iaload, 1)) (kk : W p l e room_1 s m args below meth c0 H locs cells slots Q (F0 m (pc + 5) ls (.int (xs (i + k)) :: rest))) : W p l e room_1 s m args below meth c0 H locs cells slots Q (F0 m pc ls rest) := by
  have hbA : ¬ lA s b := Nat.not_le.mpr hbl
  refine lv_aload_n hx hb d0 rfl h0 ?_
  refine lv_iload_n hx hb d1 rfl h3 ?_
  refine lv_iconst (v := nI k) hx hb d2 hn ?_
  refine lv_iadd hx hb d3 ?_
  rw [hz, nI_add]
  refine va_sld hx hb hX hbl hbA hS (vp_in_nI (by omega) (by omega)) d4 ?_
  rw [cl_nI (by omega)]
  exact kk
/-- what stands when a call of the script begins: the place i, the objects -/
def lH (ls : Array Slot) (b : Nat) (ad : Nat → Nat) (z : Int32) : Prop := lv_has ls 4 [(3, .int z), (0, .ref b), (1, .ref (ad 0)), (2, .ref (ad 69))]
