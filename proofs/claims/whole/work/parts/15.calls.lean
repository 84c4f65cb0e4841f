theorem q_rm_fr (d : Nat) : (q_rm d).frames = d + 8 := rfl
theorem q_rm_lo (d : Nat) : (q_rm d).locals = 64 * d + 400 := rfl
theorem q_rm_ok1 (d : Nat) : (q_rm d).frames + 1 ≤ (q_rm (d + 1)).frames := by
  have h1 := q_rm_fr d
  have h2 := q_rm_fr (d + 1)
  omega
theorem q_rm_ok2 (d n : Nat) (h : n ≤ 30) : 8 + (n + 11) + (q_rm d).locals ≤ (q_rm (d + 1)).locals := by
  have h1 := q_rm_lo d
  have h2 := q_rm_lo (d + 1)
  omega
set_option maxHeartbeats 2000000 in
/-- a call, whatever kind: from the run of the called method on -/
theorem q_go {p : Program} {l : Launch} {e : Env} {s : State} {m : MethodId} {args : Array Value} {below : List Frame} {meth : Method} {c0 : Code} {Qs : State → Prop} {ad : Nat → Nat} {ca : Nat → ClassId} {dC : Nat → ClassId} {dI : Nat → Nat → Nat} {R : Room} {nL pc : Nat} {L : QL} {rest : List QV} {st0 : List Value} {Rq : QQ} {a : Array Value} {ls : Array Slot} {H : Heap} {locs : List Loc}
    (hr : va_Run p l e R s m args below meth c0 H locs 0 0 0 0 (F0 m pc ls st0) (rest.map (q_v ad)) (q_Qc ad ca dC dI Rq a) (q_A ad)) (hS : va_S (q_A ad) s.heap H locs) (hL : L.length = nL) (hl : lv_has ls nL (q_lv ad L))
    (k : ∀ r σ2, Rq r σ2 → q_W p l e R s m args below meth c0 Qs ad ca dC dI nL (pc + 3) L (q_psh r rest) σ2) : W p l e R s m args below meth c0 H locs 0 0 Qs (F0 m pc ls st0) := by
  intro T hT Xs
  obtain ⟨v, st1, t, T', Lx, h0, X', hLx, e1, e2, ⟨⟨r, u, hv, hq, hP, hK, hO⟩, hz, hk⟩, stp⟩ := hr T hT Xs
  rw [h0] at hz hk
  have hS' : va_S (q_A ad) s.heap T'.heap (locs ++ Lx) := ⟨Nat.le_trans hS.1 (by rw [e1]; exact hz), fun q h1 h2 => by rw [e1, hk q (Nat.lt_of_lt_of_le h1 hS.1) h2]; exact hS.2.1 q h1 h2, fun q hq => (List.mem_append.mp hq).elim (hS.2.2 q) (hLx q)⟩
  rw [← e1] at hP
  obtain ⟨t2, a1, b1⟩ := k r u hq hL ls T'.heap (locs ++ Lx) hl hP hS' T' rfl X'
  refine ⟨t2, stp t2 ?_, b1⟩
  cases r with
  | none => cases hv; exact a1
  | some x => cases hv; exact a1
theorem q_take_get {st : List QV} {na : Nat} {x : QV} (h0 : 0 < na) (h : st[na - 1]? = some x) : st.take na = st.take (na - 1) ++ [x] := by
  have e : na = (na - 1) + 1 := by omega
  conv => lhs; rw [e, List.take_add_one, h]
  rfl
theorem q_In_blind {ad : Nat → Nat} {ca : Nat → ClassId} {dC : Nat → ClassId} {dI : Nat → Nat → Nat} {σ : QS} {av : List Value} : FrameBlind (va_Pc av (fun U => q_In ad ca dC dI σ U)) := fun a U g mk q => ⟨q.1, q.2.1, va_K.moved (u := U) (U := U.calling g mk a) (Vm.Alike.refl U.vm) q.2.2.1, q_Out_same (u := U) (U := U.calling g mk a) rfl rfl q.2.2.2⟩
set_option maxHeartbeats 4000000 in
theorem qt_callV {p : Program} {l : Launch} {e : Env} {d : Nat} {s : State} {m : MethodId} {args : Array Value} {below : List Frame} {meth : Method} {c0 : Code} {Qs : State → Prop} {ad : Nat → Nat} {ca : Nat → ClassId} {dC : Nat → ClassId} {dI : Nat → Nat → Nat} {cc : ByteArray} {own nL : Nat} (X : q_Cx p l (q_rm (d + 1)) s m args c0 ad ca dC dI cc own nL) {pc : Nat} {L : QL} {st : List QV} {σ : QS} {i a na ml : Nat} {tg : Int} {Rq : QQ} (hd : decode cc pc = .ok (.invokevirtual i, 3)) (hmk : (own, i, a) ∈ q_mlk) (hki : a ∈ q_ki) (hkl : a ∈ q_kl) (htg : tg = (((q_y a).2.2.2.2.1 / 2 : Nat) : Int) + 4) (hna : na = (q_y a).2.2.2.2.2) (hml2 : ml = (q_y a).2.2.1) (hn0 : 0 < na) (hev : (q_y a).2.2.2.2.1 % 2 = 0) (hb8 : (Nat.ble (st.drop na).length 8 && q_rc tg na st) = true) (h1 : q_Snd l ad ca dC dI d a 0 (q_ent na ml st) [] σ Rq) (k : ∀ r σ2, Rq r σ2 → q_W p l e (q_rm (d + 1)) s m args below meth c0 Qs ad ca dC dI nL (pc + 3) (L) (q_psh r (st.drop na)) σ2) : q_W p l e (q_rm (d + 1)) s m args below meth c0 Qs ad ca dC dI nL (pc) (L) (st) σ := by
  obtain ⟨hx, hb, hml, hown, hts, hK, hZ, hi, hf, hlo, hIx⟩ := X
  intro hL ls H locs hl hP hS
  obtain ⟨M, hM⟩ := q_ms_get (q_mlk_lt _ hmk)
  obtain ⟨hok, hcode, hcls, hdes, hpl, hnm, hml30, hmh, hini⟩ := q_mk hM
  have hy := q_y_of hM
  rw [hy] at htg hna hml2 hev
  dsimp only at htg hna hml2 hev
  subst hna; subst hml2
  rw [Bool.and_eq_true] at hb8
  have hrest : (st.drop M.2.2.2.2.2.1).length ≤ 8 := Nat.le_of_ble_eq_true hb8.1
  have hrc := hb8.2
  unfold q_rc at hrc
  rw [Bool.and_eq_true] at hrc
  have hrc := hrc.2
  rw [if_neg (by omega)] at hrc
  split at hrc
  · rename_i c hc
    have hlay : (q_lay c).1 = M.2.2.2.2.1 / 2 + 4 := by
      have := of_decide_eq_true hrc
      omega
    have hst : M.2.2.2.2.2.1 ≤ st.length := by
      have := (List.getElem?_eq_some_iff.mp hc).1
      omega
    have htk := q_take_get hn0 hc
    have hMet := q_met hi hIx hM hst h1
    have hrev : ((st.take M.2.2.2.2.2.1).reverse).map (q_v ad) = .ref (ad c) :: ((st.take (M.2.2.2.2.2.1 - 1)).reverse).map (q_v ad) := by
      rw [htk]
      simp [q_v]
    rw [hrev] at hMet
    have hcell := q_lay_lt (c := c) (by have : ∀ mi, mi < 201 → (q_y mi).2.2.2.2.1 < 60 := by decide +kernel
                                        have := this a (q_ms_lt2 hM)
                                        rw [hy] at this
                                        dsimp only at this
                                        omega)
    have hb12 : M.2.2.2.2.1 / 2 < 12 := by
      have : ∀ c, c < 118 → (q_lay c).1 < 16 := by decide +kernel
      have := this c hcell
      omega
    have he := q_ws_at (ad := ad) (ca := ca) (σ := σ) hcell
    rw [q_en_o hlay] at he
    have hclsT : (q_T (M.2.2.2.2.1 / 2)).1 = M.1.cls := by
      rw [hcls]
      have : ∀ b, b < 12 → (q_T b).1 = q_own b := by decide +kernel
      exact this _ hb12
    have hrecv := va_recv hK hP (q_cl_at hb12) he
    rw [hclsT] at hrecv
    have hgw : ∀ w ∈ (Cond.code M.1 M.2.1 M.2.2.1 M.2.2.2.1 :: gw), ∀ (a' : Array Value) (U : State), s.WarmedH U.vm → w.before a' U = true := fun w hw a' U hW => gw_at hts hW w ((List.mem_cons.mp hw).elim (fun h => by rw [h]; exact hcode) id)
    have hlk := q_mlk_in _ hmk
    unfold q_mw at hlk
    have hwi := q_ki_in _ hki
    unfold q_wi at hwi
    have hwl := q_kl_in _ hkl
    unfold q_wl at hwl
    rw [hy] at hlk hwi hwl
    have cw : CallW (q_rm (d + 1)) s args (q_own own) M.1.cls i M.1 M.2.1 M.2.2.1 M.2.2.2.1 (Cond.code M.1 M.2.1 M.2.2.1 M.2.2.2.1 :: gw) (q_rm d) 0 0 (M.2.2.2.2.2.1 - 1) :=
      ⟨⟨rfl, rfl, q_rm_ok1 d, q_rm_ok2 d _ hml30, hgw, List.mem_cons_self, hts _ hcode, hts _ hini, hmh, fun sig h => by
        rw [h] at hdes
        have hz : sig.parameters.length = _ := Option.some.inj hdes
        omega, hts _ (gw_of hlk rfl)⟩, hts _ (gw_of hwi rfl), hts _ (gw_of hwl rfl)⟩
    have hp : PreV s H M.1.cls (ad c) (va_Pc (.ref (ad c) :: ((st.take (M.2.2.2.2.2.1 - 1)).reverse).map (q_v ad)) (fun U => q_In ad ca dC dI σ U)) (((st.take (M.2.2.2.2.2.1 - 1)).reverse).map (q_v ad)) :=
      ⟨q_In_blind, hrecv, fun U hU hW => ⟨rfl, by rw [hU]; exact hP, va_K.moved hW.alike hK, by rw [hU]; exact q_Out_moved hZ hW hS.2.1⟩⟩
    have hstack : st.map (q_v ad) = (((st.take (M.2.2.2.2.2.1 - 1)).reverse).map (q_v ad)).reverse ++ .ref (ad c) :: ((st.drop M.2.2.2.2.2.1).map (q_v ad)) := by
      conv => lhs; rw [← List.take_append_drop M.2.2.2.2.2.1 st, htk]
      simp [q_v, List.map_reverse]
    have hrun := va_runV (locs := locs) (cells := 0) (slots := 0) (below := below) (e := e) (meth := meth) (rest := (st.drop M.2.2.2.2.2.1).map (q_v ad)) (g := F0 m pc ls (st.map (q_v ad))) ⟨hx, hb, hml, hown, hts⟩ hMet cw hp rfl (by simp; omega) hl.1 hstack (lv_room (by rw [q_cats]; exact hrest)) hd ⟨Nat.zero_le _, Nat.zero_le _⟩
    exact q_go hrun hS hL hl k
  · cases hrc
set_option maxHeartbeats 4000000 in
theorem qt_callS {p : Program} {l : Launch} {e : Env} {d : Nat} {s : State} {m : MethodId} {args : Array Value} {below : List Frame} {meth : Method} {c0 : Code} {Qs : State → Prop} {ad : Nat → Nat} {ca : Nat → ClassId} {dC : Nat → ClassId} {dI : Nat → Nat → Nat} {cc : ByteArray} {own nL : Nat} (X : q_Cx p l (q_rm (d + 1)) s m args c0 ad ca dC dI cc own nL) {pc : Nat} {L : QL} {st : List QV} {σ : QS} {i a na ml : Nat} {tg : Int} {Rq : QQ} (hd : decode cc pc = .ok (.invokestatic i, 3)) (hmk : (own, i, a) ∈ q_mlk) (hks : a ∈ q_ks) (hna : na = (q_y a).2.2.2.2.2) (hml2 : ml = (q_y a).2.2.1) (hev : (q_y a).2.2.2.2.1 % 2 = 1) (hb8 : (Nat.ble (st.drop na).length 8 && q_rc tg na st) = true) (h1 : q_Snd l ad ca dC dI d a 0 (q_ent na ml st) [] σ Rq) (k : ∀ r σ2, Rq r σ2 → q_W p l e (q_rm (d + 1)) s m args below meth c0 Qs ad ca dC dI nL (pc + 3) (L) (q_psh r (st.drop na)) σ2) : q_W p l e (q_rm (d + 1)) s m args below meth c0 Qs ad ca dC dI nL (pc) (L) (st) σ := by
  obtain ⟨hx, hb, hml, hown, hts, hK, hZ, hi, hf, hlo, hIx⟩ := X
  intro hL ls H locs hl hP hS
  obtain ⟨M, hM⟩ := q_ms_get (q_mlk_lt _ hmk)
  obtain ⟨hok, hcode, hcls, hdes, hpl, hnm, hml30, hmh, hini⟩ := q_mk hM
  have hy := q_y_of hM
  rw [hy] at hna hml2 hev
  dsimp only at hna hml2 hev
  subst hna; subst hml2
  rw [Bool.and_eq_true] at hb8
  have hrest : (st.drop M.2.2.2.2.2.1).length ≤ 8 := Nat.le_of_ble_eq_true hb8.1
  have hst : M.2.2.2.2.2.1 ≤ st.length := by
    have hrc := hb8.2
    unfold q_rc at hrc
    rw [Bool.and_eq_true] at hrc
    exact Nat.le_of_ble_eq_true hrc.1
  have hMet := q_met hi hIx hM hst h1
  have hgw : ∀ w ∈ (Cond.code M.1 M.2.1 M.2.2.1 M.2.2.2.1 :: gw), ∀ (a' : Array Value) (U : State), s.WarmedH U.vm → w.before a' U = true := fun w hw a' U hW => gw_at hts hW w ((List.mem_cons.mp hw).elim (fun h => by rw [h]; exact hcode) id)
  have hlk := q_mlk_in _ hmk
  unfold q_mw at hlk
  have hwi := q_ks_in _ hks
  unfold q_ws0 at hwi
  rw [hy] at hlk hwi
  have cw : CallB (q_rm (d + 1)) s args (q_own own) i M.1 M.2.1 M.2.2.1 M.2.2.2.1 (Cond.code M.1 M.2.1 M.2.2.1 M.2.2.2.1 :: gw) (q_rm d) 0 0 M.2.2.2.2.2.1 ∧ (Cond.static M.1).before args s = true :=
    ⟨⟨rfl, rfl, q_rm_ok1 d, q_rm_ok2 d _ hml30, hgw, List.mem_cons_self, hts _ hcode, hts _ hini, hmh, fun sig h => by
      rw [h] at hdes
      have hz : sig.parameters.length = _ := Option.some.inj hdes
      omega, hts _ (gw_of hlk rfl)⟩, hts _ (gw_of hwi rfl)⟩
  have hp : PreS s H (va_Pc (((st.take M.2.2.2.2.2.1).reverse).map (q_v ad)) (fun U => q_In ad ca dC dI σ U)) (((st.take M.2.2.2.2.2.1).reverse).map (q_v ad)) :=
    ⟨q_In_blind, fun U hU hW => ⟨rfl, by rw [hU]; exact hP, va_K.moved hW.alike hK, by rw [hU]; exact q_Out_moved hZ hW hS.2.1⟩⟩
  have hstack : st.map (q_v ad) = (((st.take M.2.2.2.2.2.1).reverse).map (q_v ad)).reverse ++ ((st.drop M.2.2.2.2.2.1).map (q_v ad)) := by
    conv => lhs; rw [← List.take_append_drop M.2.2.2.2.2.1 st]
    simp [List.map_reverse]
  have hrun := va_runS (locs := locs) (cells := 0) (slots := 0) (below := below) (e := e) (meth := meth) (rest := (st.drop M.2.2.2.2.2.1).map (q_v ad)) (g := F0 m pc ls (st.map (q_v ad))) ⟨hx, hb, hml, hown, hts⟩ hMet cw hp rfl (by simp [Nat.min_eq_left hst]) hl.1 hstack (lv_room (by rw [q_cats]; exact hrest)) hd ⟨Nat.zero_le _, Nat.zero_le _⟩
  exact q_go hrun hS hL hl k
