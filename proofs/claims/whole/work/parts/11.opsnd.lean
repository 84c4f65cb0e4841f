theorem q_Out_same {ad : Nat → Nat} {u U : State} (hv : u.vm = U.vm) (hh : U.heap = u.heap) (h : q_Out ad u u.heap) : q_Out ad U U.heap := by
  obtain ⟨h1, ⟨h2, h3⟩, ⟨h4, h5⟩, h6, h7, h8, adV, h9⟩ := h
  have hal : u.vm.Alike U.vm := hv ▸ Vm.Alike.refl u.vm
  rw [hh]
  exact ⟨fun e he => va_Nw.same rfl hv (h1 e he), ⟨h2.moved hal, h3.moved hal⟩, ⟨h4.moved hal, h5.moved hal⟩, h6.same hv.symm, h7.same hv.symm, h8.moved hal, adV, h9.moved hal⟩
set_option maxHeartbeats 2000000 in
theorem qs_iof {p : Program} {l : Launch} {e : Env} {R : Room} {s : State} {m : MethodId} {args : Array Value} {below : List Frame} {meth : Method} {c0 : Code} {Qs : State → Prop} {ad : Nat → Nat} {ca : Nat → ClassId} {dC : Nat → ClassId} {dI : Nat → Nat → Nat} {cc : ByteArray} {own nL : Nat} (X : q_Cx p l R s m args c0 ad ca dC dI cc own nL) {pc : Nat} {L : QL} {st : List QV} {σ : QS} {i c : Nat} {x : Int32} (hd : decode cc pc = .ok (.invokevirtual i, 3)) (hk : (own, i, 1004) ∈ q_ilk) (ht : (q_lay c).1 = 101) (hr : st.length ≤ 8) (k : q_W p l e R s m args below meth c0 Qs ad ca dC dI nL (pc + 3) (L) (.inl (q_ix (q_txt c) x 0) :: st) σ) : q_W p l e R s m args below meth c0 Qs ad ca dC dI nL (pc) (L) (.inl x :: .inr c :: st) σ := by
  obtain ⟨hx, hb, hml, hown, hts, hK, hZ, hi, hf, hlo, hIx⟩ := X
  intro hL ls H locs hl hP hS
  have hM := hIx c x ht
  have hgw : ∀ w ∈ (Cond.code yJ0_indexOf_0f7a4 cJ0_indexOf_0f7a4 2 (some .int) :: gw), ∀ (a' : Array Value) (U : State), s.WarmedH U.vm → w.before a' U = true := fun w hw a' U hW => gw_at hts hW w ((List.mem_cons.mp hw).elim (fun h => by rw [h]; exact q_wix4) id)
  have cw : CallW R s args (q_own own) RJ0 i yJ0_indexOf_0f7a4 cJ0_indexOf_0f7a4 2 (some .int) (Cond.code yJ0_indexOf_0f7a4 cJ0_indexOf_0f7a4 2 (some .int) :: gw) q_rmI 0 0 1 :=
    ⟨⟨rfl, rfl, by show 6 + 1 ≤ R.frames; omega, by show 8 + (2 + 11) + 300 ≤ R.locals; omega, hgw, List.mem_cons_self, hts _ q_wix4, hts _ q_wix3, by decide +kernel, fun sig h => by
      have h2 : (parseMethodDescriptor yJ0_indexOf_0f7a4.desc).map (fun d => d.parameters.length) = some 1 := by decide +kernel
      rw [h] at h2
      exact (Option.some.inj h2).symm, hts _ (gw_of (q_ilk_in _ hk) rfl)⟩, hts _ q_wix1, hts _ q_wix2⟩
  obtain ⟨adV, hE⟩ := hZ.2.2.2.2.2.2
  have hrecv : ∃ cell : Cell, H[ad c]? = some cell ∧ cell.vm.isStatics = false ∧ s.vm.findClass "java/lang/String" = some cell.cls := by
    rcases q_lay_tx ht with rfl | rfl
    · exact vk_recv hE (i := 0) (by omega) hS
    · exact vk_recv hE (i := 1) (by omega) hS
  have hp : PreV s H RJ0 (ad c) (va_Pc [.ref (ad c), .int x] (fun U => q_Out ad U U.heap)) [.int x] :=
    ⟨fun a U g mk q => ⟨q.1, q_Out_same (u := U) (U := U.calling g mk a) rfl rfl q.2⟩, hrecv, fun U hU hW => ⟨rfl, by show q_Out ad U U.heap; rw [hU]; exact q_Out_moved hZ hW hS.2.1⟩⟩
  have hrun := va_runV (locs := locs) (cells := 0) (slots := 0) (below := below) (e := e) (meth := meth) (rest := st.map (q_v ad)) (g := F0 m pc ls (.int x :: .ref (ad c) :: st.map (q_v ad))) ⟨hx, hb, hml, hown, hts⟩ hM cw hp rfl rfl hl.1 rfl (lv_room (by rw [q_cats]; exact hr)) hd ⟨Nat.zero_le _, Nat.zero_le _⟩
  intro T hT Xs
  obtain ⟨v, st0, t, T', Lx, h0, X', hLx, e1, e2, hq, stp⟩ := hrun T hT Xs
  obtain ⟨hv, hh⟩ := hq
  cases hv
  have eH : T'.heap = H := by rw [e1, hh, h0]
  have hS' : va_S (q_A ad) s.heap H (locs ++ Lx) := ⟨hS.1, hS.2.1, fun q hq => (List.mem_append.mp hq).elim (hS.2.2 q) (fun h => (hLx q h).elim)⟩
  obtain ⟨t2, a1, b1⟩ := k hL ls H (locs ++ Lx) hl hP hS' T' eH X'
  exact ⟨t2, stp t2 a1, b1⟩
set_option maxHeartbeats 4000000 in
theorem q_op_snd {p : Program} {l : Launch} {e : Env} {R : Room} {s : State} {m : MethodId} {args : Array Value} {below : List Frame} {meth : Method} {c0 : Code} {Qs : State → Prop} {ad : Nat → Nat} {ca : Nat → ClassId} {dC : Nat → ClassId} {dI : Nat → Nat → Nat} {cc : ByteArray} {own nL : Nat} (X : q_Cx p l R s m args c0 ad ca dC dI cc own nL) {r : QI} {L L2 : QL} {st st2 : List QV} {σ σ2 : QS} {o : Option Prop} (hd : decode cc r.1 = .ok (r.2.1, r.2.2.1)) (hk : q_okr own r = true) (hq : q_op r L st σ = some (o, L2, st2, σ2)) (hO : ∀ O, o = some O → O) (k : q_W p l e R s m args below meth c0 Qs ad ca dC dI nL (r.1 + r.2.2.1) (L2) (st2) σ2) : q_W p l e R s m args below meth c0 Qs ad ca dC dI nL (r.1) (L) (st) σ := by
  obtain ⟨pc, I, len, a, b, v⟩ := r
  dsimp only at hd k ⊢
  dsimp only [q_op] at hq
  split at hq
  · rename_i n
    cases hq
    obtain ⟨rfl, h⟩ : len = 1 ∧ Int32.ofInt n = v := of_decide_eq_true hk
    exact qs_iconst X hd h k
  · rename_i n
    cases hq
    obtain ⟨rfl, h⟩ : len = 2 ∧ (Int8.ofInt n).toInt32 = v := of_decide_eq_true hk
    exact qs_bipush X hd h k
  · rename_i n
    cases hq
    obtain ⟨rfl, h⟩ : len = 3 ∧ (Int16.ofInt n).toInt32 = v := of_decide_eq_true hk
    exact qs_sipush X hd h k
  · rename_i i
    have hk : (decide (len = 2) && (if b = 0 then decide ((own, i, v) ∈ q_cnk) else decide (own = 5 ∧ (i = 47 ∧ a = 120 ∨ i = 111 ∧ a = 121)))) = true := hk
    rw [Bool.and_eq_true] at hk
    obtain ⟨h1, h2⟩ := hk
    obtain rfl : len = 2 := of_decide_eq_true h1
    unfold q_cst at hq
    by_cases hb0 : b = 0
    · rw [if_pos hb0] at hq h2
      cases hq
      exact qs_ldc X hd (of_decide_eq_true h2) k
    · rw [if_neg hb0] at hq h2
      cases hq
      exact qs_ldcs X hd (of_decide_eq_true h2) k
  · rename_i i
    cases hq
    obtain ⟨rfl, h⟩ : len = 3 ∧ (own, i, v) ∈ q_cnk := of_decide_eq_true hk
    exact qs_ldcw X hd h k
  · rename_i k0
    obtain ⟨rfl, h⟩ : len = 1 ∧ k0.val = a := of_decide_eq_true hk
    unfold q_ldi at hq
    split at hq
    · rename_i x hx2
      cases hq
      exact qs_iload_n X h hd hx2 k
    · cases hq
  · rename_i k0
    obtain ⟨rfl, rfl⟩ : len = 2 ∧ k0 = a := of_decide_eq_true hk
    unfold q_ldi at hq
    split at hq
    · rename_i x hx2
      cases hq
      exact qs_iload X hd hx2 k
    · cases hq
  · rename_i k0
    obtain ⟨rfl, h⟩ : len = 1 ∧ k0.val = a := of_decide_eq_true hk
    unfold q_lda at hq
    split at hq
    · rename_i x hx2
      cases hq
      exact qs_aload_n X h hd hx2 k
    · cases hq
  · rename_i k0
    obtain ⟨rfl, rfl⟩ : len = 2 ∧ k0 = a := of_decide_eq_true hk
    unfold q_lda at hq
    split at hq
    · rename_i x hx2
      cases hq
      exact qs_aload X hd hx2 k
    · cases hq
  · rename_i k0
    obtain ⟨rfl, h⟩ : len = 1 ∧ k0.val = a := of_decide_eq_true hk
    unfold q_sti at hq
    split at hq
    · split at hq
      · rename_i x st2 _ y hy
        cases hq
        exact qs_istore_n X h hd (List.getElem?_eq_some_iff.mp hy).1 k
      · cases hq
    · cases hq
  · rename_i k0
    obtain ⟨rfl, rfl⟩ : len = 2 ∧ k0 = a := of_decide_eq_true hk
    unfold q_sti at hq
    split at hq
    · split at hq
      · rename_i x st2 _ y hy
        cases hq
        exact qs_istore X hd (List.getElem?_eq_some_iff.mp hy).1 k
      · cases hq
    · cases hq
  · rename_i i n
    obtain ⟨rfl, rfl, h⟩ : len = 3 ∧ i = a ∧ Int32.ofInt n = v := of_decide_eq_true hk
    unfold q_inc at hq
    split at hq
    · rename_i x hx2
      cases hq
      exact qs_iinc X hd h hx2 k
    · cases hq
  · obtain rfl : len = 1 := of_decide_eq_true hk
    unfold q_bi at hq
    split at hq
    · cases hq
      exact qs_iadd X hd k
    · cases hq
  · obtain rfl : len = 1 := of_decide_eq_true hk
    unfold q_bi at hq
    split at hq
    · cases hq
      exact qs_isub X hd k
    · cases hq
  · obtain rfl : len = 1 := of_decide_eq_true hk
    unfold q_bi at hq
    split at hq
    · cases hq
      exact qs_imul X hd k
    · cases hq
  · obtain rfl : len = 1 := of_decide_eq_true hk
    unfold q_bi at hq
    split at hq
    · cases hq
      exact qs_iand X hd k
    · cases hq
  · obtain rfl : len = 1 := of_decide_eq_true hk
    unfold q_bi at hq
    split at hq
    · cases hq
      exact qs_ior X hd k
    · cases hq
  · obtain rfl : len = 1 := of_decide_eq_true hk
    unfold q_bi at hq
    split at hq
    · cases hq
      exact qs_ishl X hd k
    · cases hq
  · obtain rfl : len = 1 := of_decide_eq_true hk
    unfold q_bi at hq
    split at hq
    · cases hq
      exact qs_ishr X hd k
    · cases hq
  · obtain rfl : len = 1 := of_decide_eq_true hk
    unfold q_bi at hq
    split at hq
    · cases hq
      exact qs_iushr X hd k
    · cases hq
  · obtain rfl : len = 1 := of_decide_eq_true hk
    unfold q_dv at hq
    split at hq
    · cases hq
      exact qs_idiv X hd (hO _ rfl) k
    · cases hq
  · obtain rfl : len = 1 := of_decide_eq_true hk
    unfold q_dv at hq
    split at hq
    · cases hq
      exact qs_irem X hd (hO _ rfl) k
    · cases hq
  · obtain rfl : len = 1 := of_decide_eq_true hk
    unfold q_un at hq
    split at hq
    · cases hq
      exact qs_ineg X hd k
    · cases hq
  · obtain rfl : len = 1 := of_decide_eq_true hk
    unfold q_un at hq
    split at hq
    · cases hq
      exact qs_i2c X hd k
    · cases hq
  · obtain rfl : len = 1 := of_decide_eq_true hk
    unfold q_un at hq
    split at hq
    · cases hq
      exact qs_i2b X hd k
    · cases hq
  · obtain rfl : len = 1 := of_decide_eq_true hk
    split at hq
    · cases hq
      exact qs_dup X hd k
    · cases hq
  · obtain rfl : len = 1 := of_decide_eq_true hk
    split at hq
    · cases hq
      exact qs_dup2 X hd k
    · cases hq
  · obtain rfl : len = 1 := of_decide_eq_true hk
    split at hq
    · cases hq
      exact qs_pop X hd k
    · cases hq
  · rename_i i
    obtain ⟨rfl, h⟩ : len = 3 ∧ ((own, i, b, a) ∈ q_flk ∨ (own, i, b, a) ∈ q_nlk) := of_decide_eq_true hk
    unfold q_gtf at hq
    split at hq
    · split at hq
      · rename_i c st2 ht
        split at hq
        · rename_i c2 hc2
          cases hq
          exact qs_getr X hd h ht (Or.inl ⟨hc2, rfl⟩) k
        · rename_i hc2
          cases hq
          exact qs_getr (c2 := 0) X hd h ht (Or.inr ⟨hc2, rfl⟩) k
        · cases hq
      · cases hq
    · cases hq
  · rename_i i
    have hk : (decide (len = 3 ∧ ((own, i, b, a) ∈ q_flk ∨ (own, i, b, a) ∈ q_nlk)) && q_pok b a v) = true := hk
    rw [Bool.and_eq_true] at hk
    obtain ⟨h1, h2⟩ := hk
    obtain ⟨rfl, h⟩ := of_decide_eq_true h1
    unfold q_ptf at hq
    split at hq
    · split at hq
      · rename_i x c st2 ht
        split at hq
        · rename_i hc2
          by_cases hv : v = 0
          · rw [if_pos hv] at hq
            cases hq
            exact qs_put X hd h h2 ht hc2 (Or.inl hv) k
          · rw [if_neg hv] at hq
            cases hq
            exact qs_put X hd h h2 ht hc2 (Or.inr (hO _ rfl)) k
        · cases hq
      · cases hq
    · cases hq
  · obtain rfl : len = 1 := of_decide_eq_true hk
    unfold q_lod at hq
    split at hq
    · split at hq
      · rename_i ht
        cases hq
        exact qs_iaload X hd ht (hO _ rfl) k
      · split at hq
        · rename_i ht
          cases hq
          exact qs_rload X hd ht.1 (hO _ rfl) k
        · cases hq
    · cases hq
  · obtain rfl : len = 1 := of_decide_eq_true hk
    unfold q_lod at hq
    split at hq
    · split at hq
      · rename_i ht
        cases hq
        exact qs_caload X hd ht (hO _ rfl) k
      · split at hq
        · rename_i ht
          cases hq
          exact absurd ht.2 (by decide)
        · cases hq
    · cases hq
  · obtain rfl : len = 1 := of_decide_eq_true hk
    unfold q_lod at hq
    split at hq
    · split at hq
      · rename_i ht
        cases hq
        exact qs_baload X hd ht (hO _ rfl) k
      · split at hq
        · rename_i ht
          cases hq
          exact absurd ht.2 (by decide)
        · cases hq
    · cases hq
  · obtain rfl : len = 1 := of_decide_eq_true hk
    unfold q_sto at hq
    split at hq
    · split at hq
      · rename_i ht
        cases hq
        exact qs_iastore X hd ht (hO _ rfl) k
      · cases hq
    · cases hq
  · obtain rfl : len = 1 := of_decide_eq_true hk
    unfold q_sto at hq
    split at hq
    · split at hq
      · rename_i ht
        cases hq
        exact qs_castore X hd ht (hO _ rfl) k
      · cases hq
    · cases hq
  · obtain rfl : len = 1 := of_decide_eq_true hk
    unfold q_sto at hq
    split at hq
    · split at hq
      · rename_i ht
        cases hq
        exact qs_bastore X hd ht (hO _ rfl) k
      · cases hq
    · cases hq
  · obtain rfl : len = 1 := of_decide_eq_true hk
    unfold q_ala at hq
    split at hq
    · split at hq
      · rename_i ht
        split at hq
        · rename_i hc2
          cases hq
          exact qs_aaload X hd ht hc2 k
        · cases hq
      · cases hq
    · cases hq
  · obtain rfl : len = 1 := of_decide_eq_true hk
    unfold q_len at hq
    split at hq
    · split at hq
      · rename_i ht
        cases hq
        exact qs_alen X hd ht k
      · cases hq
    · cases hq
  · rename_i i
    obtain ⟨rfl, h⟩ : len = 3 ∧ own = 3 ∧ (i = 60 ∧ a = 118 ∨ i = 63 ∧ a = 119) := of_decide_eq_true hk
    cases hq
    exact qs_gets X hd h k
  · rename_i i
    obtain ⟨rfl, h⟩ : len = 3 ∧ (own, i, a) ∈ q_ilk := of_decide_eq_true hk
    unfold q_ivs at hq
    split at hq
    · rename_i ha
      subst ha
      unfold q_max at hq
      split at hq
      · split at hq
        · rename_i hl8
          cases hq
          exact qs_max X hd h hl8 k
        · cases hq
      · cases hq
    · split at hq
      · rename_i ha
        subst ha
        unfold q_min at hq
        split at hq
        · split at hq
          · rename_i hl8
            cases hq
            exact qs_min X hd h hl8 k
          · cases hq
        · cases hq
      · split at hq
        · rename_i ha
          subst ha
          unfold q_cpy at hq
          split at hq
          · split at hq
            · rename_i hl8
              cases hq
              exact qs_cpy X hd h hl8.1 hl8.2.1 hl8.2.2 (hO _ rfl) k
            · cases hq
          · cases hq
        · cases hq
  · rename_i i
    obtain ⟨rfl, h⟩ : len = 3 ∧ (own, i, a) ∈ q_ilk := of_decide_eq_true hk
    split at hq
    · rename_i ha
      subst ha
      unfold q_iof at hq
      split at hq
      · split at hq
        · rename_i hl8
          cases hq
          exact qs_iof X hd h hl8.1 hl8.2 k
        · cases hq
      · cases hq
    · cases hq
  · cases hq
