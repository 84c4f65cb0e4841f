theorem qt_goto {p : Program} {l : Launch} {e : Env} {R : Room} {s : State} {m : MethodId} {args : Array Value} {below : List Frame} {meth : Method} {c0 : Code} {Qs : State → Prop} {ad : Nat → Nat} {ca : Nat → ClassId} {dC : Nat → ClassId} {dI : Nat → Nat → Nat} {cc : ByteArray} {own nL : Nat} (X : q_Cx p l R s m args c0 ad ca dC dI cc own nL) {pc : Nat} {L : QL} {st : List QV} {σ : QS} {off : Int} {g : Nat} (hd : decode cc pc = .ok (.goto off, 3)) (hg : (pc : Int) + off = (g : Int)) (k : q_W p l e R s m args below meth c0 Qs ad ca dC dI nL (g) (L) (st) σ) : q_W p l e R s m args below meth c0 Qs ad ca dC dI nL (pc) (L) (st) σ := by
  obtain ⟨hx, hb, hml, hown, hts, hK, hZ, hi, hf, hlo, hIx⟩ := X
  intro hL ls H locs hl hP hS
  exact lv_goto hx hb hd hg (k hL ls H locs hl hP hS)
theorem qt_if {p : Program} {l : Launch} {e : Env} {R : Room} {s : State} {m : MethodId} {args : Array Value} {below : List Frame} {meth : Method} {c0 : Code} {Qs : State → Prop} {ad : Nat → Nat} {ca : Nat → ClassId} {dC : Nat → ClassId} {dI : Nat → Nat → Nat} {cc : ByteArray} {own nL : Nat} (X : q_Cx p l R s m args c0 ad ca dC dI cc own nL) {pc : Nat} {L : QL} {st : List QV} {σ : QS} {off : Int} {g : Nat} {c : Jvm.ClassFile.Cond} {x : Int32} {T F : Prop} (hd : decode cc pc = .ok (.ifCond c off, 3)) (hg : (pc : Int) + off = (g : Int)) (hq : q_br c x 0 T F) (k1 : T → q_W p l e R s m args below meth c0 Qs ad ca dC dI nL (g) (L) (st) σ) (k2 : F → q_W p l e R s m args below meth c0 Qs ad ca dC dI nL (pc + 3) (L) (st) σ) : q_W p l e R s m args below meth c0 Qs ad ca dC dI nL (pc) (L) (.inl x :: st) σ := by
  obtain ⟨hx, hb, hml, hown, hts, hK, hZ, hi, hf, hlo, hIx⟩ := X
  intro hL ls H locs hl hP hS
  cases c
  · exact lv_if_eq hx hb hd hg (fun q => k1 (hq.1 q) hL ls H locs hl hP hS) (fun q => k2 (hq.2 q) hL ls H locs hl hP hS)
  · exact lv_if_ne hx hb hd hg (fun q => k1 (hq.1 q) hL ls H locs hl hP hS) (fun q => k2 (hq.2 q) hL ls H locs hl hP hS)
  · exact lv_if_lt hx hb hd hg (fun q => k1 (hq.1 q) hL ls H locs hl hP hS) (fun q => k2 (hq.2 q) hL ls H locs hl hP hS)
  · exact lv_if_ge hx hb hd hg (fun q => k1 (hq.1 q) hL ls H locs hl hP hS) (fun q => k2 (hq.2 q) hL ls H locs hl hP hS)
  · exact lv_if_gt hx hb hd hg (fun q => k1 (hq.1 q) hL ls H locs hl hP hS) (fun q => k2 (hq.2 q) hL ls H locs hl hP hS)
  · exact lv_if_le hx hb hd hg (fun q => k1 (hq.1 q) hL ls H locs hl hP hS) (fun q => k2 (hq.2 q) hL ls H locs hl hP hS)
theorem qt_icmp {p : Program} {l : Launch} {e : Env} {R : Room} {s : State} {m : MethodId} {args : Array Value} {below : List Frame} {meth : Method} {c0 : Code} {Qs : State → Prop} {ad : Nat → Nat} {ca : Nat → ClassId} {dC : Nat → ClassId} {dI : Nat → Nat → Nat} {cc : ByteArray} {own nL : Nat} (X : q_Cx p l R s m args c0 ad ca dC dI cc own nL) {pc : Nat} {L : QL} {st : List QV} {σ : QS} {off : Int} {g : Nat} {c : Jvm.ClassFile.Cond} {x y : Int32} {T F : Prop} (hd : decode cc pc = .ok (.if_icmp c off, 3)) (hg : (pc : Int) + off = (g : Int)) (hq : q_br c x y T F) (k1 : T → q_W p l e R s m args below meth c0 Qs ad ca dC dI nL (g) (L) (st) σ) (k2 : F → q_W p l e R s m args below meth c0 Qs ad ca dC dI nL (pc + 3) (L) (st) σ) : q_W p l e R s m args below meth c0 Qs ad ca dC dI nL (pc) (L) (.inl y :: .inl x :: st) σ := by
  obtain ⟨hx, hb, hml, hown, hts, hK, hZ, hi, hf, hlo, hIx⟩ := X
  intro hL ls H locs hl hP hS
  cases c
  · exact lv_icmp_eq hx hb hd hg (fun q => k1 (hq.1 q) hL ls H locs hl hP hS) (fun q => k2 (hq.2 q) hL ls H locs hl hP hS)
  · exact lv_icmp_ne hx hb hd hg (fun q => k1 (hq.1 q) hL ls H locs hl hP hS) (fun q => k2 (hq.2 q) hL ls H locs hl hP hS)
  · exact lv_icmp_lt hx hb hd hg (fun q => k1 (hq.1 q) hL ls H locs hl hP hS) (fun q => k2 (hq.2 q) hL ls H locs hl hP hS)
  · exact lv_icmp_ge hx hb hd hg (fun q => k1 (hq.1 q) hL ls H locs hl hP hS) (fun q => k2 (hq.2 q) hL ls H locs hl hP hS)
  · exact lv_icmp_gt hx hb hd hg (fun q => k1 (hq.1 q) hL ls H locs hl hP hS) (fun q => k2 (hq.2 q) hL ls H locs hl hP hS)
  · exact lv_icmp_le hx hb hd hg (fun q => k1 (hq.1 q) hL ls H locs hl hP hS) (fun q => k2 (hq.2 q) hL ls H locs hl hP hS)
theorem qt_table {p : Program} {l : Launch} {e : Env} {R : Room} {s : State} {m : MethodId} {args : Array Value} {below : List Frame} {meth : Method} {c0 : Code} {Qs : State → Prop} {ad : Nat → Nat} {ca : Nat → ClassId} {dC : Nat → ClassId} {dI : Nat → Nat → Nat} {cc : ByteArray} {own nL : Nat} (X : q_Cx p l R s m args c0 ad ca dC dI cc own nL) {pc : Nat} {L : QL} {st : List QV} {σ : QS} {sts : List Nat} {dd lo hi2 : Int} {offs : Array Int} {len a : Nat} {ts : List (Int × Nat)} {x : Int32} {kk : Nat → Prop} (hd : decode cc pc = .ok (.tableswitch dd lo hi2 offs, len)) (hs : q_sg sts[a]? ((pc : Int) + dd) = true) (hta : q_oktab sts pc lo offs.toList ts = true) (hr : hi2 = lo + offs.size - 1 ∧ -2147483648 ≤ lo ∧ hi2 < 2147483648) (hq : q_sw kk x a ts) (k : ∀ b g, sts[b]? = some g → kk b → q_W p l e R s m args below meth c0 Qs ad ca dC dI nL (g) (L) (st) σ) : q_W p l e R s m args below meth c0 Qs ad ca dC dI nL (pc) (L) (.inl x :: st) σ := by
  obtain ⟨hx, hb, hml, hown, hts, hK, hZ, hi, hf, hlo, hIx⟩ := X
  intro hL ls H locs hl hP hS
  obtain ⟨hlen, hat⟩ := q_oktab_at lo _ _ hta
  obtain ⟨rfl, hr1, hr2⟩ := hr
  have hxr := q_rngI x
  by_cases h1 : x.toInt < lo ∨ lo + offs.size - 1 < x.toInt
  · obtain ⟨g, hg, hg2⟩ := q_sg_at hs
    refine lv_tableOut hx hb hd h1 hg2 (k a g hg (q_sw_none ts hq ?_) hL ls H locs hl hP hS)
    intro q hqm e
    obtain ⟨j, hj⟩ := List.getElem?_of_mem hqm
    obtain ⟨e1, -⟩ := hat j q hj
    have hjl := (List.getElem?_eq_some_iff.mp hj).1
    rw [hlen, Array.length_toList] at hjl
    have hq1 : -2147483648 ≤ q.1 := by omega
    have hq2 : q.1 < 2147483648 := by omega
    have e2 : x.toInt = q.1 := by rw [e]; exact Int32.toInt_ofInt_of_le (by simpa using hq1) (by simpa using hq2)
    omega
  · have h2 : ¬ x.toInt < lo := fun z => h1 (Or.inl z)
    have h3 : ¬ lo + offs.size - 1 < x.toInt := fun z => h1 (Or.inr z)
    have hj : (x.toInt - lo).toNat < ts.length := by rw [hlen, Array.length_toList]; omega
    obtain ⟨q, hqj⟩ : ∃ q, ts[(x.toInt - lo).toNat]? = some q := ⟨_, List.getElem?_eq_getElem hj⟩
    obtain ⟨e1, of, e2, e3⟩ := hat _ q hqj
    obtain ⟨g, hg, hg2⟩ := q_sg_at e3
    have ho : offs[(x.toInt - lo).toNat]? = some of := by rw [← Array.getElem?_toList]; exact e2
    have hxq : x = Int32.ofInt q.1 := by
      rw [e1, show lo + ((x.toInt - lo).toNat : Int) = x.toInt by omega]
      exact (q_ofInt_toInt x).symm
    refine lv_tableIn hx hb hd h2 h3 ho hg2 (k q.2 g hg (q_sw_get ts _ q.1 q.2 hq hqj hxq ?_) hL ls H locs hl hP hS)
    intro j2 hj2 q2 hq2 e
    obtain ⟨f1, -⟩ := hat j2 q2 hq2
    have e4 := q_ofInt_inj (by omega) (by omega) (by omega) (by omega) (hxq.symm.trans e)
    omega
theorem qt_lookup {p : Program} {l : Launch} {e : Env} {R : Room} {s : State} {m : MethodId} {args : Array Value} {below : List Frame} {meth : Method} {c0 : Code} {Qs : State → Prop} {ad : Nat → Nat} {ca : Nat → ClassId} {dC : Nat → ClassId} {dI : Nat → Nat → Nat} {cc : ByteArray} {own nL : Nat} (X : q_Cx p l R s m args c0 ad ca dC dI cc own nL) {pc : Nat} {L : QL} {st : List QV} {σ : QS} {sts : List Nat} {dd : Int} {ps : Array (Int × Int)} {len a : Nat} {ts : List (Int × Nat)} {x : Int32} {kk : Nat → Prop} (hd : decode cc pc = .ok (.lookupswitch dd ps, len)) (hs : q_sg sts[a]? ((pc : Int) + dd) = true) (hta : q_oklk sts pc ps.toList ts = true) (hso : (ps.toList.zip (ps.toList.drop 1)).all (fun (a, next) => a.1 < next.1) = true) (hr : ps.toList.all (fun q => decide (-2147483648 ≤ q.1 ∧ q.1 < 2147483648)) = true) (hq : q_sw kk x a ts) (k : ∀ b g, sts[b]? = some g → kk b → q_W p l e R s m args below meth c0 Qs ad ca dC dI nL (g) (L) (st) σ) : q_W p l e R s m args below meth c0 Qs ad ca dC dI nL (pc) (L) (.inl x :: st) σ := by
  obtain ⟨hx, hb, hml, hown, hts, hK, hZ, hi, hf, hlo, hIx⟩ := X
  intro hL ls H locs hl hP hS
  obtain ⟨b, h1, h2⟩ := q_oklk_off (x := x) _ _ hta (fun q hqm => of_decide_eq_true (List.all_eq_true.mp hr q hqm)) hq hs
  obtain ⟨g, hg, hg2⟩ := q_sg_at h2
  exact lv_lookup hx hb hd hso rfl hg2 (k b g hg h1 hL ls H locs hl hP hS)
theorem qt_iret {p : Program} {l : Launch} {e : Env} {d : Nat} {s : State} {m : MethodId} {args : Array Value} {below : List Frame} {meth : Method} {c0 : Code} {Q : QQ} {ad : Nat → Nat} {ca : Nat → ClassId} {dC : Nat → ClassId} {dI : Nat → Nat → Nat} {cc : ByteArray} {own nL : Nat} (X : q_Cx p l (q_rm d) s m args c0 ad ca dC dI cc own nL) {pc : Nat} {L : QL} {st : List QV} {σ : QS} {x : Int32} (hlocks : meth.locks = false) (hd : decode cc pc = .ok (.ireturn, 1)) (hr : meth.sig.returnType = some .int) (hq : Q (some x) σ) : q_W p l e (q_rm d) s m args below meth c0 (MQ below (q_Qc ad ca dC dI Q) args s 0 0 (q_A ad)) ad ca dC dI nL (pc) (L) ([.inl x]) σ := by
  obtain ⟨hx, hb, hml, hown, hts, hK, hZ, hi, hf, hlo, hIx⟩ := X
  intro hL ls H locs hl hP hS
  exact W.iret (v := x) hx hb hr (fun t ht hW => ⟨⟨some x, σ, rfl, hq, by rw [ht]; exact hP, va_K.moved hW.alike hK, by rw [ht]; exact q_Out_moved hZ hW hS.2.1⟩, hS.F ht⟩) hS.2.2 hd hlocks
theorem qt_zret {p : Program} {l : Launch} {e : Env} {d : Nat} {s : State} {m : MethodId} {args : Array Value} {below : List Frame} {meth : Method} {c0 : Code} {Q : QQ} {ad : Nat → Nat} {ca : Nat → ClassId} {dC : Nat → ClassId} {dI : Nat → Nat → Nat} {cc : ByteArray} {own nL : Nat} (X : q_Cx p l (q_rm d) s m args c0 ad ca dC dI cc own nL) {pc : Nat} {L : QL} {st : List QV} {σ : QS} {x : Int32} (hlocks : meth.locks = false) (hd : decode cc pc = .ok (.ireturn, 1)) (hr : meth.sig.returnType = some .boolean) (h01 : x = 0 ∨ x = 1) (hq : Q (some x) σ) : q_W p l e (q_rm d) s m args below meth c0 (MQ below (q_Qc ad ca dC dI Q) args s 0 0 (q_A ad)) ad ca dC dI nL (pc) (L) ([.inl x]) σ := by
  obtain ⟨hx, hb, hml, hown, hts, hK, hZ, hi, hf, hlo, hIx⟩ := X
  intro hL ls H locs hl hP hS
  exact W.zret (v := x) hx hb hr (by rcases h01 with rfl | rfl <;> decide +kernel) (fun t ht hW => ⟨⟨some x, σ, rfl, hq, by rw [ht]; exact hP, va_K.moved hW.alike hK, by rw [ht]; exact q_Out_moved hZ hW hS.2.1⟩, hS.F ht⟩) hS.2.2 hd hlocks
theorem qt_vret {p : Program} {l : Launch} {e : Env} {d : Nat} {s : State} {m : MethodId} {args : Array Value} {below : List Frame} {meth : Method} {c0 : Code} {Q : QQ} {ad : Nat → Nat} {ca : Nat → ClassId} {dC : Nat → ClassId} {dI : Nat → Nat → Nat} {cc : ByteArray} {own nL : Nat} (X : q_Cx p l (q_rm d) s m args c0 ad ca dC dI cc own nL) {pc : Nat} {L : QL} {st : List QV} {σ : QS} (hlocks : meth.locks = false) (hd : decode cc pc = .ok (.return_, 1)) (hr : meth.sig.returnType = none) (hq : Q none σ) : q_W p l e (q_rm d) s m args below meth c0 (MQ below (q_Qc ad ca dC dI Q) args s 0 0 (q_A ad)) ad ca dC dI nL (pc) (L) ([]) σ := by
  obtain ⟨hx, hb, hml, hown, hts, hK, hZ, hi, hf, hlo, hIx⟩ := X
  intro hL ls H locs hl hP hS
  exact W.vret hx hb hr (fun t ht hW => ⟨⟨none, σ, rfl, hq, by rw [ht]; exact hP, va_K.moved hW.alike hK, by rw [ht]; exact q_Out_moved hZ hW hS.2.1⟩, hS.F ht⟩) hS.2.2 hd hlocks
