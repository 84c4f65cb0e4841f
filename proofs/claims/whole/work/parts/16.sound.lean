set_option maxRecDepth 100000 in
theorem q_ki_ev : ∀ a ∈ q_ki, (q_y a).2.2.2.2.1 % 2 = 0 := by decide +kernel
set_option maxRecDepth 100000 in
theorem q_ks_od : ∀ a ∈ q_ks, (q_y a).2.2.2.2.1 % 2 = 1 := by decide +kernel
theorem q_okt1 {own : Nat} {cc : ByteArray} {ret : Option FieldType} {sts : List Nat} {p : Nat} {x : Nat × Nat × Nat × Nat × Int32} {I : Instr} {ts : List (Int × Nat)} (h : q_okt own cc ret sts p (1, (x.1, I, x.2.1, x.2.2.1, x.2.2.2.1, x.2.2.2.2), ts) = true) : ∃ off, I = .goto off := by
  cases I <;> first | exact ⟨_, rfl⟩ | exact absurd h Bool.false_ne_true
theorem q_okt2 {own : Nat} {cc : ByteArray} {ret : Option FieldType} {sts : List Nat} {p : Nat} {x : Nat × Nat × Nat × Nat × Int32} {I : Instr} {ts : List (Int × Nat)} (h : q_okt own cc ret sts p (2, (x.1, I, x.2.1, x.2.2.1, x.2.2.2.1, x.2.2.2.2), ts) = true) : ∃ c off, I = .ifCond c off := by
  cases I <;> first | exact ⟨_, _, rfl⟩ | exact absurd h Bool.false_ne_true
theorem q_okt3 {own : Nat} {cc : ByteArray} {ret : Option FieldType} {sts : List Nat} {p : Nat} {x : Nat × Nat × Nat × Nat × Int32} {I : Instr} {ts : List (Int × Nat)} (h : q_okt own cc ret sts p (3, (x.1, I, x.2.1, x.2.2.1, x.2.2.2.1, x.2.2.2.2), ts) = true) : ∃ c off, I = .if_icmp c off := by
  cases I <;> first | exact ⟨_, _, rfl⟩ | exact absurd h Bool.false_ne_true
theorem q_okt4 {own : Nat} {cc : ByteArray} {ret : Option FieldType} {sts : List Nat} {p : Nat} {x : Nat × Nat × Nat × Nat × Int32} {I : Instr} {ts : List (Int × Nat)} (h : q_okt own cc ret sts p (4, (x.1, I, x.2.1, x.2.2.1, x.2.2.2.1, x.2.2.2.2), ts) = true) : (∃ dd lo hi2 offs, I = .tableswitch dd lo hi2 offs) ∨ ∃ dd ps, I = .lookupswitch dd ps := by
  cases I <;> first | exact Or.inl ⟨_, _, _, _, rfl⟩ | exact Or.inr ⟨_, _, rfl⟩ | exact absurd h Bool.false_ne_true
theorem q_okt5 {own : Nat} {cc : ByteArray} {ret : Option FieldType} {sts : List Nat} {p : Nat} {x : Nat × Nat × Nat × Nat × Int32} {I : Instr} {tg z : Int} {na ml : Nat} (h : q_okt own cc ret sts p (5, (x.1, I, x.2.1, x.2.2.1, x.2.2.2.1, x.2.2.2.2), [(tg, na), (z, ml)]) = true) : (∃ i, I = .invokevirtual i) ∨ ∃ i, I = .invokestatic i := by
  cases I <;> first | exact Or.inl ⟨_, rfl⟩ | exact Or.inr ⟨_, rfl⟩ | exact absurd h Bool.false_ne_true
set_option maxHeartbeats 4000000 in
theorem q_tm_snd {l : Launch} {ad : Nat → Nat} {ca : Nat → ClassId} {dC : Nat → ClassId} {dI : Nat → Nat → Nat} {d mi : Nat} {Q : QQ} {M : QM} (hM : q_g16 q_ms mi = some M) {p : Program} {e : Env} {s : State} {m : MethodId} {args : Array Value} {below : List Frame} {meth : Method} {c0 : Code} (X : q_Cx p l (q_rm d) s m args c0 ad ca dC dI M.2.1 (M.2.2.2.2.1 / 2) M.2.2.1) (hret : meth.sig.returnType = M.2.2.2.1) (hlocks : meth.locks = false) {pe : Nat} {t : QT} (hok : q_okt (M.2.2.2.2.1 / 2) M.2.1 M.2.2.2.1 (M.2.2.2.2.2.2.map (fun b => b.1)) pe t = true) {L : QL} {st : List QV} {σ : QS} (ht : q_tm (fun k' L st σ => q_Snd l ad ca dC dI d mi k' L st σ Q) (q_cal (q_Snd l ad ca dC dI) d mi Q) Q t L st σ) : q_W p l e (q_rm d) s m args below meth c0 (MQ below (q_Qc ad ca dC dI Q) args s 0 0 (q_A ad)) ad ca dC dI M.2.2.1 pe L st σ := by
  have hj : ∀ (a g : Nat) (L : QL) (st : List QV) (σ : QS), (M.2.2.2.2.2.2.map (fun b => b.1))[a]? = some g → q_Snd l ad ca dC dI d mi a L st σ Q → q_W p l e (q_rm d) s m args below meth c0 (MQ below (q_Qc ad ca dC dI Q) args s 0 0 (q_A ad)) ad ca dC dI M.2.2.1 g L st σ := by
    intro a g L st σ hg h
    rw [List.getElem?_map] at hg
    obtain ⟨b, hb, rfl⟩ := Option.map_eq_some_iff.mp hg
    exact h M hM b hb p e s m args below meth c0 X hret hlocks
  obtain ⟨kd, ⟨qp, I, len, a, b, v⟩, ts⟩ := t
  match kd, hok, ht with
  | 0, hok, ht => exact hj a pe L st σ (of_decide_eq_true hok) ht
  | 1, hok, ht =>
    obtain ⟨off, rfl⟩ := q_okt1 (x := (qp, len, a, b, v)) hok
    have hok : (decide (decode M.2.1 pe = .ok (.goto off, 3)) && q_sg (M.2.2.2.2.2.2.map (fun b => b.1))[a]? ((pe : Int) + off)) = true := hok
    rw [Bool.and_eq_true] at hok
    obtain ⟨g, hg, hg2⟩ := q_sg_at hok.2
    exact qt_goto X (of_decide_eq_true hok.1) hg2 (hj a g L st σ hg ht)
  | 2, hok, ht =>
    obtain ⟨c, off, rfl⟩ := q_okt2 (x := (qp, len, a, b, v)) hok
    have hok : (decide (decode M.2.1 pe = .ok (.ifCond c off, 3)) && q_sg (M.2.2.2.2.2.2.map (fun b => b.1))[a]? ((pe : Int) + off) && decide ((M.2.2.2.2.2.2.map (fun b => b.1))[b]? = some (pe + 3))) = true := hok
    rw [Bool.and_eq_true, Bool.and_eq_true] at hok
    obtain ⟨g, hg, hg2⟩ := q_sg_at hok.1.2
    match st, ht with
    | .inl x :: st, ht => exact qt_if X (of_decide_eq_true hok.1.1) hg2 ht (hj a g L st σ hg) (hj b _ L st σ (of_decide_eq_true hok.2))
    | .inr _ :: _, ht => exact ht.elim
    | [], ht => exact ht.elim
  | 3, hok, ht =>
    obtain ⟨c, off, rfl⟩ := q_okt3 (x := (qp, len, a, b, v)) hok
    have hok : (decide (decode M.2.1 pe = .ok (.if_icmp c off, 3)) && q_sg (M.2.2.2.2.2.2.map (fun b => b.1))[a]? ((pe : Int) + off) && decide ((M.2.2.2.2.2.2.map (fun b => b.1))[b]? = some (pe + 3))) = true := hok
    rw [Bool.and_eq_true, Bool.and_eq_true] at hok
    obtain ⟨g, hg, hg2⟩ := q_sg_at hok.1.2
    match st, ht with
    | .inl y :: .inl x :: st, ht => exact qt_icmp X (of_decide_eq_true hok.1.1) hg2 ht (hj a g L st σ hg) (hj b _ L st σ (of_decide_eq_true hok.2))
    | .inl _ :: .inr _ :: _, ht => exact ht.elim
    | [.inl _], ht => exact ht.elim
    | .inr _ :: _, ht => exact ht.elim
    | [], ht => exact ht.elim
  | 4, hok, ht =>
    rcases q_okt4 (x := (qp, len, a, b, v)) hok with ⟨dd, lo, hi2, offs, rfl⟩ | ⟨dd, ps, rfl⟩
    · have hok : (decide (decode M.2.1 pe = .ok (.tableswitch dd lo hi2 offs, len)) && q_sg (M.2.2.2.2.2.2.map (fun b => b.1))[a]? ((pe : Int) + dd) && q_oktab (M.2.2.2.2.2.2.map (fun b => b.1)) pe lo offs.toList ts && decide (hi2 = lo + offs.size - 1 ∧ -2147483648 ≤ lo ∧ hi2 < 2147483648)) = true := hok
      rw [Bool.and_eq_true, Bool.and_eq_true, Bool.and_eq_true] at hok
      match st, ht with
      | .inl x :: st, ht => exact qt_table X (of_decide_eq_true hok.1.1.1) hok.1.1.2 hok.1.2 (of_decide_eq_true hok.2) ht (fun b g hg h => hj b g L st σ hg h)
      | .inr _ :: _, ht => exact ht.elim
      | [], ht => exact ht.elim
    · have hok : (decide (decode M.2.1 pe = .ok (.lookupswitch dd ps, len)) && q_sg (M.2.2.2.2.2.2.map (fun b => b.1))[a]? ((pe : Int) + dd) && q_oklk (M.2.2.2.2.2.2.map (fun b => b.1)) pe ps.toList ts && (ps.toList.zip (ps.toList.drop 1)).all (fun (a, next) => a.1 < next.1) && ps.toList.all (fun q => decide (-2147483648 ≤ q.1 ∧ q.1 < 2147483648))) = true := hok
      rw [Bool.and_eq_true, Bool.and_eq_true, Bool.and_eq_true, Bool.and_eq_true] at hok
      match st, ht with
      | .inl x :: st, ht => exact qt_lookup X (of_decide_eq_true hok.1.1.1.1) hok.1.1.1.2 hok.1.1.2 hok.1.2 hok.2 ht (fun b g hg h => hj b g L st σ hg h)
      | .inr _ :: _, ht => exact ht.elim
      | [], ht => exact ht.elim
  | 5, hok, ht =>
    match ts, hok, ht with
    | [(tg, na), (_, ml)], hok, ht =>
      rcases q_okt5 (x := (qp, len, a, b, v)) hok with ⟨i, rfl⟩ | ⟨i, rfl⟩
      · obtain ⟨h1, h2, h3, h4, h5, h6, h7, h8, h9⟩ := of_decide_eq_true hok
        obtain ⟨d', R, rfl, hb8, hc, hk⟩ := ht
        exact qt_callV X h1 h3 h4 h5 h6 h7 h8 h9 (q_ki_ev _ h4) hb8 hc (fun r σ2 hq => hj b _ L _ σ2 h2 (hk r σ2 hq))
      · obtain ⟨h1, h2, h3, h4, h6, h7, h8⟩ := of_decide_eq_true hok
        obtain ⟨d', R, rfl, hb8, hc, hk⟩ := ht
        exact qt_callS X h1 h3 h4 h7 h8 (q_ks_od _ h4) hb8 hc (fun r σ2 hq => hj b _ L _ σ2 h2 (hk r σ2 hq))
    | [], hok, ht => exact ht.elim
    | [_], hok, ht => exact ht.elim
    | _ :: _ :: _ :: _, hok, ht => exact ht.elim
  | 6, hok, ht =>
    obtain ⟨h1, h2⟩ := of_decide_eq_true hok
    match st, ht with
    | [.inl x], ht => exact qt_iret (st := []) X hlocks h1 (hret.trans h2) ht
    | [.inr _], ht => exact ht.elim
    | [], ht => exact ht.elim
    | .inl _ :: _ :: _, ht => exact False.elim ht
    | .inr _ :: _ :: _, ht => exact False.elim ht
  | 7, hok, ht =>
    obtain ⟨h1, h2⟩ := of_decide_eq_true hok
    match st, ht with
    | [], ht => exact qt_vret (st := []) X hlocks h1 (hret.trans h2) ht
    | _ :: _, ht => exact ht.elim
  | 8, hok, ht =>
    obtain ⟨h1, h2⟩ := of_decide_eq_true hok
    match st, ht with
    | [.inl x], ht => exact qt_zret (st := []) X hlocks h1 (hret.trans h2) ht.1 ht.2
    | [.inr _], ht => exact ht.elim
    | [], ht => exact ht.elim
    | .inl _ :: _ :: _, ht => exact False.elim ht
    | .inr _ :: _ :: _, ht => exact False.elim ht
  | n + 9, hok, ht => exact absurd hok Bool.false_ne_true
theorem q_snd_step {l : Launch} {ad : Nat → Nat} {ca : Nat → ClassId} {dC : Nat → ClassId} {dI : Nat → Nat → Nat} {d mi k : Nat} {L : QL} {st : List QV} {σ : QS} {Q : QQ} (h : q_step (q_Snd l ad ca dC dI) d mi k L st σ Q) : q_Snd l ad ca dC dI d mi k L st σ Q := by
  intro M hM b hb p e s m args below meth c0 X hret hlocks
  obtain ⟨b', hb', hw⟩ := h
  unfold q_blk at hb'
  rw [hM] at hb'
  obtain rfl : b' = b := Option.some.inj (hb'.symm.trans hb)
  have hok := (q_mk hM).1
  unfold q_okm at hok
  rw [Bool.and_eq_true] at hok
  have hbk := List.all_eq_true.mp hok.2 b' (List.mem_of_getElem? hb)
  unfold q_okb at hbk
  split at hbk
  · rename_i pe hpe
    exact q_rows_snd X (fun L st σ ht => q_tm_snd hM X hret hlocks hbk ht) b'.2.1 b'.1 L st σ hpe hw
  · cases hbk
/-- THE SMALL MACHINE IS SOUND: what EV says of a method, its contract says over the machine -/
theorem q_sound {l : Launch} {ad : Nat → Nat} {ca : Nat → ClassId} {dC : Nat → ClassId} {dI : Nat → Nat → Nat} {d mi k : Nat} {L : QL} {st : List QV} {σ : QS} {Q : QQ} (h : EV d mi k L st σ Q) : q_Snd l ad ca dC dI d mi k L st σ Q := h (q_Snd l ad ca dC dI) (fun _ _ _ _ _ _ _ => q_snd_step)
