theorem qs_getr {p : Program} {l : Launch} {e : Env} {R : Room} {s : State} {m : MethodId} {args : Array Value} {below : List Frame} {meth : Method} {c0 : Code} {Qs : State → Prop} {ad : Nat → Nat} {ca : Nat → ClassId} {dC : Nat → ClassId} {dI : Nat → Nat → Nat} {cc : ByteArray} {own nL : Nat} (X : q_Cx p l R s m args c0 ad ca dC dI cc own nL) {pc : Nat} {L : QL} {st : List QV} {σ : QS} {i a b c c2 : Nat} (hd : decode cc pc = .ok (.getfield i, 3)) (hk : (own, i, b, a) ∈ q_flk ∨ (own, i, b, a) ∈ q_nlk) (ht : (q_lay c).1 = b + 4) {v : QV} (hv : (q_lay c).2.2[a]? = some (some c2) ∧ v = .inr c2 ∨ (q_lay c).2.2[a]? = some none ∧ v = .inl (σ c a)) (k : q_W p l e R s m args below meth c0 Qs ad ca dC dI nL (pc + 3) (L) (v :: st) σ) : q_W p l e R s m args below meth c0 Qs ad ca dC dI nL (pc) (L) (.inr c :: st) σ := by
  obtain ⟨hx, hb, hml, hown, hts, hK, hZ, hi, hf, hlo, hIx⟩ := X
  intro hL ls H locs hl hP hS
  have hr : a < (q_T b).2.2 ∧ b < 12 := hk.elim (fun h => q_flk_rng _ h) (fun h => q_nlk_rng _ h)
  obtain ⟨hc, hlen⟩ := q_lay_ob ht hr.2
  have he := q_ws_at (ad := ad) (ca := ca) (σ := σ) hc
  rw [q_en_o ht] at he
  have hfs : (q_fd ad (σ c) (q_lay c).2.2)[a]? = some (q_v ad v) := by
    rw [q_fd_at (by rw [hlen]; exact hr.1)]
    rcases hv with ⟨h1, rfl⟩ | ⟨h1, rfl⟩ <;> simp [q_f1, h1, q_v]
  have kk := k hL ls H locs hl hP hS
  rcases hk with hk | hk
  · exact va_get (D := (dC, dI)) (C := (q_T b).1) (T := (q_T b).2.1) (N := (q_T b).2.2) hx hb hts (q_T_ws hr.2) hown hK hP c he (q_cl_at hr.2) a hr.1 (hts _ (gw_of (q_flk_in _ hk) rfl)) (fun _ h9 => h9) hfs hd kk
  · exact va_getN (D := (dC, dI)) (C := (q_T b).1) (T := (q_T b).2.1) (N := (q_T b).2.2) hx hb hts (q_T_ws hr.2) hown hK hP c he (q_cl_at hr.2) a hr.1 (va_Nw.use rfl (hZ.1 _ hk)) (fun _ h9 => h9) hfs hd kk
theorem q_pok_ty {b a : Nat} {v x : Int32} (h : q_pok b a v = true) (hq : v = 0 ∨ q_fit v x) : ((q_T b).2.1 a).2.2.2 = false ∧ ∃ ty, parseFieldDescriptor ((q_T b).2.1 a).2.2.1 = some ty ∧ narrow ty (.int x) = .int x ∧ fits ty (.int x) = true := by
  unfold q_pok at h
  rw [Bool.and_eq_true] at h
  obtain ⟨h1, h2⟩ := h
  refine ⟨of_decide_eq_true h1, ?_⟩
  by_cases hv : v = 0
  · rw [if_pos hv] at h2
    rw [of_decide_eq_true h2]
    exact ⟨.int, by decide +kernel, rfl, rfl⟩
  · rw [if_neg hv] at h2
    have hq := hq.resolve_left hv
    unfold q_fit at hq
    by_cases hv1 : v = 1
    · rw [if_pos hv1] at h2 hq
      rw [of_decide_eq_true h2]
      refine ⟨.boolean, by decide +kernel, ?_⟩
      rcases hq with rfl | rfl <;> exact ⟨by decide +kernel, by decide +kernel⟩
    · rw [if_neg hv1] at h2 hq
      rw [of_decide_eq_true h2]
      exact ⟨.char, by decide +kernel, hq.1, hq.2⟩
theorem qs_put {p : Program} {l : Launch} {e : Env} {R : Room} {s : State} {m : MethodId} {args : Array Value} {below : List Frame} {meth : Method} {c0 : Code} {Qs : State → Prop} {ad : Nat → Nat} {ca : Nat → ClassId} {dC : Nat → ClassId} {dI : Nat → Nat → Nat} {cc : ByteArray} {own nL : Nat} (X : q_Cx p l R s m args c0 ad ca dC dI cc own nL) {pc : Nat} {L : QL} {st : List QV} {σ : QS} {i a b c : Nat} {v x : Int32} (hd : decode cc pc = .ok (.putfield i, 3)) (hk : (own, i, b, a) ∈ q_flk ∨ (own, i, b, a) ∈ q_nlk) (hp : q_pok b a v = true) (ht : (q_lay c).1 = b + 4) (hv : (q_lay c).2.2[a]? = some none) (hq : v = 0 ∨ q_fit v x) (k : q_W p l e R s m args below meth c0 Qs ad ca dC dI nL (pc + 3) (L) (st) (q_set σ c (upd (σ c) a x))) : q_W p l e R s m args below meth c0 Qs ad ca dC dI nL (pc) (L) (.inl x :: .inr c :: st) σ := by
  obtain ⟨hx, hb, hml, hown, hts, hK, hZ, hi, hf, hlo, hIx⟩ := X
  intro hL ls H locs hl hP hS
  have hr : a < (q_T b).2.2 ∧ b < 12 := hk.elim (fun h => q_flk_rng _ h) (fun h => q_nlk_rng _ h)
  obtain ⟨hc, hlen⟩ := q_lay_ob ht hr.2
  have he := q_ws_at (ad := ad) (ca := ca) (σ := σ) hc
  rw [q_en_o ht] at he
  obtain ⟨hfin, ty, hty, hn, hfit⟩ := q_pok_ty hp hq
  have hfl : a < (q_fd ad (σ c) (q_lay c).2.2).length := by simp [q_fd, hlen]; exact hr.1
  have kk : ∀ (H1 : Heap) (locs1 : List Loc), va_P (dC, dI) q_cl ((q_ws ad ca σ).set c (ad c, .inr (b, (q_fd ad (σ c) (q_lay c).2.2).set a (.int x)))) H1 → va_D (q_A ad) ((q_ws ad ca σ).set c (ad c, .inr (b, (q_fd ad (σ c) (q_lay c).2.2).set a (.int x)))) → va_S (q_A ad) s.heap H1 locs1 → W p l e R s m args below meth c0 H1 locs1 0 0 Qs (F0 m (pc + 3) ls (st.map (q_v ad))) := by
    intro H1 locs1 hP1 _ hS1
    refine k hL ls H1 locs1 hl ?_ hS1
    rw [q_ws_set hc, q_en_o ht, q_fd_set hv]
    exact hP1
  rcases hk with hk | hk
  · exact va_put (D := (dC, dI)) (C := (q_T b).1) (T := (q_T b).2.1) (N := (q_T b).2.2) hx hb hts (q_T_ws hr.2) _ (q_cl_ty _ (q_T_in hr.2)) (q_cl_nm _ (q_T_in hr.2)) hown hK hP (q_D hi) hS c he (q_cl_at hr.2) a hr.1 (hts _ (gw_of (q_flk_in _ hk) rfl)) (fun _ h9 => h9) hfin hty hn hfit hfl hd kk
  · exact va_putN (D := (dC, dI)) (C := (q_T b).1) (T := (q_T b).2.1) (N := (q_T b).2.2) hx hb hts (q_T_ws hr.2) _ (q_cl_ty _ (q_T_in hr.2)) (q_cl_nm _ (q_T_in hr.2)) hown hK hP (q_D hi) hS c he (q_cl_at hr.2) a hr.1 (va_Nw.use rfl (hZ.1 _ hk)) (fun _ h9 => h9) hfin hty hn hfit hfl hd kk
theorem qs_iaload {p : Program} {l : Launch} {e : Env} {R : Room} {s : State} {m : MethodId} {args : Array Value} {below : List Frame} {meth : Method} {c0 : Code} {Qs : State → Prop} {ad : Nat → Nat} {ca : Nat → ClassId} {dC : Nat → ClassId} {dI : Nat → Nat → Nat} {cc : ByteArray} {own nL : Nat} (X : q_Cx p l R s m args c0 ad ca dC dI cc own nL) {pc : Nat} {L : QL} {st : List QV} {σ : QS} {c : Nat} {i : Int32} (hd : decode cc pc = .ok (.iaload, 1)) (ht : (q_lay c).1 = 0) (hin : vp_in i (q_lay c).2.1) (k : q_W p l e R s m args below meth c0 Qs ad ca dC dI nL (pc + 1) (L) (.inl (σ c i.toNatClampNeg) :: st) σ) : q_W p l e R s m args below meth c0 Qs ad ca dC dI nL (pc) (L) (.inl i :: .inr c :: st) σ := by
  obtain ⟨hx, hb, hml, hown, hts, hK, hZ, hi, hf, hlo, hIx⟩ := X
  intro hL ls H locs hl hP hS
  have hc := q_lay_lt (c := c) (by omega)
  have he := q_ws_at (ad := ad) (ca := ca) (σ := σ) hc
  rw [q_en_a ht (by omega)] at he
  exact va_iald (D := (dC, dI)) hx hb hK hP c 0 he rfl hin hd (k hL ls H locs hl hP hS)
theorem qs_caload {p : Program} {l : Launch} {e : Env} {R : Room} {s : State} {m : MethodId} {args : Array Value} {below : List Frame} {meth : Method} {c0 : Code} {Qs : State → Prop} {ad : Nat → Nat} {ca : Nat → ClassId} {dC : Nat → ClassId} {dI : Nat → Nat → Nat} {cc : ByteArray} {own nL : Nat} (X : q_Cx p l R s m args c0 ad ca dC dI cc own nL) {pc : Nat} {L : QL} {st : List QV} {σ : QS} {c : Nat} {i : Int32} (hd : decode cc pc = .ok (.caload, 1)) (ht : (q_lay c).1 = 1) (hin : vp_in i (q_lay c).2.1) (k : q_W p l e R s m args below meth c0 Qs ad ca dC dI nL (pc + 1) (L) (.inl (σ c i.toNatClampNeg) :: st) σ) : q_W p l e R s m args below meth c0 Qs ad ca dC dI nL (pc) (L) (.inl i :: .inr c :: st) σ := by
  obtain ⟨hx, hb, hml, hown, hts, hK, hZ, hi, hf, hlo, hIx⟩ := X
  intro hL ls H locs hl hP hS
  have hc := q_lay_lt (c := c) (by omega)
  have he := q_ws_at (ad := ad) (ca := ca) (σ := σ) hc
  rw [q_en_a ht (by omega)] at he
  exact va_cald (D := (dC, dI)) hx hb hK hP c 1 he rfl hin hd (k hL ls H locs hl hP hS)
theorem qs_baload {p : Program} {l : Launch} {e : Env} {R : Room} {s : State} {m : MethodId} {args : Array Value} {below : List Frame} {meth : Method} {c0 : Code} {Qs : State → Prop} {ad : Nat → Nat} {ca : Nat → ClassId} {dC : Nat → ClassId} {dI : Nat → Nat → Nat} {cc : ByteArray} {own nL : Nat} (X : q_Cx p l R s m args c0 ad ca dC dI cc own nL) {pc : Nat} {L : QL} {st : List QV} {σ : QS} {c : Nat} {i : Int32} (hd : decode cc pc = .ok (.baload, 1)) (ht : (q_lay c).1 = 2) (hin : vp_in i (q_lay c).2.1) (k : q_W p l e R s m args below meth c0 Qs ad ca dC dI nL (pc + 1) (L) (.inl (σ c i.toNatClampNeg) :: st) σ) : q_W p l e R s m args below meth c0 Qs ad ca dC dI nL (pc) (L) (.inl i :: .inr c :: st) σ := by
  obtain ⟨hx, hb, hml, hown, hts, hK, hZ, hi, hf, hlo, hIx⟩ := X
  intro hL ls H locs hl hP hS
  have hc := q_lay_lt (c := c) (by omega)
  have he := q_ws_at (ad := ad) (ca := ca) (σ := σ) hc
  rw [q_en_a ht (by omega)] at he
  exact va_bald (D := (dC, dI)) hx hb hK hP c 2 he rfl hin hd (k hL ls H locs hl hP hS)
theorem qs_rload {p : Program} {l : Launch} {e : Env} {R : Room} {s : State} {m : MethodId} {args : Array Value} {below : List Frame} {meth : Method} {c0 : Code} {Qs : State → Prop} {ad : Nat → Nat} {ca : Nat → ClassId} {dC : Nat → ClassId} {dI : Nat → Nat → Nat} {cc : ByteArray} {own nL : Nat} (X : q_Cx p l R s m args c0 ad ca dC dI cc own nL) {pc : Nat} {L : QL} {st : List QV} {σ : QS} {c : Nat} {i : Int32} (hd : decode cc pc = .ok (.iaload, 1)) (ht : (q_lay c).1 = 100) (hin : vp_in i (q_lay c).2.1) (k : q_W p l e R s m args below meth c0 Qs ad ca dC dI nL (pc + 1) (L) (.inl (q_ro c i.toNatClampNeg) :: st) σ) : q_W p l e R s m args below meth c0 Qs ad ca dC dI nL (pc) (L) (.inl i :: .inr c :: st) σ := by
  obtain ⟨hx, hb, hml, hown, hts, hK, hZ, hi, hf, hlo, hIx⟩ := X
  intro hL ls H locs hl hP hS
  rcases q_lay_ro ht with rfl | rfl
  · exact va_ti (f := fun j => .int (q_ro 118 j)) hx hb hZ.2.1.2 hS hin rfl hd (k hL ls H locs hl hP hS)
  · exact va_ti (f := fun j => .int (q_ro 119 j)) hx hb hZ.2.2.1.2 hS hin rfl hd (k hL ls H locs hl hP hS)
theorem qs_iastore {p : Program} {l : Launch} {e : Env} {R : Room} {s : State} {m : MethodId} {args : Array Value} {below : List Frame} {meth : Method} {c0 : Code} {Qs : State → Prop} {ad : Nat → Nat} {ca : Nat → ClassId} {dC : Nat → ClassId} {dI : Nat → Nat → Nat} {cc : ByteArray} {own nL : Nat} (X : q_Cx p l R s m args c0 ad ca dC dI cc own nL) {pc : Nat} {L : QL} {st : List QV} {σ : QS} {c : Nat} {i x : Int32} (hd : decode cc pc = .ok (.iastore, 1)) (ht : (q_lay c).1 = 0) (hin : vp_in i (q_lay c).2.1) (k : q_W p l e R s m args below meth c0 Qs ad ca dC dI nL (pc + 1) (L) (st) (q_set σ c (upd (σ c) i.toNatClampNeg x))) : q_W p l e R s m args below meth c0 Qs ad ca dC dI nL (pc) (L) (.inl x :: .inl i :: .inr c :: st) σ := by
  obtain ⟨hx, hb, hml, hown, hts, hK, hZ, hi, hf, hlo, hIx⟩ := X
  intro hL ls H locs hl hP hS
  have hc := q_lay_lt (c := c) (by omega)
  have he := q_ws_at (ad := ad) (ca := ca) (σ := σ) hc
  rw [q_en_a ht (by omega)] at he
  refine va_iast (D := (dC, dI)) hx hb hK hP (q_D hi) hS c 0 he rfl hin hd (fun H1 locs1 hP1 _ hS1 => k hL ls H1 locs1 hl ?_ hS1)
  rw [q_ws_set hc, q_en_a ht (by omega)]
  exact hP1
theorem qs_castore {p : Program} {l : Launch} {e : Env} {R : Room} {s : State} {m : MethodId} {args : Array Value} {below : List Frame} {meth : Method} {c0 : Code} {Qs : State → Prop} {ad : Nat → Nat} {ca : Nat → ClassId} {dC : Nat → ClassId} {dI : Nat → Nat → Nat} {cc : ByteArray} {own nL : Nat} (X : q_Cx p l R s m args c0 ad ca dC dI cc own nL) {pc : Nat} {L : QL} {st : List QV} {σ : QS} {c : Nat} {i x : Int32} (hd : decode cc pc = .ok (.castore, 1)) (ht : (q_lay c).1 = 1) (hin : vp_in i (q_lay c).2.1) (k : q_W p l e R s m args below meth c0 Qs ad ca dC dI nL (pc + 1) (L) (st) (q_set σ c (upd (σ c) i.toNatClampNeg (vp_nar .char x)))) : q_W p l e R s m args below meth c0 Qs ad ca dC dI nL (pc) (L) (.inl x :: .inl i :: .inr c :: st) σ := by
  obtain ⟨hx, hb, hml, hown, hts, hK, hZ, hi, hf, hlo, hIx⟩ := X
  intro hL ls H locs hl hP hS
  have hc := q_lay_lt (c := c) (by omega)
  have he := q_ws_at (ad := ad) (ca := ca) (σ := σ) hc
  rw [q_en_a ht (by omega)] at he
  refine va_cast (D := (dC, dI)) hx hb hK hP (q_D hi) hS c 1 he rfl hin hd (fun H1 locs1 hP1 _ hS1 => k hL ls H1 locs1 hl ?_ hS1)
  rw [q_ws_set hc, q_en_a ht (by omega)]
  exact hP1
theorem qs_bastore {p : Program} {l : Launch} {e : Env} {R : Room} {s : State} {m : MethodId} {args : Array Value} {below : List Frame} {meth : Method} {c0 : Code} {Qs : State → Prop} {ad : Nat → Nat} {ca : Nat → ClassId} {dC : Nat → ClassId} {dI : Nat → Nat → Nat} {cc : ByteArray} {own nL : Nat} (X : q_Cx p l R s m args c0 ad ca dC dI cc own nL) {pc : Nat} {L : QL} {st : List QV} {σ : QS} {c : Nat} {i x : Int32} (hd : decode cc pc = .ok (.bastore, 1)) (ht : (q_lay c).1 = 2) (hin : vp_in i (q_lay c).2.1) (k : q_W p l e R s m args below meth c0 Qs ad ca dC dI nL (pc + 1) (L) (st) (q_set σ c (upd (σ c) i.toNatClampNeg (vp_nar .byte x)))) : q_W p l e R s m args below meth c0 Qs ad ca dC dI nL (pc) (L) (.inl x :: .inl i :: .inr c :: st) σ := by
  obtain ⟨hx, hb, hml, hown, hts, hK, hZ, hi, hf, hlo, hIx⟩ := X
  intro hL ls H locs hl hP hS
  have hc := q_lay_lt (c := c) (by omega)
  have he := q_ws_at (ad := ad) (ca := ca) (σ := σ) hc
  rw [q_en_a ht (by omega)] at he
  refine va_bast (D := (dC, dI)) hx hb hK hP (q_D hi) hS c 2 he rfl hin hd (fun H1 locs1 hP1 _ hS1 => k hL ls H1 locs1 hl ?_ hS1)
  rw [q_ws_set hc, q_en_a ht (by omega)]
  exact hP1
theorem qs_aaload {p : Program} {l : Launch} {e : Env} {R : Room} {s : State} {m : MethodId} {args : Array Value} {below : List Frame} {meth : Method} {c0 : Code} {Qs : State → Prop} {ad : Nat → Nat} {ca : Nat → ClassId} {dC : Nat → ClassId} {dI : Nat → Nat → Nat} {cc : ByteArray} {own nL : Nat} (X : q_Cx p l R s m args c0 ad ca dC dI cc own nL) {pc : Nat} {L : QL} {st : List QV} {σ : QS} {c c2 : Nat} {i : Int32} (hd : decode cc pc = .ok (.aaload, 1)) (ht : (q_lay c).1 = 3) (hq : q_at (q_lay c).2.2 i = some c2) (k : q_W p l e R s m args below meth c0 Qs ad ca dC dI nL (pc + 1) (L) (.inr c2 :: st) σ) : q_W p l e R s m args below meth c0 Qs ad ca dC dI nL (pc) (L) (.inl i :: .inr c :: st) σ := by
  obtain ⟨hx, hb, hml, hown, hts, hK, hZ, hi, hf, hlo, hIx⟩ := X
  intro hL ls H locs hl hP hS
  obtain rfl := q_lay_rf ht
  have he := q_ws_at (ad := ad) (ca := ca) (σ := σ) (show 40 < 118 by omega)
  have he : (q_ws ad ca σ)[40]? = some (ad 40, .inl (ca 3, 2, .inr (.inr (.inr (.inr (fun i => (([some 13, some 22] : List (Option Nat)).getD i none).map ad)))))) := he
  have hq : q_at [some 13, some 22] i = some c2 := hq
  have kk := k hL ls H locs hl hP hS
  unfold q_at at hq
  by_cases h0 : i = 0
  · subst h0
    rw [if_pos rfl] at hq
    have e : c2 = 13 := by simpa using hq.symm
    subst e
    exact va_aldq (D := (dC, dI)) hx hb hK hP 40 3 he rfl (by unfold vp_in; decide +kernel) hd kk
  · rw [if_neg h0] at hq
    by_cases h1 : i = 1
    · subst h1
      rw [if_pos rfl] at hq
      have e : c2 = 22 := by simpa using hq.symm
      subst e
      exact va_aldq (D := (dC, dI)) hx hb hK hP 40 3 he rfl (by unfold vp_in; decide +kernel) hd kk
    · rw [if_neg h1] at hq
      cases hq
theorem qs_alen {p : Program} {l : Launch} {e : Env} {R : Room} {s : State} {m : MethodId} {args : Array Value} {below : List Frame} {meth : Method} {c0 : Code} {Qs : State → Prop} {ad : Nat → Nat} {ca : Nat → ClassId} {dC : Nat → ClassId} {dI : Nat → Nat → Nat} {cc : ByteArray} {own nL : Nat} (X : q_Cx p l R s m args c0 ad ca dC dI cc own nL) {pc : Nat} {L : QL} {st : List QV} {σ : QS} {c : Nat} (hd : decode cc pc = .ok (.arraylength, 1)) (ht : (q_lay c).1 < 4) (k : q_W p l e R s m args below meth c0 Qs ad ca dC dI nL (pc + 1) (L) (.inl (Int32.ofNat (q_lay c).2.1) :: st) σ) : q_W p l e R s m args below meth c0 Qs ad ca dC dI nL (pc) (L) (.inr c :: st) σ := by
  obtain ⟨hx, hb, hml, hown, hts, hK, hZ, hi, hf, hlo, hIx⟩ := X
  intro hL ls H locs hl hP hS
  have hc := q_lay_lt (c := c) (by omega)
  have he := q_ws_at (ad := ad) (ca := ca) (σ := σ) hc
  have kk := k hL ls H locs hl hP hS
  rcases Nat.lt_or_ge (q_lay c).1 3 with h | h
  · rw [q_en_a rfl h] at he
    rcases (show (q_lay c).1 = 0 ∨ (q_lay c).1 = 1 ∨ (q_lay c).1 = 2 by omega) with h0 | h0 | h0
    · rw [h0] at he
      exact va_alen (D := (dC, dI)) hx hb hK hP c 0 he rfl rfl hd kk
    · rw [h0] at he
      exact va_alen (D := (dC, dI)) hx hb hK hP c 1 he rfl rfl hd kk
    · rw [h0] at he
      exact va_alen (D := (dC, dI)) hx hb hK hP c 2 he rfl rfl hd kk
  · obtain rfl := q_lay_rf (show (q_lay c).1 = 3 by omega)
    exact va_alen (D := (dC, dI)) hx hb hK hP 40 3 he rfl rfl hd kk
theorem qs_gets {p : Program} {l : Launch} {e : Env} {R : Room} {s : State} {m : MethodId} {args : Array Value} {below : List Frame} {meth : Method} {c0 : Code} {Qs : State → Prop} {ad : Nat → Nat} {ca : Nat → ClassId} {dC : Nat → ClassId} {dI : Nat → Nat → Nat} {cc : ByteArray} {own nL : Nat} (X : q_Cx p l R s m args c0 ad ca dC dI cc own nL) {pc : Nat} {L : QL} {st : List QV} {σ : QS} {i a : Nat} (hd : decode cc pc = .ok (.getstatic i, 3)) (hv : own = 3 ∧ (i = 60 ∧ a = 118 ∨ i = 63 ∧ a = 119)) (k : q_W p l e R s m args below meth c0 Qs ad ca dC dI nL (pc + 3) (L) (.inr a :: st) σ) : q_W p l e R s m args below meth c0 Qs ad ca dC dI nL (pc) (L) (st) σ := by
  obtain ⟨hx, hb, hml, hown, hts, hK, hZ, hi, hf, hlo, hIx⟩ := X
  intro hL ls H locs hl hP hS
  obtain ⟨rfl, h⟩ := hv
  rcases h with ⟨rfl, rfl⟩ | ⟨rfl, rfl⟩
  · exact va_gets hx hb hZ.2.1.1 hS hown (hts _ q_lk60) (fun _ h => h) hd (k hL ls H locs hl hP hS)
  · exact va_gets hx hb hZ.2.2.1.1 hS hown (hts _ q_lk63) (fun _ h => h) hd (k hL ls H locs hl hP hS)
theorem q_cats (ad : Nat → Nat) (st : List QV) : ((st.map (q_v ad)).map fun v => v.category).sum = st.length := by
  induction st with
  | nil => rfl
  | cons x r ih =>
    simp only [List.map_cons, List.sum_cons, List.length_cons, q_v_cat]
    rw [ih]
    omega
theorem qs_max {p : Program} {l : Launch} {e : Env} {R : Room} {s : State} {m : MethodId} {args : Array Value} {below : List Frame} {meth : Method} {c0 : Code} {Qs : State → Prop} {ad : Nat → Nat} {ca : Nat → ClassId} {dC : Nat → ClassId} {dI : Nat → Nat → Nat} {cc : ByteArray} {own nL : Nat} (X : q_Cx p l R s m args c0 ad ca dC dI cc own nL) {pc : Nat} {L : QL} {st : List QV} {σ : QS} {i : Nat} {x y : Int32} (hd : decode cc pc = .ok (.invokestatic i, 3)) (hk : (own, i, 1001) ∈ q_ilk) (hr : st.length ≤ 8) (k : q_W p l e R s m args below meth c0 Qs ad ca dC dI nL (pc + 3) (L) (.inl (if x < y then y else x) :: st) σ) : q_W p l e R s m args below meth c0 Qs ad ca dC dI nL (pc) (L) (.inl y :: .inl x :: st) σ := by
  obtain ⟨hx, hb, hml, hown, hts, hK, hZ, hi, hf, hlo, hIx⟩ := X
  intro hL ls H locs hl hP hS
  exact va_mmax hx hb (hml.trans hl.1.symm) hown (hts _ (gw_of (q_ilk_in _ hk) rfl)) (hts _ q_wmx1) (hts _ q_wmx2) (hts _ q_wmx3) (by omega) (by rw [q_cats]; omega) (Nat.zero_le _) (Nat.zero_le _) hd (k hL ls H locs hl hP hS)
theorem qs_min {p : Program} {l : Launch} {e : Env} {R : Room} {s : State} {m : MethodId} {args : Array Value} {below : List Frame} {meth : Method} {c0 : Code} {Qs : State → Prop} {ad : Nat → Nat} {ca : Nat → ClassId} {dC : Nat → ClassId} {dI : Nat → Nat → Nat} {cc : ByteArray} {own nL : Nat} (X : q_Cx p l R s m args c0 ad ca dC dI cc own nL) {pc : Nat} {L : QL} {st : List QV} {σ : QS} {i : Nat} {x y : Int32} (hd : decode cc pc = .ok (.invokestatic i, 3)) (hk : (own, i, 1002) ∈ q_ilk) (hr : st.length ≤ 8) (k : q_W p l e R s m args below meth c0 Qs ad ca dC dI nL (pc + 3) (L) (.inl (if y < x then y else x) :: st) σ) : q_W p l e R s m args below meth c0 Qs ad ca dC dI nL (pc) (L) (.inl y :: .inl x :: st) σ := by
  obtain ⟨hx, hb, hml, hown, hts, hK, hZ, hi, hf, hlo, hIx⟩ := X
  intro hL ls H locs hl hP hS
  exact va_mmin hx hb (hml.trans hl.1.symm) hown (hts _ (gw_of (q_ilk_in _ hk) rfl)) (hts _ q_wmn1) (hts _ q_wmx2) (hts _ q_wmn3) (by omega) (by rw [q_cats]; omega) (Nat.zero_le _) (Nat.zero_le _) hd (k hL ls H locs hl hP hS)
set_option maxHeartbeats 2000000 in
theorem qs_cpy {p : Program} {l : Launch} {e : Env} {R : Room} {s : State} {m : MethodId} {args : Array Value} {below : List Frame} {meth : Method} {c0 : Code} {Qs : State → Prop} {ad : Nat → Nat} {ca : Nat → ClassId} {dC : Nat → ClassId} {dI : Nat → Nat → Nat} {cc : ByteArray} {own nL : Nat} (X : q_Cx p l R s m args c0 ad ca dC dI cc own nL) {pc : Nat} {L : QL} {st : List QV} {σ : QS} {i c1 c2 : Nat} {sp dp n : Int32} (hd : decode cc pc = .ok (.invokestatic i, 3)) (hk : (own, i, 1003) ∈ q_ilk) (ht : (q_lay c1).1 = (q_lay c2).1) (ht2 : (q_lay c1).1 < 2) (hr : st.length ≤ 8) (hO : (¬ sp < 0) ∧ (¬ dp < 0) ∧ (¬ n < 0) ∧ sp.toNatClampNeg + n.toNatClampNeg ≤ (q_lay c1).2.1 ∧ dp.toNatClampNeg + n.toNatClampNeg ≤ (q_lay c2).2.1 ∧ ((q_lay c1).1 = 1 → ∀ i, i < n.toNatClampNeg → fits .char (.int (σ c1 (sp.toNatClampNeg + i))) = true)) (k : q_W p l e R s m args below meth c0 Qs ad ca dC dI nL (pc + 3) (L) (st) (q_set σ c2 (va_cpy (σ c1) (σ c2) sp.toNatClampNeg dp.toNatClampNeg n.toNatClampNeg))) : q_W p l e R s m args below meth c0 Qs ad ca dC dI nL (pc) (L) (.inl n :: .inl dp :: .inr c2 :: .inl sp :: .inr c1 :: st) σ := by
  obtain ⟨hx, hb, hml, hown, hts, hK, hZ, hi, hf, hlo, hIx⟩ := X
  intro hL ls H locs hl hP hS
  have hc1 := q_lay_lt (c := c1) (by omega)
  have hc2 := q_lay_lt (c := c2) (by omega)
  have he1 := q_ws_at (ad := ad) (ca := ca) (σ := σ) hc1
  have he2 := q_ws_at (ad := ad) (ca := ca) (σ := σ) hc2
  obtain ⟨h1, h2, h3, h4, h5, h6⟩ := hO
  have kk : ∀ (H1 : Heap) (locs1 : List Loc) (t : Nat), (q_lay c2).1 = t → t < 2 → va_P (dC, dI) q_cl ((q_ws ad ca σ).set c2 (ad c2, .inl (ca t, (q_lay c2).2.1, .inl (va_cpy (σ c1) (σ c2) sp.toNatClampNeg dp.toNatClampNeg n.toNatClampNeg)))) H1 → va_S (q_A ad) s.heap H1 locs1 → W p l e R s m args below meth c0 H1 locs1 0 0 Qs (F0 m (pc + 3) ls (st.map (q_v ad))) := by
    intro H1 locs1 t ht1 ht2 hP1 hS1
    refine k hL ls H1 locs1 hl ?_ hS1
    rw [q_ws_set hc2, q_en_a ht1 (by omega)]
    exact hP1
  have hloc : ((st.map (q_v ad)).map fun v => v.category).sum + (nativeFrameWords "java/lang/System" "arraycopy" 5 + 11) ≤ R.locals := by
    rw [q_cats]
    have : nativeFrameWords "java/lang/System" "arraycopy" 5 = 7 := by decide +kernel
    omega
  rcases (show (q_lay c1).1 = 0 ∨ (q_lay c1).1 = 1 by omega) with h0 | h0
  · rw [q_en_a h0 (by omega)] at he1
    rw [q_en_a (ht.symm.trans h0) (by omega)] at he2
    exact va_copyi (D := (dC, dI)) (ty := .int) hx hb (hml.trans hl.1.symm) hown (hts _ (gw_of (q_ilk_in _ hk) rfl)) (hts _ q_wac1) (hts _ q_wac2) (hts _ q_wac3) hK hP (q_D hi) hS c1 c2 0 0 he1 he2 rfl rfl rfl h1 h2 h3 h4 h5 (fun _ _ => rfl) (by omega) hloc hd (fun H1 locs1 hP1 _ hS1 => kk H1 locs1 0 (ht.symm.trans h0) (by omega) hP1 hS1)
  · rw [q_en_a h0 (by omega)] at he1
    rw [q_en_a (ht.symm.trans h0) (by omega)] at he2
    exact va_copyi (D := (dC, dI)) (ty := .char) hx hb (hml.trans hl.1.symm) hown (hts _ (gw_of (q_ilk_in _ hk) rfl)) (hts _ q_wac1) (hts _ q_wac2) (hts _ q_wac3) hK hP (q_D hi) hS c1 c2 1 1 he1 he2 rfl rfl rfl h1 h2 h3 h4 h5 (h6 h0) (by omega) hloc hd (fun H1 locs1 hP1 _ hS1 => kk H1 locs1 1 (ht.symm.trans h0) (by omega) hP1 hS1)
