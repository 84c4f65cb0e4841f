/-! a LAW's steps, reckoned (class): a list is the pile -/
def jn (s x y : Int32) : Int32 := if s = 37 then x - x / y * y else if s = 42 then x * y else if s = 43 then x + y else if s = 45 then x - y else if s = 47 then x / y else if s = 60 then (if x < y then 1 else 0) else if s = 62 then (if y < x then 1 else 0) else (if x = y then 1 else 0)
def rkS (sg wt : Nat → Int32) (sz : Nat) (v : Nat → Int32) (to : Nat) (K : Nat → List Int32 → Option Int32) (i : Nat) (st : List Int32) : Option Int32 := if to ≤ i ∨ sz ≤ i then some (match st with
      | [x] => x
      | _ => 0)
    else if sg i = 48 then (if st.length < 32 then K (i + 1) (wt i :: st) else some 0)
    else if sg i = 107 then (if st.length < 32 then K (i + 1) (v (wt i).toNatClampNeg :: st) else some 0)
    else if sg i = 33 then (match st with
      | [] => some 0
      | x :: r => K (i + 1) ((if x = 0 then 1 else 0) :: r))
    else if sg i = 38 then (match st with
      | [] => some 0
      | x :: r => if x = 0 then K (max i (wt i).toNatClampNeg + 1) (x :: r) else K (i + 1) r)
    else if sg i = 124 then (match st with
      | [] => some 0
      | x :: r => if x = 0 then K (i + 1) r else K (max i (wt i).toNatClampNeg + 1) (x :: r))
    else (match st with
      | y :: x :: r => if (sg i = 47 ∨ sg i = 37) ∧ y = 0 then some 0 else K (i + 1) (jn (sg i) x y :: r)
      | _ => some 0)
def rk (sg wt : Nat → Int32) (sz : Nat) (v : Nat → Int32) (to : Nat) : Nat → Nat → List Int32 → Option Int32
  | 0, _, _ => none
  | f + 1, i, st => rkS sg wt sz v to (rk sg wt sz v to f) i st
/-- the pile holds the list -/
def rp (P : Nat → Int32) : List Int32 → Prop
  | [] => True
  | x :: r => P r.length = x ∧ rp P r
theorem rp_upd {P : Nat → Int32} {n : Nat} {x : Int32} : ∀ {st : List Int32}, st.length ≤ n → rp P st → rp (upd P n x) st
  | [], _, _ => trivial
  | y :: r, hl, h => ⟨by rw [upd_ne _ _ (by simp at hl; omega)]; exact h.1, rp_upd (by simp at hl; omega) h.2⟩
theorem rp_push {P : Nat → Int32} {st : List Int32} {x : Int32} (h : rp P st) : rp (upd P st.length x) (x :: st) := ⟨upd_eq _ _ _, rp_upd (Nat.le_refl _) h⟩
def VL (sg wt : Nat → Int32) (sz : Nat) : Prop := sz ≤ 200 ∧ ∀ i, i < sz → (sg i = 107 → ∃ j, j < 9 ∧ wt i = nI j) ∧ (sg i = 38 ∨ sg i = 124 → ∃ j, j < 200 ∧ wt i = nI j)
theorem jmp_eq {i j : Nat} {w : Int32} (hi : i ≤ 201) (hj : j < 200) (e : w = nI j) : (if nI i < w then w else nI i) + 1 = nI (max i w.toNatClampNeg + 1) := by
  rw [e, cl_nI (by omega)]
  by_cases h : i < j
  · rw [if_pos ((nI_ltI (by omega) (by omega)).mpr h), nI_p1, Nat.max_eq_right (by omega)]
  · rw [if_neg (fun z => h ((nI_ltI (by omega) (by omega)).mp z)), nI_p1, Nat.max_eq_left (by omega)]
theorem EV.joined {d : Nat} {σ : QS} {s x y : Int32} (h : ¬ ((s = 47 ∨ s = 37) ∧ y = 0)) : EV d 30 0 [some (.inl s), some (.inl x), some (.inl y)] [] σ (qis (jn s x y) σ) := by
  refine pL_joined_0 ?_
  simp only [show Int32.ofInt 37 = 37 from by decide, show Int32.ofInt 42 = 42 from by decide, show Int32.ofInt 43 = 43 from by decide, show Int32.ofInt 45 = 45 from by decide, show Int32.ofInt 47 = 47 from by decide, show Int32.ofInt 60 = 60 from by decide, show Int32.ofInt 62 = 62 from by decide]
  unfold jn
  refine ⟨fun q6 => ⟨fun q1 => ⟨q1, ?_⟩, fun q1 => ?_⟩, fun q6_0 => ⟨fun q6 => ?_, fun q6_1 => ⟨fun q6 => ?_, fun q6_2 => ⟨fun q6 => ?_, fun q6_3 => ⟨fun q6 => ⟨fun q2 => ⟨q2, ?_⟩, fun q2 => ?_⟩, fun q6_4 => ⟨fun q6 => ⟨fun q3 => ?_, fun q3 => ?_⟩, fun q6_5 => ⟨fun q6 => ⟨fun q4 => ?_, fun q4 => ?_⟩, fun q6_6 => ⟨fun q5 => ?_, fun q5 => ?_⟩⟩⟩⟩⟩⟩⟩⟩
  · rw [if_pos q6]; exact ⟨rfl, rfl⟩
  · exact absurd ⟨Or.inr q6, q1⟩ h
  · rw [if_neg q6_0, if_pos q6]; exact ⟨rfl, rfl⟩
  · rw [if_neg q6_0, if_neg q6_1, if_pos q6]; exact ⟨rfl, rfl⟩
  · rw [if_neg q6_0, if_neg q6_1, if_neg q6_2, if_pos q6]; exact ⟨rfl, rfl⟩
  · rw [if_neg q6_0, if_neg q6_1, if_neg q6_2, if_neg q6_3, if_pos q6]; exact ⟨rfl, rfl⟩
  · exact absurd ⟨Or.inl q6, q2⟩ h
  · rw [if_neg q6_0, if_neg q6_1, if_neg q6_2, if_neg q6_3, if_neg q6_4, if_pos q6, if_neg ((i_nlt _ _).mp q3)]; exact ⟨rfl, rfl⟩
  · rw [if_neg q6_0, if_neg q6_1, if_neg q6_2, if_neg q6_3, if_neg q6_4, if_pos q6, if_pos (by rcases Classical.em (x < y) with z | z; exact z; exact absurd ((i_nlt _ _).mpr z) q3)]; exact ⟨rfl, rfl⟩
  · rw [if_neg q6_0, if_neg q6_1, if_neg q6_2, if_neg q6_3, if_neg q6_4, if_neg q6_5, if_pos q6, if_neg ((i_nlt _ _).mp q4)]; exact ⟨rfl, rfl⟩
  · rw [if_neg q6_0, if_neg q6_1, if_neg q6_2, if_neg q6_3, if_neg q6_4, if_neg q6_5, if_pos q6, if_pos (by rcases Classical.em (y < x) with z | z; exact z; exact absurd ((i_nlt _ _).mpr z) q4)]; exact ⟨rfl, rfl⟩
  · rw [if_neg q6_0, if_neg q6_1, if_neg q6_2, if_neg q6_3, if_neg q6_4, if_neg q6_5, if_neg q6_6, if_neg q5]; exact ⟨rfl, rfl⟩
  · rw [if_neg q6_0, if_neg q6_1, if_neg q6_2, if_neg q6_3, if_neg q6_4, if_neg q6_5, if_neg q6_6, if_pos q5]; exact ⟨rfl, rfl⟩
set_option maxHeartbeats 4000000 in
theorem EV.reck0 {d : Nat} {σ : QS} {sz to : Nat} {a : Int32} (hsz : σ 13 1 = nI sz) (hV : VL (σ 14) (σ 15) sz) (hto : to ≤ 200) : ∀ f i st res P w6 w7, st.length ≤ 32 → i ≤ 201 → rk (σ 14) (σ 15) sz (σ 46) to f i st = some res → rp P st → EV (d + 1) 28 1 [some (.inr 13), some (.inl a), some (.inl (nI to)), some (.inr 46), some (.inl (nI st.length)), some (.inl (nI i)), w6, w7] [] (q_set σ 21 P) (qI (fun x s => x = res ∧ ∃ P', s = q_set σ 21 P')) := by
  intro f
  induction f with
  | zero => intro i st res P w6 w7 _ _ h; cases h
  | succ f ih =>
    intro i st res P w6 w7 hl hi h hp
    have hsz2 := hV.1
    have sL : (q_set σ 21 P) 13 = σ 13 := q_set_ne _ _ (by decide)
    have sS : (q_set σ 21 P) 14 = σ 14 := q_set_ne _ _ (by decide)
    have sW : (q_set σ 21 P) 15 = σ 15 := q_set_ne _ _ (by decide)
    have s46 : (q_set σ 21 P) 46 = σ 46 := q_set_ne _ _ (by decide)
    have sP : (q_set σ 21 P) 21 = P := q_set_eq _ _ _
    have ci : (nI i).toNatClampNeg = i := cl_nI (by omega)
    have cl0 : (nI st.length).toNatClampNeg = st.length := cl_nI (by omega)
    have le1 : (nI to ≤ nI i) = (to ≤ i) := nI_leP (by omega) (by omega)
    have le2 : (nI sz ≤ nI i) = (sz ≤ i) := nI_leP (by omega) (by omega)
    have l32 : (nI st.length < (32 : Int32)) = (st.length < 32) := nI_ltP (b := 32) (by omega) (by decide)
    have z0 : (0 : Int32).toNatClampNeg = 0 := rfl
    unfold rk at h
    unfold rkS at h
    by_cases hend : to ≤ i ∨ sz ≤ i
    · rw [if_pos hend] at h
      have fin : (¬ nI st.length = 1 → qI (fun x s => x = res ∧ ∃ P', s = q_set σ 21 P') (some 0) (q_set σ 21 P)) ∧ (nI st.length = 1 → (vp_in 0 32) ∧ (qI (fun x s => x = res ∧ ∃ P', s = q_set σ 21 P') (some (P 0)) (q_set σ 21 P))) := by
        have e1 : (nI st.length = (1 : Int32)) = (st.length = 1) := nI_eqP (b := 1) (by omega) (by decide)
        rw [e1]
        refine ⟨fun q => ⟨0, rfl, ?_, P, rfl⟩, fun q => ⟨vp_in_nI (n := 0) (by decide) (by decide), ⟨P 0, rfl, ?_, P, rfl⟩⟩⟩
        · match st, h, q with
          | [], h, _ => exact Option.some.inj h
          | [x], _, q => exact absurd rfl q
          | x :: y :: r, h, _ => exact Option.some.inj h
        · match st, h, q, hp with
          | [x], h, _, hp => rw [← Option.some.inj h]; exact hp.1
      refine pL0_reckon_1 ?_
      simp only [sL, sP, hsz, le1, le2, z0]
      refine ⟨fun _ => fin, fun q => ⟨fun _ => fin, fun q2 => ?_⟩⟩
      exact absurd hend (fun z => z.elim q q2)
    · rw [if_neg hend] at h
      have n1 : ¬ to ≤ i := fun z => hend (Or.inl z)
      have n2 : ¬ sz ≤ i := fun z => hend (Or.inr z)
      obtain ⟨v1, v2⟩ := hV.2 i (by omega)
      have ii : vp_in (nI i) 200 := vp_in_nI (by omega) (by decide)
      have bad : res = 0 → qI (fun x s => x = res ∧ ∃ P', s = q_set σ 21 P') (some 0) (q_set σ 21 P) := fun e => ⟨0, rfl, e.symm, P, rfl⟩
      refine pL0_reckon_1 ⟨fun q => ?_, fun _ => ⟨fun q => ?_, fun _ => ?_⟩⟩
      · rw [le1] at q; exact absurd q n1
      · rw [sL, hsz, le2] at q; exact absurd q n2
      simp only [sS, sW, s46, sP, ci, nI_p1, q_set_same]
      by_cases h48 : σ 14 i = 48
      · rw [if_pos h48] at h
        by_cases hlen : st.length < 32
        · rw [if_pos hlen] at h
          refine ⟨ii, fun _ => ⟨fun _ => ⟨fun q => absurd h48 q, fun _ => ⟨ii, vp_in_nI hlen (by decide), ?_⟩⟩, fun q => ?_⟩, fun q => absurd h48 q⟩
          · rw [cl0]
            exact ih (i + 1) _ res _ _ _ (by simp; omega) (by omega) h (rp_push hp)
          · rw [l32] at q; exact absurd hlen q
        · rw [if_neg hlen] at h
          refine ⟨ii, fun _ => ⟨fun q => ?_, fun _ => bad (Option.some.inj h).symm⟩, fun q => absurd h48 q⟩
          rw [l32] at q; exact absurd q hlen
      rw [if_neg h48] at h
      by_cases h107 : σ 14 i = 107
      · rw [if_pos h107] at h
        obtain ⟨j, hj, ej⟩ := v1 h107
        have iw : vp_in (σ 15 i) 9 := by rw [ej]; exact vp_in_nI hj (by decide)
        by_cases hlen : st.length < 32
        · rw [if_pos hlen] at h
          refine ⟨ii, fun q => absurd q h48, fun _ => ⟨fun q => absurd h107 q, fun _ => ⟨fun _ => ⟨fun _ => ⟨ii, iw, vp_in_nI hlen (by decide), ?_⟩, fun q => absurd q h48⟩, fun q => ?_⟩⟩⟩
          · rw [cl0]
            exact ih (i + 1) _ res _ _ _ (by simp; omega) (by omega) h (rp_push hp)
          · rw [l32] at q; exact absurd hlen q
        · rw [if_neg hlen] at h
          refine ⟨ii, fun q => absurd q h48, fun _ => ⟨fun q => absurd h107 q, fun _ => ⟨fun q => ?_, fun _ => bad (Option.some.inj h).symm⟩⟩⟩
          rw [l32] at q; exact absurd q hlen
      rw [if_neg h107] at h
      refine ⟨ii, fun q => absurd q h48, fun _ => ⟨fun _ => ?_, fun q => absurd q h107⟩⟩
      by_cases h33 : σ 14 i = 33
      · rw [if_pos h33] at h
        refine ⟨fun _ => ?_, fun q => absurd h33 q⟩
        match st, h, hp, hl with
        | [], h, hp, hl => exact ⟨fun z => absurd z (by decide), fun _ => bad (Option.some.inj h).symm⟩
        | x :: r, h, hp, hl =>
          dsimp only at h
          have lr : r.length < 32 := by simp at hl; omega
          have it : vp_in (nI r.length) 32 := vp_in_nI lr (by decide)
          have one : (1 : Int32) ≤ nI (x :: r).length := nI_le' (a := 1) (by simp) (by simp; omega)
          have e1 : nI (x :: r).length - 1 = nI r.length := pk_sub (a := r.length + 1) (b := 1) (by omega)
          have em : nI (x :: r).length + (-1) = nI r.length := pk_m1 r.length
          have cr : (nI r.length).toNatClampNeg = r.length := cl_nI (by omega)
          have hx : P r.length = x := hp.1
          simp only [e1, em, cr, hx]
          have kset : ∀ b, (if x = 0 then (1 : Int32) else 0) = b → ∀ w7, EV (d + 1) 28 1 [some (.inr 13), some (.inl a), some (.inl (nI to)), some (.inr 46), some (.inl (nI (x :: r).length)), some (.inl (nI (i + 1))), some (.inl (σ 14 i)), w7] [] (q_set σ 21 (upd P r.length b)) (qI (fun x s => x = res ∧ ∃ P', s = q_set σ 21 P')) := by
            intro b hb w7
            rw [hb] at h
            exact ih (i + 1) (b :: r) res _ _ _ (by simp; omega) (by omega) h (rp_push hp.2)
          refine ⟨fun _ => ⟨it, ⟨fun x0 => ⟨fun z => absurd h33 z, fun _ => ⟨it, kset 1 (if_pos x0) _⟩⟩, fun x0 => ⟨fun z => absurd h33 z, fun _ => ⟨it, kset 0 (if_neg x0) _⟩⟩⟩⟩, fun z => absurd one z⟩
      rw [if_neg h33] at h
      refine ⟨fun q => absurd q h33, fun _ => ?_⟩
      by_cases h38 : σ 14 i = 38
      · rw [if_pos h38] at h
        obtain ⟨j, hj, ej⟩ := v2 (Or.inl h38)
        have n124 : ¬ σ 14 i = 124 := by rw [h38]; decide
        have ejmp : (if nI i < σ 15 i then σ 15 i else nI i) + 1 = nI (max i (σ 15 i).toNatClampNeg + 1) := jmp_eq (by omega) hj ej
        have jb : max i (σ 15 i).toNatClampNeg + 1 ≤ 201 := by rw [ej, cl_nI (by omega)]; omega
        refine ⟨fun _ => ?_, fun q => absurd h38 q⟩
        match st, h, hp, hl with
        | [], h, hp, hl => exact ⟨fun z => absurd z (by decide), fun _ => bad (Option.some.inj h).symm⟩
        | x :: r, h, hp, hl =>
          dsimp only at h
          have lr : r.length < 32 := by simp at hl; omega
          have it : vp_in (nI r.length) 32 := vp_in_nI lr (by decide)
          have one : (1 : Int32) ≤ nI (x :: r).length := nI_le' (a := 1) (by simp) (by simp; omega)
          have e1 : nI (x :: r).length - 1 = nI r.length := pk_sub (a := r.length + 1) (b := 1) (by omega)
          have em : nI (x :: r).length + (-1) = nI r.length := pk_m1 r.length
          have cr : (nI r.length).toNatClampNeg = r.length := cl_nI (by omega)
          have hx : P r.length = x := hp.1
          simp only [e1, em, cr, hx]
          refine ⟨fun _ => ⟨it, ⟨fun x0 => ⟨fun _ => ⟨fun _ => ⟨ii, ?_⟩, fun z => absurd z n124⟩, fun z => absurd z h33⟩, fun x0 => ⟨fun _ => ⟨fun _ => ?_, fun z => absurd z n124⟩, fun z => absurd z h33⟩⟩⟩, fun z => absurd one z⟩
          · rw [ejmp]
            rw [if_pos x0] at h
            exact ih _ (x :: r) res _ _ _ hl jb h hp
          · rw [if_neg x0] at h
            exact ih _ r res _ _ _ (by omega) (by omega) h hp.2
      rw [if_neg h38] at h
      refine ⟨fun q => absurd q h38, fun _ => ?_⟩
      by_cases h124 : σ 14 i = 124
      · rw [if_pos h124] at h
        obtain ⟨j, hj, ej⟩ := v2 (Or.inr h124)
        have ejmp : (if nI i < σ 15 i then σ 15 i else nI i) + 1 = nI (max i (σ 15 i).toNatClampNeg + 1) := jmp_eq (by omega) hj ej
        have jb : max i (σ 15 i).toNatClampNeg + 1 ≤ 201 := by rw [ej, cl_nI (by omega)]; omega
        refine ⟨fun q => absurd h124 q, fun _ => ?_⟩
        match st, h, hp, hl with
        | [], h, hp, hl => exact ⟨fun z => absurd z (by decide), fun _ => bad (Option.some.inj h).symm⟩
        | x :: r, h, hp, hl =>
          dsimp only at h
          have lr : r.length < 32 := by simp at hl; omega
          have it : vp_in (nI r.length) 32 := vp_in_nI lr (by decide)
          have one : (1 : Int32) ≤ nI (x :: r).length := nI_le' (a := 1) (by simp) (by simp; omega)
          have e1 : nI (x :: r).length - 1 = nI r.length := pk_sub (a := r.length + 1) (b := 1) (by omega)
          have em : nI (x :: r).length + (-1) = nI r.length := pk_m1 r.length
          have cr : (nI r.length).toNatClampNeg = r.length := cl_nI (by omega)
          have hx : P r.length = x := hp.1
          simp only [e1, em, cr, hx]
          refine ⟨fun _ => ⟨it, ⟨fun x0 => ⟨fun _ => ⟨fun z => absurd h124 z, fun _ => ?_⟩, fun z => absurd z h33⟩, fun x0 => ⟨fun _ => ⟨fun z => absurd h124 z, fun _ => ⟨ii, ?_⟩⟩, fun z => absurd z h33⟩⟩⟩, fun z => absurd one z⟩
          · rw [if_pos x0] at h
            exact ih _ r res _ _ _ (by omega) (by omega) h hp.2
          · rw [ejmp]
            rw [if_neg x0] at h
            exact ih _ (x :: r) res _ _ _ hl jb h hp
      rw [if_neg h124] at h
      refine ⟨fun _ => ?_, fun q => absurd q h124⟩
      match st, h, hp, hl with
      | [], h, hp, hl => exact ⟨fun _ => bad (Option.some.inj h).symm, fun z => absurd (by decide) z⟩
      | [x], h, hp, hl => exact ⟨fun _ => bad (Option.some.inj h).symm, fun z => absurd (by decide : nI 1 < 2) z⟩
      | y :: x :: r, h, hp, hl =>
        dsimp only at h
        have lr : r.length + 1 < 32 := by simp at hl; omega
        have it : vp_in (nI (r.length + 1)) 32 := vp_in_nI lr (by decide)
        have it2 : vp_in (nI r.length) 32 := vp_in_nI (by omega) (by decide)
        have two : ¬ nI (y :: x :: r).length < 2 := fun z => by
          have := (nI_ltI (a := r.length + 2) (b := 2) (by omega) (by decide)).mp z
          omega
        have e1 : nI (y :: x :: r).length - 1 = nI (r.length + 1) := pk_sub (a := r.length + 2) (b := 1) (by omega)
        have em : nI (y :: x :: r).length + (-1) = nI (r.length + 1) := pk_m1 (r.length + 1)
        have e2 : nI (r.length + 1) - 1 = nI r.length := pk_sub (a := r.length + 1) (b := 1) (by omega)
        have cr : (nI r.length).toNatClampNeg = r.length := cl_nI (by omega)
        have cr1 : (nI (r.length + 1)).toNatClampNeg = r.length + 1 := cl_nI (by omega)
        have hy : P (r.length + 1) = y := hp.1
        have hx : P r.length = x := hp.2.1
        simp only [e1, em, e2, cr, cr1, hx, hy]
        have go : ¬ ((σ 14 i = 47 ∨ σ 14 i = 37) ∧ y = 0) → ∀ w7, ∃ R : Int32 → QS → Prop, EV d 30 0 [some (.inl (σ 14 i)), some (.inl x), some (.inl y)] [] (q_set σ 21 P) (qI R) ∧ ∀ v s, R v s → (vp_in (nI r.length) 32) ∧ (EV (d + 1) 28 1 [some (.inr 13), some (.inl a), some (.inl (nI to)), some (.inr 46), some (.inl (nI (r.length + 1))), some (.inl (nI (i + 1))), some (.inl (σ 14 i)), w7] [] (q_set s 21 (upd (s 21) r.length v)) (qI (fun x s => x = res ∧ ∃ P', s = q_set σ 21 P'))) := by
          intro hne w7
          rw [if_neg hne] at h
          refine ex_I (EV.joined hne) ⟨it2, ?_⟩
          rw [q_set_same, q_set_eq]
          exact ih (i + 1) (jn (σ 14 i) x y :: r) res _ _ _ (by simp; omega) (by omega) h (rp_push hp.2.2)
        refine ⟨fun z => absurd z two, fun _ => ⟨fun h47 => ⟨it, ⟨fun y0 => ⟨it2, it, go (fun z => y0 z.2) _⟩, fun y0 => ?_⟩⟩, fun h47 => ⟨fun h37 => ⟨it2, it, go (fun z => z.1.elim h47 h37) _⟩, fun h37 => ⟨it, ⟨fun y0 => ⟨it2, it, go (fun z => y0 z.2) _⟩, fun y0 => ?_⟩⟩⟩⟩⟩
        · rw [if_pos ⟨Or.inl h47, y0⟩] at h
          exact bad (Option.some.inj h).symm
        · rw [if_pos ⟨Or.inr h37, y0⟩] at h
          exact bad (Option.some.inj h).symm
set_option maxHeartbeats 4000000 in
theorem EV.reck1 {d : Nat} {σ : QS} {sz to : Nat} {a : Int32} (hsz : σ 22 1 = nI sz) (hV : VL (σ 23) (σ 24) sz) (hto : to ≤ 200) : ∀ f i st res P w6 w7, st.length ≤ 32 → i ≤ 201 → rk (σ 23) (σ 24) sz (σ 46) to f i st = some res → rp P st → EV (d + 1) 28 1 [some (.inr 22), some (.inl a), some (.inl (nI to)), some (.inr 46), some (.inl (nI st.length)), some (.inl (nI i)), w6, w7] [] (q_set σ 30 P) (qI (fun x s => x = res ∧ ∃ P', s = q_set σ 30 P')) := by
  intro f
  induction f with
  | zero => intro i st res P w6 w7 _ _ h; cases h
  | succ f ih =>
    intro i st res P w6 w7 hl hi h hp
    have hsz2 := hV.1
    have sL : (q_set σ 30 P) 22 = σ 22 := q_set_ne _ _ (by decide)
    have sS : (q_set σ 30 P) 23 = σ 23 := q_set_ne _ _ (by decide)
    have sW : (q_set σ 30 P) 24 = σ 24 := q_set_ne _ _ (by decide)
    have s46 : (q_set σ 30 P) 46 = σ 46 := q_set_ne _ _ (by decide)
    have sP : (q_set σ 30 P) 30 = P := q_set_eq _ _ _
    have ci : (nI i).toNatClampNeg = i := cl_nI (by omega)
    have cl0 : (nI st.length).toNatClampNeg = st.length := cl_nI (by omega)
    have le1 : (nI to ≤ nI i) = (to ≤ i) := nI_leP (by omega) (by omega)
    have le2 : (nI sz ≤ nI i) = (sz ≤ i) := nI_leP (by omega) (by omega)
    have l32 : (nI st.length < (32 : Int32)) = (st.length < 32) := nI_ltP (b := 32) (by omega) (by decide)
    have z0 : (0 : Int32).toNatClampNeg = 0 := rfl
    unfold rk at h
    unfold rkS at h
    by_cases hend : to ≤ i ∨ sz ≤ i
    · rw [if_pos hend] at h
      have fin : (¬ nI st.length = 1 → qI (fun x s => x = res ∧ ∃ P', s = q_set σ 30 P') (some 0) (q_set σ 30 P)) ∧ (nI st.length = 1 → (vp_in 0 32) ∧ (qI (fun x s => x = res ∧ ∃ P', s = q_set σ 30 P') (some (P 0)) (q_set σ 30 P))) := by
        have e1 : (nI st.length = (1 : Int32)) = (st.length = 1) := nI_eqP (b := 1) (by omega) (by decide)
        rw [e1]
        refine ⟨fun q => ⟨0, rfl, ?_, P, rfl⟩, fun q => ⟨vp_in_nI (n := 0) (by decide) (by decide), ⟨P 0, rfl, ?_, P, rfl⟩⟩⟩
        · match st, h, q with
          | [], h, _ => exact Option.some.inj h
          | [x], _, q => exact absurd rfl q
          | x :: y :: r, h, _ => exact Option.some.inj h
        · match st, h, q, hp with
          | [x], h, _, hp => rw [← Option.some.inj h]; exact hp.1
      refine pL1_reckon_1 ?_
      simp only [sL, sP, hsz, le1, le2, z0]
      refine ⟨fun _ => fin, fun q => ⟨fun _ => fin, fun q2 => ?_⟩⟩
      exact absurd hend (fun z => z.elim q q2)
    · rw [if_neg hend] at h
      have n1 : ¬ to ≤ i := fun z => hend (Or.inl z)
      have n2 : ¬ sz ≤ i := fun z => hend (Or.inr z)
      obtain ⟨v1, v2⟩ := hV.2 i (by omega)
      have ii : vp_in (nI i) 200 := vp_in_nI (by omega) (by decide)
      have bad : res = 0 → qI (fun x s => x = res ∧ ∃ P', s = q_set σ 30 P') (some 0) (q_set σ 30 P) := fun e => ⟨0, rfl, e.symm, P, rfl⟩
      refine pL1_reckon_1 ⟨fun q => ?_, fun _ => ⟨fun q => ?_, fun _ => ?_⟩⟩
      · rw [le1] at q; exact absurd q n1
      · rw [sL, hsz, le2] at q; exact absurd q n2
      simp only [sS, sW, s46, sP, ci, nI_p1, q_set_same]
      by_cases h48 : σ 23 i = 48
      · rw [if_pos h48] at h
        by_cases hlen : st.length < 32
        · rw [if_pos hlen] at h
          refine ⟨ii, fun _ => ⟨fun _ => ⟨fun q => absurd h48 q, fun _ => ⟨ii, vp_in_nI hlen (by decide), ?_⟩⟩, fun q => ?_⟩, fun q => absurd h48 q⟩
          · rw [cl0]
            exact ih (i + 1) _ res _ _ _ (by simp; omega) (by omega) h (rp_push hp)
          · rw [l32] at q; exact absurd hlen q
        · rw [if_neg hlen] at h
          refine ⟨ii, fun _ => ⟨fun q => ?_, fun _ => bad (Option.some.inj h).symm⟩, fun q => absurd h48 q⟩
          rw [l32] at q; exact absurd q hlen
      rw [if_neg h48] at h
      by_cases h107 : σ 23 i = 107
      · rw [if_pos h107] at h
        obtain ⟨j, hj, ej⟩ := v1 h107
        have iw : vp_in (σ 24 i) 9 := by rw [ej]; exact vp_in_nI hj (by decide)
        by_cases hlen : st.length < 32
        · rw [if_pos hlen] at h
          refine ⟨ii, fun q => absurd q h48, fun _ => ⟨fun q => absurd h107 q, fun _ => ⟨fun _ => ⟨fun _ => ⟨ii, iw, vp_in_nI hlen (by decide), ?_⟩, fun q => absurd q h48⟩, fun q => ?_⟩⟩⟩
          · rw [cl0]
            exact ih (i + 1) _ res _ _ _ (by simp; omega) (by omega) h (rp_push hp)
          · rw [l32] at q; exact absurd hlen q
        · rw [if_neg hlen] at h
          refine ⟨ii, fun q => absurd q h48, fun _ => ⟨fun q => absurd h107 q, fun _ => ⟨fun q => ?_, fun _ => bad (Option.some.inj h).symm⟩⟩⟩
          rw [l32] at q; exact absurd q hlen
      rw [if_neg h107] at h
      refine ⟨ii, fun q => absurd q h48, fun _ => ⟨fun _ => ?_, fun q => absurd q h107⟩⟩
      by_cases h33 : σ 23 i = 33
      · rw [if_pos h33] at h
        refine ⟨fun _ => ?_, fun q => absurd h33 q⟩
        match st, h, hp, hl with
        | [], h, hp, hl => exact ⟨fun z => absurd z (by decide), fun _ => bad (Option.some.inj h).symm⟩
        | x :: r, h, hp, hl =>
          dsimp only at h
          have lr : r.length < 32 := by simp at hl; omega
          have it : vp_in (nI r.length) 32 := vp_in_nI lr (by decide)
          have one : (1 : Int32) ≤ nI (x :: r).length := nI_le' (a := 1) (by simp) (by simp; omega)
          have e1 : nI (x :: r).length - 1 = nI r.length := pk_sub (a := r.length + 1) (b := 1) (by omega)
          have em : nI (x :: r).length + (-1) = nI r.length := pk_m1 r.length
          have cr : (nI r.length).toNatClampNeg = r.length := cl_nI (by omega)
          have hx : P r.length = x := hp.1
          simp only [e1, em, cr, hx]
          have kset : ∀ b, (if x = 0 then (1 : Int32) else 0) = b → ∀ w7, EV (d + 1) 28 1 [some (.inr 22), some (.inl a), some (.inl (nI to)), some (.inr 46), some (.inl (nI (x :: r).length)), some (.inl (nI (i + 1))), some (.inl (σ 23 i)), w7] [] (q_set σ 30 (upd P r.length b)) (qI (fun x s => x = res ∧ ∃ P', s = q_set σ 30 P')) := by
            intro b hb w7
            rw [hb] at h
            exact ih (i + 1) (b :: r) res _ _ _ (by simp; omega) (by omega) h (rp_push hp.2)
          refine ⟨fun _ => ⟨it, ⟨fun x0 => ⟨fun z => absurd h33 z, fun _ => ⟨it, kset 1 (if_pos x0) _⟩⟩, fun x0 => ⟨fun z => absurd h33 z, fun _ => ⟨it, kset 0 (if_neg x0) _⟩⟩⟩⟩, fun z => absurd one z⟩
      rw [if_neg h33] at h
      refine ⟨fun q => absurd q h33, fun _ => ?_⟩
      by_cases h38 : σ 23 i = 38
      · rw [if_pos h38] at h
        obtain ⟨j, hj, ej⟩ := v2 (Or.inl h38)
        have n124 : ¬ σ 23 i = 124 := by rw [h38]; decide
        have ejmp : (if nI i < σ 24 i then σ 24 i else nI i) + 1 = nI (max i (σ 24 i).toNatClampNeg + 1) := jmp_eq (by omega) hj ej
        have jb : max i (σ 24 i).toNatClampNeg + 1 ≤ 201 := by rw [ej, cl_nI (by omega)]; omega
        refine ⟨fun _ => ?_, fun q => absurd h38 q⟩
        match st, h, hp, hl with
        | [], h, hp, hl => exact ⟨fun z => absurd z (by decide), fun _ => bad (Option.some.inj h).symm⟩
        | x :: r, h, hp, hl =>
          dsimp only at h
          have lr : r.length < 32 := by simp at hl; omega
          have it : vp_in (nI r.length) 32 := vp_in_nI lr (by decide)
          have one : (1 : Int32) ≤ nI (x :: r).length := nI_le' (a := 1) (by simp) (by simp; omega)
          have e1 : nI (x :: r).length - 1 = nI r.length := pk_sub (a := r.length + 1) (b := 1) (by omega)
          have em : nI (x :: r).length + (-1) = nI r.length := pk_m1 r.length
          have cr : (nI r.length).toNatClampNeg = r.length := cl_nI (by omega)
          have hx : P r.length = x := hp.1
          simp only [e1, em, cr, hx]
          refine ⟨fun _ => ⟨it, ⟨fun x0 => ⟨fun _ => ⟨fun _ => ⟨ii, ?_⟩, fun z => absurd z n124⟩, fun z => absurd z h33⟩, fun x0 => ⟨fun _ => ⟨fun _ => ?_, fun z => absurd z n124⟩, fun z => absurd z h33⟩⟩⟩, fun z => absurd one z⟩
          · rw [ejmp]
            rw [if_pos x0] at h
            exact ih _ (x :: r) res _ _ _ hl jb h hp
          · rw [if_neg x0] at h
            exact ih _ r res _ _ _ (by omega) (by omega) h hp.2
      rw [if_neg h38] at h
      refine ⟨fun q => absurd q h38, fun _ => ?_⟩
      by_cases h124 : σ 23 i = 124
      · rw [if_pos h124] at h
        obtain ⟨j, hj, ej⟩ := v2 (Or.inr h124)
        have ejmp : (if nI i < σ 24 i then σ 24 i else nI i) + 1 = nI (max i (σ 24 i).toNatClampNeg + 1) := jmp_eq (by omega) hj ej
        have jb : max i (σ 24 i).toNatClampNeg + 1 ≤ 201 := by rw [ej, cl_nI (by omega)]; omega
        refine ⟨fun q => absurd h124 q, fun _ => ?_⟩
        match st, h, hp, hl with
        | [], h, hp, hl => exact ⟨fun z => absurd z (by decide), fun _ => bad (Option.some.inj h).symm⟩
        | x :: r, h, hp, hl =>
          dsimp only at h
          have lr : r.length < 32 := by simp at hl; omega
          have it : vp_in (nI r.length) 32 := vp_in_nI lr (by decide)
          have one : (1 : Int32) ≤ nI (x :: r).length := nI_le' (a := 1) (by simp) (by simp; omega)
          have e1 : nI (x :: r).length - 1 = nI r.length := pk_sub (a := r.length + 1) (b := 1) (by omega)
          have em : nI (x :: r).length + (-1) = nI r.length := pk_m1 r.length
          have cr : (nI r.length).toNatClampNeg = r.length := cl_nI (by omega)
          have hx : P r.length = x := hp.1
          simp only [e1, em, cr, hx]
          refine ⟨fun _ => ⟨it, ⟨fun x0 => ⟨fun _ => ⟨fun z => absurd h124 z, fun _ => ?_⟩, fun z => absurd z h33⟩, fun x0 => ⟨fun _ => ⟨fun z => absurd h124 z, fun _ => ⟨ii, ?_⟩⟩, fun z => absurd z h33⟩⟩⟩, fun z => absurd one z⟩
          · rw [if_pos x0] at h
            exact ih _ r res _ _ _ (by omega) (by omega) h hp.2
          · rw [ejmp]
            rw [if_neg x0] at h
            exact ih _ (x :: r) res _ _ _ hl jb h hp
      rw [if_neg h124] at h
      refine ⟨fun _ => ?_, fun q => absurd q h124⟩
      match st, h, hp, hl with
      | [], h, hp, hl => exact ⟨fun _ => bad (Option.some.inj h).symm, fun z => absurd (by decide) z⟩
      | [x], h, hp, hl => exact ⟨fun _ => bad (Option.some.inj h).symm, fun z => absurd (by decide : nI 1 < 2) z⟩
      | y :: x :: r, h, hp, hl =>
        dsimp only at h
        have lr : r.length + 1 < 32 := by simp at hl; omega
        have it : vp_in (nI (r.length + 1)) 32 := vp_in_nI lr (by decide)
        have it2 : vp_in (nI r.length) 32 := vp_in_nI (by omega) (by decide)
        have two : ¬ nI (y :: x :: r).length < 2 := fun z => by
          have := (nI_ltI (a := r.length + 2) (b := 2) (by omega) (by decide)).mp z
          omega
        have e1 : nI (y :: x :: r).length - 1 = nI (r.length + 1) := pk_sub (a := r.length + 2) (b := 1) (by omega)
        have em : nI (y :: x :: r).length + (-1) = nI (r.length + 1) := pk_m1 (r.length + 1)
        have e2 : nI (r.length + 1) - 1 = nI r.length := pk_sub (a := r.length + 1) (b := 1) (by omega)
        have cr : (nI r.length).toNatClampNeg = r.length := cl_nI (by omega)
        have cr1 : (nI (r.length + 1)).toNatClampNeg = r.length + 1 := cl_nI (by omega)
        have hy : P (r.length + 1) = y := hp.1
        have hx : P r.length = x := hp.2.1
        simp only [e1, em, e2, cr, cr1, hx, hy]
        have go : ¬ ((σ 23 i = 47 ∨ σ 23 i = 37) ∧ y = 0) → ∀ w7, ∃ R : Int32 → QS → Prop, EV d 30 0 [some (.inl (σ 23 i)), some (.inl x), some (.inl y)] [] (q_set σ 30 P) (qI R) ∧ ∀ v s, R v s → (vp_in (nI r.length) 32) ∧ (EV (d + 1) 28 1 [some (.inr 22), some (.inl a), some (.inl (nI to)), some (.inr 46), some (.inl (nI (r.length + 1))), some (.inl (nI (i + 1))), some (.inl (σ 23 i)), w7] [] (q_set s 30 (upd (s 30) r.length v)) (qI (fun x s => x = res ∧ ∃ P', s = q_set σ 30 P'))) := by
          intro hne w7
          rw [if_neg hne] at h
          refine ex_I (EV.joined hne) ⟨it2, ?_⟩
          rw [q_set_same, q_set_eq]
          exact ih (i + 1) (jn (σ 23 i) x y :: r) res _ _ _ (by simp; omega) (by omega) h (rp_push hp.2.2)
        refine ⟨fun z => absurd z two, fun _ => ⟨fun h47 => ⟨it, ⟨fun y0 => ⟨it2, it, go (fun z => y0 z.2) _⟩, fun y0 => ?_⟩⟩, fun h47 => ⟨fun h37 => ⟨it2, it, go (fun z => z.1.elim h47 h37) _⟩, fun h37 => ⟨it, ⟨fun y0 => ⟨it2, it, go (fun z => y0 z.2) _⟩, fun y0 => ?_⟩⟩⟩⟩⟩
        · rw [if_pos ⟨Or.inl h47, y0⟩] at h
          exact bad (Option.some.inj h).symm
        · rw [if_pos ⟨Or.inr h37, y0⟩] at h
          exact bad (Option.some.inj h).symm
