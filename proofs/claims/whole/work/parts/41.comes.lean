/-! the reference's steps -/
def sgn (o : Nat) : Int32 := if o = 2 then 43 else if o = 3 then 45 else if o = 4 then 42 else if o = 5 then 47 else if o = 6 then 37 else if o = 7 then 60 else if o = 8 then 62 else 61
def rmS (op ar : Nat → Nat) (base : Nat) (v : Nat → Int32) (to : Nat) (K : Nat → List Int32 → Option Int32) (k : Nat) (st : List Int32) : Option Int32 := if to ≤ k then (match st with
      | [x] => some x
      | _ => none)
    else if op k = 0 then (if st.length < 220 then K (k + 1) (nI (ar k) :: st) else none)
    else if op k = 1 then (if st.length < 220 then K (k + 1) (v (ar k) :: st) else none)
    else if op k = 10 then (match st with
      | [] => none
      | x :: r => K (k + 1) ((1 - x) :: r))
    else if op k = 11 then (match st with
      | [] => none
      | x :: r => if x = 0 then K (base + ar k) (x :: r) else K (k + 1) r)
    else if op k = 12 then (match st with
      | [] => none
      | x :: r => if x = 1 then K (base + ar k) (x :: r) else K (k + 1) r)
    else (match st with
      | y :: x :: r => if (op k = 5 ∨ op k = 6) ∧ y = 0 then some 0 else K (k + 1) (jn (sgn (op k)) x y :: r)
      | _ => none)
def rm (op ar : Nat → Nat) (base : Nat) (v : Nat → Int32) (to : Nat) : Nat → Nat → List Int32 → Option Int32
  | 0, _, _ => none
  | f + 1, k, st => rmS op ar base v to (rm op ar base v to f) k st
def VM (C : Nat → Int32) (op ar : Nat → Nat) : Prop := ∀ k, k < 440 → C k = nI (1048576 * op k + ar k) ∧ op k ≤ 12 ∧ ar k < 1048576 ∧ (op k = 1 → ar k < 9) ∧ (op k = 11 ∨ op k = 12 → ar k ≤ 220)
theorem EV.reckM {d : Nat} {σ : QS} {o : Nat} {x y : Int32} (ho : 2 ≤ o) (ho2 : o ≤ 9) (h : ¬ ((o = 5 ∨ o = 6) ∧ y = 0)) : EV d 144 0 [some (.inl (nI o)), some (.inl x), some (.inl y)] [] σ (qis (jn (sgn o) x y) σ) := by
  have lt : ∀ a b : Int32, ¬ b ≤ a → a < b := fun a b q => by rcases Classical.em (a < b) with z | z; exact z; exact absurd ((i_nlt _ _).mpr z) q
  refine pM_reckon_0 ?_
  rcases (show o = 2 ∨ o = 3 ∨ o = 4 ∨ o = 5 ∨ o = 6 ∨ o = 7 ∨ o = 8 ∨ o = 9 by omega) with rfl | rfl | rfl | rfl | rfl | rfl | rfl | rfl
  · exact ⟨fun _ => ⟨rfl, rfl⟩, fun q => absurd rfl q⟩
  · exact ⟨fun q => absurd q (by decide), fun _ => ⟨fun _ => ⟨rfl, rfl⟩, fun q => absurd rfl q⟩⟩
  · exact ⟨fun q => absurd q (by decide), fun _ => ⟨fun q => absurd q (by decide), fun _ => ⟨fun _ => ⟨rfl, rfl⟩, fun q => absurd rfl q⟩⟩⟩
  · exact ⟨fun q => absurd q (by decide), fun _ => ⟨fun q => absurd q (by decide), fun _ => ⟨fun q => absurd q (by decide), fun _ => ⟨fun _ => ⟨fun z => h ⟨Or.inl rfl, z⟩, rfl, rfl⟩, fun q => absurd rfl q⟩⟩⟩⟩
  · exact ⟨fun q => absurd q (by decide), fun _ => ⟨fun q => absurd q (by decide), fun _ => ⟨fun q => absurd q (by decide), fun _ => ⟨fun q => absurd q (by decide), fun _ => ⟨fun _ => ⟨fun z => h ⟨Or.inr rfl, z⟩, rfl, rfl⟩, fun q => absurd rfl q⟩⟩⟩⟩⟩
  · refine ⟨fun q => absurd q (by decide), fun _ => ⟨fun q => absurd q (by decide), fun _ => ⟨fun q => absurd q (by decide), fun _ => ⟨fun q => absurd q (by decide), fun _ => ⟨fun q => absurd q (by decide), fun _ => ⟨fun _ => ⟨fun q => ⟨?_, rfl⟩, fun q => ⟨?_, rfl⟩⟩, fun q => absurd rfl q⟩⟩⟩⟩⟩⟩
    · show some (0 : Int32) = some (if x < y then 1 else 0)
      rw [if_neg ((i_nlt _ _).mp q)]
    · show some (1 : Int32) = some (if x < y then 1 else 0)
      rw [if_pos (lt _ _ q)]
  · refine ⟨fun q => absurd q (by decide), fun _ => ⟨fun q => absurd q (by decide), fun _ => ⟨fun q => absurd q (by decide), fun _ => ⟨fun q => absurd q (by decide), fun _ => ⟨fun q => absurd q (by decide), fun _ => ⟨fun q => absurd q (by decide), fun _ => ⟨fun _ => ⟨fun q => ⟨?_, rfl⟩, fun q => ⟨?_, rfl⟩⟩, fun q => absurd rfl q⟩⟩⟩⟩⟩⟩⟩
    · show some (0 : Int32) = some (if y < x then 1 else 0)
      rw [if_neg ((i_nlt _ _).mp q)]
    · show some (1 : Int32) = some (if y < x then 1 else 0)
      rw [if_pos (lt _ _ q)]
  · refine ⟨fun q => absurd q (by decide), fun _ => ⟨fun q => absurd q (by decide), fun _ => ⟨fun q => absurd q (by decide), fun _ => ⟨fun q => absurd q (by decide), fun _ => ⟨fun q => absurd q (by decide), fun _ => ⟨fun q => absurd q (by decide), fun _ => ⟨fun q => absurd q (by decide), fun _ => ⟨fun q => ⟨?_, rfl⟩, fun q => ⟨?_, rfl⟩⟩⟩⟩⟩⟩⟩⟩⟩
    · show some (0 : Int32) = some (if x = y then 1 else 0)
      rw [if_neg q]
    · show some (1 : Int32) = some (if x = y then 1 else 0)
      rw [if_pos q]
set_option maxHeartbeats 4000000 in
theorem EV.comes {d : Nat} {σ : QS} {to base : Nat} {op ar : Nat → Nat} {a : Int32} (hV : VM (σ 87) op ar) (hto : to ≤ 440) (hb : base ≤ 220) : ∀ f k st res P w6 w7, st.length ≤ 220 → k ≤ 440 → rm op ar base (σ 94) to f k st = some res → rp P st → EV (d + 1) 145 1 [some (.inr 69), some (.inl a), some (.inl (nI to)), some (.inl (nI st.length)), some (.inl (nI base)), some (.inl (nI k)), w6, w7] [] (q_set σ 93 P) (qI (fun x s => x = res ∧ ∃ P', s = q_set σ 93 P')) := by
  intro f
  induction f with
  | zero => intro k st res P w6 w7 _ _ h; cases h
  | succ f ih =>
    intro k st res P w6 w7 hl hk h hp
    have s87 : (q_set σ 93 P) 87 = σ 87 := q_set_ne _ _ (by decide)
    have s94 : (q_set σ 93 P) 94 = σ 94 := q_set_ne _ _ (by decide)
    have sP : (q_set σ 93 P) 93 = P := q_set_eq _ _ _
    have ck : (nI k).toNatClampNeg = k := cl_nI (by omega)
    have cl0 : (nI st.length).toNatClampNeg = st.length := cl_nI (by omega)
    have le1 : (nI to ≤ nI k) = (to ≤ k) := nI_leP (by omega) (by omega)
    have z0 : (0 : Int32).toNatClampNeg = 0 := rfl
    unfold rm at h
    unfold rmS at h
    by_cases hend : to ≤ k
    · rw [if_pos hend] at h
      refine pM_comesTo_1 ⟨fun _ => ⟨vp_in_nI (n := 0) (by decide) (by decide), ?_⟩, fun q => ?_⟩
      · match st, h, hp with
        | [x], h, hp =>
          refine ⟨_, rfl, ?_, P, rfl⟩
          rw [sP, z0, ← Option.some.inj h]
          exact hp.1
      · rw [le1] at q; exact absurd hend q
    · rw [if_neg hend] at h
      obtain ⟨eC, v1, v2, v3, v4⟩ := hV k (by omega)
      have ik : vp_in (nI k) 440 := vp_in_nI (by omega) (by decide)
      have ed : nI (1048576 * op k + ar k) / 1048576 = nI (op k) := by
        have := nI_div (a := 1048576 * op k + ar k) 1048576 (by omega) (by decide) (by decide)
        rw [show (1048576 * op k + ar k) / 1048576 = op k by omega] at this
        exact this
      have er : nI (1048576 * op k + ar k) - nI (op k) * 1048576 = nI (ar k) := by
        have := nI_rem (a := 1048576 * op k + ar k) 1048576 (by omega) (by decide) (by decide)
        rw [show (1048576 * op k + ar k) % 1048576 = ar k by omega] at this
        rw [← ed]
        exact this
      have q0 : (nI (op k) = (0 : Int32)) = (op k = 0) := nI_eqP (b := 0) (by omega) (by decide)
      have q1 : (nI (op k) = (1 : Int32)) = (op k = 1) := nI_eqP (b := 1) (by omega) (by decide)
      have q10 : (nI (op k) = (10 : Int32)) = (op k = 10) := nI_eqP (b := 10) (by omega) (by decide)
      have q11 : (nI (op k) = (11 : Int32)) = (op k = 11) := nI_eqP (b := 11) (by omega) (by decide)
      have q12 : (nI (op k) = (12 : Int32)) = (op k = 12) := nI_eqP (b := 12) (by omega) (by decide)
      have q5 : (nI (op k) = (5 : Int32)) = (op k = 5) := nI_eqP (b := 5) (by omega) (by decide)
      have q6 : (nI (op k) = (6 : Int32)) = (op k = 6) := nI_eqP (b := 6) (by omega) (by decide)
      have ca : (nI (ar k)).toNatClampNeg = ar k := cl_nI (by omega)
      have ebj : nI base + nI (ar k) = nI (base + ar k) := nI_add _ _
      have u0 : ¬ (1048576 : Int32) = 0 := by decide
      refine pM_comesTo_1 ⟨fun q => ?_, fun _ => ?_⟩
      · rw [le1] at q; exact absurd q hend
      simp only [s87, s94, sP, ck, eC, ed, er, q0, q1, q10, q11, q12, q5, q6, ca, ebj, nI_p1, q_set_same]
      refine ⟨ik, u0, ik, u0, ?_⟩
      by_cases h0 : op k = 0
      · rw [if_pos h0] at h
        by_cases hlen : st.length < 220
        · rw [if_pos hlen] at h
          refine ⟨fun _ => ⟨fun q => absurd h0 q, fun _ => ⟨vp_in_nI hlen (by decide), ?_⟩⟩, fun q => absurd h0 q⟩
          rw [cl0]
          exact ih _ _ res _ _ _ (by simp; omega) (by omega) h (rp_push hp)
        · rw [if_neg hlen] at h; cases h
      rw [if_neg h0] at h
      refine ⟨fun q => absurd q h0, fun _ => ?_⟩
      by_cases h1 : op k = 1
      · rw [if_pos h1] at h
        by_cases hlen : st.length < 220
        · rw [if_pos hlen] at h
          refine ⟨fun q => absurd h1 q, fun _ => ⟨fun _ => ⟨vp_in_nI (v3 h1) (by decide), vp_in_nI hlen (by decide), ?_⟩, fun q => absurd q h0⟩⟩
          rw [cl0]
          exact ih _ _ res _ _ _ (by simp; omega) (by omega) h (rp_push hp)
        · rw [if_neg hlen] at h; cases h
      rw [if_neg h1] at h
      refine ⟨fun _ => ?_, fun q => absurd q h1⟩
      by_cases h10 : op k = 10
      · rw [if_pos h10] at h
        refine ⟨fun q => absurd h10 q, fun _ => ?_⟩
        match st, h, hp, hl with
        | x :: r, h, hp, hl =>
          dsimp only at h
          have lr : r.length < 220 := by simp at hl; omega
          have it : vp_in (nI r.length) 220 := vp_in_nI lr (by decide)
          have e1 : nI (x :: r).length - 1 = nI r.length := pk_sub (a := r.length + 1) (b := 1) (by omega)
          have cr : (nI r.length).toNatClampNeg = r.length := cl_nI (by omega)
          have hx : P r.length = x := hp.1
          simp only [e1, cr, hx]
          refine ⟨it, it, ?_⟩
          exact ih _ ((1 - x) :: r) res _ _ _ (by simp; omega) (by omega) h (rp_push hp.2)
      rw [if_neg h10] at h
      refine ⟨fun _ => ?_, fun q => absurd q h10⟩
      by_cases h11 : op k = 11
      · rw [if_pos h11] at h
        have n12 : ¬ op k = 12 := by omega
        refine ⟨fun _ => ?_, fun q => absurd h11 q⟩
        match st, h, hp, hl with
        | x :: r, h, hp, hl =>
          dsimp only at h
          have lr : r.length < 220 := by simp at hl; omega
          have it : vp_in (nI r.length) 220 := vp_in_nI lr (by decide)
          have e1 : nI (x :: r).length - 1 = nI r.length := pk_sub (a := r.length + 1) (b := 1) (by omega)
          have cr : (nI r.length).toNatClampNeg = r.length := cl_nI (by omega)
          have hx : P r.length = x := hp.1
          simp only [e1, cr, hx]
          refine ⟨it, fun _ => ⟨fun x0 => ?_, fun x0 => ?_⟩, fun q => absurd q n12⟩
          · rw [if_neg x0] at h
            exact ih _ _ res _ _ _ (by omega) (by omega) h hp.2
          · rw [if_pos x0] at h
            exact ih _ (x :: r) res _ _ _ hl (by have := v4 (Or.inl h11); omega) h hp
      rw [if_neg h11] at h
      refine ⟨fun q => absurd q h11, fun _ => ?_⟩
      by_cases h12 : op k = 12
      · rw [if_pos h12] at h
        refine ⟨fun q => absurd h12 q, fun _ => ?_⟩
        match st, h, hp, hl with
        | x :: r, h, hp, hl =>
          dsimp only at h
          have lr : r.length < 220 := by simp at hl; omega
          have it : vp_in (nI r.length) 220 := vp_in_nI lr (by decide)
          have e1 : nI (x :: r).length - 1 = nI r.length := pk_sub (a := r.length + 1) (b := 1) (by omega)
          have cr : (nI r.length).toNatClampNeg = r.length := cl_nI (by omega)
          have hx : P r.length = x := hp.1
          simp only [e1, cr, hx]
          refine ⟨it, fun q => absurd h12 q, fun _ => ⟨fun x0 => ?_, fun x0 => ?_⟩⟩
          · rw [if_neg x0] at h
            exact ih _ _ res _ _ _ (by omega) (by omega) h hp.2
          · rw [if_pos x0] at h
            exact ih _ (x :: r) res _ _ _ hl (by have := v4 (Or.inr h12); omega) h hp
      rw [if_neg h12] at h
      refine ⟨fun _ => ?_, fun q => absurd q h12⟩
      match st, h, hp, hl with
      | y :: x :: r, h, hp, hl =>
        dsimp only at h
        have lr : r.length + 1 < 220 := by simp at hl; omega
        have it : vp_in (nI (r.length + 1)) 220 := vp_in_nI lr (by decide)
        have it2 : vp_in (nI r.length) 220 := vp_in_nI (by omega) (by decide)
        have e1 : nI (y :: x :: r).length - 1 = nI (r.length + 1) := pk_sub (a := r.length + 2) (b := 1) (by omega)
        have e2 : nI (r.length + 1) - 1 = nI r.length := pk_sub (a := r.length + 1) (b := 1) (by omega)
        have cr : (nI r.length).toNatClampNeg = r.length := cl_nI (by omega)
        have cr1 : (nI (r.length + 1)).toNatClampNeg = r.length + 1 := cl_nI (by omega)
        have hy : P (r.length + 1) = y := hp.1
        have hx : P r.length = x := hp.2.1
        simp only [e1, e2, cr, cr1, hx, hy]
        have go : ¬ ((op k = 5 ∨ op k = 6) ∧ y = 0) → ∀ w6 w7, ∃ R : Int32 → QS → Prop, EV d 144 0 [some (.inl (nI (op k))), some (.inl x), some (.inl y)] [] (q_set σ 93 P) (qI R) ∧ ∀ v s, R v s → (vp_in (nI r.length) 220) ∧ (EV (d + 1) 145 1 [some (.inr 69), some (.inl a), some (.inl (nI to)), some (.inl (nI (r.length + 1))), some (.inl (nI base)), some (.inl (nI (k + 1))), w6, w7] [] (q_set s 93 (upd (s 93) r.length v)) (qI (fun x s => x = res ∧ ∃ P', s = q_set σ 93 P'))) := by
          intro hne w6 w7
          rw [if_neg hne] at h
          refine ex_I (EV.reckM (by omega) (by omega) hne) ⟨it2, ?_⟩
          rw [q_set_same, q_set_eq]
          exact ih _ (jn (sgn (op k)) x y :: r) res _ _ _ (by simp; omega) (by omega) h (rp_push hp.2.2)
        refine ⟨fun h5 => ⟨it, fun y0 => ⟨it2, it, go (fun z => y0 z.2) _ _⟩, fun y0 => ?_⟩, fun h5 => ⟨fun h6 => ⟨it2, it, go (fun z => z.1.elim h5 h6) _ _⟩, fun h6 => ⟨it, fun y0 => ⟨it2, it, go (fun z => y0 z.2) _ _⟩, fun y0 => ?_⟩⟩⟩
        · rw [if_pos ⟨Or.inl h5, y0⟩] at h
          exact ⟨0, rfl, Option.some.inj h, P, rfl⟩
        · rw [if_pos ⟨Or.inr h6, y0⟩] at h
          exact ⟨0, rfl, Option.some.inj h, P, rfl⟩
