/-! the loop of a condition, by the reference -/
theorem MB.opn {N p o t n : Nat} {C W : Cd} (h : MB N p C W o) (hp : p < N) (ho : ¬ o = 6) (ht : t = 10 ∨ t = 13 ∨ t = 14) : MB N (p + 1) C ((t, n) :: W) (o + 1) := by
  obtain ⟨k1, k2, k3, k4, k5⟩ := h
  refine ⟨hp, ?_, by rw [List.length_cons]; omega, ?_, by omega⟩
  · show C.length + ((if t = 11 ∨ t = 12 then 0 else 1) + pnW W) ≤ p + 1
    rw [if_neg (by omega)]; omega
  · show (if t = 10 ∨ t = 13 ∨ t = 14 then 1 else 0) + onW W = o + 1
    rw [if_pos ht]; omega
theorem MB.jmp {N p o t n : Nat} {C W : Cd} (h : MB N p C W o) (hp : p < N) (ht : t = 11 ∨ t = 12) : MB N (p + 1) (C ++ [(t, 0)]) ((t, n) :: W) o := by
  obtain ⟨k1, k2, k3, k4, k5⟩ := h
  refine ⟨hp, ?_, by rw [List.length_cons]; omega, ?_, k5⟩
  · show (C ++ [(t, 0)]).length + ((if t = 11 ∨ t = 12 then 0 else 1) + pnW W) ≤ p + 1
    rw [if_pos ht, List.length_append, List.length_singleton]; omega
  · show (if t = 10 ∨ t = 13 ∨ t = 14 then 1 else 0) + onW W = o
    rw [if_neg (by omega)]; omega
theorem MB.b {N p o : Nat} {C W : Cd} (h : MB N p C W o) (hN : N ≤ 200) : W.length < 220 ∧ C.length < 220 ∧ C.length + pnW W < 220 := by
  obtain ⟨k1, k2, k3, k4, k5⟩ := h
  omega
set_option maxHeartbeats 1000000 in
theorem EV.cndM {ch : Nat → Int32} {N d : Nat} : ∀ f bb p C W o σ r, mC ch N f bb p C W o = some r → MT ch N σ p C W o → EV (d + 6) 140 (if bb = true then 21 else 7) [some (.inr 69)] [] σ (PM ch N σ r) := by
  intro f
  induction f with
  | zero => intro bb p C W o σ r h; cases bb <;> cases h
  | succ f ih =>
    intro bb p C W o σ r h hT
    obtain ⟨hv, hB⟩ := hT
    have hN := hv.1.2.1
    have hp := hB.1
    obtain ⟨hwl, hcl, hcp⟩ := hB.b hN
    have hh : ∀ d, EV d 122 0 [some (.inr 69)] [] σ (qis (ch p) σ) := fun d => EV.hereM hv hp
    cases bb with
    | false =>
      rw [if_neg (by decide)]
      rw [mC] at h
      have op : ∀ t, (ch p = 33 ∨ ch p = 40) → (if ch p = 33 then 10 else 13) = t → ∃ R13 : Int32 → QS → Prop, EV (d + 5) 128 0 [some (.inr 69), some (.inl (nI t))] [] σ (qI R13) ∧ ∀ y15 s14, R13 y15 s14 → (¬ y15 = 0 → EV (d + 6) 140 7 [some (.inr 69)] [] s14 (PM ch N σ r)) ∧ (y15 = 0 → PM ch N σ r (some 0) s14) := by
        intro t hq ht
        have ht2 : t = 10 ∨ t = 13 := by
          rw [← ht]
          split
          · exact Or.inl rfl
          · exact Or.inr rfl
        have hpN : p < N := by
          rcases hq with q | q
          · exact hv.1.1.lt q (by decide)
          · exact hv.1.1.lt q (by decide)
        rw [if_pos hq, ht] at h
        refine ⟨_, EV.opensM (t := t) hv hwl hB.2.2.2.2 (by omega) (by omega), ?_⟩
        rintro y s ⟨f1, ⟨q6, rfl, hv2⟩ | ⟨q6, rfl, e⟩⟩
        · rw [if_neg q6] at h
          refine ⟨fun _ => ?_, fun z => absurd z (by decide)⟩
          exact EV.mono (ih false (p + 1) C ((t, 0) :: W) (o + 1) s r h ⟨hv2, hB.opn hpN q6 (by omega)⟩) (fun _ _ z => PM.fr f1 z)
        · rw [if_pos q6] at h
          cases h
          exact ⟨fun z => absurd rfl z, fun _ => PM.er f1 e⟩
      refine pM_readsCondition_7 (ex_I (hh _) ⟨fun q33 => ex_I (hh _) ⟨fun z => absurd q33 z, fun _ => op 10 (Or.inl q33) (if_pos q33)⟩, fun n33 => ex_I (hh _) ⟨fun n40 => ?_, fun q40 => ex_I (hh _) ⟨fun _ => op 13 (Or.inr q40) (if_neg n33), fun z => absurd z n33⟩⟩⟩)
      rw [if_neg (fun z => z.elim n33 n40)] at h
      split at h
      · rename_i ht
        refine ⟨_, EV.cprM (d := d) ⟨hv, hB⟩ (by omega), ?_⟩
        intro y s hy
        obtain ⟨f1, hy⟩ := hy
        cases hk : cpr ch N (6 - o) p with
        | error e =>
          rw [hk] at hy h
          obtain ⟨rfl, he⟩ := hy
          cases h
          exact ⟨fun z => absurd rfl z, fun _ => PM.er f1 he⟩
        | ok v =>
          obtain ⟨q, c⟩ := v
          rw [hk] at hy h
          obtain ⟨rfl, hT2⟩ := hy
          exact ⟨fun _ => EV.mono (ih true q _ _ _ s r h hT2) (fun _ _ z => PM.fr f1 z), fun z => absurd z (by decide)⟩
      · cases h
    | true =>
      rw [if_pos rfl]
      rw [mC] at h
      refine pM_readsCondition_21 (ex_I (hh _) ⟨fun n41 => ex_I (hh _) ⟨fun q38 => ex_I (hh _) ⟨fun n124 => ?_, fun z => absurd (q38.symm.trans z) (by decide)⟩, fun n38 => ex_I (hh _) ⟨fun q124 => ex_I (hh _) ⟨fun z => absurd q124 z, fun _ => ?_⟩, fun n124 => ?_⟩⟩, fun q41 => ?_⟩)
      · rw [if_neg n41, if_pos q38] at h
        have hpN : p < N := hv.1.1.lt q38 (by decide)
        refine ⟨_, EV.landM (d := d + 4) false W C σ none hv hcl hwl, ?_⟩
        rintro s ⟨f1, hv1⟩
        have hB1 := hB.ld false
        obtain ⟨hw1, hc1, -⟩ := hB1.b hN
        refine ex_I (EV.hereM hv1 hp) ⟨fun z => absurd q38 z, fun _ => ⟨_, EV.jumpM (d := d + 4) (k := 11) hv1 hc1 hw1 (by decide), ?_⟩⟩
        rintro s2 ⟨f2, hv2⟩
        exact EV.mono (ih false (p + 1) _ _ o s2 r h ⟨hv2, hB1.jmp hpN (Or.inl rfl)⟩) (fun _ _ z => PM.fr (f1.tr f2) z)
      · rw [if_neg n41, if_neg n38, if_pos q124] at h
        have hpN : p < N := hv.1.1.lt q124 (by decide)
        refine ⟨_, EV.landM (d := d + 4) true W C σ none hv hcl hwl, ?_⟩
        rintro s ⟨f1, hv1⟩
        have hB1 := hB.ld true
        obtain ⟨hw1, hc1, -⟩ := hB1.b hN
        refine ex_I (EV.hereM hv1 hp) ⟨fun _ => ⟨_, EV.jumpM (d := d + 4) (k := 12) hv1 hc1 hw1 (by decide), ?_⟩, fun z => absurd z n38⟩
        rintro s2 ⟨f2, hv2⟩
        exact EV.mono (ih false (p + 1) _ _ o s2 r h ⟨hv2, hB1.jmp hpN (Or.inr rfl)⟩) (fun _ _ z => PM.fr (f1.tr f2) z)
      · rw [if_neg n41, if_neg n38, if_neg n124] at h
        cases h
        refine ⟨_, EV.wrongM 1 hv.2.1, ?_⟩
        rintro y s ⟨rfl, f1, e⟩
        exact ⟨Or.inl rfl, PM.er f1 e⟩
      · rw [if_pos q41] at h
        have hpN : p < N := hv.1.1.lt q41 (by decide)
        refine ⟨_, EV.landM (d := d + 4) true W C σ none hv hcl hwl, ?_⟩
        rintro s ⟨f1, hv1⟩
        have hB1 := hB.ld true
        cases eW : (mLd true C W).2 with
        | nil =>
          rw [eW] at h
          rw [if_pos (show ¬ tp [] = 13 by decide)] at h
          cases h
        | cons x W' =>
          rw [eW] at h hv1 hB1
          split at h
          · cases h
          rename_i e13
          have e13 : x.1 = 13 := Classical.byContradiction e13
          obtain ⟨b1, b2, b3, b4, b5⟩ := hB1
          have ep : pnW (x :: W') = 1 + pnW W' := by
            show (if x.1 = 11 ∨ x.1 = 12 then 0 else 1) + pnW W' = _
            rw [if_neg (by omega)]
          have eo : onW (x :: W') = 1 + onW W' := by
            show (if x.1 = 10 ∨ x.1 = 13 ∨ x.1 = 14 then 1 else 0) + onW W' = _
            rw [if_pos (by omega)]
          rw [List.length_cons] at b3
          obtain ⟨o', rfl⟩ : ∃ o', o = o' + 1 := ⟨o - 1, by omega⟩
          rw [show o' + 1 - 1 = o' by omega] at h
          have hv2 := MVc.place (MVc.less (MVc.pop hv1))
          have hB2 : MB N (p + 1) (mLd true C W).1 W' o' := ⟨by omega, by omega, by omega, by omega, by omega⟩
          have f2 : FR σ (q_set (q_set (q_set s 69 (upd (s 69) 18 ((s 69 18) - 1))) 69 (upd (upd (s 69) 18 ((s 69 18) - 1)) 16 (((upd (s 69) 18 ((s 69 18) - 1)) 16) - 1))) 69 (upd (upd (upd (s 69) 18 ((s 69 18) - 1)) 16 (((upd (s 69) 18 ((s 69 18) - 1)) 16) - 1)) 13 (((upd (upd (s 69) 18 ((s 69 18) - 1)) 16 (((upd (s 69) 18 ((s 69 18) - 1)) 16) - 1)) 13) + 1))) := FR.s69 (FR.s69 (FR.s69 f1 (by decide)) (by decide)) (by decide)
          have e18 := hv2.2.2.2.2.2.1
          obtain ⟨hw2, hc2, hcp2⟩ := hB2.b hN
          refine ⟨fun q0 => ?_, fun q0 => ?_⟩
          · have hW' : ¬ List.tail (x :: W') = [] := fun z => q0 (by rw [e18, show W' = [] from z]; rfl)
            rw [if_neg hW'] at h
            refine ⟨_, EV.endM (d := d + 4) W' (mLd true C W).1 o' _ hv2 hB2.2.2.2.1 hcp2 hw2, ?_⟩
            rintro s3 ⟨f3, hv3⟩
            exact EV.mono (ih true (p + 1) _ _ _ s3 r h ⟨hv3, hB2.end⟩) (fun _ _ z => PM.fr (f2.tr f3) z)
          · have hW' : W' = [] := by
              cases W' with
              | nil => rfl
              | cons y W2 =>
                rw [e18, List.length_cons] at q0
                exact absurd q0 (nI_ne0 (by omega) (by rw [List.length_cons] at hw2; omega))
            subst hW'
            rw [if_pos (show List.tail [x] = [] from rfl)] at h
            cases h
            exact PM.ok f2 ⟨hv2, hB2⟩
/-- the condition of a clause, by the reference -/
theorem EV.brkM {ch : Nat → Int32} {N d p o : Nat} {C W : Cd} {σ : QS} (hv : MV ch N σ p C W o) (hp : p ≤ N) (hC : C.length ≤ p) : EV (d + 6) 140 0 [some (.inr 69)] [] σ (PM ch N σ (mok C (brk ch N p C.length))) := by
  have hN := hv.1.2.1
  have key := brk_M (p := p) (C := C) hv.1.1 hN hC
  generalize mok C (brk ch N p C.length) = r at key ⊢
  refine pM_readsCondition_0 (ex_I (EV.hereM hv hp) ⟨fun q40 => ?_, fun n40 => ⟨_, EV.wrongM 1 hv.2.1, ?_⟩⟩)
  · obtain ⟨f, hf⟩ := key.1 q40
    have hpN : p < N := hv.1.1.lt q40 (by decide)
    have hv0 : MV ch N (q_set (q_set σ 69 (upd (σ 69) 16 0)) 69 (upd (upd (σ 69) 16 0) 18 0)) p C [] 0 := by
      obtain ⟨a1, a2, a3, a4, a5, a6, a7, a8⟩ := hv
      show MVc ch N (σ 80) (σ 81) (σ 82) (upd (upd (σ 69) 16 0) 18 0) p C [] 0
      exact ⟨a1, by rw [upd_ne _ _ (by decide), upd_ne _ _ (by decide)]; exact a2, by rw [upd_ne _ _ (by decide), upd_ne _ _ (by decide)]; exact a3, by rw [upd_ne _ _ (by decide), upd_eq]; rfl, by rw [upd_ne _ _ (by decide), upd_ne _ _ (by decide)]; exact a5, by rw [upd_eq]; rfl, a7, trivial⟩
    refine ⟨_, EV.opensM (d := d + 4) (t := 13) hv0 (by show 0 < 220; decide) (by omega) (by decide) (by decide), ?_⟩
    have f0 : FR σ (q_set (q_set σ 69 (upd (σ 69) 16 0)) 69 (upd (upd (σ 69) 16 0) 18 0)) := FR.s69 (FR.s69 FR.rf (by decide)) (by decide)
    rintro y s ⟨f1, ⟨-, rfl, hv2⟩ | ⟨q6, -⟩⟩
    · refine ⟨fun _ => ?_, fun z => absurd z (by decide)⟩
      have hB0 : MB N p C [] 0 := ⟨hp, by show C.length + 0 ≤ p; omega, by show 0 ≤ p; omega, rfl, by omega⟩
      exact EV.mono (EV.cndM f false (p + 1) C [(13, 0)] 1 s r hf ⟨hv2, hB0.opn hpN (by decide) (by omega)⟩) (fun _ _ z => PM.fr (f0.tr f1) z)
    · exact absurd q6 (by decide)
  · rw [key.2 n40]
    rintro y s ⟨rfl, f1, e⟩
    exact ⟨Or.inl rfl, PM.er f1 e⟩
