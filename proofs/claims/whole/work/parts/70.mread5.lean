/-! clauses, by the reference -/
def F5 (σ s : QS) : Prop := (∀ c, c ≠ 69 → ¬ (81 ≤ c ∧ c ≤ 86) → s c = σ c) ∧ ∀ k, k ≠ 13 → ¬ (15 ≤ k ∧ k ≤ 20) → s 69 k = σ 69 k
theorem F5.rf {σ : QS} : F5 σ σ := ⟨fun _ _ _ => rfl, fun _ _ _ => rfl⟩
theorem F5.tr {σ s t : QS} (h : F5 σ s) (k : F5 s t) : F5 σ t := ⟨fun c a b => (k.1 c a b).trans (h.1 c a b), fun c a b => (k.2 c a b).trans (h.2 c a b)⟩
theorem FR.f5 {σ s : QS} (h : FR σ s) : F5 σ s := ⟨fun c a b => h.1 c a (by omega) (by omega), fun k a b => h.2 k a (by omega) (by omega)⟩
theorem F5.s69 {σ s : QS} {k : Nat} {v : Int32} (h : F5 σ s) (hk : k = 13 ∨ 15 ≤ k ∧ k ≤ 20) : F5 σ (q_set s 69 (upd (s 69) k v)) := ⟨fun c a b => by rw [q_set_ne _ _ a]; exact h.1 c a b, fun j a b => by rw [q_set_eq, upd_ne _ _ (by omega)]; exact h.2 j a b⟩
theorem F5.s8 {σ s : QS} {c : Nat} {f : Nat → Int32} (h : F5 σ s) (hc : 81 ≤ c ∧ c ≤ 86) : F5 σ (q_set s c f) := ⟨fun e a b => by rw [q_set_ne _ _ (by omega)]; exact h.1 e a b, fun j a b => by rw [q_set_ne _ _ (by omega)]; exact h.2 j a b⟩
theorem EV.isClM {d : Nat} {σ : QS} (c : Int32) : EV d 141 0 [some (.inl c)] [] σ (qis (match ltO c with
  | some _ => 1
  | none => 0) σ) := by
  refine pM_isClause_0 ?_
  unfold ltO
  refine ⟨fun q => ?_, fun q1 => ⟨fun q => ?_, fun q2 => ⟨fun q => ?_, fun q3 => ⟨fun q => ?_, fun q4 => ⟨fun q => ?_, fun q5 => ⟨fun q => ?_, fun q6 => ⟨fun q => ?_, fun q => ?_⟩⟩⟩⟩⟩⟩⟩
  all_goals first
    | (subst q; exact ⟨rfl, rfl⟩)
    | (rw [if_neg q1, if_neg q2, if_neg q3, if_neg q4, if_neg q5, if_neg q6, if_neg q]; exact ⟨rfl, rfl⟩)
theorem MVc.zero {ch : Nat → Int32} {N : Nat} {t b c g : Nat → Int32} {p : Nat} {C W : Cd} {o : Nat} (h : MVc ch N t b c g p C W o) : MVc ch N t b c (upd (upd g 16 0) 18 0) p C [] 0 := by
  obtain ⟨a1, a2, a3, a4, a5, a6, a7, a8⟩ := h
  exact ⟨a1, by rw [upd_ne _ _ (by decide), upd_ne _ _ (by decide)]; exact a2, by rw [upd_ne _ _ (by decide), upd_ne _ _ (by decide)]; exact a3, by rw [upd_ne _ _ (by decide), upd_eq]; rfl, by rw [upd_ne _ _ (by decide), upd_ne _ _ (by decide)]; exact a5, by rw [upd_eq]; rfl, a7, trivial⟩
/-- as it stands before a clause: what waits and what is open does not matter -/
def MU (ch : Nat → Int32) (N : Nat) (σ : QS) (p : Nat) (C : Cd) : Prop := MVc ch N (σ 80) (σ 81) (σ 82) (upd (upd (σ 69) 16 0) 18 0) p C [] 0
theorem MV.u {ch : Nat → Int32} {N : Nat} {σ : QS} {p : Nat} {C W : Cd} {o : Nat} (h : MV ch N σ p C W o) : MU ch N σ p C := MVc.zero h
theorem MVc.zp {ch : Nat → Int32} {N : Nat} {t b c g : Nat → Int32} {p : Nat} {C : Cd} (h : MVc ch N t b c (upd (upd g 16 0) 18 0) p C [] 0) : MVc ch N t b c (upd (upd (upd g 13 (g 13 + 1)) 16 0) 18 0) (p + 1) C [] 0 := by
  obtain ⟨a1, a2, a3, a4, a5, a6, a7, a8⟩ := h
  have a2 : g 13 = nI p := a2
  have a3 : g 14 = nI N := a3
  have a5 : g 17 = nI C.length := a5
  refine ⟨a1, ?_, a3, rfl, a5, rfl, a7, trivial⟩
  show g 13 + 1 = nI (p + 1)
  rw [a2, nI_p1]
theorem EV.hereU {ch : Nat → Int32} {N d : Nat} {σ : QS} {p : Nat} {C : Cd} (h : MU ch N σ p C) (hp : p ≤ N) : EV d 122 0 [some (.inr 69)] [] σ (qis (ch p) σ) := by
  obtain ⟨⟨h1, h1b, h1c⟩, h2, h3, -⟩ := h
  have h2 : σ 69 13 = nI p := h2
  have h3 : σ 69 14 = nI N := h3
  refine pM_here_0 ?_
  rw [h2, h3]
  refine ⟨fun q => ?_, fun q => ?_⟩
  · have := (nI_leI (by omega) (by omega)).mp q
    exact ⟨by rw [h1.1 p this], rfl⟩
  · have hlt : p < N := by
      rcases Nat.lt_or_ge p N with w | w
      · exact w
      · exact absurd (nI_le' w (by omega)) q
    rw [cl_nI (by omega), h1c p hlt]
    exact ⟨vp_in_nI (by omega) (by decide), rfl, rfl⟩
/-- what a clause read leaves -/
def CM (ch : Nat → Int32) (N : Nat) (σ s : QS) (r : Nat) (C : Cd) (n l : Nat) (ce cc : Cd) : Prop := MV ch N s r (C ++ ce ++ cc) [] 0 ∧ s 69 19 = nI (n + 1) ∧ s 83 = upd (σ 83) n (ltr l) ∧ s 84 = upd (σ 84) n (nI C.length) ∧ s 85 = upd (σ 85) n (nI (C.length + ce.length)) ∧ s 86 = upd (σ 86) n (nI (C.length + ce.length + cc.length))
def RCl (ch : Nat → Int32) (N : Nat) (σ : QS) (p : Nat) (C : Cd) (n : Nat) (y : Int32) (s : QS) : Prop := F5 σ s ∧ match ltO (ch p) with
  | none => y = 0 ∧ s 69 15 = flt 1 p
  | some l => if n = 14 then y = 0 ∧ s 69 15 = flt 4 p else (match clq ch N l (p + 1) C.length with
    | .error e => y = 0 ∧ s 69 15 = e
    | .ok (r, ce, cc) => y = 1 ∧ CM ch N σ s r C n l ce cc)
set_option maxHeartbeats 1000000 in
theorem EV.clauseM {ch : Nat → Int32} {N d p n : Nat} {C : Cd} {σ : QS} (hv : MU ch N σ p C) (hp : p ≤ N) (hC : C.length ≤ p) (hn : σ 69 19 = nI n) (hn14 : n ≤ 14) : EV (d + 7) 142 0 [some (.inr 69), none] [] σ (qI (RCl ch N σ p C n)) := by
  have hN := hv.1.2.1
  have hc := hv.1.1
  have e14 : σ 69 19 = 14 ↔ n = 14 := by rw [hn]; exact nI_eq (b := 14) (by omega) (by decide)
  have h13 : σ 69 13 = nI p := hv.2.1
  refine pM_readsClause_0 (ex_I (EV.hereU hv hp) (ex_I (EV.isClM _) ?_))
  cases hl : ltO (ch p) with
  | none =>
    refine ⟨fun z => absurd rfl z, fun _ => ⟨_, EV.wrongM 1 h13, ?_⟩⟩
    rintro y s ⟨rfl, f, e⟩
    refine ⟨Or.inl rfl, 0, rfl, f.f5, ?_⟩
    rw [hl]
    exact ⟨rfl, e⟩
  | some l =>
    obtain ⟨hl7, hlm, hlc⟩ := ltO_lt hl
    have hpN : p < N := hc.lt rfl hlm
    refine ⟨fun _ => ⟨fun q => ?_, fun q => ⟨_, EV.wrongM 4 h13, ?_⟩⟩, fun z => absurd (show (1 : Int32) = 0 from z) (by decide)⟩
    rotate_left
    · rintro y s ⟨rfl, f, e⟩
      refine ⟨Or.inl rfl, 0, rfl, f.f5, ?_⟩
      rw [hl]
      dsimp only
      rw [if_pos (e14.mp q)]
      exact ⟨rfl, e⟩
    have hnn : ¬ n = 14 := fun z => q (e14.mpr z)
    have vn : ∀ x, x = nI n → vp_in x 14 := fun x hx => by rw [hx]; exact vp_in_nI (by omega) (by decide)
    have hR : ∀ (y : Int32) (s : QS), F5 σ s → (match clq ch N l (p + 1) C.length with
        | .error e => y = 0 ∧ s 69 15 = e
        | .ok (r, ce, cc) => y = 1 ∧ CM ch N σ s r C n l ce cc) → qI (RCl ch N σ p C n) (some y) s := by
      intro y s f h
      refine ⟨y, rfl, f, ?_⟩
      rw [hl]
      dsimp only
      rw [if_neg hnn]
      exact h
    have h17 : σ 69 17 = nI C.length := hv.2.2.2.2.1
    -- behind the number: the condition, and what is noted of the clause
    have tail : ∀ (s : QS) (q : Nat) (ce : Cd) (W2 : Cd) (o2 : Nat), F5 σ s → MV ch N s q (C ++ ce) W2 o2 → q ≤ N → C.length + ce.length ≤ q → s 69 19 = nI n → s 83 = upd (σ 83) n (ltr l) → s 84 = upd (σ 84) n (nI C.length) → s 85 = upd (σ 85) n (nI (C.length + ce.length)) → s 86 = σ 86 → (∀ (y : Int32) (u : QS), F5 σ u → (match brk ch N q (C.length + ce.length) with
        | .error e => y = 0 ∧ u 69 15 = e
        | .ok (r, cc) => y = 1 ∧ CM ch N σ u r C n l ce cc) → qI (RCl ch N σ p C n) (some y) u) → ∃ R18 : Int32 → QS → Prop, EV (d + 6) 140 0 [some (.inr 69)] [] s (qI R18) ∧ ∀ y20 s19, R18 y20 s19 → (¬ y20 = 0 → (vp_in (s19 69 19) 14) ∧ (qI (RCl ch N σ p C n) (some 1) (q_set (q_set s19 86 (upd (s19 86) (s19 69 19).toNatClampNeg (s19 69 17))) 69 (upd (s19 69) 19 ((s19 69 19) + 1))))) ∧ (y20 = 0 → qI (RCl ch N σ p C n) (some 0) s19) := by
      intro s q ce W2 o2 f hv2 hq hl2 h19 h83 h84 h85 h86 hfin
      have el : (C ++ ce).length = C.length + ce.length := List.length_append
      refine ⟨_, EV.brkM (d := d) hv2 hq (by omega), ?_⟩
      intro y u hy
      obtain ⟨f2, hy⟩ := hy
      rw [el] at hy
      cases hb : brk ch N q (C.length + ce.length) with
      | error e =>
        rw [hb] at hy
        obtain ⟨rfl, he⟩ := hy
        refine ⟨fun z => absurd rfl z, fun _ => hfin 0 u (f.tr f2.f5) ?_⟩
        rw [hb]
        exact ⟨rfl, he⟩
      | ok v =>
        obtain ⟨r, cc⟩ := v
        rw [hb] at hy
        obtain ⟨rfl, hT⟩ := hy
        have k19 : u 69 19 = nI n := (f2.2 19 (by decide) (by decide) (by decide)).trans h19
        have k17 := hT.1.2.2.2.2.1
        refine ⟨fun _ => ⟨vn _ k19, hfin 1 _ (F5.s69 (F5.s8 (f.tr f2.f5) (by decide)) (by decide)) ?_⟩, fun z => absurd z (by decide)⟩
        rw [hb]
        rw [k19, cl_nI (by omega), k17, nI_p1]
        refine ⟨rfl, ?_, ?_, ?_, ?_, ?_, ?_⟩
        · exact MVc.any (k := 19) (by decide) hT.1
        · rw [q_set_eq, upd_eq]
        · rw [q_set_ne _ _ (by decide), q_set_ne _ _ (by decide), f2.1 83 (by decide) (by decide) (by decide)]; exact h83
        · rw [q_set_ne _ _ (by decide), q_set_ne _ _ (by decide), f2.1 84 (by decide) (by decide) (by decide)]; exact h84
        · rw [q_set_ne _ _ (by decide), q_set_ne _ _ (by decide), f2.1 85 (by decide) (by decide) (by decide)]; exact h85
        · rw [q_set_ne _ _ (by decide), q_set_eq, f2.1 86 (by decide) (by decide) (by decide), h86, List.length_append, List.length_append]
    rw [hn, cl_nI (show n < 2 ^ 31 by omega)]
    refine ⟨vn _ rfl, vn _ (by rw [upd_ne _ _ (by decide)]; exact hn), ?_, ?_⟩
    · intro q110
      have hl0 : l = 0 := ltr_inj l hl7 0 (by decide) (hlc.symm.trans q110)
      refine ⟨vn _ (by rw [upd_ne _ _ (by decide), upd_ne _ _ (by decide), upd_ne _ _ (by decide)]; exact hn), ?_⟩
      refine tail _ (p + 1) [] [] 0 ?_ ?_ hpN (by show C.length + 0 ≤ p + 1; omega) ?_ ?_ ?_ ?_ ?_ ?_
      · exact F5.s8 (F5.s69 (F5.s69 (F5.s8 (F5.s69 (F5.s8 F5.rf (by decide)) (by decide)) (by decide)) (by decide)) (by decide)) (by decide)
      · rw [List.append_nil]
        exact MVc.zp hv
      · exact hn
      · show upd (σ 83) n (ch p) = _
        rw [hlc]
      · show upd (σ 84) (upd (σ 69) 13 ((σ 69 13) + 1) 19).toNatClampNeg (upd (σ 69) 13 ((σ 69 13) + 1) 17) = _
        rw [upd_ne _ _ (by decide), upd_ne _ _ (by decide), hn, cl_nI (by omega), h17]
      · show upd (σ 85) (upd (upd (upd (σ 69) 13 ((σ 69 13) + 1)) 16 0) 18 0 19).toNatClampNeg (upd (upd (upd (σ 69) 13 ((σ 69 13) + 1)) 16 0) 18 0 17) = _
        rw [upd_ne _ _ (by decide), upd_ne _ _ (by decide), upd_ne _ _ (by decide), upd_ne _ _ (by decide), upd_ne _ _ (by decide), upd_ne _ _ (by decide), hn, cl_nI (by omega), h17]
        rfl
      · rfl
      · intro y u f h
        refine hR y u f ?_
        unfold clq
        rw [if_pos hl0]
        dsimp only
        cases hb : brk ch N (p + 1) (C.length + List.length ([] : Cd)) with
        | error e => rw [hb] at h; exact h
        | ok v => rw [hb] at h; exact h
    · intro q110
      have hl0 : ¬ l = 0 := fun z => q110 (by rw [hlc, z]; rfl)
      have hT : MT ch N (q_set (q_set (q_set (q_set (q_set σ 83 (upd (σ 83) n (ch p))) 69 (upd (σ 69) 13 ((σ 69 13) + 1))) 84 (upd (σ 84) ((upd (σ 69) 13 ((σ 69 13) + 1)) 19).toNatClampNeg ((upd (σ 69) 13 ((σ 69 13) + 1)) 17))) 69 (upd (upd (σ 69) 13 ((σ 69 13) + 1)) 16 0)) 69 (upd (upd (upd (σ 69) 13 ((σ 69 13) + 1)) 16 0) 18 0)) (p + 1) C [] 0 := ⟨MVc.zp hv, hpN, by show C.length + 0 ≤ p + 1; omega, by show 0 ≤ p + 1; omega, rfl, by omega⟩
      refine ⟨_, EV.sumM (d := d + 2) hT (by show ¬ (2 ≤ 0 ∧ 0 ≤ 6); omega), ?_⟩
      intro y s hy
      obtain ⟨f2, hy⟩ := hy
      have f02 : F5 σ s := F5.tr (F5.s69 (F5.s69 (F5.s8 (F5.s69 (F5.s8 F5.rf (by decide)) (by decide)) (by decide)) (by decide)) (by decide)) f2.f5
      rw [show 6 - 0 = 6 from rfl] at hy
      cases hs : smm ch N (fct ch N 6) (p + 1) with
      | error e =>
        rw [hs] at hy
        obtain ⟨rfl, he⟩ := hy
        refine ⟨fun z => absurd rfl z, fun _ => hR 0 s f02 ?_⟩
        unfold clq
        rw [if_neg hl0, hs]
        exact ⟨rfl, he⟩
      | ok v =>
        obtain ⟨q, ce⟩ := v
        rw [hs] at hy
        obtain ⟨rfl, hT1⟩ := hy
        obtain ⟨g1, g2, g3⟩ := smm_kg hc 6 _ _ _ hs
        have k19 : s 69 19 = nI n := by
          rw [f2.2 19 (by decide) (by decide) (by decide)]
          exact hn
        refine ⟨fun _ => ⟨vn _ k19, ?_⟩, fun z => absurd z (by decide)⟩
        rw [k19, cl_nI (show n < 2 ^ 31 by omega), hT1.1.2.2.2.2.1, List.length_append]
        refine tail _ q ce [] 0 (f02.s8 (by decide)) hT1.1 g3 (by omega) k19 ?_ ?_ ?_ ?_ ?_
        · show s 83 = _
          rw [f2.1 83 (by decide) (by decide) (by decide)]
          show upd (σ 83) n (ch p) = _
          rw [hlc]
        · show s 84 = _
          rw [f2.1 84 (by decide) (by decide) (by decide)]
          show upd (σ 84) (upd (σ 69) 13 ((σ 69 13) + 1) 19).toNatClampNeg (upd (σ 69) 13 ((σ 69 13) + 1) 17) = _
          rw [upd_ne _ _ (by decide), upd_ne _ _ (by decide), hn, cl_nI (by omega), h17]
        · show upd (s 85) n (nI (C.length + ce.length)) = _
          rw [f2.1 85 (by decide) (by decide) (by decide)]
          rfl
        · show s 86 = _
          rw [f2.1 86 (by decide) (by decide) (by decide)]
          rfl
        · intro y u f h
          refine hR y u f ?_
          unfold clq
          rw [if_neg hl0, hs]
          dsimp only
          cases hb : brk ch N q (C.length + ce.length) with
          | error e => rw [hb] at h; exact h
          | ok v => rw [hb] at h; exact h
