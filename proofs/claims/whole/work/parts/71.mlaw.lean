/-! the whole TEXT, by the reference -/
theorem EV.takesM {ch : Nat → Int32} {N d p o : Nat} {C W : Cd} {σ : QS} {x : Int32} (hv : MV ch N σ p C W o) (hp : p ≤ N) : EV (d + 1) 125 0 [some (.inr 69), some (.inl x)] [] σ (qI (fun y s => FR σ s ∧ ((ch p = x ∧ y = 1 ∧ MV ch N s (p + 1) C W o) ∨ (¬ ch p = x ∧ y = 0 ∧ s 69 15 = flt 1 p)))) := by
  refine pM_takes_0 (ex_I (EV.hereM hv hp) ⟨fun q => ⟨1, rfl, FR.rf.s69 (by decide), Or.inl ⟨q, rfl, MVc.place hv⟩⟩, fun q => ⟨_, EV.wrongM 1 hv.2.1, ?_⟩⟩)
  rintro y s ⟨rfl, f, e⟩
  exact ⟨Or.inl rfl, 0, rfl, f, Or.inr ⟨q, rfl, e⟩⟩
def fl : Cl → Cd
  | [] => []
  | (_, ce, cc) :: R => ce ++ cc ++ fl R
def ClM (s : QS) : Cl → Nat → Nat → Prop
  | [], _, _ => True
  | (l, ce, cc) :: R, a, n => s 83 n = ltr l ∧ s 84 n = nI a ∧ s 85 n = nI (a + ce.length) ∧ s 86 n = nI (a + ce.length + cc.length) ∧ ClM s R (a + ce.length + cc.length) (n + 1)
def LQ (ch : Nat → Int32) (N : Nat) (σ : QS) (C : Cd) (n : Nat) (res : Except Int32 Cl) (y : Int32) (s : QS) : Prop := F5 σ s ∧ match res with
  | .error e => y = 0 ∧ s 69 15 = e
  | .ok L => y = 1 ∧ MV ch N s N (C ++ fl L) [] 0 ∧ (C ++ fl L).length ≤ N ∧ s 69 19 = nI (n + L.length) ∧ n + L.length ≤ 14 ∧ ClM s L C.length n ∧ ∀ j, j < n → s 83 j = σ 83 j ∧ s 84 j = σ 84 j ∧ s 85 j = σ 85 j ∧ s 86 j = σ 86 j
theorem EV.clsM {ch : Nat → Int32} {N d : Nat} {w n0 : Int32} {w4 : Option QV} {Q : QQ} : ∀ m n p C σ, n + m = 14 → MU ch N σ p C → p ≤ N → C.length ≤ p → σ 69 19 = nI n → (∀ y s, LQ ch N σ C n (cls ch N m p C.length) y s → EV (d + 8) 143 8 [some (.inr 69), some (.inl w), some (.inl n0), some (.inl y), w4] [] s Q) → ∃ R : Int32 → QS → Prop, EV (d + 7) 142 0 [some (.inr 69), none] [] σ (qI R) ∧ ∀ y s, R y s → (y = 0 ∨ y = 1) ∧ EV (d + 8) 143 8 [some (.inr 69), some (.inl w), some (.inl n0), some (.inl y), w4] [] s Q := by
  intro m
  induction m with
  | zero =>
    intro n p C σ hm hv hp hC h19 hQ
    refine ⟨_, EV.clauseM (d := d) hv hp hC h19 (by omega), ?_⟩
    rintro y s ⟨f, h⟩
    unfold cls at hQ
    cases hl : ltO (ch p) with
    | none =>
      rw [hl] at h hQ
      obtain ⟨rfl, e⟩ := h
      exact ⟨Or.inl rfl, hQ 0 s ⟨f, rfl, e⟩⟩
    | some l =>
      rw [hl] at h hQ
      dsimp only at h
      rw [if_pos (show n = 14 by omega)] at h
      obtain ⟨rfl, e⟩ := h
      exact ⟨Or.inl rfl, hQ 0 s ⟨f, rfl, e⟩⟩
  | succ m ih =>
    intro n p C σ hm hv hp hC h19 hQ
    have hN := hv.1.2.1
    have hc := hv.1.1
    refine ⟨_, EV.clauseM (d := d) hv hp hC h19 (by omega), ?_⟩
    rintro y s ⟨f, h⟩
    unfold cls at hQ
    cases hl : ltO (ch p) with
    | none =>
      rw [hl] at h hQ
      obtain ⟨rfl, e⟩ := h
      exact ⟨Or.inl rfl, hQ 0 s ⟨f, rfl, e⟩⟩
    | some l =>
      rw [hl] at h hQ
      dsimp only at h hQ
      rw [if_neg (show ¬ n = 14 by omega)] at h
      cases hq : clq ch N l (p + 1) C.length with
      | error e =>
        rw [hq] at h hQ
        obtain ⟨rfl, e⟩ := h
        exact ⟨Or.inl rfl, hQ 0 s ⟨f, rfl, e⟩⟩
      | ok v =>
        obtain ⟨r, ce, cc⟩ := v
        rw [hq] at h hQ
        dsimp only at hQ
        obtain ⟨rfl, hvs, e19, e83, e84, e85, e86⟩ := h
        obtain ⟨g1, g2, g3, -⟩ := clq_kg hc hN (by omega) hq
        have el : (C ++ ce ++ cc).length = C.length + ce.length + cc.length := by rw [List.length_append, List.length_append]
        refine ⟨Or.inr rfl, ?_⟩
        by_cases hr : r < N
        · rw [if_pos hr] at hQ
          refine pM_law_8 ⟨fun z => absurd z (by decide), fun _ => ⟨fun z => absurd z (by rw [hvs.2.1, hvs.2.2.1]; exact nI_nle' hr (by omega)), fun _ => ⟨_, EV.takesM (d := d + 6) hvs g3, ?_⟩⟩⟩
          rintro y2 s2 ⟨f2, ⟨q59, rfl, hv2⟩ | ⟨q59, rfl, e⟩⟩
          · rw [if_pos q59] at hQ
            refine ⟨fun z => absurd z (by decide), fun _ => ?_⟩
            obtain ⟨R, hR1, hR2⟩ := ih (n + 1) (r + 1) (C ++ ce ++ cc) s2 (by omega) hv2.u (by omega) (by omega) (by rw [f2.2 19 (by decide) (by decide) (by decide)]; exact e19) (by
              intro y3 s3 h3
              refine hQ y3 s3 ⟨(f.tr f2.f5).tr h3.1, ?_⟩
              obtain ⟨f3, h3⟩ := h3
              rw [el] at h3
              cases hcl : cls ch N m (r + 1) (C.length + ce.length + cc.length) with
              | error e => rw [hcl] at h3; exact h3
              | ok L =>
                rw [hcl] at h3
                obtain ⟨k1, k2, k3, k4, k5, k6, k7⟩ := h3
                have b83 := f2.1 83 (by decide) (by decide) (by decide)
                have b84 := f2.1 84 (by decide) (by decide) (by decide)
                have b85 := f2.1 85 (by decide) (by decide) (by decide)
                have b86 := f2.1 86 (by decide) (by decide) (by decide)
                have eL : C ++ fl ((l, ce, cc) :: L) = C ++ ce ++ cc ++ fl L := by
                  show C ++ (ce ++ cc ++ fl L) = _
                  simp
                obtain ⟨n1, n2, n3, n4⟩ := k7 n (by omega)
                refine ⟨k1, by rw [eL]; exact k2, by rw [eL]; exact k3, by rw [k4, List.length_cons]; congr 1; omega, by rw [List.length_cons]; omega, ⟨by rw [n1, b83, e83, upd_eq], by rw [n2, b84, e84, upd_eq], by rw [n3, b85, e85, upd_eq], by rw [n4, b86, e86, upd_eq], ?_⟩, fun j hj => ?_⟩
                · exact k6
                · obtain ⟨m1, m2, m3, m4⟩ := k7 j (by omega)
                  rw [m1, m2, m3, m4, b83, b84, b85, b86, e83, e84, e85, e86, upd_ne _ _ (by omega), upd_ne _ _ (by omega), upd_ne _ _ (by omega), upd_ne _ _ (by omega)]
                  exact ⟨rfl, rfl, rfl, rfl⟩)
            refine ⟨R, hR1, fun y3 s3 h3 => ?_⟩
            obtain ⟨hy, hE⟩ := hR2 y3 s3 h3
            refine ⟨fun z => by rw [z] at hE; exact hE, fun z => ?_⟩
            rcases hy with z2 | z2
            · exact absurd z2 z
            · rw [z2] at hE; exact hE
          · rw [if_neg q59] at hQ
            exact ⟨fun _ => hQ 0 s2 ⟨f.tr f2.f5, rfl, e⟩, fun z => absurd rfl z⟩
        · rw [if_neg hr] at hQ
          have hrN : r = N := by omega
          subst hrN
          refine hQ 1 s ⟨f, rfl, ?_, ?_, e19, by show n + 1 ≤ 14; omega, ⟨by rw [e83, upd_eq], by rw [e84, upd_eq], by rw [e85, upd_eq], by rw [e86, upd_eq], trivial⟩, fun j hj => ?_⟩
          · have eL : C ++ fl [(l, ce, cc)] = C ++ ce ++ cc := by
              show C ++ (ce ++ cc ++ []) = _
              simp
            rw [eL]
            exact hvs
          · have eL : (C ++ fl [(l, ce, cc)]).length = C.length + ce.length + cc.length := by
              show (C ++ (ce ++ cc ++ [])).length = _
              simp
              omega
            omega
          · rw [e83, e84, e85, e86, upd_ne _ _ (by omega), upd_ne _ _ (by omega), upd_ne _ _ (by omega), upd_ne _ _ (by omega)]
            exact ⟨rfl, rfl, rfl, rfl⟩
/-! what is read is taken over -/
def cpy (f g : Nat → Int32) (b j : Nat) (i : Nat) : Int32 := if b ≤ i ∧ i < b + j then g (i - b) else f i
theorem cpy_0 (f g : Nat → Int32) (b : Nat) : cpy f g b 0 = f := by
  funext i
  unfold cpy
  rw [if_neg (by omega)]
theorem cpy_s (f g : Nat → Int32) (b j : Nat) : upd (cpy f g b j) (b + j) (g j) = cpy f g b (j + 1) := by
  funext i
  by_cases e : i = b + j
  · subst e
    unfold cpy
    rw [upd_eq, if_pos (by omega), show b + j - b = j by omega]
  · rw [upd_ne _ _ e]
    unfold cpy
    by_cases q : b ≤ i ∧ i < b + j
    · rw [if_pos q, if_pos (by omega)]
    · rw [if_neg q, if_neg (by omega)]
theorem EV.copyM {d w cnt : Nat} {n v3 : Int32} {σ : QS} {Q : QQ} (hw : w < 2) (h17 : σ 69 17 = nI cnt) (hc : cnt ≤ 200) (hQ : EV (d + 8) 143 23 [some (.inr 69), some (.inl (nI w)), some (.inl n), some (.inl v3), some (.inl 0)] [] (q_set σ 87 (cpy (σ 87) (σ 81) (220 * w) cnt)) Q) : ∀ m k, k + m = cnt → EV (d + 8) 143 20 [some (.inr 69), some (.inl (nI w)), some (.inl n), some (.inl v3), some (.inl (nI k))] [] (q_set σ 87 (cpy (σ 87) (σ 81) (220 * w) k)) Q := by
  have e69 : ∀ f, q_set σ 87 f 69 = σ 69 := fun f => q_set_ne _ _ (by decide)
  have e81 : ∀ f, q_set σ 87 f 81 = σ 81 := fun f => q_set_ne _ _ (by decide)
  intro m
  induction m with
  | zero =>
    intro k hk
    refine pM_law_20 ?_
    rw [e69, h17]
    refine ⟨fun _ => ?_, fun q => absurd (nI_le' (by omega) (by omega)) q⟩
    rw [show k = cnt by omega]
    exact hQ
  | succ m ih =>
    intro k hk
    refine pM_law_20 ?_
    rw [e69, h17, e81, cl_nI (show k < 2 ^ 31 by omega), show 220 * nI w = nI (220 * w) from pk_mul 220 w, nI_add, cl_nI (show 220 * w + k < 2 ^ 31 by omega), nI_p1, q_set_eq, q_set_same, cpy_s]
    exact ⟨fun q => absurd q (nI_nle' (by omega) (by omega)), fun _ => ⟨vp_in_nI (by omega) (by decide), vp_in_nI (by omega) (by decide), ih (k + 1) (by omega)⟩⟩
def I4 (σ s : QS) (w j : Nat) : Prop := (∀ c, ¬ (89 ≤ c ∧ c ≤ 92) → s c = σ c) ∧ s 89 = cpy (σ 89) (σ 83) (14 * w) j ∧ s 90 = cpy (σ 90) (fun i => nI (220 * w) + σ 84 i) (14 * w) j ∧ s 91 = cpy (σ 91) (fun i => nI (220 * w) + σ 85 i) (14 * w) j ∧ s 92 = cpy (σ 92) (fun i => nI (220 * w) + σ 86 i) (14 * w) j
theorem EV.copyC {d w cnt : Nat} {n v3 : Int32} {σ : QS} {Q : QQ} (hw : w < 2) (h19 : σ 69 19 = nI cnt) (hc : cnt ≤ 14) (hQ : ∀ s, I4 σ s w cnt → Q (some (nI cnt)) s) : ∀ m k s, k + m = cnt → I4 σ s w k → EV (d + 8) 143 23 [some (.inr 69), some (.inl (nI w)), some (.inl n), some (.inl v3), some (.inl (nI k))] [] s Q := by
  intro m
  induction m with
  | zero =>
    intro k s hk h
    refine pM_law_23 ?_
    rw [h.1 69 (by decide), h19]
    refine ⟨fun _ => hQ s ?_, fun q => absurd (nI_le' (by omega) (by omega)) q⟩
    rw [show cnt = k by omega]
    exact h
  | succ m ih =>
    intro k s hk h
    refine pM_law_23 ?_
    rw [h.1 69 (by decide), h19, cl_nI (show k < 2 ^ 31 by omega), show 220 * nI w = nI (220 * w) from pk_mul 220 w, show 14 * nI w = nI (14 * w) from pk_mul 14 w, nI_add, cl_nI (show 14 * w + k < 2 ^ 31 by omega), nI_p1]
    have v1 : vp_in (nI k) 14 := vp_in_nI (by omega) (by decide)
    have v2 : vp_in (nI (14 * w + k)) 28 := vp_in_nI (by omega) (by decide)
    obtain ⟨h0, h1, h2, h3, h4⟩ := h
    refine ⟨fun q => absurd q (nI_nle' (by omega) (by omega)), fun _ => ⟨v1, v2, v1, v2, v1, v2, v1, v2, ih (k + 1) _ (by omega) ⟨fun c hc => ?_, ?_, ?_, ?_, ?_⟩⟩⟩
    · rw [q_set_ne _ _ (by omega), q_set_ne _ _ (by omega), q_set_ne _ _ (by omega), q_set_ne _ _ (by omega)]
      exact h0 c hc
    · rw [q_set_ne _ _ (by decide), q_set_ne _ _ (by decide), q_set_ne _ _ (by decide), q_set_eq, h1, h0 83 (by decide), cpy_s]
    · rw [q_set_ne _ _ (by decide), q_set_ne _ _ (by decide), q_set_eq, h2, h0 84 (by decide), ← cpy_s]
    · rw [q_set_ne _ _ (by decide), q_set_eq, h3, h0 85 (by decide), ← cpy_s]
    · rw [q_set_eq, h4, h0 86 (by decide), ← cpy_s]
/-! the reference's law -/
def chM (σ : QS) (n : Nat) (i : Nat) : Int32 := if i < n then σ 80 i &&& 255 else -1
theorem chM_Ch (σ : QS) (n : Nat) : Ch (chM σ n) n := by
  refine ⟨fun p hp => ?_, fun p hp => ?_⟩
  · unfold chM; rw [if_neg (by omega)]
  · unfold chM
    rw [if_pos hp]
    exact pk_andE (σ 80 p) 8 (by decide)
def FM (σ s : QS) : Prop := (∀ c, ¬ (c = 69 ∨ 81 ≤ c ∧ c ≤ 92) → s c = σ c) ∧ (∀ k, ¬ (12 ≤ k ∧ k ≤ 20) → s 69 k = σ 69 k) ∧ s 69 12 = 0
def OKM (σ s : QS) (w : Nat) (L : Cl) : Prop := L.length ≤ 14 ∧ (fl L).length ≤ 200 ∧ s 88 = upd (σ 88) w (nI L.length) ∧ (∃ B, CR B (fl L) ∧ s 87 = cpy (σ 87) B (220 * w) (fl L).length) ∧ ∃ τ, ClM τ L 0 0 ∧ s 89 = cpy (σ 89) (τ 83) (14 * w) L.length ∧ s 90 = cpy (σ 90) (fun i => nI (220 * w) + τ 84 i) (14 * w) L.length ∧ s 91 = cpy (σ 91) (fun i => nI (220 * w) + τ 85 i) (14 * w) L.length ∧ s 92 = cpy (σ 92) (fun i => nI (220 * w) + τ 86 i) (14 * w) L.length
theorem EV.lawM {d w n : Nat} {σ : QS} (hw : w < 2) (hn : 1 ≤ n) (hn2 : n ≤ 200) (ht : nI n ≤ σ 69 12) : EV (d + 8) 143 0 [some (.inr 69), some (.inl (nI w)), some (.inl (nI n)), none, none] [] σ (qI (fun y s => FM σ s ∧ match cls (chM σ n) n 14 0 0 with
    | .error e => y = e ∧ ∀ c, 87 ≤ c ∧ c ≤ 92 → s c = σ c
    | .ok L => y = nI L.length ∧ OKM σ s w L)) := by
  have g1 : ¬ nI w < 0 := nI_pos (by omega)
  have g2 : ¬ 1 < nI w := fun z => by have := (nI_ltI (a := 1) (by decide) (by omega)).mp z; omega
  have g3 : ¬ nI n < 1 := fun z => by have := (nI_ltI (b := 1) (by omega) (by decide)).mp z; omega
  have g4 : ¬ 200 < nI n := fun z => by have := (nI_ltI (a := 200) (by decide) (by omega)).mp z; omega
  refine pM_law_0 ⟨fun z => absurd z g1, fun _ => ⟨fun z => absurd z g2, fun _ => ⟨fun z => absurd z g3, fun _ => ⟨fun z => absurd z g4, fun _ => ⟨fun _ => ?_, fun z => absurd ht z⟩⟩⟩⟩⟩
  let g0 : Nat → Int32 := upd (upd (upd (upd (σ 69) 13 0) 14 (nI n)) 17 0) 19 0
  have eσ : q_set (q_set (q_set (q_set σ 69 (upd (σ 69) 13 0)) 69 (upd (upd (σ 69) 13 0) 14 (nI n))) 69 (upd (upd (upd (σ 69) 13 0) 14 (nI n)) 17 0)) 69 (upd (upd (upd (upd (σ 69) 13 0) 14 (nI n)) 17 0) 19 0) = q_set σ 69 g0 := by
    rw [q_set_same, q_set_same, q_set_same]
  rw [eσ]
  have hg0 : ∀ k, ¬ (12 ≤ k ∧ k ≤ 20) → g0 k = σ 69 k := fun k hk => by
    show upd (upd (upd (upd (σ 69) 13 0) 14 (nI n)) 17 0) 19 0 k = _
    rw [upd_ne _ _ (by omega), upd_ne _ _ (by omega), upd_ne _ _ (by omega), upd_ne _ _ (by omega)]
  have hu : MU (chM σ n) n (q_set σ 69 g0) 0 [] := ⟨⟨chM_Ch σ n, hn2, fun i hi => by unfold chM; rw [if_pos hi]; rfl⟩, rfl, rfl, rfl, rfl, rfl, fun j x h => (by cases h), trivial⟩
  obtain ⟨R, hR1, hR2⟩ := EV.clsM (d := d) (w := nI w) (n0 := nI n) (w4 := none) (Q := qI (fun y s => FM σ s ∧ match cls (chM σ n) n 14 0 0 with
    | .error e => y = e ∧ ∀ c, 87 ≤ c ∧ c ≤ 92 → s c = σ c
    | .ok L => y = nI L.length ∧ OKM σ s w L)) 14 0 0 [] (q_set σ 69 g0) rfl hu (by omega) (by show 0 ≤ 0; omega) rfl (by
    intro y s ⟨f, h⟩
    have fc : ∀ c, ¬ (c = 69 ∨ 81 ≤ c ∧ c ≤ 86) → s c = σ c := fun c hc => by
      rw [f.1 c (by omega) (by omega), q_set_ne _ _ (by omega)]
    have fk : ∀ k, ¬ (12 ≤ k ∧ k ≤ 20) → s 69 k = σ 69 k := fun k hk => by
      rw [f.2 k (by omega) (by omega), q_set_eq]
      exact hg0 k hk
    rw [show List.length ([] : Cd) = 0 from rfl] at h
    cases hcl : cls (chM σ n) n 14 0 0 with
    | error e =>
      rw [hcl] at h
      obtain ⟨rfl, he⟩ := h
      refine pM_law_8 ⟨fun _ => ⟨fun z => absurd rfl z, fun _ => ⟨_, rfl, ⟨fun c hc => ?_, fun k hk => ?_, ?_⟩, ?_, fun c hc => ?_⟩⟩, fun z => absurd rfl z⟩
      · rw [q_set_ne _ _ (by omega)]; exact fc c (by omega)
      · rw [q_set_eq, upd_ne _ _ (by omega)]; exact fk k hk
      · rw [q_set_eq, upd_eq]
      · rw [upd_ne _ _ (by decide)]; exact he
      · rw [q_set_ne _ _ (by omega)]; exact fc c (by omega)
    | ok L =>
      rw [hcl] at h
      obtain ⟨rfl, hv, hln, h19, h14, hcm, -⟩ := h
      rw [List.nil_append] at hv hln
      rw [Nat.zero_add] at h19 h14
      have cw : (nI w).toNatClampNeg = w := cl_nI (by omega)
      refine pM_law_8 ⟨fun z => absurd z (by decide), fun _ => ⟨fun _ => ⟨fun _ => ⟨vp_in_nI hw (by decide), ?_⟩, fun z => absurd z (by decide)⟩, fun z => absurd (by rw [hv.2.1, hv.2.2.1]; exact nI_le' (Nat.le_refl _) (by omega)) z⟩⟩
      rw [cw, show upd (s 69) 12 0 19 = nI L.length from h19]
      have key : ∀ σ1, σ1 = q_set (q_set s 69 (upd (s 69) 12 0)) 88 (upd (s 88) w (nI L.length)) → EV (d + 8) 143 20 [some (.inr 69), some (.inl (nI w)), some (.inl (nI n)), some (.inl 1), some (.inl 0)] [] σ1 (qI (fun y s => FM σ s ∧ match (Except.ok L : Except Int32 Cl) with
          | .error e => y = e ∧ ∀ c, 87 ≤ c ∧ c ≤ 92 → s c = σ c
          | .ok L => y = nI L.length ∧ OKM σ s w L)) := by
        intro σ1 e1
        have k17 : σ1 69 17 = nI (fl L).length := by rw [e1]; exact hv.2.2.2.2.1
        have k19 : σ1 69 19 = nI L.length := by rw [e1]; exact h19
        have a1 : ∀ c, c ≠ 69 → c ≠ 88 → σ1 c = s c := fun c h1 h2 => by rw [e1, q_set_ne _ _ h2, q_set_ne _ _ h1]
        have a2 : ∀ k, k ≠ 12 → σ1 69 k = s 69 k := fun k hk => by rw [e1, q_set_ne _ _ (by decide), q_set_eq, upd_ne _ _ hk]
        have a3 : σ1 69 12 = 0 := by rw [e1, q_set_ne _ _ (by decide), q_set_eq, upd_eq]
        have a4 : σ1 88 = upd (σ 88) w (nI L.length) := by rw [e1, q_set_eq, fc 88 (by decide)]
        have this := EV.copyM (d := d) (σ := σ1) (n := nI n) (v3 := 1) (cnt := (fl L).length) (Q := qI (fun y s => FM σ s ∧ match (Except.ok L : Except Int32 Cl) with
          | .error e => y = e ∧ ∀ c, 87 ≤ c ∧ c ≤ 92 → s c = σ c
          | .ok L => y = nI L.length ∧ OKM σ s w L)) hw k17 (by omega) (EV.copyC (cnt := L.length) hw (by rw [q_set_ne _ _ (by decide)]; exact k19) h14 (fun t ht => ?_) L.length 0 _ (by omega) ⟨fun _ _ => rfl, (cpy_0 _ _ _).symm, (cpy_0 _ _ _).symm, (cpy_0 _ _ _).symm, (cpy_0 _ _ _).symm⟩) (fl L).length 0 (by omega)
        · rw [cpy_0, q_set_id] at this
          exact this
        · obtain ⟨t0, t1, t2, t3, t4⟩ := ht
          refine ⟨_, rfl, ⟨fun c hc => ?_, fun k hk => ?_, ?_⟩, rfl, h14, by omega, ?_, ⟨s 81, hv.2.2.2.2.2.2.1, ?_⟩, s, hcm, ?_, ?_, ?_, ?_⟩
          · rw [t0 c (by omega), q_set_ne _ _ (by omega), a1 c (by omega) (by omega)]
            exact fc c (by omega)
          · rw [t0 69 (by decide), q_set_ne _ _ (by decide), a2 k (by omega)]
            exact fk k hk
          · rw [t0 69 (by decide), q_set_ne _ _ (by decide)]
            exact a3
          · rw [t0 88 (by decide), q_set_ne _ _ (by decide)]
            exact a4
          · rw [t0 87 (by decide), q_set_eq, a1 87 (by decide) (by decide), a1 81 (by decide) (by decide), fc 87 (by decide)]
          · rw [t1, q_set_ne _ _ (by decide), q_set_ne _ _ (by decide), a1 89 (by decide) (by decide), a1 83 (by decide) (by decide), fc 89 (by decide)]
          · rw [t2, q_set_ne _ _ (by decide), q_set_ne _ _ (by decide), a1 90 (by decide) (by decide), a1 84 (by decide) (by decide), fc 90 (by decide)]
          · rw [t3, q_set_ne _ _ (by decide), q_set_ne _ _ (by decide), a1 91 (by decide) (by decide), a1 85 (by decide) (by decide), fc 91 (by decide)]
          · rw [t4, q_set_ne _ _ (by decide), q_set_ne _ _ (by decide), a1 92 (by decide) (by decide), a1 86 (by decide) (by decide), fc 92 (by decide)]
      exact key _ rfl)
  exact ⟨R, hR1, fun y s h => (hR2 y s h).2⟩
