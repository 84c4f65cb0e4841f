/-! the class's law -/
theorem EV.fill7 {d : Nat} {v : Int32} {σ : QS} : ∀ m k s, k + m = 7 → (∀ c, c ≠ 38 → s c = σ c) → (∀ c, c < k → s 38 c = v) → EV d 200 1 [some (.inr 38), some (.inl v), some (.inl (nI k)), some (.inl (nI 7))] [] s (qV (fun t => (∀ c, c ≠ 38 → t c = σ c) ∧ ∀ c, c < 7 → t 38 c = v)) := by
  intro m
  induction m with
  | zero =>
    intro k s hk h1 h2
    exact pJ_fill_1 ⟨fun _ => ⟨rfl, h1, fun c hc => h2 c (by omega)⟩, fun q => absurd (nI_le' (by omega) (by omega)) q⟩
  | succ m ih =>
    intro k s hk h1 h2
    refine pJ_fill_1 ?_
    rw [cl_nI (show k < 2 ^ 31 by omega), nI_p1]
    refine ⟨fun q => absurd q (nI_nle' (by omega) (by omega)), fun _ => ⟨vp_in_nI (by omega) (by decide), ih (k + 1) _ (by omega) (fun c hc => ?_) (fun c hc => ?_)⟩⟩
    · rw [q_set_ne _ _ hc]; exact h1 c hc
    · rw [q_set_eq]
      by_cases e : c = k
      · rw [e, upd_eq]
      · rw [upd_ne _ _ e]; exact h2 c (by omega)
theorem EV.clearR {d : Nat} {σ : QS} : EV (d + 1) 22 0 [some (.inr 31)] [] σ (qV (fun s => (∀ c, c ≠ 31 → c ≠ 38 → s c = σ c) ∧ s 31 0 = 0 ∧ s 31 1 = 0 ∧ ∀ c, c < 7 → s 38 c = 0)) := by
  refine pS_clear_0 ⟨_, pJ_fill_0 (EV.fill7 7 0 _ (by omega) (fun _ _ => rfl) (fun c hc => absurd hc (Nat.not_lt_zero _))), ?_⟩
  rintro s ⟨h1, h2⟩
  refine ⟨rfl, fun c a b => ?_, ?_, ?_, h2⟩
  · rw [h1 c b, q_set_ne _ _ a, q_set_ne _ _ a]
  · rw [h1 31 (by decide), q_set_eq, upd_ne _ _ (by decide), upd_eq]
  · rw [h1 31 (by decide), q_set_eq, upd_eq]
theorem EV.next0 {ch : Nat → Int32} {N d : Nat} {s : QS} (ht : Tx s ch N) (h1 : s 41 2 = nI N) (h2 : s 41 3 = -1) (hN : 1 ≤ N) : EV d 36 0 [some (.inr 41)] [] s (qV (fun t => (∀ c, c ≠ 41 → t c = s c) ∧ t 41 2 = nI N ∧ t 41 3 = nI 0 ∧ t 41 4 = cs (ch 0) ∧ t 41 5 = s 41 5)) := by
  obtain ⟨a1, a2, a3⟩ := ht
  have e3 : upd (s 41) 3 (s 41 3 + 1) 3 = nI 0 := by rw [upd_eq, h2]; rfl
  have e2 : upd (s 41) 3 (s 41 3 + 1) 2 = nI N := by rw [upd_ne _ _ (by decide)]; exact h1
  refine pR_next_0 ?_
  rw [e2, e3]
  obtain ⟨j, hj, ej⟩ := a1.2 0 (by omega)
  rw [cl_nI (by omega), a3 0 (by omega), ej, chr_id j hj]
  refine ⟨fun q => absurd q (nI_nle' (by omega) (by omega)), fun _ => ⟨vp_in_nI (by omega) (by decide), fit2 (by omega), rfl, fun c hc => ?_, ?_, ?_, ?_, ?_⟩⟩
  · rw [q_set_ne _ _ hc, q_set_ne _ _ hc]
  · rw [q_set_eq, upd_ne _ _ (by decide)]; exact e2
  · rw [q_set_eq, upd_ne _ _ (by decide)]; exact e3
  · rw [q_set_eq, upd_eq]
    unfold cs
    rw [if_neg (nI_nem (by omega))]
  · rw [q_set_eq, upd_ne _ _ (by decide), upd_ne _ _ (by decide)]
theorem EV.readX {ch : Nat → Int32} {d n : Nat} {σ : QS} (hd : 24 ≤ d) (hn : 1 ≤ n) (hT : Tx σ ch n) : EV (d + 10) 35 0 [some (.inr 41), some (.inl (nI n)), none, none, none] [] σ (qI (fun y s => (∀ c, ¬ (31 ≤ c ∧ c ≤ 38) → c ≠ 41 → s c = σ c) ∧ match cls ch n 14 0 0 with
    | .error e => y = e
    | .ok L => y = 0 ∧ s 31 0 = nI L.length ∧ L.length ≤ 14 ∧ s 31 1 = nI (zl L) ∧ zl L ≤ n ∧ ClC s L 0 0 0 ∧ Lt s L 0 (fun _ => 0))) := by
  have hN := hT.2.1
  have e220 : (if (Int32.ofNat 220) < nI n then (Int32.ofNat 220) else nI n) = nI n := if_neg (fun q => by have := (nI_ltI (a := 220) (by decide) (by omega)).mp q; omega)
  refine pR_read_0 ⟨_, EV.clearR (d := d + 8), ?_⟩
  rw [e220, q_set_same, q_set_same]
  rintro s2 ⟨k1, k2, k3, k4⟩
  have e41 : s2 41 = upd (upd (upd (σ 41) 2 (nI n)) 3 (-1)) 5 0 := by rw [k1 41 (by decide) (by decide), q_set_eq]
  have fc : ∀ c, c ≠ 31 → c ≠ 38 → c ≠ 41 → s2 c = σ c := fun c a b e => by rw [k1 c a b, q_set_ne _ _ e]
  have T2 : Tx s2 ch n := ⟨hT.1, hT.2.1, fun i hi => by rw [fc 12 (by decide) (by decide) (by decide)]; exact hT.2.2 i hi⟩
  refine ⟨_, EV.next0 T2 (by rw [e41, upd_ne _ _ (by decide), upd_ne _ _ (by decide), upd_eq]) (by rw [e41, upd_ne _ _ (by decide), upd_eq]) hn, ?_⟩
  rintro s4 ⟨m1, m2, m3, m4, m5⟩
  have S4 : St ch n s4 0 0 := ⟨⟨hT.1, hT.2.1, fun i hi => by rw [m1 12 (by decide)]; exact T2.2.2 i hi⟩, m2, m3, m4, by rw [m1 31 (by decide)]; exact k3, Nat.le_refl _, by omega⟩
  refine EV.mono (EV.readL (n0 := nI n) hT.1 hN (show 34 ≤ d + 10 by omega) 14 0 0 0 0 0 s4 none (fun _ => 0) (by omega) S4 rfl (by rw [m1 31 (by decide)]; exact k2) (by rw [m5, e41, upd_eq]) (fun c hc => ⟨Nat.le_refl _, by rw [m1 38 (by decide)]; exact k4 c hc⟩)) ?_
  rintro r s ⟨y, rfl, f8, hh⟩
  refine ⟨y, rfl, fun c a b => ?_, ?_⟩
  · rw [f8.1 c a b, m1 c b, fc c (by omega) (by omega) b]
  · cases hc : cls ch n 14 0 0 with
    | error e => rw [hc] at hh; exact hh
    | ok L =>
      rw [hc] at hh
      obtain ⟨h1, h2, h3, h4, h5, -, h7, h8⟩ := hh
      rw [Nat.zero_add] at h2 h3 h4 h5
      exact ⟨h1, h2, h3, h4, h5, h7, h8⟩
/-- what is taken over into a law -/
def Tk (lo : Nat) (σ t : QS) : Prop := (∀ c, ¬ (lo ≤ c ∧ c ≤ lo + 7) → t c = σ c) ∧ t lo 0 = σ 31 0 ∧ t lo 1 = σ 31 1 ∧ (∀ i, i < 200 → t (lo + 1) i = σ 32 i ∧ t (lo + 2) i = σ 33 i) ∧ (∀ j, j < 14 → t (lo + 3) j = σ 34 j ∧ t (lo + 4) j = σ 35 j ∧ t (lo + 5) j = σ 36 j) ∧ (∀ i, i < 98 → t (lo + 6) i = σ 37 i) ∧ ∀ c, c < 7 → t (lo + 7) c = σ 38 c
theorem vcpy0 {f g : Nat → Int32} {n i : Nat} {m : Int32} (hm : m.toNatClampNeg = n) (h : i < n) : va_cpy f g (0 : Int32).toNatClampNeg (0 : Int32).toNatClampNeg m.toNatClampNeg i = f i := by
  rw [hm]
  have := pk_cpy_in (f := f) (g := g) (sp := 0) (dp := 0) (n := n) (j := i) (by omega) (by omega)
  rw [show 0 + (i - 0) = i by omega] at this
  exact this
theorem EV.take0 {d : Nat} {σ : QS} (hf : ∀ i, fits .char (.int (σ 32 i)) = true) : EV d 23 0 [some (.inr 13), some (.inr 31)] [] σ (qV (Tk 13 σ)) := by
  refine pL0_take_0 ⟨⟨by decide, by decide, by decide, by decide, by decide, fun _ i hi => by rw [show (0 : Int32).toNatClampNeg + i = i from Nat.zero_add i]; exact hf i⟩, ⟨by decide, by decide, by decide, by decide, by decide, fun z => absurd z (by decide)⟩, ⟨by decide, by decide, by decide, by decide, by decide, fun z => absurd z (by decide)⟩, ⟨by decide, by decide, by decide, by decide, by decide, fun z => absurd z (by decide)⟩, ⟨by decide, by decide, by decide, by decide, by decide, fun z => absurd z (by decide)⟩, ⟨by decide, by decide, by decide, by decide, by decide, fun z => absurd z (by decide)⟩, ⟨by decide, by decide, by decide, by decide, by decide, fun z => absurd z (by decide)⟩, rfl, fun c hc => ?_, ?_, ?_, fun i hi => ⟨?_, ?_⟩, fun j hj => ⟨?_, ?_, ?_⟩, fun i hi => ?_, fun c hc => ?_⟩
  · rw [q_set_ne _ _ (by omega), q_set_ne _ _ (by omega), q_set_ne _ _ (by omega), q_set_ne _ _ (by omega), q_set_ne _ _ (by omega), q_set_ne _ _ (by omega), q_set_ne _ _ (by omega), q_set_ne _ _ (by omega), q_set_ne _ _ (by omega)]
  · rw [q_set_ne _ _ (by decide), q_set_ne _ _ (by decide), q_set_ne _ _ (by decide), q_set_ne _ _ (by decide), q_set_ne _ _ (by decide), q_set_ne _ _ (by decide), q_set_ne _ _ (by decide), q_set_eq, upd_ne _ _ (by decide), upd_eq]
  · rw [q_set_ne _ _ (by decide), q_set_ne _ _ (by decide), q_set_ne _ _ (by decide), q_set_ne _ _ (by decide), q_set_ne _ _ (by decide), q_set_ne _ _ (by decide), q_set_ne _ _ (by decide), q_set_eq, upd_eq]
  · rw [q_set_ne _ _ (by decide), q_set_ne _ _ (by decide), q_set_ne _ _ (by decide), q_set_ne _ _ (by decide), q_set_ne _ _ (by decide), q_set_ne _ _ (by decide), q_set_eq]; exact vcpy0 (n := 200) (by decide) hi
  · rw [q_set_ne _ _ (by decide), q_set_ne _ _ (by decide), q_set_ne _ _ (by decide), q_set_ne _ _ (by decide), q_set_ne _ _ (by decide), q_set_eq]; exact vcpy0 (n := 200) (by decide) hi
  · rw [q_set_ne _ _ (by decide), q_set_ne _ _ (by decide), q_set_ne _ _ (by decide), q_set_ne _ _ (by decide), q_set_eq]; exact vcpy0 (n := 14) (by decide) hj
  · rw [q_set_ne _ _ (by decide), q_set_ne _ _ (by decide), q_set_ne _ _ (by decide), q_set_eq]; exact vcpy0 (n := 14) (by decide) hj
  · rw [q_set_ne _ _ (by decide), q_set_ne _ _ (by decide), q_set_eq]; exact vcpy0 (n := 14) (by decide) hj
  · rw [q_set_ne _ _ (by decide), q_set_eq]; exact vcpy0 (n := 98) (by decide) hi
  · rw [q_set_eq]; exact vcpy0 (n := 7) (by decide) hc
theorem ClC_cg {s s' : QS} (h1 : ∀ i, i < 200 → s' 32 i = s 32 i ∧ s' 33 i = s 33 i) (h2 : ∀ j, j < 14 → s' 34 j = s 34 j ∧ s' 35 j = s 35 j ∧ s' 36 j = s 36 j) : ∀ (L : Cl) (z sh n : Nat), z + zl L ≤ 200 → n + L.length ≤ 14 → ClC s L z sh n → ClC s' L z sh n
  | [], _, _, _, _, _, _ => trivial
  | (l, ce, cc) :: R, z, sh, n, hz, hn, h => by
    have ezl : zl ((l, ce, cc) :: R) = (ce1 l ce).length + cc.length + zl R := rfl
    rw [List.length_cons] at hn
    obtain ⟨c1, c2, c3, c4, c5, c6⟩ := h
    obtain ⟨k1, k2, k3⟩ := h2 n (by omega)
    refine ⟨k1.trans c1, k2.trans c2, k3.trans c3, fun j x hx => ?_, fun j x hx => ?_, ClC_cg h1 h2 R _ _ _ (by omega) (by omega) c6⟩
    · have hj : j < (ce1 l ce).length := (List.getElem?_eq_some_iff.mp hx).1
      obtain ⟨m1, m2⟩ := h1 (z + j) (by omega)
      rw [m1, m2]
      exact c4 j x hx
    · have hj : j < cc.length := (List.getElem?_eq_some_iff.mp hx).1
      obtain ⟨m1, m2⟩ := h1 (z + (ce1 l ce).length + j) (by omega)
      rw [m1, m2]
      exact c5 j x hx
theorem ClC_set {s : QS} {L : Cl} {z sh n : Nat} {f : Nat → Int32} (h : ClC s L z sh n) : ClC (q_set s 11 f) L z sh n := by
  induction L generalizing z sh n with
  | nil => trivial
  | cons x R ih =>
    obtain ⟨l, ce, cc⟩ := x
    obtain ⟨c1, c2, c3, c4, c5, c6⟩ := h
    exact ⟨c1, c2, c3, c4, c5, ih c6⟩
theorem Lt_set {s : QS} {L : Cl} {n : Nat} {kc : Nat → Nat} {f : Nat → Int32} (h : Lt s L n kc) : Lt (q_set s 11 f) L n kc := h
def LX0 (σ t : QS) (res : Except Int32 Cl) (y : Int32) : Prop := (∀ c, ¬ (c = 0 ∨ c = 11 ∨ 13 ≤ c ∧ c ≤ 20 ∨ 31 ≤ c ∧ c ≤ 38 ∨ c = 41 ∨ c = 61) → t c = σ c) ∧ (∀ k, k ≠ 12 → t 0 k = σ 0 k) ∧ t 11 = upd (σ 11) 1 0 ∧ match res with
  | .error e => y = e ∧ ∀ c, (c = 0 ∨ 13 ≤ c ∧ c ≤ 20 ∨ c = 61) → t c = σ c
  | .ok L => y = nI L.length ∧ t 0 12 = 0 ∧ t 61 3 = 0 ∧ ∃ s s', s 31 0 = nI L.length ∧ s 31 1 = nI (zl L) ∧ L.length ≤ 14 ∧ zl L ≤ 200 ∧ ClC s L 0 0 0 ∧ Lt s L 0 (fun _ => 0) ∧ Tk 13 s s' ∧ ∀ c, 13 ≤ c ∧ c ≤ 20 → t c = s' c
theorem EV.lawX0 {ch : Nat → Int32} {d n : Nat} {σ : QS} (hd : 24 ≤ d) (hn : 1 ≤ n) (hT : Tx σ ch n) (ht : nI n ≤ σ 11 1) (hF : FCh σ) : EV (d + 11) 74 0 [some (.inr 0), some (.inl 0), some (.inl (nI n)), none] [] σ (qI (fun y t => LX0 σ t (cls ch n 14 0 0) y)) := by
  have hN := hT.2.1
  have g3 : ¬ nI n < 1 := fun z => by have := (nI_ltI (b := 1) (by omega) (by decide)).mp z; omega
  have g4 : ¬ 200 < nI n := fun z => by have := (nI_ltI (a := 200) (by decide) (by omega)).mp z; omega
  refine pX_law0_0 ⟨fun z => absurd z g3, fun _ => ⟨fun z => absurd z g4, fun _ => ⟨fun _ => ?_, fun z => absurd ht z⟩⟩⟩
  refine ⟨fun y s => ((∀ c, ¬ (31 ≤ c ∧ c ≤ 38) → c ≠ 41 → s c = σ c) ∧ match cls ch n 14 0 0 with
    | .error e => y = e
    | .ok L => y = 0 ∧ s 31 0 = nI L.length ∧ L.length ≤ 14 ∧ s 31 1 = nI (zl L) ∧ zl L ≤ n ∧ ClC s L 0 0 0 ∧ Lt s L 0 (fun _ => 0)) ∧ FCh s, EV.mono ((EV.readX hd hn hT).fc hF) (fun r s h => ?_), ?_⟩
  · obtain ⟨⟨y, rfl, h⟩, f⟩ := h
    exact ⟨y, rfl, h, f⟩
  rintro y s ⟨⟨fc, h⟩, hF5⟩
  cases hcl : cls ch n 14 0 0 with
  | error e =>
    rw [hcl] at h
    have ne : ¬ y = 0 := by rw [h]; exact (cls_er hT.1 hN 14 0 0 e (by omega) (by omega) hcl).ne hN
    refine ⟨fun z => absurd z ne, fun _ => ⟨y, rfl, fun c hc => ?_, fun k hk => ?_, ?_, h, fun c hc => ?_⟩⟩
    · rw [q_set_ne _ _ (by omega)]; exact fc c (by omega) (by omega)
    · rw [q_set_ne _ _ (by decide), fc 0 (by decide) (by decide)]
    · rw [q_set_eq, fc 11 (by decide) (by decide)]
    · rw [q_set_ne _ _ (by omega)]; exact fc c (by omega) (by omega)
  | ok L =>
    rw [hcl] at h
    obtain ⟨rfl, h1, h2, h3, h4, h5, h6⟩ := h
    refine ⟨fun _ => ⟨_, EV.take0 (fun i => by rw [q_set_ne _ _ (by decide)]; exact hF5 32 (by decide) i), ?_⟩, fun z => absurd rfl z⟩
    intro s9 h9
    have k := h9.1
    refine ⟨q_fit10, q_fit10, _, rfl, fun c hc => ?_, fun k hk => ?_, ?_, ?_, ?_, ?_, q_set s 11 (upd (s 11) 1 0), s9, ?_, ?_, h2, by omega, ?_, ?_, h9, fun c hc => ?_⟩
    · rw [q_set_ne _ _ (by omega), q_set_ne _ _ (by omega), k c (by omega), q_set_ne _ _ (by omega)]; exact fc c (by omega) (by omega)
    · rw [q_set_ne _ _ (by decide), q_set_eq, upd_ne _ _ hk, h9.1 0 (by decide), q_set_ne _ _ (by decide), fc 0 (by decide) (by decide)]
    · rw [q_set_ne _ _ (by decide), q_set_ne _ _ (by decide), k 11 (by decide), q_set_eq, fc 11 (by decide) (by decide)]
    · rw [h9.2.1, q_set_ne _ _ (by decide)]; exact h1
    · rw [q_set_ne _ _ (by decide), q_set_eq, upd_eq]
    · rw [q_set_eq, upd_eq]
    · rw [q_set_ne _ _ (by decide)]; exact h1
    · rw [q_set_ne _ _ (by decide)]; exact h3
    · exact ClC_set h5
    · exact Lt_set h6
    · rw [q_set_ne _ _ (by omega), q_set_ne _ _ (by omega)]
theorem EV.take1 {d : Nat} {σ : QS} (hf : ∀ i, fits .char (.int (σ 32 i)) = true) : EV d 23 0 [some (.inr 22), some (.inr 31)] [] σ (qV (Tk 22 σ)) := by
  refine pL1_take_0 ⟨⟨by decide, by decide, by decide, by decide, by decide, fun _ i hi => by rw [show (0 : Int32).toNatClampNeg + i = i from Nat.zero_add i]; exact hf i⟩, ⟨by decide, by decide, by decide, by decide, by decide, fun z => absurd z (by decide)⟩, ⟨by decide, by decide, by decide, by decide, by decide, fun z => absurd z (by decide)⟩, ⟨by decide, by decide, by decide, by decide, by decide, fun z => absurd z (by decide)⟩, ⟨by decide, by decide, by decide, by decide, by decide, fun z => absurd z (by decide)⟩, ⟨by decide, by decide, by decide, by decide, by decide, fun z => absurd z (by decide)⟩, ⟨by decide, by decide, by decide, by decide, by decide, fun z => absurd z (by decide)⟩, rfl, fun c hc => ?_, ?_, ?_, fun i hi => ⟨?_, ?_⟩, fun j hj => ⟨?_, ?_, ?_⟩, fun i hi => ?_, fun c hc => ?_⟩
  · rw [q_set_ne _ _ (by omega), q_set_ne _ _ (by omega), q_set_ne _ _ (by omega), q_set_ne _ _ (by omega), q_set_ne _ _ (by omega), q_set_ne _ _ (by omega), q_set_ne _ _ (by omega), q_set_ne _ _ (by omega), q_set_ne _ _ (by omega)]
  · rw [q_set_ne _ _ (by decide), q_set_ne _ _ (by decide), q_set_ne _ _ (by decide), q_set_ne _ _ (by decide), q_set_ne _ _ (by decide), q_set_ne _ _ (by decide), q_set_ne _ _ (by decide), q_set_eq, upd_ne _ _ (by decide), upd_eq]
  · rw [q_set_ne _ _ (by decide), q_set_ne _ _ (by decide), q_set_ne _ _ (by decide), q_set_ne _ _ (by decide), q_set_ne _ _ (by decide), q_set_ne _ _ (by decide), q_set_ne _ _ (by decide), q_set_eq, upd_eq]
  · rw [q_set_ne _ _ (by decide), q_set_ne _ _ (by decide), q_set_ne _ _ (by decide), q_set_ne _ _ (by decide), q_set_ne _ _ (by decide), q_set_ne _ _ (by decide), q_set_eq]; exact vcpy0 (n := 200) (by decide) hi
  · rw [q_set_ne _ _ (by decide), q_set_ne _ _ (by decide), q_set_ne _ _ (by decide), q_set_ne _ _ (by decide), q_set_ne _ _ (by decide), q_set_eq]; exact vcpy0 (n := 200) (by decide) hi
  · rw [q_set_ne _ _ (by decide), q_set_ne _ _ (by decide), q_set_ne _ _ (by decide), q_set_ne _ _ (by decide), q_set_eq]; exact vcpy0 (n := 14) (by decide) hj
  · rw [q_set_ne _ _ (by decide), q_set_ne _ _ (by decide), q_set_ne _ _ (by decide), q_set_eq]; exact vcpy0 (n := 14) (by decide) hj
  · rw [q_set_ne _ _ (by decide), q_set_ne _ _ (by decide), q_set_eq]; exact vcpy0 (n := 14) (by decide) hj
  · rw [q_set_ne _ _ (by decide), q_set_eq]; exact vcpy0 (n := 98) (by decide) hi
  · rw [q_set_eq]; exact vcpy0 (n := 7) (by decide) hc
def LX1 (σ t : QS) (res : Except Int32 Cl) (y : Int32) : Prop := (∀ c, ¬ (c = 0 ∨ c = 11 ∨ 22 ≤ c ∧ c ≤ 29 ∨ 31 ≤ c ∧ c ≤ 38 ∨ c = 41 ∨ c = 61) → t c = σ c) ∧ (∀ k, k ≠ 12 → t 0 k = σ 0 k) ∧ t 11 = upd (σ 11) 1 0 ∧ match res with
  | .error e => y = e ∧ ∀ c, (c = 0 ∨ 22 ≤ c ∧ c ≤ 29 ∨ c = 61) → t c = σ c
  | .ok L => y = nI L.length ∧ t 0 12 = 0 ∧ t 61 3 = 0 ∧ ∃ s s', s 31 0 = nI L.length ∧ s 31 1 = nI (zl L) ∧ L.length ≤ 14 ∧ zl L ≤ 200 ∧ ClC s L 0 0 0 ∧ Lt s L 0 (fun _ => 0) ∧ Tk 22 s s' ∧ ∀ c, 22 ≤ c ∧ c ≤ 29 → t c = s' c
theorem EV.lawX1 {ch : Nat → Int32} {d n : Nat} {σ : QS} (hd : 24 ≤ d) (hn : 1 ≤ n) (hT : Tx σ ch n) (ht : nI n ≤ σ 11 1) (hF : FCh σ) : EV (d + 11) 74 0 [some (.inr 0), some (.inl 1), some (.inl (nI n)), none] [] σ (qI (fun y t => LX1 σ t (cls ch n 14 0 0) y)) := by
  have hN := hT.2.1
  have g3 : ¬ nI n < 1 := fun z => by have := (nI_ltI (b := 1) (by omega) (by decide)).mp z; omega
  have g4 : ¬ 200 < nI n := fun z => by have := (nI_ltI (a := 200) (by decide) (by omega)).mp z; omega
  refine pX_law1_0 ⟨fun z => absurd z g3, fun _ => ⟨fun z => absurd z g4, fun _ => ⟨fun _ => ?_, fun z => absurd ht z⟩⟩⟩
  refine ⟨fun y s => ((∀ c, ¬ (31 ≤ c ∧ c ≤ 38) → c ≠ 41 → s c = σ c) ∧ match cls ch n 14 0 0 with
    | .error e => y = e
    | .ok L => y = 0 ∧ s 31 0 = nI L.length ∧ L.length ≤ 14 ∧ s 31 1 = nI (zl L) ∧ zl L ≤ n ∧ ClC s L 0 0 0 ∧ Lt s L 0 (fun _ => 0)) ∧ FCh s, EV.mono ((EV.readX hd hn hT).fc hF) (fun r s h => ?_), ?_⟩
  · obtain ⟨⟨y, rfl, h⟩, f⟩ := h
    exact ⟨y, rfl, h, f⟩
  rintro y s ⟨⟨fc, h⟩, hF5⟩
  cases hcl : cls ch n 14 0 0 with
  | error e =>
    rw [hcl] at h
    have ne : ¬ y = 0 := by rw [h]; exact (cls_er hT.1 hN 14 0 0 e (by omega) (by omega) hcl).ne hN
    refine ⟨fun z => absurd z ne, fun _ => ⟨y, rfl, fun c hc => ?_, fun k hk => ?_, ?_, h, fun c hc => ?_⟩⟩
    · rw [q_set_ne _ _ (by omega)]; exact fc c (by omega) (by omega)
    · rw [q_set_ne _ _ (by decide), fc 0 (by decide) (by decide)]
    · rw [q_set_eq, fc 11 (by decide) (by decide)]
    · rw [q_set_ne _ _ (by omega)]; exact fc c (by omega) (by omega)
  | ok L =>
    rw [hcl] at h
    obtain ⟨rfl, h1, h2, h3, h4, h5, h6⟩ := h
    refine ⟨fun _ => ⟨_, EV.take1 (fun i => by rw [q_set_ne _ _ (by decide)]; exact hF5 32 (by decide) i), ?_⟩, fun z => absurd rfl z⟩
    intro s9 h9
    have k := h9.1
    refine ⟨q_fit10, q_fit10, _, rfl, fun c hc => ?_, fun k hk => ?_, ?_, ?_, ?_, ?_, q_set s 11 (upd (s 11) 1 0), s9, ?_, ?_, h2, by omega, ?_, ?_, h9, fun c hc => ?_⟩
    · rw [q_set_ne _ _ (by omega), q_set_ne _ _ (by omega), k c (by omega), q_set_ne _ _ (by omega)]; exact fc c (by omega) (by omega)
    · rw [q_set_ne _ _ (by decide), q_set_eq, upd_ne _ _ hk, h9.1 0 (by decide), q_set_ne _ _ (by decide), fc 0 (by decide) (by decide)]
    · rw [q_set_ne _ _ (by decide), q_set_ne _ _ (by decide), k 11 (by decide), q_set_eq, fc 11 (by decide) (by decide)]
    · rw [h9.2.1, q_set_ne _ _ (by decide)]; exact h1
    · rw [q_set_ne _ _ (by decide), q_set_eq, upd_eq]
    · rw [q_set_eq, upd_eq]
    · rw [q_set_ne _ _ (by decide)]; exact h1
    · rw [q_set_ne _ _ (by decide)]; exact h3
    · exact ClC_set h5
    · exact Lt_set h6
    · rw [q_set_ne _ _ (by omega), q_set_ne _ _ (by omega)]
