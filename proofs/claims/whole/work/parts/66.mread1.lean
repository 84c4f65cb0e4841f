/-! the reference reads, over its cells -/
def enc (x : Nat × Nat) : Int32 := nI (1048576 * x.1 + x.2)
def okX (x : Nat × Nat) : Prop := x.1 ≤ 14 ∧ x.2 < 1048576
def CR (f : Nat → Int32) (C : Cd) : Prop := ∀ j x, C[j]? = some x → f j = enc x ∧ okX x
def WR (f : Nat → Int32) (n : Nat) : Cd → Prop
  | [] => True
  | x :: W => f W.length = enc x ∧ okX x ∧ (x.1 = 11 ∨ x.1 = 12 → x.2 < n) ∧ WR f n W
def pnW : Cd → Nat
  | [] => 0
  | x :: W => (if x.1 = 11 ∨ x.1 = 12 then 0 else 1) + pnW W
def onW : Cd → Nat
  | [] => 0
  | x :: W => (if x.1 = 10 ∨ x.1 = 13 ∨ x.1 = 14 then 1 else 0) + onW W
def MVc (ch : Nat → Int32) (N : Nat) (t b c g : Nat → Int32) (p : Nat) (C W : Cd) (o : Nat) : Prop := (Ch ch N ∧ N ≤ 200 ∧ ∀ i, i < N → t i &&& 255 = ch i) ∧ g 13 = nI p ∧ g 14 = nI N ∧ g 16 = nI o ∧ g 17 = nI C.length ∧ g 18 = nI W.length ∧ CR b C ∧ WR c C.length W
def MV (ch : Nat → Int32) (N : Nat) (σ : QS) (p : Nat) (C W : Cd) (o : Nat) : Prop := MVc ch N (σ 80) (σ 81) (σ 82) (σ 69) p C W o
def MB (N p : Nat) (C W : Cd) (o : Nat) : Prop := p ≤ N ∧ C.length + pnW W ≤ p ∧ W.length ≤ p ∧ onW W = o ∧ o ≤ 6
def MT (ch : Nat → Int32) (N : Nat) (σ : QS) (p : Nat) (C W : Cd) (o : Nat) : Prop := MV ch N σ p C W o ∧ MB N p C W o
theorem enc_div {x : Nat × Nat} (h : okX x) : enc x / 1048576 = nI x.1 := by
  have h1 := h.1
  have h2 := h.2
  have := nI_div (a := 1048576 * x.1 + x.2) 1048576 (by omega) (by decide) (by decide)
  rw [show (1048576 * x.1 + x.2) / 1048576 = x.1 by omega] at this
  exact this
theorem enc_rem {x : Nat × Nat} (h : okX x) : enc x - enc x / 1048576 * 1048576 = nI x.2 := by
  have h1 := h.1
  have h2 := h.2
  have := nI_rem (a := 1048576 * x.1 + x.2) 1048576 (by omega) (by decide) (by decide)
  rw [show (1048576 * x.1 + x.2) % 1048576 = x.2 by omega] at this
  exact this
theorem enc_mk (a b : Nat) : 1048576 * nI a + nI b = enc (a, b) := by
  rw [show (1048576 : Int32) * nI a = nI (1048576 * a) from pk_mul 1048576 a, nI_add]
  rfl
theorem enc_mk0 (a : Nat) : 1048576 * nI a = enc (a, 0) := by
  have := enc_mk a 0
  rw [show nI 0 = (0 : Int32) from rfl] at this
  rw [← this]
  exact (Int32.add_zero _).symm
theorem WR.wk {f : Nat → Int32} {n m : Nat} (hn : n ≤ m) : ∀ {W : Cd}, WR f n W → WR f m W
  | [], _ => trivial
  | _ :: _, h => ⟨h.1, h.2.1, fun z => by have := h.2.2.1 z; omega, WR.wk hn h.2.2.2⟩
theorem WR.upd {f : Nat → Int32} {n i : Nat} {v : Int32} : ∀ {W : Cd}, W.length ≤ i → WR f n W → WR (upd f i v) n W
  | [], _, _ => trivial
  | _ :: W, hi, h => ⟨by rw [upd_ne _ _ (by rw [List.length_cons] at hi; omega)]; exact h.1, h.2.1, h.2.2.1, WR.upd (by rw [List.length_cons] at hi; omega) h.2.2.2⟩
theorem WR.get {f : Nat → Int32} {n k : Nat} : ∀ {W : Cd}, WR f n W → k < W.length → ∃ x, W[W.length - 1 - k]? = some x ∧ f k = enc x ∧ okX x
  | [], _, hk => absurd hk (Nat.not_lt_zero _)
  | x :: W, h, hk => by
    rw [List.length_cons] at hk ⊢
    by_cases e : k = W.length
    · subst e
      refine ⟨x, ?_, h.1, h.2.1⟩
      rw [show W.length + 1 - 1 - W.length = 0 by omega]
      rfl
    · obtain ⟨y, h1, h2⟩ := WR.get h.2.2.2 (show k < W.length by omega)
      refine ⟨y, ?_, h2⟩
      rw [show W.length + 1 - 1 - k = (W.length - 1 - k) + 1 by omega, List.getElem?_cons_succ]
      exact h1
theorem CR.push {f : Nat → Int32} {C : Cd} {x : Nat × Nat} (h : CR f C) (hx : okX x) : CR (upd f C.length (enc x)) (C ++ [x]) := by
  intro j y hy
  rcases Nat.lt_or_ge j C.length with q | q
  · rw [List.getElem?_append_left q] at hy
    rw [upd_ne _ _ (by omega)]
    exact h j y hy
  · rw [List.getElem?_append_right q] at hy
    rcases e : j - C.length with _ | i
    · rw [e] at hy
      cases hy
      rw [show j = C.length by omega, upd_eq]
      exact ⟨rfl, hx⟩
    · rw [e] at hy
      cases hy
section
variable {ch : Nat → Int32} {N : Nat} {t b c g : Nat → Int32} {p : Nat} {C W : Cd} {o : Nat}
theorem MVc.place (h : MVc ch N t b c g p C W o) : MVc ch N t b c (upd g 13 (g 13 + 1)) (p + 1) C W o := by
  obtain ⟨h1, h2, h3, h4, h5, h6, h7, h8⟩ := h
  exact ⟨h1, by rw [upd_eq, h2, nI_p1], by rw [upd_ne _ _ (by decide)]; exact h3, by rw [upd_ne _ _ (by decide)]; exact h4, by rw [upd_ne _ _ (by decide)]; exact h5, by rw [upd_ne _ _ (by decide)]; exact h6, h7, h8⟩
theorem MVc.any {k : Nat} {v : Int32} (hk : k ≠ 13 ∧ k ≠ 14 ∧ k ≠ 16 ∧ k ≠ 17 ∧ k ≠ 18) (h : MVc ch N t b c g p C W o) : MVc ch N t b c (upd g k v) p C W o := by
  obtain ⟨h1, h2, h3, h4, h5, h6, h7, h8⟩ := h
  exact ⟨h1, by rw [upd_ne _ _ (by omega)]; exact h2, by rw [upd_ne _ _ (by omega)]; exact h3, by rw [upd_ne _ _ (by omega)]; exact h4, by rw [upd_ne _ _ (by omega)]; exact h5, by rw [upd_ne _ _ (by omega)]; exact h6, h7, h8⟩
theorem MVc.note {x : Nat × Nat} {v : Int32} (hv : v = enc x) (hx : okX x) (hl : C.length < 220) (h : MVc ch N t b c g p C W o) : MVc ch N t (upd b (g 17).toNatClampNeg v) c (upd g 17 (g 17 + 1)) p (C ++ [x]) W o := by
  obtain ⟨h1, h2, h3, h4, h5, h6, h7, h8⟩ := h
  rw [h5, cl_nI (by omega), hv]
  refine ⟨h1, by rw [upd_ne _ _ (by decide)]; exact h2, by rw [upd_ne _ _ (by decide)]; exact h3, by rw [upd_ne _ _ (by decide)]; exact h4, by rw [upd_eq, nI_p1, List.length_append]; rfl, by rw [upd_ne _ _ (by decide)]; exact h6, h7.push hx, ?_⟩
  rw [List.length_append]
  exact h8.wk (by omega)
theorem MVc.pop {x : Nat × Nat} (h : MVc ch N t b c g p C (x :: W) o) : MVc ch N t b c (upd g 18 (g 18 - 1)) p C W o := by
  obtain ⟨h1, h2, h3, h4, h5, h6, h7, h8⟩ := h
  exact ⟨h1, by rw [upd_ne _ _ (by decide)]; exact h2, by rw [upd_ne _ _ (by decide)]; exact h3, by rw [upd_ne _ _ (by decide)]; exact h4, by rw [upd_ne _ _ (by decide)]; exact h5, by rw [upd_eq, h6, List.length_cons, nI_pred], h7, h8.2.2.2⟩
theorem MVc.less (h : MVc ch N t b c g p C W (o + 1)) : MVc ch N t b c (upd g 16 (g 16 - 1)) p C W o := by
  obtain ⟨h1, h2, h3, h4, h5, h6, h7, h8⟩ := h
  exact ⟨h1, by rw [upd_ne _ _ (by decide)]; exact h2, by rw [upd_ne _ _ (by decide)]; exact h3, by rw [upd_eq, h4, nI_pred], by rw [upd_ne _ _ (by decide)]; exact h5, by rw [upd_ne _ _ (by decide)]; exact h6, h7, h8⟩
theorem MVc.more (h : MVc ch N t b c g p C W o) : MVc ch N t b c (upd g 16 (g 16 + 1)) p C W (o + 1) := by
  obtain ⟨h1, h2, h3, h4, h5, h6, h7, h8⟩ := h
  exact ⟨h1, by rw [upd_ne _ _ (by decide)]; exact h2, by rw [upd_ne _ _ (by decide)]; exact h3, by rw [upd_eq, h4, nI_p1], by rw [upd_ne _ _ (by decide)]; exact h5, by rw [upd_ne _ _ (by decide)]; exact h6, h7, h8⟩
theorem MVc.push {x : Nat × Nat} {v : Int32} (hv : v = enc x) (hx : okX x) (hj : x.1 = 11 ∨ x.1 = 12 → x.2 < C.length) (hl : W.length < 220) (h : MVc ch N t b c g p C W o) : MVc ch N t b (upd c (g 18).toNatClampNeg v) (upd g 18 (g 18 + 1)) p C (x :: W) o := by
  obtain ⟨h1, h2, h3, h4, h5, h6, h7, h8⟩ := h
  rw [h6, cl_nI (by omega), hv]
  exact ⟨h1, by rw [upd_ne _ _ (by decide)]; exact h2, by rw [upd_ne _ _ (by decide)]; exact h3, by rw [upd_ne _ _ (by decide)]; exact h4, by rw [upd_ne _ _ (by decide)]; exact h5, by rw [upd_eq, nI_p1]; rfl, h7, upd_eq _ _ _, hx, hj, h8.upd (Nat.le_refl _)⟩
end
/-- what reading may change -/
def FR (σ s : QS) : Prop := (∀ c, c ≠ 69 → c ≠ 81 → c ≠ 82 → s c = σ c) ∧ ∀ k, k ≠ 13 → ¬ (15 ≤ k ∧ k ≤ 18) → k ≠ 20 → s 69 k = σ 69 k
theorem FR.rf {σ : QS} : FR σ σ := ⟨fun _ _ _ _ => rfl, fun _ _ _ _ => rfl⟩
theorem FR.tr {σ s t : QS} (h : FR σ s) (k : FR s t) : FR σ t := ⟨fun c a b e => (k.1 c a b e).trans (h.1 c a b e), fun c a b e => (k.2 c a b e).trans (h.2 c a b e)⟩
theorem FR.s69 {σ s : QS} {k : Nat} {v : Int32} (h : FR σ s) (hk : k = 13 ∨ 15 ≤ k ∧ k ≤ 18 ∨ k = 20) : FR σ (q_set s 69 (upd (s 69) k v)) := ⟨fun c a b e => by rw [q_set_ne _ _ a]; exact h.1 c a b e, fun j a b e => by rw [q_set_eq, upd_ne _ _ (by omega)]; exact h.2 j a b e⟩
theorem FR.s81 {σ s : QS} {f : Nat → Int32} (h : FR σ s) : FR σ (q_set s 81 f) := ⟨fun c a b e => by rw [q_set_ne _ _ b]; exact h.1 c a b e, fun j a b e => by rw [q_set_ne _ _ (by decide)]; exact h.2 j a b e⟩
theorem FR.s82 {σ s : QS} {f : Nat → Int32} (h : FR σ s) : FR σ (q_set s 82 f) := ⟨fun c a b e => by rw [q_set_ne _ _ e]; exact h.1 c a b e, fun j a b e => by rw [q_set_ne _ _ (by decide)]; exact h.2 j a b e⟩
def PM (ch : Nat → Int32) (N : Nat) (σ : QS) (r : MR) : QQ := qI (fun y s => FR σ s ∧ match r with
  | .ok (p, C, W, o) => y = 1 ∧ MT ch N s p C W o
  | .error e => y = 0 ∧ s 69 15 = e)
theorem PM.ok {ch : Nat → Int32} {N : Nat} {σ s : QS} {p o : Nat} {C W : Cd} (f : FR σ s) (h : MT ch N s p C W o) : PM ch N σ (.ok (p, C, W, o)) (some 1) s := ⟨1, rfl, f, rfl, h⟩
theorem PM.er {ch : Nat → Int32} {N : Nat} {σ s : QS} {e : Int32} (f : FR σ s) (h : s 69 15 = e) : PM ch N σ (.error e) (some 0) s := ⟨0, rfl, f, rfl, h⟩
theorem PM.fr {ch : Nat → Int32} {N : Nat} {σ s : QS} {r : MR} (f : FR σ s) {a : Option Int32} {t : QS} (h : PM ch N s r a t) : PM ch N σ r a t := by
  obtain ⟨y, e, g, k⟩ := h
  exact ⟨y, e, f.tr g, k⟩
section
variable {ch : Nat → Int32} {N : Nat} {σ : QS} {p : Nat} {C W : Cd} {o : Nat} {d : Nat}
theorem EV.hereM (h : MV ch N σ p C W o) (hp : p ≤ N) : EV d 122 0 [some (.inr 69)] [] σ (qis (ch p) σ) := by
  obtain ⟨⟨h1, h1b, h1c⟩, h2, h3, -⟩ := h
  refine pM_here_0 ?_
  rw [h2, h3]
  refine ⟨fun q => ?_, fun q => ?_⟩
  · have := (nI_leI (by omega) (by omega)).mp q
    exact ⟨by rw [h1.1 p this], rfl⟩
  · have hlt : p < N := by
      rcases Nat.lt_or_ge p N with w | w
      · exact w
      · exact absurd (nI_le' w (by omega)) q
    rw [cl_nI (by omega), h1c p hlt]
    exact ⟨vp_in_nI (by omega) (by decide), rfl, rfl⟩
theorem EV.digM (h : MV ch N σ p C W o) (hp : p ≤ N) : EV (d + 1) 123 0 [some (.inr 69)] [] σ (qis (if ¬ ch p < 48 ∧ ¬ 57 < ch p then 1 else 0) σ) := by
  refine pM_isDigit_0 (ex_I (EV.hereM h hp) ⟨fun q => ?_, fun q => ex_I (EV.hereM h hp) ⟨fun q2 => ?_, fun q2 => ?_⟩⟩)
  · rw [if_neg (fun z => z.1 q)]; exact ⟨rfl, rfl⟩
  · rw [if_neg (fun z => z.2 q2)]; exact ⟨rfl, rfl⟩
  · rw [if_pos ⟨q, q2⟩]; exact ⟨rfl, rfl⟩
theorem EV.wrongM {x : Int32} (k : Nat) (hx : x = nI p) : EV d 124 0 [some (.inr 69), some (.inl (nI k)), some (.inl x)] [] σ (qI (fun y s => y = 0 ∧ FR σ s ∧ s 69 15 = flt k p)) := by
  refine pM_wrongAt_0 ⟨0, rfl, rfl, FR.rf.s69 (by decide), ?_⟩
  rw [q_set_eq, upd_eq, hx]
  rfl
theorem EV.notesM {x : Nat × Nat} {a v : Int32} (h : MV ch N σ p C W o) (hl : C.length < 220) (ha : a = nI x.1) (hv : v = nI x.2) (hx : okX x) : EV d 127 0 [some (.inr 69), some (.inl a), some (.inl v)] [] σ (qV (fun s => FR σ s ∧ MV ch N s p (C ++ [x]) W o)) := by
  have h17 := h.2.2.2.2.1
  refine pM_notes_0 ⟨by rw [h17]; exact vp_in_nI hl (by decide), rfl, FR.s69 (FR.rf.s81) (by decide), ?_⟩
  exact MVc.note (by rw [ha, hv, enc_mk]) hx hl h
theorem EV.opensM {t : Nat} (h : MV ch N σ p C W o) (hW : W.length < 220) (ho : o ≤ 6) (ht : t ≤ 14) (ht2 : ¬ (t = 11 ∨ t = 12)) : EV (d + 1) 128 0 [some (.inr 69), some (.inl (nI t))] [] σ (qI (fun y s => FR σ s ∧ ((¬ o = 6 ∧ y = 1 ∧ MV ch N s (p + 1) C ((t, 0) :: W) (o + 1)) ∨ (o = 6 ∧ y = 0 ∧ s 69 15 = flt 5 p)))) := by
  have h16 := h.2.2.2.1
  have h18 := h.2.2.2.2.2.1
  have e6 : (σ 69 16 = 6) ↔ o = 6 := by rw [h16]; exact nI_eq (b := 6) (by omega) (by decide)
  refine pM_opens_0 ⟨fun q => ⟨?_, 1, rfl, ?_, Or.inl ⟨fun z => q (e6.mpr z), rfl, ?_⟩⟩, fun q => ⟨_, EV.wrongM 5 h.2.1, ?_⟩⟩
  · rw [upd_ne _ _ (by decide), h18]; exact vp_in_nI hW (by decide)
  · exact FR.s69 (FR.s69 (FR.s82 (FR.s69 FR.rf (by decide))) (by decide)) (by decide)
  · exact MVc.place (MVc.push (x := (t, 0)) (enc_mk0 t) ⟨ht, by show 0 < 1048576; decide⟩ (fun z => absurd z ht2) hW (MVc.more h))
  · rintro y s ⟨rfl, f, e⟩
    exact ⟨Or.inl rfl, 0, rfl, f, Or.inr ⟨e6.mp q, rfl, e⟩⟩
def tpI (W : Cd) : Int32 := match W with
  | [] => -1
  | x :: _ => nI x.1
theorem EV.topM (h : MV ch N σ p C W o) (hW : W.length < 220) : EV d 129 0 [some (.inr 69)] [] σ (qis (tpI W) σ) := by
  obtain ⟨-, -, -, -, -, h18, -, hw⟩ := h
  refine pM_top_0 ?_
  rw [h18]
  cases W with
  | nil => exact ⟨fun q => absurd rfl q, fun _ => ⟨rfl, rfl⟩⟩
  | cons x W =>
    rw [List.length_cons] at hW ⊢
    rw [nI_pred, cl_nI (by omega), hw.1, enc_div hw.2.1]
    exact ⟨fun _ => ⟨vp_in_nI (by omega) (by decide), by decide, rfl, rfl⟩, fun q => absurd q (nI_ne0 (by omega) (by omega))⟩
theorem tpI_lit {k : Nat} (hk : k < 15) (h : WR (σ 82) C.length W) : tpI W = nI k ↔ (W ≠ [] ∧ tp W = k) := by
  cases W with
  | nil => exact ⟨fun z => absurd z.symm (nI_nem (by omega)), fun z => absurd rfl z.1⟩
  | cons x W =>
    have := h.2.1.1
    show nI x.1 = nI k ↔ _
    rw [nI_eq (by omega) (by omega)]
    exact ⟨fun z => ⟨by simp, z⟩, fun z => z.2⟩
end
theorem EV.nmbM {ch : Nat → Int32} {N d p0 o : Nat} {C W : Cd} : ∀ k p n σ, p0 + (5 - k) = p → k ≤ 5 → (n + 1) * 10 ^ k ≤ 100000 → p ≤ N → MV ch N σ p C W o → σ 69 20 = nI n → EV (d + 2) 126 1 [some (.inr 69), some (.inl (nI p0))] [] σ (qI (fun y s => FR σ s ∧ match nmb ch k p n with
    | .ok (q, c) => y = 1 ∧ MV ch N s q C W o ∧ ∃ m, c = [(0, m)] ∧ s 69 20 = nI m
    | .error e => y = 0 ∧ s 69 15 = e)) := by
  intro k
  induction k with
  | zero =>
    intro p n σ hp hk hn hpN h h20
    have hN := h.1.2.1
    refine pM_readsNumber_1 (ex_I (EV.digM h hpN) ?_)
    rw [nmb, h.2.1]
    by_cases hd : ¬ ch p < 48 ∧ ¬ 57 < ch p
    · rw [if_pos hd, if_pos hd]
      refine ⟨fun q => absurd q (by decide), fun _ => ⟨fun q => absurd ?_ q, fun _ => ⟨_, EV.wrongM 2 rfl, ?_⟩⟩⟩
      · rw [← hp]; exact (nI_add p0 5).symm
      · rintro y s ⟨rfl, f, e⟩
        exact ⟨Or.inl rfl, 0, rfl, f, rfl, e⟩
    · rw [if_neg hd, if_neg hd]
      exact ⟨fun _ => ⟨1, rfl, FR.rf, rfl, h, n, rfl, h20⟩, fun q => absurd rfl q⟩
  | succ k ih =>
    intro p n σ hp hk hn hpN h h20
    have hN := h.1.2.1
    refine pM_readsNumber_1 (ex_I (EV.digM h hpN) ?_)
    rw [nmb, h.2.1]
    by_cases hd : ¬ ch p < 48 ∧ ¬ 57 < ch p
    · rw [if_pos hd, if_pos hd]
      obtain ⟨hpl, dd, hd9, ed⟩ := h.1.1.dig hd
      refine ⟨fun q => absurd q (by decide), fun _ => ⟨fun _ => ex_I (EV.hereM h hpN) ?_, fun q => ?_⟩⟩
      · have ev : 10 * σ 69 20 + ch p - 48 = nI (n * 10 + ((ch p).toNatClampNeg - 48)) := by
          rw [h20, ed, cl_nI (by omega), show (10 : Int32) * nI n = nI (10 * n) from pk_mul 10 n, nI_add, show nI (10 * n + (48 + dd)) - 48 = nI (10 * n + (48 + dd) - 48) from pk_sub (b := 48) (by omega)]
          congr 1
          omega
        rw [ev]
        have hb : (n * 10 + ((ch p).toNatClampNeg - 48) + 1) * 10 ^ k ≤ 100000 := by
          rw [ed, cl_nI (by omega), show 48 + dd - 48 = dd by omega]
          rw [Nat.pow_succ] at hn
          refine Nat.le_trans (Nat.mul_le_mul_right (10 ^ k) (show n * 10 + dd + 1 ≤ (n + 1) * 10 by omega)) ?_
          rw [Nat.mul_assoc, Nat.mul_comm 10]
          exact hn
        refine EV.mono (ih (p + 1) _ _ (by omega) (by omega) hb (by omega) ?_ ?_) ?_
        · exact MVc.place (MVc.any (k := 20) (by decide) h)
        · rw [q_set_eq, upd_ne _ _ (by decide), upd_eq]
        · rintro q s ⟨y, rfl, f, hh⟩
          exact ⟨y, rfl, (FR.s69 (FR.s69 FR.rf (by decide)) (by decide) : FR σ _).tr f, hh⟩
      · have := (nI_eq (a := p) (b := p0 + 5) (by omega) (by omega)).mp (q.trans (nI_add p0 5))
        omega
    · rw [if_neg hd, if_neg hd]
      exact ⟨fun _ => ⟨1, rfl, FR.rf, rfl, h, n, rfl, h20⟩, fun q => absurd rfl q⟩
theorem EV.factM {d : Nat} {σ : QS} (c : Int32) : EV d 130 0 [some (.inl c)] [] σ (qis (match facO c with
  | some x => nI x
  | none => -1) σ) := by
  refine pM_factOf_0 ?_
  unfold facO
  refine ⟨fun q => ?_, fun q1 => ⟨fun q => ?_, fun q2 => ⟨fun q => ?_, fun q3 => ⟨fun q => ?_, fun q4 => ⟨fun q => ?_, fun q5 => ⟨fun q => ?_, fun q6 => ⟨fun q => ?_, fun q7 => ⟨fun q => ?_, fun q8 => ⟨fun q => ?_, fun q9 => ⟨fun q => ?_, fun q10 => ⟨fun q => ?_, fun q11 => ⟨fun q => ?_, fun q12 => ⟨fun q => ?_, fun q13 => ⟨fun q => ?_, fun q14 => ⟨fun q => ?_, fun q15 => ⟨fun q => ?_, fun q16 => ⟨fun q => ?_, fun q17 => ⟨fun q => ?_, fun q18 => ⟨fun q => ?_, fun q19 => ⟨fun q => ?_, fun q20 => ?_⟩⟩⟩⟩⟩⟩⟩⟩⟩⟩⟩⟩⟩⟩⟩⟩⟩⟩⟩⟩
  all_goals first
    | (subst q; exact ⟨rfl, rfl⟩)
    | (rw [if_neg (show ¬ c = 107 from q11), if_neg (show ¬ c = 97 from q1), if_neg (show ¬ c = 114 from q18), if_neg (show ¬ c = 115 from q19), if_neg (show ¬ c = 100 from q4), if_neg (show ¬ c = 104 from q8), if_neg (show ¬ c = 116 from q20), if_neg (show ¬ c = 111 from q15), if_neg (show ¬ c = 112 from q16)]; exact ⟨rfl, rfl⟩)
def sgI (c : Int32) : Int32 := if ¬ mulO c = 0 then nI (mulO c) else if ¬ sumO c = 0 then nI (sumO c) else -1
theorem EV.signM {d : Nat} {σ : QS} (c : Int32) : EV d 131 0 [some (.inl c)] [] σ (qis (sgI c) σ) := by
  refine pM_sumSign_0 ⟨fun q1 => ⟨fun q2 => ⟨fun q3 => ⟨fun q4 => ⟨fun q5 => ?_, fun q => ?_⟩, fun q => ?_⟩, fun q => ?_⟩, fun q => ?_⟩, fun q => ?_⟩
  · unfold sgI mulO sumO
    rw [if_neg q3, if_neg q4, if_neg q5, if_neg (by decide), if_neg q1, if_neg q2, if_neg (by decide)]
    exact ⟨rfl, rfl⟩
  all_goals (subst q; exact ⟨rfl, rfl⟩)
theorem atm_one {ch : Nat → Int32} {p q : Nat} {c : Cd} (hd : ¬ (¬ ch p < 48 ∧ ¬ 57 < ch p)) (h : atm ch p = .ok (q, c)) : ∃ x, facO (ch p) = some x ∧ q = p + 1 ∧ c = [(1, x)] := by
  unfold atm at h
  rw [if_neg hd] at h
  split at h
  · rename_i x hx
    cases h
    exact ⟨x, hx, rfl, rfl⟩
  · cases h
theorem EV.facM {ch : Nat → Int32} {N d : Nat} : ∀ k p C W o σ, k = 6 - o → MT ch N σ p C W o → EV (d + 3) 133 0 [some (.inr 69), none] [] σ (PM ch N σ (mFac ch k p C W o)) := by
  have atmC : ∀ p C W o σ (Q : QQ), MT ch N σ p C W o → (∀ r s, PM ch N σ (match atm ch p with
      | .ok (q, c) => .ok (q, C ++ c, W, o)
      | .error e => .error e) r s → Q r s) → ∃ R5 : Int32 → QS → Prop, EV (d + 2) 123 0 [some (.inr 69)] [] σ (qI R5) ∧ ∀ y7 s6, R5 y7 s6 → (y7 = 0 → ∃ R9 : Int32 → QS → Prop, EV (d + 2) 122 0 [some (.inr 69)] [] s6 (qI R9) ∧ ∀ y11 s10, R9 y11 s10 → ∃ R12 : Int32 → QS → Prop, EV (d + 2) 130 0 [some (.inl y11)] [] s10 (qI R12) ∧ ∀ y14 s13, R12 y14 s13 → (¬ y14 = (-1) → ∃ R16 : QS → Prop, EV (d + 2) 127 0 [some (.inr 69), some (.inl 1), some (.inl y14)] [] s13 (qV R16) ∧ ∀ s17, R16 s17 → Q (some 1) (q_set s17 69 (upd (s17 69) 13 ((s17 69 13) + 1)))) ∧ (y14 = (-1) → ∃ R18 : Int32 → QS → Prop, EV (d + 2) 124 0 [some (.inr 69), some (.inl 1), some (.inl (s13 69 13))] [] s13 (qI R18) ∧ ∀ y20 s19, R18 y20 s19 → (y20 = 0 ∨ y20 = 1) ∧ Q (some y20) s19)) ∧ (¬ y7 = 0 → ∃ R21 : Int32 → QS → Prop, EV (d + 2) 126 0 [some (.inr 69), none] [] s6 (qI R21) ∧ ∀ y23 s22, R21 y23 s22 → (¬ y23 = 0 → ∃ R25 : QS → Prop, EV (d + 2) 127 0 [some (.inr 69), some (.inl 0), some (.inl (s22 69 20))] [] s22 (qV R25) ∧ ∀ s26, R25 s26 → Q (some 1) s26) ∧ (y23 = 0 → Q (some 0) s22)) := by
    intro p C W o σ Q h hQ
    obtain ⟨hv, hp, hcl, hwl, hon, ho6⟩ := h
    have hN := hv.1.2.1
    refine ex_I (EV.digM hv hp) ?_
    by_cases hd : ¬ ch p < 48 ∧ ¬ 57 < ch p
    · rw [if_pos hd]
      refine ⟨fun q => absurd q (by decide), fun _ => ⟨_, pM_readsNumber_0 (by rw [hv.2.1]; exact EV.nmbM (p0 := p) 5 p 0 (q_set σ 69 (upd (σ 69) 20 0)) (by omega) (by omega) (by decide) hp (MVc.any (k := 20) (by decide) hv) (by rw [q_set_eq, upd_eq]; rfl)), ?_⟩⟩
      rintro y s ⟨f, hh⟩
      have f0 : FR σ s := (FR.s69 FR.rf (by decide) : FR σ _).tr f
      have ea : atm ch p = nmb ch 5 p 0 := by unfold atm; rw [if_pos hd]
      cases hk : nmb ch 5 p 0 with
      | error e =>
        rw [hk] at hh
        obtain ⟨rfl, he⟩ := hh
        refine ⟨fun q => absurd rfl q, fun _ => hQ _ _ ?_⟩
        rw [ea, hk]
        exact PM.er f0 he
      | ok v =>
        obtain ⟨q, c⟩ := v
        rw [hk] at hh
        obtain ⟨rfl, hm, m, rfl, e20⟩ := hh
        obtain ⟨g1, g2, g3, -⟩ := atm_ok hm.1.1 (ea.trans hk) 0
        obtain ⟨-, -, m', hm', em⟩ := nmb_ok hm.1.1 5 p 0 q _ (by decide) hp hk
        have em2 : m = m' := by cases em; rfl
        refine ⟨fun _ => ⟨_, EV.notesM (x := (0, m)) hm (by omega) rfl e20 ⟨by show 0 ≤ 14; omega, by show m < 1048576; omega⟩, ?_⟩, fun q => absurd q (by decide)⟩
        rintro s26 ⟨f2, hv2⟩
        refine hQ _ _ ?_
        rw [ea, hk]
        rw [List.length_singleton] at g1
        exact PM.ok (f0.tr f2) ⟨hv2, g3, by rw [List.length_append, List.length_singleton]; omega, by omega, hon, ho6⟩
    · rw [if_neg hd]
      refine ⟨fun _ => ex_I (EV.hereM hv hp) (ex_I (EV.factM _) ?_), fun q => absurd rfl q⟩
      cases hf : facO (ch p) with
      | none =>
        have ea : atm ch p = .error (flt 1 p) := by unfold atm; rw [if_neg hd, hf]
        refine ⟨fun q => absurd rfl q, fun _ => ⟨_, EV.wrongM 1 hv.2.1, ?_⟩⟩
        rintro y s ⟨rfl, f, e⟩
        refine ⟨Or.inl rfl, hQ _ _ ?_⟩
        rw [ea]
        exact PM.er f e
      | some x =>
        obtain ⟨x9, xm⟩ := facO_lt hf
        have hpN : p < N := hv.1.1.lt rfl xm
        have ea : atm ch p = .ok (p + 1, [(1, x)]) := by unfold atm; rw [if_neg hd, hf]
        refine ⟨fun _ => ⟨_, EV.notesM (x := (1, x)) hv (by omega) rfl rfl ⟨by show 1 ≤ 14; omega, by show x < 1048576; omega⟩, ?_⟩, fun q => absurd q (nI_nem (by omega))⟩
        rintro s ⟨f, hv2⟩
        refine hQ _ _ ?_
        rw [ea]
        exact PM.ok (f.s69 (by decide)) ⟨MVc.place hv2, by omega, by rw [List.length_append, List.length_singleton]; omega, by omega, hon, ho6⟩
  intro k
  induction k with
  | zero =>
    intro p C W o σ hk h
    have ho : o = 6 := by have := h.2.2.2.2.2; omega
    refine pM_readsFactor_0 (ex_I (EV.hereM h.1 h.2.1) ⟨fun q => ?_, fun q => ?_⟩)
    · rw [mFac, if_neg q]
      exact atmC p C W o σ _ h (fun _ _ z => z)
    · rw [mFac, if_pos q]
      refine ⟨_, EV.opensM (t := 14) h.1 (by have := h.2.2.2.1; have := h.1.1.2.1; have := h.2.1; omega) h.2.2.2.2.2 (by decide) (by decide), ?_⟩
      rintro y s ⟨f, ⟨q2, -⟩ | ⟨-, rfl, e⟩⟩
      · exact absurd ho q2
      · exact ⟨fun q => absurd rfl q, fun _ => PM.er f e⟩
  | succ k ih =>
    intro p C W o σ hk h
    refine pM_readsFactor_0 (ex_I (EV.hereM h.1 h.2.1) ⟨fun q => ?_, fun q => ?_⟩)
    · rw [mFac, if_neg q]
      exact atmC p C W o σ _ h (fun _ _ z => z)
    · rw [mFac, if_pos q]
      obtain ⟨hv, hp, hcl, hwl, hon, ho6⟩ := h
      have hN := hv.1.2.1
      refine ⟨_, EV.opensM (t := 14) hv (by omega) ho6 (by decide) (by decide), ?_⟩
      rintro y s ⟨f, ⟨q2, rfl, hv2⟩ | ⟨q2, -⟩⟩
      · have hpN : p < N := hv.1.1.lt q (by decide)
        refine ⟨fun _ => ?_, fun z => absurd z (by decide)⟩
        refine (ih (p + 1) C ((14, 0) :: W) (o + 1) s (by omega) ⟨hv2, by omega, ?_, ?_, ?_, by omega⟩).mono (fun _ _ z => PM.fr f z)
        · show C.length + ((if (14 = 11 ∨ 14 = 12) then 0 else 1) + pnW W) ≤ p + 1
          rw [if_neg (by decide)]; omega
        · rw [List.length_cons]; omega
        · show (if (14 = 10 ∨ 14 = 13 ∨ 14 = 14) then 1 else 0) + onW W = o + 1
          rw [if_pos (by decide)]; omega
      · omega
