/-! an HOUR, a DAY -/
def oneR (A : Nat → (Nat → Int32) → Int32) (a R : Nat → Int32) (q : Nat) (h o p : Int32) : Nat → Int32 := pfR A R (a (q * 3)) (a (q * 3 + 2)) (a (q * 3 + 1)).toNatClampNeg h o p
def oneW (A : Nat → (Nat → Int32) → Int32) (a R : Nat → Int32) (q : Nat) (h o p : Int32) : Int32 := pfW A R (a (q * 3)) (a (q * 3 + 2)) (a (q * 3 + 1)).toNatClampNeg h o p
def acR (A : Nat → (Nat → Int32) → Int32) (a : Nat → Int32) (b : Nat) (od : Nat → Nat) (R : Nat → Int32) (h o p : Int32) : Nat → (Nat → Int32)
  | 0 => R
  | i + 1 => oneR A a (acR A a b od R h o p i) (b * 5 + od i) h o p
def acW (A : Nat → (Nat → Int32) → Int32) (a : Nat → Int32) (b : Nat) (od : Nat → Nat) (R : Nat → Int32) (h o p : Int32) : Nat → Int32
  | 0 => 0
  | i + 1 => if oneW A a (acR A a b od R h o p i) (b * 5 + od i) h o p = -1 then acW A a b od R h o p i else acW A a b od R h o p i + oneW A a (acR A a b od R h o p i) (b * 5 + od i) h o p
def acU (A : Nat → (Nat → Int32) → Int32) (a : Nat → Int32) (b : Nat) (od : Nat → Nat) (R : Nat → Int32) (h o p : Int32) : Nat → Int32
  | 0 => 0
  | i + 1 => if oneW A a (acR A a b od R h o p i) (b * 5 + od i) h o p = -1 then acU A a b od R h o p i + 1 else acU A a b od R h o p i
def acF (A : Nat → (Nat → Int32) → Int32) (a : Nat → Int32) (b : Nat) (od : Nat → Nat) (R : Nat → Int32) (h o p : Int32) : Nat → Int32
  | 0 => -1
  | i + 1 => if oneW A a (acR A a b od R h o p i) (b * 5 + od i) h o p = -1 ∧ acF A a b od R h o p i = -1 then nI (od i) else acF A a b od R h o p i
theorem nI_nem {n : Nat} (h : n < 2 ^ 31) : ¬ nI n = -1 := fun e => nI_pos h (by rw [e]; decide)
theorem acUF {A : Nat → (Nat → Int32) → Int32} {a : Nat → Int32} {b : Nat} {od : Nat → Nat} {R : Nat → Int32} {h o p : Int32} : ∀ i, i < 2 ^ 31 → (∀ j, j < i → od j < 2 ^ 31) → (acU A a b od R h o p i = 0 ∧ acF A a b od R h o p i = -1) ∨ (∃ u, 0 < u ∧ u ≤ i ∧ acU A a b od R h o p i = nI u ∧ ¬ acF A a b od R h o p i = -1)
  | 0, _, _ => Or.inl ⟨rfl, rfl⟩
  | i + 1, hi, ho => by
    rw [acU, acF]
    rcases acUF (A := A) (a := a) (b := b) (od := od) (R := R) (h := h) (o := o) (p := p) i (by omega) (fun j hj => ho j (by omega)) with ⟨h1, h2⟩ | ⟨u, h1, h2, h3, h4⟩
    · by_cases q : oneW A a (acR A a b od R h o p i) (b * 5 + od i) h o p = -1
      · rw [if_pos q, if_pos ⟨q, h2⟩, h1]
        exact Or.inr ⟨1, by omega, by omega, rfl, nI_nem (ho i (by omega))⟩
      · rw [if_neg q, if_neg (fun z => q z.1)]
        exact Or.inl ⟨h1, h2⟩
    · have h5 : ¬ (oneW A a (acR A a b od R h o p i) (b * 5 + od i) h o p = -1 ∧ acF A a b od R h o p i = -1) := fun z => h4 z.2
      rw [if_neg h5]
      by_cases q : oneW A a (acR A a b od R h o p i) (b * 5 + od i) h o p = -1
      · rw [if_pos q, h3, nI_p1]
        exact Or.inr ⟨u + 1, by omega, by omega, rfl, h4⟩
      · rw [if_neg q]
        exact Or.inr ⟨u, h1, by omega, h3, h4⟩
theorem acU0 {A : Nat → (Nat → Int32) → Int32} {a : Nat → Int32} {b : Nat} {od : Nat → Nat} {R : Nat → Int32} {h o p : Int32} {i : Nat} (hi : i < 2 ^ 31) (ho : ∀ j, j < i → od j < 2 ^ 31) : acU A a b od R h o p i = 0 ↔ acF A a b od R h o p i = -1 := by
  rcases acUF (A := A) (a := a) (b := b) (R := R) (h := h) (o := o) (p := p) i hi ho with ⟨h1, h2⟩ | ⟨u, h1, h2, h3, h4⟩
  · exact ⟨fun _ => h2, fun _ => h1⟩
  · refine ⟨fun e => ?_, fun e => absurd e h4⟩
    have := (nI_eq (a := u) (b := 0) (by omega) (by decide)).mp (h3.symm.trans e)
    omega
def ah (f : Nat → Int32) (h : Nat) : Int32 := f ((h + 23) % 24)
def nA (n : Nat → Int32) (o : Int32) : Nat := (n o.toNatClampNeg).toNatClampNeg
/-- the ROOMS when the OWNER's ACTS are done -/
def uA (A : Nat → (Nat → Int32) → Int32) (a n f : Nat → Int32) (h : Nat) (R : Nat → Int32) : Nat → Int32 := if f h = 12 then R else acR A a (f h).toNatClampNeg (fun i => i) R (nI h) (f h) (ah f h) (nA n (f h))
def uR (A : Nat → (Nat → Int32) → Int32) (a n f : Nat → Int32) (h : Nat) (R : Nat → Int32) : Nat → Int32 := coR A (uA A a n f h R) (nI h) (f h) (ah f h) 8
def uW (A : Nat → (Nat → Int32) → Int32) (a n f : Nat → Int32) (h : Nat) (R : Nat → Int32) : Int32 := if f h = 12 then 0 else acW A a (f h).toNatClampNeg (fun i => i) R (nI h) (f h) (ah f h) (nA n (f h))
def uF (A B : Nat → (Nat → Int32) → Int32) (a n f : Nat → Int32) (h : Nat) (R : Nat → Int32) : Int32 := if f h = 12 then 0 else fnS B (uA A a n f h R) (nI h) (f h) (ah f h) 8
def uU (A : Nat → (Nat → Int32) → Int32) (a n f : Nat → Int32) (h : Nat) (R : Nat → Int32) : Int32 := if f h = 12 then 0 else acU A a (f h).toNatClampNeg (fun i => i) R (nI h) (f h) (ah f h) (nA n (f h))
def uO (A : Nat → (Nat → Int32) → Int32) (a n f : Nat → Int32) (h : Nat) (R : Nat → Int32) : Int32 := if f h = 12 then -1 else acF A a (f h).toNatClampNeg (fun i => i) R (nI h) (f h) (ah f h) (nA n (f h))
def dR (A : Nat → (Nat → Int32) → Int32) (a n f R : Nat → Int32) : Nat → (Nat → Int32)
  | 0 => R
  | h + 1 => uR A a n f h (dR A a n f R h)
/-- what the cells of OWNERS, ACTS hold -/
def iA (a n f : Nat → Int32) : Prop := (∀ h, h < 24 → ∃ o, o ≤ 12 ∧ f h = nI o) ∧ (∀ o, o < 12 → ∃ j, j ≤ 5 ∧ n o = nI j) ∧ ∀ q, q < 60 → ∃ r, r < 8 ∧ a (q * 3 + 1) = nI r
def Fq (lo : Nat) (σ s : QS) : Prop := ∀ c, c ≠ 21 → c ≠ 30 → c ≠ 45 → c ≠ 46 → ¬ (lo + 2 ≤ c ∧ c ≤ lo + 6) → s c = σ c
theorem Fq.rf {lo : Nat} {σ : QS} : Fq lo σ σ := fun _ _ _ _ _ _ => rfl
theorem Fq.tr {lo : Nat} {σ s t : QS} (h : Fq lo σ s) (k : Fq lo s t) : Fq lo σ t := fun c a b e f g => (k c a b e f g).trans (h c a b e f g)
theorem Fq.x {lo : Nat} {σ s t : QS} (h : Fq lo σ s) (k : Fx s t) : Fq lo σ t := fun c a b e f g => (k c a b e f).trans (h c a b e f g)
theorem Fq.set {lo : Nat} {σ s : QS} (h : Fq lo σ s) {c : Nat} (hc : lo + 2 ≤ c ∧ c ≤ lo + 6) (f : Nat → Int32) : Fq lo σ (q_set s c f) := fun e a b x y z => by
  rw [q_set_ne _ _ (by intro q; subst q; exact z hc)]
  exact h e a b x y z
theorem Fq.L {lo : Nat} (hl : lo = 47 ∨ lo = 54) {σ s : QS} (h : Fq lo σ s) : FrL σ s := fun c hc => h c (by omega) (by omega) (by omega) (by omega) (by omega)
theorem EV.enterD {d : Nat} {σ : QS} {R : Nat → Int32} {h : Nat} (hh : h < 24) (hR : ∀ i, i < 24 → σ 49 (h * 24 + i) = R i) : EV d 50 0 [some (.inr 44), some (.inl (nI h)), some (.inr 47)] [] σ (qV (fun s => Fx σ s ∧ Rm (s 45) R ∧ At s (nI h) (σ 48 h) (ah (σ 48) h))) := by
  have e1 : nI h * 24 = nI (h * 24) := pk_mul h 24
  have c1 : (nI (h * 24)).toNatClampNeg = h * 24 := cl_nI (by omega)
  have c0 : (nI h).toNatClampNeg = h := cl_nI (by omega)
  have e2 : nI h + 24 - 1 = nI (h + 23) := by rw [show nI h + 24 = nI (h + 24) from nI_add _ 24]; exact pk_sub (a := h + 24) (b := 1) (by omega)
  have e3 : nI (h + 23) - nI (h + 23) / 24 * 24 = nI ((h + 23) % 24) := nI_rem 24 (by omega) (by decide) (by decide)
  have c3 : (nI ((h + 23) % 24)).toNatClampNeg = (h + 23) % 24 := cl_nI (by omega)
  refine pD_enter_0 ?_
  rw [e1, c1, c0, e2, e3, c3]
  refine ⟨⟨nI_pos (by omega), by decide, by decide, by show h * 24 + 24 ≤ 600; omega, by decide, fun z => absurd z (by decide)⟩, vp_in_nI (n := 6) (by decide) (by decide), vp_in_nI (by omega) (by decide), vp_in_nI (n := 7) (by decide) (by decide), by decide, vp_in_nI (by omega) (by decide), vp_in_nI (n := 8) (by decide) (by decide), rfl, ?_, ?_, rfl, rfl, rfl⟩
  · intro c a b e f
    simp only [q_set, if_neg e, if_neg f]
  · intro i hi
    show va_cpy (σ 49) (σ 45) (h * 24) 0 24 i = R i
    rw [pk_cpy_in (by omega) (by omega)]
    exact hR i hi
theorem EV.noteD {d : Nat} {σ : QS} {h i : Nat} {x W U X : Int32} {fw fu fx : Nat → Int32} (hh : h < 24) (e1 : σ 50 = upd fw h W) (e2 : σ 52 = upd fu h U) (e3 : σ 53 = upd fx h X) (hU : U = 0 ↔ X = -1) : EV d 4 0 [some (.inr 47), some (.inl (nI h)), some (.inl (nI i)), some (.inl x)] [] σ (qV (fun s => (∀ c, c ≠ 50 → c ≠ 52 → c ≠ 53 → s c = σ c) ∧ s 50 = upd fw h (if x = -1 then W else W + x) ∧ s 52 = upd fu h (if x = -1 then U + 1 else U) ∧ s 53 = upd fx h (if x = -1 ∧ X = -1 then nI i else X))) := by
  have c0 : (nI h).toNatClampNeg = h := cl_nI (by omega)
  have ih : vp_in (nI h) 24 := vp_in_nI hh (by decide)
  refine pD_note_0 ?_
  rw [c0, e1, e2, e3, upd_eq, upd_eq, upd_same, upd_same, upd_same]
  refine ⟨fun q1 => ⟨ih, fun q2 => ⟨ih, ih, rfl, ?_, ?_, ?_, ?_⟩, fun q2 => ⟨ih, ih, ih, rfl, ?_, ?_, ?_, ?_⟩⟩, fun q1 => ⟨ih, ih, rfl, ?_, ?_, ?_, ?_⟩⟩
  · intro c a b e
    rw [q_set_ne _ _ b]
  · rw [q_set_ne _ _ (by decide), if_pos q1]; exact e1
  · rw [q_set_eq, if_pos q1]
  · rw [q_set_ne _ _ (by decide), if_neg (fun z => q2 (hU.mpr z.2))]; exact e3
  · intro c a b e
    rw [q_set_ne _ _ b, q_set_ne _ _ e]
  · rw [q_set_ne _ _ (by decide), q_set_ne _ _ (by decide), if_pos q1]; exact e1
  · rw [q_set_eq, if_pos q1]
  · rw [q_set_ne _ _ (by decide), q_set_eq, if_pos ⟨q1, hU.mp q2⟩]
  · intro c a b e
    rw [q_set_ne _ _ a]
  · rw [q_set_eq, if_neg q1]
  · rw [q_set_ne _ _ (by decide), if_neg q1]; exact e2
  · rw [q_set_ne _ _ (by decide), if_neg (fun z => q1 z.1)]; exact e3
theorem EV.enterY {d : Nat} {σ : QS} {R : Nat → Int32} {h : Nat} (hh : h < 24) (hR : ∀ i, i < 24 → σ 56 (h * 24 + i) = R i) : EV d 50 0 [some (.inr 44), some (.inl (nI h)), some (.inr 54)] [] σ (qV (fun s => Fx σ s ∧ Rm (s 45) R ∧ At s (nI h) (σ 55 h) (ah (σ 55) h))) := by
  have e1 : nI h * 24 = nI (h * 24) := pk_mul h 24
  have c1 : (nI (h * 24)).toNatClampNeg = h * 24 := cl_nI (by omega)
  have c0 : (nI h).toNatClampNeg = h := cl_nI (by omega)
  have e2 : nI h + 24 - 1 = nI (h + 23) := by rw [show nI h + 24 = nI (h + 24) from nI_add _ 24]; exact pk_sub (a := h + 24) (b := 1) (by omega)
  have e3 : nI (h + 23) - nI (h + 23) / 24 * 24 = nI ((h + 23) % 24) := nI_rem 24 (by omega) (by decide) (by decide)
  have c3 : (nI ((h + 23) % 24)).toNatClampNeg = (h + 23) % 24 := cl_nI (by omega)
  refine pY_enter_0 ?_
  rw [e1, c1, c0, e2, e3, c3]
  refine ⟨⟨nI_pos (by omega), by decide, by decide, by show h * 24 + 24 ≤ 600; omega, by decide, fun z => absurd z (by decide)⟩, vp_in_nI (n := 6) (by decide) (by decide), vp_in_nI (by omega) (by decide), vp_in_nI (n := 7) (by decide) (by decide), by decide, vp_in_nI (by omega) (by decide), vp_in_nI (n := 8) (by decide) (by decide), rfl, ?_, ?_, rfl, rfl, rfl⟩
  · intro c a b e f
    simp only [q_set, if_neg e, if_neg f]
  · intro i hi
    show va_cpy (σ 56) (σ 45) (h * 24) 0 24 i = R i
    rw [pk_cpy_in (by omega) (by omega)]
    exact hR i hi
theorem EV.noteY {d : Nat} {σ : QS} {h i : Nat} {x W U X : Int32} {fw fu fx : Nat → Int32} (hh : h < 24) (e1 : σ 57 = upd fw h W) (e2 : σ 59 = upd fu h U) (e3 : σ 60 = upd fx h X) (hU : U = 0 ↔ X = -1) : EV d 4 0 [some (.inr 54), some (.inl (nI h)), some (.inl (nI i)), some (.inl x)] [] σ (qV (fun s => (∀ c, c ≠ 57 → c ≠ 59 → c ≠ 60 → s c = σ c) ∧ s 57 = upd fw h (if x = -1 then W else W + x) ∧ s 59 = upd fu h (if x = -1 then U + 1 else U) ∧ s 60 = upd fx h (if x = -1 ∧ X = -1 then nI i else X))) := by
  have c0 : (nI h).toNatClampNeg = h := cl_nI (by omega)
  have ih : vp_in (nI h) 24 := vp_in_nI hh (by decide)
  refine pY_note_0 ?_
  rw [c0, e1, e2, e3, upd_eq, upd_eq, upd_same, upd_same, upd_same]
  refine ⟨fun q1 => ⟨ih, fun q2 => ⟨ih, ih, rfl, ?_, ?_, ?_, ?_⟩, fun q2 => ⟨ih, ih, ih, rfl, ?_, ?_, ?_, ?_⟩⟩, fun q1 => ⟨ih, ih, rfl, ?_, ?_, ?_, ?_⟩⟩
  · intro c a b e
    rw [q_set_ne _ _ b]
  · rw [q_set_ne _ _ (by decide), if_pos q1]; exact e1
  · rw [q_set_eq, if_pos q1]
  · rw [q_set_ne _ _ (by decide), if_neg (fun z => q2 (hU.mpr z.2))]; exact e3
  · intro c a b e
    rw [q_set_ne _ _ b, q_set_ne _ _ e]
  · rw [q_set_ne _ _ (by decide), q_set_ne _ _ (by decide), if_pos q1]; exact e1
  · rw [q_set_eq, if_pos q1]
  · rw [q_set_ne _ _ (by decide), q_set_eq, if_pos ⟨q1, hU.mp q2⟩]
  · intro c a b e
    rw [q_set_ne _ _ a]
  · rw [q_set_eq, if_neg q1]
  · rw [q_set_ne _ _ (by decide), if_neg q1]; exact e2
  · rw [q_set_ne _ _ (by decide), if_neg (fun z => q1 z.1)]; exact e3
set_option maxHeartbeats 1000000 in
theorem EV.hourD0 {d : Nat} {σ : QS} {R : Nat → Int32} {h : Nat} (hL : LC σ 0) (hLw : LC σ 0) (hA : iA (σ 4) (σ 5) (σ 48)) (hh : h < 24) (hR : ∀ i, i < 24 → σ 49 (h * 24 + i) = R i) : EV (d + 4) 3 0 [some (.inr 47), some (.inl (nI h)), some (.inr 13), none, none] [] σ (qV (fun s => Fq 47 σ s ∧ (∀ k, k < (h + 1) * 24 → s 49 k = σ 49 k) ∧ (∀ i, i < 24 → s 49 ((h + 1) * 24 + i) = uR (cA σ 0) (σ 4) (σ 5) (σ 48) h R i) ∧ s 50 = upd (σ 50) h (uW (cA σ 0) (σ 4) (σ 5) (σ 48) h R) ∧ s 51 = upd (σ 51) h (uF (cA σ 0) (cA σ 0) (σ 4) (σ 5) (σ 48) h R) ∧ s 52 = upd (σ 52) h (uU (cA σ 0) (σ 4) (σ 5) (σ 48) h R) ∧ s 53 = upd (σ 53) h (uO (cA σ 0) (σ 4) (σ 5) (σ 48) h R))) := by
  have c0 : (nI h).toNatClampNeg = h := cl_nI (by omega)
  have ih : vp_in (nI h) 24 := vp_in_nI hh (by decide)
  have e1 : (nI h + 1) * 24 = nI ((h + 1) * 24) := by rw [nI_p1]; exact pk_mul (h + 1) 24
  have c1 : (nI ((h + 1) * 24)).toNatClampNeg = (h + 1) * 24 := cl_nI (by omega)
  obtain ⟨ow, how, eow⟩ := hA.1 h hh
  refine pD_hour0_0 ?_
  rw [c0, e1, c1]
  refine ⟨ih, ⟨_, EV.enterD hh hR, ?_⟩⟩
  rintro s2 ⟨f2, r2, a2⟩
  rw [f2 50 (by decide) (by decide) (by decide) (by decide), f2 51 (by decide) (by decide) (by decide) (by decide), f2 52 (by decide) (by decide) (by decide) (by decide), f2 53 (by decide) (by decide) (by decide) (by decide)]
  generalize ht : q_set (q_set (q_set (q_set s2 50 (upd (σ 50) h 0)) 51 (upd (σ 51) h 0)) 52 (upd (σ 52) h 0)) 53 (upd (σ 53) h (-1)) = t
  have fdt : Fq 47 σ t := by
    rw [← ht]
    exact (((((Fq.rf (lo := 47)).x f2).set (by decide) _).set (by decide) _).set (by decide) _).set (by decide) _
  have tf : t 49 = σ 49 := by rw [← ht, q_set_ne _ _ (by decide), q_set_ne _ _ (by decide), q_set_ne _ _ (by decide), q_set_ne _ _ (by decide)]; exact f2 49 (by decide) (by decide) (by decide) (by decide)
  have t45 : t 45 = s2 45 := by rw [← ht, q_set_ne _ _ (by decide), q_set_ne _ _ (by decide), q_set_ne _ _ (by decide), q_set_ne _ _ (by decide)]
  have t46 : t 46 = s2 46 := by rw [← ht, q_set_ne _ _ (by decide), q_set_ne _ _ (by decide), q_set_ne _ _ (by decide), q_set_ne _ _ (by decide)]
  have tw : t 50 = upd (σ 50) h 0 := by rw [← ht, q_set_ne _ _ (by decide), q_set_ne _ _ (by decide), q_set_ne _ _ (by decide), q_set_eq]
  have tn : t 51 = upd (σ 51) h 0 := by rw [← ht, q_set_ne _ _ (by decide), q_set_ne _ _ (by decide), q_set_eq]
  have tu : t 52 = upd (σ 52) h 0 := by rw [← ht, q_set_ne _ _ (by decide), q_set_eq]
  have tx : t 53 = upd (σ 53) h (-1) := by rw [← ht, q_set_eq]
  have at_ : At t (nI h) (σ 48 h) (ah (σ 48) h) := by unfold At; rw [t46]; exact a2
  have rt : Rm (t 45) R := by rw [t45]; exact r2
  clear ht
  have fin : ∀ (t s5 : QS) (Ra : Nat → Int32) (W F U X : Int32), Fq 47 σ t → t 49 = σ 49 → t 50 = upd (σ 50) h W → t 51 = upd (σ 51) h F → t 52 = upd (σ 52) h U → t 53 = upd (σ 53) h X → Fx t s5 → Rm (s5 45) (coR (cA t 0) Ra (nI h) (σ 48 h) (ah (σ 48) h) 8) → uA (cA σ 0) (σ 4) (σ 5) (σ 48) h R = Ra → uW (cA σ 0) (σ 4) (σ 5) (σ 48) h R = W → uF (cA σ 0) (cA σ 0) (σ 4) (σ 5) (σ 48) h R = F → uU (cA σ 0) (σ 4) (σ 5) (σ 48) h R = U → uO (cA σ 0) (σ 4) (σ 5) (σ 48) h R = X → ((¬ (0 : Int32) < 0) ∧ (¬ nI ((h + 1) * 24) < 0) ∧ (¬ (24 : Int32) < 0) ∧ (0 : Int32).toNatClampNeg + (24 : Int32).toNatClampNeg ≤ 24 ∧ ((h + 1) * 24) + (24 : Int32).toNatClampNeg ≤ 600 ∧ ((0 : Nat) = 1 → ∀ i, i < (24 : Int32).toNatClampNeg → fits .char (.int (s5 45 ((0 : Int32).toNatClampNeg + i))) = true)) ∧ (qV (fun s => Fq 47 σ s ∧ (∀ k, k < (h + 1) * 24 → s 49 k = σ 49 k) ∧ (∀ i, i < 24 → s 49 ((h + 1) * 24 + i) = uR (cA σ 0) (σ 4) (σ 5) (σ 48) h R i) ∧ s 50 = upd (σ 50) h (uW (cA σ 0) (σ 4) (σ 5) (σ 48) h R) ∧ s 51 = upd (σ 51) h (uF (cA σ 0) (cA σ 0) (σ 4) (σ 5) (σ 48) h R) ∧ s 52 = upd (σ 52) h (uU (cA σ 0) (σ 4) (σ 5) (σ 48) h R) ∧ s 53 = upd (σ 53) h (uO (cA σ 0) (σ 4) (σ 5) (σ 48) h R))) none (q_set s5 49 (va_cpy (s5 45) (s5 49) (0 : Int32).toNatClampNeg ((h + 1) * 24) (24 : Int32).toNatClampNeg)) := by
    intro t s5 Ra W F U X g1 g2 g3 g4 g5 g6 g7 g8 k1 k2 k3 k4 k5
    refine ⟨⟨by decide, nI_pos (by omega), by decide, by decide, by show (h + 1) * 24 + 24 ≤ 600; omega, fun z => absurd z (by decide)⟩, rfl, ?_, ?_, ?_, ?_, ?_, ?_, ?_⟩
    · exact (g1.x g7).set (by decide) _
    · intro k hk
      rw [q_set_eq, pk_cpy_out (by omega), g7 49 (by decide) (by decide) (by decide) (by decide), g2]
    · intro i hi
      rw [q_set_eq, pk_cpy_in (by omega) (by show (h + 1) * 24 + i < (h + 1) * 24 + 24; omega)]
      unfold uR
      rw [k1, ← cA_fr (g1.L (by decide))]
      rw [show (0 : Int32).toNatClampNeg + ((h + 1) * 24 + i - (h + 1) * 24) = i by show 0 + _ = _; omega]
      exact g8 i hi
    · rw [q_set_ne _ _ (by decide), g7 50 (by decide) (by decide) (by decide) (by decide), g3, k2]
    · rw [q_set_ne _ _ (by decide), g7 51 (by decide) (by decide) (by decide) (by decide), g4, k3]
    · rw [q_set_ne _ _ (by decide), g7 52 (by decide) (by decide) (by decide) (by decide), g5, k4]
    · rw [q_set_ne _ _ (by decide), g7 53 (by decide) (by decide) (by decide) (by decide), g6, k5]
  refine ⟨ih, ih, ih, ih, fun q3 => ⟨_, EV.cool (LC_fr (fdt.L (by decide)) hL) rt at_, ?_⟩, fun q3 => ?_⟩
  · rintro s5 ⟨g1, g2, g3⟩
    exact fin t s5 R 0 0 0 (-1) fdt tf tw tn tu tx g1 g2 (by unfold uA; rw [if_pos q3]) (by unfold uW; rw [if_pos q3]) (by unfold uF; rw [if_pos q3]) (by unfold uU; rw [if_pos q3]) (by unfold uO; rw [if_pos q3])
  have how2 : ow < 12 := by
    rcases Nat.lt_or_ge ow 12 with z | z
    · exact z
    · exact absurd (by rw [eow, show ow = 12 by omega]; rfl) q3
  have cow : (σ 48 h).toNatClampNeg = ow := by rw [eow]; exact cl_nI (by omega)
  obtain ⟨n, hn, en⟩ := hA.2.1 ow how2
  have en2 : nA (σ 5) (σ 48 h) = n := by unfold nA; rw [cow, en]; exact cl_nI (by omega)
  have lp := up_loop (P := fun i => ∀ s, Fq 47 σ s → s 49 = σ 49 → s 51 = upd (σ 51) h 0 → s 50 = upd (σ 50) h (acW (cA σ 0) (σ 4) ow (fun i => i) R (nI h) (σ 48 h) (ah (σ 48) h) i) → s 52 = upd (σ 52) h (acU (cA σ 0) (σ 4) ow (fun i => i) R (nI h) (σ 48 h) (ah (σ 48) h) i) → s 53 = upd (σ 53) h (acF (cA σ 0) (σ 4) ow (fun i => i) R (nI h) (σ 48 h) (ah (σ 48) h) i) → Rm (s 45) (acR (cA σ 0) (σ 4) ow (fun i => i) R (nI h) (σ 48 h) (ah (σ 48) h) i) → At s (nI h) (σ 48 h) (ah (σ 48) h) → EV (d + 4) 3 3 [some (.inr 47), some (.inl (nI h)), some (.inr 13), some (.inl (σ 48 h)), some (.inl (nI i))] [] s (qV (fun s => Fq 47 σ s ∧ (∀ k, k < (h + 1) * 24 → s 49 k = σ 49 k) ∧ (∀ i, i < 24 → s 49 ((h + 1) * 24 + i) = uR (cA σ 0) (σ 4) (σ 5) (σ 48) h R i) ∧ s 50 = upd (σ 50) h (uW (cA σ 0) (σ 4) (σ 5) (σ 48) h R) ∧ s 51 = upd (σ 51) h (uF (cA σ 0) (cA σ 0) (σ 4) (σ 5) (σ 48) h R) ∧ s 52 = upd (σ 52) h (uU (cA σ 0) (σ 4) (σ 5) (σ 48) h R) ∧ s 53 = upd (σ 53) h (uO (cA σ 0) (σ 4) (σ 5) (σ 48) h R)))) (n := n) ?_ ?_ 0 (by omega)
  · exact lp t fdt tf tn tw tu tx rt at_
  · intro s g1 g2 g3 g4 g5 g6 g7 g8
    have s5 : s 5 = σ 5 := g1 5 (by decide) (by decide) (by decide) (by decide) (by decide)
    refine pD_hour0_3 ?_
    rw [c0, e1, c1, cow, s5, en]
    refine ⟨by rw [eow]; exact vp_in_nI how2 (by decide), fun _ => ⟨_, EV.fines0 (LC_fr (g1.L (by decide)) hLw) g7 g8, ?_⟩, fun q => absurd (nI_le' (Nat.le_refl n) (by omega)) q⟩
    rintro y4 s3 ⟨hy, k1, k2, k3⟩
    rw [cA_fr (g1.L (by decide))] at hy
    refine ⟨ih, ?_⟩
    have k4 := g1.x k1
    rw [k1 51 (by decide) (by decide) (by decide) (by decide), g3, upd_same]
    generalize ht' : q_set s3 51 (upd (σ 51) h y4) = t'
    have l1 : Fq 47 σ t' := by rw [← ht']; exact k4.set (by decide) _
    have l2 : t' 45 = s3 45 := by rw [← ht', q_set_ne _ _ (by decide)]
    have l3 : At t' (nI h) (σ 48 h) (ah (σ 48) h) := by unfold At; rw [← ht', q_set_ne _ _ (by decide)]; exact k3
    refine ⟨_, EV.cool (LC_fr (l1.L (by decide)) hL) (by rw [l2, k2]; exact g7) l3, ?_⟩
    rintro s6 ⟨m1, m2, m3⟩
    have p2 : t' 49 = σ 49 := by rw [← ht', q_set_ne _ _ (by decide), k1 49 (by decide) (by decide) (by decide) (by decide)]; exact g2
    have p3 : t' 50 = s 50 := by rw [← ht', q_set_ne _ _ (by decide), k1 50 (by decide) (by decide) (by decide) (by decide)]
    have p4 : t' 51 = upd (σ 51) h y4 := by rw [← ht', q_set_eq]
    have p5 : t' 52 = s 52 := by rw [← ht', q_set_ne _ _ (by decide), k1 52 (by decide) (by decide) (by decide) (by decide)]
    have p6 : t' 53 = s 53 := by rw [← ht', q_set_ne _ _ (by decide), k1 53 (by decide) (by decide) (by decide) (by decide)]
    refine fin t' s6 _ _ y4 _ _ l1 p2 (p3.trans g4) p4 (p5.trans g5) (p6.trans g6) m1 m2 ?_ ?_ ?_ ?_ ?_
    · unfold uA; rw [if_neg q3, cow, en2]
    · unfold uW; rw [if_neg q3, cow, en2]
    · unfold uF uA; rw [if_neg q3, if_neg q3, cow, en2]; exact hy.symm
    · unfold uU; rw [if_neg q3, cow, en2]
    · unfold uO; rw [if_neg q3, cow, en2]
  · intro i hi ihh s g1 g2 g3 g4 g5 g6 g7 g8
    have s5 : s 5 = σ 5 := g1 5 (by decide) (by decide) (by decide) (by decide) (by decide)
    have s4 : s 4 = σ 4 := g1 4 (by decide) (by decide) (by decide) (by decide) (by decide)
    obtain ⟨r, hr, er⟩ := hA.2.2 (ow * 5 + i) (by omega)
    have cr : (σ 4 ((ow * 5 + i) * 3 + 1)).toNatClampNeg = r := by rw [er]; exact cl_nI (by omega)
    have eq : (σ 48 h * 5 + nI i) * 3 = nI ((ow * 5 + i) * 3) := by
      rw [eow, show nI ow * 5 = nI (ow * 5) from pk_mul ow 5, nI_add]
      exact pk_mul (ow * 5 + i) 3
    refine pD_hour0_3 ?_
    rw [cow, s5, en, eq]
    refine ⟨by rw [eow]; exact vp_in_nI how2 (by decide), fun q => absurd q (nI_nle' (by omega) (by omega)), fun _ => ⟨_, EV.perform (LC_fr (g1.L (by decide)) hL) (by omega) hr (by rw [s4]; exact er) g7 g8, ?_⟩⟩
    rintro y9 s8 ⟨hy, k1, k2, k3⟩
    rw [s4, cA_fr (g1.L (by decide))] at hy k2
    have hy' : y9 = oneW (cA σ 0) (σ 4) (acR (cA σ 0) (σ 4) ow (fun i => i) R (nI h) (σ 48 h) (ah (σ 48) h) i) (ow * 5 + i) (nI h) (σ 48 h) (ah (σ 48) h) := by unfold oneW; rw [cr]; exact hy
    refine ⟨_, EV.noteD hh ((k1 50 (by decide) (by decide) (by decide) (by decide)).trans g4) ((k1 52 (by decide) (by decide) (by decide) (by decide)).trans g5) ((k1 53 (by decide) (by decide) (by decide) (by decide)).trans g6) (acU0 (od := fun i => i) (A := cA σ 0) (a := σ 4) (b := ow) (R := R) (h := nI h) (o := σ 48 h) (p := ah (σ 48) h) (i := i) (by omega) (fun j hj => by omega)), ?_⟩
    rintro s11 ⟨l1, l2, l3, l4⟩
    rw [nI_p1]
    have l0 : Fq 47 σ s11 := fun c a b e f g => (l1 c (by omega) (by omega) (by omega)).trans ((g1.x k1) c a b e f g)
    refine ihh s11 l0 ?_ ?_ ?_ ?_ ?_ ?_ ?_
    · rw [l1 49 (by decide) (by decide) (by decide), k1 49 (by decide) (by decide) (by decide) (by decide)]; exact g2
    · rw [l1 51 (by decide) (by decide) (by decide), k1 51 (by decide) (by decide) (by decide) (by decide)]; exact g3
    · rw [l2, acW, ← hy']
    · rw [l3, acU, ← hy']
    · rw [l4, acF, ← hy']
    · rw [l1 45 (by decide) (by decide) (by decide), acR]
      unfold oneR
      rw [cr]
      exact k2
    · unfold At; rw [l1 46 (by decide) (by decide) (by decide)]; exact k3
set_option maxHeartbeats 1000000 in
theorem EV.hourY0 {d : Nat} {σ : QS} {R : Nat → Int32} {h : Nat} (hL : LC σ 0) (hLw : LC σ 0) (hA : iA (σ 4) (σ 5) (σ 55)) (hh : h < 24) (hR : ∀ i, i < 24 → σ 56 (h * 24 + i) = R i) : EV (d + 4) 3 0 [some (.inr 54), some (.inl (nI h)), some (.inr 13), none, none] [] σ (qV (fun s => Fq 54 σ s ∧ (∀ k, k < (h + 1) * 24 → s 56 k = σ 56 k) ∧ (∀ i, i < 24 → s 56 ((h + 1) * 24 + i) = uR (cA σ 0) (σ 4) (σ 5) (σ 55) h R i) ∧ s 57 = upd (σ 57) h (uW (cA σ 0) (σ 4) (σ 5) (σ 55) h R) ∧ s 58 = upd (σ 58) h (uF (cA σ 0) (cA σ 0) (σ 4) (σ 5) (σ 55) h R) ∧ s 59 = upd (σ 59) h (uU (cA σ 0) (σ 4) (σ 5) (σ 55) h R) ∧ s 60 = upd (σ 60) h (uO (cA σ 0) (σ 4) (σ 5) (σ 55) h R))) := by
  have c0 : (nI h).toNatClampNeg = h := cl_nI (by omega)
  have ih : vp_in (nI h) 24 := vp_in_nI hh (by decide)
  have e1 : (nI h + 1) * 24 = nI ((h + 1) * 24) := by rw [nI_p1]; exact pk_mul (h + 1) 24
  have c1 : (nI ((h + 1) * 24)).toNatClampNeg = (h + 1) * 24 := cl_nI (by omega)
  obtain ⟨ow, how, eow⟩ := hA.1 h hh
  refine pY_hour0_0 ?_
  rw [c0, e1, c1]
  refine ⟨ih, ⟨_, EV.enterY hh hR, ?_⟩⟩
  rintro s2 ⟨f2, r2, a2⟩
  rw [f2 57 (by decide) (by decide) (by decide) (by decide), f2 58 (by decide) (by decide) (by decide) (by decide), f2 59 (by decide) (by decide) (by decide) (by decide), f2 60 (by decide) (by decide) (by decide) (by decide)]
  generalize ht : q_set (q_set (q_set (q_set s2 57 (upd (σ 57) h 0)) 58 (upd (σ 58) h 0)) 59 (upd (σ 59) h 0)) 60 (upd (σ 60) h (-1)) = t
  have fdt : Fq 54 σ t := by
    rw [← ht]
    exact (((((Fq.rf (lo := 54)).x f2).set (by decide) _).set (by decide) _).set (by decide) _).set (by decide) _
  have tf : t 56 = σ 56 := by rw [← ht, q_set_ne _ _ (by decide), q_set_ne _ _ (by decide), q_set_ne _ _ (by decide), q_set_ne _ _ (by decide)]; exact f2 56 (by decide) (by decide) (by decide) (by decide)
  have t45 : t 45 = s2 45 := by rw [← ht, q_set_ne _ _ (by decide), q_set_ne _ _ (by decide), q_set_ne _ _ (by decide), q_set_ne _ _ (by decide)]
  have t46 : t 46 = s2 46 := by rw [← ht, q_set_ne _ _ (by decide), q_set_ne _ _ (by decide), q_set_ne _ _ (by decide), q_set_ne _ _ (by decide)]
  have tw : t 57 = upd (σ 57) h 0 := by rw [← ht, q_set_ne _ _ (by decide), q_set_ne _ _ (by decide), q_set_ne _ _ (by decide), q_set_eq]
  have tn : t 58 = upd (σ 58) h 0 := by rw [← ht, q_set_ne _ _ (by decide), q_set_ne _ _ (by decide), q_set_eq]
  have tu : t 59 = upd (σ 59) h 0 := by rw [← ht, q_set_ne _ _ (by decide), q_set_eq]
  have tx : t 60 = upd (σ 60) h (-1) := by rw [← ht, q_set_eq]
  have at_ : At t (nI h) (σ 55 h) (ah (σ 55) h) := by unfold At; rw [t46]; exact a2
  have rt : Rm (t 45) R := by rw [t45]; exact r2
  clear ht
  have fin : ∀ (t s5 : QS) (Ra : Nat → Int32) (W F U X : Int32), Fq 54 σ t → t 56 = σ 56 → t 57 = upd (σ 57) h W → t 58 = upd (σ 58) h F → t 59 = upd (σ 59) h U → t 60 = upd (σ 60) h X → Fx t s5 → Rm (s5 45) (coR (cA t 0) Ra (nI h) (σ 55 h) (ah (σ 55) h) 8) → uA (cA σ 0) (σ 4) (σ 5) (σ 55) h R = Ra → uW (cA σ 0) (σ 4) (σ 5) (σ 55) h R = W → uF (cA σ 0) (cA σ 0) (σ 4) (σ 5) (σ 55) h R = F → uU (cA σ 0) (σ 4) (σ 5) (σ 55) h R = U → uO (cA σ 0) (σ 4) (σ 5) (σ 55) h R = X → ((¬ (0 : Int32) < 0) ∧ (¬ nI ((h + 1) * 24) < 0) ∧ (¬ (24 : Int32) < 0) ∧ (0 : Int32).toNatClampNeg + (24 : Int32).toNatClampNeg ≤ 24 ∧ ((h + 1) * 24) + (24 : Int32).toNatClampNeg ≤ 600 ∧ ((0 : Nat) = 1 → ∀ i, i < (24 : Int32).toNatClampNeg → fits .char (.int (s5 45 ((0 : Int32).toNatClampNeg + i))) = true)) ∧ (qV (fun s => Fq 54 σ s ∧ (∀ k, k < (h + 1) * 24 → s 56 k = σ 56 k) ∧ (∀ i, i < 24 → s 56 ((h + 1) * 24 + i) = uR (cA σ 0) (σ 4) (σ 5) (σ 55) h R i) ∧ s 57 = upd (σ 57) h (uW (cA σ 0) (σ 4) (σ 5) (σ 55) h R) ∧ s 58 = upd (σ 58) h (uF (cA σ 0) (cA σ 0) (σ 4) (σ 5) (σ 55) h R) ∧ s 59 = upd (σ 59) h (uU (cA σ 0) (σ 4) (σ 5) (σ 55) h R) ∧ s 60 = upd (σ 60) h (uO (cA σ 0) (σ 4) (σ 5) (σ 55) h R))) none (q_set s5 56 (va_cpy (s5 45) (s5 56) (0 : Int32).toNatClampNeg ((h + 1) * 24) (24 : Int32).toNatClampNeg)) := by
    intro t s5 Ra W F U X g1 g2 g3 g4 g5 g6 g7 g8 k1 k2 k3 k4 k5
    refine ⟨⟨by decide, nI_pos (by omega), by decide, by decide, by show (h + 1) * 24 + 24 ≤ 600; omega, fun z => absurd z (by decide)⟩, rfl, ?_, ?_, ?_, ?_, ?_, ?_, ?_⟩
    · exact (g1.x g7).set (by decide) _
    · intro k hk
      rw [q_set_eq, pk_cpy_out (by omega), g7 56 (by decide) (by decide) (by decide) (by decide), g2]
    · intro i hi
      rw [q_set_eq, pk_cpy_in (by omega) (by show (h + 1) * 24 + i < (h + 1) * 24 + 24; omega)]
      unfold uR
      rw [k1, ← cA_fr (g1.L (by decide))]
      rw [show (0 : Int32).toNatClampNeg + ((h + 1) * 24 + i - (h + 1) * 24) = i by show 0 + _ = _; omega]
      exact g8 i hi
    · rw [q_set_ne _ _ (by decide), g7 57 (by decide) (by decide) (by decide) (by decide), g3, k2]
    · rw [q_set_ne _ _ (by decide), g7 58 (by decide) (by decide) (by decide) (by decide), g4, k3]
    · rw [q_set_ne _ _ (by decide), g7 59 (by decide) (by decide) (by decide) (by decide), g5, k4]
    · rw [q_set_ne _ _ (by decide), g7 60 (by decide) (by decide) (by decide) (by decide), g6, k5]
  refine ⟨ih, ih, ih, ih, fun q3 => ⟨_, EV.cool (LC_fr (fdt.L (by decide)) hL) rt at_, ?_⟩, fun q3 => ?_⟩
  · rintro s5 ⟨g1, g2, g3⟩
    exact fin t s5 R 0 0 0 (-1) fdt tf tw tn tu tx g1 g2 (by unfold uA; rw [if_pos q3]) (by unfold uW; rw [if_pos q3]) (by unfold uF; rw [if_pos q3]) (by unfold uU; rw [if_pos q3]) (by unfold uO; rw [if_pos q3])
  have how2 : ow < 12 := by
    rcases Nat.lt_or_ge ow 12 with z | z
    · exact z
    · exact absurd (by rw [eow, show ow = 12 by omega]; rfl) q3
  have cow : (σ 55 h).toNatClampNeg = ow := by rw [eow]; exact cl_nI (by omega)
  obtain ⟨n, hn, en⟩ := hA.2.1 ow how2
  have en2 : nA (σ 5) (σ 55 h) = n := by unfold nA; rw [cow, en]; exact cl_nI (by omega)
  have lp := up_loop (P := fun i => ∀ s, Fq 54 σ s → s 56 = σ 56 → s 58 = upd (σ 58) h 0 → s 57 = upd (σ 57) h (acW (cA σ 0) (σ 4) ow (fun i => i) R (nI h) (σ 55 h) (ah (σ 55) h) i) → s 59 = upd (σ 59) h (acU (cA σ 0) (σ 4) ow (fun i => i) R (nI h) (σ 55 h) (ah (σ 55) h) i) → s 60 = upd (σ 60) h (acF (cA σ 0) (σ 4) ow (fun i => i) R (nI h) (σ 55 h) (ah (σ 55) h) i) → Rm (s 45) (acR (cA σ 0) (σ 4) ow (fun i => i) R (nI h) (σ 55 h) (ah (σ 55) h) i) → At s (nI h) (σ 55 h) (ah (σ 55) h) → EV (d + 4) 3 3 [some (.inr 54), some (.inl (nI h)), some (.inr 13), some (.inl (σ 55 h)), some (.inl (nI i))] [] s (qV (fun s => Fq 54 σ s ∧ (∀ k, k < (h + 1) * 24 → s 56 k = σ 56 k) ∧ (∀ i, i < 24 → s 56 ((h + 1) * 24 + i) = uR (cA σ 0) (σ 4) (σ 5) (σ 55) h R i) ∧ s 57 = upd (σ 57) h (uW (cA σ 0) (σ 4) (σ 5) (σ 55) h R) ∧ s 58 = upd (σ 58) h (uF (cA σ 0) (cA σ 0) (σ 4) (σ 5) (σ 55) h R) ∧ s 59 = upd (σ 59) h (uU (cA σ 0) (σ 4) (σ 5) (σ 55) h R) ∧ s 60 = upd (σ 60) h (uO (cA σ 0) (σ 4) (σ 5) (σ 55) h R)))) (n := n) ?_ ?_ 0 (by omega)
  · exact lp t fdt tf tn tw tu tx rt at_
  · intro s g1 g2 g3 g4 g5 g6 g7 g8
    have s5 : s 5 = σ 5 := g1 5 (by decide) (by decide) (by decide) (by decide) (by decide)
    refine pY_hour0_3 ?_
    rw [c0, e1, c1, cow, s5, en]
    refine ⟨by rw [eow]; exact vp_in_nI how2 (by decide), fun _ => ⟨_, EV.fines0 (LC_fr (g1.L (by decide)) hLw) g7 g8, ?_⟩, fun q => absurd (nI_le' (Nat.le_refl n) (by omega)) q⟩
    rintro y4 s3 ⟨hy, k1, k2, k3⟩
    rw [cA_fr (g1.L (by decide))] at hy
    refine ⟨ih, ?_⟩
    have k4 := g1.x k1
    rw [k1 58 (by decide) (by decide) (by decide) (by decide), g3, upd_same]
    generalize ht' : q_set s3 58 (upd (σ 58) h y4) = t'
    have l1 : Fq 54 σ t' := by rw [← ht']; exact k4.set (by decide) _
    have l2 : t' 45 = s3 45 := by rw [← ht', q_set_ne _ _ (by decide)]
    have l3 : At t' (nI h) (σ 55 h) (ah (σ 55) h) := by unfold At; rw [← ht', q_set_ne _ _ (by decide)]; exact k3
    refine ⟨_, EV.cool (LC_fr (l1.L (by decide)) hL) (by rw [l2, k2]; exact g7) l3, ?_⟩
    rintro s6 ⟨m1, m2, m3⟩
    have p2 : t' 56 = σ 56 := by rw [← ht', q_set_ne _ _ (by decide), k1 56 (by decide) (by decide) (by decide) (by decide)]; exact g2
    have p3 : t' 57 = s 57 := by rw [← ht', q_set_ne _ _ (by decide), k1 57 (by decide) (by decide) (by decide) (by decide)]
    have p4 : t' 58 = upd (σ 58) h y4 := by rw [← ht', q_set_eq]
    have p5 : t' 59 = s 59 := by rw [← ht', q_set_ne _ _ (by decide), k1 59 (by decide) (by decide) (by decide) (by decide)]
    have p6 : t' 60 = s 60 := by rw [← ht', q_set_ne _ _ (by decide), k1 60 (by decide) (by decide) (by decide) (by decide)]
    refine fin t' s6 _ _ y4 _ _ l1 p2 (p3.trans g4) p4 (p5.trans g5) (p6.trans g6) m1 m2 ?_ ?_ ?_ ?_ ?_
    · unfold uA; rw [if_neg q3, cow, en2]
    · unfold uW; rw [if_neg q3, cow, en2]
    · unfold uF uA; rw [if_neg q3, if_neg q3, cow, en2]; exact hy.symm
    · unfold uU; rw [if_neg q3, cow, en2]
    · unfold uO; rw [if_neg q3, cow, en2]
  · intro i hi ihh s g1 g2 g3 g4 g5 g6 g7 g8
    have s5 : s 5 = σ 5 := g1 5 (by decide) (by decide) (by decide) (by decide) (by decide)
    have s4 : s 4 = σ 4 := g1 4 (by decide) (by decide) (by decide) (by decide) (by decide)
    obtain ⟨r, hr, er⟩ := hA.2.2 (ow * 5 + i) (by omega)
    have cr : (σ 4 ((ow * 5 + i) * 3 + 1)).toNatClampNeg = r := by rw [er]; exact cl_nI (by omega)
    have eq : (σ 55 h * 5 + nI i) * 3 = nI ((ow * 5 + i) * 3) := by
      rw [eow, show nI ow * 5 = nI (ow * 5) from pk_mul ow 5, nI_add]
      exact pk_mul (ow * 5 + i) 3
    refine pY_hour0_3 ?_
    rw [cow, s5, en, eq]
    refine ⟨by rw [eow]; exact vp_in_nI how2 (by decide), fun q => absurd q (nI_nle' (by omega) (by omega)), fun _ => ⟨_, EV.perform (LC_fr (g1.L (by decide)) hL) (by omega) hr (by rw [s4]; exact er) g7 g8, ?_⟩⟩
    rintro y9 s8 ⟨hy, k1, k2, k3⟩
    rw [s4, cA_fr (g1.L (by decide))] at hy k2
    have hy' : y9 = oneW (cA σ 0) (σ 4) (acR (cA σ 0) (σ 4) ow (fun i => i) R (nI h) (σ 55 h) (ah (σ 55) h) i) (ow * 5 + i) (nI h) (σ 55 h) (ah (σ 55) h) := by unfold oneW; rw [cr]; exact hy
    refine ⟨_, EV.noteY hh ((k1 57 (by decide) (by decide) (by decide) (by decide)).trans g4) ((k1 59 (by decide) (by decide) (by decide) (by decide)).trans g5) ((k1 60 (by decide) (by decide) (by decide) (by decide)).trans g6) (acU0 (od := fun i => i) (A := cA σ 0) (a := σ 4) (b := ow) (R := R) (h := nI h) (o := σ 55 h) (p := ah (σ 55) h) (i := i) (by omega) (fun j hj => by omega)), ?_⟩
    rintro s11 ⟨l1, l2, l3, l4⟩
    rw [nI_p1]
    have l0 : Fq 54 σ s11 := fun c a b e f g => (l1 c (by omega) (by omega) (by omega)).trans ((g1.x k1) c a b e f g)
    refine ihh s11 l0 ?_ ?_ ?_ ?_ ?_ ?_ ?_
    · rw [l1 56 (by decide) (by decide) (by decide), k1 56 (by decide) (by decide) (by decide) (by decide)]; exact g2
    · rw [l1 58 (by decide) (by decide) (by decide), k1 58 (by decide) (by decide) (by decide) (by decide)]; exact g3
    · rw [l2, acW, ← hy']
    · rw [l3, acU, ← hy']
    · rw [l4, acF, ← hy']
    · rw [l1 45 (by decide) (by decide) (by decide), acR]
      unfold oneR
      rw [cr]
      exact k2
    · unfold At; rw [l1 46 (by decide) (by decide) (by decide)]; exact k3
set_option maxHeartbeats 1000000 in
theorem EV.hourY1 {d : Nat} {σ : QS} {R : Nat → Int32} {h : Nat} (hL : LC σ 0) (hLw : LC σ 1) (hA : iA (σ 4) (σ 5) (σ 55)) (hh : h < 24) (hR : ∀ i, i < 24 → σ 56 (h * 24 + i) = R i) : EV (d + 4) 3 0 [some (.inr 54), some (.inl (nI h)), some (.inr 22), none, none] [] σ (qV (fun s => Fq 54 σ s ∧ (∀ k, k < (h + 1) * 24 → s 56 k = σ 56 k) ∧ (∀ i, i < 24 → s 56 ((h + 1) * 24 + i) = uR (cA σ 0) (σ 4) (σ 5) (σ 55) h R i) ∧ s 57 = upd (σ 57) h (uW (cA σ 0) (σ 4) (σ 5) (σ 55) h R) ∧ s 58 = upd (σ 58) h (uF (cA σ 0) (cA σ 1) (σ 4) (σ 5) (σ 55) h R) ∧ s 59 = upd (σ 59) h (uU (cA σ 0) (σ 4) (σ 5) (σ 55) h R) ∧ s 60 = upd (σ 60) h (uO (cA σ 0) (σ 4) (σ 5) (σ 55) h R))) := by
  have c0 : (nI h).toNatClampNeg = h := cl_nI (by omega)
  have ih : vp_in (nI h) 24 := vp_in_nI hh (by decide)
  have e1 : (nI h + 1) * 24 = nI ((h + 1) * 24) := by rw [nI_p1]; exact pk_mul (h + 1) 24
  have c1 : (nI ((h + 1) * 24)).toNatClampNeg = (h + 1) * 24 := cl_nI (by omega)
  obtain ⟨ow, how, eow⟩ := hA.1 h hh
  refine pY_hour1_0 ?_
  rw [c0, e1, c1]
  refine ⟨ih, ⟨_, EV.enterY hh hR, ?_⟩⟩
  rintro s2 ⟨f2, r2, a2⟩
  rw [f2 57 (by decide) (by decide) (by decide) (by decide), f2 58 (by decide) (by decide) (by decide) (by decide), f2 59 (by decide) (by decide) (by decide) (by decide), f2 60 (by decide) (by decide) (by decide) (by decide)]
  generalize ht : q_set (q_set (q_set (q_set s2 57 (upd (σ 57) h 0)) 58 (upd (σ 58) h 0)) 59 (upd (σ 59) h 0)) 60 (upd (σ 60) h (-1)) = t
  have fdt : Fq 54 σ t := by
    rw [← ht]
    exact (((((Fq.rf (lo := 54)).x f2).set (by decide) _).set (by decide) _).set (by decide) _).set (by decide) _
  have tf : t 56 = σ 56 := by rw [← ht, q_set_ne _ _ (by decide), q_set_ne _ _ (by decide), q_set_ne _ _ (by decide), q_set_ne _ _ (by decide)]; exact f2 56 (by decide) (by decide) (by decide) (by decide)
  have t45 : t 45 = s2 45 := by rw [← ht, q_set_ne _ _ (by decide), q_set_ne _ _ (by decide), q_set_ne _ _ (by decide), q_set_ne _ _ (by decide)]
  have t46 : t 46 = s2 46 := by rw [← ht, q_set_ne _ _ (by decide), q_set_ne _ _ (by decide), q_set_ne _ _ (by decide), q_set_ne _ _ (by decide)]
  have tw : t 57 = upd (σ 57) h 0 := by rw [← ht, q_set_ne _ _ (by decide), q_set_ne _ _ (by decide), q_set_ne _ _ (by decide), q_set_eq]
  have tn : t 58 = upd (σ 58) h 0 := by rw [← ht, q_set_ne _ _ (by decide), q_set_ne _ _ (by decide), q_set_eq]
  have tu : t 59 = upd (σ 59) h 0 := by rw [← ht, q_set_ne _ _ (by decide), q_set_eq]
  have tx : t 60 = upd (σ 60) h (-1) := by rw [← ht, q_set_eq]
  have at_ : At t (nI h) (σ 55 h) (ah (σ 55) h) := by unfold At; rw [t46]; exact a2
  have rt : Rm (t 45) R := by rw [t45]; exact r2
  clear ht
  have fin : ∀ (t s5 : QS) (Ra : Nat → Int32) (W F U X : Int32), Fq 54 σ t → t 56 = σ 56 → t 57 = upd (σ 57) h W → t 58 = upd (σ 58) h F → t 59 = upd (σ 59) h U → t 60 = upd (σ 60) h X → Fx t s5 → Rm (s5 45) (coR (cA t 0) Ra (nI h) (σ 55 h) (ah (σ 55) h) 8) → uA (cA σ 0) (σ 4) (σ 5) (σ 55) h R = Ra → uW (cA σ 0) (σ 4) (σ 5) (σ 55) h R = W → uF (cA σ 0) (cA σ 1) (σ 4) (σ 5) (σ 55) h R = F → uU (cA σ 0) (σ 4) (σ 5) (σ 55) h R = U → uO (cA σ 0) (σ 4) (σ 5) (σ 55) h R = X → ((¬ (0 : Int32) < 0) ∧ (¬ nI ((h + 1) * 24) < 0) ∧ (¬ (24 : Int32) < 0) ∧ (0 : Int32).toNatClampNeg + (24 : Int32).toNatClampNeg ≤ 24 ∧ ((h + 1) * 24) + (24 : Int32).toNatClampNeg ≤ 600 ∧ ((0 : Nat) = 1 → ∀ i, i < (24 : Int32).toNatClampNeg → fits .char (.int (s5 45 ((0 : Int32).toNatClampNeg + i))) = true)) ∧ (qV (fun s => Fq 54 σ s ∧ (∀ k, k < (h + 1) * 24 → s 56 k = σ 56 k) ∧ (∀ i, i < 24 → s 56 ((h + 1) * 24 + i) = uR (cA σ 0) (σ 4) (σ 5) (σ 55) h R i) ∧ s 57 = upd (σ 57) h (uW (cA σ 0) (σ 4) (σ 5) (σ 55) h R) ∧ s 58 = upd (σ 58) h (uF (cA σ 0) (cA σ 1) (σ 4) (σ 5) (σ 55) h R) ∧ s 59 = upd (σ 59) h (uU (cA σ 0) (σ 4) (σ 5) (σ 55) h R) ∧ s 60 = upd (σ 60) h (uO (cA σ 0) (σ 4) (σ 5) (σ 55) h R))) none (q_set s5 56 (va_cpy (s5 45) (s5 56) (0 : Int32).toNatClampNeg ((h + 1) * 24) (24 : Int32).toNatClampNeg)) := by
    intro t s5 Ra W F U X g1 g2 g3 g4 g5 g6 g7 g8 k1 k2 k3 k4 k5
    refine ⟨⟨by decide, nI_pos (by omega), by decide, by decide, by show (h + 1) * 24 + 24 ≤ 600; omega, fun z => absurd z (by decide)⟩, rfl, ?_, ?_, ?_, ?_, ?_, ?_, ?_⟩
    · exact (g1.x g7).set (by decide) _
    · intro k hk
      rw [q_set_eq, pk_cpy_out (by omega), g7 56 (by decide) (by decide) (by decide) (by decide), g2]
    · intro i hi
      rw [q_set_eq, pk_cpy_in (by omega) (by show (h + 1) * 24 + i < (h + 1) * 24 + 24; omega)]
      unfold uR
      rw [k1, ← cA_fr (g1.L (by decide))]
      rw [show (0 : Int32).toNatClampNeg + ((h + 1) * 24 + i - (h + 1) * 24) = i by show 0 + _ = _; omega]
      exact g8 i hi
    · rw [q_set_ne _ _ (by decide), g7 57 (by decide) (by decide) (by decide) (by decide), g3, k2]
    · rw [q_set_ne _ _ (by decide), g7 58 (by decide) (by decide) (by decide) (by decide), g4, k3]
    · rw [q_set_ne _ _ (by decide), g7 59 (by decide) (by decide) (by decide) (by decide), g5, k4]
    · rw [q_set_ne _ _ (by decide), g7 60 (by decide) (by decide) (by decide) (by decide), g6, k5]
  refine ⟨ih, ih, ih, ih, fun q3 => ⟨_, EV.cool (LC_fr (fdt.L (by decide)) hL) rt at_, ?_⟩, fun q3 => ?_⟩
  · rintro s5 ⟨g1, g2, g3⟩
    exact fin t s5 R 0 0 0 (-1) fdt tf tw tn tu tx g1 g2 (by unfold uA; rw [if_pos q3]) (by unfold uW; rw [if_pos q3]) (by unfold uF; rw [if_pos q3]) (by unfold uU; rw [if_pos q3]) (by unfold uO; rw [if_pos q3])
  have how2 : ow < 12 := by
    rcases Nat.lt_or_ge ow 12 with z | z
    · exact z
    · exact absurd (by rw [eow, show ow = 12 by omega]; rfl) q3
  have cow : (σ 55 h).toNatClampNeg = ow := by rw [eow]; exact cl_nI (by omega)
  obtain ⟨n, hn, en⟩ := hA.2.1 ow how2
  have en2 : nA (σ 5) (σ 55 h) = n := by unfold nA; rw [cow, en]; exact cl_nI (by omega)
  have lp := up_loop (P := fun i => ∀ s, Fq 54 σ s → s 56 = σ 56 → s 58 = upd (σ 58) h 0 → s 57 = upd (σ 57) h (acW (cA σ 0) (σ 4) ow (fun i => i) R (nI h) (σ 55 h) (ah (σ 55) h) i) → s 59 = upd (σ 59) h (acU (cA σ 0) (σ 4) ow (fun i => i) R (nI h) (σ 55 h) (ah (σ 55) h) i) → s 60 = upd (σ 60) h (acF (cA σ 0) (σ 4) ow (fun i => i) R (nI h) (σ 55 h) (ah (σ 55) h) i) → Rm (s 45) (acR (cA σ 0) (σ 4) ow (fun i => i) R (nI h) (σ 55 h) (ah (σ 55) h) i) → At s (nI h) (σ 55 h) (ah (σ 55) h) → EV (d + 4) 3 3 [some (.inr 54), some (.inl (nI h)), some (.inr 22), some (.inl (σ 55 h)), some (.inl (nI i))] [] s (qV (fun s => Fq 54 σ s ∧ (∀ k, k < (h + 1) * 24 → s 56 k = σ 56 k) ∧ (∀ i, i < 24 → s 56 ((h + 1) * 24 + i) = uR (cA σ 0) (σ 4) (σ 5) (σ 55) h R i) ∧ s 57 = upd (σ 57) h (uW (cA σ 0) (σ 4) (σ 5) (σ 55) h R) ∧ s 58 = upd (σ 58) h (uF (cA σ 0) (cA σ 1) (σ 4) (σ 5) (σ 55) h R) ∧ s 59 = upd (σ 59) h (uU (cA σ 0) (σ 4) (σ 5) (σ 55) h R) ∧ s 60 = upd (σ 60) h (uO (cA σ 0) (σ 4) (σ 5) (σ 55) h R)))) (n := n) ?_ ?_ 0 (by omega)
  · exact lp t fdt tf tn tw tu tx rt at_
  · intro s g1 g2 g3 g4 g5 g6 g7 g8
    have s5 : s 5 = σ 5 := g1 5 (by decide) (by decide) (by decide) (by decide) (by decide)
    refine pY_hour1_3 ?_
    rw [c0, e1, c1, cow, s5, en]
    refine ⟨by rw [eow]; exact vp_in_nI how2 (by decide), fun _ => ⟨_, EV.fines1 (LC_fr (g1.L (by decide)) hLw) g7 g8, ?_⟩, fun q => absurd (nI_le' (Nat.le_refl n) (by omega)) q⟩
    rintro y4 s3 ⟨hy, k1, k2, k3⟩
    rw [cA_fr (g1.L (by decide))] at hy
    refine ⟨ih, ?_⟩
    have k4 := g1.x k1
    rw [k1 58 (by decide) (by decide) (by decide) (by decide), g3, upd_same]
    generalize ht' : q_set s3 58 (upd (σ 58) h y4) = t'
    have l1 : Fq 54 σ t' := by rw [← ht']; exact k4.set (by decide) _
    have l2 : t' 45 = s3 45 := by rw [← ht', q_set_ne _ _ (by decide)]
    have l3 : At t' (nI h) (σ 55 h) (ah (σ 55) h) := by unfold At; rw [← ht', q_set_ne _ _ (by decide)]; exact k3
    refine ⟨_, EV.cool (LC_fr (l1.L (by decide)) hL) (by rw [l2, k2]; exact g7) l3, ?_⟩
    rintro s6 ⟨m1, m2, m3⟩
    have p2 : t' 56 = σ 56 := by rw [← ht', q_set_ne _ _ (by decide), k1 56 (by decide) (by decide) (by decide) (by decide)]; exact g2
    have p3 : t' 57 = s 57 := by rw [← ht', q_set_ne _ _ (by decide), k1 57 (by decide) (by decide) (by decide) (by decide)]
    have p4 : t' 58 = upd (σ 58) h y4 := by rw [← ht', q_set_eq]
    have p5 : t' 59 = s 59 := by rw [← ht', q_set_ne _ _ (by decide), k1 59 (by decide) (by decide) (by decide) (by decide)]
    have p6 : t' 60 = s 60 := by rw [← ht', q_set_ne _ _ (by decide), k1 60 (by decide) (by decide) (by decide) (by decide)]
    refine fin t' s6 _ _ y4 _ _ l1 p2 (p3.trans g4) p4 (p5.trans g5) (p6.trans g6) m1 m2 ?_ ?_ ?_ ?_ ?_
    · unfold uA; rw [if_neg q3, cow, en2]
    · unfold uW; rw [if_neg q3, cow, en2]
    · unfold uF uA; rw [if_neg q3, if_neg q3, cow, en2]; exact hy.symm
    · unfold uU; rw [if_neg q3, cow, en2]
    · unfold uO; rw [if_neg q3, cow, en2]
  · intro i hi ihh s g1 g2 g3 g4 g5 g6 g7 g8
    have s5 : s 5 = σ 5 := g1 5 (by decide) (by decide) (by decide) (by decide) (by decide)
    have s4 : s 4 = σ 4 := g1 4 (by decide) (by decide) (by decide) (by decide) (by decide)
    obtain ⟨r, hr, er⟩ := hA.2.2 (ow * 5 + i) (by omega)
    have cr : (σ 4 ((ow * 5 + i) * 3 + 1)).toNatClampNeg = r := by rw [er]; exact cl_nI (by omega)
    have eq : (σ 55 h * 5 + nI i) * 3 = nI ((ow * 5 + i) * 3) := by
      rw [eow, show nI ow * 5 = nI (ow * 5) from pk_mul ow 5, nI_add]
      exact pk_mul (ow * 5 + i) 3
    refine pY_hour1_3 ?_
    rw [cow, s5, en, eq]
    refine ⟨by rw [eow]; exact vp_in_nI how2 (by decide), fun q => absurd q (nI_nle' (by omega) (by omega)), fun _ => ⟨_, EV.perform (LC_fr (g1.L (by decide)) hL) (by omega) hr (by rw [s4]; exact er) g7 g8, ?_⟩⟩
    rintro y9 s8 ⟨hy, k1, k2, k3⟩
    rw [s4, cA_fr (g1.L (by decide))] at hy k2
    have hy' : y9 = oneW (cA σ 0) (σ 4) (acR (cA σ 0) (σ 4) ow (fun i => i) R (nI h) (σ 55 h) (ah (σ 55) h) i) (ow * 5 + i) (nI h) (σ 55 h) (ah (σ 55) h) := by unfold oneW; rw [cr]; exact hy
    refine ⟨_, EV.noteY hh ((k1 57 (by decide) (by decide) (by decide) (by decide)).trans g4) ((k1 59 (by decide) (by decide) (by decide) (by decide)).trans g5) ((k1 60 (by decide) (by decide) (by decide) (by decide)).trans g6) (acU0 (od := fun i => i) (A := cA σ 0) (a := σ 4) (b := ow) (R := R) (h := nI h) (o := σ 55 h) (p := ah (σ 55) h) (i := i) (by omega) (fun j hj => by omega)), ?_⟩
    rintro s11 ⟨l1, l2, l3, l4⟩
    rw [nI_p1]
    have l0 : Fq 54 σ s11 := fun c a b e f g => (l1 c (by omega) (by omega) (by omega)).trans ((g1.x k1) c a b e f g)
    refine ihh s11 l0 ?_ ?_ ?_ ?_ ?_ ?_ ?_
    · rw [l1 56 (by decide) (by decide) (by decide), k1 56 (by decide) (by decide) (by decide) (by decide)]; exact g2
    · rw [l1 58 (by decide) (by decide) (by decide), k1 58 (by decide) (by decide) (by decide) (by decide)]; exact g3
    · rw [l2, acW, ← hy']
    · rw [l3, acU, ← hy']
    · rw [l4, acF, ← hy']
    · rw [l1 45 (by decide) (by decide) (by decide), acR]
      unfold oneR
      rw [cr]
      exact k2
    · unfold At; rw [l1 46 (by decide) (by decide) (by decide)]; exact k3
