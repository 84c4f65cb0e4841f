/-! the whole invariant -/
def vOf (A : Nat → (Nat → Int32) → Int32) (a n R f : Nat → Int32) (o : Int32) : Int32 := smO f (fun h => uW A a n f h (dR A a n f R h)) o 24 - smO f (fun h => uF A A a n f h (dR A a n f R h)) o 24
def swp (f : Nat → Int32) (x y : Nat) : Nat → Int32 := upd (upd f x (f y)) y (f x)
def gn (A : Nat → (Nat → Int32) → Int32) (a n R f : Nat → Int32) (x y : Nat) (o : Int32) : Int32 := vOf A a n R (swp f x y) o - vOf A a n R f o
def bst (A : Nat → (Nat → Int32) → Int32) (a n R f : Nat → Int32) (x y : Nat) (t : Int32 × Int32 × Int32) : Int32 × Int32 × Int32 := if f x = 12 ∨ f y = 12 ∨ f x = f y then t else if gn A a n R f x y (f x) ≤ 0 ∨ gn A a n R f x y (f y) ≤ 0 ∨ gn A a n R f x y (f x) + gn A a n R f x y (f y) ≤ t.2.2 then t else (nI x, nI y, gn A a n R f x y (f x) + gn A a n R f x y (f y))
def bin (A : Nat → (Nat → Int32) → Int32) (a n R f : Nat → Int32) (x : Nat) (t : Int32 × Int32 × Int32) : Nat → Int32 × Int32 × Int32
  | 0 => t
  | k + 1 => bst A a n R f x (x + 1 + k) (bin A a n R f x t k)
def bou (A : Nat → (Nat → Int32) → Int32) (a n R f : Nat → Int32) : Nat → Int32 × Int32 × Int32
  | 0 => (-1, -1, 0)
  | x + 1 => bin A a n R f x (bou A a n R f x) (23 - x)
def BS (σ : QS) : Int32 × Int32 × Int32 := bou (cA σ 0) (σ 4) (σ 5) (σ 3) (σ 2) 24
def TC (σ : QS) : Prop := σ 61 3 = 0 ∨ (σ 61 3 = 1 ∧ σ 0 12 = 1 ∧ σ 61 6 = (BS σ).2.2 ∧ (¬ (BS σ).2.2 ≤ 0 → σ 61 4 = (BS σ).1 ∧ σ 61 5 = (BS σ).2.1))
def INV (σ : QS) : Prop := IB σ ∧ LW σ 0 ∧ LW σ 1 ∧ DC σ ∧ TC σ
def SimI (mx mm : Nat) (Lx Lm : QL) (σ : QS) : Prop := ∃ r, EV 60 mx 0 Lx [] σ (qI (fun x s1 => x = r ∧ EV 60 mm 0 Lm [] s1 (qI (fun y s2 => y = r ∧ INV s2))))
theorem BS_cg {σ s : QS} (hL : FrL σ s) (h2 : s 2 = σ 2) (h3 : s 3 = σ 3) (h4 : s 4 = σ 4) (h5 : s 5 = σ 5) : BS s = BS σ := by
  unfold BS
  rw [cA_fr hL, h2, h3, h4, h5]
theorem dyS_cg {σ s : QS} (hL : FrL σ s) (h : ∀ c, (2 ≤ c ∧ c ≤ 5 ∨ 48 ≤ c ∧ c ≤ 53) → s c = σ c) (hd : dyS σ) : dyS s := by
  unfold dyS at hd ⊢
  rw [cA_fr hL, h 2 (by decide), h 3 (by decide), h 4 (by decide), h 5 (by decide), h 48 (by decide), h 49 (by decide), h 50 (by decide), h 51 (by decide), h 52 (by decide), h 53 (by decide)]
  exact hd
theorem INV_fr {σ s : QS} (hI : INV σ) (hB : IB s) (hL : FrL σ s) (hD : FrD σ s) : INV s := by
  refine ⟨hB, LW_fr hL hI.2.1, LW_fr hL hI.2.2.1, ?_⟩
  rcases hD with ⟨h1, h2⟩ | ⟨h1, h2⟩
  · exact ⟨Or.inl h1, Or.inl h2⟩
  · refine ⟨?_, ?_⟩
    · unfold DC
      rw [h1]
      rcases hI.2.2.2.1 with h | ⟨h, hd⟩
      · exact Or.inl h
      · exact Or.inr ⟨h, dyS_cg hL (fun c hc => h2 c (by omega)) hd⟩
    · unfold TC
      rw [h1, h2 61 (by decide), BS_cg hL (h2 2 (by decide)) (h2 3 (by decide)) (h2 4 (by decide)) (h2 5 (by decide))]
      exact hI.2.2.2.2
theorem SimR.toI {mx mm : Nat} {Lx Lm : QL} {σ : QS} (hI : INV σ) (h : SimR mx mm Lx Lm σ) : SimI mx mm Lx Lm σ := by
  obtain ⟨r, h⟩ := h
  refine ⟨r, h.mono ?_⟩
  rintro q s1 ⟨x, rfl, hx, h2⟩
  refine ⟨x, rfl, hx, h2.mono ?_⟩
  rintro q s2 ⟨y, rfl, hy, h3, h4, h5⟩
  exact ⟨y, rfl, hy, INV_fr hI h3 h4 h5⟩
theorem Sim.toI {mx mm : Nat} {Lx Lm : QL} {σ : QS} (hI : INV σ) (h : Sim mx mm Lx Lm σ) : SimI mx mm Lx Lm σ := h.toR.toI hI
theorem SimI.no {mx mm : Nat} {Lx Lm : QL} {σ : QS} (r : Int32) (hI : INV σ) (h1 : EV 60 mx 0 Lx [] σ (qis r σ)) (h2 : EV 60 mm 0 Lm [] σ (qis r σ)) : SimI mx mm Lx Lm σ := (Sim.no r hI.1 h1 h2).toI hI
/-- what a call about a DAY may change: the class's side, the reference's side -/
def Fc (σ s : QS) : Prop := ∀ c, ¬ (c = 0 ∨ c = 21 ∨ c = 30 ∨ c = 45 ∨ c = 46 ∨ 48 ≤ c ∧ c ≤ 53 ∨ 55 ≤ c ∧ c ≤ 64) → s c = σ c
def Fmm (σ s : QS) : Prop := (∀ c, c ≠ 69 → ¬ (93 ≤ c ∧ c ≤ 107) → s c = σ c) ∧ ∀ k, ¬ (47 ≤ k ∧ k ≤ 52) → s 69 k = σ 69 k
theorem Fc.rf {σ : QS} : Fc σ σ := fun _ _ => rfl
theorem Fc.tr {σ s t : QS} (h : Fc σ s) (k : Fc s t) : Fc σ t := fun c q => (k c q).trans (h c q)
theorem Fc.L {σ s : QS} (h : Fc σ s) : FrL σ s := fun c hc => h c (by omega)
theorem Fc.M {σ s : QS} (h : Fc σ s) : FrM σ s := fun c hc => h c (by omega)
theorem Fy.c {σ s : QS} (h : Fy σ s) : Fc σ s := fun c q => h c (by omega) (by omega) (by omega) (by omega) (by omega) (by omega)
theorem Fq.c {lo : Nat} (hl : lo = 47 ∨ lo = 54) {σ s : QS} (h : Fq lo σ s) : Fc σ s := fun c q => h c (by omega) (by omega) (by omega) (by omega) (by omega)
theorem Fmm.rf {σ : QS} : Fmm σ σ := ⟨fun _ _ _ => rfl, fun _ _ => rfl⟩
theorem Fmm.tr {σ s t : QS} (h : Fmm σ s) (k : Fmm s t) : Fmm σ t := ⟨fun c a b => (k.1 c a b).trans (h.1 c a b), fun c a => (k.2 c a).trans (h.2 c a)⟩
theorem Fi.mm {σ s : QS} (h : Fi 93 105 σ s) : Fmm σ s := ⟨fun c _ b => h c (by omega), fun k _ => by rw [h 69 (by decide)]⟩
theorem Fmm.L {σ s : QS} (h : Fmm σ s) : FrL σ s := fun c hc => h.1 c (by omega) (by omega)
theorem IB_day {σ s t : QS} (hI : IB σ) (h1 : Fc σ s) (h0 : s 0 2 = σ 0 2) (h2 : Fmm s t) : IB t := by
  have cl : ∀ c, c ≠ 0 → c ≠ 69 → (c ≤ 12 ∨ c = 42 ∨ c = 43 ∨ 69 ≤ c ∧ c ≤ 80 ∨ 110 ≤ c) → t c = σ c := fun c a b e => (h2.1 c b (by omega)).trans (h1 c (by omega))
  have c0 : t 0 2 = σ 0 2 := by rw [h2.1 0 (by decide) (by decide)]; exact h0
  have cm : ∀ k, ¬ (47 ≤ k ∧ k ≤ 52) → t 69 k = σ 69 k := fun k hk => (h2.2 k hk).trans (by rw [h1 69 (by decide)])
  unfold IB iKp at hI ⊢
  rw [c0, cm 0 (by decide), cm 12 (by decide), cm 55 (by decide), cm 56 (by decide), cl 1 (by decide) (by decide) (by decide), cl 2 (by decide) (by decide) (by decide), cl 3 (by decide) (by decide) (by decide), cl 4 (by decide) (by decide) (by decide), cl 5 (by decide) (by decide) (by decide), cl 6 (by decide) (by decide) (by decide), cl 7 (by decide) (by decide) (by decide), cl 8 (by decide) (by decide) (by decide), cl 9 (by decide) (by decide) (by decide), cl 10 (by decide) (by decide) (by decide), cl 11 (by decide) (by decide) (by decide), cl 12 (by decide) (by decide) (by decide), cl 42 (by decide) (by decide) (by decide), cl 43 (by decide) (by decide) (by decide), cl 70 (by decide) (by decide) (by decide), cl 71 (by decide) (by decide) (by decide), cl 72 (by decide) (by decide) (by decide), cl 73 (by decide) (by decide) (by decide), cl 74 (by decide) (by decide) (by decide), cl 75 (by decide) (by decide) (by decide), cl 76 (by decide) (by decide) (by decide), cl 77 (by decide) (by decide) (by decide), cl 78 (by decide) (by decide) (by decide), cl 79 (by decide) (by decide) (by decide), cl 80 (by decide) (by decide) (by decide), cl 110 (by decide) (by decide) (by decide), cl 111 (by decide) (by decide) (by decide), cl 112 (by decide) (by decide) (by decide), cl 113 (by decide) (by decide) (by decide), cl 114 (by decide) (by decide) (by decide), cl 115 (by decide) (by decide) (by decide), cl 116 (by decide) (by decide) (by decide), cl 117 (by decide) (by decide) (by decide)]
  exact hI
theorem INV_day {σ s t : QS} (hI : INV σ) (h1 : Fc σ s) (h0 : s 0 2 = σ 0 2) (hd : DC s) (ht : TC s) (h2 : Fmm s t) : INV t := by
  have lt : ∀ c, c ≤ 68 → t c = s c := fun c hc => h2.1 c (by omega) (by omega)
  refine ⟨IB_day hI.1 h1 h0 h2, LW_fr h2.L (LW_fr h1.L hI.2.1), LW_fr h2.L (LW_fr h1.L hI.2.2.1), ?_, ?_⟩
  · unfold DC at hd ⊢
    rw [lt 0 (by decide)]
    rcases hd with h | ⟨h, k⟩
    · exact Or.inl h
    · exact Or.inr ⟨h, dyS_cg h2.L (fun c hc => lt c (by omega)) k⟩
  · unfold TC at ht ⊢
    rw [lt 0 (by decide), lt 61 (by decide), BS_cg h2.L (lt 2 (by decide)) (lt 3 (by decide)) (lt 4 (by decide)) (lt 5 (by decide))]
    exact ht
theorem SimI.mk {mx mm : Nat} {Lx Lm : QL} {σ : QS} (r : Int32) (hI : INV σ) (h1 : EV 60 mx 0 Lx [] σ (qI (fun x s1 => x = r ∧ Fc σ s1 ∧ s1 0 2 = σ 0 2 ∧ DC s1 ∧ TC s1))) (h2 : ∀ s1, Fc σ s1 → EV 60 mm 0 Lm [] s1 (qI (fun y s2 => y = r ∧ Fmm s1 s2))) : SimI mx mm Lx Lm σ := by
  refine ⟨r, h1.mono ?_⟩
  rintro q s1 ⟨x, rfl, hx, g1, g2, g3, g4⟩
  refine ⟨x, rfl, hx, (h2 s1 g1).mono ?_⟩
  rintro q s2 ⟨y, rfl, hy, g5⟩
  exact ⟨y, rfl, hy, INV_day hI g1 g2 g3 g4 g5⟩
theorem INV.A {σ : QS} (h : INV σ) : iA (σ 4) (σ 5) (σ 2) := by
  obtain ⟨⟨h1, h2, h3, h4⟩, -⟩ := h
  refine ⟨h1.2, h3.2.1, fun q hq => ?_⟩
  obtain ⟨-, e, -, r, hr, er⟩ := h3.2.2 q hq
  exact ⟨r, hr, by rw [← e]; exact er⟩
theorem TC_keep {σ s : QS} (h1 : Fc σ s) (h2 : s 61 = σ 61) (h0 : s 0 12 = 1) (ht : TC σ) : TC s := by
  unfold TC at ht ⊢
  rw [h2, h0, BS_cg h1.L (h1 2 (by decide)) (h1 3 (by decide)) (h1 4 (by decide)) (h1 5 (by decide))]
  rcases ht with h | ⟨a, b, c⟩
  · exact Or.inl h
  · exact Or.inr ⟨a, rfl, c⟩
/-- the DAY run: what is known behind it -/
def Dn (σ s : QS) : Prop := Fc σ s ∧ s 0 2 = σ 0 2 ∧ s 0 12 = 1 ∧ dyS s ∧ TC s
theorem EV.dayI {d : Nat} {σ : QS} (hI : INV σ) : EV (d + 6) 104 0 [some (.inr 0)] [] σ (qV (fun s => Dn σ s ∧ Fy σ s)) := by
  refine (EV.runDay hI.2.1.1 hI.A hI.2.2.2.1).mono ?_
  rintro q s ⟨rfl, h1, h2, h3⟩
  have e12 : s 0 12 = 1 := by rw [h2]; exact upd_eq _ _ _
  exact ⟨rfl, ⟨h1.c, by rw [h2]; exact upd_ne _ _ (by decide), e12, h3, TC_keep h1.c (h1 61 (by decide) (by decide) (by decide) (by decide) (by decide) (by decide)) e12 hI.2.2.2.2⟩, h1⟩
theorem Dn.K {σ s : QS} (h : Dn σ s) : Fc σ s ∧ s 0 2 = σ 0 2 ∧ DC s ∧ TC s := ⟨h.1, h.2.1, Or.inr ⟨h.2.2.1, h.2.2.2.1⟩, h.2.2.2.2⟩
theorem Dn.day {σ s : QS} (h : Dn σ s) : (∀ k, k < 24 → s 48 k = σ 2 k) ∧ Dy (s 49) (s 50) (s 51) (cA σ 0) (cA σ 0) (σ 4) (σ 5) (σ 2) (σ 3) 24 ∧ Du (s 52) (s 53) (cA σ 0) (σ 4) (σ 5) (σ 2) (σ 3) 24 := by
  have := h.2.2.2.1
  unfold dyS at this
  rw [cA_fr h.1.L, h.1 2 (by decide), h.1 3 (by decide), h.1 4 (by decide), h.1 5 (by decide)] at this
  exact this
/-- the reference's state, as far as its run reads it -/
def Mc (σ s : QS) : Prop := FrL σ s ∧ ∀ c, 72 ≤ c ∧ c ≤ 78 → s c = σ c
theorem Fc.mc {σ s : QS} (h : Fc σ s) : Mc σ s := ⟨h.L, fun c hc => h c (by omega)⟩
theorem Mc.tr {σ s t : QS} (h : Mc σ s) (k : Mc s t) : Mc σ t := ⟨fun c hc => (k.1 c hc).trans (h.1 c hc), fun c hc => (k.2 c hc).trans (h.2 c hc)⟩
theorem Fmm.mc {σ s : QS} (h : Fmm σ s) : Mc σ s := ⟨h.L, fun c hc => h.1 c (by omega) (by omega)⟩
theorem Mc.set {σ s : QS} (h : Mc σ s) {c : Nat} (hc : c = 69 ∨ c = 70 ∨ 93 ≤ c) (f : Nat → Int32) : Mc σ (q_set s c f) := ⟨fun e he => by rw [q_set_ne _ _ (by omega)]; exact h.1 e he, fun e he => by rw [q_set_ne _ _ (by omega)]; exact h.2 e he⟩
theorem EV.runsI {d : Nat} {σ s : QS} {w : Nat} {f : Nat → Int32} (hI : INV σ) (hs : Mc σ s) (hw : w < 2) (ef : s 70 = f) (hf : ∀ h, h < 24 → ∃ o, o ≤ 12 ∧ f h = nI o) : EV (d + 5) 155 0 [some (.inr 69), some (.inl (nI w)), none, none] [] s (qV (fun t => Fi 93 105 s t ∧ Mday t (cA σ 0) (cA σ w) (σ 4) (σ 5) f (σ 3))) := by
  subst ef
  have hLw : LW σ w := by
    rcases (show w = 0 ∨ w = 1 by omega) with rfl | rfl
    · exact hI.2.1
    · exact hI.2.2.1
  rw [← cA_fr hs.1, ← cA_fr hs.1]
  have hL0 := hI.2.1
  obtain ⟨⟨h1, h2, h3, h4⟩, -⟩ := hI
  refine EV.runs (LW_fr hs.1 hL0) (LW_fr hs.1 hLw) hw hf (by rw [hs.2 75 (by decide), hs.2 76 (by decide), hs.2 77 (by decide), hs.2 78 (by decide)]; exact h3) (by rw [hs.2 72 (by decide), hs.2 73 (by decide), hs.2 74 (by decide)]; exact h2)
theorem vOf_M {A B : Nat → (Nat → Int32) → Int32} {a n f R : Nat → Int32} {t : QS} (h : Mday t A A a n f R) (e : t 70 = f) (o : Int32) : smO (t 70) (w3r t 0) o 24 - smO (t 70) (w3r t 1) o 24 = vOf A a n R f o := by
  subst e
  unfold vOf
  rw [smO_cg (row := w3r t 0) (row' := fun h => uW A a n (t 70) h (dR A a n (t 70) R h)) 24 (fun k hk => ⟨rfl, (h.2.1 k hk).1⟩), smO_cg (row := w3r t 1) (row' := fun h => uF A A a n (t 70) h (dR A a n (t 70) R h)) 24 (fun k hk => ⟨rfl, (h.2.1 k hk).2.1⟩)]
theorem EV.valI {d : Nat} {σ s : QS} {f : Nat → Int32} {o : Int32} (hI : INV σ) (hs : Mc σ s) (ef : s 70 = f) (hf : ∀ h, h < 24 → ∃ o, o ≤ 12 ∧ f h = nI o) : EV (d + 6) 159 0 [some (.inr 69), some (.inl o)] [] s (qI (fun x t => x = vOf (cA σ 0) (σ 4) (σ 5) (σ 3) f o ∧ Fi 93 105 s t ∧ Mday t (cA σ 0) (cA σ 0) (σ 4) (σ 5) f (σ 3))) := by
  refine pM_valueOf_0 ⟨_, EV.runsI (w := 0) hI hs (by decide) ef hf, ?_⟩
  rintro t ⟨h1, h2⟩
  refine ex_I (EV.sumOf (w := 0) (by decide)) (ex_I (EV.sumOf (w := 1) (by decide)) ⟨_, rfl, ?_, h1, h2⟩)
  exact vOf_M (B := cA σ 0) h2 ((h1 70 (by decide)).trans ef) o
theorem vOf_D {A : Nat → (Nat → Int32) → Int32} {a n f g R F W N : Nat → Int32} (h1 : ∀ k, k < 24 → g k = f k) (h : Dy F W N A A a n f R 24) (o : Int32) : smO g W o 24 - smO g N o 24 = vOf A a n R f o := by
  unfold vOf
  rw [smO_cg (f' := f) (row := W) (row' := fun h => uW A a n f h (dR A a n f R h)) 24 (fun k hk => ⟨h1 k hk, (h.2 k hk).1⟩), smO_cg (f' := f) (row := N) (row' := fun h => uF A A a n f h (dR A a n f R h)) 24 (fun k hk => ⟨h1 k hk, (h.2 k hk).2⟩)]
theorem INV.f {σ s : QS} (h : INV σ) (hs : FrM σ s) : s 70 = σ 2 := (hs 70 (by decide)).trans h.1.1.1
theorem INV.fr {σ : QS} (h : INV σ) : ∀ k, k < 24 → ∃ o, o ≤ 12 ∧ σ 2 k = nI o := h.1.1.2
