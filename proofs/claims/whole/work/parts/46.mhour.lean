/-! the reference's HOUR -/
def Fi (l h : Nat) (σ s : QS) : Prop := ∀ c, ¬ (l ≤ c ∧ c ≤ h) → s c = σ c
theorem Fi.rf {l h : Nat} {σ : QS} : Fi l h σ σ := fun _ _ => rfl
theorem Fi.tr {l h : Nat} {σ s t : QS} (a : Fi l h σ s) (b : Fi l h s t) : Fi l h σ t := fun c q => (b c q).trans (a c q)
theorem Fi.wk {l h l' h' : Nat} {σ s : QS} (a : Fi l h σ s) (h1 : l' ≤ l) (h2 : h ≤ h') : Fi l' h' σ s := fun c q => a c (by omega)
theorem Fi.set {l h : Nat} {σ s : QS} (a : Fi l h σ s) {c : Nat} (hc : l ≤ c ∧ c ≤ h) (f : Nat → Int32) : Fi l h σ (q_set s c f) := fun e q => by
  rw [q_set_ne _ _ (by intro z; subst z; exact q hc)]
  exact a e q
theorem Fi.L {l h : Nat} (hl : 93 ≤ l) {σ s : QS} (a : Fi l h σ s) : FrL σ s := fun c hc => a c (by omega)
def Rn (S D T R : Nat → Int32) : Prop := ∀ r, r < 8 → S r = R (r * 3) ∧ D r = R (r * 3 + 1) ∧ T r = R (r * 3 + 2)
theorem EV.feels {d : Nat} {σ : QS} {R : Nat → Int32} {h r : Nat} (hh : h < 24) (hr : r < 8) (hR : Rn (σ 95) (σ 96) (σ 97) R) : EV d 148 0 [some (.inr 69), some (.inl (nI h)), some (.inl (nI r))] [] σ (qV (fun s => Fi 94 94 σ s ∧ ∀ i, i < 9 → s 94 i = vF R 0 0 r (nI h) (σ 70 h) (ah (σ 70) h) i)) := by
  have cr : (nI r).toNatClampNeg = r := cl_nI (by omega)
  have ch : (nI h).toNatClampNeg = h := cl_nI (by omega)
  have ir : vp_in (nI r) 8 := vp_in_nI hr (by decide)
  have ih : vp_in (nI h) 24 := vp_in_nI hh (by decide)
  have k9 : ∀ k, k < 9 → vp_in (nI k) 9 := fun k hk => vp_in_nI hk (by decide)
  obtain ⟨r1, r2, r3⟩ := hR r hr
  refine pM_feels_0 ⟨k9 0 (by decide), k9 1 (by decide), k9 2 (by decide), ir, k9 3 (by decide), ir, k9 4 (by decide), ir, k9 5 (by decide), k9 6 (by decide), ih, k9 7 (by decide), fun q1 => ?_, fun q1 => ?_⟩
  · have h0 : h ≠ 0 := fun e => q1 (by rw [e]; rfl)
    have e1 : nI h - 1 = nI (h - 1) := pk_sub (b := 1) (by omega)
    have c1 : (nI (h - 1)).toNatClampNeg = h - 1 := cl_nI (by omega)
    rw [e1, c1, cr, ch, r1, r2, r3]
    refine ⟨vp_in_nI (by omega) (by decide), k9 8 (by decide), rfl, ?_, ?_⟩
    · intro c hc
      simp only [q_set, if_neg (show ¬ c = 94 by omega)]
    · intro i hi
      unfold vF ah
      rw [show (h + 23) % 24 = h - 1 by omega]
      rcases (show i = 0 ∨ i = 1 ∨ i = 2 ∨ i = 3 ∨ i = 4 ∨ i = 5 ∨ i = 6 ∨ i = 7 ∨ i = 8 by omega) with rfl | rfl | rfl | rfl | rfl | rfl | rfl | rfl | rfl <;> rfl
  · have h0 : h = 0 := (nI_eq (b := 0) (by omega) (by decide)).mp q1
    subst h0
    rw [cr, ch, r1, r2, r3]
    refine ⟨vp_in_nI (n := 23) (by decide) (by decide), k9 8 (by decide), rfl, ?_, ?_⟩
    · intro c hc
      simp only [q_set, if_neg (show ¬ c = 94 by omega)]
    · intro i hi
      unfold vF ah
      rcases (show i = 0 ∨ i = 1 ∨ i = 2 ∨ i = 3 ∨ i = 4 ∨ i = 5 ∨ i = 6 ∨ i = 7 ∨ i = 8 by omega) with rfl | rfl | rfl | rfl | rfl | rfl | rfl | rfl | rfl <;> rfl
theorem cl3 {x : Int32} {P : Int32 → Prop} (h : P (clp 0 99 x)) : (0 ≤ x → (x ≤ 99 → P x) ∧ (¬ x ≤ 99 → P 99)) ∧ (¬ 0 ≤ x → P 0) := by
  have c := clp_in (lo := 0) (hi := 99) (x := x) (by decide)
  refine ⟨fun q1 => ⟨fun q2 => ?_, fun q2 => ?_⟩, fun q1 => ?_⟩
  · rw [(c.1 q1).1 q2] at h; exact h
  · rw [(c.1 q1).2 q2] at h; exact h
  · rw [c.2 q1] at h; exact h
theorem Rn.upd {S D T R : Nat → Int32} (h : Rn S D T R) {r : Nat} (hr : r < 8) (x y z : Int32) : Rn (upd S r x) (upd D r y) (upd T r z) (upd (upd (upd R (r * 3) x) (r * 3 + 1) y) (r * 3 + 2) z) := iRm_upd h hr x y z
set_option maxHeartbeats 1000000 in
theorem EV.acts {d : Nat} {σ : QS} {R a n : Nat → Int32} {h q : Nat} (hL : LW σ 0) (hh : h < 24) (hq : q < 60) (hc : iAc n (σ 75) a (σ 76) (σ 77) (σ 78)) (hR : Rn (σ 95) (σ 96) (σ 97) R) : EV (d + 3) 150 0 [some (.inr 69), some (.inl (nI h)), some (.inl (nI q)), none, none, none, none, none] [] σ (qI (fun x s => x = oneW (cA σ 0) a R q (nI h) (σ 70 h) (ah (σ 70) h) ∧ Fi 93 97 σ s ∧ Rn (s 95) (s 96) (s 97) (oneR (cA σ 0) a R q (nI h) (σ 70 h) (ah (σ 70) h)))) := by
  have cq : (nI q).toNatClampNeg = q := cl_nI (by omega)
  have iq : vp_in (nI q) 60 := vp_in_nI hq (by decide)
  obtain ⟨k1, k2, k3, r, hr, k4⟩ := hc.2.2 q hq
  have cr : (nI r).toNatClampNeg = r := cl_nI (by omega)
  have ir : vp_in (nI r) 8 := vp_in_nI hr (by decide)
  have k9 : ∀ k, k < 9 → vp_in (nI k) 9 := fun k hk => vp_in_nI hk (by decide)
  unfold oneW oneR
  rw [← k1, ← k3, ← k2, k4, cr]
  generalize hp : ah (σ 70) h = p
  generalize ho : σ 70 h = o
  refine pM_acts_0 ?_
  rw [cq, k4, cr]
  refine ⟨iq, ⟨_, EV.feels hh hr hR, ?_⟩⟩
  rw [hp, ho]
  rintro s2 ⟨f2, hv⟩
  refine ⟨iq, k9 0 (by decide), iq, k9 1 (by decide), ?_⟩
  rw [f2 76 (by decide), f2 78 (by decide), q_set_same]
  generalize hs : q_set s2 94 _ = s
  have fs : Fi 93 97 σ s := by rw [← hs]; exact (f2.wk (by decide) (by decide)).set (by decide) _
  have sv : ∀ i, i < 9 → s 94 i = vF R (σ 76 q) (σ 78 q) r (nI h) o p i := by
    intro i hi
    rw [← hs, q_set_eq]
    have := hv i hi
    rcases (show i = 0 ∨ i = 1 ∨ i = 2 ∨ i = 3 ∨ i = 4 ∨ i = 5 ∨ i = 6 ∨ i = 7 ∨ i = 8 by omega) with rfl | rfl | rfl | rfl | rfl | rfl | rfl | rfl | rfl
    · rfl
    · rfl
    all_goals exact this
  have s95 : s 95 = σ 95 := by rw [← hs, q_set_ne _ _ (by decide)]; exact f2 95 (by decide)
  have s96 : s 96 = σ 96 := by rw [← hs, q_set_ne _ _ (by decide)]; exact f2 96 (by decide)
  have s97 : s 97 = σ 97 := by rw [← hs, q_set_ne _ _ (by decide)]; exact f2 97 (by decide)
  clear hs
  have ask : ∀ (t : QS) (P : Nat → Int32), t = q_set s 93 P → Fi 93 97 σ t ∧ (∀ i, i < 9 → t 94 i = vF R (σ 76 q) (σ 78 q) r (nI h) o p i) := by
    intro t P e
    subst e
    exact ⟨fs.set (by decide) _, fun i hi => by rw [q_set_ne _ _ (by decide)]; exact sv i hi⟩
  generalize hV : vF R (σ 76 q) (σ 78 q) r (nI h) o p = v at *
  have lw := fun {w : Nat} (hw : LW σ w) => LW_fr (fs.L (by decide)) hw
  refine ⟨_, EV.barM (lw hL) sv, ?_⟩
  rw [cA_fr (fs.L (by decide))]
  rintro y5 s4 ⟨hy5, P4, e4⟩
  obtain ⟨f4, v4⟩ := ask s4 P4 e4
  refine ⟨fun q6 => ?_, fun q6 => ?_⟩
  · have z0 : cA σ 0 0 v = 0 := hy5.symm.trans q6
    refine ⟨_, EV.askM (w := 0) (c := 4) (LW_fr (f4.L (by decide)) hL) (by decide) (by decide) (by decide) rfl rfl rfl v4, ?_⟩
    rw [cA_fr (f4.L (by decide))]
    rintro y9 s8 ⟨hy9, P8, e8⟩
    rw [e4, q_set_same] at e8
    obtain ⟨f8, v8⟩ := ask s8 P8 e8
    refine ⟨_, EV.askM (w := 0) (c := 1) (LW_fr (f8.L (by decide)) hL) (by decide) (by decide) (by decide) rfl rfl rfl v8, ?_⟩
    rw [cA_fr (f8.L (by decide))]
    rintro y12 s11 ⟨hy12, P11, e11⟩
    rw [e8, q_set_same] at e11
    obtain ⟨f11, v11⟩ := ask s11 P11 e11
    refine ⟨_, EV.askM (w := 0) (c := 2) (LW_fr (f11.L (by decide)) hL) (by decide) (by decide) (by decide) rfl rfl rfl v11, ?_⟩
    rw [cA_fr (f11.L (by decide))]
    rintro y15 s14 ⟨hy15, P14, e14⟩
    rw [e11, q_set_same] at e14
    obtain ⟨f14, v14⟩ := ask s14 P14 e14
    refine ⟨_, EV.askM (w := 0) (c := 3) (LW_fr (f14.L (by decide)) hL) (by decide) (by decide) (by decide) rfl rfl rfl v14, ?_⟩
    rw [cA_fr (f14.L (by decide))]
    rintro y18 s17 ⟨hy18, P17, e17⟩
    rw [e14, q_set_same] at e17
    obtain ⟨f17, v17⟩ := ask s17 P17 e17
    have t95 : s17 95 = σ 95 := by rw [e17, q_set_ne _ _ (by decide)]; exact s95
    have t96 : s17 96 = σ 96 := by rw [e17, q_set_ne _ _ (by decide)]; exact s96
    have t97 : s17 97 = σ 97 := by rw [e17, q_set_ne _ _ (by decide)]; exact s97
    obtain ⟨m1, m2, m3⟩ := hR r hr
    rw [t95, t96, t97, m1, m2, m3]
    refine ⟨ir, ?_⟩
    refine cl3 (P := fun z1 => (vp_in (nI r) 8) ∧ ((vp_in (nI r) 8) ∧ (((0 ≤ (R (r * 3 + 1) + y15) → ((R (r * 3 + 1) + y15) ≤ 99 → (vp_in (nI r) 8) ∧ ((vp_in (nI r) 8) ∧ (((0 ≤ (R (r * 3 + 2) + y18) → ((R (r * 3 + 2) + y18) ≤ 99 → (vp_in (nI r) 8) ∧ (qI (fun x s => x = pfW (cA σ 0) R (σ 76 q) (σ 78 q) r (nI h) o p ∧ Fi 93 97 σ s ∧ Rn (s 95) (s 96) (s 97) (pfR (cA σ 0) R (σ 76 q) (σ 78 q) r (nI h) o p))) (some y9) (q_set (q_set (q_set s17 95 (upd (σ 95) r z1)) 96 (upd (σ 96) r (R (r * 3 + 1) + y15))) 97 (upd (σ 97) r (R (r * 3 + 2) + y18)))) ∧ (¬ (R (r * 3 + 2) + y18) ≤ 99 → (vp_in (nI r) 8) ∧ (qI (fun x s => x = pfW (cA σ 0) R (σ 76 q) (σ 78 q) r (nI h) o p ∧ Fi 93 97 σ s ∧ Rn (s 95) (s 96) (s 97) (pfR (cA σ 0) R (σ 76 q) (σ 78 q) r (nI h) o p))) (some y9) (q_set (q_set (q_set s17 95 (upd (σ 95) r z1)) 96 (upd (σ 96) r (R (r * 3 + 1) + y15))) 97 (upd (σ 97) r 99)))) ∧ (¬ 0 ≤ (R (r * 3 + 2) + y18) → (vp_in (nI r) 8) ∧ (qI (fun x s => x = pfW (cA σ 0) R (σ 76 q) (σ 78 q) r (nI h) o p ∧ Fi 93 97 σ s ∧ Rn (s 95) (s 96) (s 97) (pfR (cA σ 0) R (σ 76 q) (σ 78 q) r (nI h) o p))) (some y9) (q_set (q_set (q_set s17 95 (upd (σ 95) r z1)) 96 (upd (σ 96) r (R (r * 3 + 1) + y15))) 97 (upd (σ 97) r 0))))))) ∧ (¬ (R (r * 3 + 1) + y15) ≤ 99 → (vp_in (nI r) 8) ∧ ((vp_in (nI r) 8) ∧ (((0 ≤ (R (r * 3 + 2) + y18) → ((R (r * 3 + 2) + y18) ≤ 99 → (vp_in (nI r) 8) ∧ (qI (fun x s => x = pfW (cA σ 0) R (σ 76 q) (σ 78 q) r (nI h) o p ∧ Fi 93 97 σ s ∧ Rn (s 95) (s 96) (s 97) (pfR (cA σ 0) R (σ 76 q) (σ 78 q) r (nI h) o p))) (some y9) (q_set (q_set (q_set s17 95 (upd (σ 95) r z1)) 96 (upd (σ 96) r 99)) 97 (upd (σ 97) r (R (r * 3 + 2) + y18)))) ∧ (¬ (R (r * 3 + 2) + y18) ≤ 99 → (vp_in (nI r) 8) ∧ (qI (fun x s => x = pfW (cA σ 0) R (σ 76 q) (σ 78 q) r (nI h) o p ∧ Fi 93 97 σ s ∧ Rn (s 95) (s 96) (s 97) (pfR (cA σ 0) R (σ 76 q) (σ 78 q) r (nI h) o p))) (some y9) (q_set (q_set (q_set s17 95 (upd (σ 95) r z1)) 96 (upd (σ 96) r 99)) 97 (upd (σ 97) r 99)))) ∧ (¬ 0 ≤ (R (r * 3 + 2) + y18) → (vp_in (nI r) 8) ∧ (qI (fun x s => x = pfW (cA σ 0) R (σ 76 q) (σ 78 q) r (nI h) o p ∧ Fi 93 97 σ s ∧ Rn (s 95) (s 96) (s 97) (pfR (cA σ 0) R (σ 76 q) (σ 78 q) r (nI h) o p))) (some y9) (q_set (q_set (q_set s17 95 (upd (σ 95) r z1)) 96 (upd (σ 96) r 99)) 97 (upd (σ 97) r 0)))))))) ∧ (¬ 0 ≤ (R (r * 3 + 1) + y15) → (vp_in (nI r) 8) ∧ ((vp_in (nI r) 8) ∧ (((0 ≤ (R (r * 3 + 2) + y18) → ((R (r * 3 + 2) + y18) ≤ 99 → (vp_in (nI r) 8) ∧ (qI (fun x s => x = pfW (cA σ 0) R (σ 76 q) (σ 78 q) r (nI h) o p ∧ Fi 93 97 σ s ∧ Rn (s 95) (s 96) (s 97) (pfR (cA σ 0) R (σ 76 q) (σ 78 q) r (nI h) o p))) (some y9) (q_set (q_set (q_set s17 95 (upd (σ 95) r z1)) 96 (upd (σ 96) r 0)) 97 (upd (σ 97) r (R (r * 3 + 2) + y18)))) ∧ (¬ (R (r * 3 + 2) + y18) ≤ 99 → (vp_in (nI r) 8) ∧ (qI (fun x s => x = pfW (cA σ 0) R (σ 76 q) (σ 78 q) r (nI h) o p ∧ Fi 93 97 σ s ∧ Rn (s 95) (s 96) (s 97) (pfR (cA σ 0) R (σ 76 q) (σ 78 q) r (nI h) o p))) (some y9) (q_set (q_set (q_set s17 95 (upd (σ 95) r z1)) 96 (upd (σ 96) r 0)) 97 (upd (σ 97) r 99)))) ∧ (¬ 0 ≤ (R (r * 3 + 2) + y18) → (vp_in (nI r) 8) ∧ (qI (fun x s => x = pfW (cA σ 0) R (σ 76 q) (σ 78 q) r (nI h) o p ∧ Fi 93 97 σ s ∧ Rn (s 95) (s 96) (s 97) (pfR (cA σ 0) R (σ 76 q) (σ 78 q) r (nI h) o p))) (some y9) (q_set (q_set (q_set s17 95 (upd (σ 95) r z1)) 96 (upd (σ 96) r 0)) 97 (upd (σ 97) r 0))))))))))) ?_
    refine ⟨ir, ir, ?_⟩
    refine cl3 (P := fun z2 => (vp_in (nI r) 8) ∧ ((vp_in (nI r) 8) ∧ (((0 ≤ (R (r * 3 + 2) + y18) → ((R (r * 3 + 2) + y18) ≤ 99 → (vp_in (nI r) 8) ∧ (qI (fun x s => x = pfW (cA σ 0) R (σ 76 q) (σ 78 q) r (nI h) o p ∧ Fi 93 97 σ s ∧ Rn (s 95) (s 96) (s 97) (pfR (cA σ 0) R (σ 76 q) (σ 78 q) r (nI h) o p))) (some y9) (q_set (q_set (q_set s17 95 (upd (σ 95) r (clp 0 99 (R (r * 3) + y12)))) 96 (upd (σ 96) r z2)) 97 (upd (σ 97) r (R (r * 3 + 2) + y18)))) ∧ (¬ (R (r * 3 + 2) + y18) ≤ 99 → (vp_in (nI r) 8) ∧ (qI (fun x s => x = pfW (cA σ 0) R (σ 76 q) (σ 78 q) r (nI h) o p ∧ Fi 93 97 σ s ∧ Rn (s 95) (s 96) (s 97) (pfR (cA σ 0) R (σ 76 q) (σ 78 q) r (nI h) o p))) (some y9) (q_set (q_set (q_set s17 95 (upd (σ 95) r (clp 0 99 (R (r * 3) + y12)))) 96 (upd (σ 96) r z2)) 97 (upd (σ 97) r 99)))) ∧ (¬ 0 ≤ (R (r * 3 + 2) + y18) → (vp_in (nI r) 8) ∧ (qI (fun x s => x = pfW (cA σ 0) R (σ 76 q) (σ 78 q) r (nI h) o p ∧ Fi 93 97 σ s ∧ Rn (s 95) (s 96) (s 97) (pfR (cA σ 0) R (σ 76 q) (σ 78 q) r (nI h) o p))) (some y9) (q_set (q_set (q_set s17 95 (upd (σ 95) r (clp 0 99 (R (r * 3) + y12)))) 96 (upd (σ 96) r z2)) 97 (upd (σ 97) r 0))))))) ?_
    refine ⟨ir, ir, ?_⟩
    refine cl3 (P := fun z3 => (vp_in (nI r) 8) ∧ (qI (fun x s => x = pfW (cA σ 0) R (σ 76 q) (σ 78 q) r (nI h) o p ∧ Fi 93 97 σ s ∧ Rn (s 95) (s 96) (s 97) (pfR (cA σ 0) R (σ 76 q) (σ 78 q) r (nI h) o p))) (some y9) (q_set (q_set (q_set s17 95 (upd (σ 95) r (clp 0 99 (R (r * 3) + y12)))) 96 (upd (σ 96) r (clp 0 99 (R (r * 3 + 1) + y15)))) 97 (upd (σ 97) r z3))) ?_
    refine ⟨ir, _, rfl, ?_, ?_, ?_⟩
    · unfold pfW; rw [hV, if_pos z0]; exact hy9
    · exact ((f17.set (by decide) _).set (by decide) _).set (by decide) _
    · unfold pfR
      rw [hV, if_pos z0, ← hy12, ← hy15, ← hy18]
      show Rn (upd (σ 95) r _) (upd (σ 96) r _) (upd (σ 97) r _) _
      exact hR.upd hr _ _ _
  · have z0 : ¬ cA σ 0 0 v = 0 := fun z => q6 (hy5.trans z)
    refine ⟨-1, rfl, ?_, f4, ?_⟩
    · unfold pfW; rw [hV, if_neg z0]
    · unfold pfR
      rw [hV, if_neg z0, e4, q_set_ne _ _ (by decide), q_set_ne _ _ (by decide), q_set_ne _ _ (by decide), s95, s96, s97]
      exact hR
theorem EV.finesM {d : Nat} {σ : QS} {R : Nat → Int32} {h w : Nat} (hL : LW σ w) (hw : w < 2) (hh : h < 24) (hR : Rn (σ 95) (σ 96) (σ 97) R) : EV (d + 3) 152 0 [some (.inr 69), some (.inl (nI h)), some (.inl (nI w)), none, none] [] σ (qI (fun x s => x = fnS (cA σ w) R (nI h) (σ 70 h) (ah (σ 70) h) 8 ∧ Fi 93 94 σ s)) := by
  refine pM_finesOf_0 ?_
  have key := up_loop (P := fun j => ∀ s, Fi 93 94 σ s → EV (d + 3) 152 1 [some (.inr 69), some (.inl (nI h)), some (.inl (nI w)), some (.inl (fnS (cA σ w) R (nI h) (σ 70 h) (ah (σ 70) h) j)), some (.inl (nI j))] [] s (qI (fun x s => x = fnS (cA σ w) R (nI h) (σ 70 h) (ah (σ 70) h) 8 ∧ Fi 93 94 σ s))) (n := 8) ?_ ?_ 0 (by omega)
  · exact key σ Fi.rf
  · intro s f1
    exact pM_finesOf_1 ⟨fun _ => ⟨_, rfl, rfl, f1⟩, fun q => absurd (nI_le' (Nat.le_refl 8) (by omega)) q⟩
  · intro j hj ih s f1
    refine pM_finesOf_1 ⟨fun q => absurd q (nI_nle' (a := 8) (by omega) (by omega)), fun _ => ⟨_, EV.feels (R := R) hh hj (by rw [f1 95 (by decide), f1 96 (by decide), f1 97 (by decide)]; exact hR), ?_⟩⟩
    rw [f1 70 (by decide)]
    rintro s3 ⟨g, hv⟩
    have g3 := f1.tr (g.wk (by decide) (by decide))
    refine ⟨_, EV.askM (w := w) (c := 5) (LW_fr (g3.L (by decide)) hL) hw (by decide) (by decide) rfl rfl rfl hv, ?_⟩
    rw [cA_fr (g3.L (by decide))]
    rintro y6 s5 ⟨hy6, P5, rfl⟩
    rw [nI_p1, hy6]
    exact ih _ (g3.set (by decide) P5)
theorem EV.coolM {d : Nat} {σ : QS} {R : Nat → Int32} {h : Nat} (hL : LW σ 0) (hh : h < 24) (hR : Rn (σ 95) (σ 96) (σ 97) R) : EV (d + 3) 154 0 [some (.inr 69), some (.inl (nI h)), none] [] σ (qV (fun s => Fi 93 97 σ s ∧ Rn (s 95) (s 96) (s 97) (coR (cA σ 0) R (nI h) (σ 70 h) (ah (σ 70) h) 8))) := by
  refine pM_cools_0 ?_
  have key := up_loop (P := fun j => ∀ s, Fi 93 97 σ s → Rn (s 95) (s 96) (s 97) (coR (cA σ 0) R (nI h) (σ 70 h) (ah (σ 70) h) j) → EV (d + 3) 154 1 [some (.inr 69), some (.inl (nI h)), some (.inl (nI j))] [] s (qV (fun s => Fi 93 97 σ s ∧ Rn (s 95) (s 96) (s 97) (coR (cA σ 0) R (nI h) (σ 70 h) (ah (σ 70) h) 8)))) (n := 8) ?_ ?_ 0 (by omega)
  · exact key σ Fi.rf hR
  · intro s f1 f2
    exact pM_cools_1 ⟨fun _ => ⟨rfl, f1, f2⟩, fun q => absurd (nI_le' (Nat.le_refl 8) (by omega)) q⟩
  · intro j hj ih s f1 f2
    have cj : (nI j).toNatClampNeg = j := cl_nI (by omega)
    have ij : vp_in (nI j) 8 := vp_in_nI hj (by decide)
    refine pM_cools_1 ?_
    rw [cj]
    refine ⟨fun q => absurd q (nI_nle' (a := 8) (by omega) (by omega)), fun _ => ⟨_, EV.feels hh hj f2, ?_⟩⟩
    rw [f1 70 (by decide)]
    rintro s3 ⟨g, hv⟩
    have g3 : Fi 93 97 σ s3 := f1.tr (g.wk (by decide) (by decide))
    refine ⟨ij, ⟨_, EV.askM (w := 0) (c := 6) (LW_fr (g3.L (by decide)) hL) (by decide) (by decide) (by decide) rfl rfl rfl hv, ?_⟩⟩
    rw [cA_fr (g3.L (by decide))]
    rintro y6 s5 ⟨hy6, P5, rfl⟩
    rw [nI_p1, q_set_ne _ _ (show 97 ≠ 93 by decide)]
    refine cl3 (P := fun z => (vp_in (nI j) 8) ∧ (EV (d + 3) 154 1 [some (.inr 69), some (.inl (nI h)), some (.inl (nI (j + 1)))] [] (q_set (q_set s3 93 P5) 97 (upd (s3 97) j z)) (qV (fun s => Fi 93 97 σ s ∧ Rn (s 95) (s 96) (s 97) (coR (cA σ 0) R (nI h) (σ 70 h) (ah (σ 70) h) 8))))) ⟨ij, ih _ ((g3.set (by decide) P5).set (by decide) _) ?_⟩
    rw [q_set_eq, q_set_ne _ _ (show 95 ≠ 97 by decide), q_set_ne _ _ (show 96 ≠ 97 by decide), q_set_ne _ _ (show 95 ≠ 93 by decide), q_set_ne _ _ (show 96 ≠ 93 by decide), g 95 (by decide), g 96 (by decide), g 97 (by decide), coR, hy6, (f2 j hj).2.2]
    intro r hr
    obtain ⟨n1, n2, n3⟩ := f2 r hr
    refine ⟨?_, ?_, ?_⟩
    · rw [upd_ne _ _ (by omega)]; exact n1
    · rw [upd_ne _ _ (by omega)]; exact n2
    · by_cases e : r = j
      · subst e; rw [upd_eq, upd_eq]
      · rw [upd_ne _ _ e, upd_ne _ _ (by omega)]; exact n3
theorem EV.finds {d : Nat} {σ : QS} {h : Nat} (hh : h ≤ 24) : EV d 153 0 [some (.inr 69), some (.inl (nI h)), none] [] σ (qV (fun s => Fi 98 100 σ s ∧ (∀ r, r < 8 → s 98 (8 * h + r) = σ 95 r ∧ s 99 (8 * h + r) = σ 96 r ∧ s 100 (8 * h + r) = σ 97 r) ∧ ∀ k, k < 8 * h → s 98 k = σ 98 k ∧ s 99 k = σ 99 k ∧ s 100 k = σ 100 k)) := by
  refine pM_findsAt_0 ?_
  have key := up_loop (P := fun j => ∀ s, Fi 98 100 σ s → (∀ r, r < j → s 98 (8 * h + r) = σ 95 r ∧ s 99 (8 * h + r) = σ 96 r ∧ s 100 (8 * h + r) = σ 97 r) → (∀ k, k < 8 * h → s 98 k = σ 98 k ∧ s 99 k = σ 99 k ∧ s 100 k = σ 100 k) → EV d 153 1 [some (.inr 69), some (.inl (nI h)), some (.inl (nI j))] [] s (qV (fun s => Fi 98 100 σ s ∧ (∀ r, r < 8 → s 98 (8 * h + r) = σ 95 r ∧ s 99 (8 * h + r) = σ 96 r ∧ s 100 (8 * h + r) = σ 97 r) ∧ ∀ k, k < 8 * h → s 98 k = σ 98 k ∧ s 99 k = σ 99 k ∧ s 100 k = σ 100 k))) (n := 8) ?_ ?_ 0 (by omega)
  · exact key σ Fi.rf (fun r hr => absurd hr (by omega)) (fun k _ => ⟨rfl, rfl, rfl⟩)
  · intro s f1 f2 f3
    exact pM_findsAt_1 ⟨fun _ => ⟨rfl, f1, f2, f3⟩, fun q => absurd (nI_le' (Nat.le_refl 8) (by omega)) q⟩
  · intro j hj ih s f1 f2 f3
    have cj : (nI j).toNatClampNeg = j := cl_nI (by omega)
    have ij : vp_in (nI j) 8 := vp_in_nI hj (by decide)
    have e1 : 8 * nI h + nI j = nI (8 * h + j) := by rw [show 8 * nI h = nI (8 * h) from pk_mul 8 h, nI_add]
    have c1 : (nI (8 * h + j)).toNatClampNeg = 8 * h + j := cl_nI (by omega)
    have i1 : vp_in (nI (8 * h + j)) 200 := vp_in_nI (by omega) (by decide)
    refine pM_findsAt_1 ?_
    rw [e1, c1, cj, nI_p1]
    refine ⟨fun q => absurd q (nI_nle' (a := 8) (by omega) (by omega)), fun _ => ⟨ij, i1, ij, i1, ij, i1, ?_⟩⟩
    refine ih _ (((f1.set (by decide) _).set (by decide) _).set (by decide) _) (fun r hr => ?_) (fun k hk => ?_)
    · rw [q_set_eq, q_set_ne _ _ (show 98 ≠ 100 by decide), q_set_ne _ _ (show 98 ≠ 99 by decide), q_set_eq, q_set_ne _ _ (show 99 ≠ 100 by decide), q_set_eq]
      by_cases e : r = j
      · subst e
        rw [upd_eq, upd_eq, upd_eq, f1 95 (by decide), f1 96 (by decide), f1 97 (by decide)]
        exact ⟨rfl, rfl, rfl⟩
      · rw [upd_ne _ _ (by omega), upd_ne _ _ (by omega), upd_ne _ _ (by omega)]
        exact f2 r (by omega)
    · rw [q_set_eq, q_set_ne _ _ (show 98 ≠ 100 by decide), q_set_ne _ _ (show 98 ≠ 99 by decide), q_set_eq, q_set_ne _ _ (show 99 ≠ 100 by decide), q_set_eq, upd_ne _ _ (by omega), upd_ne _ _ (by omega), upd_ne _ _ (by omega)]
      exact f3 k hk
