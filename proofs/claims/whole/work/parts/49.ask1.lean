/-! calls that ask of the DAY -/
def QX (σ : QS) (r : Int32) : QQ := qI (fun x s1 => x = r ∧ Fc σ s1 ∧ s1 0 2 = σ 0 2 ∧ DC s1 ∧ TC s1)
def QM2 (s1 : QS) (r : Int32) : QQ := qI (fun y s2 => y = r ∧ Fmm s1 s2)
theorem QX.mk {σ s : QS} {r x : Int32} (h : Dn σ s) (e : x = r) : QX σ r (some x) s := ⟨x, rfl, e, h.K⟩
theorem QX.no {σ : QS} {r x : Int32} (hI : INV σ) (e : x = r) : QX σ r (some x) σ := ⟨x, rfl, e, Fc.rf, rfl, hI.2.2.2.1, hI.2.2.2.2⟩
theorem QM2.mk {s1 s2 : QS} {r x : Int32} (h : Fmm s1 s2) (e : x = r) : QM2 s1 r (some x) s2 := ⟨x, rfl, e, h⟩
theorem SimI.q {mx mm : Nat} {Lx Lm : QL} {σ : QS} (r : Int32) (hI : INV σ) (h1 : EV 60 mx 0 Lx [] σ (QX σ r)) (h2 : ∀ s1, Fc σ s1 → EV 60 mm 0 Lm [] s1 (QM2 s1 r)) : SimI mx mm Lx Lm σ := SimI.mk r hI h1 h2
theorem i_ltle {a b : Int32} (h : a < b) : a ≤ b := by
  rw [i_le]; rw [i_lt] at h; omega
theorem no2 (r : Int32) (s : QS) : qis r s (some r) s := ⟨rfl, rfl⟩
theorem sim_found (σ : QS) (h r w : Int32) (hI : INV σ) : SimI 77 156 [some (.inr 0), some (.inl h), some (.inl r), some (.inl w)] [some (.inr 69), some (.inl h), some (.inl r), some (.inl w), none] σ := by
  by_cases h0 : h < 0
  · have h24 : ¬ h = 24 := fun e => absurd h0 (by rw [e]; decide)
    exact SimI.no (-1) hI (pX_found_0 ⟨fun _ => ⟨fun _ => (no2 _ _), fun z => absurd z h24⟩, fun z => absurd h0 z⟩) (pM_found_0 ⟨fun _ => (no2 _ _), fun z => absurd h0 z⟩)
  by_cases h1 : 24 < h
  · have h24 : ¬ h = 24 := fun e => absurd h1 (by rw [e]; decide)
    have hl : 24 ≤ h := i_ltle h1
    exact SimI.no (-1) hI (pX_found_0 ⟨fun z => absurd z h0, fun _ => ⟨fun _ => ⟨fun _ => (no2 _ _), fun z => absurd z h24⟩, fun z => absurd hl z⟩⟩) (pM_found_0 ⟨fun z => absurd z h0, fun _ => ⟨fun _ => (no2 _ _), fun z => absurd h1 z⟩⟩)
  obtain ⟨j, hj, rfl⟩ := ix_of' (n := 24) rfl (by decide) h0 h1
  have X24 : (nI j = 24 ∧ 24 ≤ nI j) ∨ (¬ 24 ≤ nI j) := by
    by_cases e : j = 24
    · subst e; exact Or.inl ⟨rfl, by decide⟩
    · exact Or.inr (nI_nle' (a := 24) (by omega) (by decide))
  by_cases r0 : r < 0
  · refine SimI.no (-1) hI ?_ (pM_found_0 ⟨fun z => absurd z h0, fun _ => ⟨fun z => absurd z h1, fun _ => ⟨fun _ => (no2 _ _), fun z => absurd r0 z⟩⟩⟩)
    rcases X24 with ⟨e24, hl⟩ | hl
    · exact pX_found_0 ⟨fun z => absurd z h0, fun _ => ⟨fun _ => ⟨fun z => absurd e24 z, fun _ => ⟨fun _ => (no2 _ _), fun z => absurd r0 z⟩⟩, fun z => absurd hl z⟩⟩
    · exact pX_found_0 ⟨fun z => absurd z h0, fun _ => ⟨fun z => absurd z hl, fun _ => ⟨fun _ => (no2 _ _), fun z => absurd r0 z⟩⟩⟩
  by_cases r1 : 8 ≤ r
  · refine SimI.no (-1) hI ?_ (pM_found_0 ⟨fun z => absurd z h0, fun _ => ⟨fun z => absurd z h1, fun _ => ⟨fun z => absurd z r0, fun _ => ⟨fun _ => (no2 _ _), fun z => absurd r1 z⟩⟩⟩⟩)
    rcases X24 with ⟨e24, hl⟩ | hl
    · exact pX_found_0 ⟨fun z => absurd z h0, fun _ => ⟨fun _ => ⟨fun z => absurd e24 z, fun _ => ⟨fun z => absurd z r0, fun _ => ⟨fun _ => (no2 _ _), fun z => absurd r1 z⟩⟩⟩, fun z => absurd hl z⟩⟩
    · exact pX_found_0 ⟨fun z => absurd z h0, fun _ => ⟨fun z => absurd z hl, fun _ => ⟨fun z => absurd z r0, fun _ => ⟨fun _ => (no2 _ _), fun z => absurd r1 z⟩⟩⟩⟩
  by_cases w0 : w < 0
  · refine SimI.no (-1) hI ?_ (pM_found_0 ⟨fun z => absurd z h0, fun _ => ⟨fun z => absurd z h1, fun _ => ⟨fun z => absurd z r0, fun _ => ⟨fun z => absurd z r1, fun _ => ⟨fun _ => (no2 _ _), fun z => absurd w0 z⟩⟩⟩⟩⟩)
    rcases X24 with ⟨e24, hl⟩ | hl
    · exact pX_found_0 ⟨fun z => absurd z h0, fun _ => ⟨fun _ => ⟨fun z => absurd e24 z, fun _ => ⟨fun z => absurd z r0, fun _ => ⟨fun z => absurd z r1, fun _ => ⟨fun _ => (no2 _ _), fun z => absurd w0 z⟩⟩⟩⟩, fun z => absurd hl z⟩⟩
    · exact pX_found_0 ⟨fun z => absurd z h0, fun _ => ⟨fun z => absurd z hl, fun _ => ⟨fun z => absurd z r0, fun _ => ⟨fun z => absurd z r1, fun _ => ⟨fun _ => (no2 _ _), fun z => absurd w0 z⟩⟩⟩⟩⟩
  by_cases w1 : 2 < w
  · have wl : ¬ w ≤ 2 := fun q => (i_nlt _ _).mp q w1
    refine SimI.no (-1) hI ?_ (pM_found_0 ⟨fun z => absurd z h0, fun _ => ⟨fun z => absurd z h1, fun _ => ⟨fun z => absurd z r0, fun _ => ⟨fun z => absurd z r1, fun _ => ⟨fun z => absurd z w0, fun _ => ⟨fun _ => (no2 _ _), fun z => absurd w1 z⟩⟩⟩⟩⟩⟩)
    rcases X24 with ⟨e24, hl⟩ | hl
    · exact pX_found_0 ⟨fun z => absurd z h0, fun _ => ⟨fun _ => ⟨fun z => absurd e24 z, fun _ => ⟨fun z => absurd z r0, fun _ => ⟨fun z => absurd z r1, fun _ => ⟨fun z => absurd z w0, fun _ => ⟨fun z => absurd z wl, fun _ => (no2 _ _)⟩⟩⟩⟩⟩, fun z => absurd hl z⟩⟩
    · exact pX_found_0 ⟨fun z => absurd z h0, fun _ => ⟨fun z => absurd z hl, fun _ => ⟨fun z => absurd z r0, fun _ => ⟨fun z => absurd z r1, fun _ => ⟨fun z => absurd z w0, fun _ => ⟨fun z => absurd z wl, fun _ => (no2 _ _)⟩⟩⟩⟩⟩⟩
  obtain ⟨q, hq, rfl⟩ := ix_of (n := 8) rfl (by decide) r0 r1
  obtain ⟨k, hk, rfl⟩ := ix_of' (n := 2) rfl (by decide) w0 w1
  have wl : nI k ≤ 2 := nI_le' (b := 2) hk (by decide)
  refine SimI.q (dR (cA σ 0) (σ 4) (σ 5) (σ 2) (σ 3) j (q * 3 + k)) hI ?_ ?_
  · have ex : nI j * 24 + nI q * 3 + nI k = nI (j * 24 + (q * 3 + k)) := by
      rw [show nI j * 24 = nI (j * 24) from pk_mul j 24, show nI q * 3 = nI (q * 3) from pk_mul q 3, nI_add, nI_add, Nat.add_assoc]
    have k1 : ∀ s, (Dn σ s ∧ Fy σ s) → (vp_in (nI j * 24 + nI q * 3 + nI k) 600) ∧ (QX σ (dR (cA σ 0) (σ 4) (σ 5) (σ 2) (σ 3) j (q * 3 + k)) (some (s 49 (nI j * 24 + nI q * 3 + nI k).toNatClampNeg)) s) := by
      rintro s ⟨hn, -⟩
      rw [ex, cl_nI (by omega)]
      exact ⟨vp_in_nI (by omega) (by decide), QX.mk hn (hn.day.2.1.1 j (by omega) _ (by omega))⟩
    rcases X24 with ⟨e24, hl⟩ | hl
    · exact pX_found_0 ⟨fun z => absurd z h0, fun _ => ⟨fun _ => ⟨fun z => absurd e24 z, fun _ => ⟨fun z => absurd z r0, fun _ => ⟨fun z => absurd z r1, fun _ => ⟨fun z => absurd z w0, fun _ => ⟨fun _ => ⟨_, EV.dayI hI, k1⟩, fun z => absurd wl z⟩⟩⟩⟩⟩, fun z => absurd hl z⟩⟩
    · exact pX_found_0 ⟨fun z => absurd z h0, fun _ => ⟨fun z => absurd z hl, fun _ => ⟨fun z => absurd z r0, fun _ => ⟨fun z => absurd z r1, fun _ => ⟨fun z => absurd z w0, fun _ => ⟨fun _ => ⟨_, EV.dayI hI, k1⟩, fun z => absurd wl z⟩⟩⟩⟩⟩⟩
  · intro s1 f1
    refine pM_found_0 ⟨fun z => absurd z h0, fun _ => ⟨fun z => absurd z h1, fun _ => ⟨fun z => absurd z r0, fun _ => ⟨fun z => absurd z r1, fun _ => ⟨fun z => absurd z w0, fun _ => ⟨fun z => absurd z w1, fun _ => ⟨_, EV.runsI (w := 0) hI f1.mc (by decide) (hI.f f1.M) hI.fr, ?_⟩⟩⟩⟩⟩⟩⟩
    rintro t ⟨g1, g2⟩
    have e8 : 8 * nI j + nI q = nI (8 * j + q) := by rw [show 8 * nI j = nI (8 * j) from pk_mul 8 j, nI_add]
    have i8 : vp_in (nI (8 * j + q)) 200 := vp_in_nI (by omega) (by decide)
    obtain ⟨v1, v2, v3⟩ := g2.1 j (by omega) q hq
    rw [e8, cl_nI (by omega)]
    rcases (show k = 0 ∨ k = 1 ∨ k = 2 by omega) with rfl | rfl | rfl
    · exact ⟨fun z => absurd rfl z, fun _ => ⟨i8, QM2.mk g1.mm v1⟩⟩
    · exact ⟨fun _ => ⟨fun z => absurd rfl z, fun _ => ⟨i8, QM2.mk g1.mm v2⟩⟩, fun z => absurd z (by decide)⟩
    · exact ⟨fun _ => ⟨fun _ => ⟨i8, QM2.mk g1.mm v3⟩, fun z => absurd z (by decide)⟩, fun z => absurd z (by decide)⟩
theorem sim_hourIs (σ : QS) (h w : Int32) (hI : INV σ) : SimI 78 157 [some (.inr 0), some (.inl h), some (.inl w)] [some (.inr 69), some (.inl h), some (.inl w)] σ := by
  by_cases h0 : h < 0
  · exact SimI.no (-1000000) hI (pX_hourIs_0 ⟨fun _ => (no2 _ _), fun z => absurd h0 z⟩) (pM_hourIs_0 ⟨fun _ => (no2 _ _), fun z => absurd h0 z⟩)
  by_cases h1 : 24 ≤ h
  · exact SimI.no (-1000000) hI (pX_hourIs_0 ⟨fun z => absurd z h0, fun _ => ⟨fun _ => (no2 _ _), fun z => absurd h1 z⟩⟩) (pM_hourIs_0 ⟨fun z => absurd z h0, fun _ => ⟨fun _ => (no2 _ _), fun z => absurd h1 z⟩⟩)
  obtain ⟨j, hj, rfl⟩ := ix_of (n := 24) rfl (by decide) h0 h1
  have cj : (nI j).toNatClampNeg = j := cl_nI (by omega)
  have ij : vp_in (nI j) 24 := vp_in_nI hj (by decide)
  by_cases c0 : w = Int32.ofInt 0
  · refine SimI.q (σ 2 j) hI (pX_hourIs_0 ⟨fun z => absurd z h0, fun _ => ⟨fun z => absurd z h1, fun _ => ⟨_, EV.dayI hI, ?_⟩⟩⟩) (fun s1 f1 => pM_hourIs_0 ⟨fun z => absurd z h0, fun _ => ⟨fun z => absurd z h1, fun _ => ⟨_, EV.runsI (w := 0) hI f1.mc (by decide) (hI.f f1.M) hI.fr, ?_⟩⟩⟩)
    · rintro s ⟨hn, -⟩
      rw [cj]
      exact ⟨fun _ => ⟨ij, (QX.mk hn (hn.day.1 j hj))⟩, fun z => absurd c0 z⟩
    · rintro t ⟨g1, g2⟩
      rw [cj]
      exact ⟨fun _ => ⟨ij, (QM2.mk g1.mm (by rw [g1 70 (by decide), hI.f f1.M]))⟩, fun z => absurd c0 z⟩
  by_cases c1 : w = Int32.ofInt 1
  · refine SimI.q (uW (cA σ 0) (σ 4) (σ 5) (σ 2) j (dR (cA σ 0) (σ 4) (σ 5) (σ 2) (σ 3) j)) hI (pX_hourIs_0 ⟨fun z => absurd z h0, fun _ => ⟨fun z => absurd z h1, fun _ => ⟨_, EV.dayI hI, ?_⟩⟩⟩) (fun s1 f1 => pM_hourIs_0 ⟨fun z => absurd z h0, fun _ => ⟨fun z => absurd z h1, fun _ => ⟨_, EV.runsI (w := 0) hI f1.mc (by decide) (hI.f f1.M) hI.fr, ?_⟩⟩⟩)
    · rintro s ⟨hn, -⟩
      rw [cj]
      exact ⟨fun z => absurd z c0, fun _ => ⟨fun _ => ⟨ij, (QX.mk hn ((hn.day.2.1.2 j hj).1))⟩, fun z => absurd c1 z⟩⟩
    · rintro t ⟨g1, g2⟩
      rw [cj]
      exact ⟨fun z => absurd z c0, fun _ => ⟨fun _ => ⟨ij, (QM2.mk g1.mm ((g2.2.1 j hj).1))⟩, fun z => absurd c1 z⟩⟩
  by_cases c2 : w = Int32.ofInt 2
  · refine SimI.q (uF (cA σ 0) (cA σ 0) (σ 4) (σ 5) (σ 2) j (dR (cA σ 0) (σ 4) (σ 5) (σ 2) (σ 3) j)) hI (pX_hourIs_0 ⟨fun z => absurd z h0, fun _ => ⟨fun z => absurd z h1, fun _ => ⟨_, EV.dayI hI, ?_⟩⟩⟩) (fun s1 f1 => pM_hourIs_0 ⟨fun z => absurd z h0, fun _ => ⟨fun z => absurd z h1, fun _ => ⟨_, EV.runsI (w := 0) hI f1.mc (by decide) (hI.f f1.M) hI.fr, ?_⟩⟩⟩)
    · rintro s ⟨hn, -⟩
      rw [cj]
      exact ⟨fun z => absurd z c0, fun _ => ⟨fun z => absurd z c1, fun _ => ⟨fun _ => ⟨ij, (QX.mk hn ((hn.day.2.1.2 j hj).2))⟩, fun z => absurd c2 z⟩⟩⟩
    · rintro t ⟨g1, g2⟩
      rw [cj]
      exact ⟨fun z => absurd z c0, fun _ => ⟨fun z => absurd z c1, fun _ => ⟨fun _ => ⟨ij, (QM2.mk g1.mm ((g2.2.1 j hj).2.1))⟩, fun z => absurd c2 z⟩⟩⟩
  by_cases c3 : w = Int32.ofInt 3
  · refine SimI.q (uU (cA σ 0) (σ 4) (σ 5) (σ 2) j (dR (cA σ 0) (σ 4) (σ 5) (σ 2) (σ 3) j)) hI (pX_hourIs_0 ⟨fun z => absurd z h0, fun _ => ⟨fun z => absurd z h1, fun _ => ⟨_, EV.dayI hI, ?_⟩⟩⟩) (fun s1 f1 => pM_hourIs_0 ⟨fun z => absurd z h0, fun _ => ⟨fun z => absurd z h1, fun _ => ⟨_, EV.runsI (w := 0) hI f1.mc (by decide) (hI.f f1.M) hI.fr, ?_⟩⟩⟩)
    · rintro s ⟨hn, -⟩
      rw [cj]
      exact ⟨fun z => absurd z c0, fun _ => ⟨fun z => absurd z c1, fun _ => ⟨fun z => absurd z c2, fun _ => ⟨fun _ => ⟨ij, (QX.mk hn ((hn.day.2.2 j hj).1))⟩, fun z => absurd c3 z⟩⟩⟩⟩
    · rintro t ⟨g1, g2⟩
      rw [cj]
      exact ⟨fun z => absurd z c0, fun _ => ⟨fun z => absurd z c1, fun _ => ⟨fun z => absurd z c2, fun _ => ⟨fun _ => ⟨ij, (QM2.mk g1.mm ((g2.2.1 j hj).2.2.1))⟩, fun z => absurd c3 z⟩⟩⟩⟩
  by_cases c4 : w = Int32.ofInt 4
  · refine SimI.q (uO (cA σ 0) (σ 4) (σ 5) (σ 2) j (dR (cA σ 0) (σ 4) (σ 5) (σ 2) (σ 3) j)) hI (pX_hourIs_0 ⟨fun z => absurd z h0, fun _ => ⟨fun z => absurd z h1, fun _ => ⟨_, EV.dayI hI, ?_⟩⟩⟩) (fun s1 f1 => pM_hourIs_0 ⟨fun z => absurd z h0, fun _ => ⟨fun z => absurd z h1, fun _ => ⟨_, EV.runsI (w := 0) hI f1.mc (by decide) (hI.f f1.M) hI.fr, ?_⟩⟩⟩)
    · rintro s ⟨hn, -⟩
      rw [cj]
      exact ⟨fun z => absurd z c0, fun _ => ⟨fun z => absurd z c1, fun _ => ⟨fun z => absurd z c2, fun _ => ⟨fun z => absurd z c3, fun _ => ⟨fun _ => ⟨ij, (QX.mk hn ((hn.day.2.2 j hj).2))⟩, fun z => absurd c4 z⟩⟩⟩⟩⟩
    · rintro t ⟨g1, g2⟩
      rw [cj]
      exact ⟨fun z => absurd z c0, fun _ => ⟨fun z => absurd z c1, fun _ => ⟨fun z => absurd z c2, fun _ => ⟨fun z => absurd z c3, fun _ => ⟨fun _ => ⟨ij, (QM2.mk g1.mm ((g2.2.1 j hj).2.2.2))⟩, fun z => absurd c4 z⟩⟩⟩⟩⟩
  refine SimI.q ((-1000000)) hI (pX_hourIs_0 ⟨fun z => absurd z h0, fun _ => ⟨fun z => absurd z h1, fun _ => ⟨_, EV.dayI hI, ?_⟩⟩⟩) (fun s1 f1 => pM_hourIs_0 ⟨fun z => absurd z h0, fun _ => ⟨fun z => absurd z h1, fun _ => ⟨_, EV.runsI (w := 0) hI f1.mc (by decide) (hI.f f1.M) hI.fr, ?_⟩⟩⟩)
  · rintro s ⟨hn, -⟩
    rw [cj]
    exact ⟨fun z => absurd z c0, fun _ => ⟨fun z => absurd z c1, fun _ => ⟨fun z => absurd z c2, fun _ => ⟨fun z => absurd z c3, fun _ => ⟨fun z => absurd z c4, fun _ => (QX.mk hn rfl)⟩⟩⟩⟩⟩
  · rintro t ⟨g1, g2⟩
    rw [cj]
    exact ⟨fun z => absurd z c0, fun _ => ⟨fun z => absurd z c1, fun _ => ⟨fun z => absurd z c2, fun _ => ⟨fun z => absurd z c3, fun _ => ⟨fun z => absurd z c4, fun _ => (QM2.mk g1.mm rfl)⟩⟩⟩⟩⟩
theorem smO_one (f : Nat → Int32) (o : Int32) : ∀ n, smO f (fun _ => 1) o n = nI (ct (isO f o) 0 n)
  | 0 => rfl
  | n + 1 => by
    rw [smO, ct, smO_one f o n]
    by_cases h : f n = o
    · have e : isO f o (0 + n) = true := by unfold isO; rw [Nat.zero_add]; exact decide_eq_true h
      rw [if_pos h, if_pos e, nI_p1]
    · have e : ¬ isO f o (0 + n) = true := by unfold isO; rw [Nat.zero_add]; exact fun z => h (of_decide_eq_true z)
      rw [if_neg h, if_neg e, Nat.add_zero]
theorem sim_value (σ : QS) (o w : Int32) (hI : INV σ) : SimI 79 160 [some (.inr 0), some (.inl o), some (.inl w)] [some (.inr 69), some (.inl o), some (.inl w), none] σ := by
  by_cases h0 : o < 0
  · exact SimI.no (-1000000) hI (pX_value_0 ⟨fun _ => (no2 _ _), fun z => absurd h0 z⟩) (pM_value_0 ⟨fun _ => (no2 _ _), fun z => absurd h0 z⟩)
  by_cases h1 : 12 ≤ o
  · exact SimI.no (-1000000) hI (pX_value_0 ⟨fun z => absurd z h0, fun _ => ⟨fun _ => (no2 _ _), fun z => absurd h1 z⟩⟩) (pM_value_0 ⟨fun z => absurd z h0, fun _ => ⟨fun _ => (no2 _ _), fun z => absurd h1 z⟩⟩)
  by_cases c0 : w = Int32.ofInt 0
  · refine SimI.q (vOf (cA σ 0) (σ 4) (σ 5) (σ 3) (σ 2) o) hI (pX_value_0 ⟨fun z => absurd z h0, fun _ => ⟨fun z => absurd z h1, fun _ => ⟨_, EV.dayI hI, ?_⟩⟩⟩) (fun s1 f1 => pM_value_0 ⟨fun z => absurd z h0, fun _ => ⟨fun z => absurd z h1, fun _ => ⟨fun z => absurd z (by rw [c0]; decide), fun _ => ⟨fun z => absurd z (by rw [c0]; decide), fun _ => ⟨_, EV.valI hI f1.mc (hI.f f1.M) hI.fr, ?_⟩⟩⟩⟩⟩)
    · rintro s ⟨hn, -⟩
      exact ⟨fun _ => (ex_I EV.valD (QX.mk hn (vOf_D hn.day.1 hn.day.2.1 o))), fun z => absurd c0 z⟩
    · rintro y t ⟨hy, g1, g2⟩
      have e70 : t 70 = σ 2 := by rw [g1 70 (by decide), hI.f f1.M]
      subst c0
      exact ⟨fun z => absurd rfl z, fun _ => QM2.mk g1.mm hy⟩
  by_cases c1 : w = Int32.ofInt 1
  · refine SimI.q (smO (σ 2) (fun h => uW (cA σ 0) (σ 4) (σ 5) (σ 2) h (dR (cA σ 0) (σ 4) (σ 5) (σ 2) (σ 3) h)) o 24) hI (pX_value_0 ⟨fun z => absurd z h0, fun _ => ⟨fun z => absurd z h1, fun _ => ⟨_, EV.dayI hI, ?_⟩⟩⟩) (fun s1 f1 => pM_value_0 ⟨fun z => absurd z h0, fun _ => ⟨fun z => absurd z h1, fun _ => ⟨fun z => absurd z (by rw [c1]; decide), fun _ => ⟨fun z => absurd z (by rw [c1]; decide), fun _ => ⟨_, EV.valI hI f1.mc (hI.f f1.M) hI.fr, ?_⟩⟩⟩⟩⟩)
    · rintro s ⟨hn, -⟩
      exact ⟨fun z => absurd z c0, fun _ => ⟨fun _ => (ex_I EV.sumWD (QX.mk hn (smO_cg 24 (fun k hk => ⟨hn.day.1 k hk, (hn.day.2.1.2 k hk).1⟩)))), fun z => absurd c1 z⟩⟩
    · rintro y t ⟨hy, g1, g2⟩
      have e70 : t 70 = σ 2 := by rw [g1 70 (by decide), hI.f f1.M]
      subst c1
      exact ⟨fun _ => (ex_I (EV.sumOf (w := 0) (by decide)) (QM2.mk g1.mm (smO_cg 24 (fun k hk => ⟨by rw [e70], (g2.2.1 k hk).1⟩)))), fun z => absurd z (by decide)⟩
  by_cases c2 : w = Int32.ofInt 2
  · refine SimI.q (smO (σ 2) (fun h => uF (cA σ 0) (cA σ 0) (σ 4) (σ 5) (σ 2) h (dR (cA σ 0) (σ 4) (σ 5) (σ 2) (σ 3) h)) o 24) hI (pX_value_0 ⟨fun z => absurd z h0, fun _ => ⟨fun z => absurd z h1, fun _ => ⟨_, EV.dayI hI, ?_⟩⟩⟩) (fun s1 f1 => pM_value_0 ⟨fun z => absurd z h0, fun _ => ⟨fun z => absurd z h1, fun _ => ⟨fun z => absurd z (by rw [c2]; decide), fun _ => ⟨fun z => absurd z (by rw [c2]; decide), fun _ => ⟨_, EV.valI hI f1.mc (hI.f f1.M) hI.fr, ?_⟩⟩⟩⟩⟩)
    · rintro s ⟨hn, -⟩
      exact ⟨fun z => absurd z c0, fun _ => ⟨fun z => absurd z c1, fun _ => ⟨fun _ => (ex_I EV.sumFD (QX.mk hn (smO_cg 24 (fun k hk => ⟨hn.day.1 k hk, (hn.day.2.1.2 k hk).2⟩)))), fun z => absurd c2 z⟩⟩⟩
    · rintro y t ⟨hy, g1, g2⟩
      have e70 : t 70 = σ 2 := by rw [g1 70 (by decide), hI.f f1.M]
      subst c2
      exact ⟨fun _ => (ex_I (EV.sumOf (w := 1) (by decide)) (QM2.mk g1.mm (smO_cg 24 (fun k hk => ⟨by rw [e70], (g2.2.1 k hk).2.1⟩)))), fun z => absurd z (by decide)⟩
  by_cases c3 : w = Int32.ofInt 3
  · refine SimI.q (nI (ct (isO (σ 2) o) 0 24)) hI (pX_value_0 ⟨fun z => absurd z h0, fun _ => ⟨fun z => absurd z h1, fun _ => ⟨_, EV.dayI hI, ?_⟩⟩⟩) (fun s1 f1 => pM_value_0 ⟨fun z => absurd z h0, fun _ => ⟨fun z => absurd z h1, fun _ => ⟨fun z => absurd z (by rw [c3]; decide), fun _ => ⟨fun z => absurd z (by rw [c3]; decide), fun _ => ⟨_, EV.valI hI f1.mc (hI.f f1.M) hI.fr, ?_⟩⟩⟩⟩⟩)
    · rintro s ⟨hn, -⟩
      exact ⟨fun z => absurd z c0, fun _ => ⟨fun z => absurd z c1, fun _ => ⟨fun z => absurd z c2, fun _ => ⟨fun _ => (ex_I (EV.hoursX (a := 0) (n := 24) (by decide)) (QX.mk hn (by rw [hn.1 2 (by decide)]))), fun z => absurd c3 z⟩⟩⟩⟩
    · rintro y t ⟨hy, g1, g2⟩
      have e70 : t 70 = σ 2 := by rw [g1 70 (by decide), hI.f f1.M]
      subst c3
      exact ⟨fun _ => (ex_I (EV.sumOf (w := 2) (by decide)) (QM2.mk g1.mm (by rw [← smO_one, e70]; rfl))), fun z => absurd z (by decide)⟩
  refine SimI.q (-1000000) hI (pX_value_0 ⟨fun z => absurd z h0, fun _ => ⟨fun z => absurd z h1, fun _ => ⟨_, EV.dayI hI, ?_⟩⟩⟩) (fun s1 f1 => pM_value_0 ?_)
  · rintro s ⟨hn, -⟩
    exact ⟨fun z => absurd z c0, fun _ => ⟨fun z => absurd z c1, fun _ => ⟨fun z => absurd z c2, fun _ => ⟨fun z => absurd z c3, fun _ => (QX.mk hn rfl)⟩⟩⟩⟩
  · by_cases w0 : w < 0
    · exact ⟨fun z => absurd z h0, fun _ => ⟨fun z => absurd z h1, fun _ => ⟨fun _ => (QM2.mk Fmm.rf rfl), fun z => absurd w0 z⟩⟩⟩
    by_cases w1 : 3 < w
    · exact ⟨fun z => absurd z h0, fun _ => ⟨fun z => absurd z h1, fun _ => ⟨fun z => absurd z w0, fun _ => ⟨fun _ => (QM2.mk Fmm.rf rfl), fun z => absurd w1 z⟩⟩⟩⟩
    obtain ⟨k, hk, rfl⟩ := ix_of' (n := 3) rfl (by decide) w0 w1
    rcases (show k = 0 ∨ k = 1 ∨ k = 2 ∨ k = 3 by omega) with rfl | rfl | rfl | rfl
    · exact absurd rfl c0
    · exact absurd rfl c1
    · exact absurd rfl c2
    · exact absurd rfl c3
