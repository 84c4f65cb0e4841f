theorem q_rows_snd {p : Program} {l : Launch} {e : Env} {R : Room} {s : State} {m : MethodId} {args : Array Value} {below : List Frame} {meth : Method} {c0 : Code} {Qs : State → Prop} {ad : Nat → Nat} {ca : Nat → ClassId} {dC : Nat → ClassId} {dI : Nat → Nat → Nat} {cc : ByteArray} {own nL : Nat} (X : q_Cx p l R s m args c0 ad ca dC dI cc own nL) {kj : Nat → QL → List QV → QS → Prop} {kc : Nat → Nat → Int → Nat → Nat → QL → List QV → QS → Prop} {kr : QQ} {t : QT} {pe : Nat} (ht : ∀ L st σ, q_tm kj kc kr t L st σ → q_W p l e R s m args below meth c0 Qs ad ca dC dI nL (pe) (L) (st) σ) : ∀ (rs : List QI) (pc : Nat) (L : QL) (st : List QV) (σ : QS), q_chn own cc pc rs = some pe → q_wp kj kc kr t rs L st σ → q_W p l e R s m args below meth c0 Qs ad ca dC dI nL (pc) (L) (st) σ
  | [], pc, L, st, σ, hc, h => by
    cases hc
    exact ht L st σ h
  | r :: rs, pc, L, st, σ, hc, h => by
    unfold q_chn at hc
    split at hc
    · rename_i hr
      obtain ⟨rfl, hd, hk⟩ := hr
      unfold q_wp at h
      split at h
      · rename_i o2 L2 st2 σ2 hq
        refine q_op_snd X hd hk hq ?_ (q_rows_snd X ht rs _ L2 st2 σ2 hc ?_)
        · intro O e
          subst e
          exact h.1
        · cases o2 with
          | none => exact h
          | some O => exact h.2
      · exact h.elim
    · cases hc
theorem q_sw_get {k : Nat → Prop} {x : Int32} {d : Nat} : ∀ (ts : List (Int × Nat)) (j : Nat) (i : Int) (b : Nat), q_sw k x d ts → ts[j]? = some (i, b) → x = Int32.ofInt i → (∀ j2, j2 < j → ∀ q, ts[j2]? = some q → ¬ x = Int32.ofInt q.1) → k b
  | [], j, i, b, _, h, _, _ => by simp at h
  | (i0, b0) :: r, 0, i, b, z, h, hx, _ => by
    simp only [List.getElem?_cons_zero, Option.some.injEq, Prod.mk.injEq] at h
    obtain ⟨rfl, rfl⟩ := h
    exact z.1 hx
  | (i0, b0) :: r, j + 1, i, b, z, h, hx, hn => by
    simp only [List.getElem?_cons_succ] at h
    exact q_sw_get r j i b (z.2 (hn 0 (by omega) (i0, b0) rfl)) h hx (fun j2 h2 q hq => hn (j2 + 1) (by omega) q (by simpa using hq))
theorem q_sw_none {k : Nat → Prop} {x : Int32} {d : Nat} : ∀ (ts : List (Int × Nat)), q_sw k x d ts → (∀ q ∈ ts, ¬ x = Int32.ofInt q.1) → k d
  | [], z, _ => z
  | (i0, b0) :: r, z, h => q_sw_none r (z.2 (h (i0, b0) List.mem_cons_self)) (fun q hq => h q (List.mem_cons_of_mem _ hq))
theorem q_oktab_at {sts : List Nat} {p : Nat} : ∀ (lo : Int) (os : List Int) (ts : List (Int × Nat)), q_oktab sts p lo os ts = true → ts.length = os.length ∧ ∀ (j : Nat) (q : Int × Nat), ts[j]? = some q → q.1 = lo + j ∧ ∃ of, os[j]? = some of ∧ q_sg sts[q.2]? ((p : Int) + of) = true
  | lo, [], [], _ => ⟨rfl, fun j q h => by simp at h⟩
  | lo, [], _ :: _, h => by simp [q_oktab] at h
  | lo, _ :: _, [], h => by simp [q_oktab] at h
  | lo, of :: os, (i, k) :: ts, h => by
    simp only [q_oktab, Bool.and_eq_true, decide_eq_true_eq] at h
    obtain ⟨⟨h1, h2⟩, h3⟩ := h
    obtain ⟨ih1, ih2⟩ := q_oktab_at (lo + 1) os ts h3
    refine ⟨by simp [ih1], fun j q hq => ?_⟩
    cases j with
    | zero =>
      simp only [List.getElem?_cons_zero, Option.some.injEq] at hq
      subst hq
      exact ⟨by simp [h1], of, rfl, h2⟩
    | succ j =>
      simp only [List.getElem?_cons_succ] at hq
      obtain ⟨e, of2, e2, e3⟩ := ih2 j q hq
      exact ⟨by rw [e]; push_cast; omega, of2, by simpa using e2, e3⟩
theorem q_ofInt_inj {a b : Int} (h1 : -2147483648 ≤ a) (h2 : a < 2147483648) (h3 : -2147483648 ≤ b) (h4 : b < 2147483648) (h : Int32.ofInt a = Int32.ofInt b) : a = b := by
  have e1 : (Int32.ofInt a).toInt = a := Int32.toInt_ofInt_of_le (by simpa using h1) (by simpa using h2)
  have e2 : (Int32.ofInt b).toInt = b := Int32.toInt_ofInt_of_le (by simpa using h3) (by simpa using h4)
  rw [← e1, ← e2, h]
theorem q_rngI (x : Int32) : -2147483648 ≤ x.toInt ∧ x.toInt < 2147483648 := ⟨by simpa using Int32.le_toInt x, by simpa using Int32.toInt_lt x⟩
theorem q_ofInt_toInt (x : Int32) : Int32.ofInt x.toInt = x := by simp
theorem q_oklk_off {sts : List Nat} {p : Nat} {k : Nat → Prop} {x : Int32} {d : Nat} {dd : Int} : ∀ (os : List (Int × Int)) (ts : List (Int × Nat)), q_oklk sts p os ts = true → (∀ q ∈ os, -2147483648 ≤ q.1 ∧ q.1 < 2147483648) → q_sw k x d ts → q_sg sts[d]? ((p : Int) + dd) = true → ∃ b, k b ∧ q_sg sts[b]? ((p : Int) + Op.lookupswitch.offset os dd x.toInt) = true
  | [], [], _, _, z, hd => ⟨d, z, hd⟩
  | [], _ :: _, h, _, _, _ => by simp [q_oklk] at h
  | _ :: _, [], h, _, _, _ => by simp [q_oklk] at h
  | (j, of) :: os, (i, b) :: ts, h, hr, z, hd => by
    simp only [q_oklk, Bool.and_eq_true, decide_eq_true_eq] at h
    obtain ⟨⟨rfl, h2⟩, h3⟩ := h
    have hr0 := hr (i, of) List.mem_cons_self
    by_cases hx : x = Int32.ofInt i
    · refine ⟨b, z.1 hx, ?_⟩
      have e : x.toInt = i := by rw [hx]; exact Int32.toInt_ofInt_of_le (by simpa using hr0.1) (by simpa using hr0.2)
      rw [e]
      simpa [Op.lookupswitch.offset] using h2
    · obtain ⟨b2, h4, h5⟩ := q_oklk_off os ts h3 (fun q hq => hr q (List.mem_cons_of_mem _ hq)) (z.2 hx) hd
      refine ⟨b2, h4, ?_⟩
      have e : ¬ x.toInt = i := fun e => hx (by rw [← e]; simp)
      have e2 : ¬ i = x.toInt := fun e3 => e e3.symm
      simpa [Op.lookupswitch.offset, e, e2] using h5
theorem q_sg_at {a : Option Nat} {z : Int} (h : q_sg a z = true) : ∃ g : Nat, a = some g ∧ z = (g : Int) := by
  cases a with
  | none => cases h
  | some g => exact ⟨g, rfl, of_decide_eq_true h⟩
