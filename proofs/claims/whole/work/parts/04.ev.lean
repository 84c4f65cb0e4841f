def q_blk (mi k : Nat) : Option QB := match q_g16 q_ms mi with
  | some M => M.2.2.2.2.2.2[k]?
  | none => none
abbrev QQ : Type := Option Int32 → QS → Prop
abbrev QP : Type := Nat → Nat → Nat → QL → List QV → QS → QQ → Prop
def q_cal (P : QP) (d mi : Nat) (Q : QQ) (m2 nx : Nat) (tg : Int) (na ml : Nat) (L : QL) (st : List QV) (σ : QS) : Prop :=
  ∃ (d' : Nat) (R : QQ), d = d' + 1 ∧ (Nat.ble (st.drop na).length 8 && q_rc tg na st) = true ∧ P d' m2 0 (q_ent na ml st) [] σ R ∧ ∀ r σ', R r σ' → P d mi nx L (q_psh r (st.drop na)) σ' Q
def q_step (P : QP) (d mi k : Nat) (L : QL) (st : List QV) (σ : QS) (Q : QQ) : Prop :=
  ∃ b, q_blk mi k = some b ∧ q_wp (fun k' L st σ => P d mi k' L st σ Q) (q_cal P d mi Q) Q b.2.2 b.2.1 L st σ
/-- the least predicate that q_step leads to: the run from block k of method mi comes to its end with Q -/
def EV : QP := fun d mi k L st σ Q => ∀ P : QP, (∀ d mi k L st σ Q, q_step P d mi k L st σ Q → P d mi k L st σ Q) → P d mi k L st σ Q
theorem q_ob_mono {o : Option Prop} {P P' : Prop} (h : P → P') (x : q_ob o P) : q_ob o P' := by
  cases o with
  | none => exact h x
  | some O => exact ⟨x.1, h x.2⟩
theorem q_br_mono {c : Jvm.ClassFile.Cond} {x y : Int32} {T F T' F' : Prop} (h : T → T') (h2 : F → F') (z : q_br c x y T F) : q_br c x y T' F' := by
  cases c <;> exact ⟨fun q => h (z.1 q), fun q => h2 (z.2 q)⟩
theorem q_sw_mono {k k' : Nat → Prop} {x : Int32} {d : Nat} (h : ∀ b, k b → k' b) : ∀ (l : List (Int × Nat)), q_sw k x d l → q_sw k' x d l
  | [], z => h d z
  | (i, b) :: r, z => ⟨fun q => h b (z.1 q), fun q => q_sw_mono h r (z.2 q)⟩
theorem q_tm_mono {kj kj' : Nat → QL → List QV → QS → Prop} {kc kc' : Nat → Nat → Int → Nat → Nat → QL → List QV → QS → Prop} {kr kr' : QQ} (h1 : ∀ a L st σ, kj a L st σ → kj' a L st σ) (h2 : ∀ a b tg na ml L st σ, kc a b tg na ml L st σ → kc' a b tg na ml L st σ) (h3 : ∀ r σ, kr r σ → kr' r σ) (t : QT) (L : QL) (st : List QV) (σ : QS) (z : q_tm kj kc kr t L st σ) : q_tm kj' kc' kr' t L st σ := by
  unfold q_tm at z ⊢
  split at z
  · exact h1 _ _ _ _ z
  · exact h1 _ _ _ _ z
  · split at z
    · exact q_br_mono (h1 _ _ _ _) (h1 _ _ _ _) z
    · exact z.elim
  · split at z
    · exact q_br_mono (h1 _ _ _ _) (h1 _ _ _ _) z
    · exact z.elim
  · split at z
    · exact q_sw_mono (fun b => h1 _ _ _ _) _ z
    · exact z.elim
  · exact h2 _ _ _ _ _ _ _ _ z
  · split at z
    · exact h3 _ _ z
    · exact z.elim
  · split at z
    · exact h3 _ _ z
    · exact z.elim
  · split at z
    · exact ⟨z.1, h3 _ _ z.2⟩
    · exact z.elim
  · exact z.elim
theorem q_wp_mono {kj kj' : Nat → QL → List QV → QS → Prop} {kc kc' : Nat → Nat → Int → Nat → Nat → QL → List QV → QS → Prop} {kr kr' : QQ} (h1 : ∀ a L st σ, kj a L st σ → kj' a L st σ) (h2 : ∀ a b tg na ml L st σ, kc a b tg na ml L st σ → kc' a b tg na ml L st σ) (h3 : ∀ r σ, kr r σ → kr' r σ) (t : QT) : ∀ (rs : List QI) (L : QL) (st : List QV) (σ : QS), q_wp kj kc kr t rs L st σ → q_wp kj' kc' kr' t rs L st σ
  | [], L, st, σ, z => q_tm_mono h1 h2 h3 t L st σ z
  | r :: rs, L, st, σ, z => by
    unfold q_wp at z ⊢
    split at z
    · rename_i o L' st' σ' e
      exact q_ob_mono (q_wp_mono h1 h2 h3 t rs L' st' σ') z
    · exact z.elim
theorem q_step_mono {P P' : QP} (h : ∀ d mi k L st σ Q, P d mi k L st σ Q → P' d mi k L st σ Q) {d mi k : Nat} {L : QL} {st : List QV} {σ : QS} {Q : QQ} (z : q_step P d mi k L st σ Q) : q_step P' d mi k L st σ Q := by
  obtain ⟨b, hb, z⟩ := z
  refine ⟨b, hb, q_wp_mono (fun a L st σ => h _ _ _ _ _ _ _) ?_ (fun _ _ x => x) _ _ _ _ _ z⟩
  intro a b tg na ml L st σ ⟨d', R, e, hl, h1, h2⟩
  exact ⟨d', R, e, hl, h _ _ _ _ _ _ _ h1, fun r σ' q => h _ _ _ _ _ _ _ (h2 r σ' q)⟩
theorem EV.intro {d mi k : Nat} {L : QL} {st : List QV} {σ : QS} {Q : QQ} (z : q_step EV d mi k L st σ Q) : EV d mi k L st σ Q := by
  intro P hP
  exact hP _ _ _ _ _ _ _ (q_step_mono (fun d mi k L st σ Q q => q P hP) z)
theorem EV.out {d mi k : Nat} {L : QL} {st : List QV} {σ : QS} {Q : QQ} (z : EV d mi k L st σ Q) : q_step EV d mi k L st σ Q :=
  z (q_step EV) (fun _ _ _ _ _ _ _ q => q_step_mono (fun _ _ _ _ _ _ _ => EV.intro) q)
theorem q_mono_aux {d mi k : Nat} {L : QL} {st : List QV} {σ : QS} {Q : QQ} (z : EV d mi k L st σ Q) : ∀ (d2 : Nat) (Q2 : QQ), d ≤ d2 → (∀ r σ', Q r σ' → Q2 r σ') → EV d2 mi k L st σ Q2 := by
  refine z (fun d mi k L st σ Q => ∀ (d2 : Nat) (Q2 : QQ), d ≤ d2 → (∀ r σ', Q r σ' → Q2 r σ') → EV d2 mi k L st σ Q2) ?_
  intro d mi k L st σ Q ⟨b, hb, z⟩ d2 Q2 hd hQ
  refine EV.intro ⟨b, hb, q_wp_mono (fun a L st σ q => q d2 Q2 hd hQ) ?_ hQ _ _ _ _ _ z⟩
  intro a b tg na ml L st σ ⟨d', R, e, hl, h1, h2⟩
  subst e
  exact ⟨d2 - 1, R, by omega, hl, h1 (d2 - 1) R (by omega) (fun _ _ q => q), fun r σ' q => h2 r σ' q d2 Q2 hd hQ⟩
theorem EV.mono {d mi k : Nat} {L : QL} {st : List QV} {σ : QS} {Q Q2 : QQ} (z : EV d mi k L st σ Q) (h : ∀ r σ', Q r σ' → Q2 r σ') : EV d mi k L st σ Q2 := q_mono_aux z d Q2 (Nat.le_refl _) h
theorem EV.deep {d d2 mi k : Nat} {L : QL} {st : List QV} {σ : QS} {Q : QQ} (z : EV d mi k L st σ Q) (h : d ≤ d2) : EV d2 mi k L st σ Q := q_mono_aux z d2 Q h (fun _ _ q => q)
theorem EV.blk (b : QB) {d mi k : Nat} {L : QL} {st : List QV} {σ : QS} {Q : QQ} (hb : q_blk mi k = some b) (z : q_wp (fun k' L st σ => EV d mi k' L st σ Q) (q_cal EV d mi Q) Q b.2.2 b.2.1 L st σ) : EV d mi k L st σ Q := EV.intro ⟨b, hb, z⟩
/-- a call, by what is known of the method called -/
theorem EV.call {d mi : Nat} {Q R : QQ} {m2 nx na ml : Nat} {tg : Int} {L : QL} {st : List QV} {σ : QS} (hl : (Nat.ble (st.drop na).length 8 && q_rc tg na st) = true) (h1 : EV d m2 0 (q_ent na ml st) [] σ R) (h2 : ∀ r σ', R r σ' → EV (d + 1) mi nx L (q_psh r (st.drop na)) σ' Q) : q_cal EV (d + 1) mi Q m2 nx tg na ml L st σ := ⟨d, R, rfl, hl, h1, h2⟩
