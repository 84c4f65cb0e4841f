/-! rows of chars hold chars, whatever is run -/
def FCh (σ : QS) : Prop := ∀ c, (q_lay c).1 = 1 → ∀ i, fits .char (.int (σ c i)) = true
theorem fit_nar (x : Int32) : fits .char (.int (vp_nar .char x)) = true := by
  rw [vp_nar_char]
  have := pk_fc x
  rw [← UInt32.toUInt32_toUInt16] at this
  exact this
theorem fc_set {σ : QS} (h : FCh σ) {c : Nat} {f : Nat → Int32} (hf : (q_lay c).1 = 1 → ∀ i, fits .char (.int (f i)) = true) : FCh (q_set σ c f) := by
  intro e he i
  by_cases q : e = c
  · subst q; rw [q_set_eq]; exact hf he i
  · rw [q_set_ne _ _ q]; exact h e he i
theorem fc_t {o1 o : Option Prop} {L1 L' : QL} {st1 st' : List QV} {σ σ' : QS} (h : some (o1, L1, st1, σ) = some (o, L', st', σ')) (hF : FCh σ) : FCh σ' := by cases h; exact hF
theorem fc_un {f : Int32 → Int32} {o : Option Prop} {L L' : QL} {st st' : List QV} {σ σ' : QS} (h : q_un f L σ st = some (o, L', st', σ')) (hF : FCh σ) : FCh σ' := by
  unfold q_un at h; split at h
  · exact fc_t h hF
  · cases h
theorem fc_bi {f : Int32 → Int32 → Int32} {o : Option Prop} {L L' : QL} {st st' : List QV} {σ σ' : QS} (h : q_bi f L σ st = some (o, L', st', σ')) (hF : FCh σ) : FCh σ' := by
  unfold q_bi at h; split at h
  · exact fc_t h hF
  · cases h
theorem fc_dv {f : Int32 → Int32 → Int32} {o : Option Prop} {L L' : QL} {st st' : List QV} {σ σ' : QS} (h : q_dv f L σ st = some (o, L', st', σ')) (hF : FCh σ) : FCh σ' := by
  unfold q_dv at h; split at h
  · exact fc_t h hF
  · cases h
theorem fc_ldi {a : Nat} {o : Option Prop} {L L' : QL} {st st' : List QV} {σ σ' : QS} (h : q_ldi a L σ st = some (o, L', st', σ')) (hF : FCh σ) : FCh σ' := by
  unfold q_ldi at h; split at h
  · exact fc_t h hF
  · cases h
theorem fc_lda {a : Nat} {o : Option Prop} {L L' : QL} {st st' : List QV} {σ σ' : QS} (h : q_lda a L σ st = some (o, L', st', σ')) (hF : FCh σ) : FCh σ' := by
  unfold q_lda at h; split at h
  · exact fc_t h hF
  · cases h
theorem fc_sti {a : Nat} {o : Option Prop} {L L' : QL} {st st' : List QV} {σ σ' : QS} (h : q_sti a L σ st = some (o, L', st', σ')) (hF : FCh σ) : FCh σ' := by
  unfold q_sti at h; split at h
  · split at h
    · exact fc_t h hF
    · cases h
  · cases h
theorem fc_inc {a : Nat} {v : Int32} {o : Option Prop} {L L' : QL} {st st' : List QV} {σ σ' : QS} (h : q_inc a v L σ st = some (o, L', st', σ')) (hF : FCh σ) : FCh σ' := by
  unfold q_inc at h; split at h
  · exact fc_t h hF
  · cases h
theorem fc_gtf {a b : Nat} {o : Option Prop} {L L' : QL} {st st' : List QV} {σ σ' : QS} (h : q_gtf a b L σ st = some (o, L', st', σ')) (hF : FCh σ) : FCh σ' := by
  unfold q_gtf at h; split at h
  · split at h
    · split at h
      · exact fc_t h hF
      · exact fc_t h hF
      · cases h
    · cases h
  · cases h
theorem fc_ptf {a b : Nat} {v : Int32} {o : Option Prop} {L L' : QL} {st st' : List QV} {σ σ' : QS} (h : q_ptf a b v L σ st = some (o, L', st', σ')) (hF : FCh σ) : FCh σ' := by
  unfold q_ptf at h; split at h
  · split at h
    · rename_i e
      split at h
      · exact fc_t h (fc_set hF (fun q => by omega))
      · cases h
    · cases h
  · cases h
theorem fc_lod {t : Nat} {o : Option Prop} {L L' : QL} {st st' : List QV} {σ σ' : QS} (h : q_lod t L σ st = some (o, L', st', σ')) (hF : FCh σ) : FCh σ' := by
  unfold q_lod at h; split at h
  · split at h
    · exact fc_t h hF
    · split at h
      · exact fc_t h hF
      · cases h
  · cases h
theorem fc_sto {t : Nat} {f : Int32 → Int32} (hf : t = 1 → ∀ x, fits .char (.int (f x)) = true) {o : Option Prop} {L L' : QL} {st st' : List QV} {σ σ' : QS} (h : q_sto t f L σ st = some (o, L', st', σ')) (hF : FCh σ) : FCh σ' := by
  unfold q_sto at h; split at h
  · split at h
    · rename_i c _ e
      refine fc_t h (fc_set hF (fun q i => ?_))
      unfold upd
      split
      · exact hf (e.symm.trans q) _
      · exact hF _ q i
    · cases h
  · cases h
theorem fc_ala {o : Option Prop} {L L' : QL} {st st' : List QV} {σ σ' : QS} (h : q_ala L σ st = some (o, L', st', σ')) (hF : FCh σ) : FCh σ' := by
  unfold q_ala at h; split at h
  · split at h
    · split at h
      · exact fc_t h hF
      · cases h
    · cases h
  · cases h
theorem fc_len {o : Option Prop} {L L' : QL} {st st' : List QV} {σ σ' : QS} (h : q_len L σ st = some (o, L', st', σ')) (hF : FCh σ) : FCh σ' := by
  unfold q_len at h; split at h
  · split at h
    · exact fc_t h hF
    · cases h
  · cases h
theorem fc_cpy {o : Option Prop} {L L' : QL} {st st' : List QV} {σ σ' : QS} (h : q_cpy L σ st = some (o, L', st', σ')) (hF : FCh σ) : FCh σ' := by
  unfold q_cpy at h; split at h
  · split at h
    · rename_i e
      refine fc_t h (fc_set hF (fun q i => ?_))
      unfold va_cpy
      split
      · exact hF _ (e.1.trans q) _
      · exact hF _ q i
    · cases h
  · cases h
theorem fc_mx {o : Option Prop} {L L' : QL} {st st' : List QV} {σ σ' : QS} (h : q_max L σ st = some (o, L', st', σ')) (hF : FCh σ) : FCh σ' := by
  unfold q_max at h; split at h
  · split at h
    · exact fc_t h hF
    · cases h
  · cases h
theorem fc_mn {o : Option Prop} {L L' : QL} {st st' : List QV} {σ σ' : QS} (h : q_min L σ st = some (o, L', st', σ')) (hF : FCh σ) : FCh σ' := by
  unfold q_min at h; split at h
  · split at h
    · exact fc_t h hF
    · cases h
  · cases h
theorem fc_iof {o : Option Prop} {L L' : QL} {st st' : List QV} {σ σ' : QS} (h : q_iof L σ st = some (o, L', st', σ')) (hF : FCh σ) : FCh σ' := by
  unfold q_iof at h; split at h
  · split at h
    · exact fc_t h hF
    · cases h
  · cases h
theorem fc_op {r : QI} {o : Option Prop} {L L' : QL} {st st' : List QV} {σ σ' : QS} (h : q_op r L st σ = some (o, L', st', σ')) (hF : FCh σ) : FCh σ' := by
  obtain ⟨pc, I, len, a, b, v⟩ := r
  unfold q_op at h
  dsimp only at h
  split at h
  all_goals first
    | exact fc_t h hF
    | exact fc_un h hF
    | exact fc_bi h hF
    | exact fc_dv h hF
    | exact fc_ldi h hF
    | exact fc_lda h hF
    | exact fc_sti h hF
    | exact fc_inc h hF
    | exact fc_gtf h hF
    | exact fc_ptf h hF
    | exact fc_lod h hF
    | exact fc_sto (fun z => absurd z (by decide)) h hF
    | exact fc_sto (fun _ => fit_nar) h hF
    | exact fc_ala h hF
    | exact fc_len h hF
    | (unfold q_cst at h; split at h <;> exact fc_t h hF)
    | (unfold q_ivs at h; split at h; exact fc_mx h hF; split at h; exact fc_mn h hF; split at h; exact fc_cpy h hF; cases h)
    | (split at h; exact fc_iof h hF; cases h)
    | (split at h; exact fc_t h hF; cases h)
    | cases h
theorem q_tm_at {kj kj' : Nat → QL → List QV → QS → Prop} {kc kc' : Nat → Nat → Int → Nat → Nat → QL → List QV → QS → Prop} {kr kr' : QQ} {σ : QS} (h1 : ∀ a L st, kj a L st σ → kj' a L st σ) (h2 : ∀ a b tg na ml L st, kc a b tg na ml L st σ → kc' a b tg na ml L st σ) (h3 : ∀ r, kr r σ → kr' r σ) (t : QT) (L : QL) (st : List QV) (z : q_tm kj kc kr t L st σ) : q_tm kj' kc' kr' t L st σ := by
  unfold q_tm at z ⊢
  split at z
  · exact h1 _ _ _ z
  · exact h1 _ _ _ z
  · split at z
    · exact q_br_mono (h1 _ _ _) (h1 _ _ _) z
    · exact z.elim
  · split at z
    · exact q_br_mono (h1 _ _ _) (h1 _ _ _) z
    · exact z.elim
  · split at z
    · exact q_sw_mono (fun b => h1 _ _ _) _ z
    · exact z.elim
  · exact h2 _ _ _ _ _ _ _ z
  · split at z
    · exact h3 _ z
    · exact z.elim
  · split at z
    · exact h3 _ z
    · exact z.elim
  · split at z
    · exact ⟨z.1, h3 _ z.2⟩
    · exact z.elim
  · exact z.elim
theorem q_wp_fc {kj kj' : Nat → QL → List QV → QS → Prop} {kc kc' : Nat → Nat → Int → Nat → Nat → QL → List QV → QS → Prop} {kr kr' : QQ} (h1 : ∀ a L st σ, FCh σ → kj a L st σ → kj' a L st σ) (h2 : ∀ a b tg na ml L st σ, FCh σ → kc a b tg na ml L st σ → kc' a b tg na ml L st σ) (h3 : ∀ r σ, FCh σ → kr r σ → kr' r σ) (t : QT) : ∀ (rs : List QI) (L : QL) (st : List QV) (σ : QS), FCh σ → q_wp kj kc kr t rs L st σ → q_wp kj' kc' kr' t rs L st σ
  | [], L, st, σ, hF, z => q_tm_at (fun a L st => h1 a L st σ hF) (fun a b tg na ml L st => h2 a b tg na ml L st σ hF) (fun r => h3 r σ hF) t L st z
  | r :: rs, L, st, σ, hF, z => by
    unfold q_wp at z ⊢
    split at z
    · rename_i o L' st' σ' e
      exact q_ob_mono (q_wp_fc h1 h2 h3 t rs L' st' σ' (fc_op e hF)) z
    · exact z.elim
theorem EV.fc {d mi k : Nat} {L : QL} {st : List QV} {σ : QS} {Q : QQ} (z : EV d mi k L st σ Q) : FCh σ → EV d mi k L st σ (fun r s => Q r s ∧ FCh s) := by
  refine z (fun d mi k L st σ Q => FCh σ → EV d mi k L st σ (fun r s => Q r s ∧ FCh s)) ?_
  intro d mi k L st σ Q ⟨b, hb, w⟩ hF
  refine EV.intro ⟨b, hb, q_wp_fc (fun a L st σ hF q => q hF) ?_ (fun r σ hF q => ⟨q, hF⟩) _ _ _ _ _ hF w⟩
  intro a b tg na ml L st σ hF ⟨d', R, e, hl, h1, h2⟩
  exact ⟨d', _, e, hl, h1 hF, fun r σ' q => h2 r σ' q.1 q.2⟩
/-- a call on both, with what is known of rows of chars -/
def SimF (mx mm : Nat) (Lx Lm : QL) (σ : QS) : Prop := ∃ r, EV 60 mx 0 Lx [] σ (qI (fun x s1 => x = r ∧ EV 60 mm 0 Lm [] s1 (qI (fun y s2 => y = r ∧ INV s2 ∧ FCh s2))))
theorem SimI.fc {mx mm : Nat} {Lx Lm : QL} {σ : QS} (h : SimI mx mm Lx Lm σ) (hF : FCh σ) : SimF mx mm Lx Lm σ := by
  obtain ⟨r, h⟩ := h
  refine ⟨r, (h.fc hF).mono ?_⟩
  rintro q s1 ⟨⟨x, rfl, hx, h2⟩, f1⟩
  refine ⟨x, rfl, hx, (h2.fc f1).mono ?_⟩
  rintro q s2 ⟨⟨y, rfl, hy, h3⟩, f2⟩
  exact ⟨y, rfl, hy, h3, f2⟩
