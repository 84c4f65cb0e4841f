/-! a small machine over numbered cells: values are numbers or cells, a state is what the cells hold -/
abbrev QV : Type := Int32 ⊕ Nat
abbrev QS : Type := Nat → Nat → Int32
abbrev QL : Type := List (Option QV)
/-- an instruction: its place, itself, its length, what it is resolved to -/
abbrev QI : Type := Nat × Instr × Nat × Nat × Nat × Int32
/-- how a block ends: 0 falls, 1 goto, 2 if, 3 if_icmp, 4 switch, 5 call, 6 ireturn, 7 return, 8 ireturn of a boolean -/
abbrev QT : Type := Nat × QI × List (Int × Nat)
abbrev QB : Type := Nat × List QI × QT
/-- a method: name, bytes, locals, what it returns, class and 'static' (2 n, 2 n + 1), arguments, blocks -/
abbrev QM : Type := MethodName × ByteArray × Nat × Option FieldType × Nat × Nat × List QB
abbrev QC : Type := Nat × Nat × List (Option Nat)
abbrev QR : Type := Option Prop × QL × List QV × QS
def q_g16 {α : Type} (l : List (List α)) (i : Nat) : Option α := match l[i / 16]? with
  | some r => r[i % 16]?
  | none => none
def q_set (σ : QS) (c : Nat) (f : Nat → Int32) : QS := fun c' => if c' = c then f else σ c'
def q_at (rs : List (Option Nat)) (i : Int32) : Option Nat := if i = 0 then rs.getD 0 none else if i = 1 then rs.getD 1 none else none
def q_fit (t : Int32) (x : Int32) : Prop := if t = 1 then x = 0 ∨ x = 1 else narrow .char (.int x) = .int x ∧ fits .char (.int x) = true
def q_ix (l : List Int32) (x : Int32) (k : Nat) : Int32 := match l with
  | [] => -1
  | b :: r => if b = x then nI k else q_ix r x (k + 1)
def q_least : List Int32 := [0, -99, -99, -99, 0, 0, 0]
def q_most : List Int32 := [1, 99, 99, 99, 999, 999, 99]
def q_str1 : List Int32 := [110, 115, 100, 104, 119, 102, 99]
def q_str2 : List Int32 := [107, 97, 114, 115, 100, 104, 116, 111, 112]
def q_ro (c i : Nat) : Int32 := if c = 118 then q_least.getD i 0 else q_most.getD i 0
def q_txt (c : Nat) : List Int32 := if c = 120 then q_str1 else q_str2
def q_cells : List (List QC) := [
  [(14, 0, [some 1, some 6, none, some 11, some 40, some 31, some 41, some 42, some 43, some 44, some 47, some 54, none, some 61, some 62, some 65, some 68]), (6, 0, [some 2, some 3, some 4, some 5, none]), (0, 24, []), (0, 24, []), (0, 180, []), (0, 12, []), (6, 0, [some 7, some 8, some 9, some 10, none]), (0, 24, []), (0, 24, []), (0, 180, []), (0, 12, []), (11, 0, [some 12, none]), (0, 220, []), (7, 0, [none, none, some 14, some 15, some 16, some 17, some 18, some 19, some 20, some 21]), (1, 200, []), (0, 200, [])],
  [(0, 14, []), (0, 14, []), (0, 14, []), (0, 98, []), (0, 7, []), (0, 32, []), (7, 0, [none, none, some 23, some 24, some 25, some 26, some 27, some 28, some 29, some 30]), (1, 200, []), (0, 200, []), (0, 14, []), (0, 14, []), (0, 14, []), (0, 98, []), (0, 7, []), (0, 32, []), (7, 0, [none, none, some 32, some 33, some 34, some 35, some 36, some 37, some 38, some 39])],
  [(1, 200, []), (0, 200, []), (0, 14, []), (0, 14, []), (0, 14, []), (0, 98, []), (0, 7, []), (0, 32, []), (3, 2, [some 13, some 22]), (9, 0, [some 12, some 31, none, none, none, none]), (0, 13, []), (0, 24, []), (10, 0, [some 45, some 46]), (0, 24, []), (0, 9, []), (4, 0, [some 1, some 13, some 44, some 48, some 49, some 50, some 51, some 52, some 53])],
  [(0, 24, []), (0, 600, []), (0, 24, []), (0, 24, []), (0, 24, []), (0, 24, []), (4, 0, [some 1, some 13, some 44, some 55, some 56, some 57, some 58, some 59, some 60]), (0, 24, []), (0, 600, []), (0, 24, []), (0, 24, []), (0, 24, []), (0, 24, []), (12, 0, [some 47, some 54, some 13, none, none, none, none]), (8, 0, [some 1, some 13, some 44, some 63, some 64, none]), (0, 5, [])],
  [(0, 5, []), (5, 0, [some 2, some 42, some 66, some 67, none]), (0, 192, []), (0, 24, []), (13, 0, [some 2, some 43]), (15, 0, [none, some 70, some 71, some 72, some 73, some 74, some 75, some 76, some 77, some 78, some 79, some 80, none, none, none, none, none, none, none, none, none, some 81, some 82, some 83, some 84, some 85, some 86, some 87, some 88, some 89, some 90, some 91, some 92, some 93, some 94, some 95, some 96, some 97, some 98, some 99, some 100, some 101, some 102, some 103, some 104, some 105, some 106, none, none, some 107, none, none, none, some 108, some 109, none, none, some 110, some 111, some 112, some 113, some 114, some 115, some 116, some 117]), (0, 24, []), (0, 24, []), (0, 8, []), (0, 8, []), (0, 8, []), (0, 12, []), (0, 60, []), (0, 60, []), (0, 60, []), (0, 12, [])],
  [(2, 220, []), (0, 220, []), (0, 220, []), (0, 14, []), (0, 14, []), (0, 14, []), (0, 14, []), (0, 440, []), (0, 2, []), (0, 28, []), (0, 28, []), (0, 28, []), (0, 28, []), (0, 220, []), (0, 9, []), (0, 8, [])],
  [(0, 8, []), (0, 8, []), (0, 200, []), (0, 200, []), (0, 200, []), (0, 24, []), (0, 24, []), (0, 24, []), (0, 24, []), (0, 5, []), (0, 5, []), (0, 12, []), (0, 200, []), (0, 24, []), (0, 24, []), (0, 8, [])],
  [(0, 8, []), (0, 8, []), (0, 12, []), (0, 60, []), (0, 60, []), (0, 60, []), (100, 7, []), (100, 7, []), (101, 0, []), (101, 0, [])]]
def q_lay (c : Nat) : QC := (q_g16 q_cells c).getD (99, 0, [])
def q_un (f : Int32 → Int32) (L : QL) (σ : QS) : List QV → Option QR
  | .inl x :: st => some (none, L, .inl (f x) :: st, σ)
  | _ => none
def q_bi (f : Int32 → Int32 → Int32) (L : QL) (σ : QS) : List QV → Option QR
  | .inl y :: .inl x :: st => some (none, L, .inl (f x y) :: st, σ)
  | _ => none
def q_dv (f : Int32 → Int32 → Int32) (L : QL) (σ : QS) : List QV → Option QR
  | .inl y :: .inl x :: st => some (some (¬ y = 0), L, .inl (f x y) :: st, σ)
  | _ => none
def q_ldi (a : Nat) (L : QL) (σ : QS) (st : List QV) : Option QR := match L[a]? with
  | some (some (.inl x)) => some (none, L, .inl x :: st, σ)
  | _ => none
def q_lda (a : Nat) (L : QL) (σ : QS) (st : List QV) : Option QR := match L[a]? with
  | some (some (.inr x)) => some (none, L, .inr x :: st, σ)
  | _ => none
def q_sti (a : Nat) (L : QL) (σ : QS) : List QV → Option QR
  | .inl x :: st => match L[a]? with
    | some _ => some (none, L.set a (some (.inl x)), st, σ)
    | none => none
  | _ => none
def q_inc (a : Nat) (v : Int32) (L : QL) (σ : QS) (st : List QV) : Option QR := match L[a]? with
  | some (some (.inl x)) => some (none, L.set a (some (.inl (x + v))), st, σ)
  | _ => none
def q_gtf (a b : Nat) (L : QL) (σ : QS) : List QV → Option QR
  | .inr c :: st => if (q_lay c).1 = b + 4 then match (q_lay c).2.2[a]? with
      | some (some c2) => some (none, L, .inr c2 :: st, σ)
      | some none => some (none, L, .inl (σ c a) :: st, σ)
      | none => none
    else none
  | _ => none
def q_ptf (a b : Nat) (v : Int32) (L : QL) (σ : QS) : List QV → Option QR
  | .inl x :: .inr c :: st => if (q_lay c).1 = b + 4 then match (q_lay c).2.2[a]? with
      | some none => some (if v = 0 then none else some (q_fit v x), L, st, q_set σ c (upd (σ c) a x))
      | _ => none
    else none
  | _ => none
def q_lod (t : Nat) (L : QL) (σ : QS) : List QV → Option QR
  | .inl i :: .inr c :: st => if (q_lay c).1 = t then some (some (vp_in i (q_lay c).2.1), L, .inl (σ c i.toNatClampNeg) :: st, σ)
    else if (q_lay c).1 = 100 ∧ t = 0 then some (some (vp_in i (q_lay c).2.1), L, .inl (q_ro c i.toNatClampNeg) :: st, σ) else none
  | _ => none
def q_sto (t : Nat) (f : Int32 → Int32) (L : QL) (σ : QS) : List QV → Option QR
  | .inl x :: .inl i :: .inr c :: st => if (q_lay c).1 = t then some (some (vp_in i (q_lay c).2.1), L, st, q_set σ c (upd (σ c) i.toNatClampNeg (f x))) else none
  | _ => none
def q_ala (L : QL) (σ : QS) : List QV → Option QR
  | .inl i :: .inr c :: st => if (q_lay c).1 = 3 then match q_at (q_lay c).2.2 i with
      | some c2 => some (none, L, .inr c2 :: st, σ)
      | none => none
    else none
  | _ => none
def q_len (L : QL) (σ : QS) : List QV → Option QR
  | .inr c :: st => if (q_lay c).1 < 4 then some (none, L, .inl (Int32.ofNat (q_lay c).2.1) :: st, σ) else none
  | _ => none
def q_cpy (L : QL) (σ : QS) : List QV → Option QR
  | .inl n :: .inl dp :: .inr c1 :: .inl sp :: .inr c0 :: st => if (q_lay c0).1 = (q_lay c1).1 ∧ (q_lay c0).1 < 2 ∧ st.length ≤ 8 then
      some (some ((¬ sp < 0) ∧ (¬ dp < 0) ∧ (¬ n < 0) ∧ sp.toNatClampNeg + n.toNatClampNeg ≤ (q_lay c0).2.1 ∧ dp.toNatClampNeg + n.toNatClampNeg ≤ (q_lay c1).2.1 ∧ ((q_lay c0).1 = 1 → ∀ i, i < n.toNatClampNeg → fits .char (.int (σ c0 (sp.toNatClampNeg + i))) = true)), L, st, q_set σ c1 (va_cpy (σ c0) (σ c1) sp.toNatClampNeg dp.toNatClampNeg n.toNatClampNeg))
    else none
  | _ => none
def q_max (L : QL) (σ : QS) : List QV → Option QR
  | .inl y :: .inl x :: st => if st.length ≤ 8 then some (none, L, .inl (if x < y then y else x) :: st, σ) else none
  | _ => none
def q_min (L : QL) (σ : QS) : List QV → Option QR
  | .inl y :: .inl x :: st => if st.length ≤ 8 then some (none, L, .inl (if y < x then y else x) :: st, σ) else none
  | _ => none
def q_iof (L : QL) (σ : QS) : List QV → Option QR
  | .inl x :: .inr c :: st => if (q_lay c).1 = 101 ∧ st.length ≤ 8 then some (none, L, .inl (q_ix (q_txt c) x 0) :: st, σ) else none
  | _ => none
def q_cst (a b : Nat) (v : Int32) (L : QL) (σ : QS) (st : List QV) : Option QR := if b = 0 then some (none, L, .inl v :: st, σ) else some (none, L, .inr a :: st, σ)
def q_ivs (a : Nat) (L : QL) (σ : QS) (st : List QV) : Option QR := if a = 1001 then q_max L σ st else if a = 1002 then q_min L σ st else if a = 1003 then q_cpy L σ st else none
def q_op (r : QI) (L : QL) (st : List QV) (σ : QS) : Option QR := match r with
  | (_, I, _, a, b, v) => match I with
    | .iconst _ => some (none, L, .inl v :: st, σ)
    | .bipush _ => some (none, L, .inl v :: st, σ)
    | .sipush _ => some (none, L, .inl v :: st, σ)
    | .ldc _ => q_cst a b v L σ st
    | .ldc_w _ => some (none, L, .inl v :: st, σ)
    | .iload_n _ => q_ldi a L σ st
    | .iload _ => q_ldi a L σ st
    | .aload_n _ => q_lda a L σ st
    | .aload _ => q_lda a L σ st
    | .istore_n _ => q_sti a L σ st
    | .istore _ => q_sti a L σ st
    | .iinc _ _ => q_inc a v L σ st
    | .iadd => q_bi (fun x y => x + y) L σ st
    | .isub => q_bi (fun x y => x - y) L σ st
    | .imul => q_bi (fun x y => x * y) L σ st
    | .iand => q_bi (fun x y => x &&& y) L σ st
    | .ior => q_bi (fun x y => x ||| y) L σ st
    | .ishl => q_bi (fun x y => x <<< (y &&& 31)) L σ st
    | .ishr => q_bi (fun x y => x >>> (y &&& 31)) L σ st
    | .iushr => q_bi (fun x y => (x.toUInt32 >>> (y.toUInt32 &&& Int32.toUInt32 31)).toInt32) L σ st
    | .idiv => q_dv (fun x y => x / y) L σ st
    | .irem => q_dv (fun x y => x - x / y * y) L σ st
    | .ineg => q_un (fun x => -x) L σ st
    | .i2c => q_un (fun x => (x.toUInt32 % 65536).toInt32) L σ st
    | .i2b => q_un (fun x => x.toInt8.toInt32) L σ st
    | .dup => match st with
      | x :: st => some (none, L, x :: x :: st, σ)
      | _ => none
    | .dup2 => match st with
      | y :: x :: st => some (none, L, y :: x :: y :: x :: st, σ)
      | _ => none
    | .pop => match st with
      | _ :: st => some (none, L, st, σ)
      | _ => none
    | .getfield _ => q_gtf a b L σ st
    | .putfield _ => q_ptf a b v L σ st
    | .iaload => q_lod 0 L σ st
    | .caload => q_lod 1 L σ st
    | .baload => q_lod 2 L σ st
    | .iastore => q_sto 0 (fun x => x) L σ st
    | .castore => q_sto 1 (vp_nar .char) L σ st
    | .bastore => q_sto 2 (vp_nar .byte) L σ st
    | .aaload => q_ala L σ st
    | .arraylength => q_len L σ st
    | .getstatic _ => some (none, L, .inr a :: st, σ)
    | .invokestatic _ => q_ivs a L σ st
    | .invokevirtual _ => if a = 1004 then q_iof L σ st else none
    | _ => none
def q_ob (o : Option Prop) (P : Prop) : Prop := match o with
  | none => P
  | some O => O ∧ P
def q_br (c : Jvm.ClassFile.Cond) (x y : Int32) (T F : Prop) : Prop := match c with
  | .eq => (x = y → T) ∧ (¬ x = y → F)
  | .ne => (¬ x = y → T) ∧ (x = y → F)
  | .lt => (x < y → T) ∧ (¬ x < y → F)
  | .ge => (y ≤ x → T) ∧ (¬ y ≤ x → F)
  | .gt => (y < x → T) ∧ (¬ y < x → F)
  | .le => (x ≤ y → T) ∧ (¬ x ≤ y → F)
def q_sw (k : Nat → Prop) (x : Int32) (d : Nat) : List (Int × Nat) → Prop
  | [] => k d
  | (i, b) :: r => (x = Int32.ofInt i → k b) ∧ (¬ x = Int32.ofInt i → q_sw k x d r)
def q_tm (kj : Nat → QL → List QV → QS → Prop) (kc : Nat → Nat → Int → Nat → Nat → QL → List QV → QS → Prop) (kr : Option Int32 → QS → Prop) (t : QT) (L : QL) (st : List QV) (σ : QS) : Prop := match t with
  | (0, (_, _, _, a, _, _), _) => kj a L st σ
  | (1, (_, _, _, a, _, _), _) => kj a L st σ
  | (2, (_, .ifCond c _, _, a, b, _), _) => match st with
    | .inl x :: st => q_br c x 0 (kj a L st σ) (kj b L st σ)
    | _ => False
  | (3, (_, .if_icmp c _, _, a, b, _), _) => match st with
    | .inl y :: .inl x :: st => q_br c x y (kj a L st σ) (kj b L st σ)
    | _ => False
  | (4, (_, _, _, a, _, _), ts) => match st with
    | .inl x :: st => q_sw (fun k => kj k L st σ) x a ts
    | _ => False
  | (5, (_, _, _, a, b, _), [(tg, na), (_, ml)]) => kc a b tg na ml L st σ
  | (6, _, _) => match st with
    | [.inl x] => kr (some x) σ
    | _ => False
  | (7, _, _) => match st with
    | [] => kr none σ
    | _ => False
  | (8, _, _) => match st with
    | [.inl x] => (x = 0 ∨ x = 1) ∧ kr (some x) σ
    | _ => False
  | _ => False
def q_wp (kj : Nat → QL → List QV → QS → Prop) (kc : Nat → Nat → Int → Nat → Nat → QL → List QV → QS → Prop) (kr : Option Int32 → QS → Prop) (t : QT) : List QI → QL → List QV → QS → Prop
  | [], L, st, σ => q_tm kj kc kr t L st σ
  | r :: rs, L, st, σ => match q_op r L st σ with
    | some (o, L', st', σ') => q_ob o (q_wp kj kc kr t rs L' st' σ')
    | none => False
def q_psh (r : Option Int32) (st : List QV) : List QV := match r with
  | some x => .inl x :: st
  | none => st
/-- the receiver is of the class of the method called (its tag; 0: a static one) -/
def q_rc (tg : Int) (na : Nat) (st : List QV) : Bool := Nat.ble na st.length && (if tg = 0 then true else match st[na - 1]? with
  | some (.inr c) => decide (((q_lay c).1 : Int) = tg)
  | _ => false)
def q_ent (na ml : Nat) (st : List QV) : QL := (st.take na).reverse.map some ++ List.replicate (ml - na) none
