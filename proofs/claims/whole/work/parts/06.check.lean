def q_sg (a : Option Nat) (z : Int) : Bool := match a with
  | some g => decide (z = (g : Int))
  | none => false
/-- a field may be put: not final; its type by its tag -/
def q_pok (b a : Nat) (v : Int32) : Bool := decide (((q_T b).2.1 a).2.2.2 = false) && (if v = 0 then decide (((q_T b).2.1 a).2.2.1 = "I") else if v = 1 then decide (((q_T b).2.1 a).2.2.1 = "Z") else decide (((q_T b).2.1 a).2.2.1 = "C"))
def q_okr (own : Nat) (r : QI) : Bool := match r with
  | (_, I, len, a, b, v) => match I with
    | .iconst n => decide (len = 1 ∧ Int32.ofInt n = v)
    | .bipush n => decide (len = 2 ∧ (Int8.ofInt n).toInt32 = v)
    | .sipush n => decide (len = 3 ∧ (Int16.ofInt n).toInt32 = v)
    | .ldc i => decide (len = 2) && (if b = 0 then decide ((own, i, v) ∈ q_cnk) else decide (own = 5 ∧ (i = 47 ∧ a = 120 ∨ i = 111 ∧ a = 121)))
    | .ldc_w i => decide (len = 3 ∧ (own, i, v) ∈ q_cnk)
    | .iload_n k => decide (len = 1 ∧ k.val = a)
    | .iload k => decide (len = 2 ∧ k = a)
    | .aload_n k => decide (len = 1 ∧ k.val = a)
    | .aload k => decide (len = 2 ∧ k = a)
    | .istore_n k => decide (len = 1 ∧ k.val = a)
    | .istore k => decide (len = 2 ∧ k = a)
    | .iinc i n => decide (len = 3 ∧ i = a ∧ Int32.ofInt n = v)
    | .iadd => decide (len = 1)
    | .isub => decide (len = 1)
    | .imul => decide (len = 1)
    | .iand => decide (len = 1)
    | .ior => decide (len = 1)
    | .ishl => decide (len = 1)
    | .ishr => decide (len = 1)
    | .iushr => decide (len = 1)
    | .idiv => decide (len = 1)
    | .irem => decide (len = 1)
    | .ineg => decide (len = 1)
    | .i2c => decide (len = 1)
    | .i2b => decide (len = 1)
    | .dup => decide (len = 1)
    | .dup2 => decide (len = 1)
    | .pop => decide (len = 1)
    | .getfield i => decide (len = 3 ∧ ((own, i, b, a) ∈ q_flk ∨ (own, i, b, a) ∈ q_nlk))
    | .putfield i => decide (len = 3 ∧ ((own, i, b, a) ∈ q_flk ∨ (own, i, b, a) ∈ q_nlk)) && q_pok b a v
    | .iaload => decide (len = 1)
    | .caload => decide (len = 1)
    | .baload => decide (len = 1)
    | .iastore => decide (len = 1)
    | .castore => decide (len = 1)
    | .bastore => decide (len = 1)
    | .aaload => decide (len = 1)
    | .arraylength => decide (len = 1)
    | .getstatic i => decide (len = 3 ∧ own = 3 ∧ (i = 60 ∧ a = 118 ∨ i = 63 ∧ a = 119))
    | .invokestatic i => decide (len = 3 ∧ (own, i, a) ∈ q_ilk)
    | .invokevirtual i => decide (len = 3 ∧ (own, i, a) ∈ q_ilk)
    | _ => false
def q_chn (own : Nat) (cc : ByteArray) : Nat → List QI → Option Nat
  | p, [] => some p
  | p, r :: rs => if r.1 = p ∧ decode cc p = .ok (r.2.1, r.2.2.1) ∧ q_okr own r = true then q_chn own cc (p + r.2.2.1) rs else none
def q_oktab (sts : List Nat) (p : Nat) : Int → List Int → List (Int × Nat) → Bool
  | _, [], [] => true
  | lo, o :: os, (i, k) :: ts => decide (i = lo) && q_sg sts[k]? ((p : Int) + o) && q_oktab sts p (lo + 1) os ts
  | _, _, _ => false
def q_oklk (sts : List Nat) (p : Nat) : List (Int × Int) → List (Int × Nat) → Bool
  | [], [] => true
  | (j, o) :: os, (i, k) :: ts => decide (i = j) && q_sg sts[k]? ((p : Int) + o) && q_oklk sts p os ts
  | _, _ => false
def q_okt (own : Nat) (cc : ByteArray) (ret : Option FieldType) (sts : List Nat) (p : Nat) (t : QT) : Bool := match t with
  | (0, (_, _, _, a, _, _), _) => decide (sts[a]? = some p)
  | (1, (_, .goto off, _, a, _, _), _) => decide (decode cc p = .ok (.goto off, 3)) && q_sg sts[a]? ((p : Int) + off)
  | (2, (_, .ifCond c off, _, a, b, _), _) => decide (decode cc p = .ok (.ifCond c off, 3)) && q_sg sts[a]? ((p : Int) + off) && decide (sts[b]? = some (p + 3))
  | (3, (_, .if_icmp c off, _, a, b, _), _) => decide (decode cc p = .ok (.if_icmp c off, 3)) && q_sg sts[a]? ((p : Int) + off) && decide (sts[b]? = some (p + 3))
  | (4, (_, .tableswitch dd lo hi offs, len, a, _, _), ts) => decide (decode cc p = .ok (.tableswitch dd lo hi offs, len)) && q_sg sts[a]? ((p : Int) + dd) && q_oktab sts p lo offs.toList ts && decide (hi = lo + offs.size - 1 ∧ -2147483648 ≤ lo ∧ hi < 2147483648)
  | (4, (_, .lookupswitch dd ps, len, a, _, _), ts) => decide (decode cc p = .ok (.lookupswitch dd ps, len)) && q_sg sts[a]? ((p : Int) + dd) && q_oklk sts p ps.toList ts && (ps.toList.zip (ps.toList.drop 1)).all (fun (a, next) => a.1 < next.1) && ps.toList.all (fun q => decide (-2147483648 ≤ q.1 ∧ q.1 < 2147483648))
  | (5, (_, .invokevirtual i, _, a, b, _), [(tg, na), (_, ml)]) => decide (decode cc p = .ok (.invokevirtual i, 3) ∧ sts[b]? = some (p + 3) ∧ (own, i, a) ∈ q_mlk ∧ a ∈ q_ki ∧ a ∈ q_kl ∧ tg = (((q_y a).2.2.2.2.1 / 2 : Nat) : Int) + 4 ∧ na = (q_y a).2.2.2.2.2 ∧ ml = (q_y a).2.2.1 ∧ 0 < na)
  | (5, (_, .invokestatic i, _, a, b, _), [(tg, na), (_, ml)]) => decide (decode cc p = .ok (.invokestatic i, 3) ∧ sts[b]? = some (p + 3) ∧ (own, i, a) ∈ q_mlk ∧ a ∈ q_ks ∧ tg = 0 ∧ na = (q_y a).2.2.2.2.2 ∧ ml = (q_y a).2.2.1)
  | (6, _, _) => decide (decode cc p = .ok (.ireturn, 1) ∧ ret = some .int)
  | (7, _, _) => decide (decode cc p = .ok (.return_, 1) ∧ ret = none)
  | (8, _, _) => decide (decode cc p = .ok (.ireturn, 1) ∧ ret = some .boolean)
  | _ => false
def q_okb (own : Nat) (cc : ByteArray) (ret : Option FieldType) (sts : List Nat) (b : QB) : Bool := match q_chn own cc b.1 b.2.1 with
  | some p => q_okt own cc ret sts p b.2.2
  | none => false
def q_okm (M : QM) : Bool := decide ((M.2.2.2.2.2.2.map (fun b => b.1))[0]? = some 0) && M.2.2.2.2.2.2.all (q_okb (M.2.2.2.2.1 / 2) M.2.1 M.2.2.2.1 (M.2.2.2.2.2.2.map (fun b => b.1)))
/-- what is asked of a method's name: its class, its arguments, its words -/
def q_oky (mi : Nat) : Bool := decide (mi ∈ q_kc ∧ (q_y mi).1.cls = q_own ((q_y mi).2.2.2.2.1 / 2) ∧ (parseMethodDescriptor (q_y mi).1.desc).map (fun d => d.parameters.length) = some ((q_y mi).2.2.2.2.2 - (1 - (q_y mi).2.2.2.2.1 % 2)) ∧ plainName (q_y mi).1.cls = true ∧ (q_y mi).2.2.2.2.2 ≤ (q_y mi).2.2.1 ∧ (q_y mi).2.2.1 ≤ 30 ∧ (q_y mi).1.cls ≠ "java/lang/invoke/MethodHandle" ∧ (q_y mi).1.cls ≠ "java/lang/invoke/VarHandle" ∧ Cond.initialized (q_y mi).1.cls ∈ tables_1_1)
