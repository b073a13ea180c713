/-! a method: its name, bytes, locals, answer's type, table of handlers -/
abbrev AM : Type := MethodName × ByteArray × Nat × Option FieldType × List (Nat × Nat × Nat × Nat)
abbrev AM.y (M : AM) : MethodName := M.1
abbrev AM.bytes (M : AM) : ByteArray := M.2.1
abbrev AM.maxL (M : AM) : Nat := M.2.2.1
abbrev AM.ret (M : AM) : Option FieldType := M.2.2.2.1
abbrev AM.hh (M : AM) : List (Nat × Nat × Nat × Nat) := M.2.2.2.2
abbrev AM.own (M : AM) : String := M.1.cls
/-- an instruction: pc, instruction, length, three numbers, a value -/
abbrev AI : Type := Nat × Instr × Nat × Nat × Nat × Nat × Value
abbrev AO : Type := Option (List Prop × (Nat × AL × List Value) × AH)
def ab_isT : Nat → Value → Bool
  | 0, .int _ => true
  | 1, .long _ => true
  | 2, .double _ => true
  | 3, .ref _ => true
  | _, _ => false
def ab_clr (L : AL) : Nat → AL
  | 0 => L
  | a + 1 => match L[a]? with
    | some (some (.long _)) => L.set a none
    | some (some (.double _)) => L.set a none
    | _ => L
def ab_put1 (L : AL) (a : Nat) (v : Value) : AL := (ab_clr L a).set a (some v)
def ab_put2 (L : AL) (a : Nat) (v : Value) : AL := ((ab_clr L a).set a (some v)).set (a + 1) none
def ab_load (t pc n a : Nat) (L : AL) (st : List Value) (h : AH) : AO := match L[a]? with
  | some (some v) => match ab_isT t v with
    | true => some ([], (pc + n, L, v :: st), h)
    | false => none
  | _ => none
def ab_store1 (t pc n a : Nat) (L : AL) (st : List Value) (h : AH) : AO := match st with
  | v :: r => match ab_isT t v with
    | true => some ([], (pc + n, ab_put1 L a v, r), h)
    | false => none
  | [] => none
def ab_store2 (t pc n a : Nat) (L : AL) (st : List Value) (h : AH) : AO := match st with
  | v :: r => match ab_isT t v with
    | true => some ([], (pc + n, ab_put2 L a v, r), h)
    | false => none
  | [] => none
def ab_bin (f : Int32 → Int32 → Int32) (pc n : Nat) (L : AL) (st : List Value) (h : AH) : AO := match st with
  | .int y :: .int x :: r => some ([], (pc + n, L, .int (f x y) :: r), h)
  | _ => none
def ab_binZ (f : Int32 → Int32 → Int32) (pc n : Nat) (L : AL) (st : List Value) (h : AH) : AO := match st with
  | .int y :: .int x :: r => some ([¬ y = 0], (pc + n, L, .int (f x y) :: r), h)
  | _ => none
def ab_un (f : Int32 → Value) (pc n : Nat) (L : AL) (st : List Value) (h : AH) : AO := match st with
  | .int x :: r => some ([], (pc + n, L, f x :: r), h)
  | _ => none
def ab_binL (f : Int64 → Int64 → Value) (pc n : Nat) (L : AL) (st : List Value) (h : AH) : AO := match st with
  | .long y :: .long x :: r => some ([], (pc + n, L, f x y :: r), h)
  | _ => none
def ab_binD (f : UInt64 → UInt64 → UInt64) (pc n : Nat) (L : AL) (st : List Value) (h : AH) : AO := match st with
  | .double y :: .double x :: r => some ([vf_n64 (f x y)], (pc + n, L, .double (f x y) :: r), h)
  | _ => none
def ab_okv : FieldType → Value → Bool
  | .int, .int _ => true
  | .long, .long _ => true
  | .object _, .ref _ => true
  | .array _, .ref _ => true
  | _, _ => false
def ab_getf (pc n a b : Nat) (L : AL) (st : List Value) (h : AH) : AO := match st with
  | .ref q :: r => match ab_get h q with
    | some (.inr (ci, fs)) => match Nat.beq ci a, fs[b]? with
      | true, some w => some ([], (pc + n, L, w :: r), h)
      | _, _ => none
    | _ => none
  | _ => none
def ab_putf (pc n a b : Nat) (L : AL) (st : List Value) (h : AH) : AO := match st with
  | w :: .ref q :: r => match ab_get h q with
    | some (.inr (ci, fs)) => match Nat.beq ci a, Nat.blt b fs.length, ab_okv (ab_ty a b) w with
      | true, true, true => some ([], (pc + n, L, r), ab_set h q (.inr (ci, fs.set b w)))
      | _, _, _ => none
    | _ => none
  | _ => none
def ab_ald (pc n : Nat) (L : AL) (st : List Value) (h : AH) : AO := match st with
  | .int i :: .ref q :: r => match ab_get h q with
    | some (.inl (.inl (m, f))) => some ([vp_in i m], (pc + n, L, .int (f i.toNatClampNeg) :: r), h)
    | _ => none
  | _ => none
def ab_lald (pc n : Nat) (L : AL) (st : List Value) (h : AH) : AO := match st with
  | .int i :: .ref q :: r => match ab_get h q with
    | some (.inl (.inr (m, f))) => some ([vp_in i m], (pc + n, L, .long (f i.toNatClampNeg) :: r), h)
    | _ => none
  | _ => none
def ab_ast (pc n : Nat) (L : AL) (st : List Value) (h : AH) : AO := match st with
  | .int x :: .int i :: .ref q :: r => match ab_get h q, Nat.beq (q / 4096) 0 with
    | some (.inl (.inl (m, f))), false => some ([vp_in i m], (pc + n, L, r), ab_set h q (.inl (.inl (m, upd f i.toNatClampNeg x))))
    | _, _ => none
  | _ => none
def ab_last (pc n : Nat) (L : AL) (st : List Value) (h : AH) : AO := match st with
  | .long x :: .int i :: .ref q :: r => match ab_get h q, Nat.beq (q / 4096) 0 with
    | some (.inl (.inr (m, f))), false => some ([vp_in i m], (pc + n, L, r), ab_set h q (.inl (.inr (m, vp_updL f i.toNatClampNeg x))))
    | _, _ => none
  | _ => none
def ab_alen (pc n : Nat) (L : AL) (st : List Value) (h : AH) : AO := match st with
  | .ref q :: r => match ab_get h q with
    | some (.inl (.inl (m, _))) => some ([], (pc + n, L, .int (Int32.ofNat m) :: r), h)
    | _ => none
  | _ => none
def ab_cat (st : List Value) : Bool := Nat.ble ((st.map fun v => v.category).sum) 8
/-- Math.max, min, abs; arraycopy; the raw bits of a double -/
def ab_jdk (pc n a : Nat) (L : AL) (st : List Value) (h : AH) : AO := match a with
  | 1 => match st with
    | .int y :: .int x :: r => match ab_cat r with
      | true => some ([], (pc + n, L, .int (if x < y then y else x) :: r), h)
      | false => none
    | _ => none
  | 2 => match st with
    | .int y :: .int x :: r => match ab_cat r with
      | true => some ([], (pc + n, L, .int (if y < x then y else x) :: r), h)
      | false => none
    | _ => none
  | 3 => match st with
    | .int x :: r => match ab_cat r with
      | true => some ([], (pc + n, L, .int (if 0 ≤ x then x else 0 - x) :: r), h)
      | false => none
    | _ => none
  | 4 => match st with
    | .int k :: .int dp :: .ref d :: .int sp :: .ref q :: r => match ab_cat r, ab_get h q, ab_get h d, Nat.beq (q / 4096) 0, Nat.beq (d / 4096) 0 with
      | true, some (.inl (.inl (m0, f))), some (.inl (.inl (m1, g))), false, false => some ([¬ sp < 0, ¬ dp < 0, ¬ k < 0, sp.toNatClampNeg + k.toNatClampNeg ≤ m0, dp.toNatClampNeg + k.toNatClampNeg ≤ m1], (pc + n, L, r), ab_set h d (.inl (.inl (m1, va_cpy f g sp.toNatClampNeg dp.toNatClampNeg k.toNatClampNeg))))
      | _, _, _, _, _ => none
    | _ => none
  | _ => none
def ab_step (x : AI) (L : AL) (st : List Value) (h : AH) : AO := match x with
  | (pc, i, n, a, b, _, v) => match i with
    | .iconst _ | .bipush _ | .sipush _ | .lconst _ | .dconst _ | .ldc _ | .ldc2_w _ => some ([], (pc + n, L, v :: st), h)
    | .iload _ | .iload_n _ => ab_load 0 pc n a L st h
    | .lload _ | .lload_n _ => ab_load 1 pc n a L st h
    | .dload _ | .dload_n _ => ab_load 2 pc n a L st h
    | .aload _ | .aload_n _ => ab_load 3 pc n a L st h
    | .istore _ | .istore_n _ => ab_store1 0 pc n a L st h
    | .astore _ | .astore_n _ => ab_store1 3 pc n a L st h
    | .lstore _ | .lstore_n _ => ab_store2 1 pc n a L st h
    | .dstore _ | .dstore_n _ => ab_store2 2 pc n a L st h
    | .iinc _ _ => match L[a]?, v with
      | some (some (.int x)), .int k => some ([], (pc + n, ab_put1 L a (.int (x + k)), st), h)
      | _, _ => none
    | .iadd => ab_bin (fun x y => x + y) pc n L st h
    | .isub => ab_bin (fun x y => x - y) pc n L st h
    | .imul => ab_bin (fun x y => x * y) pc n L st h
    | .iand => ab_bin (fun x y => x &&& y) pc n L st h
    | .ior => ab_bin (fun x y => x ||| y) pc n L st h
    | .ishl => ab_bin (fun x y => x <<< (y &&& 31)) pc n L st h
    | .ishr => ab_bin (fun x y => x >>> (y &&& 31)) pc n L st h
    | .iushr => ab_bin (fun x y => (x.toUInt32 >>> (y.toUInt32 &&& Int32.toUInt32 31)).toInt32) pc n L st h
    | .idiv => ab_binZ (fun x y => x / y) pc n L st h
    | .irem => ab_binZ (fun x y => x - x / y * y) pc n L st h
    | .ineg => ab_un (fun x => .int (-x)) pc n L st h
    | .i2l => ab_un (fun x => .long x.toInt64) pc n L st h
    | .i2d => ab_un (fun x => .double (FP.i2d x)) pc n L st h
    | .ladd => ab_binL (fun x y => .long (x + y)) pc n L st h
    | .lsub => ab_binL (fun x y => .long (x - y)) pc n L st h
    | .lmul => ab_binL (fun x y => .long (x * y)) pc n L st h
    | .lor => ab_binL (fun x y => .long (x ||| y)) pc n L st h
    | .lcmp => ab_binL (fun x y => .int (lg_cmp x y)) pc n L st h
    | .lshl => match st with
      | .int y :: .long x :: r => some ([], (pc + n, L, .long (x <<< (y.toInt64 &&& 63)) :: r), h)
      | _ => none
    | .dmul => ab_binD FP.dmul pc n L st h
    | .dsub => ab_binD FP.dsub pc n L st h
    | .ddiv => ab_binD FP.ddiv pc n L st h
    | .dcmp op => match st with
      | .double y :: .double x :: r => some ([], (pc + n, L, .int (Op.cmpValue (FP.dcmp x y) op) :: r), h)
      | _ => none
    | .d2l => match st with
      | .double x :: r => some ([], (pc + n, L, .long (FP.d2l x) :: r), h)
      | _ => none
    | .dup => match st with
      | v :: r => match Nat.beq v.category 1 with
        | true => some ([], (pc + n, L, v :: v :: r), h)
        | false => none
      | _ => none
    | .dup2 => match st with
      | v :: w :: r => match Nat.beq v.category 1, Nat.beq w.category 1 with
        | true, true => some ([], (pc + n, L, v :: w :: v :: w :: r), h)
        | _, _ => none
      | _ => none
    | .pop => match st with
      | v :: r => match Nat.beq v.category 1 with
        | true => some ([], (pc + n, L, r), h)
        | false => none
      | _ => none
    | .goto _ => some ([], (a, L, st), h)
    | .getfield _ => ab_getf pc n a b L st h
    | .putfield _ => ab_putf pc n a b L st h
    | .getstatic _ => some ([], (pc + n, L, .ref a :: st), h)
    | .iaload => ab_ald pc n L st h
    | .iastore => ab_ast pc n L st h
    | .arraylength => ab_alen pc n L st h
    | .invokestatic _ => ab_jdk pc n a L st h
    | .invokespecial _ => match st with
      | .ref _ :: r => match ab_cat r with
        | true => some ([], (pc + n, L, r), h)
        | false => none
      | _ => none
    | _ => none
def ab_run : List AI → Nat → AL → List Value → AH → AO
  | [], pc, L, st, h => some ([], (pc, L, st), h)
  | x :: xs, pc, L, st, h => match Nat.beq x.1 pc with
    | true => match ab_step x L st h with
      | some (P, (pc', L', st'), h') => match ab_run xs pc' L' st' h' with
        | some (Q, r) => some (P ++ Q, r)
        | none => none
      | none => none
    | false => none
/-! what is to be checked of an instruction, once, by program -/
def ab_link (own : String) (idx a b c : Nat) : Bool := match vwCl[a]? with
  | some (C, T, N) => Nat.blt b N && ab_at c (.fieldLink own idx C (T b).2.1 (T b).2.2.1)
  | none => false
def ab_fin (own nm : String) (a b : Nat) : Bool := match vwCl[a]? with
  | some (C, T, _) => if (T b).2.2.2 = true then decide (nm = "<init>") && decide (C = own) else true
  | none => false
def ab_okI (M : AM) (x : AI) : Bool := match x with
  | (pc, i, n, a, b, c, v) => match i with
    | .iconst k => Nat.beq n 1 && decide (v = .int (Int32.ofInt k))
    | .bipush k => Nat.beq n 2 && decide (v = .int (Int8.ofInt k).toInt32)
    | .sipush k => Nat.beq n 3 && decide (v = .int (Int16.ofInt k).toInt32)
    | .lconst k => Nat.beq n 1 && decide (v = .long (Int64.ofNat (k : Nat)))
    | .dconst k => Nat.beq n 1 && (match k with
      | 0 => decide (v = .double FP.dconst0)
      | 1 => decide (v = .double FP.dconst1))
    | .ldc idx => Nat.beq n 2 && (match v with
      | .int z => ab_at c (.constant M.own idx z)
      | _ => false)
    | .ldc2_w idx => Nat.beq n 3 && (match v with
      | .long z => ab_at c (.constantLong M.own idx z)
      | .double z => ab_at c (.constantDouble M.own idx z)
      | _ => false)
    | .iload k | .lload k | .dload k | .aload k => Nat.beq n 2 && Nat.beq k a
    | .iload_n k | .lload_n k | .dload_n k | .aload_n k => Nat.beq n 1 && Nat.beq k a
    | .istore k | .astore k => Nat.beq n 2 && Nat.beq k a && Nat.blt a M.maxL
    | .istore_n k | .astore_n k => Nat.beq n 1 && Nat.beq k a && Nat.blt a M.maxL
    | .lstore k | .dstore k => Nat.beq n 2 && Nat.beq k a && Nat.blt (a + 1) M.maxL
    | .lstore_n k | .dstore_n k => Nat.beq n 1 && Nat.beq k a && Nat.blt (a + 1) M.maxL
    | .iinc k z => Nat.beq n 3 && Nat.beq k a && Nat.blt a M.maxL && decide (v = .int (Int32.ofInt z))
    | .goto off => Nat.beq n 3 && decide ((pc : Int) + off = (a : Int))
    | .getfield idx => Nat.beq n 3 && ab_link M.own idx a b c
    | .putfield idx => Nat.beq n 3 && ab_link M.own idx a b c && ab_fin M.own M.y.name a b
    | .getstatic idx => Nat.beq n 3 && (match ab_stF[b]? with
      | some (C, f, d, r) => decide (C = M.own) && Nat.beq r a && ab_at c (.fieldLink M.own idx C f d)
      | none => false)
    | .invokestatic idx => Nat.beq n 3 && ab_jw a && (match a with
      | 1 => ab_at c (.methodLink M.own idx Lib.Math.max.name)
      | 2 => ab_at c (.methodLink M.own idx Lib.Math.min.name)
      | 3 => ab_at c (.methodLink M.own idx Lib.Math.abs.name)
      | 4 => ab_at c (.methodLink M.own idx arraycopyName)
      | _ => false)
    | .invokespecial idx => Nat.beq n 3 && Nat.beq a 5 && ab_jw 5 && ab_at c (.methodLink M.own idx Lib.objectInit)
    | _ => Nat.beq n 1
def ab_ok (M : AM) (x : AI) : Bool := decide (decode M.bytes x.1 = .ok (x.2.1, x.2.2.1)) && ab_okI M x
def ab_oks (M : AM) (xs : List AI) : Bool := xs.all (ab_ok M)
def ab_all : List Prop → Prop
  | [] => True
  | [p] => p
  | p :: q :: r => p ∧ ab_all (q :: r)
