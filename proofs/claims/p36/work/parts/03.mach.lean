-- 03: a small machine over ids: heaps are shapes and numbers; a run of it is a run of the real one (04 .. 08)
def zlk {α : Type} : List (Nat × α) → Nat → Option α
  | [], _ => none
  | (k, v) :: t, n => match Nat.beq k n with
    | true => some v
    | false => zlk t n
/-- an object (its class, its references by their fields), or an array (its kind, its length, its references) -/
abbrev zS : Type := (Nat × List (Option Nat)) ⊕ (FieldType × Nat × List (Option Nat))
abbrev zH : Type := List zS × (Nat → Nat → Int32)
def zup (G : Nat → Nat → Int32) (r k : Nat) (x : Int32) : Nat → Nat → Int32 := fun a => if a = r then upd (G r) k x else G a
def zrow (G : Nat → Nat → Int32) (r : Nat) (f : Nat → Int32) : Nat → Nat → Int32 := fun a => if a = r then f else G a
def zrf : Option Nat → Value
  | none => .null
  | some r => .ref r
/-- is a field a reference? -/
def zIr (ci k : Nat) : Bool := match zTy ci k with
  | .object _ => true
  | .array _ => true
  | _ => false
/-- does a field take a number? -/
def zfit (ty : FieldType) (x : Int32) : Bool := match ty with
  | .int => true
  | .boolean => x == 0 || x == 1
  | _ => false
def znr (ty : FieldType) (x : Int32) : Bool := decide (narrow ty (.int x) = .int x)
/-- the slots of a shape -/
def zsl1 : zS → Nat
  | .inl (ci, _) => zNf ci
  | .inr (_, n, _) => n
def zsl (l : List zS) : Nat := (l.map zsl1).sum
def zne (n : Nat) : Value → Bool
  | .ref r => !Nat.beq r n
  | _ => true
def zneO (n : Nat) : Option Nat → Bool
  | some r => !Nat.beq r n
  | none => true
def zneS (n : Nat) : zS → Bool
  | .inl (_, l) => l.all (zneO n)
  | .inr (_, _, l) => l.all (zneO n)
/-- a value that stays what it is while the cells from n to n2 come -/
def zfr (n n2 : Nat) : Value → Bool
  | .ref r => Nat.blt r n || Nat.ble n2 r
  | _ => true
def zfrO (n n2 : Nat) : Option Nat → Bool
  | some r => Nat.blt r n || Nat.ble n2 r
  | none => true
def zfrS (n n2 : Nat) : zS → Bool
  | .inl (_, l) => l.all (zfrO n n2)
  | .inr (_, _, l) => l.all (zfrO n n2)
/-- a place of a local that a new value may take -/
def zp2 (lst : List Value) : Nat → Bool
  | 0 => true
  | j + 1 => match lst[j]? with
    | some (.double _) => false
    | some (.long _) => false
    | _ => true
def zbr (pc : Nat) (off : Int) : Option Nat := if 0 ≤ (pc : Int) + off then some ((pc : Int) + off).toNat else none
def zin (i : Int32) (n : Nat) : Bool := !(decide (i < 0) || decide (n ≤ i.toNatClampNeg))
/-- the length of an instruction -/
def zlen : Instr → Nat
  | .bipush _ => 2 | .ldc _ => 2 | .iload _ => 2 | .dload _ => 2 | .aload _ => 2 | .istore _ => 2 | .dstore _ => 2 | .astore _ => 2 | .newarray _ => 2
  | .sipush _ => 3 | .ifCond _ _ => 3 | .if_icmp _ _ => 3 | .goto _ => 3 | .ifnull _ => 3 | .ifnonnull _ => 3
  | .getstatic _ => 3 | .getfield _ => 3 | .putfield _ => 3 | .invokevirtual _ => 3 | .invokespecial _ => 3 | .invokestatic _ => 3 | .new _ => 3 | .anewarray _ => 3
  | _ => 1
def zlenOk (i : Instr) (n : Nat) : Bool := match i with
  | .iinc _ _ => n == 3 || n == 6
  | .tableswitch _ _ _ _ => true
  | .lookupswitch _ ps => (ps.toList.zip (ps.toList.drop 1)).all (fun (a, next) => a.1 < next.1)
  | i => n == zlen i
abbrev zC : Type := Nat × List Value × List Value × zH
def zsto (pc len : Nat) (lst : List Value) (st : List Value) (h : zH) (i : Nat) (v : Value) : Option zC :=
  if i < lst.length ∧ zp2 lst i = true then some (pc + len, lst.set i v, st, h) else none
def zstoD (pc len : Nat) (lst : List Value) (st : List Value) (h : zH) (i : Nat) (v : Value) : Option zC :=
  if i + 1 < lst.length ∧ zp2 lst i = true then some (pc + len, (lst.set i v).set (i + 1) (.retAddr 0), st, h) else none
def zif (pc : Nat) (lst st : List Value) (h : zH) (off : Int) (b : Prop) [Decidable b] : Option zC :=
  match zbr pc off with
  | none => none
  | some t => if b then some (t, lst, st, h) else some (pc + 3, lst, st, h)
/-- getfield of a number or a reference -/
def zgf (h : zH) (r ci k : Nat) : Option Value :=
  match Nat.beq ci 10 with
  | true => if 1000000 ≤ r ∧ r < 1000000 + zSb.length then (if k = 0 then some (.ref (r + 1000)) else some (.int 0)) else none
  | false => match h.1[r]? with
    | some (.inl (c, refs)) => if c = ci ∧ k < zNf ci then (if zIr ci k = true then some (zrf (refs.getD k none)) else some (.int (h.2 r k))) else none
    | _ => none
def zpf (M : zMt) (h : zH) (r ci k : Nat) (v : Value) : Option zH :=
  match h.1[r]? with
  | some (.inl (c, refs)) =>
    if c = ci ∧ k < zNf ci ∧ ((zT ci k).2.2.2 = true → M.2.1.name = "<init>" ∧ ci = M.1) then
      match v with
      | .int x => if zIr ci k = false ∧ zfit (zTy ci k) x = true then some (h.1, zup h.2 r k x) else none
      | .ref q => if zIr ci k = true ∧ k < refs.length then some (h.1.set r (.inl (c, refs.set k (some q))), h.2) else none
      | _ => none
    else none
  | _ => none
def zal (M : zMt) (h : zH) (r : Nat) : Option Int32 :=
  if r = 2000000 then (if M.1 = 9 then some (h.2 2000001 0) else none)
  else if 1001000 ≤ r ∧ r < 1001000 + zSb.length then some (Int32.ofNat ((zSb.getD (r - 1001000) []).length))
  else match h.1[r]? with
    | some (.inr (_, n, _)) => some (Int32.ofNat n)
    | _ => none
def zia (M : zMt) (h : zH) (r : Nat) (i : Int32) : Option Value :=
  if r = 2000000 then (if M.1 = 9 ∧ 0 ≤ i ∧ i < h.2 2000001 0 then some (.int (h.2 2000000 i.toNatClampNeg)) else none)
  else match h.1[r]? with
    | some (.inr (.int, n, _)) => if zin i n = true then some (.int (h.2 r i.toNatClampNeg)) else none
    | _ => none
def zca (h : zH) (r : Nat) (i : Int32) : Option Value :=
  match h.1[r]? with
    | some (.inr (.char, n, _)) => if zin i n = true then some (.int (h.2 r i.toNatClampNeg)) else none
    | _ => none
def zba (r : Nat) (i : Int32) : Option Value :=
  if 1001000 ≤ r ∧ r < 1001000 + zSb.length ∧ zin i (zSb.getD (r - 1001000) []).length = true then some (.int ((zSb.getD (r - 1001000) []).getD i.toNatClampNeg 0)) else none
def zaa (h : zH) (r : Nat) (i : Int32) : Option Value :=
  match h.1[r]? with
    | some (.inr (.object _, n, refs)) => if zin i n = true then some (zrf (refs.getD i.toNatClampNeg none)) else none
    | _ => none
def zcpy (M : zMt) (h : zH) (a0 : Nat) (sp : Int32) (a1 : Nat) (dp n : Int32) : Option zH :=
  match h.1[a0]?, h.1[a1]? with
  | some (.inr (.int, n0, _)), some (.inr (.int, n1, _)) =>
    if ¬ sp < 0 ∧ ¬ dp < 0 ∧ ¬ n < 0 ∧ sp.toNatClampNeg + n.toNatClampNeg ≤ n0 ∧ dp.toNatClampNeg + n.toNatClampNeg ≤ n1 then
      some (h.1, zrow h.2 a1 (va_cpy (h.2 a0) (h.2 a1) sp.toNatClampNeg dp.toNatClampNeg n.toNatClampNeg)) else none
  | _, _ => none
def znw (h : zH) (lst st : List Value) (s : zS) : Option zH :=
  if h.1.length < 900000 ∧ lst.all (zne h.1.length) = true ∧ st.all (zne h.1.length) = true ∧ h.1.all (zneS h.1.length) = true then
    some (h.1 ++ [s], zrow h.2 h.1.length (fun _ => 0)) else none
def zwd (l : List Value) : Nat := (l.map fun v => v.category).sum
def zhset (pc : Nat) (lst st : List Value) (o : Option zH) : Option zC := match o with
  | some h => some (pc, lst, st, h)
  | none => none
def zpush (pc : Nat) (lst st : List Value) (h : zH) (o : Option Value) : Option zC := match o with
  | some v => some (pc, lst, v :: st, h)
  | none => none
def zldi (pc len : Nat) (lst st : List Value) (h : zH) (n : Nat) : Option zC := match lst[n]? with
  | some (.int x) => some (pc + len, lst, .int x :: st, h)
  | _ => none
def zldd (pc len : Nat) (lst st : List Value) (h : zH) (n : Nat) : Option zC := match lst[n]? with
  | some (.double x) => some (pc + len, lst, .double x :: st, h)
  | _ => none
def zlda (pc len : Nat) (lst st : List Value) (h : zH) (n : Nat) : Option zC := match lst[n]? with
  | some (.ref x) => some (pc + len, lst, .ref x :: st, h)
  | some .null => some (pc + len, lst, .null :: st, h)
  | _ => none
def zsti (pc len : Nat) (lst : List Value) (st : List Value) (h : zH) (n : Nat) : Option zC := match st with
  | .int x :: r => zsto pc len lst r h n (.int x)
  | _ => none
def zsta (pc len : Nat) (lst : List Value) (st : List Value) (h : zH) (n : Nat) : Option zC := match st with
  | .ref x :: r => zsto pc len lst r h n (.ref x)
  | .null :: r => zsto pc len lst r h n .null
  | _ => none
def zstd (pc len : Nat) (lst : List Value) (st : List Value) (h : zH) (n : Nat) : Option zC := match st with
  | .double x :: r => zstoD pc len lst r h n (.double x)
  | _ => none
def zicmp (c : Jvm.ClassFile.Cond) (pc : Nat) (lst r : List Value) (h : zH) (off : Int) (x y : Int32) : Option zC := match c with
  | .eq => zif pc lst r h off (x = y)
  | .ne => zif pc lst r h off (¬ x = y)
  | .lt => zif pc lst r h off (x < y)
  | .ge => zif pc lst r h off (y ≤ x)
  | .gt => zif pc lst r h off (y < x)
  | .le => zif pc lst r h off (x ≤ y)
/-- two rows of 420 numbers that are the same -/
def zeqr (h : zH) (a b : Nat) : Bool := match h.1[a]?, h.1[b]? with
  | some (.inr (.int, n, _)), some (.inr (.int, m, _)) => Nat.beq n 420 && Nat.beq m 420 && (List.range 420).all (fun j => h.2 a j == h.2 b j)
  | _, _ => false
def zlib (M : zMt) (pc : Nat) (lst st : List Value) (h : zH) (kind : Nat) : Option zC :=
  if 1 ≤ M.2.2.2.2.2.1 then
    match kind, st with
    | 5, .int y :: .int x :: r => if zwd r ≤ 8 then some (pc + 3, lst, .int (if x < y then y else x) :: r, h) else none
    | 6, .int y :: .int x :: r => if zwd r ≤ 8 then some (pc + 3, lst, .int (if y < x then y else x) :: r, h) else none
    | 7, .int n :: .int dp :: .ref a1 :: .int sp :: .ref a0 :: r => if zwd r ≤ 8 then zhset (pc + 3) lst r (zcpy M h a0 sp a1 dp n) else none
    | 8, .ref _ :: r => if zwd r ≤ 8 then some (pc + 3, lst, r, h) else none
    | 9, .ref b :: .ref a :: r => if zwd r ≤ 8 ∧ 6 ≤ M.2.2.2.2.2.1 ∧ zeqr h a b = true then some (pc + 3, lst, .int 1 :: r, h) else none
    | _, _ => none
  else none
def zlibk (M : zMt) (pc : Nat) (lst st : List Value) (h : zH) (idx : Nat) : Option zC := match zlk zLL (M.1 * 65536 + idx) with
  | some q => zlib M pc lst st h q.1
  | none => none
/-- numbers alone: no heap, no locals -/
def znum (i : Instr) (st : List Value) : Option (List Value) := match i, st with
  | .aconst_null, r => some (.null :: r)
  | .iconst n, r => some (.int (Int32.ofInt n) :: r)
  | .iadd, .int y :: .int x :: r => some (.int (x + y) :: r)
  | .isub, .int y :: .int x :: r => some (.int (x - y) :: r)
  | .imul, .int y :: .int x :: r => some (.int (x * y) :: r)
  | .iand, .int y :: .int x :: r => some (.int (x &&& y) :: r)
  | .ior, .int y :: .int x :: r => some (.int (x ||| y) :: r)
  | .ishl, .int y :: .int x :: r => some (.int (x <<< (y &&& 31)) :: r)
  | .ishr, .int y :: .int x :: r => some (.int (x >>> (y &&& 31)) :: r)
  | .idiv, .int y :: .int x :: r => if ¬ y = 0 then some (.int (x / y) :: r) else none
  | .iushr, .int y :: .int x :: r => some (.int (x.toUInt32 >>> (y.toUInt32 &&& Int32.toUInt32 31)).toInt32 :: r)
  | .fcmp op, .float y :: .float x :: r => some (.int (Op.cmpValue (FP.fcmp x y) op) :: r)
  | .irem, .int y :: .int x :: r => if ¬ y = 0 then some (.int (x - x / y * y) :: r) else none
  | .i2b, .int x :: r => some (.int x.toInt8.toInt32 :: r)
  | .i2c, .int x :: r => some (.int (x.toUInt32 % 65536).toInt32 :: r)
  | .i2d, .int x :: r => some (.double (FP.i2d x) :: r)
  | .i2f, .int x :: r => some (.float (FP.i2f x) :: r)
  | .f2d, .float x :: r => if FP.f2d x &&& 0x7fffffffffffffff ≤ 0x7ff0000000000000 then some (.double (FP.f2d x) :: r) else none
  | .fdiv, .float y :: .float x :: r => if FP.fdiv x y &&& 0x7fffffff ≤ 0x7f800000 then some (.float (FP.fdiv x y) :: r) else none
  | .ddiv, .double y :: .double x :: r => if FP.ddiv x y &&& 0x7fffffffffffffff ≤ 0x7ff0000000000000 then some (.double (FP.ddiv x y) :: r) else none
  | .dcmp op, .double y :: .double x :: r => some (.int (Op.cmpValue (FP.dcmp x y) op) :: r)
  | .dconst n, r => if (n : Nat) = 0 then some (.double 0 :: r) else none
  | .fconst n, r => if (n : Nat) = 0 then some (.float 0 :: r) else none
  | .dup, v :: r => if v.category = 1 then some (v :: v :: r) else none
  | .dup2, v :: w :: r => if v.category = 1 ∧ w.category = 1 then some (v :: w :: v :: w :: r) else none
  | .pop, v :: r => if v.category = 1 then some r else none
  | _, _ => none
def znumk (i : Instr) (pc : Nat) (lst st : List Value) (h : zH) : Option zC := match znum i st with
  | some r => some (pc + 1, lst, r, h)
  | none => none
def zsw (pc : Nat) (lst r : List Value) (h : zH) (off : Int) : Option zC := match zbr pc off with
  | some t => some (t, lst, r, h)
  | none => none
/-- one instruction that is no call and no return -/
def zst (M : zMt) (i : Instr) (len : Nat) (pc : Nat) (lst st : List Value) (h : zH) : Option zC := match i with
  | .bipush n => some (pc + 2, lst, .int (Int8.ofInt n).toInt32 :: st, h)
  | .sipush n => some (pc + 3, lst, .int (Int16.ofInt n).toInt32 :: st, h)
  | .ldc idx => (match zlk zSL (M.1 * 65536 + idx) with
    | some j => some (pc + 2, lst, .ref (1000000 + j) :: st, h)
    | none => (match zlk zIL (M.1 * 65536 + idx) with
      | some q => some (pc + 2, lst, .int q.1 :: st, h)
      | none => none))
  | .iload_n n => zldi pc 1 lst st h n
  | .iload n => zldi pc 2 lst st h n
  | .dload_n n => zldd pc 1 lst st h n
  | .dload n => zldd pc 2 lst st h n
  | .aload_n n => zlda pc 1 lst st h n
  | .aload n => zlda pc 2 lst st h n
  | .istore_n n => zsti pc 1 lst st h n
  | .istore n => zsti pc 2 lst st h n
  | .astore_n n => zsta pc 1 lst st h n
  | .astore n => zsta pc 2 lst st h n
  | .dstore_n n => zstd pc 1 lst st h n
  | .dstore n => zstd pc 2 lst st h n
  | .iinc n k => (match lst[n]? with
    | some (.int x) => zsto pc len lst st h n (.int (x + Int32.ofInt k))
    | _ => none)
  | .goto off => zsw pc lst st h off
  | .ifCond c off => (match st with
    | .int x :: r => zicmp c pc lst r h off x 0
    | _ => none)
  | .if_icmp c off => (match st with
    | .int y :: .int x :: r => zicmp c pc lst r h off x y
    | _ => none)
  | .ifnull off => (match st with
    | .ref _ :: r => some (pc + 3, lst, r, h)
    | .null :: r => zsw pc lst r h off
    | _ => none)
  | .tableswitch d lo hi offs => (match st with
    | .int x :: r => if x.toInt < lo ∨ hi < x.toInt then zsw pc lst r h d else (match offs[(x.toInt - lo).toNat]? with
      | some off => zsw pc lst r h off
      | none => none)
    | _ => none)
  | .lookupswitch d ps => (match st with
    | .int x :: r => zsw pc lst r h (Op.lookupswitch.offset ps.toList d x.toInt)
    | _ => none)
  | .getstatic idx => (match zlk zGS (M.1 * 65536 + idx) with
    | some q => if q.1 = 0 then some (pc + 3, lst, .int 1 :: st, h) else some (pc + 3, lst, (if h.2 2000002 0 = 0 then Value.null else .ref 1002000) :: st, h)
    | none => none)
  | .getfield idx => (match st with
    | .ref r :: rest => (match zlk zFL (M.1 * 65536 + idx) with
      | some q => zpush (pc + 3) lst rest h (zgf h r q.1 q.2.1)
      | none => none)
    | _ => none)
  | .putfield idx => (match st with
    | v :: .ref r :: rest => (match zlk zFL (M.1 * 65536 + idx) with
      | some q => zhset (pc + 3) lst rest (zpf M h r q.1 q.2.1 v)
      | none => none)
    | _ => none)
  | .arraylength => (match st with
    | .ref r :: rest => (match zal M h r with
      | some x => some (pc + 1, lst, .int x :: rest, h)
      | none => none)
    | _ => none)
  | .iaload => (match st with
    | .int i :: .ref r :: rest => zpush (pc + 1) lst rest h (zia M h r i)
    | _ => none)
  | .caload => (match st with
    | .int i :: .ref r :: rest => zpush (pc + 1) lst rest h (zca h r i)
    | _ => none)
  | .baload => (match st with
    | .int i :: .ref r :: rest => zpush (pc + 1) lst rest h (zba r i)
    | _ => none)
  | .aaload => (match st with
    | .int i :: .ref r :: rest => zpush (pc + 1) lst rest h (zaa h r i)
    | _ => none)
  | .iastore => (match st with
    | .int x :: .int i :: .ref r :: rest => (match h.1[r]? with
      | some (.inr (.int, n, _)) => if zin i n = true then some (pc + 1, lst, rest, (h.1, zup h.2 r i.toNatClampNeg x)) else none
      | _ => none)
    | _ => none)
  | .castore => (match st with
    | .int x :: .int i :: .ref r :: rest => (match h.1[r]? with
      | some (.inr (.char, n, _)) => if zin i n = true then some (pc + 1, lst, rest, (h.1, zup h.2 r i.toNatClampNeg (vp_nar .char x))) else none
      | _ => none)
    | _ => none)
  | .aastore => (match st with
    | .ref v :: .int i :: .ref r :: rest => (match h.1[r]?, h.1[v]? with
      | some (.inr (.object C, n, refs)), some (.inl (ci, _)) => if zin i n = true ∧ refs.length = n ∧ ci < 9 ∧ C = zR ci then some (pc + 1, lst, rest, (h.1.set r (.inr (.object C, n, refs.set i.toNatClampNeg (some v))), h.2)) else none
      | _, _ => none)
    | _ => none)
  | .new idx => (match zlk zCC (M.1 * 65536 + idx) with
    | some q => (match znw h lst st (.inl (q.1, List.replicate (zNf q.1) none)) with
      | some h' => some (pc + 3, lst, .ref h.1.length :: st, h')
      | none => none)
    | none => none)
  | .newarray ty => (match st with
    | .int n :: rest => if ¬ n < 0 ∧ n.toNatClampNeg ≤ 100000 ∧ (ty = .int ∨ ty = .char) then (match znw h lst rest (.inr (newarray.typeOf ty, n.toNatClampNeg, [])) with
      | some h' => some (pc + 2, lst, .ref h.1.length :: rest, h')
      | none => none) else none
    | _ => none)
  | .anewarray idx => (match st with
    | .int n :: rest => (match zlk zCC (M.1 * 65536 + idx) with
      | some q => if ¬ n < 0 ∧ n.toNatClampNeg ≤ 100000 ∧ q.1 = 2 then (match znw h lst rest (.inr (.object (zR q.1), n.toNatClampNeg, List.replicate n.toNatClampNeg none)) with
        | some h' => some (pc + 3, lst, .ref h.1.length :: rest, h')
        | none => none) else none
      | none => none)
    | _ => none)
  | .invokestatic idx => zlibk M pc lst st h idx
  | .invokespecial idx => zlibk M pc lst st h idx
  | i => znumk i pc lst st h
/-- a call's kind and its method -/
def zcall (M : zMt) (i : Instr) : Option (Nat × Nat) := match i with
  | .invokevirtual idx => (match zlk zCL (M.1 * 65536 + idx) with
    | some q => if q.1 = 0 then some (0, q.2.1) else none
    | none => none)
  | .invokestatic idx => (match zlk zCL (M.1 * 65536 + idx) with
    | some q => if q.1 = 1 ∨ q.1 = 3 then some (q.1, q.2.1) else none
    | none => none)
  | .invokespecial idx => (match zlk zCL (M.1 * 65536 + idx) with
    | some q => if q.1 = 2 then some (2, q.2.1) else none
    | none => none)
  | _ => none
/-- a return -/
def zret (i : Instr) (ret : Option FieldType) (st : List Value) : Option (Option Value) := match i, ret, st with
  | .return_, none, [] => some none
  | .ireturn, some ty, [.int x] => if znr ty x = true then some (some (.int x)) else none
  | .freturn, some .float, [.float x] => some (some (.float x))
  | .dreturn, some .double, [.double x] => some (some (.double x))
  | .areturn, some (.object _), [.ref x] => some (some (.ref x))
  | .areturn, some (.array _), [.ref x] => some (some (.ref x))
  | _, _, _ => none
/-- the receiver of a virtual call is of the method's own class -/
def zrcv (h : zH) (ci : Nat) (as : List Value) : Bool := match as with
  | .ref b :: _ => if ci = 10 then Nat.ble 1000000 b && Nat.blt b (1000000 + zSb.length) else (match h.1[b]? with
    | some (.inl (c, _)) => Nat.beq c ci && Nat.blt ci 9
    | _ => false)
  | _ => false
def zcat1 (v : Value) : Bool := Nat.beq v.category 1
def zgrd (h h' : zH) (lst rest : List Value) : Bool :=
  decide (h.1 = h'.1) || (lst.all (zfr h.1.length h'.1.length) && rest.all (zfr h.1.length h'.1.length))
/-- may M call T with these arguments, these values beneath them? -/
def zmay (M T : zMt) (kd : Nat) (as rest : List Value) (h : zH) : Bool :=
  Nat.blt T.2.2.2.2.2.1 M.2.2.2.2.2.1 && Nat.beq as.length T.2.2.2.2.2.2.1 && Nat.ble as.length T.2.2.2.1 && as.all zcat1 && Nat.ble (zwd rest) 8 &&
  (match kd with
    | 0 => zrcv h T.1 as
    | 2 => (match as with | .ref _ :: _ => true | _ => false)
    | _ => true)
def zpad (n : Nat) (as : List Value) : List Value := as ++ List.replicate (n - as.length) (.retAddr 0)
def zrun : Nat → Nat → Nat → List Value → List Value → zH → Option (Option Value × zH)
  | 0, _, _, _, _, _ => none
  | n + 1, k, pc, lst, st, h => match zms[k]? with
    | none => none
    | some M => match zlk M.2.2.2.2.2.2.2 pc with
      | none => none
      | some (i, len) => match zcall M i with
        | some (kd, tg) => (match zms[tg]? with
          | none => none
          | some T => if zmay M T kd (st.take T.2.2.2.2.2.2.1).reverse (st.drop T.2.2.2.2.2.2.1) h = true then
              (match zrun n tg 0 (zpad T.2.2.2.1 (st.take T.2.2.2.2.2.2.1).reverse) [] h with
                | none => none
                | some (v, h') => if zgrd h h' lst (st.drop T.2.2.2.2.2.2.1) = true then zrun n k (pc + 3) lst (v.toList ++ st.drop T.2.2.2.2.2.2.1) h' else none)
            else none)
        | none => match zret i M.2.2.2.2.1 st with
          | some v => some (v, h)
          | none => match zst M i len pc lst st h with
            | none => none
            | some (pc', lst', st', h') => zrun n k pc' lst' st' h'
