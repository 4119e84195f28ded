/-! ===== the small machine: a computable reading of the bytecode over whole numbers ===== -/
-- a value: its tag (0 int, 1 long, 2 double's bits, 3 one of our cells or null, 4 an old int row, 5 a text, 6 another object, 7 nothing) and a number
abbrev mV : Type := Nat × Int
-- the cells: kind (a number of 'vwCl'; 100 int[], 101 long[], 102 byte[], 103 boolean[], 200 + number: rows of objects; below 0: none), length, the next cell (below 0: not known)
abbrev mG : Type := (Int → Int) × (Int → Int) × Int
-- what lies in cell a at place i
abbrev mD : Type := Int → Int → Int
-- pc, locals, stack, cells and slots made here, cells, contents
abbrev mSt : Type := Nat × List mV × List mV × Nat × Nat × mG × mD
abbrev mRes : Type := Option mV ⊕ Nat
abbrev mNx : Type := mSt ⊕ ((Prop × mSt) ⊕ ((Prop × List (Prop × mSt)) ⊕ ((Prop × Nat × List mV × mSt) ⊕ (Prop × mRes × mG × mD))))
-- lengths and contents of the old rows
abbrev mO : Type := (Int → Int) × (Int → Int → Int)
def mu : mV := (7, 0)
def mget : List mV → Nat → mV
  | [], _ => mu
  | v :: _, 0 => v
  | _ :: l, i + 1 => mget l i
def mc2 (v : mV) : Bool := Nat.beq v.1 1 || Nat.beq v.1 2
def mput1 : List mV → Nat → mV → List mV
  | [], _, _ => []
  | _ :: l, 0, v => v :: l
  | w :: l, 1, v => (bif mc2 w then mu else w) :: mput1 l 0 v
  | w :: l, i + 2, v => w :: mput1 l (i + 1) v
def mhead : List mV → List mV
  | [] => []
  | _ :: l => mu :: l
def mput2 : List mV → Nat → mV → List mV
  | [], _, _ => []
  | _ :: l, 0, v => v :: mhead l
  | w :: l, 1, v => (bif mc2 w then mu else w) :: mput2 l 0 v
  | w :: l, i + 2, v => w :: mput2 l (i + 1) v
def mInR (x : Int) : Prop := -2147483648 ≤ x ∧ x ≤ 2147483647
def mInL (x : Int) : Prop := -9223372036854775808 ≤ x ∧ x ≤ 9223372036854775807
def mset (d : mD) (a i v : Int) : mD := fun b j => if b = a ∧ j = i then v else d b j
def mfill (d : mD) (a v : Int) : mD := fun b j => if b = a then v else d b j
def mcopy (d : mD) (x sp y dp n : Int) : mD := fun b j => if b = y ∧ dp ≤ j ∧ j < dp + n then d x (sp + (j - dp)) else d b j
def mkind (f : Int → Int) (a v : Int) : Int → Int := fun b => if b = a then v else f b
def mcmp (x y : Int) : Int := if x < y then -1 else if x = y then 0 else 1
def mmax (x y : Int) : Int := if x < y then y else x
def mmin (x y : Int) : Int := if y < x then y else x
def mI (f : Int32 → Int32 → Int32) (x y : Int) : Int := (f (Int32.ofInt x) (Int32.ofInt y)).toInt
def mJ (f : Int64 → Int64 → Int64) (x y : Int) : Int := (f (Int64.ofInt x) (Int64.ofInt y)).toInt
def miand : Int → Int → Int := mI (fun x y => x &&& y)
def mior : Int → Int → Int := mI (fun x y => x ||| y)
def mixor : Int → Int → Int := mI (fun x y => x ^^^ y)
def mishl : Int → Int → Int := mI (fun x y => x <<< (y &&& 31))
def mishr : Int → Int → Int := mI (fun x y => x >>> (y &&& 31))
def miushr : Int → Int → Int := mI (fun x y => (x.toUInt32 >>> (y.toUInt32 &&& Int32.toUInt32 31)).toInt32)
def mland : Int → Int → Int := mJ (fun x y => x &&& y)
def mlor : Int → Int → Int := mJ (fun x y => x ||| y)
def mlxor : Int → Int → Int := mJ (fun x y => x ^^^ y)
def mlshl (x y : Int) : Int := (Int64.ofInt x <<< ((Int32.ofInt y).toInt64 &&& 63)).toInt
def mlushr (x y : Int) : Int := (((Int64.ofInt x).toUInt64 >>> ((Int32.ofInt y).toInt64.toUInt64 &&& 63))).toInt64.toInt
def mi2b (x : Int) : Int := (Int32.ofInt x).toInt8.toInt32.toInt
def ml2i (x : Int) : Int := (Int64.ofInt x).toInt32.toInt
def mbit (x : Int) : UInt64 := UInt64.ofNat x.toNat
def mof (x : UInt64) : Int := (x.toNat : Int)
def mi2d (x : Int) : Int := mof (FP.i2d (Int32.ofInt x))
def mddiv (x y : Int) : Int := mof (FP.ddiv (mbit x) (mbit y))
def mdcmp (op : CmpOp) (x y : Int) : Int := (Op.cmpValue (FP.dcmp (mbit x) (mbit y)) op).toInt
-- a condition on one or two numbers
def mcond : ClassFile.Cond → Int → Int → Prop
  | .eq, x, y => x = y
  | .ne, x, y => ¬ x = y
  | .lt, x, y => x < y
  | .ge, x, y => y ≤ x
  | .gt, x, y => y < x
  | .le, x, y => x ≤ y
def mncond : ClassFile.Cond → Int → Int → Prop
  | .eq, x, y => ¬ x = y
  | .ne, x, y => x = y
  | .lt, x, y => y ≤ x
  | .ge, x, y => x < y
  | .gt, x, y => x ≤ y
  | .le, x, y => y < x
/-! ===== one step of the small machine ===== -/
abbrev mK : Type := mRes → mG → mD → Prop
abbrev mgo (st : mSt) : mNx := .inl st
abbrev mif (p : Prop) (st : mSt) : mNx := .inr (.inl (p, st))
abbrev mbr (p : Prop) (bs : List (Prop × mSt)) : mNx := .inr (.inr (.inl (p, bs)))
abbrev mcal (p : Prop) (j : Nat) (as : List mV) (st : mSt) : mNx := .inr (.inr (.inr (.inl (p, j, as, st))))
abbrev mfin (p : Prop) (r : mRes) (G : mG) (d : mD) : mNx := .inr (.inr (.inr (.inr (p, r, G, d))))
abbrev mbad (G : mG) (d : mD) : mNx := mfin False (.inr 0) G d
def mpop : Nat → List mV → List mV → Option (List mV × List mV)
  | 0, S, as => some (as, S)
  | _ + 1, [], _ => none
  | n + 1, v :: S, as => mpop n S (v :: as)
def mcats : List mV → Nat
  | [] => 0
  | v :: S => (bif mc2 v then 2 else 1) + mcats S
def mlay : List mV → List mV
  | [] => []
  | v :: l => bif mc2 v then v :: mu :: mlay l else v :: mlay l
def mpad : Nat → List mV → List mV
  | 0, _ => []
  | n + 1, [] => mu :: mpad n []
  | n + 1, v :: l => v :: mpad n l
def mloc (j : Nat) (as : List mV) : List mV := mpad (mmaxL j) (mlay as)
-- the receiver is of the method's own kind
def mrecv (j : Nat) (as : List mV) (kd : Int → Int) : Prop := match mkd j with
  | 0 => True
  | _ => match as with
    | (3, a) :: _ => kd a = (mcl j : Int)
    | _ => False
def mroom (m j : Nat) : Bool := Nat.ble (mdep j + 1) (mdep m) && Nat.ble (8 + (mmaxL j + 11) + mneed j) (mneed m)
def mbud (m j : Nat) (as S : List mV) (c s : Nat) : Prop := mroom m j = true ∧ Nat.ble (mlay as).length (mmaxL j) = true ∧ mcats S ≤ 8 ∧ c + mmc j ≤ mmc m ∧ s + mms j ≤ mms m
-- room for the machine's own helpers
-- the texts: how long, their bytes
def tsl (k : Int) : Int := if k = 0 then 6 else if k = 1 then 6 else if k = 2 then 6 else if k = 3 then 4 else if k = 4 then 4 else if k = 5 then 5 else if k = 6 then 7 else 0
def tsc (k i : Int) : Int := if k = 0 then (if i = 0 then 98 else if i = 1 then 117 else if i = 2 then 114 else if i = 3 then 101 else if i = 4 then 97 else if i = 5 then 117 else 0) else if k = 1 then (if i = 0 then 111 else if i = 1 then 102 else if i = 2 then 102 else if i = 3 then 105 else if i = 4 then 99 else if i = 5 then 101 else 0) else if k = 2 then (if i = 0 then 112 else if i = 1 then 101 else if i = 2 then 114 else if i = 3 then 115 else if i = 4 then 111 else if i = 5 then 110 else 0) else if k = 3 then (if i = 0 then 106 else if i = 1 then 111 else if i = 2 then 105 else if i = 3 then 110 else 0) else if k = 4 then (if i = 0 then 112 else if i = 1 then 97 else if i = 2 then 115 else if i = 3 then 115 else 0) else if k = 5 then (if i = 0 then 99 else if i = 1 then 108 else if i = 2 then 97 else if i = 3 then 105 else if i = 4 then 109 else 0) else if k = 6 then (if i = 0 then 119 else if i = 1 then 105 else if i = 2 then 116 else if i = 3 then 110 else if i = 4 then 101 else if i = 5 then 115 else if i = 6 then 115 else 0) else 0
def mroomS (m : Nat) (S : List mV) : Prop := 4 ≤ mdep m ∧ mcats S ≤ 8 ∧ 85 ≤ mneed m
def mroomN (m : Nat) (S : List mV) (k : Nat) : Prop := 1 ≤ mdep m ∧ mcats S + k ≤ mneed m
def mroomT (m : Nat) (S : List mV) (c s : Nat) : Prop := 5 < mdep m ∧ mcats S + 82 ≤ mneed m ∧ c + 1 ≤ mmc m ∧ s + 6 ≤ mms m
def msw (x : Int) (pc : Nat → mSt) : Int → List Int → List (Prop × mSt)
  | _, [] => []
  | k, t :: ts => (x = k, pc t.toNat) :: msw x pc (k + 1) ts
-- what may be put into a field or a row of this type (0 int, 1 boolean, 2 byte, 3 long, 4 a reference)
def mfit (t : Nat) (v : mV) : Prop := match t with
  | 0 => v.1 = 0
  | 1 => v.1 = 0 ∧ (v.2 = 0 ∨ v.2 = 1)
  | 2 => v.1 = 0 ∧ -128 ≤ v.2 ∧ v.2 ≤ 127
  | 3 => v.1 = 1
  | _ => v.1 = 3
def mtag (t : Nat) : Nat := match t with
  | 0 => 0
  | 1 => 0
  | 2 => 0
  | 3 => 1
  | _ => 3
def mret1 (m : Nat) (v : Int) : Prop := match mret m with
  | 1 => True
  | 2 => v = 0 ∨ v = 1
  | _ => False
def mretk (m k : Nat) : Prop := mret m = k
def matyp : ArrayType → Int
  | .int => 100
  | .long => 101
  | .byte => 102
  | .boolean => 103
  | _ => 199
def mX (O : mO) (m len : Nat) (i : Instr) (pc : Nat) (L S : List mV) (c s : Nat) (G : mG) (d : mD) : mNx := match i with
  | .iconst n => mgo (pc + len, L, (0, n) :: S, c, s, G, d)
  | .bipush n => mgo (pc + len, L, (0, n) :: S, c, s, G, d)
  | .sipush n => mgo (pc + len, L, (0, n) :: S, c, s, G, d)
  | .lconst n => mgo (pc + len, L, (1, ((n : Nat) : Int)) :: S, c, s, G, d)
  | .jsr_w n => mgo (pc + len, L, (1, n) :: S, c, s, G, d)
  | .dconst _ => mgo (pc + len, L, (2, 0) :: S, c, s, G, d)
  | .ldc j => mgo (pc + len, L, (5, (j : Int)) :: S, c, s, G, d)
  | .getstatic j => mgo (pc + len, L, (4, (j : Int)) :: S, c, s, G, d)
  | .iload k => match mget L k with
    | (0, x) => mgo (pc + len, L, (0, x) :: S, c, s, G, d)
    | _ => mbad G d
  | .lload k => match mget L k with
    | (1, x) => mgo (pc + len, L, (1, x) :: S, c, s, G, d)
    | _ => mbad G d
  | .dload k => match mget L k with
    | (2, x) => mgo (pc + len, L, (2, x) :: S, c, s, G, d)
    | _ => mbad G d
  | .aload k => match mget L k with
    | (3, x) => mgo (pc + len, L, (3, x) :: S, c, s, G, d)
    | (4, x) => mgo (pc + len, L, (4, x) :: S, c, s, G, d)
    | (5, x) => mgo (pc + len, L, (5, x) :: S, c, s, G, d)
    | _ => mbad G d
  | .istore k => match S with
    | (0, x) :: S => mgo (pc + len, mput1 L k (0, x), S, c, s, G, d)
    | _ => mbad G d
  | .astore k => match S with
    | (3, x) :: S => mif (0 ≤ x) (pc + len, mput1 L k (3, x), S, c, s, G, d)
    | _ => mbad G d
  | .lstore k => match S with
    | (1, x) :: S => mgo (pc + len, mput2 L k (1, x), S, c, s, G, d)
    | _ => mbad G d
  | .dstore k => match S with
    | (2, x) :: S => mgo (pc + len, mput2 L k (2, x), S, c, s, G, d)
    | _ => mbad G d
  | .iinc k n => match mget L k with
    | (0, x) => mgo (pc + len, mput1 L k (0, x + n), S, c, s, G, d)
    | _ => mbad G d
  | .dup => match S with
    | (0, x) :: S => mgo (pc + 1, L, (0, x) :: (0, x) :: S, c, s, G, d)
    | (3, x) :: S => mgo (pc + 1, L, (3, x) :: (3, x) :: S, c, s, G, d)
    | _ => mbad G d
  | .dup2 => match S with
    | (0, y) :: (3, x) :: S => mgo (pc + 1, L, (0, y) :: (3, x) :: (0, y) :: (3, x) :: S, c, s, G, d)
    | _ => mbad G d
  | .pop => match S with
    | (0, _) :: S => mgo (pc + 1, L, S, c, s, G, d)
    | _ => mbad G d
  | .iadd => match S with
    | (0, y) :: (0, x) :: S => mgo (pc + 1, L, (0, x + y) :: S, c, s, G, d)
    | _ => mbad G d
  | .isub => match S with
    | (0, y) :: (0, x) :: S => mgo (pc + 1, L, (0, x - y) :: S, c, s, G, d)
    | _ => mbad G d
  | .imul => match S with
    | (0, y) :: (0, x) :: S => mgo (pc + 1, L, (0, x * y) :: S, c, s, G, d)
    | _ => mbad G d
  | .idiv => match S with
    | (0, y) :: (0, x) :: S => mif (0 ≤ x ∧ x ≤ 2147483647 ∧ 0 < y ∧ y ≤ 2147483647) (pc + 1, L, (0, x / y) :: S, c, s, G, d)
    | _ => mbad G d
  | .irem => match S with
    | (0, y) :: (0, x) :: S => mif (0 ≤ x ∧ x ≤ 2147483647 ∧ 0 < y ∧ y ≤ 2147483647) (pc + 1, L, (0, x % y) :: S, c, s, G, d)
    | _ => mbad G d
  | .iand => match S with
    | (0, y) :: (0, x) :: S => mgo (pc + 1, L, (0, miand x y) :: S, c, s, G, d)
    | _ => mbad G d
  | .ior => match S with
    | (0, y) :: (0, x) :: S => mgo (pc + 1, L, (0, mior x y) :: S, c, s, G, d)
    | _ => mbad G d
  | .ishl => match S with
    | (0, y) :: (0, x) :: S => mgo (pc + 1, L, (0, mishl x y) :: S, c, s, G, d)
    | _ => mbad G d
  | .ishr => match S with
    | (0, y) :: (0, x) :: S => mgo (pc + 1, L, (0, mishr x y) :: S, c, s, G, d)
    | _ => mbad G d
  | .iushr => match S with
    | (0, y) :: (0, x) :: S => mgo (pc + 1, L, (0, miushr x y) :: S, c, s, G, d)
    | _ => mbad G d
  | .i2b => match S with
    | (0, x) :: S => mgo (pc + 1, L, (0, mi2b x) :: S, c, s, G, d)
    | _ => mbad G d
  | .i2l => match S with
    | (0, x) :: S => mif (mInR x) (pc + 1, L, (1, x) :: S, c, s, G, d)
    | _ => mbad G d
  | .l2i => match S with
    | (1, x) :: S => mgo (pc + 1, L, (0, x) :: S, c, s, G, d)
    | _ => mbad G d
  | .i2d => match S with
    | (0, x) :: S => mgo (pc + 1, L, (2, mi2d x) :: S, c, s, G, d)
    | _ => mbad G d
  | .ladd => match S with
    | (1, y) :: (1, x) :: S => mgo (pc + 1, L, (1, x + y) :: S, c, s, G, d)
    | _ => mbad G d
  | .lsub => match S with
    | (1, y) :: (1, x) :: S => mgo (pc + 1, L, (1, x - y) :: S, c, s, G, d)
    | _ => mbad G d
  | .lmul => match S with
    | (1, y) :: (1, x) :: S => mgo (pc + 1, L, (1, x * y) :: S, c, s, G, d)
    | _ => mbad G d
  | .land => match S with
    | (1, y) :: (1, x) :: S => mgo (pc + 1, L, (1, mland x y) :: S, c, s, G, d)
    | _ => mbad G d
  | .lor => match S with
    | (1, y) :: (1, x) :: S => mgo (pc + 1, L, (1, mlor x y) :: S, c, s, G, d)
    | _ => mbad G d
  | .lxor => match S with
    | (1, y) :: (1, x) :: S => mgo (pc + 1, L, (1, mlxor x y) :: S, c, s, G, d)
    | _ => mbad G d
  | .lshl => match S with
    | (0, y) :: (1, x) :: S => mgo (pc + 1, L, (1, mlshl x y) :: S, c, s, G, d)
    | _ => mbad G d
  | .lushr => match S with
    | (0, y) :: (1, x) :: S => mgo (pc + 1, L, (1, mlushr x y) :: S, c, s, G, d)
    | _ => mbad G d
  | .lcmp => match S with
    | (1, y) :: (1, x) :: S => mif (mInL x ∧ mInL y) (pc + 1, L, (0, mcmp x y) :: S, c, s, G, d)
    | _ => mbad G d
  | .ddiv => match S with
    | (2, y) :: (2, x) :: S => mif (vf_n64 (FP.ddiv (mbit x) (mbit y))) (pc + 1, L, (2, mddiv x y) :: S, c, s, G, d)
    | _ => mbad G d
  | .dcmp op => match S with
    | (2, y) :: (2, x) :: S => mgo (pc + 1, L, (0, mdcmp op x y) :: S, c, s, G, d)
    | _ => mbad G d
  | .goto t => mgo (t.toNat, L, S, c, s, G, d)
  | .ifCond o t => match S with
    | (0, x) :: S => mbr (mInR x) [(mcond o x 0, t.toNat, L, S, c, s, G, d), (mncond o x 0, pc + 3, L, S, c, s, G, d)]
    | _ => mbad G d
  | .if_icmp o t => match S with
    | (0, y) :: (0, x) :: S => mbr (mInR x ∧ mInR y) [(mcond o x y, t.toNat, L, S, c, s, G, d), (mncond o x y, pc + 3, L, S, c, s, G, d)]
    | _ => mbad G d
  | .tableswitch t lo hi ts => match S with
    | (0, x) :: S => mbr (mInR x) (msw x (fun q => (q, L, S, c, s, G, d)) lo ts.toList ++ [(x < lo ∨ hi < x, t.toNat, L, S, c, s, G, d)])
    | _ => mbad G d
  | .getfield g => match S with
    | (3, a) :: S => mif (G.1 a = ((g / 32 : Nat) : Int)) (pc + 3, L, (mtag (mfty g), d a ((g % 32 : Nat) : Int)) :: S, c, s, G, d)
    | _ => mbad G d
  | .putfield g => match S with
    | v :: (3, a) :: S => mif (G.1 a = ((g / 32 : Nat) : Int) ∧ mfit (mfty g) v) (pc + 3, L, S, c, s, G, mset d a ((g % 32 : Nat) : Int) v.2)
    | _ => mbad G d
  | .arraylength => match S with
    | (4, k) :: S => mif (k = 2) (pc + 1, L, (0, O.1 k) :: S, c, s, G, d)
    | (3, a) :: S => mif (100 ≤ G.1 a) (pc + 1, L, (0, G.2.1 a) :: S, c, s, G, d)
    | _ => mbad G d
  | .iaload => match S with
    | (0, i) :: (3, a) :: S => mif (G.1 a = 100 ∧ 0 ≤ i ∧ i < G.2.1 a) (pc + 1, L, (0, d a i) :: S, c, s, G, d)
    | (0, i) :: (4, k) :: S => mif ((k = 0 ∨ k = 1 ∨ k = 2) ∧ 0 ≤ i ∧ i < O.1 k) (pc + 1, L, (0, O.2 k i) :: S, c, s, G, d)
    | _ => mbad G d
  | .laload => match S with
    | (0, i) :: (3, a) :: S => mif (G.1 a = 101 ∧ 0 ≤ i ∧ i < G.2.1 a) (pc + 1, L, (1, d a i) :: S, c, s, G, d)
    | _ => mbad G d
  | .baload => match S with
    | (0, i) :: (3, a) :: S => mif ((G.1 a = 102 ∨ G.1 a = 103) ∧ 0 ≤ i ∧ i < G.2.1 a) (pc + 1, L, (0, d a i) :: S, c, s, G, d)
    | _ => mbad G d
  | .aaload => match S with
    | (0, i) :: (3, a) :: S => mif (200 ≤ G.1 a ∧ 0 ≤ i ∧ i < G.2.1 a) (pc + 1, L, (3, d a i) :: S, c, s, G, d)
    | _ => mbad G d
  | .iastore => match S with
    | (0, v) :: (0, i) :: (3, a) :: S => mif (G.1 a = 100 ∧ 0 ≤ i ∧ i < G.2.1 a) (pc + 1, L, S, c, s, G, mset d a i v)
    | _ => mbad G d
  | .lastore => match S with
    | (1, v) :: (0, i) :: (3, a) :: S => mif (G.1 a = 101 ∧ 0 ≤ i ∧ i < G.2.1 a) (pc + 1, L, S, c, s, G, mset d a i v)
    | _ => mbad G d
  | .bastore => match S with
    | (0, v) :: (0, i) :: (3, a) :: S => mif (((G.1 a = 102 ∧ -128 ≤ v ∧ v ≤ 127) ∨ (G.1 a = 103 ∧ (v = 0 ∨ v = 1))) ∧ 0 ≤ i ∧ i < G.2.1 a) (pc + 1, L, S, c, s, G, mset d a i v)
    | _ => mbad G d
  | .aastore => match S with
    | (3, v) :: (0, i) :: (3, a) :: S => mif (200 ≤ G.1 a ∧ 0 ≤ v ∧ G.1 v = G.1 a - 200 ∧ 0 ≤ i ∧ i < G.2.1 a) (pc + 1, L, S, c, s, G, mset d a i v)
    | _ => mbad G d
  | .newarray t => match S with
    | (0, n) :: S => mif (0 ≤ n ∧ n ≤ 100000 ∧ 0 ≤ G.2.2 ∧ c + 1 ≤ mmc m ∧ s + n.toNat ≤ mms m ∧ matyp t ≠ 199) (pc + 2, L, (3, G.2.2) :: S, c + 1, s + n.toNat, (mkind G.1 G.2.2 (matyp t), mkind G.2.1 G.2.2 n, G.2.2 + 1), mfill d G.2.2 0)
    | _ => mbad G d
  | .anewarray k => match S with
    | (0, n) :: S => mif (0 ≤ n ∧ n ≤ 100000 ∧ 0 ≤ G.2.2 ∧ c + 1 ≤ mmc m ∧ s + n.toNat ≤ mms m) (pc + 3, L, (3, G.2.2) :: S, c + 1, s + n.toNat, (mkind G.1 G.2.2 (200 + (k : Int)), mkind G.2.1 G.2.2 n, G.2.2 + 1), mfill d G.2.2 (-1))
    | _ => mbad G d
  | .new k => mif (0 ≤ G.2.2 ∧ c + 1 ≤ mmc m ∧ s + mnf k ≤ mms m) (pc + 3, L, (3, G.2.2) :: S, c + 1, s + mnf k, (mkind G.1 G.2.2 (k : Int), mkind G.2.1 G.2.2 0, G.2.2 + 1), fun b j => if b = G.2.2 then (if mfty (32 * k + j.toNat) = 4 then -1 else 0) else d b j)
  | .checkcast e => mfin (mroomT m S c s) (.inr e) (G.1, G.2.1, -1) d
  | .invokestatic j => match mpop (mnp j) S [] with
    | some (as, S) => mcal (mbud m j as S c s ∧ mrecv j as G.1) j as (pc, L, S, c + mmc j, s + mms j, G, d)
    | none => mbad G d
  | .invokespecial j => match j, S with
    | 0, (3, a) :: S => mif (0 ≤ a ∧ mroomN m S 12) (pc + 3, L, S, c, s, G, d)
    | 1, (0, y) :: (0, x) :: S => mif (mInR x ∧ mInR y ∧ mroomN m S 13) (pc + 3, L, (0, mmax x y) :: S, c, s, G, d)
    | 2, (0, y) :: (0, x) :: S => mif (mInR x ∧ mInR y ∧ mroomN m S 13) (pc + 3, L, (0, mmin x y) :: S, c, s, G, d)
    | 3, (0, n) :: (0, dp) :: (3, y) :: (0, sp) :: (3, x) :: S => mif ((G.1 x = 100 ∨ G.1 x = 101) ∧ G.1 y = G.1 x ∧ 0 ≤ sp ∧ 0 ≤ dp ∧ 0 ≤ n ∧ n ≤ 100000 ∧ sp ≤ 100000 ∧ dp ≤ 100000 ∧ sp + n ≤ G.2.1 x ∧ dp + n ≤ G.2.1 y ∧ mroomN m S 18) (pc + 3, L, S, c, s, G, mcopy d x sp y dp n)
    | 4, (5, k) :: S => mif ((0 ≤ k ∧ k < 7) ∧ mroomS m S) (pc + 3, L, (0, tsl k) :: S, c, s, G, d)
    | 5, (0, i) :: (5, k) :: S => mif ((0 ≤ k ∧ k < 7 ∧ 0 ≤ i ∧ i < tsl k) ∧ mroomS m S) (pc + 3, L, (0, tsc k i) :: S, c, s, G, d)
    | _, _ => mbad G d
  | .ireturn => match S with
    | [(0, v)] => mfin (mret1 m v) (.inl (some (0, v))) G d
    | _ => mbad G d
  | .lreturn => match S with
    | [(1, v)] => mfin (mretk m 3) (.inl (some (1, v))) G d
    | _ => mbad G d
  | .dreturn => match S with
    | [(2, v)] => mfin (mretk m 4) (.inl (some (2, v))) G d
    | _ => mbad G d
  | .return_ => match S with
    | [] => mfin (mretk m 0) (.inl none) G d
    | _ => mbad G d
  | _ => mbad G d
def mall (B : mSt → Prop) : List (Prop × mSt) → Prop
  | [] => True
  | [(p, st)] => p → B st
  | (p, st) :: (q :: r) => (p → B st) ∧ mall B (q :: r)
def mnoh (m : Nat) : Bool := (mhh m).isEmpty
-- behind a call
def mback (m pc : Nat) (L S : List mV) (c s : Nat) (B : mSt → Prop) (K : mK) : mK := fun r G d => match r with
  | .inl (some v) => B (pc + 3, L, v :: S, c, s, G, d)
  | .inl none => B (pc + 3, L, S, c, s, G, d)
  | .inr e => match mhnd m pc e with
    | some n => mret1 m n ∧ K (.inl (some (0, n))) G d
    | none => mnoh m = true ∧ K (.inr e) G d
def mint (B : mSt → Prop) (C : Nat → List mV → mG → mD → mK → Prop) (m : Nat) (K : mK) : mNx → Prop
  | .inl st => B st
  | .inr (.inl (p, st)) => p ∧ B st
  | .inr (.inr (.inl (p, bs))) => p ∧ mall B bs
  | .inr (.inr (.inr (.inl (p, j, as, pc, L, S, c, s, G, d)))) => p ∧ C j as G d (mback m pc L S c s B K)
  | .inr (.inr (.inr (.inr (p, r, G, d)))) => p ∧ K r G d
abbrev mP : Type := Nat → mSt → mK → Prop
def ment (j : Nat) (as : List mV) (G : mG) (d : mD) : mSt := (0, mloc j as, [], 0, 0, G, d)
def mstp (O : mO) (B : mSt → Prop) (C : Nat → List mV → mG → mD → mK → Prop) (m : Nat) (K : mK) : mSt → Prop
  | (pc, L, S, c, s, G, d) => match mfetch m pc with
    | some (i, len) => mint B C m K (mX O m len i pc L S c s G d)
    | none => False
def mstep (O : mO) (P : mP) (m : Nat) (st : mSt) (K : mK) : Prop := mstp O (fun st => P m st K) (fun j as G d K' => P j (ment j as G d) K') m K st
-- a run comes to an end, with K
def mRun (O : mO) (m : Nat) (st : mSt) (K : mK) : Prop := ∀ P : mP, (∀ m st K, mstep O P m st K → P m st K) → P m st K
def mCall (O : mO) (j : Nat) (as : List mV) (G : mG) (d : mD) (K : mK) : Prop := mRun O j (ment j as G d) K
theorem mall_mono {B B' : mSt → Prop} (h : ∀ st, B st → B' st) : ∀ bs, mall B bs → mall B' bs
  | [], _ => trivial
  | [(_, _)], k => fun hp => h _ (k hp)
  | (_, _) :: (q :: r), k => ⟨fun hp => h _ (k.1 hp), mall_mono h (q :: r) k.2⟩
theorem mback_mono {m pc : Nat} {L S : List mV} {c s : Nat} {B B' : mSt → Prop} {K K' : mK} (h : ∀ st, B st → B' st) (hk : ∀ r G d, K r G d → K' r G d) : ∀ r G d, mback m pc L S c s B K r G d → mback m pc L S c s B' K' r G d := by
  intro r G d k
  match r with
  | .inl (some v) => exact h _ k
  | .inl none => exact h _ k
  | .inr e =>
    simp only [mback] at k ⊢
    split at k
    · exact ⟨k.1, hk _ _ _ k.2⟩
    · exact ⟨k.1, hk _ _ _ k.2⟩
theorem mint_mono {B B' : mSt → Prop} {C C' : Nat → List mV → mG → mD → mK → Prop} {m : Nat} {K K' : mK} (h : ∀ st, B st → B' st) (hk : ∀ r G d, K r G d → K' r G d)
    (hC : ∀ j as G d K1 K2, (∀ r G d, K1 r G d → K2 r G d) → C j as G d K1 → C' j as G d K2) : ∀ nx, mint B C m K nx → mint B' C' m K' nx := by
  intro nx k
  match nx with
  | .inl st => exact h _ k
  | .inr (.inl (p, st)) => exact ⟨k.1, h _ k.2⟩
  | .inr (.inr (.inl (p, bs))) => exact ⟨k.1, mall_mono h _ k.2⟩
  | .inr (.inr (.inr (.inl (p, j, as, pc, L, S, c, s, G, d)))) => exact ⟨k.1, hC _ _ _ _ _ _ (mback_mono h hk) k.2⟩
  | .inr (.inr (.inr (.inr (p, r, G, d)))) => exact ⟨k.1, hk _ _ _ k.2⟩
theorem mstp_mono {O : mO} {B B' : mSt → Prop} {C C' : Nat → List mV → mG → mD → mK → Prop} {m : Nat} {K K' : mK} (h : ∀ st, B st → B' st) (hk : ∀ r G d, K r G d → K' r G d)
    (hC : ∀ j as G d K1 K2, (∀ r G d, K1 r G d → K2 r G d) → C j as G d K1 → C' j as G d K2) : ∀ st, mstp O B C m K st → mstp O B' C' m K' st := by
  intro st k
  obtain ⟨pc, L, S, c, s, G, d⟩ := st
  simp only [mstp] at k ⊢
  split at k
  · exact mint_mono h hk hC _ k
  · exact k
theorem mRun_mono {O : mO} {m : Nat} {st : mSt} {K K' : mK} (h : mRun O m st K) (hk : ∀ r G d, K r G d → K' r G d) : mRun O m st K' := by
  intro P hP
  refine h (fun m st K => ∀ K' : mK, (∀ r G d, K r G d → K' r G d) → P m st K') ?_ K' hk
  intro m st K k K' hk
  refine hP _ _ _ ?_
  exact mstp_mono (fun st h => h K' hk) hk (fun j as G d K1 K2 h12 h => h K2 h12) st k
theorem mRun_in {O : mO} {m : Nat} {st : mSt} {K : mK} (h : mstp O (fun st => mRun O m st K) (fun j as G d K' => mCall O j as G d K') m K st) : mRun O m st K := by
  intro P hP
  refine hP _ _ _ ?_
  exact mstp_mono (B := fun st => mRun O m st K) (C := fun j as G d K' => mCall O j as G d K') (fun st h => h P hP) (fun _ _ _ h => h) (fun j as G d K1 K2 h12 h => mRun_mono h h12 P hP) st h
-- n steps at once
def mN (O : mO) (m : Nat) (K : mK) : Nat → mSt → Prop
  | 0, st => mRun O m st K
  | n + 1, st => mstp O (mN O m K n) (fun j as G d K' => mCall O j as G d K') m K st
theorem mN_run {O : mO} {m : Nat} {K : mK} : ∀ (n : Nat) (st : mSt), mN O m K n st → mRun O m st K
  | 0, _, h => h
  | n + 1, st, h => mRun_in (mstp_mono (B := mN O m K n) (C := fun j as G d K' => mCall O j as G d K') (fun st k => mN_run n st k) (fun _ _ _ k => k) (fun _ _ _ _ _ _ h12 k => mRun_mono k h12) st h)
/-! ===== what the small machine's things are in the machine ===== -/
-- where our cells begin, where the old rows lie, where the texts lie
abbrev mE : Type := Nat × (Nat → Nat) × (Nat → Nat)
def mslot (B t : Nat) (x : Int) : Value := match t with
  | 0 => .int (Int32.ofInt x)
  | 1 => .int (Int32.ofInt x)
  | 2 => .int (Int32.ofInt x)
  | 3 => .long (Int64.ofInt x)
  | _ => if x < 0 then .null else .ref (B + x.toNat)
def mval (E : mE) (v : mV) : Value := match v with
  | (0, x) => .int (Int32.ofInt x)
  | (1, x) => .long (Int64.ofInt x)
  | (2, x) => .double (mbit x)
  | (3, x) => if x < 0 then .null else .ref (E.1 + x.toNat)
  | (4, x) => .ref (E.2.1 x.toNat)
  | (5, x) => .ref (E.2.2 x.toNat)
  | _ => .null
def mety (k : Int) : Nat := if k = 101 then 3 else if 200 ≤ k then 4 else 0
def metyF (k : Int) : FieldType := if k = 100 then .int else if k = 101 then .long else if k = 102 then .byte else if k = 103 then .boolean else if k = 201 then .object "WaitingBureau$HourSet" else .object "WaitingBureau$State"
def mkinds : List Int := [100, 101, 102, 103, 201, 206]
def mtys (tc : Int → ClassId) : List (ClassId × FieldType) := mkinds.map (fun k => (tc k, metyF k))
abbrev mAr (E : mE) : Nat → Prop := fun q => E.1 ≤ q
abbrev mfun (E : mE) (c : Nat) (f : Int → Int) : Nat → Value := fun j => mslot E.1 (mfty (32 * c + j)) (f (j : Int))
abbrev mrow (E : mE) (k : Int) (f : Int → Int) : Nat → Value := fun j => mslot E.1 (mety k) (f (j : Int))
def mcellO (E : mE) (D : va_G) (a k : Int) (f : Int → Int) (H : Heap) : Prop := k < 12 ∧ t_OB (E.1 + a.toNat) (D.1 k.toNat) (mnf k.toNat) (D.2 k.toNat) H (mfun E k.toNat f)
def mcellA (E : mE) (tc : Int → ClassId) (a k n : Int) (f : Int → Int) (H : Heap) : Prop := k ∈ mkinds ∧ 0 ≤ n ∧ n ≤ 100000 ∧ H[E.1 + a.toNat]? = some (arrV (tc k) n.toNat (mrow E k f))
def mRep (E : mE) (D : va_G) (tc : Int → ClassId) (G : mG) (d : mD) (H : Heap) : Prop :=
  E.1 ≤ H.size ∧ (0 ≤ G.2.2 → H.size = E.1 + G.2.2.toNat) ∧ ∀ a, 0 ≤ G.1 a → 0 ≤ a ∧ (G.1 a < 100 → mcellO E D a (G.1 a) (d a) H) ∧ (100 ≤ G.1 a → mcellA E tc a (G.1 a) (G.2.1 a) (d a) H)
def mLoc (E : mE) (ls : Array Slot) (nL : Nat) (L : List mV) : Prop := ls.size = nL ∧ lv_wf ls ∧ L.length = nL ∧ ∀ i : Nat, (mget L i).1 < 6 → ls[i]? = some (.val (mval E (mget L i)))
abbrev mst (E : mE) (S : List mV) : List Value := S.map (mval E)
theorem mval_tag (E : mE) (t : Nat) (x : Int) : mval E (mtag t, x) = mslot E.1 t x := by
  match t with
  | 0 => rfl
  | 1 => rfl
  | 2 => rfl
  | 3 => rfl
  | _ + 4 => rfl
-- numbers
theorem m_toInt {x : Int} (h : mInR x) : (Int32.ofInt x).toInt = x := by
  unfold mInR at h
  rw [Int32.toInt_ofInt]
  have e : ((Int32.size : Nat) : Int) = 4294967296 := rfl
  exact Int.bmod_eq_of_le (by rw [e]; omega) (by rw [e]; omega)
theorem m_toIntL {x : Int} (h : mInL x) : (Int64.ofInt x).toInt = x := by
  unfold mInL at h
  rw [Int64.toInt_ofInt]
  have e : ((Int64.size : Nat) : Int) = 18446744073709551616 := rfl
  exact Int.bmod_eq_of_le (by rw [e]; omega) (by rw [e]; omega)
theorem m_lt {x y : Int} (hx : mInR x) (hy : mInR y) : Int32.ofInt x < Int32.ofInt y ↔ x < y := by
  rw [Int32.lt_iff_toInt_lt, m_toInt hx, m_toInt hy]
theorem m_le {x y : Int} (hx : mInR x) (hy : mInR y) : Int32.ofInt x ≤ Int32.ofInt y ↔ x ≤ y := by
  rw [Int32.le_iff_toInt_le, m_toInt hx, m_toInt hy]
theorem m_eq {x y : Int} (hx : mInR x) (hy : mInR y) : Int32.ofInt x = Int32.ofInt y ↔ x = y := by
  rw [← Int32.toInt_inj, m_toInt hx, m_toInt hy]
theorem m_nat {i : Int} (h0 : 0 ≤ i) (h1 : i ≤ 2147483647) : (Int32.ofInt i).toNatClampNeg = i.toNat := by
  show (Int32.ofInt i).toInt.toNat = i.toNat
  rw [m_toInt ⟨by omega, by omega⟩]
theorem m_nneg {i : Int} (h0 : 0 ≤ i) (h1 : i ≤ 2147483647) : ¬ Int32.ofInt i < 0 := by
  have h : ¬ Int32.ofInt i < Int32.ofInt 0 := by
    rw [m_lt ⟨by omega, by omega⟩ ⟨by omega, by omega⟩]; omega
  exact h
theorem m_in {i n : Int} (h0 : 0 ≤ i) (h1 : i < n) (hn : n ≤ 2147483647) : ¬ (Int32.ofInt i < 0 ∨ n.toNat ≤ (Int32.ofInt i).toNatClampNeg) := by
  rw [m_nat h0 (by omega)]
  intro h
  rcases h with h | h
  · exact m_nneg h0 (by omega) h
  · omega
theorem m_back (x : Int32) : Int32.ofInt x.toInt = x := Int32.ofInt_toInt x
theorem m_backL (x : Int64) : Int64.ofInt x.toInt = x := Int64.ofInt_toInt x
theorem m_nneg0 {y : Int} (h0 : 0 < y) (h1 : y ≤ 2147483647) : ¬ Int32.ofInt y = 0 := by
  have h : ¬ Int32.ofInt y = Int32.ofInt 0 := by
    rw [m_eq ⟨by omega, by omega⟩ ⟨by omega, by omega⟩]; omega
  exact h
theorem m_div {x y : Int} (hx : 0 ≤ x) (hx1 : x ≤ 2147483647) (hy : 0 < y) (hy1 : y ≤ 2147483647) : Int32.ofInt x / Int32.ofInt y = Int32.ofInt (x / y) := by
  rw [← Int32.toInt_inj, Int32.toInt_div, m_toInt ⟨by omega, by omega⟩, m_toInt ⟨by omega, by omega⟩, Int32.toInt_ofInt, Int.tdiv_eq_ediv_of_nonneg hx]
theorem m_rem {x y : Int} (hx : 0 ≤ x) (hx1 : x ≤ 2147483647) (hy : 0 < y) (hy1 : y ≤ 2147483647) : Int32.ofInt x - Int32.ofInt x / Int32.ofInt y * Int32.ofInt y = Int32.ofInt (x % y) := by
  rw [m_div hx hx1 hy hy1, ← Int32.ofInt_mul, ← Int32.ofInt_sub]
  congr 1
  rw [Int.emod_def, Int.mul_comm]
theorem m_i2l {x : Int} (h : mInR x) : (Int32.ofInt x).toInt64 = Int64.ofInt x := by
  rw [← Int64.toInt_inj, Int32.toInt_toInt64, m_toInt h, m_toIntL]
  unfold mInR at h
  exact ⟨by omega, by omega⟩
theorem m_l2i (x : Int) : (Int64.ofInt x).toInt32 = Int32.ofInt x := by
  rw [← Int32.toInt_inj, Int64.toInt_toInt32, Int64.toInt_ofInt, Int32.toInt_ofInt]
  exact Int.bmod_bmod_of_dvd (by decide)
-- locals
theorem mget_put1 : ∀ (L : List mV) (k : Nat) (v : mV) (i : Nat), k < L.length → mget (mput1 L k v) i = if i = k then v else if i + 1 = k ∧ mc2 (mget L i) = true then mu else mget L i
  | w :: l, 0, v, 0, _ => by simp [mput1, mget]
  | w :: l, 0, v, i + 1, _ => by simp [mput1, mget]
  | w :: l, 1, v, 0, h => by
    cases hc : mc2 w <;> simp [mput1, mget, hc]
  | w :: l, 1, v, i + 1, h => by
    have := mget_put1 l 0 v i (by simp at h ⊢; omega)
    simp only [mput1, mget, this]
    by_cases hi : i = 0
    · subst hi; simp
    · simp [hi]
  | w :: l, k + 2, v, 0, h => by simp [mput1, mget]
  | w :: l, k + 2, v, i + 1, h => by
    have := mget_put1 l (k + 1) v i (by simp at h ⊢; omega)
    simp only [mput1, mget, this]
    by_cases hi : i = k + 1
    · subst hi; simp
    · simp [hi]
theorem mput1_len : ∀ (L : List mV) (k : Nat) (v : mV), (mput1 L k v).length = L.length
  | [], _, _ => by simp [mput1]
  | _ :: l, 0, v => by simp [mput1]
  | w :: l, 1, v => by simp [mput1, mput1_len l 0 v]
  | w :: l, k + 2, v => by simp [mput1, mput1_len l (k + 1) v]
theorem mget_head : ∀ (L : List mV) (i : Nat), mget (mhead L) i = if i = 0 then mu else mget L i
  | [], i => by simp [mhead, mget]
  | _ :: l, 0 => by simp [mhead, mget]
  | _ :: l, i + 1 => by simp [mhead, mget]
theorem mhead_len (L : List mV) : (mhead L).length = L.length := by cases L <;> simp [mhead]
theorem mget_put2 : ∀ (L : List mV) (k : Nat) (v : mV) (i : Nat), k < L.length → mget (mput2 L k v) i = if i = k then v else if i = k + 1 then mu else if i + 1 = k ∧ mc2 (mget L i) = true then mu else mget L i
  | w :: l, 0, v, 0, _ => by simp [mput2, mget]
  | w :: l, 0, v, i + 1, _ => by simp [mput2, mget, mget_head]
  | w :: l, 1, v, 0, h => by
    cases hc : mc2 w <;> simp [mput2, mget, hc]
  | w :: l, 1, v, i + 1, h => by
    have := mget_put2 l 0 v i (by simp at h ⊢; omega)
    simp only [mput2, mget, this]
    by_cases hi : i = 0
    · subst hi; simp
    · simp [hi]
  | w :: l, k + 2, v, 0, h => by simp [mput2, mget]
  | w :: l, k + 2, v, i + 1, h => by
    have := mget_put2 l (k + 1) v i (by simp at h ⊢; omega)
    simp only [mput2, mget, this]
    by_cases hi : i = k + 1
    · subst hi; simp
    · simp [hi]
theorem mput2_len : ∀ (L : List mV) (k : Nat) (v : mV), (mput2 L k v).length = L.length
  | [], _, _ => by simp [mput2]
  | _ :: l, 0, v => by simp [mput2, mhead_len]
  | w :: l, 1, v => by simp [mput2, mput2_len l 0 v]
  | w :: l, k + 2, v => by simp [mput2, mput2_len l (k + 1) v]
/-! ===== one step of the machine for one of the small machine: what doesn't touch the cells ===== -/
def mRm (j : Nat) : Room := { frames := mdep j, cells := mmc j, slots := mms j, locals := mneed j }
theorem m_i8 {n : Int} (h1 : -128 ≤ n) (h2 : n ≤ 127) : (Int8.ofInt n).toInt32 = Int32.ofInt n := by
  rw [← Int32.toInt_inj, Int8.toInt_toInt32, m_toInt ⟨by omega, by omega⟩, Int8.toInt_ofInt]
  have e : ((Int8.size : Nat) : Int) = 256 := rfl
  exact Int.bmod_eq_of_le (by rw [e]; omega) (by rw [e]; omega)
theorem m_i16 {n : Int} (h1 : -32768 ≤ n) (h2 : n ≤ 32767) : (Int16.ofInt n).toInt32 = Int32.ofInt n := by
  rw [← Int32.toInt_inj, Int16.toInt_toInt32, m_toInt ⟨by omega, by omega⟩, Int16.toInt_ofInt]
  have e : ((Int16.size : Nat) : Int) = 65536 := rfl
  exact Int.bmod_eq_of_le (by rw [e]; omega) (by rw [e]; omega)
theorem m_lc (n : Fin 2) : Int64.ofNat (n : Nat) = Int64.ofInt ((n : Nat) : Int) := by
  match n with
  | ⟨0, _⟩ => rfl
  | ⟨1, _⟩ => rfl
theorem m_bit (x : UInt64) : mbit (mof x) = x := by
  unfold mbit mof
  simp
theorem m_cmp {x y : Int} (hx : mInL x) (hy : mInL y) : lg_cmp (Int64.ofInt x) (Int64.ofInt y) = Int32.ofInt (mcmp x y) := by
  unfold lg_cmp mcmp
  simp only [gt_iff_lt, Int64.lt_iff_toInt_lt, ← Int64.toInt_inj, m_toIntL hx, m_toIntL hy]
  by_cases h1 : x < y
  · rw [if_pos h1, if_neg (by omega), if_neg (by omega)]; rfl
  · by_cases h2 : x = y
    · rw [if_neg h1, if_pos h2, if_neg (by omega), if_pos h2]; rfl
    · rw [if_neg h1, if_pos (show y < x by omega), if_neg h2]; rfl
section SA
variable {p : Program} {l : Launch} {e : Env} {s : State} {mid : MethodId} {args : Array Value} {below : List Frame} {meth : Method} {c : Code} {Q : State → Prop}
variable {E : mE} {D : va_G} {tc : Int → ClassId} {O : mO} {j : Nat}
def mW (p : Program) (l : Launch) (e : Env) (s : State) (mid : MethodId) (args : Array Value) (below : List Frame) (meth : Method) (c : Code) (Q : State → Prop) (E : mE) (D : va_G) (tc : Int → ClassId) (j : Nat) : mSt → Prop
  | (pc, L, S, cs, ss, G, d) => ∀ (H : Heap) (locs : List Loc) (ls : Array Slot), mLoc E ls (mmaxL j) L → mRep E D tc G d H → va_S (mAr E) s.heap H locs → cs ≤ mmc j → ss ≤ mms j →
      W p l e (mRm j) s mid args below meth c H locs cs ss Q (F0 mid pc ls (mst E S))
variable {C : Nat → List mV → mG → mD → mK → Prop} {K : mK} {pc len : Nat} {L S : List mV} {cs ss : Nat} {G : mG} {d : mD}
theorem mW_go (hx : p.tables.exec = Jvm.exec) (hb : c.code = mb j) {st' : List mV} {pc' : Nat} (h : mW p l e s mid args below meth c Q E D tc j (pc', L, st', cs, ss, G, d))
    (k : ∀ (H : Heap) (locs : List Loc) (ls : Array Slot), mLoc E ls (mmaxL j) L → W p l e (mRm j) s mid args below meth c H locs cs ss Q (F0 mid pc' ls (mst E st')) → W p l e (mRm j) s mid args below meth c H locs cs ss Q (F0 mid pc ls (mst E S))) :
    mW p l e s mid args below meth c Q E D tc j (pc, L, S, cs, ss, G, d) := fun H locs ls hl hr hs h1 h2 => k H locs ls hl (h H locs ls hl hr hs h1 h2)

theorem s_iconst (hx : p.tables.exec = Jvm.exec) (hb : c.code = mb j) {n : Int} (hd : decode (mb j) pc = .ok (.iconst n, 1)) (h : mint (mW p l e s mid args below meth c Q E D tc j) C j K (mX O j 1 (.iconst n) pc L S cs ss G d)) : mW p l e s mid args below meth c Q E D tc j (pc, L, S, cs, ss, G, d) := by
  exact mW_go hx hb h (fun H locs ls hl k => lv_iconst hx hb hd rfl k)
theorem s_bipush (hx : p.tables.exec = Jvm.exec) (hb : c.code = mb j) {n : Int} (h1 : -128 ≤ n) (h2 : n ≤ 127) (hd : decode (mb j) pc = .ok (.bipush n, 2)) (h : mint (mW p l e s mid args below meth c Q E D tc j) C j K (mX O j 2 (.bipush n) pc L S cs ss G d)) : mW p l e s mid args below meth c Q E D tc j (pc, L, S, cs, ss, G, d) := by
  exact mW_go hx hb h (fun H locs ls hl k => lv_bipush (v := Int32.ofInt n) hx hb hd (m_i8 h1 h2) k)
theorem s_sipush (hx : p.tables.exec = Jvm.exec) (hb : c.code = mb j) {n : Int} (h1 : -32768 ≤ n) (h2 : n ≤ 32767) (hd : decode (mb j) pc = .ok (.sipush n, 3)) (h : mint (mW p l e s mid args below meth c Q E D tc j) C j K (mX O j 3 (.sipush n) pc L S cs ss G d)) : mW p l e s mid args below meth c Q E D tc j (pc, L, S, cs, ss, G, d) := by
  exact mW_go hx hb h (fun H locs ls hl k => lv_sipush (v := Int32.ofInt n) hx hb hd (m_i16 h1 h2) k)
theorem s_lconst (hx : p.tables.exec = Jvm.exec) (hb : c.code = mb j) {n : Fin 2} (hd : decode (mb j) pc = .ok (.lconst n, 1)) (h : mint (mW p l e s mid args below meth c Q E D tc j) C j K (mX O j 1 (.lconst n) pc L S cs ss G d)) : mW p l e s mid args below meth c Q E D tc j (pc, L, S, cs, ss, G, d) := by
  exact mW_go hx hb h (fun H locs ls hl k => lv_lconst hx hb hd (m_lc n) k)
theorem s_dconst (hx : p.tables.exec = Jvm.exec) (hb : c.code = mb j)  (hd : decode (mb j) pc = .ok (.dconst 0, 1)) (h : mint (mW p l e s mid args below meth c Q E D tc j) C j K (mX O j 1 (.dconst 0) pc L S cs ss G d)) : mW p l e s mid args below meth c Q E D tc j (pc, L, S, cs, ss, G, d) := by
  exact mW_go hx hb h (fun H locs ls hl k => lv_dconst0 hx hb hd k)
theorem s_iadd (hx : p.tables.exec = Jvm.exec) (hb : c.code = mb j)  (hd : decode (mb j) pc = .ok (.iadd, 1)) (h : mint (mW p l e s mid args below meth c Q E D tc j) C j K (mX O j 1 (.iadd) pc L S cs ss G d)) : mW p l e s mid args below meth c Q E D tc j (pc, L, S, cs, ss, G, d) := by
  simp only [mX] at h
  split at h
  · exact mW_go hx hb h (fun H locs ls hl k => lv_iadd hx hb hd (by have k := k; simp only [mst, List.map_cons, mval] at k ⊢; rw [← Int32.ofInt_add]; exact k))
  · exact absurd h.1 id
theorem s_isub (hx : p.tables.exec = Jvm.exec) (hb : c.code = mb j)  (hd : decode (mb j) pc = .ok (.isub, 1)) (h : mint (mW p l e s mid args below meth c Q E D tc j) C j K (mX O j 1 (.isub) pc L S cs ss G d)) : mW p l e s mid args below meth c Q E D tc j (pc, L, S, cs, ss, G, d) := by
  simp only [mX] at h
  split at h
  · exact mW_go hx hb h (fun H locs ls hl k => lv_isub hx hb hd (by have k := k; simp only [mst, List.map_cons, mval] at k ⊢; rw [← Int32.ofInt_sub]; exact k))
  · exact absurd h.1 id
theorem s_imul (hx : p.tables.exec = Jvm.exec) (hb : c.code = mb j)  (hd : decode (mb j) pc = .ok (.imul, 1)) (h : mint (mW p l e s mid args below meth c Q E D tc j) C j K (mX O j 1 (.imul) pc L S cs ss G d)) : mW p l e s mid args below meth c Q E D tc j (pc, L, S, cs, ss, G, d) := by
  simp only [mX] at h
  split at h
  · exact mW_go hx hb h (fun H locs ls hl k => lv_imul hx hb hd (by have k := k; simp only [mst, List.map_cons, mval] at k ⊢; rw [← Int32.ofInt_mul]; exact k))
  · exact absurd h.1 id
theorem s_ladd (hx : p.tables.exec = Jvm.exec) (hb : c.code = mb j)  (hd : decode (mb j) pc = .ok (.ladd, 1)) (h : mint (mW p l e s mid args below meth c Q E D tc j) C j K (mX O j 1 (.ladd) pc L S cs ss G d)) : mW p l e s mid args below meth c Q E D tc j (pc, L, S, cs, ss, G, d) := by
  simp only [mX] at h
  split at h
  · exact mW_go hx hb h (fun H locs ls hl k => lv_ladd hx hb hd (by have k := k; simp only [mst, List.map_cons, mval] at k ⊢; rw [← Int64.ofInt_add]; exact k))
  · exact absurd h.1 id
theorem s_lsub (hx : p.tables.exec = Jvm.exec) (hb : c.code = mb j)  (hd : decode (mb j) pc = .ok (.lsub, 1)) (h : mint (mW p l e s mid args below meth c Q E D tc j) C j K (mX O j 1 (.lsub) pc L S cs ss G d)) : mW p l e s mid args below meth c Q E D tc j (pc, L, S, cs, ss, G, d) := by
  simp only [mX] at h
  split at h
  · exact mW_go hx hb h (fun H locs ls hl k => lv_lsub hx hb hd (by have k := k; simp only [mst, List.map_cons, mval] at k ⊢; rw [← Int64.ofInt_sub]; exact k))
  · exact absurd h.1 id
theorem s_lmul (hx : p.tables.exec = Jvm.exec) (hb : c.code = mb j)  (hd : decode (mb j) pc = .ok (.lmul, 1)) (h : mint (mW p l e s mid args below meth c Q E D tc j) C j K (mX O j 1 (.lmul) pc L S cs ss G d)) : mW p l e s mid args below meth c Q E D tc j (pc, L, S, cs, ss, G, d) := by
  simp only [mX] at h
  split at h
  · exact mW_go hx hb h (fun H locs ls hl k => lv_lmul hx hb hd (by have k := k; simp only [mst, List.map_cons, mval] at k ⊢; rw [← Int64.ofInt_mul]; exact k))
  · exact absurd h.1 id
theorem s_iand (hx : p.tables.exec = Jvm.exec) (hb : c.code = mb j)  (hd : decode (mb j) pc = .ok (.iand, 1)) (h : mint (mW p l e s mid args below meth c Q E D tc j) C j K (mX O j 1 (.iand) pc L S cs ss G d)) : mW p l e s mid args below meth c Q E D tc j (pc, L, S, cs, ss, G, d) := by
  simp only [mX] at h
  split at h
  · exact mW_go hx hb h (fun H locs ls hl k => lv_iand hx hb hd (by have k := k; simp only [mst, List.map_cons, mval] at k ⊢; rw [show Int32.ofInt (miand _ _) = _ from m_back _] at k; exact k))
  · exact absurd h.1 id
theorem s_ior (hx : p.tables.exec = Jvm.exec) (hb : c.code = mb j)  (hd : decode (mb j) pc = .ok (.ior, 1)) (h : mint (mW p l e s mid args below meth c Q E D tc j) C j K (mX O j 1 (.ior) pc L S cs ss G d)) : mW p l e s mid args below meth c Q E D tc j (pc, L, S, cs, ss, G, d) := by
  simp only [mX] at h
  split at h
  · exact mW_go hx hb h (fun H locs ls hl k => lv_ior hx hb hd (by have k := k; simp only [mst, List.map_cons, mval] at k ⊢; rw [show Int32.ofInt (mior _ _) = _ from m_back _] at k; exact k))
  · exact absurd h.1 id
theorem s_ishl (hx : p.tables.exec = Jvm.exec) (hb : c.code = mb j)  (hd : decode (mb j) pc = .ok (.ishl, 1)) (h : mint (mW p l e s mid args below meth c Q E D tc j) C j K (mX O j 1 (.ishl) pc L S cs ss G d)) : mW p l e s mid args below meth c Q E D tc j (pc, L, S, cs, ss, G, d) := by
  simp only [mX] at h
  split at h
  · exact mW_go hx hb h (fun H locs ls hl k => lv_ishl hx hb hd (by have k := k; simp only [mst, List.map_cons, mval] at k ⊢; rw [show Int32.ofInt (mishl _ _) = _ from m_back _] at k; exact k))
  · exact absurd h.1 id
theorem s_ishr (hx : p.tables.exec = Jvm.exec) (hb : c.code = mb j)  (hd : decode (mb j) pc = .ok (.ishr, 1)) (h : mint (mW p l e s mid args below meth c Q E D tc j) C j K (mX O j 1 (.ishr) pc L S cs ss G d)) : mW p l e s mid args below meth c Q E D tc j (pc, L, S, cs, ss, G, d) := by
  simp only [mX] at h
  split at h
  · exact mW_go hx hb h (fun H locs ls hl k => lv_ishr hx hb hd (by have k := k; simp only [mst, List.map_cons, mval] at k ⊢; rw [show Int32.ofInt (mishr _ _) = _ from m_back _] at k; exact k))
  · exact absurd h.1 id
theorem s_land (hx : p.tables.exec = Jvm.exec) (hb : c.code = mb j)  (hd : decode (mb j) pc = .ok (.land, 1)) (h : mint (mW p l e s mid args below meth c Q E D tc j) C j K (mX O j 1 (.land) pc L S cs ss G d)) : mW p l e s mid args below meth c Q E D tc j (pc, L, S, cs, ss, G, d) := by
  simp only [mX] at h
  split at h
  · exact mW_go hx hb h (fun H locs ls hl k => lv_land hx hb hd (by have k := k; simp only [mst, List.map_cons, mval] at k ⊢; rw [show Int64.ofInt (mland _ _) = _ from m_backL _] at k; exact k))
  · exact absurd h.1 id
theorem s_lor (hx : p.tables.exec = Jvm.exec) (hb : c.code = mb j)  (hd : decode (mb j) pc = .ok (.lor, 1)) (h : mint (mW p l e s mid args below meth c Q E D tc j) C j K (mX O j 1 (.lor) pc L S cs ss G d)) : mW p l e s mid args below meth c Q E D tc j (pc, L, S, cs, ss, G, d) := by
  simp only [mX] at h
  split at h
  · exact mW_go hx hb h (fun H locs ls hl k => lv_lor hx hb hd (by have k := k; simp only [mst, List.map_cons, mval] at k ⊢; rw [show Int64.ofInt (mlor _ _) = _ from m_backL _] at k; exact k))
  · exact absurd h.1 id
theorem s_lxor (hx : p.tables.exec = Jvm.exec) (hb : c.code = mb j)  (hd : decode (mb j) pc = .ok (.lxor, 1)) (h : mint (mW p l e s mid args below meth c Q E D tc j) C j K (mX O j 1 (.lxor) pc L S cs ss G d)) : mW p l e s mid args below meth c Q E D tc j (pc, L, S, cs, ss, G, d) := by
  simp only [mX] at h
  split at h
  · exact mW_go hx hb h (fun H locs ls hl k => lv_lxor hx hb hd (by have k := k; simp only [mst, List.map_cons, mval] at k ⊢; rw [show Int64.ofInt (mlxor _ _) = _ from m_backL _] at k; exact k))
  · exact absurd h.1 id
theorem s_iushr (hx : p.tables.exec = Jvm.exec) (hb : c.code = mb j)  (hd : decode (mb j) pc = .ok (.iushr, 1)) (h : mint (mW p l e s mid args below meth c Q E D tc j) C j K (mX O j 1 (.iushr) pc L S cs ss G d)) : mW p l e s mid args below meth c Q E D tc j (pc, L, S, cs, ss, G, d) := by
  simp only [mX] at h
  split at h
  · exact mW_go hx hb h (fun H locs ls hl k => lv_iushr hx hb hd rfl (by simp only [mst, List.map_cons, mval] at k ⊢; rw [show Int32.ofInt (miushr _ _) = _ from m_back _] at k; exact k))
  · exact absurd h.1 id
theorem s_lushr (hx : p.tables.exec = Jvm.exec) (hb : c.code = mb j)  (hd : decode (mb j) pc = .ok (.lushr, 1)) (h : mint (mW p l e s mid args below meth c Q E D tc j) C j K (mX O j 1 (.lushr) pc L S cs ss G d)) : mW p l e s mid args below meth c Q E D tc j (pc, L, S, cs, ss, G, d) := by
  simp only [mX] at h
  split at h
  · exact mW_go hx hb h (fun H locs ls hl k => lv_lushr hx hb hd rfl (by simp only [mst, List.map_cons, mval] at k ⊢; rw [show Int64.ofInt (mlushr _ _) = _ from m_backL _] at k; exact k))
  · exact absurd h.1 id
theorem s_lshl (hx : p.tables.exec = Jvm.exec) (hb : c.code = mb j)  (hd : decode (mb j) pc = .ok (.lshl, 1)) (h : mint (mW p l e s mid args below meth c Q E D tc j) C j K (mX O j 1 (.lshl) pc L S cs ss G d)) : mW p l e s mid args below meth c Q E D tc j (pc, L, S, cs, ss, G, d) := by
  simp only [mX] at h
  split at h
  · exact mW_go hx hb h (fun H locs ls hl k => lv_lshl hx hb hd rfl (by simp only [mst, List.map_cons, mval] at k ⊢; rw [show Int64.ofInt (mlshl _ _) = _ from m_backL _] at k; exact k))
  · exact absurd h.1 id
theorem s_i2b (hx : p.tables.exec = Jvm.exec) (hb : c.code = mb j)  (hd : decode (mb j) pc = .ok (.i2b, 1)) (h : mint (mW p l e s mid args below meth c Q E D tc j) C j K (mX O j 1 (.i2b) pc L S cs ss G d)) : mW p l e s mid args below meth c Q E D tc j (pc, L, S, cs, ss, G, d) := by
  simp only [mX] at h
  split at h
  · exact mW_go hx hb h (fun H locs ls hl k => lv_i2b hx hb hd (m_back _).symm k)
  · exact absurd h.1 id
theorem s_l2i (hx : p.tables.exec = Jvm.exec) (hb : c.code = mb j)  (hd : decode (mb j) pc = .ok (.l2i, 1)) (h : mint (mW p l e s mid args below meth c Q E D tc j) C j K (mX O j 1 (.l2i) pc L S cs ss G d)) : mW p l e s mid args below meth c Q E D tc j (pc, L, S, cs, ss, G, d) := by
  simp only [mX] at h
  split at h
  · exact mW_go hx hb h (fun H locs ls hl k => lv_l2i hx hb hd (m_l2i _) k)
  · exact absurd h.1 id
theorem s_i2d (hx : p.tables.exec = Jvm.exec) (hb : c.code = mb j)  (hd : decode (mb j) pc = .ok (.i2d, 1)) (h : mint (mW p l e s mid args below meth c Q E D tc j) C j K (mX O j 1 (.i2d) pc L S cs ss G d)) : mW p l e s mid args below meth c Q E D tc j (pc, L, S, cs, ss, G, d) := by
  simp only [mX] at h
  split at h
  · exact mW_go hx hb h (fun H locs ls hl k => lv_i2d hx hb hd (by simp only [mst, List.map_cons, mval] at k ⊢; rw [show mbit (mi2d _) = _ from m_bit _] at k; exact k))
  · exact absurd h.1 id
theorem s_pop (hx : p.tables.exec = Jvm.exec) (hb : c.code = mb j)  (hd : decode (mb j) pc = .ok (.pop, 1)) (h : mint (mW p l e s mid args below meth c Q E D tc j) C j K (mX O j 1 (.pop) pc L S cs ss G d)) : mW p l e s mid args below meth c Q E D tc j (pc, L, S, cs, ss, G, d) := by
  simp only [mX] at h
  split at h
  · exact mW_go hx hb h (fun H locs ls hl k => lv_pop hx hb hd rfl k)
  · exact absurd h.1 id
theorem s_dup2 (hx : p.tables.exec = Jvm.exec) (hb : c.code = mb j)  (hd : decode (mb j) pc = .ok (.dup2, 1)) (h : mint (mW p l e s mid args below meth c Q E D tc j) C j K (mX O j 1 (.dup2) pc L S cs ss G d)) : mW p l e s mid args below meth c Q E D tc j (pc, L, S, cs, ss, G, d) := by
  simp only [mX] at h
  split at h
  · exact mW_go hx hb h (fun H locs ls hl k => lv_dup2_11 hx hb hd rfl (by simp only [mval]; split <;> rfl) k)
  · exact absurd h.1 id
theorem s_idiv (hx : p.tables.exec = Jvm.exec) (hb : c.code = mb j)  (hd : decode (mb j) pc = .ok (.idiv, 1)) (h : mint (mW p l e s mid args below meth c Q E D tc j) C j K (mX O j 1 (.idiv) pc L S cs ss G d)) : mW p l e s mid args below meth c Q E D tc j (pc, L, S, cs, ss, G, d) := by
  simp only [mX] at h
  split at h
  · obtain ⟨q, h⟩ := h
    exact mW_go hx hb h (fun H locs ls hl k => lv_idiv hx hb hd (m_nneg0 q.2.2.1 q.2.2.2) (by simp only [mst, List.map_cons, mval] at k ⊢; rw [m_div q.1 q.2.1 q.2.2.1 q.2.2.2]; exact k))
  · exact absurd h.1 id
theorem s_irem (hx : p.tables.exec = Jvm.exec) (hb : c.code = mb j)  (hd : decode (mb j) pc = .ok (.irem, 1)) (h : mint (mW p l e s mid args below meth c Q E D tc j) C j K (mX O j 1 (.irem) pc L S cs ss G d)) : mW p l e s mid args below meth c Q E D tc j (pc, L, S, cs, ss, G, d) := by
  simp only [mX] at h
  split at h
  · obtain ⟨q, h⟩ := h
    exact mW_go hx hb h (fun H locs ls hl k => lv_irem hx hb hd (m_nneg0 q.2.2.1 q.2.2.2) (by simp only [mst, List.map_cons, mval] at k ⊢; rw [m_rem q.1 q.2.1 q.2.2.1 q.2.2.2]; exact k))
  · exact absurd h.1 id
theorem s_i2l (hx : p.tables.exec = Jvm.exec) (hb : c.code = mb j)  (hd : decode (mb j) pc = .ok (.i2l, 1)) (h : mint (mW p l e s mid args below meth c Q E D tc j) C j K (mX O j 1 (.i2l) pc L S cs ss G d)) : mW p l e s mid args below meth c Q E D tc j (pc, L, S, cs, ss, G, d) := by
  simp only [mX] at h
  split at h
  · obtain ⟨q, h⟩ := h
    exact mW_go hx hb h (fun H locs ls hl k => lv_i2l hx hb hd (m_i2l q) k)
  · exact absurd h.1 id
theorem s_lcmp (hx : p.tables.exec = Jvm.exec) (hb : c.code = mb j)  (hd : decode (mb j) pc = .ok (.lcmp, 1)) (h : mint (mW p l e s mid args below meth c Q E D tc j) C j K (mX O j 1 (.lcmp) pc L S cs ss G d)) : mW p l e s mid args below meth c Q E D tc j (pc, L, S, cs, ss, G, d) := by
  simp only [mX] at h
  split at h
  · obtain ⟨q, h⟩ := h
    exact mW_go hx hb h (fun H locs ls hl k => W.lcmp hx hb hd (by simp only [mst, List.map_cons, mval] at k ⊢; rw [m_cmp q.1 q.2]; exact k))
  · exact absurd h.1 id
theorem s_ddiv (hx : p.tables.exec = Jvm.exec) (hb : c.code = mb j)  (hd : decode (mb j) pc = .ok (.ddiv, 1)) (h : mint (mW p l e s mid args below meth c Q E D tc j) C j K (mX O j 1 (.ddiv) pc L S cs ss G d)) : mW p l e s mid args below meth c Q E D tc j (pc, L, S, cs, ss, G, d) := by
  simp only [mX] at h
  split at h
  · obtain ⟨q, h⟩ := h
    exact mW_go hx hb h (fun H locs ls hl k => lv_ddiv hx hb hd q (by simp only [mst, List.map_cons, mval] at k ⊢; rw [show mbit (mddiv _ _) = _ from m_bit _] at k; exact k))
  · exact absurd h.1 id
theorem s_dcmp (hx : p.tables.exec = Jvm.exec) (hb : c.code = mb j) {op : CmpOp} (hd : decode (mb j) pc = .ok (.dcmp op, 1)) (h : mint (mW p l e s mid args below meth c Q E D tc j) C j K (mX O j 1 (.dcmp op) pc L S cs ss G d)) : mW p l e s mid args below meth c Q E D tc j (pc, L, S, cs, ss, G, d) := by
  simp only [mX] at h
  split at h
  · exact mW_go hx hb h (fun H locs ls hl k => lv_dcmp hx hb hd (by simp only [mst, List.map_cons, mval] at k ⊢; rw [show Int32.ofInt (mdcmp _ _ _) = _ from m_back _] at k; exact k))
  · exact absurd h.1 id
theorem s_dup (hx : p.tables.exec = Jvm.exec) (hb : c.code = mb j)  (hd : decode (mb j) pc = .ok (.dup, 1)) (h : mint (mW p l e s mid args below meth c Q E D tc j) C j K (mX O j 1 (.dup) pc L S cs ss G d)) : mW p l e s mid args below meth c Q E D tc j (pc, L, S, cs, ss, G, d) := by
  simp only [mX] at h
  split at h
  · exact mW_go hx hb h (fun H locs ls hl k => lv_dup hx hb hd rfl k)
  · exact mW_go hx hb h (fun H locs ls hl k => lv_dup hx hb hd (by simp only [mval]; split <;> rfl) k)
  · exact absurd h.1 id
theorem s_iload (hx : p.tables.exec = Jvm.exec) (hb : c.code = mb j) {n9 : Nat} (hd : decode (mb j) pc = .ok (.iload n9, 2)) (h : mint (mW p l e s mid args below meth c Q E D tc j) C j K (mX O j 2 (.iload n9) pc L S cs ss G d)) : mW p l e s mid args below meth c Q E D tc j (pc, L, S, cs, ss, G, d) := by
  simp only [mX] at h
  split at h
  · rename_i x hg
    exact mW_go hx hb h (fun H locs ls hl k => lv_iload hx hb hd (by have q := hl.2.2.2 n9 (by rw [hg]; exact Nat.le_of_ble_eq_true rfl); rw [hg] at q; exact q) k)
  · exact absurd h.1 id
theorem s_iload_n (hx : p.tables.exec = Jvm.exec) (hb : c.code = mb j) {n9 : Fin 4} (hd : decode (mb j) pc = .ok (.iload_n n9, 1)) (h : mint (mW p l e s mid args below meth c Q E D tc j) C j K (mX O j 1 (.iload (n9 : Nat)) pc L S cs ss G d)) : mW p l e s mid args below meth c Q E D tc j (pc, L, S, cs, ss, G, d) := by
  simp only [mX] at h
  split at h
  · rename_i x hg
    exact mW_go hx hb h (fun H locs ls hl k => lv_iload_n hx hb hd rfl (by have q := hl.2.2.2 n9 (by rw [hg]; exact Nat.le_of_ble_eq_true rfl); rw [hg] at q; exact q) k)
  · exact absurd h.1 id
theorem s_lload (hx : p.tables.exec = Jvm.exec) (hb : c.code = mb j) {n9 : Nat} (hd : decode (mb j) pc = .ok (.lload n9, 2)) (h : mint (mW p l e s mid args below meth c Q E D tc j) C j K (mX O j 2 (.lload n9) pc L S cs ss G d)) : mW p l e s mid args below meth c Q E D tc j (pc, L, S, cs, ss, G, d) := by
  simp only [mX] at h
  split at h
  · rename_i x hg
    exact mW_go hx hb h (fun H locs ls hl k => lv_lload hx hb hd (by have q := hl.2.2.2 n9 (by rw [hg]; exact Nat.le_of_ble_eq_true rfl); rw [hg] at q; exact q) k)
  · exact absurd h.1 id
theorem s_lload_n (hx : p.tables.exec = Jvm.exec) (hb : c.code = mb j) {n9 : Fin 4} (hd : decode (mb j) pc = .ok (.lload_n n9, 1)) (h : mint (mW p l e s mid args below meth c Q E D tc j) C j K (mX O j 1 (.lload (n9 : Nat)) pc L S cs ss G d)) : mW p l e s mid args below meth c Q E D tc j (pc, L, S, cs, ss, G, d) := by
  simp only [mX] at h
  split at h
  · rename_i x hg
    exact mW_go hx hb h (fun H locs ls hl k => lv_lload_n hx hb hd rfl (by have q := hl.2.2.2 n9 (by rw [hg]; exact Nat.le_of_ble_eq_true rfl); rw [hg] at q; exact q) k)
  · exact absurd h.1 id
theorem s_dload (hx : p.tables.exec = Jvm.exec) (hb : c.code = mb j) {n9 : Nat} (hd : decode (mb j) pc = .ok (.dload n9, 2)) (h : mint (mW p l e s mid args below meth c Q E D tc j) C j K (mX O j 2 (.dload n9) pc L S cs ss G d)) : mW p l e s mid args below meth c Q E D tc j (pc, L, S, cs, ss, G, d) := by
  simp only [mX] at h
  split at h
  · rename_i x hg
    exact mW_go hx hb h (fun H locs ls hl k => lv_dload hx hb hd (by have q := hl.2.2.2 n9 (by rw [hg]; exact Nat.le_of_ble_eq_true rfl); rw [hg] at q; exact q) k)
  · exact absurd h.1 id
theorem s_dload_n (hx : p.tables.exec = Jvm.exec) (hb : c.code = mb j) {n9 : Fin 4} (hd : decode (mb j) pc = .ok (.dload_n n9, 1)) (h : mint (mW p l e s mid args below meth c Q E D tc j) C j K (mX O j 1 (.dload (n9 : Nat)) pc L S cs ss G d)) : mW p l e s mid args below meth c Q E D tc j (pc, L, S, cs, ss, G, d) := by
  simp only [mX] at h
  split at h
  · rename_i x hg
    exact mW_go hx hb h (fun H locs ls hl k => lv_dload_n hx hb hd rfl (by have q := hl.2.2.2 n9 (by rw [hg]; exact Nat.le_of_ble_eq_true rfl); rw [hg] at q; exact q) k)
  · exact absurd h.1 id
theorem s_aload (hx : p.tables.exec = Jvm.exec) (hb : c.code = mb j) {n9 : Nat} (hd : decode (mb j) pc = .ok (.aload n9, 2)) (h : mint (mW p l e s mid args below meth c Q E D tc j) C j K (mX O j 2 (.aload n9) pc L S cs ss G d)) : mW p l e s mid args below meth c Q E D tc j (pc, L, S, cs, ss, G, d) := by
  simp only [mX] at h
  split at h
  · rename_i x hg
    refine mW_go hx hb h (fun H locs ls hl k => ?_)
    have q := hl.2.2.2 n9 (by rw [hg]; exact Nat.le_of_ble_eq_true rfl)
    rw [hg] at q
    simp only [mst, List.map_cons, mval] at k q ⊢
    by_cases h0 : x < 0
    · rw [if_pos h0] at k q
      exact lv_aloadN hx hb hd q k
    · rw [if_neg h0] at k q
      exact lv_aload hx hb hd q k
  · rename_i x hg
    exact mW_go hx hb h (fun H locs ls hl k => lv_aload hx hb hd (by have q := hl.2.2.2 n9 (by rw [hg]; exact Nat.le_of_ble_eq_true rfl); rw [hg] at q; exact q) k)
  · rename_i x hg
    exact mW_go hx hb h (fun H locs ls hl k => lv_aload hx hb hd (by have q := hl.2.2.2 n9 (by rw [hg]; exact Nat.le_of_ble_eq_true rfl); rw [hg] at q; exact q) k)
  · exact absurd h.1 id
theorem s_aload_n (hx : p.tables.exec = Jvm.exec) (hb : c.code = mb j) {n9 : Fin 4} (hd : decode (mb j) pc = .ok (.aload_n n9, 1)) (h : mint (mW p l e s mid args below meth c Q E D tc j) C j K (mX O j 1 (.aload (n9 : Nat)) pc L S cs ss G d)) : mW p l e s mid args below meth c Q E D tc j (pc, L, S, cs, ss, G, d) := by
  simp only [mX] at h
  split at h
  · rename_i x hg
    refine mW_go hx hb h (fun H locs ls hl k => ?_)
    have q := hl.2.2.2 n9 (by rw [hg]; exact Nat.le_of_ble_eq_true rfl)
    rw [hg] at q
    simp only [mst, List.map_cons, mval] at k q ⊢
    by_cases h0 : x < 0
    · rw [if_pos h0] at k q
      exact lv_aload_nN hx hb hd rfl q k
    · rw [if_neg h0] at k q
      exact lv_aload_n hx hb hd rfl q k
  · rename_i x hg
    exact mW_go hx hb h (fun H locs ls hl k => lv_aload_n hx hb hd rfl (by have q := hl.2.2.2 n9 (by rw [hg]; exact Nat.le_of_ble_eq_true rfl); rw [hg] at q; exact q) k)
  · rename_i x hg
    exact mW_go hx hb h (fun H locs ls hl k => lv_aload_n hx hb hd rfl (by have q := hl.2.2.2 n9 (by rw [hg]; exact Nat.le_of_ble_eq_true rfl); rw [hg] at q; exact q) k)
  · exact absurd h.1 id
end SA
/-! ===== locals that are written, branches ===== -/
def mlist (E : mE) (L : List mV) : List (Nat × Value) := (List.range L.length).filterMap (fun i => if (mget L i).1 < 6 then some (i, mval E (mget L i)) else none)
theorem mget_out : ∀ (L : List mV) (i : Nat), L.length ≤ i → mget L i = mu
  | [], _, _ => rfl
  | _ :: l, i + 1, h => mget_out l i (by simp at h; omega)
theorem mlist_mem {E : mE} {L : List mV} {i : Nat} (h : (mget L i).1 < 6) : (i, mval E (mget L i)) ∈ mlist E L := by
  refine List.mem_filterMap.mpr ⟨i, List.mem_range.mpr ?_, by rw [if_pos h]⟩
  rcases Nat.lt_or_ge i L.length with q | q
  · exact q
  · rw [mget_out L i q] at h
    exact absurd h (by decide)
theorem mLoc_has {E : mE} {ls : Array Slot} {nL : Nat} {L : List mV} (h : mLoc E ls nL L) : lv_has ls nL (mlist E L) := by
  refine ⟨h.1, h.2.1, fun q hq => ?_⟩
  obtain ⟨i, -, hi⟩ := List.mem_filterMap.mp hq
  split at hi
  · rename_i h6
    cases hi
    exact h.2.2.2 i h6
  · cases hi
theorem m_cat (E : mE) : ∀ (v : mV), v.1 < 6 → ((mval E v).category == 2) = mc2 v
  | (0, _), _ => rfl
  | (1, _), _ => rfl
  | (2, _), _ => rfl
  | (3, x), _ => by simp only [mval]; split <;> rfl
  | (4, _), _ => rfl
  | (5, _), _ => rfl
  | (n + 6, _), h => by have h : n + 6 < 6 := h; omega
theorem mLoc_put1 {E : mE} {ls' : Array Slot} {nL : Nat} {L : List mV} {k : Nat} {v : mV} (hl : L.length = nL) (hk : k < nL)
    (h : lv_has ls' nL ((k, mval E v) :: (mlist E L).filter (fun q => !(q.1 == k) && !(q.1 + 1 == k && q.2.category == 2)))) : mLoc E ls' nL (mput1 L k v) := by
  refine ⟨h.1, h.2.1, by rw [mput1_len]; exact hl, fun i hi => ?_⟩
  rw [mget_put1 L k v i (by omega)] at hi ⊢
  by_cases h1 : i = k
  · rw [if_pos h1] at hi ⊢
    rw [h1]
    exact h.2.2 _ List.mem_cons_self
  · rw [if_neg h1] at hi ⊢
    by_cases h2 : i + 1 = k ∧ mc2 (mget L i) = true
    · rw [if_pos h2] at hi
      exact absurd hi (by decide)
    · rw [if_neg h2] at hi ⊢
      refine h.2.2 (i, mval E (mget L i)) (List.mem_cons_of_mem _ (List.mem_filter.mpr ⟨mlist_mem hi, ?_⟩))
      simp only [m_cat E _ hi]
      simp [h1]
      by_cases h3 : i + 1 = k
      · right
        cases hc : mc2 (mget L i)
        · rfl
        · exact absurd ⟨h3, hc⟩ h2
      · exact Or.inl h3
theorem mLoc_put2 {E : mE} {ls' : Array Slot} {nL : Nat} {L : List mV} {k : Nat} {v : mV} (hl : L.length = nL) (hk : k < nL)
    (h : lv_has ls' nL ((k, mval E v) :: (mlist E L).filter (fun q => !(q.1 == k) && (!(q.1 == k + 1) && !(q.1 + 1 == k && q.2.category == 2))))) : mLoc E ls' nL (mput2 L k v) := by
  refine ⟨h.1, h.2.1, by rw [mput2_len]; exact hl, fun i hi => ?_⟩
  rw [mget_put2 L k v i (by omega)] at hi ⊢
  by_cases h1 : i = k
  · rw [if_pos h1] at hi ⊢
    rw [h1]
    exact h.2.2 _ List.mem_cons_self
  · rw [if_neg h1] at hi ⊢
    by_cases h4 : i = k + 1
    · rw [if_pos h4] at hi
      exact absurd hi (by decide)
    · rw [if_neg h4] at hi ⊢
      by_cases h2 : i + 1 = k ∧ mc2 (mget L i) = true
      · rw [if_pos h2] at hi
        exact absurd hi (by decide)
      · rw [if_neg h2] at hi ⊢
        refine h.2.2 (i, mval E (mget L i)) (List.mem_cons_of_mem _ (List.mem_filter.mpr ⟨mlist_mem hi, ?_⟩))
        simp only [m_cat E _ hi]
        simp [h1, h4]
        by_cases h3 : i + 1 = k
        · right
          cases hc : mc2 (mget L i)
          · rfl
          · exact absurd ⟨h3, hc⟩ h2
        · exact Or.inl h3
section SB
variable {p : Program} {l : Launch} {e : Env} {s : State} {mid : MethodId} {args : Array Value} {below : List Frame} {meth : Method} {c : Code} {Q : State → Prop}
variable {E : mE} {D : va_G} {tc : Int → ClassId} {O : mO} {j : Nat}
variable {C : Nat → List mV → mG → mD → mK → Prop} {K : mK} {pc len : Nat} {L S : List mV} {cs ss : Nat} {G : mG} {d : mD}

theorem s_istore (hx : p.tables.exec = Jvm.exec) (hb : c.code = mb j) {n9 : Nat} (hk : (n9 : Nat) < mmaxL j) (hd : decode (mb j) pc = .ok (.istore n9, 2)) (h : mint (mW p l e s mid args below meth c Q E D tc j) C j K (mX O j 2 (.istore n9) pc L S cs ss G d)) : mW p l e s mid args below meth c Q E D tc j (pc, L, S, cs, ss, G, d) := by
  simp only [mX] at h
  split at h
  · intro H locs ls hl hr hs h1 h2
    exact lv_istore hx hb hd (mLoc_has hl) hk rfl (fun ls' hl' => h H locs ls' (mLoc_put1 hl.2.2.1 (by omega) hl') hr hs h1 h2)
  · exact absurd h.1 id
theorem s_istore_n (hx : p.tables.exec = Jvm.exec) (hb : c.code = mb j) {n9 : Fin 4} (hk : (n9 : Nat) < mmaxL j) (hd : decode (mb j) pc = .ok (.istore_n n9, 1)) (h : mint (mW p l e s mid args below meth c Q E D tc j) C j K (mX O j 1 (.istore (n9 : Nat)) pc L S cs ss G d)) : mW p l e s mid args below meth c Q E D tc j (pc, L, S, cs, ss, G, d) := by
  simp only [mX] at h
  split at h
  · intro H locs ls hl hr hs h1 h2
    exact lv_istore_n hx hb hd rfl (mLoc_has hl) hk rfl (fun ls' hl' => h H locs ls' (mLoc_put1 hl.2.2.1 (by omega) hl') hr hs h1 h2)
  · exact absurd h.1 id
theorem s_lstore (hx : p.tables.exec = Jvm.exec) (hb : c.code = mb j) {n9 : Nat} (hk : (n9 : Nat) + 1 < mmaxL j) (hd : decode (mb j) pc = .ok (.lstore n9, 2)) (h : mint (mW p l e s mid args below meth c Q E D tc j) C j K (mX O j 2 (.lstore n9) pc L S cs ss G d)) : mW p l e s mid args below meth c Q E D tc j (pc, L, S, cs, ss, G, d) := by
  simp only [mX] at h
  split at h
  · intro H locs ls hl hr hs h1 h2
    exact lv_lstore hx hb hd (mLoc_has hl) hk rfl (fun ls' hl' => h H locs ls' (mLoc_put2 hl.2.2.1 (by omega) hl') hr hs h1 h2)
  · exact absurd h.1 id
theorem s_lstore_n (hx : p.tables.exec = Jvm.exec) (hb : c.code = mb j) {n9 : Fin 4} (hk : (n9 : Nat) + 1 < mmaxL j) (hd : decode (mb j) pc = .ok (.lstore_n n9, 1)) (h : mint (mW p l e s mid args below meth c Q E D tc j) C j K (mX O j 1 (.lstore (n9 : Nat)) pc L S cs ss G d)) : mW p l e s mid args below meth c Q E D tc j (pc, L, S, cs, ss, G, d) := by
  simp only [mX] at h
  split at h
  · intro H locs ls hl hr hs h1 h2
    exact lv_lstore_n hx hb hd rfl (mLoc_has hl) hk rfl (fun ls' hl' => h H locs ls' (mLoc_put2 hl.2.2.1 (by omega) hl') hr hs h1 h2)
  · exact absurd h.1 id
theorem s_dstore (hx : p.tables.exec = Jvm.exec) (hb : c.code = mb j) {n9 : Nat} (hk : (n9 : Nat) + 1 < mmaxL j) (hd : decode (mb j) pc = .ok (.dstore n9, 2)) (h : mint (mW p l e s mid args below meth c Q E D tc j) C j K (mX O j 2 (.dstore n9) pc L S cs ss G d)) : mW p l e s mid args below meth c Q E D tc j (pc, L, S, cs, ss, G, d) := by
  simp only [mX] at h
  split at h
  · intro H locs ls hl hr hs h1 h2
    exact lv_dstore hx hb hd (mLoc_has hl) hk rfl (fun ls' hl' => h H locs ls' (mLoc_put2 hl.2.2.1 (by omega) hl') hr hs h1 h2)
  · exact absurd h.1 id
theorem s_dstore_n (hx : p.tables.exec = Jvm.exec) (hb : c.code = mb j) {n9 : Fin 4} (hk : (n9 : Nat) + 1 < mmaxL j) (hd : decode (mb j) pc = .ok (.dstore_n n9, 1)) (h : mint (mW p l e s mid args below meth c Q E D tc j) C j K (mX O j 1 (.dstore (n9 : Nat)) pc L S cs ss G d)) : mW p l e s mid args below meth c Q E D tc j (pc, L, S, cs, ss, G, d) := by
  simp only [mX] at h
  split at h
  · intro H locs ls hl hr hs h1 h2
    exact lv_dstore_n hx hb hd rfl (mLoc_has hl) hk rfl (fun ls' hl' => h H locs ls' (mLoc_put2 hl.2.2.1 (by omega) hl') hr hs h1 h2)
  · exact absurd h.1 id
theorem s_astore (hx : p.tables.exec = Jvm.exec) (hb : c.code = mb j) {n9 : Nat} (hk : (n9 : Nat) < mmaxL j) (hd : decode (mb j) pc = .ok (.astore n9, 2)) (h : mint (mW p l e s mid args below meth c Q E D tc j) C j K (mX O j 2 (.astore n9) pc L S cs ss G d)) : mW p l e s mid args below meth c Q E D tc j (pc, L, S, cs, ss, G, d) := by
  simp only [mX] at h
  split at h
  · rename_i x S'
    obtain ⟨q, h⟩ := h
    intro H locs ls hl hr hs h1 h2
    have e1 : mval E (3, x) = .ref (E.1 + x.toNat) := by simp only [mval]; rw [if_neg (by omega)]
    have e2 : mst E ((3, x) :: S') = .ref (E.1 + x.toNat) :: mst E S' := by simp only [mst, List.map_cons, e1]
    rw [e2]
    refine lv_astore hx hb hd (mLoc_has hl) hk rfl (fun ls' hl' => h H locs ls' (mLoc_put1 hl.2.2.1 (by omega) ?_) hr hs h1 h2)
    rw [e1]
    exact hl'
  · exact absurd h.1 id
theorem s_astore_n (hx : p.tables.exec = Jvm.exec) (hb : c.code = mb j) {n9 : Fin 4} (hk : (n9 : Nat) < mmaxL j) (hd : decode (mb j) pc = .ok (.astore_n n9, 1)) (h : mint (mW p l e s mid args below meth c Q E D tc j) C j K (mX O j 1 (.astore (n9 : Nat)) pc L S cs ss G d)) : mW p l e s mid args below meth c Q E D tc j (pc, L, S, cs, ss, G, d) := by
  simp only [mX] at h
  split at h
  · rename_i x S'
    obtain ⟨q, h⟩ := h
    intro H locs ls hl hr hs h1 h2
    have e1 : mval E (3, x) = .ref (E.1 + x.toNat) := by simp only [mval]; rw [if_neg (by omega)]
    have e2 : mst E ((3, x) :: S') = .ref (E.1 + x.toNat) :: mst E S' := by simp only [mst, List.map_cons, e1]
    rw [e2]
    refine lv_astore_n hx hb hd rfl (mLoc_has hl) hk rfl (fun ls' hl' => h H locs ls' (mLoc_put1 hl.2.2.1 (by omega) ?_) hr hs h1 h2)
    rw [e1]
    exact hl'
  · exact absurd h.1 id
theorem s_iinc (hx : p.tables.exec = Jvm.exec) (hb : c.code = mb j) {n9 : Nat} {n : Int} (hk : n9 < mmaxL j) (hd : decode (mb j) pc = .ok (.iinc n9 n, 3)) (h : mint (mW p l e s mid args below meth c Q E D tc j) C j K (mX O j 3 (.iinc n9 n) pc L S cs ss G d)) : mW p l e s mid args below meth c Q E D tc j (pc, L, S, cs, ss, G, d) := by
  simp only [mX] at h
  split at h
  · rename_i x hg
    intro H locs ls hl hr hs h1 h2
    have hm : (n9, mval E (mget L n9)) ∈ mlist E L := mlist_mem (by rw [hg]; exact Nat.le_of_ble_eq_true rfl)
    rw [hg] at hm
    obtain ⟨k0, hk0⟩ := List.getElem?_of_mem hm
    refine lv_iinc hx hb hd (mLoc_has hl) hk0 rfl hk rfl (fun ls' hl' => h H locs ls' (mLoc_put1 hl.2.2.1 (by omega) ?_) hr hs h1 h2)
    rw [show mval E (0, x + n) = Value.int (Int32.ofInt x + Int32.ofInt n) by simp only [mval]; rw [Int32.ofInt_add]]
    exact hl'
  · exact absurd h.1 id
theorem s_goto (hx : p.tables.exec = Jvm.exec) (hb : c.code = mb j) {t t2 : Int} (ht : (pc : Int) + t2 = t) (h0 : 0 ≤ t) (hd : decode (mb j) pc = .ok (.goto t2, 3)) (h : mint (mW p l e s mid args below meth c Q E D tc j) C j K (mX O j 3 (.goto t) pc L S cs ss G d)) : mW p l e s mid args below meth c Q E D tc j (pc, L, S, cs, ss, G, d) := by
  exact mW_go hx hb h (fun H locs ls hl k => lv_goto hx hb hd (by omega) k)
theorem m_r0 : mInR 0 := ⟨by decide, by decide⟩
theorem s_icmp_eq (hx : p.tables.exec = Jvm.exec) (hb : c.code = mb j) {t t2 : Int} (ht : (pc : Int) + t2 = t) (h0 : 0 ≤ t) (hd : decode (mb j) pc = .ok (.if_icmp .eq t2, 3)) (h : mint (mW p l e s mid args below meth c Q E D tc j) C j K (mX O j 3 (.if_icmp .eq t) pc L S cs ss G d)) : mW p l e s mid args below meth c Q E D tc j (pc, L, S, cs, ss, G, d) := by
  simp only [mX] at h
  split at h
  · obtain ⟨q, ha, hc⟩ := h
    intro H locs ls hl hr hs h1 h2
    exact lv_icmp_eq hx hb hd (tgt := t.toNat) (by omega) (fun z => ha ((m_eq q.1 q.2).mp z) H locs ls hl hr hs h1 h2) (fun z => hc (fun w => z ((m_eq q.1 q.2).mpr w)) H locs ls hl hr hs h1 h2)
  · exact absurd h.1 id
theorem s_if_eq (hx : p.tables.exec = Jvm.exec) (hb : c.code = mb j) {t t2 : Int} (ht : (pc : Int) + t2 = t) (h0 : 0 ≤ t) (hd : decode (mb j) pc = .ok (.ifCond .eq t2, 3)) (h : mint (mW p l e s mid args below meth c Q E D tc j) C j K (mX O j 3 (.ifCond .eq t) pc L S cs ss G d)) : mW p l e s mid args below meth c Q E D tc j (pc, L, S, cs, ss, G, d) := by
  simp only [mX] at h
  split at h
  · obtain ⟨q, ha, hc⟩ := h
    intro H locs ls hl hr hs h1 h2
    exact lv_if_eq hx hb hd (tgt := t.toNat) (by omega) (fun z => ha ((m_eq q m_r0).mp z) H locs ls hl hr hs h1 h2) (fun z => hc (fun w => z ((m_eq q m_r0).mpr w)) H locs ls hl hr hs h1 h2)
  · exact absurd h.1 id
theorem s_icmp_ne (hx : p.tables.exec = Jvm.exec) (hb : c.code = mb j) {t t2 : Int} (ht : (pc : Int) + t2 = t) (h0 : 0 ≤ t) (hd : decode (mb j) pc = .ok (.if_icmp .ne t2, 3)) (h : mint (mW p l e s mid args below meth c Q E D tc j) C j K (mX O j 3 (.if_icmp .ne t) pc L S cs ss G d)) : mW p l e s mid args below meth c Q E D tc j (pc, L, S, cs, ss, G, d) := by
  simp only [mX] at h
  split at h
  · obtain ⟨q, ha, hc⟩ := h
    intro H locs ls hl hr hs h1 h2
    exact lv_icmp_ne hx hb hd (tgt := t.toNat) (by omega) (fun z => ha (fun w => z ((m_eq q.1 q.2).mpr w)) H locs ls hl hr hs h1 h2) (fun z => hc ((m_eq q.1 q.2).mp z) H locs ls hl hr hs h1 h2)
  · exact absurd h.1 id
theorem s_if_ne (hx : p.tables.exec = Jvm.exec) (hb : c.code = mb j) {t t2 : Int} (ht : (pc : Int) + t2 = t) (h0 : 0 ≤ t) (hd : decode (mb j) pc = .ok (.ifCond .ne t2, 3)) (h : mint (mW p l e s mid args below meth c Q E D tc j) C j K (mX O j 3 (.ifCond .ne t) pc L S cs ss G d)) : mW p l e s mid args below meth c Q E D tc j (pc, L, S, cs, ss, G, d) := by
  simp only [mX] at h
  split at h
  · obtain ⟨q, ha, hc⟩ := h
    intro H locs ls hl hr hs h1 h2
    exact lv_if_ne hx hb hd (tgt := t.toNat) (by omega) (fun z => ha (fun w => z ((m_eq q m_r0).mpr w)) H locs ls hl hr hs h1 h2) (fun z => hc ((m_eq q m_r0).mp z) H locs ls hl hr hs h1 h2)
  · exact absurd h.1 id
theorem s_icmp_lt (hx : p.tables.exec = Jvm.exec) (hb : c.code = mb j) {t t2 : Int} (ht : (pc : Int) + t2 = t) (h0 : 0 ≤ t) (hd : decode (mb j) pc = .ok (.if_icmp .lt t2, 3)) (h : mint (mW p l e s mid args below meth c Q E D tc j) C j K (mX O j 3 (.if_icmp .lt t) pc L S cs ss G d)) : mW p l e s mid args below meth c Q E D tc j (pc, L, S, cs, ss, G, d) := by
  simp only [mX] at h
  split at h
  · obtain ⟨q, ha, hc⟩ := h
    intro H locs ls hl hr hs h1 h2
    exact lv_icmp_lt hx hb hd (tgt := t.toNat) (by omega) (fun z => ha ((m_lt q.1 q.2).mp z) H locs ls hl hr hs h1 h2) (fun z => hc (Int.not_lt.mp (fun w => z ((m_lt q.1 q.2).mpr w))) H locs ls hl hr hs h1 h2)
  · exact absurd h.1 id
theorem s_if_lt (hx : p.tables.exec = Jvm.exec) (hb : c.code = mb j) {t t2 : Int} (ht : (pc : Int) + t2 = t) (h0 : 0 ≤ t) (hd : decode (mb j) pc = .ok (.ifCond .lt t2, 3)) (h : mint (mW p l e s mid args below meth c Q E D tc j) C j K (mX O j 3 (.ifCond .lt t) pc L S cs ss G d)) : mW p l e s mid args below meth c Q E D tc j (pc, L, S, cs, ss, G, d) := by
  simp only [mX] at h
  split at h
  · obtain ⟨q, ha, hc⟩ := h
    intro H locs ls hl hr hs h1 h2
    exact lv_if_lt hx hb hd (tgt := t.toNat) (by omega) (fun z => ha ((m_lt q m_r0).mp z) H locs ls hl hr hs h1 h2) (fun z => hc (Int.not_lt.mp (fun w => z ((m_lt q m_r0).mpr w))) H locs ls hl hr hs h1 h2)
  · exact absurd h.1 id
theorem s_icmp_ge (hx : p.tables.exec = Jvm.exec) (hb : c.code = mb j) {t t2 : Int} (ht : (pc : Int) + t2 = t) (h0 : 0 ≤ t) (hd : decode (mb j) pc = .ok (.if_icmp .ge t2, 3)) (h : mint (mW p l e s mid args below meth c Q E D tc j) C j K (mX O j 3 (.if_icmp .ge t) pc L S cs ss G d)) : mW p l e s mid args below meth c Q E D tc j (pc, L, S, cs, ss, G, d) := by
  simp only [mX] at h
  split at h
  · obtain ⟨q, ha, hc⟩ := h
    intro H locs ls hl hr hs h1 h2
    exact lv_icmp_ge hx hb hd (tgt := t.toNat) (by omega) (fun z => ha ((m_le q.2 q.1).mp z) H locs ls hl hr hs h1 h2) (fun z => hc (Int.not_le.mp (fun w => z ((m_le q.2 q.1).mpr w))) H locs ls hl hr hs h1 h2)
  · exact absurd h.1 id
theorem s_if_ge (hx : p.tables.exec = Jvm.exec) (hb : c.code = mb j) {t t2 : Int} (ht : (pc : Int) + t2 = t) (h0 : 0 ≤ t) (hd : decode (mb j) pc = .ok (.ifCond .ge t2, 3)) (h : mint (mW p l e s mid args below meth c Q E D tc j) C j K (mX O j 3 (.ifCond .ge t) pc L S cs ss G d)) : mW p l e s mid args below meth c Q E D tc j (pc, L, S, cs, ss, G, d) := by
  simp only [mX] at h
  split at h
  · obtain ⟨q, ha, hc⟩ := h
    intro H locs ls hl hr hs h1 h2
    exact lv_if_ge hx hb hd (tgt := t.toNat) (by omega) (fun z => ha ((m_le m_r0 q).mp z) H locs ls hl hr hs h1 h2) (fun z => hc (Int.not_le.mp (fun w => z ((m_le m_r0 q).mpr w))) H locs ls hl hr hs h1 h2)
  · exact absurd h.1 id
theorem s_icmp_gt (hx : p.tables.exec = Jvm.exec) (hb : c.code = mb j) {t t2 : Int} (ht : (pc : Int) + t2 = t) (h0 : 0 ≤ t) (hd : decode (mb j) pc = .ok (.if_icmp .gt t2, 3)) (h : mint (mW p l e s mid args below meth c Q E D tc j) C j K (mX O j 3 (.if_icmp .gt t) pc L S cs ss G d)) : mW p l e s mid args below meth c Q E D tc j (pc, L, S, cs, ss, G, d) := by
  simp only [mX] at h
  split at h
  · obtain ⟨q, ha, hc⟩ := h
    intro H locs ls hl hr hs h1 h2
    exact lv_icmp_gt hx hb hd (tgt := t.toNat) (by omega) (fun z => ha ((m_lt q.2 q.1).mp z) H locs ls hl hr hs h1 h2) (fun z => hc (Int.not_lt.mp (fun w => z ((m_lt q.2 q.1).mpr w))) H locs ls hl hr hs h1 h2)
  · exact absurd h.1 id
theorem s_if_gt (hx : p.tables.exec = Jvm.exec) (hb : c.code = mb j) {t t2 : Int} (ht : (pc : Int) + t2 = t) (h0 : 0 ≤ t) (hd : decode (mb j) pc = .ok (.ifCond .gt t2, 3)) (h : mint (mW p l e s mid args below meth c Q E D tc j) C j K (mX O j 3 (.ifCond .gt t) pc L S cs ss G d)) : mW p l e s mid args below meth c Q E D tc j (pc, L, S, cs, ss, G, d) := by
  simp only [mX] at h
  split at h
  · obtain ⟨q, ha, hc⟩ := h
    intro H locs ls hl hr hs h1 h2
    exact lv_if_gt hx hb hd (tgt := t.toNat) (by omega) (fun z => ha ((m_lt m_r0 q).mp z) H locs ls hl hr hs h1 h2) (fun z => hc (Int.not_lt.mp (fun w => z ((m_lt m_r0 q).mpr w))) H locs ls hl hr hs h1 h2)
  · exact absurd h.1 id
theorem s_icmp_le (hx : p.tables.exec = Jvm.exec) (hb : c.code = mb j) {t t2 : Int} (ht : (pc : Int) + t2 = t) (h0 : 0 ≤ t) (hd : decode (mb j) pc = .ok (.if_icmp .le t2, 3)) (h : mint (mW p l e s mid args below meth c Q E D tc j) C j K (mX O j 3 (.if_icmp .le t) pc L S cs ss G d)) : mW p l e s mid args below meth c Q E D tc j (pc, L, S, cs, ss, G, d) := by
  simp only [mX] at h
  split at h
  · obtain ⟨q, ha, hc⟩ := h
    intro H locs ls hl hr hs h1 h2
    exact lv_icmp_le hx hb hd (tgt := t.toNat) (by omega) (fun z => ha ((m_le q.1 q.2).mp z) H locs ls hl hr hs h1 h2) (fun z => hc (Int.not_le.mp (fun w => z ((m_le q.1 q.2).mpr w))) H locs ls hl hr hs h1 h2)
  · exact absurd h.1 id
theorem s_if_le (hx : p.tables.exec = Jvm.exec) (hb : c.code = mb j) {t t2 : Int} (ht : (pc : Int) + t2 = t) (h0 : 0 ≤ t) (hd : decode (mb j) pc = .ok (.ifCond .le t2, 3)) (h : mint (mW p l e s mid args below meth c Q E D tc j) C j K (mX O j 3 (.ifCond .le t) pc L S cs ss G d)) : mW p l e s mid args below meth c Q E D tc j (pc, L, S, cs, ss, G, d) := by
  simp only [mX] at h
  split at h
  · obtain ⟨q, ha, hc⟩ := h
    intro H locs ls hl hr hs h1 h2
    exact lv_if_le hx hb hd (tgt := t.toNat) (by omega) (fun z => ha ((m_le q m_r0).mp z) H locs ls hl hr hs h1 h2) (fun z => hc (Int.not_le.mp (fun w => z ((m_le q m_r0).mpr w))) H locs ls hl hr hs h1 h2)
  · exact absurd h.1 id
theorem msw_in {x : Int} {f : Nat → mSt} {B : mSt → Prop} : ∀ (ts : List Int) (k : Int) (z : List (Prop × mSt)), z ≠ [] → mall B (msw x f k ts ++ z) → mall B z ∧ ∀ (i : Nat) (t : Int), ts[i]? = some t → x = k + i → B (f t.toNat)
  | [], _, z, _, h => ⟨h, fun i t hi => by simp at hi⟩
  | t :: ts, k, z, hz, h => by
    have hne : msw x f (k + 1) ts ++ z ≠ [] := fun w => hz (List.append_eq_nil_iff.mp w).2
    obtain ⟨q, r, hqr⟩ := List.exists_cons_of_ne_nil hne
    have h' : mall B ((x = k, f t.toNat) :: (msw x f (k + 1) ts ++ z)) := h
    rw [hqr] at h'
    obtain ⟨h1, h2⟩ := h'
    rw [← hqr] at h2
    obtain ⟨h3, h4⟩ := msw_in ts (k + 1) z hz h2
    refine ⟨h3, fun i t' hi hx => ?_⟩
    cases i with
    | zero =>
      simp at hi
      subst hi
      exact h1 (by omega)
    | succ i => exact h4 i t' (by simpa using hi) (by omega)

theorem s_tableswitch (hx : p.tables.exec = Jvm.exec) (hb : c.code = mb j) {t t2 lo hi : Int} {ts2 : Array Int} (ht : (pc : Int) + t2 = t) (h0 : 0 ≤ t) (hts : ∀ q ∈ ts2.toList, 0 ≤ (pc : Int) + q) (hsz : (ts2.size : Int) = hi - lo + 1) (hd : decode (mb j) pc = .ok (.tableswitch t2 lo hi ts2, len)) (h : mint (mW p l e s mid args below meth c Q E D tc j) C j K (mX O j len (.tableswitch t lo hi (ts2.map (fun q => (pc : Int) + q))) pc L S cs ss G d)) : mW p l e s mid args below meth c Q E D tc j (pc, L, S, cs, ss, G, d) := by
  simp only [mX] at h
  split at h
  · rename_i x S'
    obtain ⟨q, h⟩ := h
    obtain ⟨h3, h4⟩ := msw_in _ _ _ (by simp) h
    intro H locs ls hl hr hs h1 h2
    by_cases hin : x < lo ∨ hi < x
    · exact lv_tableOut hx hb hd (by rw [m_toInt q]; exact hin) (tgt := t.toNat) (by omega) (h3 hin H locs ls hl hr hs h1 h2)
    · have hlt : (x - lo).toNat < ts2.size := by omega
      have hget : ts2[(x - lo).toNat]? = some ts2[(x - lo).toNat] := Array.getElem?_eq_getElem hlt
      have hq := hts _ (Array.mem_toList_iff.mpr (Array.getElem_mem hlt))
      refine lv_tableIn hx hb hd (by rw [m_toInt q]; omega) (by rw [m_toInt q]; omega) (by rw [m_toInt q]; exact hget) (tgt := ((pc : Int) + ts2[(x - lo).toNat]).toNat) (by omega) (h4 (x - lo).toNat ((pc : Int) + ts2[(x - lo).toNat]) ?_ (by omega) H locs ls hl hr hs h1 h2)
      simp [hget]
  · exact absurd h.1 id
end SB
/-! ===== the classes of our cells ===== -/
def mlayw : Bool := (List.range 12).all (fun c => (List.range (mnf c)).all (fun k => mp_lay.any (fun e => Nat.beq e.1 (32 * c + k) && mG1 e.2 (u_lay (mCn c) (fun k => mFn (32 * c + k)) k))))
theorem mlayw_ok : mlayw = true := by decide +kernel
theorem mlayw_in {c k : Nat} (hc : c < 12) (hk : k < mnf c) : u_lay (mCn c) (fun k => mFn (32 * c + k)) k ∈ GW := by
  have h1 := List.all_eq_true.mp mlayw_ok c (List.mem_range.mpr hc)
  have h2 := List.all_eq_true.mp h1 k (List.mem_range.mpr hk)
  obtain ⟨e, -, he⟩ := List.any_eq_true.mp h2
  exact mG1_in (Bool.and_eq_true_iff.mp he).2
def mClsOK (c : Nat) (T : u_T) (ty : Nat → FieldType) : Prop := vwCl[c]? = some (mCn c, T, mnf c) ∧ (∀ k, k < 32 → mFn (32 * c + k) = T k) ∧ (∀ k, k < mnf c → parseFieldDescriptor (T k).2.2.1 = some (ty k))
  ∧ (∀ a, a < mnf c → ∀ b, b < mnf c → a ≠ b → (T a).2.1 ≠ (T b).2.1) ∧ (∀ B k, k < mnf c → defaultValue (ty k) = mslot B (mfty (32 * c + k)) (if mfty (32 * c + k) = 4 then -1 else 0))
  ∧ (∀ (E : mE) (k : Nat) (v : mV), k < mnf c → mfit (mfty (32 * c + k)) v → narrow (ty k) (mval E v) = mval E v ∧ fits (ty k) (mval E v) = true) ∧ mnf c ≤ 32
theorem m_fitI (E : mE) (v : mV) (h : mfit 0 v) : narrow .int (mval E v) = mval E v ∧ fits .int (mval E v) = true := by
  obtain ⟨t, x⟩ := v
  have h : t = 0 := h
  subst h
  exact ⟨rfl, rfl⟩
theorem m_fitZ (E : mE) (v : mV) (h : mfit 1 v) : narrow .boolean (mval E v) = mval E v ∧ fits .boolean (mval E v) = true := by
  obtain ⟨t, x⟩ := v
  obtain ⟨h, h2⟩ := h
  have h : t = 0 := h
  have h2 : x = 0 ∨ x = 1 := h2
  subst h
  rcases h2 with rfl | rfl
  · exact ⟨rfl, rfl⟩
  · exact ⟨rfl, rfl⟩
theorem m_fitO (E : mE) (C : String) (v : mV) (h : mfit 4 v) : narrow (.object C) (mval E v) = mval E v ∧ fits (.object C) (mval E v) = true := by
  obtain ⟨t, x⟩ := v
  have h : t = 3 := h
  subst h
  simp only [mval]
  split <;> exact ⟨rfl, rfl⟩
theorem m_fitA (E : mE) (C : FieldType) (v : mV) (h : mfit 4 v) : narrow (.array C) (mval E v) = mval E v ∧ fits (.array C) (mval E v) = true := by
  obtain ⟨t, x⟩ := v
  have h : t = 3 := h
  subst h
  simp only [mval]
  split <;> exact ⟨rfl, rfl⟩
theorem m_lt_cases {n k : Nat} {P : Nat → Prop} (h : ∀ i, i < n → P i) (hk : k < n) : P k := h k hk
theorem mcls_0 : mClsOK 0 TX0 tyX0 := by
  refine ⟨rfl, fun k hk => ?_, tyX0_ok, nmX0, fun B k hk => ?_, fun E k v hk h => ?_, by decide⟩
  · unfold mFn
    rw [show (32 * 0 + k) / 32 = 0 by omega, show (32 * 0 + k) % 32 = k by omega]
    rfl
  · have hk : k < 3 := hk
    match k, hk with
    | 0, _ => rfl
    | 1, _ => rfl
    | 2, _ => rfl
    | k + 3, hk => exact absurd hk (by omega)
  · have hk : k < 3 := hk
    match k, hk with
    | 0, _ => exact m_fitA E _ v h
    | 1, _ => exact m_fitI E v h
    | 2, _ => exact m_fitI E v h
    | k + 3, hk => exact absurd hk (by omega)
theorem mcls_1 : mClsOK 1 TX1 tyX1 := by
  refine ⟨rfl, fun k hk => ?_, tyX1_ok, nmX1, fun B k hk => ?_, fun E k v hk h => ?_, by decide⟩
  · unfold mFn
    rw [show (32 * 1 + k) / 32 = 1 by omega, show (32 * 1 + k) % 32 = k by omega]
    rfl
  · have hk : k < 1 := hk
    match k, hk with
    | 0, _ => rfl
    | k + 1, hk => exact absurd hk (by omega)
  · have hk : k < 1 := hk
    match k, hk with
    | 0, _ => exact m_fitA E _ v h
    | k + 1, hk => exact absurd hk (by omega)
theorem mcls_2 : mClsOK 2 TX2 tyX2 := by
  refine ⟨rfl, fun k hk => ?_, tyX2_ok, nmX2, fun B k hk => ?_, fun E k v hk h => ?_, by decide⟩
  · unfold mFn
    rw [show (32 * 2 + k) / 32 = 2 by omega, show (32 * 2 + k) % 32 = k by omega]
    rfl
  · have hk : k < 7 := hk
    match k, hk with
    | 0, _ => rfl
    | 1, _ => rfl
    | 2, _ => rfl
    | 3, _ => rfl
    | 4, _ => rfl
    | 5, _ => rfl
    | 6, _ => rfl
    | k + 7, hk => exact absurd hk (by omega)
  · have hk : k < 7 := hk
    match k, hk with
    | 0, _ => exact m_fitO E _ v h
    | 1, _ => exact m_fitO E _ v h
    | 2, _ => exact m_fitI E v h
    | 3, _ => exact m_fitI E v h
    | 4, _ => exact m_fitI E v h
    | 5, _ => exact m_fitI E v h
    | 6, _ => exact m_fitI E v h
    | k + 7, hk => exact absurd hk (by omega)
theorem mcls_3 : mClsOK 3 TX3 tyX3 := by
  refine ⟨rfl, fun k hk => ?_, tyX3_ok, nmX3, fun B k hk => ?_, fun E k v hk h => ?_, by decide⟩
  · unfold mFn
    rw [show (32 * 3 + k) / 32 = 3 by omega, show (32 * 3 + k) % 32 = k by omega]
    rfl
  · have hk : k < 8 := hk
    match k, hk with
    | 0, _ => rfl
    | 1, _ => rfl
    | 2, _ => rfl
    | 3, _ => rfl
    | 4, _ => rfl
    | 5, _ => rfl
    | 6, _ => rfl
    | 7, _ => rfl
    | k + 8, hk => exact absurd hk (by omega)
  · have hk : k < 8 := hk
    match k, hk with
    | 0, _ => exact m_fitI E v h
    | 1, _ => exact m_fitA E _ v h
    | 2, _ => exact m_fitA E _ v h
    | 3, _ => exact m_fitA E _ v h
    | 4, _ => exact m_fitA E _ v h
    | 5, _ => exact m_fitA E _ v h
    | 6, _ => exact m_fitA E _ v h
    | 7, _ => exact m_fitA E _ v h
    | k + 8, hk => exact absurd hk (by omega)
theorem mcls_4 : mClsOK 4 TX4 tyX4 := by
  refine ⟨rfl, fun k hk => ?_, tyX4_ok, nmX4, fun B k hk => ?_, fun E k v hk h => ?_, by decide⟩
  · unfold mFn
    rw [show (32 * 4 + k) / 32 = 4 by omega, show (32 * 4 + k) % 32 = k by omega]
    rfl
  · have hk : k < 7 := hk
    match k, hk with
    | 0, _ => rfl
    | 1, _ => rfl
    | 2, _ => rfl
    | 3, _ => rfl
    | 4, _ => rfl
    | 5, _ => rfl
    | 6, _ => rfl
    | k + 7, hk => exact absurd hk (by omega)
  · have hk : k < 7 := hk
    match k, hk with
    | 0, _ => exact m_fitI E v h
    | 1, _ => exact m_fitA E _ v h
    | 2, _ => exact m_fitA E _ v h
    | 3, _ => exact m_fitA E _ v h
    | 4, _ => exact m_fitA E _ v h
    | 5, _ => exact m_fitA E _ v h
    | 6, _ => exact m_fitA E _ v h
    | k + 7, hk => exact absurd hk (by omega)
theorem mcls_5 : mClsOK 5 TX5 tyX5 := by
  refine ⟨rfl, fun k hk => ?_, tyX5_ok, nmX5, fun B k hk => ?_, fun E k v hk h => ?_, by decide⟩
  · unfold mFn
    rw [show (32 * 5 + k) / 32 = 5 by omega, show (32 * 5 + k) % 32 = k by omega]
    rfl
  · have hk : k < 5 := hk
    match k, hk with
    | 0, _ => rfl
    | 1, _ => rfl
    | 2, _ => rfl
    | 3, _ => rfl
    | 4, _ => rfl
    | k + 5, hk => exact absurd hk (by omega)
  · have hk : k < 5 := hk
    match k, hk with
    | 0, _ => exact m_fitO E _ v h
    | 1, _ => exact m_fitI E v h
    | 2, _ => exact m_fitI E v h
    | 3, _ => exact m_fitI E v h
    | 4, _ => exact m_fitI E v h
    | k + 5, hk => exact absurd hk (by omega)
theorem mcls_6 : mClsOK 6 TX6 tyX6 := by
  refine ⟨rfl, fun k hk => ?_, tyX6_ok, nmX6, fun B k hk => ?_, fun E k v hk h => ?_, by decide⟩
  · unfold mFn
    rw [show (32 * 6 + k) / 32 = 6 by omega, show (32 * 6 + k) % 32 = k by omega]
    rfl
  · have hk : k < 7 := hk
    match k, hk with
    | 0, _ => rfl
    | 1, _ => rfl
    | 2, _ => rfl
    | 3, _ => rfl
    | 4, _ => rfl
    | 5, _ => rfl
    | 6, _ => rfl
    | k + 7, hk => exact absurd hk (by omega)
  · have hk : k < 7 := hk
    match k, hk with
    | 0, _ => exact m_fitA E _ v h
    | 1, _ => exact m_fitI E v h
    | 2, _ => exact m_fitI E v h
    | 3, _ => exact m_fitO E _ v h
    | 4, _ => exact m_fitO E _ v h
    | 5, _ => exact m_fitO E _ v h
    | 6, _ => exact m_fitO E _ v h
    | k + 7, hk => exact absurd hk (by omega)
theorem mcls_7 : mClsOK 7 TX7 tyX7 := by
  refine ⟨rfl, fun k hk => ?_, tyX7_ok, nmX7, fun B k hk => ?_, fun E k v hk h => ?_, by decide⟩
  · unfold mFn
    rw [show (32 * 7 + k) / 32 = 7 by omega, show (32 * 7 + k) % 32 = k by omega]
    rfl
  · have hk : k < 2 := hk
    match k, hk with
    | 0, _ => rfl
    | 1, _ => rfl
    | k + 2, hk => exact absurd hk (by omega)
  · have hk : k < 2 := hk
    match k, hk with
    | 0, _ => exact m_fitA E _ v h
    | 1, _ => exact m_fitI E v h
    | k + 2, hk => exact absurd hk (by omega)
theorem mcls_8 : mClsOK 8 TX8 tyX8 := by
  refine ⟨rfl, fun k hk => ?_, tyX8_ok, nmX8, fun B k hk => ?_, fun E k v hk h => ?_, by decide⟩
  · unfold mFn
    rw [show (32 * 8 + k) / 32 = 8 by omega, show (32 * 8 + k) % 32 = k by omega]
    rfl
  · have hk : k < 8 := hk
    match k, hk with
    | 0, _ => rfl
    | 1, _ => rfl
    | 2, _ => rfl
    | 3, _ => rfl
    | 4, _ => rfl
    | 5, _ => rfl
    | 6, _ => rfl
    | 7, _ => rfl
    | k + 8, hk => exact absurd hk (by omega)
  · have hk : k < 8 := hk
    match k, hk with
    | 0, _ => exact m_fitI E v h
    | 1, _ => exact m_fitA E _ v h
    | 2, _ => exact m_fitA E _ v h
    | 3, _ => exact m_fitA E _ v h
    | 4, _ => exact m_fitA E _ v h
    | 5, _ => exact m_fitA E _ v h
    | 6, _ => exact m_fitA E _ v h
    | 7, _ => exact m_fitA E _ v h
    | k + 8, hk => exact absurd hk (by omega)
theorem mcls_9 : mClsOK 9 TX9 tyX9 := by
  refine ⟨rfl, fun k hk => ?_, tyX9_ok, nmX9, fun B k hk => ?_, fun E k v hk h => ?_, by decide⟩
  · unfold mFn
    rw [show (32 * 9 + k) / 32 = 9 by omega, show (32 * 9 + k) % 32 = k by omega]
    rfl
  · have hk : k < 7 := hk
    match k, hk with
    | 0, _ => rfl
    | 1, _ => rfl
    | 2, _ => rfl
    | 3, _ => rfl
    | 4, _ => rfl
    | 5, _ => rfl
    | 6, _ => rfl
    | k + 7, hk => exact absurd hk (by omega)
  · have hk : k < 7 := hk
    match k, hk with
    | 0, _ => exact m_fitI E v h
    | 1, _ => exact m_fitA E _ v h
    | 2, _ => exact m_fitA E _ v h
    | 3, _ => exact m_fitA E _ v h
    | 4, _ => exact m_fitA E _ v h
    | 5, _ => exact m_fitI E v h
    | 6, _ => exact m_fitA E _ v h
    | k + 7, hk => exact absurd hk (by omega)
theorem mcls_10 : mClsOK 10 TX10 tyX10 := by
  refine ⟨rfl, fun k hk => ?_, tyX10_ok, nmX10, fun B k hk => ?_, fun E k v hk h => ?_, by decide⟩
  · unfold mFn
    rw [show (32 * 10 + k) / 32 = 10 by omega, show (32 * 10 + k) % 32 = k by omega]
    rfl
  · have hk : k < 9 := hk
    match k, hk with
    | 0, _ => rfl
    | 1, _ => rfl
    | 2, _ => rfl
    | 3, _ => rfl
    | 4, _ => rfl
    | 5, _ => rfl
    | 6, _ => rfl
    | 7, _ => rfl
    | 8, _ => rfl
    | k + 9, hk => exact absurd hk (by omega)
  · have hk : k < 9 := hk
    match k, hk with
    | 0, _ => exact m_fitO E _ v h
    | 1, _ => exact m_fitO E _ v h
    | 2, _ => exact m_fitA E _ v h
    | 3, _ => exact m_fitA E _ v h
    | 4, _ => exact m_fitO E _ v h
    | 5, _ => exact m_fitO E _ v h
    | 6, _ => exact m_fitO E _ v h
    | 7, _ => exact m_fitO E _ v h
    | 8, _ => exact m_fitO E _ v h
    | k + 9, hk => exact absurd hk (by omega)
theorem mcls_11 : mClsOK 11 TX11 tyX11 := by
  refine ⟨rfl, fun k hk => ?_, tyX11_ok, nmX11, fun B k hk => ?_, fun E k v hk h => ?_, by decide⟩
  · unfold mFn
    rw [show (32 * 11 + k) / 32 = 11 by omega, show (32 * 11 + k) % 32 = k by omega]
    rfl
  · have hk : k < 19 := hk
    match k, hk with
    | 0, _ => rfl
    | 1, _ => rfl
    | 2, _ => rfl
    | 3, _ => rfl
    | 4, _ => rfl
    | 5, _ => rfl
    | 6, _ => rfl
    | 7, _ => rfl
    | 8, _ => rfl
    | 9, _ => rfl
    | 10, _ => rfl
    | 11, _ => rfl
    | 12, _ => rfl
    | 13, _ => rfl
    | 14, _ => rfl
    | 15, _ => rfl
    | 16, _ => rfl
    | 17, _ => rfl
    | 18, _ => rfl
    | k + 19, hk => exact absurd hk (by omega)
  · have hk : k < 19 := hk
    match k, hk with
    | 0, _ => exact m_fitI E v h
    | 1, _ => exact m_fitA E _ v h
    | 2, _ => exact m_fitA E _ v h
    | 3, _ => exact m_fitA E _ v h
    | 4, _ => exact m_fitA E _ v h
    | 5, _ => exact m_fitA E _ v h
    | 6, _ => exact m_fitA E _ v h
    | 7, _ => exact m_fitI E v h
    | 8, _ => exact m_fitA E _ v h
    | 9, _ => exact m_fitI E v h
    | 10, _ => exact m_fitI E v h
    | 11, _ => exact m_fitI E v h
    | 12, _ => exact m_fitI E v h
    | 13, _ => exact m_fitZ E v h
    | 14, _ => exact m_fitI E v h
    | 15, _ => exact m_fitI E v h
    | 16, _ => exact m_fitI E v h
    | 17, _ => exact m_fitA E _ v h
    | 18, _ => exact m_fitI E v h
    | k + 19, hk => exact absurd hk (by omega)
theorem mcls {c : Nat} (h : c < 12) : ∃ T ty, mClsOK c T ty := by
  match c, h with
  | 0, _ => exact ⟨_, _, mcls_0⟩
  | 1, _ => exact ⟨_, _, mcls_1⟩
  | 2, _ => exact ⟨_, _, mcls_2⟩
  | 3, _ => exact ⟨_, _, mcls_3⟩
  | 4, _ => exact ⟨_, _, mcls_4⟩
  | 5, _ => exact ⟨_, _, mcls_5⟩
  | 6, _ => exact ⟨_, _, mcls_6⟩
  | 7, _ => exact ⟨_, _, mcls_7⟩
  | 8, _ => exact ⟨_, _, mcls_8⟩
  | 9, _ => exact ⟨_, _, mcls_9⟩
  | 10, _ => exact ⟨_, _, mcls_10⟩
  | 11, _ => exact ⟨_, _, mcls_11⟩
  | c + 12, h => exact absurd h (by omega)
theorem mcls_ws {c : Nat} {T : u_T} {ty : Nat → FieldType} (hc : c < 12) (h : mClsOK c T ty) : ∀ w ∈ u_ws (mCn c) T (mnf c), w ∈ GW := by
  intro w hw
  obtain ⟨k, hk, rfl⟩ := List.mem_map.mp hw
  have hk := List.mem_range.mp hk
  have h1 := mlayw_in hc hk
  have h2 : (fun k => mFn (32 * c + k)) k = T k := h.2.1 k (Nat.lt_of_lt_of_le hk h.2.2.2.2.2.2)
  unfold u_lay at h1 ⊢
  rw [h2] at h1
  exact h1
/-! ===== fields, rows, new cells ===== -/
theorem mFL_rng : (List.range 16).all (fun o => (mFL o).all (fun e => Nat.blt (e.2.1 % 32) (mnf (e.2.1 / 32)) && Nat.blt (e.2.1 / 32) 12)) = true := by decide +kernel
theorem m_all16 {α : Type} {f : Nat → List α} {q : Nat → α → Bool} (h : (List.range 16).all (fun o => (f o).all (q o)) = true) {o : Nat} (ho : o < 16) {x : α} (hx : x ∈ f o) : q o x = true :=
  List.all_eq_true.mp (List.all_eq_true.mp h o (List.mem_range.mpr ho)) x hx
theorem mFL_use {o i g : Nat} (ho : o < 16) (h : mlk (mFL o) i = some g) : mfw o i g ∈ GW ∧ g % 32 < mnf (g / 32) ∧ g / 32 < 12 := by
  obtain ⟨p, hp⟩ := mlk_in h
  have h1 := m_all16 mFL_ok ho hp
  have h2 := m_all16 mFL_rng ho hp
  simp only [Bool.and_eq_true, Nat.blt_eq] at h2
  exact ⟨mG1_in h1, h2.1, h2.2⟩
theorem mRep_upd {E : mE} {D : va_G} {tc : Int → ClassId} {G : mG} {d d' : mD} {H H' : Heap} {a : Int} (hr : mRep E D tc G d H) (ha : 0 ≤ G.1 a) (hz : H'.size = H.size) (ho : ∀ q : Nat, q ≠ E.1 + a.toNat → H'[q]? = H[q]?) (hd : ∀ b, b ≠ a → d' b = d b)
    (hO : G.1 a < 100 → mcellO E D a (G.1 a) (d' a) H') (hA : 100 ≤ G.1 a → mcellA E tc a (G.1 a) (G.2.1 a) (d' a) H') : mRep E D tc G d' H' := by
  refine ⟨by rw [hz]; exact hr.1, fun h => by rw [hz]; exact hr.2.1 h, fun b hb => ?_⟩
  have ha0 := (hr.2.2 a ha).1
  obtain ⟨h0, h1, h2⟩ := hr.2.2 b hb
  by_cases e : b = a
  · subst e
    exact ⟨h0, hO, hA⟩
  · rw [hd b e]
    have hq : H'[E.1 + b.toNat]? = H[E.1 + b.toNat]? := ho _ (by omega)
    exact ⟨h0, fun h => ⟨(h1 h).1, (h1 h).2.kept hq⟩, fun h => ⟨(h2 h).1, (h2 h).2.1, (h2 h).2.2.1, by rw [hq]; exact (h2 h).2.2.2⟩⟩
theorem mset_ne {d : mD} {a i v b : Int} (h : b ≠ a) : mset d a i v b = d b := by
  funext j
  simp [mset, h]
section SC
variable {p : Program} {l : Launch} {e : Env} {s : State} {mid : MethodId} {args : Array Value} {below : List Frame} {meth : Method} {c : Code} {Q : State → Prop}
variable {E : mE} {D : va_G} {tc : Int → ClassId} {O : mO} {j : Nat}
variable {C : Nat → List mV → mG → mD → mK → Prop} {K : mK} {pc len : Nat} {L S : List mV} {cs ss : Nat} {G : mG} {d : mD} {H : Heap} {o : Nat}
theorem mRep_obj (hr : mRep E D tc G d H) {a : Int} {g : Nat} (hg : g / 32 < 12) (h : G.1 a = ((g / 32 : Nat) : Int)) : 0 ≤ a ∧ t_OB (E.1 + a.toNat) (D.1 (g / 32)) (mnf (g / 32)) (D.2 (g / 32)) H (mfun E (g / 32) (d a)) := by
  obtain ⟨h0, h1, -⟩ := hr.2.2 a (by omega)
  obtain ⟨-, h2⟩ := h1 (by omega)
  rw [h] at h2
  exact ⟨h0, h2⟩
theorem mval_own {a : Int} (h : 0 ≤ a) (S : List mV) : mst E ((3, a) :: S) = .ref (E.1 + a.toNat) :: mst E S := by
  simp only [mst, List.map_cons, mval]
  rw [if_neg (by omega)]
theorem vp_V_map {N : Nat} (f : Nat → Value) {k : Nat} (hk : k < N) : vp_V ((List.range N).map f) k = f k := by
  simp [vp_V, hk]
theorem s_getfield (hx : p.tables.exec = Jvm.exec) (hb : c.code = mb j) (hG : ∀ w ∈ GW, w.before args s = true) (ho : o < 16) (hown : s.vm.findClass (mR o) = some mid.cls) (hK : va_K D vwCl (mtys tc) s) {idx g : Nat} (hlk : mlk (mFL o) idx = some g)
    (hd : decode (mb j) pc = .ok (.getfield idx, 3)) (h : mint (mW p l e s mid args below meth c Q E D tc j) C j K (mX O j 3 (.getfield g) pc L S cs ss G d)) : mW p l e s mid args below meth c Q E D tc j (pc, L, S, cs, ss, G, d) := by
  obtain ⟨hw, hk, hg⟩ := mFL_use ho hlk
  obtain ⟨T, ty, hT⟩ := mcls hg
  simp only [mX] at h
  split at h
  · rename_i a S'
    obtain ⟨q, h⟩ := h
    intro H locs ls hl hr hs h1 h2
    obtain ⟨ha, hO⟩ := mRep_obj hr hg q
    have hF : mFn g = T (g % 32) := by
      have := hT.2.1 (g % 32) (Nat.mod_lt _ (by decide))
      rwa [Nat.div_add_mod] at this
    have hP : va_P D vwCl [(E.1 + a.toNat, .inr (g / 32, (List.range (mnf (g / 32))).map (mfun E (g / 32) (d a))))] H := by
      intro k x hx9
      cases k with
      | zero => cases hx9; exact ⟨_, hT.1, hO.to (fun k hk => (vp_V_map _ hk).symm)⟩
      | succ k => simp at hx9
    have hlink := hG _ hw
    unfold mfw at hlink
    rw [hF] at hlink
    have kk := h H locs ls hl hr hs h1 h2
    rw [mval_own ha]
    refine va_get (D := D) (ci := g / 32) hx hb hG (mcls_ws hg hT) hown hK hP 0 rfl hT.1 (g % 32) hk hlink (fun _ z => z) (v := mfun E (g / 32) (d a) (g % 32)) (by simp [hk]) hd ?_
    rw [show mst E ((mtag (mfty g), d a ((g % 32 : Nat) : Int)) :: S') = mfun E (g / 32) (d a) (g % 32) :: mst E S' by simp only [mst, List.map_cons, mval_tag, mfun, Nat.div_add_mod]] at kk
    exact kk
  · exact absurd h.1 id
theorem s_putfield (hx : p.tables.exec = Jvm.exec) (hb : c.code = mb j) (hG : ∀ w ∈ GW, w.before args s = true) (ho : o < 16) (hown : s.vm.findClass (mR o) = some mid.cls) (hK : va_K D vwCl (mtys tc) s) {idx g : Nat} (hlk : mlk (mFL o) idx = some g)
    (hfin : (mFn g).2.2.2 = true → meth.name = "<init>" ∧ (mFn g).1 = mR o)
    (hd : decode (mb j) pc = .ok (.putfield idx, 3)) (h : mint (mW p l e s mid args below meth c Q E D tc j) C j K (mX O j 3 (.putfield g) pc L S cs ss G d)) : mW p l e s mid args below meth c Q E D tc j (pc, L, S, cs, ss, G, d) := by
  obtain ⟨hw, hk, hg⟩ := mFL_use ho hlk
  obtain ⟨T, ty, hT⟩ := mcls hg
  simp only [mX] at h
  split at h
  · rename_i v a S'
    obtain ⟨⟨q, hft⟩, h⟩ := h
    intro H locs ls hl hr hs h1 h2
    obtain ⟨ha, hO⟩ := mRep_obj hr hg q
    have hF : mFn g = T (g % 32) := by
      have := hT.2.1 (g % 32) (Nat.mod_lt _ (by decide))
      rwa [Nat.div_add_mod] at this
    have hlink := hG _ hw
    unfold mfw at hlink
    rw [hF] at hlink hfin
    have hin := mcls_ws hg hT
    have hap := va_apart (own := mR o) hG hin ty hT.2.2.1 hT.2.2.2.1 hK hT.1
    obtain ⟨cell, q1, q2, q3, q4⟩ := hO
    obtain ⟨hS, hfc, kC, hkC, hkind⟩ := hK.1 (g / 32) _ hT.1
    obtain ⟨cf, kf, fi, f, hi, hsl⟩ := hS (g % 32) hk
    have hst := (u_facts hfc hkC (u_lays hG hin hk) hi).1
    have hfit := hT.2.2.2.2.2.1 E (g % 32) v hk (by rw [Nat.div_add_mod]; exact hft)
    have hv : mval E v = mslot E.1 (mfty g) v.2 := by
      obtain ⟨t9, x9⟩ := v
      have ht : t9 = mtag (mfty g) := by
        revert hft
        generalize mfty g = z
        intro hft
        match z with
        | 0 => exact hft
        | 1 => exact hft.1
        | 2 => exact hft.1
        | 3 => exact hft
        | _ + 4 => exact hft
      rw [ht, mval_tag]
    have done : ∀ H' : Heap, H'[E.1 + a.toNat]? = some (cell.setSlot f.slot (mval E v)) → H'.size = H.size → (∀ q : Nat, q ≠ E.1 + a.toNat → H'[q]? = H[q]?) → W p l e (mRm j) s mid args below meth c H' (locs ++ [⟨E.1 + a.toNat, f.slot⟩]) cs ss Q (F0 mid (pc + 3) ls (mst E S')) := by
      intro H' e1 e2 e3
      rw [hsl] at e1 ⊢
      refine h H' _ ls hl (mRep_upd hr (by omega) e2 e3 (fun b hb9 => mset_ne hb9) (fun _ => ⟨by omega, ?_⟩) (fun h9 => by omega)) (hs.put e2 e3 (by show E.1 ≤ _; omega)) h1 h2
      rw [q]
      refine t_OB.to (V := updV (mfun E (g / 32) (d a)) (g % 32) (mval E v)) ⟨_, e1, q2, q3, t_set q4 hap hk _⟩ (fun i hi9 => ?_)
      simp only [updV, mfun, mset, Int.toNat_natCast]
      by_cases hij : i = g % 32
      · subst hij
        rw [if_pos rfl, if_pos ⟨trivial, rfl⟩, hv, Nat.div_add_mod]
      · rw [if_neg hij, if_neg (by omega)]
    have e9 : mst E (v :: (3, a) :: S') = mval E v :: .ref (E.1 + a.toNat) :: mst E S' := by
      have := mval_own (E := E) ha S'
      simp only [mst, List.map_cons] at this ⊢
      rw [this]
    rw [e9]
    cases hf9 : (T (g % 32)).2.2.2 with
    | false =>
      have hlay := hG _ (hin _ (u_in_lay hk))
      unfold u_lay at hlay
      rw [if_neg (by rw [hf9]; decide)] at hlay
      have h6 := u_store hfc hkC hkind hlay hi (hT.2.2.1 _ hk) hfit.1 hfit.2
      exact W.putK hx hb (f := f) ⟨hown, hlink, ⟨_, _, _, hi⟩, hst⟩ (by rw [q2]; exact h6) q1 q3 (by rw [hsl]; exact k2_hasslot (q4 _ hk)) rfl rfl hd done
    | true =>
      obtain ⟨hin2, hdecl⟩ := hfin hf9
      have hlay := hG _ (hin _ (u_in_lay hk))
      unfold u_lay at hlay
      rw [if_pos hf9] at hlay
      have hcf : mid.cls = cf := by
        obtain ⟨_, _, c', _, _, _, -, -, hf', -, -, -, hown2, -⟩ := Cond.laysFinal_spec hlay
        have e1 : c' = cf := by have := hi.symm.trans hf'; simp at this; exact this.1.symm
        rw [hdecl] at hown2
        rw [← e1]; exact Option.some.inj (hown.symm.trans hown2)
      have h6 := u_fits hfc hkC hkind (Or.inr hlay) hi (hT.2.2.1 _ hk) hfit.1 hfit.2
      exact W.putFinK hx hb hown hlink hi hst hcf hin2 (by rw [q2]; exact h6) q1 q3 (by rw [hsl]; exact k2_hasslot (q4 _ hk)) rfl rfl hd done
  · exact absurd h.1 id
end SC
/-! ===== rows ===== -/
theorem mset_upd (E : mE) (k : Int) (d : mD) (a i v : Int) (h0 : 0 ≤ i) : updV (mrow E k (d a)) i.toNat (mslot E.1 (mety k) v) = mrow E k (mset d a i v a) := by
  funext z
  simp only [updV, mrow, mset]
  by_cases h : z = i.toNat
  · rw [if_pos h, if_pos ⟨trivial, by omega⟩]
  · rw [if_neg h, if_neg (by omega)]
theorem m_i8b {v : Int} (h1 : -128 ≤ v) (h2 : v ≤ 127) : (Int32.ofInt v).toInt8.toInt32 = Int32.ofInt v := by
  rw [← Int32.toInt_inj, Int8.toInt_toInt32, Int32.toInt_toInt8, m_toInt ⟨by omega, by omega⟩]
  exact Int.bmod_eq_of_le (by omega) (by omega)
theorem m_zb {v : Int} (h : v = 0 ∨ v = 1) : narrow .boolean (.int (Int32.ofInt v)) = .int (Int32.ofInt v) := by
  rcases h with rfl | rfl <;> rfl
section SD
variable {p : Program} {l : Launch} {e : Env} {s : State} {mid : MethodId} {args : Array Value} {below : List Frame} {meth : Method} {c : Code} {Q : State → Prop}
variable {E : mE} {D : va_G} {tc : Int → ClassId} {O : mO} {j : Nat}
variable {C : Nat → List mV → mG → mD → mK → Prop} {K : mK} {pc len : Nat} {L S : List mV} {cs ss : Nat} {G : mG} {d : mD} {H : Heap} {o : Nat}
theorem mRep_row (hr : mRep E D tc G d H) {a k : Int} (hk : 100 ≤ k) (h : G.1 a = k) : 0 ≤ a ∧ mcellA E tc a k (G.2.1 a) (d a) H := by
  obtain ⟨h0, -, h1⟩ := hr.2.2 a (by omega)
  have h2 := h1 (by omega)
  rw [h] at h2
  exact ⟨h0, h2⟩
theorem mval_row {a : Int} (h : 0 ≤ a) (x : Value) (v : mV) (hv : mval E v = x) (S : List mV) : mst E (v :: (3, a) :: S) = x :: .ref (E.1 + a.toNat) :: mst E S := by
  have := mval_own (E := E) h S
  simp only [mst, List.map_cons] at this ⊢
  rw [this, hv]
theorem m_tys {tc : Int → ClassId} (hK : va_K D vwCl (mtys tc) s) {k : Int} (h : k ∈ mkinds) : ArrOfT s (tc k) (metyF k) ∧ va_RA s (tc k) (metyF k) := by
  have hm : (tc k, metyF k) ∈ mtys tc := List.mem_map.mpr ⟨k, h, rfl⟩
  obtain ⟨i, hi⟩ := List.getElem?_of_mem hm
  exact hK.2 i _ hi

theorem s_laload (hx : p.tables.exec = Jvm.exec) (hb : c.code = mb j) (hK : va_K D vwCl (mtys tc) s) (hd : decode (mb j) pc = .ok (.laload, 1)) (h : mint (mW p l e s mid args below meth c Q E D tc j) C j K (mX O j 1 (.laload) pc L S cs ss G d)) : mW p l e s mid args below meth c Q E D tc j (pc, L, S, cs, ss, G, d) := by
  simp only [mX] at h
  split at h
  · rename_i i a S'
    obtain ⟨⟨q0, q1, q2⟩, h⟩ := h
    intro H locs ls hl hr hs h1 h2
    obtain ⟨ha, hm, hn0, hn, hc⟩ := mRep_row hr (by decide) q0
    rw [mval_row ha _ (0, _) rfl]
    have hlt : i.toNat < (G.2.1 a).toNat := by omega
    exact W.lald (v := .long (Int64.ofInt (d a i))) hx hb hc ((m_tys hK hm).1 _ _) (fun q => by cases q) (by rw [arrV_size]; exact m_in q1 q2 (by omega)) (by rw [m_nat q1 (by omega), arrV_read _ _ hlt]; simp only [mrow, Int.toNat_of_nonneg q1]; rfl) rfl rfl hd (h H locs ls hl hr hs h1 h2)
  · exact absurd h.1 id
theorem s_baload (hx : p.tables.exec = Jvm.exec) (hb : c.code = mb j) (hK : va_K D vwCl (mtys tc) s) (hd : decode (mb j) pc = .ok (.baload, 1)) (h : mint (mW p l e s mid args below meth c Q E D tc j) C j K (mX O j 1 (.baload) pc L S cs ss G d)) : mW p l e s mid args below meth c Q E D tc j (pc, L, S, cs, ss, G, d) := by
  simp only [mX] at h
  split at h
  · rename_i i a S'
    obtain ⟨⟨q0, q1, q2⟩, h⟩ := h
    intro H locs ls hl hr hs h1 h2
    rcases q0 with q0 | q0
    · obtain ⟨ha, hm, hn0, hn, hc⟩ := mRep_row hr (by decide) q0
      rw [mval_row ha _ (0, _) rfl]
      have hlt : i.toNat < (G.2.1 a).toNat := by omega
      exact W.bald (v := .int (Int32.ofInt (d a i))) hx hb hc ((m_tys hK hm).1 _ _) (fun q => by cases q) (by rw [arrV_size]; exact m_in q1 q2 (by omega)) (by rw [m_nat q1 (by omega), arrV_read _ _ hlt]; simp only [mrow, Int.toNat_of_nonneg q1]; rfl) rfl rfl hd (h H locs ls hl hr hs h1 h2)
    · obtain ⟨ha, hm, hn0, hn, hc⟩ := mRep_row hr (by decide) q0
      rw [mval_row ha _ (0, _) rfl]
      have hlt : i.toNat < (G.2.1 a).toNat := by omega
      exact W.zald (v := .int (Int32.ofInt (d a i))) hx hb hc ((m_tys hK hm).1 _ _) (fun q => by cases q) (by rw [arrV_size]; exact m_in q1 q2 (by omega)) (by rw [m_nat q1 (by omega), arrV_read _ _ hlt]; simp only [mrow, Int.toNat_of_nonneg q1]; rfl) rfl rfl hd (h H locs ls hl hr hs h1 h2)
  · exact absurd h.1 id
theorem s_aaload (hx : p.tables.exec = Jvm.exec) (hb : c.code = mb j) (hK : va_K D vwCl (mtys tc) s) (hd : decode (mb j) pc = .ok (.aaload, 1)) (h : mint (mW p l e s mid args below meth c Q E D tc j) C j K (mX O j 1 (.aaload) pc L S cs ss G d)) : mW p l e s mid args below meth c Q E D tc j (pc, L, S, cs, ss, G, d) := by
  simp only [mX] at h
  split at h
  · rename_i i a S'
    obtain ⟨⟨q0, q1, q2⟩, h⟩ := h
    intro H locs ls hl hr hs h1 h2
    have hq := ((hr.2.2 a (by omega)).2.2 (by omega)).1
    have hq : G.1 a = 201 ∨ G.1 a = 206 := by
      simp only [mkinds, List.mem_cons, List.not_mem_nil, or_false] at hq
      omega
    rcases hq with q0 | q0
    · obtain ⟨ha, hm, hn0, hn, hc⟩ := mRep_row hr (by decide) q0
      rw [mval_row ha _ (0, _) rfl]
      have hlt : i.toNat < (G.2.1 a).toNat := by omega
      exact W.aald (ty := .object _) (v := mslot E.1 4 (d a i)) hx hb hc ((m_tys hK hm).1 _ _) rfl (fun q => by cases q) (by rw [arrV_size]; exact m_in q1 q2 (by omega)) (by rw [m_nat q1 (by omega), arrV_read _ _ hlt]; simp only [mrow, Int.toNat_of_nonneg q1]; rfl) rfl rfl hd (h H locs ls hl hr hs h1 h2)
    · obtain ⟨ha, hm, hn0, hn, hc⟩ := mRep_row hr (by decide) q0
      rw [mval_row ha _ (0, _) rfl]
      have hlt : i.toNat < (G.2.1 a).toNat := by omega
      exact W.aald (ty := .object _) (v := mslot E.1 4 (d a i)) hx hb hc ((m_tys hK hm).1 _ _) rfl (fun q => by cases q) (by rw [arrV_size]; exact m_in q1 q2 (by omega)) (by rw [m_nat q1 (by omega), arrV_read _ _ hlt]; simp only [mrow, Int.toNat_of_nonneg q1]; rfl) rfl rfl hd (h H locs ls hl hr hs h1 h2)
  · exact absurd h.1 id
theorem s_lastore (hx : p.tables.exec = Jvm.exec) (hb : c.code = mb j) (hK : va_K D vwCl (mtys tc) s) (hd : decode (mb j) pc = .ok (.lastore, 1)) (h : mint (mW p l e s mid args below meth c Q E D tc j) C j K (mX O j 1 (.lastore) pc L S cs ss G d)) : mW p l e s mid args below meth c Q E D tc j (pc, L, S, cs, ss, G, d) := by
  simp only [mX] at h
  split at h
  · rename_i v i a S'
    obtain ⟨⟨q0, q1, q2⟩, h⟩ := h
    intro H locs ls hl hr hs h1 h2
    obtain ⟨ha, hm, hn0, hn, hc⟩ := mRep_row hr (by decide) q0
    have e9 : mst E ((1, v) :: (0, i) :: (3, a) :: S') = mval E (1, v) :: .int (Int32.ofInt i) :: .ref (E.1 + a.toNat) :: mst E S' := by
      have := mval_own (E := E) ha S'
      simp only [mst, List.map_cons] at this ⊢
      rw [this]
      rfl
    rw [e9]
    refine W.last hx hb hc ((m_tys hK hm).1 _ _) (fun q => by cases q) (by rw [arrV_size]; exact m_in q1 q2 (by omega)) rfl rfl hd fun H' e1 e2 e3 => ?_
    refine h H' _ ls hl (mRep_upd hr (by omega) e2 e3 (fun b hb9 => mset_ne hb9) (fun h9 => by omega) (fun _ => ?_)) (hs.put e2 e3 (by show E.1 ≤ _; omega)) h1 h2
    rw [q0]
    refine ⟨hm, hn0, hn, ?_⟩
    rw [← mset_upd E 101 d a i v q1, ← arrV_store, e1, m_nat q1 (by omega)]
    rfl
  · exact absurd h.1 id
theorem s_iastore (hx : p.tables.exec = Jvm.exec) (hb : c.code = mb j) (hK : va_K D vwCl (mtys tc) s) (hd : decode (mb j) pc = .ok (.iastore, 1)) (h : mint (mW p l e s mid args below meth c Q E D tc j) C j K (mX O j 1 (.iastore) pc L S cs ss G d)) : mW p l e s mid args below meth c Q E D tc j (pc, L, S, cs, ss, G, d) := by
  simp only [mX] at h
  split at h
  · rename_i v i a S'
    obtain ⟨⟨q0, q1, q2⟩, h⟩ := h
    intro H locs ls hl hr hs h1 h2
    obtain ⟨ha, hm, hn0, hn, hc⟩ := mRep_row hr (by decide) q0
    have e9 : mst E ((0, v) :: (0, i) :: (3, a) :: S') = mval E (0, v) :: .int (Int32.ofInt i) :: .ref (E.1 + a.toNat) :: mst E S' := by
      have := mval_own (E := E) ha S'
      simp only [mst, List.map_cons] at this ⊢
      rw [this]
      rfl
    rw [e9]
    refine W.iast hx hb hc ((m_tys hK hm).1 _ _) (fun q => by cases q) (by rw [arrV_size]; exact m_in q1 q2 (by omega)) rfl rfl hd fun H' e1 e2 e3 => ?_
    refine h H' _ ls hl (mRep_upd hr (by omega) e2 e3 (fun b hb9 => mset_ne hb9) (fun h9 => by omega) (fun _ => ?_)) (hs.put e2 e3 (by show E.1 ≤ _; omega)) h1 h2
    rw [q0]
    refine ⟨hm, hn0, hn, ?_⟩
    rw [← mset_upd E 100 d a i v q1, ← arrV_store, e1, m_nat q1 (by omega)]
    rfl
  · exact absurd h.1 id
theorem s_bastore (hx : p.tables.exec = Jvm.exec) (hb : c.code = mb j) (hK : va_K D vwCl (mtys tc) s) (hd : decode (mb j) pc = .ok (.bastore, 1)) (h : mint (mW p l e s mid args below meth c Q E D tc j) C j K (mX O j 1 (.bastore) pc L S cs ss G d)) : mW p l e s mid args below meth c Q E D tc j (pc, L, S, cs, ss, G, d) := by
  simp only [mX] at h
  split at h
  · rename_i v i a S'
    obtain ⟨⟨q0, q1, q2⟩, h⟩ := h
    intro H locs ls hl hr hs h1 h2
    rcases q0 with ⟨q0, q3, q4⟩ | ⟨q0, q3⟩
    · obtain ⟨ha, hm, hn0, hn, hc⟩ := mRep_row hr (by decide) q0
      have e9 : mst E ((0, v) :: (0, i) :: (3, a) :: S') = mval E (0, v) :: .int (Int32.ofInt i) :: .ref (E.1 + a.toNat) :: mst E S' := by
        have := mval_own (E := E) ha S'
        simp only [mst, List.map_cons] at this ⊢
        rw [this]
        rfl
      rw [e9]
      refine W.bast hx hb hc ((m_tys hK hm).1 _ _) (fun q => by cases q) (by rw [arrV_size]; exact m_in q1 q2 (by omega)) rfl rfl hd fun H' e1 e2 e3 => ?_
      refine h H' _ ls hl (mRep_upd hr (by omega) e2 e3 (fun b hb9 => mset_ne hb9) (fun h9 => by omega) (fun _ => ?_)) (hs.put e2 e3 (by show E.1 ≤ _; omega)) h1 h2
      rw [q0]
      refine ⟨hm, hn0, hn, ?_⟩
      rw [← mset_upd E 102 d a i v q1, ← arrV_store, e1, m_nat q1 (by omega)]
      rw [narrow_byte, m_i8b q3 q4]; rfl
    · obtain ⟨ha, hm, hn0, hn, hc⟩ := mRep_row hr (by decide) q0
      have e9 : mst E ((0, v) :: (0, i) :: (3, a) :: S') = mval E (0, v) :: .int (Int32.ofInt i) :: .ref (E.1 + a.toNat) :: mst E S' := by
        have := mval_own (E := E) ha S'
        simp only [mst, List.map_cons] at this ⊢
        rw [this]
        rfl
      rw [e9]
      refine W.zast hx hb hc ((m_tys hK hm).1 _ _) (fun q => by cases q) (by rw [arrV_size]; exact m_in q1 q2 (by omega)) rfl rfl hd fun H' e1 e2 e3 => ?_
      refine h H' _ ls hl (mRep_upd hr (by omega) e2 e3 (fun b hb9 => mset_ne hb9) (fun h9 => by omega) (fun _ => ?_)) (hs.put e2 e3 (by show E.1 ≤ _; omega)) h1 h2
      rw [q0]
      refine ⟨hm, hn0, hn, ?_⟩
      rw [← mset_upd E 103 d a i v q1, ← arrV_store, e1, m_nat q1 (by omega)]
      rw [m_zb q3]; rfl
  · exact absurd h.1 id
end SD
/-! ===== what lies outside our cells and stays ===== -/
def mNW : List Jvm.Cond := [.superclass "java/lang/Throwable" "java/lang/Object", .declares (Bundle.initS "java/lang/RuntimeException"), .declares (Bundle.initS "java/lang/Exception"), .declares (Bundle.initS "java/lang/Throwable"),
  .castable (mEn 0) (mEn 0), .castable (mEn 1) (mEn 1), .castable (mEn 2) (mEn 2), .castable (mEn 3) (mEn 3)]
-- the seven texts, and what String's methods look at
def mTXS (E : mE) (A : Nat → Prop) (U : State) (H : Heap) : Prop :=
  (∃ aV : Nat → Nat, ∀ k, k < 7 → va_O "java/lang/String" (E.2.2 k) A U H ∧ va_OF "java/lang/String" "coder" "B" (.int 0) (E.2.2 k) A U H ∧ va_OF "java/lang/String" "value" "[B" (.ref (aV k)) (E.2.2 k) A U H ∧ va_T .byte (aV k) (tsl (k : Int)).toNat (fun i => .int (Int32.ofInt (tsc (k : Int) (i : Int)))) A U H)
  ∧ va_Z "java/lang/String" "COMPACT_STRINGS" "Z" (.int 1) A U H ∧ va_Zq "jdk/internal/util/Preconditions" "SIOOBE_FORMATTER" "Ljava/util/function/BiFunction;" A U H
def mOld (E : mE) (O : mO) (A : Nat → Prop) (U : State) (H : Heap) : Prop :=
  (∀ w ∈ mNW, va_Nw w U) ∧ (∀ o, o < 16 → ∀ e ∈ mNL o, va_Nw (.methodLinkNest (mR o) e.1 (my e.2.1) mnest) U) ∧ (∀ o, o < 16 → ∀ e ∈ mTN o, va_Nw (.fieldLinkNest (mR o) e.1 mnest (mStn e.2.1) "[I" mnest) U)
  ∧ (va_AO "WaitingBureau$HourSet" U ∧ va_AO "WaitingBureau$State" U)
  ∧ (∀ k, k < 2 → va_Z mnest (mStn k) "[I" (.ref (E.2.1 k)) A U H ∧ va_T .int (E.2.1 k) 5 (fun i => .int (Int32.ofInt (O.2 (k : Int) (i : Int)))) A U H ∧ O.1 (k : Int) = 5)
  ∧ (0 ≤ O.1 2 ∧ O.1 2 ≤ 100000 ∧ va_X (E.2.1 2) (O.1 2).toNat (fun i => Int32.ofInt (O.2 2 (i : Int))) U H ∧ E.2.1 2 < H.size ∧ ¬ A (E.2.1 2))
  ∧ vx_Zq Bundle.tN "UNASSIGNED_STACK" Bundle.steD A U H ∧ vx_Zq Bundle.tN "SUPPRESSED_SENTINEL" Bundle.listD A U H
  ∧ (∀ e ∈ mXTL, ∃ sa, vk_R (mR e.1) e.2.1 e.2.2.1 sa U)
  ∧ (∀ o, o < 16 → ∀ e ∈ mSL o, vk_R (mR o) e.1 (mtx e.2.1) (E.2.2 e.2.1) U)
  ∧ (∀ a, a < 4 → ∀ b, b < 4 → a ≠ b → va_Nc (mEn a) (mEn b) U) ∧ mTXS E A U H
theorem m_superW {a b : String} {s U : State} (hW : s.WarmedH U.vm) (h : va_Nw (.superclass a b) s) : va_Nw (.superclass a b) U := by
  refine va_tabs rfl (rfl : (s.setVm U.vm).vm = U.vm) (A := #[]) (u := s.setVm U.vm) ?_
  have hA := hW.alike
  have h1 : (Jvm.Cond.superclass a b).holds #[] s none s [] = true := h
  show (Jvm.Cond.superclass a b).holds #[] (s.setVm U.vm) none (s.setVm U.vm) [] = true
  cases hc : s.vm.findClass a with
  | none => simp [Jvm.Cond.holds, Jvm.Cond.value, hc] at h1
  | some c =>
    obtain ⟨p, k, kp, e1, e2, e3, e4, e5, e6, e7⟩ := Cond.superclass_spec (args := #[]) (first := s) (o := none) (idx := []) hc h1
    obtain ⟨k', f1, f2⟩ := hA.2.2 _ _ e2
    obtain ⟨kp', f3, f4⟩ := hA.2.2 _ _ e3
    have g1 : (s.setVm U.vm).vm.findClass a = some c := by show U.vm.findClass a = some c; rw [hA.findClass]; exact hc
    have g2 : (s.setVm U.vm).vm.findClass b = some p := by show U.vm.findClass b = some p; rw [hA.findClass]; exact e1
    have g3 : (s.setVm U.vm).vm.classes[c]? = some k' := f1
    have g4 : (s.setVm U.vm).vm.classes[p]? = some kp' := f3
    simp only [Jvm.Cond.holds, Jvm.Cond.value, hc, e1, e2, e3] at h1
    simp only [Jvm.Cond.holds, Jvm.Cond.value, g1, g2, g3, g4]
    rw [f2, f4]
    exact h1
theorem mOld_to {E : mE} {O : mO} {A : Nat → Prop} {s U : State} {H H' : Heap} (h : mOld E O A s H) (hW : s.WarmedH U.vm) (hz : H.size ≤ H'.size) (hq : ∀ a : Nat, a < H.size → ¬ A a → H'[a]? = H[a]?) : mOld E O A U H' := by
  have hA := hW.alike
  obtain ⟨h1, h2, h3, h4, h5, h6, h7, h8, h9, h10, h11, ⟨aV, h12⟩, h13, h14⟩ := h
  refine ⟨fun w hw => ?_, fun o ho e he => va_Nw.warmM hW (h2 o ho e he), fun o ho e he => va_Nw.warmF hW (h3 o ho e he), ⟨va_AO.moved hA h4.1, va_AO.moved hA h4.2⟩,
    fun k hk => ⟨va_Z.moved hA ((h5 k hk).1.kept hq), va_T.moved hA ((h5 k hk).2.1.kept hq), (h5 k hk).2.2⟩, ⟨h6.1, h6.2.1, va_X.moved hA (h6.2.2.1.kept (hq _ h6.2.2.2.1 h6.2.2.2.2)), Nat.lt_of_lt_of_le h6.2.2.2.1 hz, h6.2.2.2.2⟩,
    vx_Zq.moved hA (h7.kept hq), vx_Zq.moved hA (h8.kept hq), fun e he => ?_, fun o ho e he => vk_R.warm hW (h10 o ho e he), fun a ha b hb hne => va_Nc.moved hA (h11 a ha b hb hne),
    ⟨aV, fun k hk => ⟨va_O.moved hA ((h12 k hk).1.kept hq), va_OF.moved hA ((h12 k hk).2.1.kept hq), va_OF.moved hA ((h12 k hk).2.2.1.kept hq), va_T.moved hA ((h12 k hk).2.2.2.kept hq)⟩⟩, va_Z.moved hA (h13.kept hq), va_Zq.moved hA (h14.kept hq)⟩
  · have hh := h1 w hw
    simp only [mNW, List.mem_cons, List.not_mem_nil, or_false] at hw
    rcases hw with rfl | rfl | rfl | rfl | rfl | rfl | rfl | rfl
    · exact m_superW hW hh
    · exact va_Nw.warmD hW hh
    · exact va_Nw.warmD hW hh
    · exact va_Nw.warmD hW hh
    · exact va_Nw.warmC hW hh
    · exact va_Nw.warmC hW hh
    · exact va_Nw.warmC hW hh
    · exact va_Nw.warmC hW hh
  · obtain ⟨sa, hs⟩ := h9 e he
    exact ⟨sa, vk_R.warm hW hs⟩
/-! ===== rows that are old, statics, constants, new cells ===== -/
theorem mTL_use {o i g : Nat} (ho : o < 16) (h : mlk (mTL o) i = some g) : Jvm.Cond.fieldLink (mR o) i mnest (mStn g) "[I" ∈ GW ∧ g < 2 := by
  obtain ⟨p, hp⟩ := mlk_in h
  have h1 := m_all16 mTL_ok ho hp
  have h2 := m_all16 (q := fun _ e => Nat.blt e.2.1 2) (by decide +kernel : (List.range 16).all (fun o => (mTL o).all (fun e => Nat.blt e.2.1 2)) = true) ho hp
  simp only [Nat.blt_eq] at h2
  exact ⟨mG1_in h1, h2⟩
theorem mTN_lt {o i g p : Nat} (ho : o < 16) (hp : (i, g, p) ∈ mTN o) : g < 2 := by
  have h2 := m_all16 (q := fun _ e => Nat.blt e.2.1 2) (by decide +kernel : (List.range 16).all (fun o => (mTN o).all (fun e => Nat.blt e.2.1 2)) = true) ho hp
  simpa only [Nat.blt_eq] using h2
theorem mCL_use {o i g : Nat} (ho : o < 16) (h : mlk (mCL o) i = some g) : Jvm.Cond.classLink (mR o) i (mCn g) ∈ GW ∧ g < 12 := by
  obtain ⟨p, hp⟩ := mlk_in h
  have h1 := m_all16 mCL_ok ho hp
  have h2 := m_all16 (q := fun _ e => Nat.blt e.2.1 12) (by decide +kernel : (List.range 16).all (fun o => (mCL o).all (fun e => Nat.blt e.2.1 12)) = true) ho hp
  simp only [Nat.blt_eq] at h2
  exact ⟨mG1_in h1, h2⟩
theorem mKL_use {o i : Nat} {g : Int} (ho : o < 16) (h : mlkI (mKL o) i = some g) : Jvm.Cond.constant (mR o) i (Int32.ofInt g) ∈ GW := by
  obtain ⟨p, hp⟩ := mlkI_in h
  exact mG1_in (m_all16 mKL_ok ho hp)
theorem mQL_use {o i : Nat} {g : Int} (ho : o < 16) (h : mlkI (mQL o) i = some g) : Jvm.Cond.constantLong (mR o) i (Int64.ofInt g) ∈ GW := by
  obtain ⟨p, hp⟩ := mlkI_in h
  exact mG1_in (m_all16 mQL_ok ho hp)
theorem mnew_use {k : Nat} (h : k < 12) : Jvm.Cond.instantiable (mCn k) (mnf k) ∈ GW ∧ Jvm.Cond.initialized (mCn k) ∈ GW := by
  have h1 := List.all_eq_true.mp mnew_ok k (List.mem_range.mpr h)
  simp only [Bool.and_eq_true] at h1
  exact ⟨mG1_in h1.1, mG1_in h1.2⟩
theorem marr_ok : (mG1 1085 (.arrayClass .int) && mG1 1086 (.arrayClass .boolean) && mG1 1104 (.arrayClass .long) && mG1 2058 (.arrayClass .byte)) = true := by decide +kernel
theorem marr_use : Jvm.Cond.arrayClass .int ∈ GW ∧ Jvm.Cond.arrayClass .boolean ∈ GW ∧ Jvm.Cond.arrayClass .long ∈ GW ∧ Jvm.Cond.arrayClass .byte ∈ GW := by
  have h := marr_ok
  simp only [Bool.and_eq_true] at h
  exact ⟨mG1_in h.1.1.1, mG1_in h.1.1.2, mG1_in h.1.2, mG1_in h.2⟩
/-- a new cell at the end -/
theorem mRep_new {E : mE} {D : va_G} {tc : Int → ClassId} {G : mG} {d d' : mD} {H H' : Heap} {k n : Int} (hr : mRep E D tc G d H) (h0 : 0 ≤ G.2.2) (hk : 0 ≤ k) (hz : H'.size = H.size + 1) (ho : ∀ q : Nat, q < H.size → H'[q]? = H[q]?) (hd : ∀ b, b ≠ G.2.2 → d' b = d b)
    (hO : k < 100 → mcellO E D G.2.2 k (d' G.2.2) H') (hA : 100 ≤ k → mcellA E tc G.2.2 k n (d' G.2.2) H') : mRep E D tc (mkind G.1 G.2.2 k, mkind G.2.1 G.2.2 n, G.2.2 + 1) d' H' := by
  have hs := hr.2.1 h0
  refine ⟨by rw [hz]; have := hr.1; omega, fun _ => by rw [hz, hs]; show _ = E.1 + (G.2.2 + 1).toNat; omega, fun b hb => ?_⟩
  simp only [mkind] at hb ⊢
  by_cases e : b = G.2.2
  · subst e
    rw [if_pos rfl, if_pos rfl]
    exact ⟨h0, hO, hA⟩
  · rw [if_neg e] at hb ⊢
    rw [if_neg e, hd b e]
    obtain ⟨h1, h2, h3⟩ := hr.2.2 b hb
    have hlt : E.1 + b.toNat < H.size := by
      by_cases h9 : G.1 b < 100
      · obtain ⟨-, cell, hc, -⟩ := h2 h9
        exact (Array.getElem?_eq_some_iff.mp hc).1
      · obtain ⟨-, -, -, hc⟩ := h3 (by omega)
        exact (Array.getElem?_eq_some_iff.mp hc).1
    have hq := ho _ hlt
    exact ⟨h1, fun h => ⟨(h2 h).1, (h2 h).2.kept hq⟩, fun h => ⟨(h3 h).1, (h3 h).2.1, (h3 h).2.2.1, by rw [hq]; exact (h3 h).2.2.2⟩⟩
theorem mS_new {A : Nat → Prop} {H0 H H' : Heap} {locs : List Loc} (hs : va_S A H0 H locs) (hz : H'.size = H.size + 1) (ho : ∀ q : Nat, q < H.size → H'[q]? = H[q]?) : va_S A H0 H' locs :=
  ⟨Nat.le_trans hs.1 (by omega), fun x h1 h2 => (ho x (Nat.lt_of_lt_of_le h1 hs.1)).trans (hs.2.1 x h1 h2), hs.2.2⟩
theorem mfill_ne {d : mD} {a v b : Int} (h : b ≠ a) : mfill d a v b = d b := by
  funext j
  simp [mfill, h]
theorem m_ldcS {p : Program} {l : Launch} {e : Env} {R : Room} {s : State} {m : MethodId} {args : Array Value} {below : List Frame} {meth : Method} {c : Code} {H : Heap} {locs : List Loc} {cells slots : Nat} {Q : State → Prop} {cc : ByteArray} {pc : Nat} {ls : Array Slot} {rest : List Value}
    (hx : p.tables.exec = Jvm.exec) (hb : c.code = cc) {own text : String} {index sa : Nat} (hown : s.vm.findClass own = some m.cls) (hstr : vk_R own index text sa s) (hd : decode cc pc = .ok (.ldc index, 2))
    (k : W p l e R s m args below meth c H locs cells slots Q (F0 m (pc + 2) ls (.ref sa :: rest))) : W p l e R s m args below meth c H locs cells slots Q (F0 m pc ls rest) := by
  intro T hT X
  obtain ⟨t, a, b⟩ := k T hT X
  have h1 : (Jvm.Cond.stringRef own index text).before args s = true := (vk_R.same (u := s) rfl hstr).1
  exact ⟨t, X.ldcString hx (own := own) (text := text) (index := index) (a := sa) hown hstr.1 hstr.2 (g := F0 m pc ls rest) rfl (by rw [hb]; exact hd) t a, b⟩
section SE
variable {p : Program} {l : Launch} {e : Env} {s : State} {mid : MethodId} {args : Array Value} {below : List Frame} {meth : Method} {c : Code} {Q : State → Prop}
variable {E : mE} {D : va_G} {tc : Int → ClassId} {O : mO} {j : Nat}
variable {C : Nat → List mV → mG → mD → mK → Prop} {K : mK} {pc len : Nat} {L S : List mV} {cs ss : Nat} {G : mG} {d : mD} {H : Heap} {o : Nat}

theorem s_iaload (hx : p.tables.exec = Jvm.exec) (hb : c.code = mb j) (hK : va_K D vwCl (mtys tc) s) (hOld : mOld E O (mAr E) s s.heap) (hd : decode (mb j) pc = .ok (.iaload, 1)) (h : mint (mW p l e s mid args below meth c Q E D tc j) C j K (mX O j 1 (.iaload) pc L S cs ss G d)) : mW p l e s mid args below meth c Q E D tc j (pc, L, S, cs, ss, G, d) := by
  obtain ⟨-, -, -, -, hst, hsc, -⟩ := hOld
  simp only [mX] at h
  split at h
  · rename_i i a S'
    obtain ⟨⟨q0, q1, q2⟩, h⟩ := h
    intro H locs ls hl hr hs h1 h2
    obtain ⟨ha, hm, hn0, hn, hc⟩ := mRep_row hr (by decide) q0
    rw [mval_row ha _ (0, _) rfl]
    have hlt : i.toNat < (G.2.1 a).toNat := by omega
    exact W.iald (v := .int (Int32.ofInt (d a i))) hx hb hc ((m_tys hK hm).1 _ _) (fun q => by cases q) (by rw [arrV_size]; exact m_in q1 q2 (by omega)) (by rw [m_nat q1 (by omega), arrV_read _ _ hlt]; simp only [mrow, Int.toNat_of_nonneg q1]; rfl) rfl rfl hd (h H locs ls hl hr hs h1 h2)
  · rename_i i k S'
    obtain ⟨⟨q0, q1, q2⟩, h⟩ := h
    intro H locs ls hl hr hs h1 h2
    obtain rfl | rfl | rfl : k = 0 ∨ k = 1 ∨ k = 2 := q0
    · obtain ⟨-, hT, h5⟩ := hst 0 (by decide)
      have h5 : O.1 0 = 5 := h5
      exact va_ti hx hb hT hs (by rw [h5] at q2; exact m_in q1 q2 (by omega)) (v := .int (Int32.ofInt (O.2 0 i))) (by rw [m_nat q1 (by omega)]; simp only [Int.toNat_of_nonneg q1]; rfl) hd (h H locs ls hl hr hs h1 h2)
    · obtain ⟨-, hT, h5⟩ := hst 1 (by decide)
      have h5 : O.1 1 = 5 := h5
      exact va_ti hx hb hT hs (by rw [h5] at q2; exact m_in q1 q2 (by omega)) (v := .int (Int32.ofInt (O.2 1 i))) (by rw [m_nat q1 (by omega)]; simp only [Int.toNat_of_nonneg q1]; rfl) hd (h H locs ls hl hr hs h1 h2)
    · obtain ⟨h7, h8, hX, hlt, hnA⟩ := hsc
      have kk := h H locs ls hl hr hs h1 h2
      refine va_sld hx hb hX hlt hnA hs (i := Int32.ofInt i) (m_in q1 q2 (by omega)) hd ?_
      rw [m_nat q1 (by omega)]
      simp only [Int.toNat_of_nonneg q1]
      exact kk
  · exact absurd h.1 id
theorem s_arraylength (hx : p.tables.exec = Jvm.exec) (hb : c.code = mb j) (hK : va_K D vwCl (mtys tc) s) (hOld : mOld E O (mAr E) s s.heap) (hd : decode (mb j) pc = .ok (.arraylength, 1)) (h : mint (mW p l e s mid args below meth c Q E D tc j) C j K (mX O j 1 (.arraylength) pc L S cs ss G d)) : mW p l e s mid args below meth c Q E D tc j (pc, L, S, cs, ss, G, d) := by
  obtain ⟨-, -, -, -, hst, hsc, -⟩ := hOld
  simp only [mX] at h
  split at h
  · rename_i k S'
    obtain ⟨q0, h⟩ := h
    intro H locs ls hl hr hs h1 h2
    subst q0
    obtain ⟨h7, h8, hX, hlt, hnA⟩ := hsc
    have kk := h H locs ls hl hr hs h1 h2
    refine va_slen hx hb hX hlt hnA hs hd ?_
    rw [show Int32.ofNat (O.1 2).toNat = Int32.ofInt (O.1 2) by rw [← Int32.ofInt_eq_ofNat, Int.toNat_of_nonneg h7]]
    exact kk
  · rename_i a S'
    obtain ⟨q0, h⟩ := h
    intro H locs ls hl hr hs h1 h2
    obtain ⟨ha, hm, hn0, hn, hc⟩ := mRep_row hr q0 rfl
    rw [mval_own ha]
    refine W.alen (n := Int32.ofInt (G.2.1 a)) hx hb hc ((m_tys hK hm).1 _ _) (by rw [arrV_size]; exact (by rw [← Int32.ofInt_eq_ofNat, Int.toNat_of_nonneg hn0] : Int32.ofNat (G.2.1 a).toNat = _)) rfl rfl hd (h H locs ls hl hr hs h1 h2)
  · exact absurd h.1 id
theorem s_getstatic (hx : p.tables.exec = Jvm.exec) (hb : c.code = mb j) {idx g : Nat} (hG : ∀ w ∈ GW, w.before args s = true) (ho : o < 16) (hown : s.vm.findClass (mR o) = some mid.cls) (hOld : mOld E O (mAr E) s s.heap) (hlk : mlk (mTL o) idx = some g) (hd : decode (mb j) pc = .ok (.getstatic idx, 3)) (h : mint (mW p l e s mid args below meth c Q E D tc j) C j K (mX O j 3 (.getstatic g) pc L S cs ss G d)) : mW p l e s mid args below meth c Q E D tc j (pc, L, S, cs, ss, G, d) := by
  obtain ⟨hw, hg⟩ := mTL_use ho hlk
  obtain ⟨-, -, -, -, hst, -⟩ := hOld
  intro H locs ls hl hr hs h1 h2
  exact va_gets hx hb (hst g hg).1 hs hown (hG _ hw) (fun _ z => z) hd (h H locs ls hl hr hs h1 h2)
theorem s_getstaticN (hx : p.tables.exec = Jvm.exec) (hb : c.code = mb j) {idx g : Nat} (hG : ∀ w ∈ GW, w.before args s = true) (ho : o < 16) (hown : s.vm.findClass (mR o) = some mid.cls) (hOld : mOld E O (mAr E) s s.heap) (hlk : mlk (mTN o) idx = some g) (hd : decode (mb j) pc = .ok (.getstatic idx, 3)) (h : mint (mW p l e s mid args below meth c Q E D tc j) C j K (mX O j 3 (.getstatic g) pc L S cs ss G d)) : mW p l e s mid args below meth c Q E D tc j (pc, L, S, cs, ss, G, d) := by
  obtain ⟨p9, hp⟩ := mlk_in hlk
  have hg := mTN_lt ho hp
  obtain ⟨-, -, hn, -, hst, -⟩ := hOld
  intro H locs ls hl hr hs h1 h2
  have hl9 : (Jvm.Cond.fieldLinkNest (mR o) idx mnest (mStn g) "[I" mnest).before args s = true := va_Nw.use (w := .fieldLinkNest (mR o) idx mnest (mStn g) "[I" mnest) (by rfl) (hn o ho _ hp)
  exact va_getsN (C := mnest) (n := mStn g) (d := "[I") (own := mR o) (ref := mnest) (host := mnest) (v := .ref (E.2.1 g)) hx hb (hst g hg).1 hs hown hl9 (fun _ z => z) hd (h H locs ls hl hr hs h1 h2)
theorem s_ldcI (hx : p.tables.exec = Jvm.exec) (hb : c.code = mb j) {idx : Nat} {g : Int} (hG : ∀ w ∈ GW, w.before args s = true) (ho : o < 16) (hown : s.vm.findClass (mR o) = some mid.cls) (hlk : mlkI (mKL o) idx = some g) (hd : decode (mb j) pc = .ok (.ldc idx, 2)) (h : mint (mW p l e s mid args below meth c Q E D tc j) C j K (mX O j 2 (.sipush g) pc L S cs ss G d)) : mW p l e s mid args below meth c Q E D tc j (pc, L, S, cs, ss, G, d) := by
  exact mW_go hx hb h (fun H locs ls hl k => lv_ldc hx hb hown (hG _ (mKL_use ho hlk)) hd k)
theorem s_ldcwI (hx : p.tables.exec = Jvm.exec) (hb : c.code = mb j) {idx : Nat} {g : Int} (hG : ∀ w ∈ GW, w.before args s = true) (ho : o < 16) (hown : s.vm.findClass (mR o) = some mid.cls) (hlk : mlkI (mKL o) idx = some g) (hd : decode (mb j) pc = .ok (.ldc_w idx, 3)) (h : mint (mW p l e s mid args below meth c Q E D tc j) C j K (mX O j 3 (.sipush g) pc L S cs ss G d)) : mW p l e s mid args below meth c Q E D tc j (pc, L, S, cs, ss, G, d) := by
  exact mW_go hx hb h (fun H locs ls hl k => lv_ldcw hx hb hown (hG _ (mKL_use ho hlk)) hd k)
theorem s_ldc2 (hx : p.tables.exec = Jvm.exec) (hb : c.code = mb j) {idx : Nat} {g : Int} (hG : ∀ w ∈ GW, w.before args s = true) (ho : o < 16) (hown : s.vm.findClass (mR o) = some mid.cls) (hlk : mlkI (mQL o) idx = some g) (hd : decode (mb j) pc = .ok (.ldc2_w idx, 3)) (h : mint (mW p l e s mid args below meth c Q E D tc j) C j K (mX O j 3 (.jsr_w g) pc L S cs ss G d)) : mW p l e s mid args below meth c Q E D tc j (pc, L, S, cs, ss, G, d) := by
  exact mW_go hx hb h (fun H locs ls hl k => lv_ldc2 hx hb hown (hG _ (mQL_use ho hlk)) hd k)
theorem s_ldcS (hx : p.tables.exec = Jvm.exec) (hb : c.code = mb j) {idx g : Nat} (hG : ∀ w ∈ GW, w.before args s = true) (ho : o < 16) (hown : s.vm.findClass (mR o) = some mid.cls) (hOld : mOld E O (mAr E) s s.heap) (hlk : mlk (mSL o) idx = some g) (hd : decode (mb j) pc = .ok (.ldc idx, 2)) (h : mint (mW p l e s mid args below meth c Q E D tc j) C j K (mX O j 2 (.ldc g) pc L S cs ss G d)) : mW p l e s mid args below meth c Q E D tc j (pc, L, S, cs, ss, G, d) := by
  obtain ⟨p9, hp⟩ := mlk_in hlk
  obtain ⟨-, -, -, -, -, -, -, -, -, hsl, -⟩ := hOld
  exact mW_go hx hb h (fun H locs ls hl k => m_ldcS hx hb hown (hsl o ho _ hp) hd k)
theorem s_new (hx : p.tables.exec = Jvm.exec) (hb : c.code = mb j) {idx g : Nat} (hG : ∀ w ∈ GW, w.before args s = true) (ho : o < 16) (hown : s.vm.findClass (mR o) = some mid.cls) (hK : va_K D vwCl (mtys tc) s) (hlk : mlk (mCL o) idx = some g) (hd : decode (mb j) pc = .ok (.new idx, 3)) (h : mint (mW p l e s mid args below meth c Q E D tc j) C j K (mX O j 3 (.new g) pc L S cs ss G d)) : mW p l e s mid args below meth c Q E D tc j (pc, L, S, cs, ss, G, d) := by
  obtain ⟨hw, hg⟩ := mCL_use ho hlk
  obtain ⟨T, ty, hT⟩ := mcls hg
  obtain ⟨hi1, hi2⟩ := mnew_use hg
  simp only [mX] at h
  obtain ⟨⟨q0, q1, q2⟩, h⟩ := h
  intro H locs ls hl hr hs h1 h2
  have hKn := hK.1 g _ hT.1
  have hsz := hr.2.1 q0
  have e9 : mst E ((3, G.2.2) :: S) = .ref H.size :: mst E S := by rw [mval_own q0, hsz]
  refine W.newcK hx hb hown (hG _ hw) (hG _ hi1) (hG _ hi2) rfl hd q1 q2 hKn.2.1 rfl fun H' kC hkC e1 z1 o1 => ?_
  have kk := h H' locs ls hl ?_ (mS_new hs z1 o1) q1 q2
  · rw [e9] at kk
    exact kk
  · refine mRep_new hr q0 (by omega) z1 o1 (fun b hb9 => by funext z; simp [hb9]) (fun _ => ⟨by omega, ?_⟩) (fun h9 => by omega)
    have hb9 := u_born ty hG (mcls_ws hg hT) hKn hkC e1 hT.2.2.1
    rw [hsz] at hb9
    refine hb9.to (fun i hi => ?_)
    rw [hT.2.2.2.2.1 E.1 i hi]
    simp only [mfun, if_true, Int.toNat_natCast]
theorem s_anewarray (hx : p.tables.exec = Jvm.exec) (hb : c.code = mb j) {idx g : Nat} (hG : ∀ w ∈ GW, w.before args s = true) (ho : o < 16) (hown : s.vm.findClass (mR o) = some mid.cls) (hK : va_K D vwCl (mtys tc) s) (hOld : mOld E O (mAr E) s s.heap) (hlk : mlk (mCL o) idx = some g) (hg9 : g = 1 ∨ g = 6) (hd : decode (mb j) pc = .ok (.anewarray idx, 3)) (h : mint (mW p l e s mid args below meth c Q E D tc j) C j K (mX O j 3 (.anewarray g) pc L S cs ss G d)) : mW p l e s mid args below meth c Q E D tc j (pc, L, S, cs, ss, G, d) := by
  obtain ⟨hw, hg⟩ := mCL_use ho hlk
  obtain ⟨-, -, -, hAO, -⟩ := hOld
  simp only [mX] at h
  split at h
  · rename_i n S'
    obtain ⟨⟨q0, q1, q2, q3, q4⟩, h⟩ := h
    intro H locs ls hl hr hs h1 h2
    have hsz := hr.2.1 q2
    have e9 : mst E ((3, G.2.2) :: S') = .ref H.size :: mst E S' := by rw [mval_own q2, hsz]
    have hover : va_AO (mCn g) s := by
      rcases hg9 with rfl | rfl
      · exact hAO.1
      · exact hAO.2
    have hmk : (200 + (g : Int)) ∈ mkinds ∧ metyF (200 + (g : Int)) = .object (mCn g) := by
      rcases hg9 with rfl | rfl
      · exact ⟨by decide, rfl⟩
      · exact ⟨by decide, rfl⟩
    have hn : (Int32.ofInt n).toNatClampNeg = n.toNat := m_nat q0 (by omega)
    refine W.anew hx hb hown (hG _ hw) (va_AO.use hover) rfl hd rfl (m_nneg q0 (by omega)) (by rw [hn]; omega) q3 (by rw [hn]; exact q4) fun cA kA comp f1 f2 f3 f4 => ?_
    rw [hn]
    have hcA : cA = tc (200 + (g : Int)) := by
      have h9 := (m_tys hK hmk.1).2
      rw [hmk.2] at h9
      obtain ⟨_, _, _, _, _, h9⟩ := h9
      exact Option.some.inj (f1.symm.trans h9)
    generalize hH1 : H.push ({ cls := cA, slots := Array.replicate n.toNat .null, vm := .none } : Cell) = H1
    have z1 : H1.size = H.size + 1 := by rw [← hH1, Array.size_push]
    have e1 : H1[H.size]? = some (arrV cA n.toNat (fun _ => .null)) := by rw [← hH1, Array.getElem?_push_size, ← arrV_new]
    have o1 : ∀ q : Nat, q < H.size → H1[q]? = H[q]? := fun q hq => by rw [← hH1, Array.getElem?_push, if_neg (Nat.ne_of_lt hq)]
    have kk := h H1 locs ls hl ?_ (mS_new hs z1 o1) q3 q4
    · rw [e9] at kk
      exact kk
    · refine mRep_new hr q2 (by omega) z1 o1 (fun b hb9 => mfill_ne hb9) (fun h9 => by omega) (fun _ => ⟨hmk.1, q0, q1, ?_⟩)
      rw [← hsz, e1, hcA]
      congr 2
      funext z
      simp only [mrow, mfill, if_true]
      rw [show mety (200 + (g : Int)) = 4 by rcases hg9 with rfl | rfl <;> rfl]
      rfl
  · exact absurd h.1 id
theorem s_newarray (hx : p.tables.exec = Jvm.exec) (hb : c.code = mb j) {t : ArrayType} (hG : ∀ w ∈ GW, w.before args s = true) (ho : o < 16) (hown : s.vm.findClass (mR o) = some mid.cls) (hK : va_K D vwCl (mtys tc) s) (hd : decode (mb j) pc = .ok (.newarray t, 2)) (h : mint (mW p l e s mid args below meth c Q E D tc j) C j K (mX O j 2 (.newarray t) pc L S cs ss G d)) : mW p l e s mid args below meth c Q E D tc j (pc, L, S, cs, ss, G, d) := by
  simp only [mX] at h
  split at h
  · rename_i n S'
    obtain ⟨⟨q0, q1, q2, q3, q4, q5⟩, h⟩ := h
    intro H locs ls hl hr hs h1 h2
    have hsz := hr.2.1 q2
    have e9 : mst E ((3, G.2.2) :: S') = .ref H.size :: mst E S' := by rw [mval_own q2, hsz]
    have hn : (Int32.ofInt n).toNatClampNeg = n.toNat := m_nat q0 (by omega)
    have hmk : matyp t ∈ mkinds ∧ metyF (matyp t) = newarray.typeOf t ∧ Jvm.Cond.arrayClass (newarray.typeOf t) ∈ GW ∧ componentBytes (newarray.typeOf t) ≤ 8 ∧ (∀ B, defaultValue (newarray.typeOf t) = mslot B (mety (matyp t)) 0) ∧ 100 ≤ matyp t := by
      have ma := marr_use
      cases t <;> first | exact absurd rfl q5 | exact ⟨by decide, rfl, ma.1, by decide, fun _ => rfl, by decide⟩ | exact ⟨by decide, rfl, ma.2.1, by decide, fun _ => rfl, by decide⟩ | exact ⟨by decide, rfl, ma.2.2.1, by decide, fun _ => rfl, by decide⟩ | exact ⟨by decide, rfl, ma.2.2.2, by decide, fun _ => rfl, by decide⟩
    obtain ⟨m1, m2, m3, m4, m5, m6⟩ := hmk
    have hbytes : n.toNat * componentBytes (newarray.typeOf t) ≤ 536870912 := Nat.le_trans (Nat.mul_le_mul (show n.toNat ≤ 100000 by omega) m4) (by decide)
    refine va_newaK hx hb (hG _ m3) rfl hd rfl (m_nneg q0 (by omega)) hn hbytes q3 q4 rfl fun H1 cA e1 z1 o1 hAr hNm => ?_
    have hcA : cA = tc (matyp t) := by
      have h9 := (m_tys hK m1).2
      rw [m2] at h9
      have h9 : s.vm.findClass ("[" ++ (newarray.typeOf t).toString) = some (tc (matyp t)) := by
        cases t <;> exact h9
      exact Option.some.inj (hNm.symm.trans h9)
    have kk := h H1 locs ls hl ?_ (mS_new hs z1 o1) q3 q4
    · rw [e9] at kk
      exact kk
    · refine mRep_new hr q2 (by omega) z1 o1 (fun b hb9 => mfill_ne hb9) (fun h9 => by omega) (fun _ => ⟨m1, q0, q1, ?_⟩)
      rw [← hsz, e1, hcA]
      congr 2
      funext z
      simp only [mrow, mfill, if_true]
      exact m5 E.1
  · exact absurd h.1 id
theorem s_aastore (hx : p.tables.exec = Jvm.exec) (hb : c.code = mb j) (hK : va_K D vwCl (mtys tc) s) (hd : decode (mb j) pc = .ok (.aastore, 1)) (h : mint (mW p l e s mid args below meth c Q E D tc j) C j K (mX O j 1 (.aastore) pc L S cs ss G d)) : mW p l e s mid args below meth c Q E D tc j (pc, L, S, cs, ss, G, d) := by
  simp only [mX] at h
  split at h
  · rename_i v i a S'
    obtain ⟨⟨q0, q3, q4, q1, q2⟩, h⟩ := h
    intro H locs ls hl hr hs h1 h2
    obtain ⟨ha, hm, hn0, hn, hc⟩ := mRep_row hr (by omega) (rfl : G.1 a = G.1 a)
    have hq : G.1 a = 201 ∨ G.1 a = 206 := by
      simp only [mkinds, List.mem_cons, List.not_mem_nil, or_false] at hm
      omega
    obtain ⟨g, hg9, hga⟩ : ∃ g : Nat, (g = 1 ∨ g = 6) ∧ G.1 a = 200 + (g : Int) := by
      rcases hq with q | q
      · exact ⟨1, Or.inl rfl, q⟩
      · exact ⟨6, Or.inr rfl, q⟩
    have hgv : G.1 v = (g : Int) := by omega
    obtain ⟨hv0, hO, -⟩ := hr.2.2 v (by omega)
    obtain ⟨-, cellV, g1, g2, g3, -⟩ := hO (by rcases hg9 with rfl | rfl <;> omega)
    have hg12 : g < 12 := by rcases hg9 with rfl | rfl <;> decide
    obtain ⟨T, ty, hT⟩ := mcls hg12
    have hcls := (hK.1 g _ hT.1).2
    have hmE : metyF (G.1 a) = .object (mCn g) := by
      rw [hga]
      rcases hg9 with rfl | rfl <;> rfl
    have hra := (m_tys hK hm).2
    rw [hmE] at hra
    obtain ⟨kA, comp, k1, k2, k3, -⟩ := hra
    have hcomp : comp = D.1 g := Option.some.inj (k3.symm.trans hcls.1)
    subst hcomp
    obtain ⟨kC, hkC, -⟩ := hcls.2
    rw [hgv, Int.toNat_natCast] at g2
    have e9 : mst E ((3, v) :: (0, i) :: (3, a) :: S') = .ref (E.1 + v.toNat) :: .int (Int32.ofInt i) :: .ref (E.1 + a.toNat) :: mst E S' := by
      have h8 := mval_own (E := E) ha S'
      have h9 := mval_own (E := E) hv0 ((0, i) :: (3, a) :: S')
      rw [h9]
      simp only [mst, List.map_cons] at h8 ⊢
      rw [h8]
      rfl
    rw [e9]
    have hlt : i.toNat < (G.2.1 a).toNat := by omega
    refine W.aast hx hb hc (fun q h => by cases h) (fun h => by cases h) k1 k2 rfl hkC ⟨m_nneg q1 (by omega), by rw [m_nat q1 (by omega), arrV_size]; exact hlt⟩ g1 (fun q h => by rw [g3] at h; cases h) (by rw [g2]; exact hkC) (by rw [g2]; exact va_assign hcls) rfl rfl hd fun H' e1 e2 e3 => ?_
    refine h H' _ ls hl (mRep_upd hr (by omega) e2 e3 (fun b hb9 => mset_ne hb9) (fun h9 => by omega) (fun _ => ?_)) (hs.put e2 e3 (by show E.1 ≤ _; omega)) h1 h2
    refine ⟨hm, hn0, hn, ?_⟩
    rw [← mset_upd E (G.1 a) d a i v q1, ← arrV_store, e1, m_nat q1 (by omega)]
    congr 2
    rw [hga, show mety (200 + (g : Int)) = 4 by rcases hg9 with rfl | rfl <;> rfl]
    show Value.ref _ = if v < 0 then Value.null else Value.ref (E.1 + v.toNat)
    rw [if_neg (by omega)]
  · exact absurd h.1 id
end SE
