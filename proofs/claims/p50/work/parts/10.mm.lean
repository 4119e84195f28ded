/-! ===== the small machine: a computable reading of the bytecode over whole numbers ===== -/
-- a value: its tag (0 int, 1 long, 2 double's bits, 3 one of our cells or null, 4 an old int row, 5 a text, 6 another object, 7 nothing) and a number
abbrev mV : Type := Nat × Int
-- the cells: kind (a number of 'vwCl'; 100 int[], 101 long[], 102 byte[], 103 boolean[], 200 + number: rows of objects; below 0: none), length, the next cell (below 0: not known)
abbrev mG : Type := (Int → Int) × (Int → Int) × Int
-- what lies in cell a at place i
abbrev mD : Type := Int → Int → Int
-- pc, locals, stack, cells and slots made here, cells, contents
abbrev mSt : Type := Nat × List mV × List mV × Nat × Nat × mG × mD
abbrev mRes : Type := Option mV ⊕ Nat
abbrev mNx : Type := mSt ⊕ ((Prop × mSt) ⊕ ((Prop × List (Prop × mSt)) ⊕ ((Prop × Nat × List mV × mSt) ⊕ (Prop × mRes × mG × mD))))
-- lengths and contents of the old rows
abbrev mO : Type := (Int → Int) × (Int → Int → Int)
def mu : mV := (7, 0)
def mget : List mV → Nat → mV
  | [], _ => mu
  | v :: _, 0 => v
  | _ :: l, i + 1 => mget l i
def mc2 (v : mV) : Bool := Nat.beq v.1 1 || Nat.beq v.1 2
def mput1 : List mV → Nat → mV → List mV
  | [], _, _ => []
  | _ :: l, 0, v => v :: l
  | w :: l, 1, v => (bif mc2 w then mu else w) :: mput1 l 0 v
  | w :: l, i + 2, v => w :: mput1 l (i + 1) v
def mhead : List mV → List mV
  | [] => []
  | _ :: l => mu :: l
def mput2 : List mV → Nat → mV → List mV
  | [], _, _ => []
  | _ :: l, 0, v => v :: mhead l
  | w :: l, 1, v => (bif mc2 w then mu else w) :: mput2 l 0 v
  | w :: l, i + 2, v => w :: mput2 l (i + 1) v
def mInR (x : Int) : Prop := -2147483648 ≤ x ∧ x ≤ 2147483647
def mInL (x : Int) : Prop := -9223372036854775808 ≤ x ∧ x ≤ 9223372036854775807
def mset (d : mD) (a i v : Int) : mD := fun b j => if b = a ∧ j = i then v else d b j
def mfill (d : mD) (a v : Int) : mD := fun b j => if b = a then v else d b j
def mcopy (d : mD) (x sp y dp n : Int) : mD := fun b j => if b = y ∧ dp ≤ j ∧ j < dp + n then d x (sp + (j - dp)) else d b j
def mkind (f : Int → Int) (a v : Int) : Int → Int := fun b => if b = a then v else f b
def mcmp (x y : Int) : Int := if x < y then -1 else if x = y then 0 else 1
def mmax (x y : Int) : Int := if x < y then y else x
def mmin (x y : Int) : Int := if y < x then y else x
def mI (f : Int32 → Int32 → Int32) (x y : Int) : Int := (f (Int32.ofInt x) (Int32.ofInt y)).toInt
def mJ (f : Int64 → Int64 → Int64) (x y : Int) : Int := (f (Int64.ofInt x) (Int64.ofInt y)).toInt
def miand : Int → Int → Int := mI (fun x y => x &&& y)
def mior : Int → Int → Int := mI (fun x y => x ||| y)
def mixor : Int → Int → Int := mI (fun x y => x ^^^ y)
def mishl : Int → Int → Int := mI (fun x y => x <<< (y &&& 31))
def mishr : Int → Int → Int := mI (fun x y => x >>> (y &&& 31))
def miushr : Int → Int → Int := mI (fun x y => (x.toUInt32 >>> (y.toUInt32 &&& Int32.toUInt32 31)).toInt32)
def mland : Int → Int → Int := mJ (fun x y => x &&& y)
def mlor : Int → Int → Int := mJ (fun x y => x ||| y)
def mlxor : Int → Int → Int := mJ (fun x y => x ^^^ y)
def mlshl (x y : Int) : Int := (Int64.ofInt x <<< ((Int32.ofInt y).toInt64 &&& 63)).toInt
def mlushr (x y : Int) : Int := (((Int64.ofInt x).toUInt64 >>> ((Int32.ofInt y).toInt64.toUInt64 &&& 63))).toInt64.toInt
def mi2b (x : Int) : Int := (Int32.ofInt x).toInt8.toInt32.toInt
def ml2i (x : Int) : Int := (Int64.ofInt x).toInt32.toInt
def mbit (x : Int) : UInt64 := UInt64.ofNat x.toNat
def mof (x : UInt64) : Int := (x.toNat : Int)
def mi2d (x : Int) : Int := mof (FP.i2d (Int32.ofInt x))
def mddiv (x y : Int) : Int := mof (FP.ddiv (mbit x) (mbit y))
def mdcmp (op : CmpOp) (x y : Int) : Int := (Op.cmpValue (FP.dcmp (mbit x) (mbit y)) op).toInt
-- a condition on one or two numbers
def mcond : ClassFile.Cond → Int → Int → Prop
  | .eq, x, y => x = y
  | .ne, x, y => ¬ x = y
  | .lt, x, y => x < y
  | .ge, x, y => y ≤ x
  | .gt, x, y => y < x
  | .le, x, y => x ≤ y
def mncond : ClassFile.Cond → Int → Int → Prop
  | .eq, x, y => ¬ x = y
  | .ne, x, y => x = y
  | .lt, x, y => y ≤ x
  | .ge, x, y => x < y
  | .gt, x, y => x ≤ y
  | .le, x, y => y < x
-- where the cells lie: 900 is the first one made (the numbers' source), then 0 to 768 (the class), then 901 and on
def mtau (a : Int) : Nat := if a < 900 then a.toNat + 1 else (a - 900).toNat + (if a = 900 then 0 else 769)
def mnxt (a : Int) : Int := if a = 900 then 0 else if a = 768 then 901 else a + 1
def mreal (a : Int) : Prop := 0 ≤ a ∧ (a < 769 ∨ 900 ≤ a)
def msig (z : Nat) : Int := if z = 0 then 900 else if z ≤ 769 then (z : Int) - 1 else (z : Int) + 131
theorem mtau_nxt {a : Int} (h : mreal a) : mtau (mnxt a) = mtau a + 1 := by
  unfold mreal at h
  unfold mtau mnxt
  repeat' split
  all_goals omega
theorem mreal_nxt {a : Int} (h : mreal a) : mreal (mnxt a) := by
  unfold mreal at h ⊢
  unfold mnxt
  repeat' split
  all_goals omega
theorem mtau_inj {a b : Int} (ha : mreal a) (hb : mreal b) (h : mtau a = mtau b) : a = b := by
  unfold mreal at ha hb
  unfold mtau at h
  repeat' split at h
  all_goals omega
theorem msig_tau (z : Nat) : mreal (msig z) ∧ mtau (msig z) = z := by
  unfold mreal msig mtau
  repeat' split
  all_goals omega
def mi2c (x : Int) : Int := ((Int32.ofInt x).toUInt32 % 65536).toInt32.toInt
-- a text's letters into a row
def mlet (d : mD) (a i k : Int) (tl : Int) (tc : Int → Int) : mD := fun b j => if b = a ∧ i ≤ j ∧ j < i + tl then tc (j - i) else d b j
/-! ===== one step of the small machine ===== -/
abbrev mK : Type := mRes → mG → mD → Prop
abbrev mgo (st : mSt) : mNx := .inl st
abbrev mif (p : Prop) (st : mSt) : mNx := .inr (.inl (p, st))
abbrev mbr (p : Prop) (bs : List (Prop × mSt)) : mNx := .inr (.inr (.inl (p, bs)))
abbrev mcal (p : Prop) (j : Nat) (as : List mV) (st : mSt) : mNx := .inr (.inr (.inr (.inl (p, j, as, st))))
abbrev mfin (p : Prop) (r : mRes) (G : mG) (d : mD) : mNx := .inr (.inr (.inr (.inr (p, r, G, d))))
abbrev mbad (G : mG) (d : mD) : mNx := mfin False (.inr 0) G d
def mpop : Nat → List mV → List mV → Option (List mV × List mV)
  | 0, S, as => some (as, S)
  | _ + 1, [], _ => none
  | n + 1, v :: S, as => mpop n S (v :: as)
def mcats : List mV → Nat
  | [] => 0
  | v :: S => (bif mc2 v then 2 else 1) + mcats S
def mlay : List mV → List mV
  | [] => []
  | v :: l => bif mc2 v then v :: mu :: mlay l else v :: mlay l
def mpad : Nat → List mV → List mV
  | 0, _ => []
  | n + 1, [] => mu :: mpad n []
  | n + 1, v :: l => v :: mpad n l
def mloc (j : Nat) (as : List mV) : List mV := mpad (mmaxL j) (mlay as)
-- the receiver is of the method's own kind
def mrecv (j : Nat) (as : List mV) (kd : Int → Int) : Prop := match mkd j with
  | 0 => True
  | _ => match as with
    | (3, a) :: _ => kd a = (mcl j : Int)
    | _ => False
def mroom (m j : Nat) : Bool := Nat.ble (mdep j + 1) (mdep m) && Nat.ble (8 + (mmaxL j + 11) + mneed j) (mneed m)
def mbud (m j : Nat) (as S : List mV) (c s : Nat) : Prop := mroom m j = true ∧ Nat.ble (mlay as).length (mmaxL j) = true ∧ mcats S ≤ 8 ∧ c + mmc j ≤ mmc m ∧ s + mms j ≤ mms m
-- room for the machine's own helpers
-- the texts: how long, their bytes
def tsl (k : Int) : Int := if k = 0 then 6 else if k = 1 then 6 else if k = 2 then 6 else if k = 3 then 4 else if k = 4 then 4 else if k = 5 then 5 else if k = 6 then 7 else if k = 7 then 6 else if k = 8 then 8 else if k = 9 then 2 else if k = 10 then 8 else if k = 11 then 5 else if k = 12 then 6 else if k = 13 then 2 else if k = 14 then 2 else if k = 15 then 1 else 0
def tsc (k i : Int) : Int := if k = 0 then (if i = 0 then 98 else if i = 1 then 117 else if i = 2 then 114 else if i = 3 then 101 else if i = 4 then 97 else if i = 5 then 117 else 0) else if k = 1 then (if i = 0 then 111 else if i = 1 then 102 else if i = 2 then 102 else if i = 3 then 105 else if i = 4 then 99 else if i = 5 then 101 else 0) else if k = 2 then (if i = 0 then 112 else if i = 1 then 101 else if i = 2 then 114 else if i = 3 then 115 else if i = 4 then 111 else if i = 5 then 110 else 0) else if k = 3 then (if i = 0 then 106 else if i = 1 then 111 else if i = 2 then 105 else if i = 3 then 110 else 0) else if k = 4 then (if i = 0 then 112 else if i = 1 then 97 else if i = 2 then 115 else if i = 3 then 115 else 0) else if k = 5 then (if i = 0 then 99 else if i = 1 then 108 else if i = 2 then 97 else if i = 3 then 105 else if i = 4 then 109 else 0) else if k = 6 then (if i = 0 then 119 else if i = 1 then 105 else if i = 2 then 116 else if i = 3 then 110 else if i = 4 then 101 else if i = 5 then 115 else if i = 6 then 115 else 0) else if k = 7 then (if i = 0 then 98 else if i = 1 then 117 else if i = 2 then 114 else if i = 3 then 101 else if i = 4 then 97 else if i = 5 then 117 else 0) else if k = 8 then (if i = 0 then 111 else if i = 1 then 102 else if i = 2 then 102 else if i = 3 then 105 else if i = 4 then 99 else if i = 5 then 101 else if i = 6 then 32 else if i = 7 then 111 else 0) else if k = 9 then (if i = 0 then 59 else if i = 1 then 10 else 0) else if k = 10 then (if i = 0 then 112 else if i = 1 then 101 else if i = 2 then 114 else if i = 3 then 115 else if i = 4 then 111 else if i = 5 then 110 else if i = 6 then 32 else if i = 7 then 112 else 0) else if k = 11 then (if i = 0 then 112 else if i = 1 then 97 else if i = 2 then 115 else if i = 3 then 115 else if i = 4 then 32 else 0) else if k = 12 then (if i = 0 then 106 else if i = 1 then 111 else if i = 2 then 105 else if i = 3 then 110 else if i = 4 then 32 else if i = 5 then 112 else 0) else if k = 13 then (if i = 0 then 32 else if i = 1 then 111 else 0) else if k = 14 then (if i = 0 then 32 else if i = 1 then 59 else 0) else if k = 15 then (if i = 0 then 112 else 0) else 0
def tnn : Int := 16
def mroomS (m : Nat) (S : List mV) : Prop := 4 ≤ mdep m ∧ mcats S ≤ 8 ∧ 85 ≤ mneed m
-- what bytes and truths may hold
def mcpk (k : Int) (f : Int → Int) (sp n : Int) : Prop := (k = 102 → ∀ i, sp ≤ i → i < sp + n → -128 ≤ f i ∧ f i ≤ 127) ∧ (k = 103 → ∀ i, sp ≤ i → i < sp + n → f i = 0 ∨ f i = 1)
def mroomB (m : Nat) (S : List mV) : Prop := 6 ≤ mdep m ∧ mcats S ≤ 8 ∧ 120 ≤ mneed m
def mroomN (m : Nat) (S : List mV) (k : Nat) : Prop := 1 ≤ mdep m ∧ mcats S + k ≤ mneed m
def mroomT (m : Nat) (S : List mV) (c s : Nat) : Prop := 5 < mdep m ∧ mcats S + 82 ≤ mneed m ∧ c + 1 ≤ mmc m ∧ s + 6 ≤ mms m
def msw (x : Int) (pc : Nat → mSt) : Int → List Int → List (Prop × mSt)
  | _, [] => []
  | k, t :: ts => (x = k, pc t.toNat) :: msw x pc (k + 1) ts
-- what may be put into a field or a row of this type (0 int, 1 boolean, 2 byte, 3 long, 4 a reference)
def mfit (t : Nat) (v : mV) : Prop := match t with
  | 0 => v.1 = 0
  | 1 => v.1 = 0 ∧ (v.2 = 0 ∨ v.2 = 1)
  | 2 => v.1 = 0 ∧ -128 ≤ v.2 ∧ v.2 ≤ 127
  | 3 => v.1 = 1
  | _ => v.1 = 3
def mtag (t : Nat) : Nat := match t with
  | 0 => 0
  | 1 => 0
  | 2 => 0
  | 3 => 1
  | _ => 3
def mret1 (m : Nat) (v : Int) : Prop := match mret m with
  | 1 => True
  | 2 => v = 0 ∨ v = 1
  | 6 => -128 ≤ v ∧ v ≤ 127
  | 7 => 0 ≤ v ∧ v ≤ 65535
  | _ => False
def mretk (m k : Nat) : Prop := mret m = k
def matyp : ArrayType → Int
  | .int => 100
  | .long => 101
  | .byte => 102
  | .boolean => 103
  | _ => 199
def mX (O : mO) (m len : Nat) (i : Instr) (pc : Nat) (L S : List mV) (c s : Nat) (G : mG) (d : mD) : mNx := match i with
  | .iconst n => mgo (pc + len, L, (0, n) :: S, c, s, G, d)
  | .bipush n => mgo (pc + len, L, (0, n) :: S, c, s, G, d)
  | .sipush n => mgo (pc + len, L, (0, n) :: S, c, s, G, d)
  | .lconst n => mgo (pc + len, L, (1, ((n : Nat) : Int)) :: S, c, s, G, d)
  | .jsr_w n => mgo (pc + len, L, (1, n) :: S, c, s, G, d)
  | .dconst _ => mgo (pc + len, L, (2, 0) :: S, c, s, G, d)
  | .ldc j => mgo (pc + len, L, (5, (j : Int)) :: S, c, s, G, d)
  | .getstatic j => mgo (pc + len, L, (bif Nat.beq j 5 then ((0, 1) : mV) else (4, (j : Int))) :: S, c, s, G, d)
  | .aconst_null => mgo (pc + len, L, (3, -1) :: S, c, s, G, d)
  | .iload k => match mget L k with
    | (0, x) => mgo (pc + len, L, (0, x) :: S, c, s, G, d)
    | _ => mbad G d
  | .lload k => match mget L k with
    | (1, x) => mgo (pc + len, L, (1, x) :: S, c, s, G, d)
    | _ => mbad G d
  | .dload k => match mget L k with
    | (2, x) => mgo (pc + len, L, (2, x) :: S, c, s, G, d)
    | _ => mbad G d
  | .aload k => match mget L k with
    | (3, x) => mgo (pc + len, L, (3, x) :: S, c, s, G, d)
    | (4, x) => mgo (pc + len, L, (4, x) :: S, c, s, G, d)
    | (5, x) => mgo (pc + len, L, (5, x) :: S, c, s, G, d)
    | _ => mbad G d
  | .istore k => match S with
    | (0, x) :: S => mgo (pc + len, mput1 L k (0, x), S, c, s, G, d)
    | _ => mbad G d
  | .astore k => match S with
    | (3, x) :: S => mif (0 ≤ x) (pc + len, mput1 L k (3, x), S, c, s, G, d)
    | _ => mbad G d
  | .lstore k => match S with
    | (1, x) :: S => mgo (pc + len, mput2 L k (1, x), S, c, s, G, d)
    | _ => mbad G d
  | .dstore k => match S with
    | (2, x) :: S => mgo (pc + len, mput2 L k (2, x), S, c, s, G, d)
    | _ => mbad G d
  | .iinc k n => match mget L k with
    | (0, x) => mgo (pc + len, mput1 L k (0, x + n), S, c, s, G, d)
    | _ => mbad G d
  | .dup => match S with
    | (0, x) :: S => mgo (pc + 1, L, (0, x) :: (0, x) :: S, c, s, G, d)
    | (3, x) :: S => mgo (pc + 1, L, (3, x) :: (3, x) :: S, c, s, G, d)
    | _ => mbad G d
  | .dup2 => match S with
    | (0, y) :: (3, x) :: S => mgo (pc + 1, L, (0, y) :: (3, x) :: (0, y) :: (3, x) :: S, c, s, G, d)
    | _ => mbad G d
  | .pop => match S with
    | (0, _) :: S => mgo (pc + 1, L, S, c, s, G, d)
    | (3, _) :: S => mgo (pc + 1, L, S, c, s, G, d)
    | _ => mbad G d
  | .dup_x1 => match S with
    | (0, x) :: (3, y) :: S => mgo (pc + 1, L, (0, x) :: (3, y) :: (0, x) :: S, c, s, G, d)
    | _ => mbad G d
  | .ineg => match S with
    | (0, x) :: S => mgo (pc + 1, L, (0, -x) :: S, c, s, G, d)
    | _ => mbad G d
  | .i2c => match S with
    | (0, x) :: S => mgo (pc + 1, L, (0, mi2c x) :: S, c, s, G, d)
    | _ => mbad G d
  | .ifnonnull t => match S with
    | (5, _) :: S => mgo (t.toNat, L, S, c, s, G, d)
    | _ => mbad G d
  | .monitorexit => match S with
    | (3, a) :: S => mif (G.1 a = 102) (pc + 3, L, (3, a) :: S, c, s, G, d)
    | _ => mbad G d
  | .iadd => match S with
    | (0, y) :: (0, x) :: S => mgo (pc + 1, L, (0, x + y) :: S, c, s, G, d)
    | _ => mbad G d
  | .isub => match S with
    | (0, y) :: (0, x) :: S => mgo (pc + 1, L, (0, x - y) :: S, c, s, G, d)
    | _ => mbad G d
  | .imul => match S with
    | (0, y) :: (0, x) :: S => mgo (pc + 1, L, (0, x * y) :: S, c, s, G, d)
    | _ => mbad G d
  | .idiv => match S with
    | (0, y) :: (0, x) :: S => mif (0 ≤ x ∧ x ≤ 2147483647 ∧ 0 < y ∧ y ≤ 2147483647) (pc + 1, L, (0, x / y) :: S, c, s, G, d)
    | _ => mbad G d
  | .irem => match S with
    | (0, y) :: (0, x) :: S => mif (0 ≤ x ∧ x ≤ 2147483647 ∧ 0 < y ∧ y ≤ 2147483647) (pc + 1, L, (0, x % y) :: S, c, s, G, d)
    | _ => mbad G d
  | .iand => match S with
    | (0, y) :: (0, x) :: S => mgo (pc + 1, L, (0, miand x y) :: S, c, s, G, d)
    | _ => mbad G d
  | .ior => match S with
    | (0, y) :: (0, x) :: S => mgo (pc + 1, L, (0, mior x y) :: S, c, s, G, d)
    | _ => mbad G d
  | .ishl => match S with
    | (0, y) :: (0, x) :: S => mgo (pc + 1, L, (0, mishl x y) :: S, c, s, G, d)
    | _ => mbad G d
  | .ishr => match S with
    | (0, y) :: (0, x) :: S => mgo (pc + 1, L, (0, mishr x y) :: S, c, s, G, d)
    | _ => mbad G d
  | .iushr => match S with
    | (0, y) :: (0, x) :: S => mgo (pc + 1, L, (0, miushr x y) :: S, c, s, G, d)
    | _ => mbad G d
  | .i2b => match S with
    | (0, x) :: S => mgo (pc + 1, L, (0, mi2b x) :: S, c, s, G, d)
    | _ => mbad G d
  | .i2l => match S with
    | (0, x) :: S => mif (mInR x) (pc + 1, L, (1, x) :: S, c, s, G, d)
    | _ => mbad G d
  | .l2i => match S with
    | (1, x) :: S => mgo (pc + 1, L, (0, x) :: S, c, s, G, d)
    | _ => mbad G d
  | .i2d => match S with
    | (0, x) :: S => mgo (pc + 1, L, (2, mi2d x) :: S, c, s, G, d)
    | _ => mbad G d
  | .ladd => match S with
    | (1, y) :: (1, x) :: S => mgo (pc + 1, L, (1, x + y) :: S, c, s, G, d)
    | _ => mbad G d
  | .lsub => match S with
    | (1, y) :: (1, x) :: S => mgo (pc + 1, L, (1, x - y) :: S, c, s, G, d)
    | _ => mbad G d
  | .lmul => match S with
    | (1, y) :: (1, x) :: S => mgo (pc + 1, L, (1, x * y) :: S, c, s, G, d)
    | _ => mbad G d
  | .land => match S with
    | (1, y) :: (1, x) :: S => mgo (pc + 1, L, (1, mland x y) :: S, c, s, G, d)
    | _ => mbad G d
  | .lor => match S with
    | (1, y) :: (1, x) :: S => mgo (pc + 1, L, (1, mlor x y) :: S, c, s, G, d)
    | _ => mbad G d
  | .lxor => match S with
    | (1, y) :: (1, x) :: S => mgo (pc + 1, L, (1, mlxor x y) :: S, c, s, G, d)
    | _ => mbad G d
  | .lshl => match S with
    | (0, y) :: (1, x) :: S => mgo (pc + 1, L, (1, mlshl x y) :: S, c, s, G, d)
    | _ => mbad G d
  | .lushr => match S with
    | (0, y) :: (1, x) :: S => mgo (pc + 1, L, (1, mlushr x y) :: S, c, s, G, d)
    | _ => mbad G d
  | .lcmp => match S with
    | (1, y) :: (1, x) :: S => mif (mInL x ∧ mInL y) (pc + 1, L, (0, mcmp x y) :: S, c, s, G, d)
    | _ => mbad G d
  | .ddiv => match S with
    | (2, y) :: (2, x) :: S => mif (vf_n64 (FP.ddiv (mbit x) (mbit y))) (pc + 1, L, (2, mddiv x y) :: S, c, s, G, d)
    | _ => mbad G d
  | .dcmp op => match S with
    | (2, y) :: (2, x) :: S => mgo (pc + 1, L, (0, mdcmp op x y) :: S, c, s, G, d)
    | _ => mbad G d
  | .goto t => mgo (t.toNat, L, S, c, s, G, d)
  | .ifCond o t => match S with
    | (0, x) :: S => mbr (mInR x) [(mcond o x 0, t.toNat, L, S, c, s, G, d), (mncond o x 0, pc + 3, L, S, c, s, G, d)]
    | _ => mbad G d
  | .if_icmp o t => match S with
    | (0, y) :: (0, x) :: S => mbr (mInR x ∧ mInR y) [(mcond o x y, t.toNat, L, S, c, s, G, d), (mncond o x y, pc + 3, L, S, c, s, G, d)]
    | _ => mbad G d
  | .tableswitch t lo hi ts => match S with
    | (0, x) :: S => mbr (mInR x) (msw x (fun q => (q, L, S, c, s, G, d)) lo ts.toList ++ [(x < lo ∨ hi < x, t.toNat, L, S, c, s, G, d)])
    | _ => mbad G d
  | .getfield g => match S with
    | (3, a) :: S => mif (G.1 a = ((g / 64 : Nat) : Int)) (pc + 3, L, (mtag (mfty g), d a ((g % 64 : Nat) : Int)) :: S, c, s, G, d)
    | _ => mbad G d
  | .putfield g => match S with
    | v :: (3, a) :: S => mif (G.1 a = ((g / 64 : Nat) : Int) ∧ mfit (mfty g) v) (pc + 3, L, S, c, s, G, mset d a ((g % 64 : Nat) : Int) v.2)
    | _ => mbad G d
  | .arraylength => match S with
    | (4, k) :: S => mif (k = 2) (pc + 1, L, (0, O.1 k) :: S, c, s, G, d)
    | (3, a) :: S => mif (100 ≤ G.1 a) (pc + 1, L, (0, G.2.1 a) :: S, c, s, G, d)
    | _ => mbad G d
  | .iaload => match S with
    | (0, i) :: (3, a) :: S => mif (G.1 a = 100 ∧ 0 ≤ i ∧ i < G.2.1 a) (pc + 1, L, (0, d a i) :: S, c, s, G, d)
    | (0, i) :: (4, k) :: S => mif ((k = 0 ∨ k = 1 ∨ k = 2) ∧ 0 ≤ i ∧ i < O.1 k) (pc + 1, L, (0, O.2 k i) :: S, c, s, G, d)
    | _ => mbad G d
  | .laload => match S with
    | (0, i) :: (3, a) :: S => mif (G.1 a = 101 ∧ 0 ≤ i ∧ i < G.2.1 a) (pc + 1, L, (1, d a i) :: S, c, s, G, d)
    | _ => mbad G d
  | .baload => match S with
    | (0, i) :: (3, a) :: S => mif ((G.1 a = 102 ∨ G.1 a = 103) ∧ 0 ≤ i ∧ i < G.2.1 a) (pc + 1, L, (0, d a i) :: S, c, s, G, d)
    | (0, i) :: (4, k) :: S => mif ((k = 3 ∨ k = 4) ∧ 0 ≤ i ∧ i < O.1 k) (pc + 1, L, (0, O.2 k i) :: S, c, s, G, d)
    | _ => mbad G d
  | .aaload => match S with
    | (0, i) :: (3, a) :: S => mif (200 ≤ G.1 a ∧ 0 ≤ i ∧ i < G.2.1 a) (pc + 1, L, (3, d a i) :: S, c, s, G, d)
    | _ => mbad G d
  | .iastore => match S with
    | (0, v) :: (0, i) :: (3, a) :: S => mif (G.1 a = 100 ∧ 0 ≤ i ∧ i < G.2.1 a) (pc + 1, L, S, c, s, G, mset d a i v)
    | _ => mbad G d
  | .lastore => match S with
    | (1, v) :: (0, i) :: (3, a) :: S => mif (G.1 a = 101 ∧ 0 ≤ i ∧ i < G.2.1 a) (pc + 1, L, S, c, s, G, mset d a i v)
    | _ => mbad G d
  | .bastore => match S with
    | (0, v) :: (0, i) :: (3, a) :: S => mif (((G.1 a = 102 ∧ -128 ≤ v ∧ v ≤ 127) ∨ (G.1 a = 103 ∧ (v = 0 ∨ v = 1))) ∧ 0 ≤ i ∧ i < G.2.1 a) (pc + 1, L, S, c, s, G, mset d a i v)
    | _ => mbad G d
  | .aastore => match S with
    | (3, v) :: (0, i) :: (3, a) :: S => mif (200 ≤ G.1 a ∧ 0 ≤ v ∧ G.1 v = G.1 a - 200 ∧ 0 ≤ i ∧ i < G.2.1 a) (pc + 1, L, S, c, s, G, mset d a i v)
    | _ => mbad G d
  | .newarray t => match S with
    | (0, n) :: S => mif (0 ≤ n ∧ n ≤ 100000 ∧ 0 ≤ G.2.2 ∧ c + 1 ≤ mmc m ∧ s + n.toNat ≤ mms m ∧ matyp t ≠ 199) (pc + 2, L, (3, G.2.2) :: S, c + 1, s + n.toNat, (mkind G.1 G.2.2 (matyp t), mkind G.2.1 G.2.2 n, mnxt G.2.2), mfill d G.2.2 0)
    | _ => mbad G d
  | .anewarray k => match S with
    | (0, n) :: S => mif (0 ≤ n ∧ n ≤ 100000 ∧ 0 ≤ G.2.2 ∧ c + 1 ≤ mmc m ∧ s + n.toNat ≤ mms m) (pc + 3, L, (3, G.2.2) :: S, c + 1, s + n.toNat, (mkind G.1 G.2.2 (200 + (k : Int)), mkind G.2.1 G.2.2 n, mnxt G.2.2), mfill d G.2.2 (-1))
    | _ => mbad G d
  | .new k => mif (0 ≤ G.2.2 ∧ c + 1 ≤ mmc m ∧ s + mnf k ≤ mms m) (pc + 3, L, (3, G.2.2) :: S, c + 1, s + mnf k, (mkind G.1 G.2.2 (k : Int), mkind G.2.1 G.2.2 0, mnxt G.2.2), fun b j => if b = G.2.2 then (if mfty (64 * k + j.toNat) = 4 then -1 else 0) else d b j)
  | .checkcast e => mfin (mroomT m S c s ∧ 0 ≤ G.2.2) (.inr e) G d
  | .invokestatic j => match mpop (mnp j) S [] with
    | some (as, S) => mcal (mbud m j as S c s ∧ mrecv j as G.1) j as (pc, L, S, c + mmc j, s + mms j, G, d)
    | none => mbad G d
  | .invokespecial j => match j, S with
    | 0, (3, a) :: S => mif (0 ≤ a ∧ mroomN m S 12) (pc + 3, L, S, c, s, G, d)
    | 1, (0, y) :: (0, x) :: S => mif (mInR x ∧ mInR y ∧ mroomN m S 13) (pc + 3, L, (0, mmax x y) :: S, c, s, G, d)
    | 2, (0, y) :: (0, x) :: S => mif (mInR x ∧ mInR y ∧ mroomN m S 13) (pc + 3, L, (0, mmin x y) :: S, c, s, G, d)
    | 3, (0, n) :: (0, dp) :: (3, y) :: (0, sp) :: (3, x) :: S => mif ((G.1 x = 100 ∨ G.1 x = 101 ∨ G.1 x = 102 ∨ G.1 x = 103) ∧ G.1 y = G.1 x ∧ 0 ≤ sp ∧ 0 ≤ dp ∧ 0 ≤ n ∧ n ≤ 100000 ∧ sp ≤ 100000 ∧ dp ≤ 100000 ∧ sp + n ≤ G.2.1 x ∧ dp + n ≤ G.2.1 y ∧ mroomN m S 18 ∧ mcpk (G.1 x) (d x) sp n) (pc + 3, L, S, c, s, G, mcopy d x sp y dp n)
    | 4, (5, k) :: S => mif ((0 ≤ k ∧ k < tnn) ∧ mroomS m S) (pc + 3, L, (0, tsl k) :: S, c, s, G, d)
    | 5, (0, i) :: (5, k) :: S => mif ((0 ≤ k ∧ k < tnn ∧ 0 ≤ i ∧ i < tsl k) ∧ mroomS m S) (pc + 3, L, (0, tsc k i) :: S, c, s, G, d)
    | 6, (5, k) :: S => mif ((0 ≤ k ∧ k < tnn) ∧ mroomS m S) (pc + 3, L, (0, 0) :: S, c, s, G, d)
    | 7, (0, z) :: (0, i) :: (3, a) :: (5, k) :: S => mif ((0 ≤ k ∧ k < tnn) ∧ z = 0 ∧ G.1 a = 102 ∧ 0 ≤ i ∧ i + tsl k ≤ G.2.1 a ∧ mroomB m S) (pc + 3, L, S, c, s, G, mlet d a i k (tsl k) (tsc k))
    | 8, (3, a) :: S => mif (G.1 a = 102 ∧ 0 ≤ G.2.2 ∧ c + 1 ≤ mmc m ∧ s + (G.2.1 a).toNat ≤ mms m ∧ mroomN m S 18 ∧ mcpk 102 (d a) 0 (G.2.1 a)) (pc + 3, L, (3, G.2.2) :: S, c + 1, s + (G.2.1 a).toNat, (mkind G.1 G.2.2 102, mkind G.2.1 G.2.2 (G.2.1 a), mnxt G.2.2), fun b j => if b = G.2.2 then d a j else d b j)
    | 9, (0, n) :: (0, i) :: S => mif (0 ≤ i ∧ i < n ∧ n ≤ 2147483647 ∧ mroomS m S) (pc + 3, L, S, c, s, G, d)
    | _, _ => mbad G d
  | .ireturn => match S with
    | [(0, v)] => mfin (mret1 m v) (.inl (some (0, v))) G d
    | _ => mbad G d
  | .areturn => match S with
    | [(3, v)] => mfin (mretk m 5) (.inl (some (3, v))) G d
    | _ => mbad G d
  | .lreturn => match S with
    | [(1, v)] => mfin (mretk m 3) (.inl (some (1, v))) G d
    | _ => mbad G d
  | .dreturn => match S with
    | [(2, v)] => mfin (mretk m 4) (.inl (some (2, v))) G d
    | _ => mbad G d
  | .return_ => match S with
    | [] => mfin (mretk m 0) (.inl none) G d
    | _ => mbad G d
  | _ => mbad G d
def mall (B : mSt → Prop) : List (Prop × mSt) → Prop
  | [] => True
  | [(p, st)] => p → B st
  | (p, st) :: (q :: r) => (p → B st) ∧ mall B (q :: r)
def mnoh (m : Nat) : Bool := (mhh m).isEmpty
-- behind a call
def mback (m pc : Nat) (L S : List mV) (c s : Nat) (B : mSt → Prop) (K : mK) : mK := fun r G d => match r with
  | .inl (some v) => B (pc + 3, L, v :: S, c, s, G, d)
  | .inl none => B (pc + 3, L, S, c, s, G, d)
  | .inr e => match mhnd m pc e with
    | some n => mret1 m n ∧ K (.inl (some (0, n))) G d
    | none => mnoh m = true ∧ K (.inr e) G d
-- an end by an exception: what it has made is not known
def mfk (K : mK) (r : mRes) (G : mG) (d : mD) : Prop := match r with
  | .inl v => K (.inl v) G d
  | .inr e => ∀ nx : Int, mreal nx → mtau G.2.2 ≤ mtau nx → K (.inr e) (G.1, G.2.1, nx) d
theorem mfk_mono {K K' : mK} (hk : ∀ r G d, K r G d → K' r G d) {r : mRes} {G : mG} {d : mD} (h : mfk K r G d) : mfk K' r G d := by
  match r, h with
  | .inl v, h => exact hk _ _ _ h
  | .inr e, h => exact fun nx h1 h2 => hk _ _ _ (h nx h1 h2)
def mint (B : mSt → Prop) (C : Nat → List mV → mG → mD → mK → Prop) (m : Nat) (K : mK) : mNx → Prop
  | .inl st => B st
  | .inr (.inl (p, st)) => p ∧ B st
  | .inr (.inr (.inl (p, bs))) => p ∧ mall B bs
  | .inr (.inr (.inr (.inl (p, j, as, pc, L, S, c, s, G, d)))) => p ∧ C j as G d (mback m pc L S c s B K)
  | .inr (.inr (.inr (.inr (p, r, G, d)))) => p ∧ mfk K r G d
abbrev mP : Type := Nat → mSt → mK → Prop
def ment (j : Nat) (as : List mV) (G : mG) (d : mD) : mSt := (0, mloc j as, [], 0, 0, G, d)
def mstp (O : mO) (B : mSt → Prop) (C : Nat → List mV → mG → mD → mK → Prop) (m : Nat) (K : mK) : mSt → Prop
  | (pc, L, S, c, s, G, d) => match mfetch m pc with
    | some (i, len) => mint B C m K (mX O m len i pc L S c s G d)
    | none => False
def mstep (O : mO) (P : mP) (m : Nat) (st : mSt) (K : mK) : Prop := mstp O (fun st => P m st K) (fun j as G d K' => P j (ment j as G d) K') m K st
-- a run comes to an end, with K
def mSub (G : mG) (d : mD) (G' : mG) (d' : mD) : Prop := (∀ a, 0 ≤ G'.1 a → G.1 a = G'.1 a ∧ G.2.1 a = G'.2.1 a ∧ d a = d' a) ∧ G'.2.2 = G.2.2
def Kfg (K : mK) : mK := fun r G d => match r with
  | .inl v => ∃ G' d', mSub G d G' d' ∧ K (.inl v) G' d'
  | .inr e => K (.inr e) G d
def mCl (P : mP) : Prop := (∀ (m pc : Nat) (L S : List mV) (c s : Nat) (G : mG) (d : mD) (G' : mG) (d' : mD) (K : mK), mSub G d G' d' → P m (pc, L, S, c, s, G', d') K → P m (pc, L, S, c, s, G, d) K) ∧ ∀ (m : Nat) (st : mSt) (K : mK), P m st (Kfg K) → P m st K
theorem Kfg_mono {K K' : mK} (hk : ∀ r G d, K r G d → K' r G d) {r : mRes} {G : mG} {d : mD} (h : Kfg K r G d) : Kfg K' r G d := by
  match r, h with
  | .inl v, h =>
    obtain ⟨G', d', s, k⟩ := h
    exact ⟨G', d', s, hk _ _ _ k⟩
  | .inr e, h => exact hk _ _ _ h
def mRun (O : mO) (m : Nat) (st : mSt) (K : mK) : Prop := ∀ P : mP, (∀ m st K, mstep O P m st K → P m st K) → mCl P → P m st K
def mCall (O : mO) (j : Nat) (as : List mV) (G : mG) (d : mD) (K : mK) : Prop := mRun O j (ment j as G d) K
theorem mall_mono {B B' : mSt → Prop} (h : ∀ st, B st → B' st) : ∀ bs, mall B bs → mall B' bs
  | [], _ => trivial
  | [(_, _)], k => fun hp => h _ (k hp)
  | (_, _) :: (q :: r), k => ⟨fun hp => h _ (k.1 hp), mall_mono h (q :: r) k.2⟩
theorem mback_mono {m pc : Nat} {L S : List mV} {c s : Nat} {B B' : mSt → Prop} {K K' : mK} (h : ∀ st, B st → B' st) (hk : ∀ r G d, K r G d → K' r G d) : ∀ r G d, mback m pc L S c s B K r G d → mback m pc L S c s B' K' r G d := by
  intro r G d k
  match r with
  | .inl (some v) => exact h _ k
  | .inl none => exact h _ k
  | .inr e =>
    simp only [mback] at k ⊢
    split at k
    · exact ⟨k.1, hk _ _ _ k.2⟩
    · exact ⟨k.1, hk _ _ _ k.2⟩
theorem mint_mono {B B' : mSt → Prop} {C C' : Nat → List mV → mG → mD → mK → Prop} {m : Nat} {K K' : mK} (h : ∀ st, B st → B' st) (hk : ∀ r G d, K r G d → K' r G d)
    (hC : ∀ j as G d K1 K2, (∀ r G d, K1 r G d → K2 r G d) → C j as G d K1 → C' j as G d K2) : ∀ nx, mint B C m K nx → mint B' C' m K' nx := by
  intro nx k
  match nx with
  | .inl st => exact h _ k
  | .inr (.inl (p, st)) => exact ⟨k.1, h _ k.2⟩
  | .inr (.inr (.inl (p, bs))) => exact ⟨k.1, mall_mono h _ k.2⟩
  | .inr (.inr (.inr (.inl (p, j, as, pc, L, S, c, s, G, d)))) => exact ⟨k.1, hC _ _ _ _ _ _ (mback_mono h hk) k.2⟩
  | .inr (.inr (.inr (.inr (p, r, G, d)))) => exact ⟨k.1, mfk_mono hk k.2⟩
theorem mstp_mono {O : mO} {B B' : mSt → Prop} {C C' : Nat → List mV → mG → mD → mK → Prop} {m : Nat} {K K' : mK} (h : ∀ st, B st → B' st) (hk : ∀ r G d, K r G d → K' r G d)
    (hC : ∀ j as G d K1 K2, (∀ r G d, K1 r G d → K2 r G d) → C j as G d K1 → C' j as G d K2) : ∀ st, mstp O B C m K st → mstp O B' C' m K' st := by
  intro st k
  obtain ⟨pc, L, S, c, s, G, d⟩ := st
  simp only [mstp] at k ⊢
  split at k
  · exact mint_mono h hk hC _ k
  · exact k
theorem mRun_mono {O : mO} {m : Nat} {st : mSt} {K K' : mK} (h : mRun O m st K) (hk : ∀ r G d, K r G d → K' r G d) : mRun O m st K' := by
  intro P hP hG
  refine h (fun m st K => ∀ K' : mK, (∀ r G d, K r G d → K' r G d) → P m st K') ?_ ⟨?_, ?_⟩ K' hk
  · intro m st K k K' hk
    refine hP _ _ _ ?_
    exact mstp_mono (fun st h => h K' hk) hk (fun j as G d K1 K2 h12 h => h K2 h12) st k
  · intro m pc L S c s G d G' d' K hg h K' hk
    exact hG.1 m pc L S c s G d G' d' K' hg (h K' hk)
  · intro m st K h K' hk
    exact hG.2 m st K' (h (Kfg K') (fun r G d hr => Kfg_mono hk hr))
theorem mRun_in {O : mO} {m : Nat} {st : mSt} {K : mK} (h : mstp O (fun st => mRun O m st K) (fun j as G d K' => mCall O j as G d K') m K st) : mRun O m st K := by
  intro P hP hG
  refine hP _ _ _ ?_
  exact mstp_mono (B := fun st => mRun O m st K) (C := fun j as G d K' => mCall O j as G d K') (fun st h => h P hP hG) (fun _ _ _ h => h) (fun j as G d K1 K2 h12 h => mRun_mono h h12 P hP hG) st h
theorem mRun_wk {O : mO} {m pc : Nat} {L S : List mV} {c s : Nat} {G G' : mG} {d d' : mD} {K : mK} (hg : mSub G d G' d') (h : mRun O m (pc, L, S, c, s, G', d') K) : mRun O m (pc, L, S, c, s, G, d) K := fun P hP hG => hG.1 m pc L S c s G d G' d' K hg (h P hP hG)
theorem mRun_fg {O : mO} {m : Nat} {st : mSt} {K : mK} (h : mRun O m st (Kfg K)) : mRun O m st K := fun P hP hG => hG.2 m st K (h P hP hG)
-- n steps at once
def mN (O : mO) (m : Nat) (K : mK) : Nat → mSt → Prop
  | 0, st => mRun O m st K
  | n + 1, st => mstp O (mN O m K n) (fun j as G d K' => mCall O j as G d K') m K st
theorem mN_run {O : mO} {m : Nat} {K : mK} : ∀ (n : Nat) (st : mSt), mN O m K n st → mRun O m st K
  | 0, _, h => h
  | n + 1, st, h => mRun_in (mstp_mono (B := mN O m K n) (C := fun j as G d K' => mCall O j as G d K') (fun st k => mN_run n st k) (fun _ _ _ k => k) (fun _ _ _ _ _ _ h12 k => mRun_mono k h12) st h)
/-! ===== what the small machine's things are in the machine ===== -/
-- where our cells begin, where the old rows lie, where the texts lie
abbrev mE : Type := Nat × (Nat → Nat) × (Nat → Nat)
def mslot (B t : Nat) (x : Int) : Value := match t with
  | 0 => .int (Int32.ofInt x)
  | 1 => .int (Int32.ofInt x)
  | 2 => .int (Int32.ofInt x)
  | 3 => .long (Int64.ofInt x)
  | _ => if x < 0 then .null else .ref (B + mtau x)
def mval (E : mE) (v : mV) : Value := match v with
  | (0, x) => .int (Int32.ofInt x)
  | (1, x) => .long (Int64.ofInt x)
  | (2, x) => .double (mbit x)
  | (3, x) => if x < 0 then .null else .ref (E.1 + mtau x)
  | (4, x) => .ref (E.2.1 x.toNat)
  | (5, x) => .ref (E.2.2 x.toNat)
  | _ => .null
def mety (k : Int) : Nat := if k = 101 then 3 else if 200 ≤ k then 4 else 0
def metyF (k : Int) : FieldType := if k = 100 then .int else if k = 101 then .long else if k = 102 then .byte else if k = 103 then .boolean else if k = 201 then .object "WaitingBureau$HourSet" else if k = 206 then .object "WaitingBureau$State" else .object "WaitingBureauLaw$World"
def mkinds : List Int := [100, 101, 102, 103, 201, 206, 213]
def mtys (tc : Int → ClassId) : List (ClassId × FieldType) := mkinds.map (fun k => (tc k, metyF k))
abbrev mAr (E : mE) : Nat → Prop := fun q => E.1 ≤ q
-- a class's place among the kit's
def mvw (k : Nat) : Nat := bif Nat.ble k 10 then k + 2 else bif Nat.beq k 12 then 13 else bif Nat.beq k 13 then 14 else bif Nat.beq k 14 then 1 else 0
abbrev mfun (E : mE) (c : Nat) (f : Int → Int) : Nat → Value := fun j => mslot E.1 (mfty (64 * c + j)) (f (j : Int))
abbrev mrow (E : mE) (k : Int) (f : Int → Int) : Nat → Value := fun j => mslot E.1 (mety k) (f (j : Int))
def mcellO (E : mE) (D : va_G) (a k : Int) (f : Int → Int) (H : Heap) : Prop := mcr k.toNat = true ∧ t_OB (E.1 + mtau a) (D.1 (mvw k.toNat)) (mnf k.toNat) (D.2 (mvw k.toNat)) H (mfun E k.toNat f)
def mcellA (E : mE) (tc : Int → ClassId) (a k n : Int) (f : Int → Int) (H : Heap) : Prop := k ∈ mkinds ∧ 0 ≤ n ∧ n ≤ 100000 ∧ H[E.1 + mtau a]? = some (arrV (tc k) n.toNat (mrow E k f))
def mRep (E : mE) (D : va_G) (tc : Int → ClassId) (G : mG) (d : mD) (H : Heap) : Prop :=
  E.1 ≤ H.size ∧ (0 ≤ G.2.2 → mreal G.2.2 ∧ H.size = E.1 + mtau G.2.2) ∧ ∀ a, 0 ≤ G.1 a → mreal a ∧ (G.1 a < 100 → mcellO E D a (G.1 a) (d a) H) ∧ (100 ≤ G.1 a → mcellA E tc a (G.1 a) (G.2.1 a) (d a) H)
def mLoc (E : mE) (ls : Array Slot) (nL : Nat) (L : List mV) : Prop := ls.size = nL ∧ lv_wf ls ∧ L.length = nL ∧ ∀ i : Nat, (mget L i).1 < 6 → ls[i]? = some (.val (mval E (mget L i)))
abbrev mst (E : mE) (S : List mV) : List Value := S.map (mval E)
theorem mval_tag (E : mE) (t : Nat) (x : Int) : mval E (mtag t, x) = mslot E.1 t x := by
  match t with
  | 0 => rfl
  | 1 => rfl
  | 2 => rfl
  | 3 => rfl
  | _ + 4 => rfl
-- numbers
theorem m_toInt {x : Int} (h : mInR x) : (Int32.ofInt x).toInt = x := by
  unfold mInR at h
  rw [Int32.toInt_ofInt]
  have e : ((Int32.size : Nat) : Int) = 4294967296 := rfl
  exact Int.bmod_eq_of_le (by rw [e]; omega) (by rw [e]; omega)
theorem m_toIntL {x : Int} (h : mInL x) : (Int64.ofInt x).toInt = x := by
  unfold mInL at h
  rw [Int64.toInt_ofInt]
  have e : ((Int64.size : Nat) : Int) = 18446744073709551616 := rfl
  exact Int.bmod_eq_of_le (by rw [e]; omega) (by rw [e]; omega)
theorem m_lt {x y : Int} (hx : mInR x) (hy : mInR y) : Int32.ofInt x < Int32.ofInt y ↔ x < y := by
  rw [Int32.lt_iff_toInt_lt, m_toInt hx, m_toInt hy]
theorem m_le {x y : Int} (hx : mInR x) (hy : mInR y) : Int32.ofInt x ≤ Int32.ofInt y ↔ x ≤ y := by
  rw [Int32.le_iff_toInt_le, m_toInt hx, m_toInt hy]
theorem m_eq {x y : Int} (hx : mInR x) (hy : mInR y) : Int32.ofInt x = Int32.ofInt y ↔ x = y := by
  rw [← Int32.toInt_inj, m_toInt hx, m_toInt hy]
theorem m_nat {i : Int} (h0 : 0 ≤ i) (h1 : i ≤ 2147483647) : (Int32.ofInt i).toNatClampNeg = i.toNat := by
  show (Int32.ofInt i).toInt.toNat = i.toNat
  rw [m_toInt ⟨by omega, by omega⟩]
theorem m_nneg {i : Int} (h0 : 0 ≤ i) (h1 : i ≤ 2147483647) : ¬ Int32.ofInt i < 0 := by
  have h : ¬ Int32.ofInt i < Int32.ofInt 0 := by
    rw [m_lt ⟨by omega, by omega⟩ ⟨by omega, by omega⟩]; omega
  exact h
theorem m_in {i n : Int} (h0 : 0 ≤ i) (h1 : i < n) (hn : n ≤ 2147483647) : ¬ (Int32.ofInt i < 0 ∨ n.toNat ≤ (Int32.ofInt i).toNatClampNeg) := by
  rw [m_nat h0 (by omega)]
  intro h
  rcases h with h | h
  · exact m_nneg h0 (by omega) h
  · omega
theorem m_back (x : Int32) : Int32.ofInt x.toInt = x := Int32.ofInt_toInt x
theorem m_backL (x : Int64) : Int64.ofInt x.toInt = x := Int64.ofInt_toInt x
theorem m_nneg0 {y : Int} (h0 : 0 < y) (h1 : y ≤ 2147483647) : ¬ Int32.ofInt y = 0 := by
  have h : ¬ Int32.ofInt y = Int32.ofInt 0 := by
    rw [m_eq ⟨by omega, by omega⟩ ⟨by omega, by omega⟩]; omega
  exact h
theorem m_div {x y : Int} (hx : 0 ≤ x) (hx1 : x ≤ 2147483647) (hy : 0 < y) (hy1 : y ≤ 2147483647) : Int32.ofInt x / Int32.ofInt y = Int32.ofInt (x / y) := by
  rw [← Int32.toInt_inj, Int32.toInt_div, m_toInt ⟨by omega, by omega⟩, m_toInt ⟨by omega, by omega⟩, Int32.toInt_ofInt, Int.tdiv_eq_ediv_of_nonneg hx]
theorem m_rem {x y : Int} (hx : 0 ≤ x) (hx1 : x ≤ 2147483647) (hy : 0 < y) (hy1 : y ≤ 2147483647) : Int32.ofInt x - Int32.ofInt x / Int32.ofInt y * Int32.ofInt y = Int32.ofInt (x % y) := by
  rw [m_div hx hx1 hy hy1, ← Int32.ofInt_mul, ← Int32.ofInt_sub]
  congr 1
  rw [Int.emod_def, Int.mul_comm]
theorem m_i2l {x : Int} (h : mInR x) : (Int32.ofInt x).toInt64 = Int64.ofInt x := by
  rw [← Int64.toInt_inj, Int32.toInt_toInt64, m_toInt h, m_toIntL]
  unfold mInR at h
  exact ⟨by omega, by omega⟩
theorem m_l2i (x : Int) : (Int64.ofInt x).toInt32 = Int32.ofInt x := by
  rw [← Int32.toInt_inj, Int64.toInt_toInt32, Int64.toInt_ofInt, Int32.toInt_ofInt]
  exact Int.bmod_bmod_of_dvd (by decide)
-- locals
theorem mget_put1 : ∀ (L : List mV) (k : Nat) (v : mV) (i : Nat), k < L.length → mget (mput1 L k v) i = if i = k then v else if i + 1 = k ∧ mc2 (mget L i) = true then mu else mget L i
  | w :: l, 0, v, 0, _ => by simp [mput1, mget]
  | w :: l, 0, v, i + 1, _ => by simp [mput1, mget]
  | w :: l, 1, v, 0, h => by
    cases hc : mc2 w <;> simp [mput1, mget, hc]
  | w :: l, 1, v, i + 1, h => by
    have := mget_put1 l 0 v i (by simp at h ⊢; omega)
    simp only [mput1, mget, this]
    by_cases hi : i = 0
    · subst hi; simp
    · simp [hi]
  | w :: l, k + 2, v, 0, h => by simp [mput1, mget]
  | w :: l, k + 2, v, i + 1, h => by
    have := mget_put1 l (k + 1) v i (by simp at h ⊢; omega)
    simp only [mput1, mget, this]
    by_cases hi : i = k + 1
    · subst hi; simp
    · simp [hi]
theorem mput1_len : ∀ (L : List mV) (k : Nat) (v : mV), (mput1 L k v).length = L.length
  | [], _, _ => by simp [mput1]
  | _ :: l, 0, v => by simp [mput1]
  | w :: l, 1, v => by simp [mput1, mput1_len l 0 v]
  | w :: l, k + 2, v => by simp [mput1, mput1_len l (k + 1) v]
theorem mget_head : ∀ (L : List mV) (i : Nat), mget (mhead L) i = if i = 0 then mu else mget L i
  | [], i => by simp [mhead, mget]
  | _ :: l, 0 => by simp [mhead, mget]
  | _ :: l, i + 1 => by simp [mhead, mget]
theorem mhead_len (L : List mV) : (mhead L).length = L.length := by cases L <;> simp [mhead]
theorem mget_put2 : ∀ (L : List mV) (k : Nat) (v : mV) (i : Nat), k < L.length → mget (mput2 L k v) i = if i = k then v else if i = k + 1 then mu else if i + 1 = k ∧ mc2 (mget L i) = true then mu else mget L i
  | w :: l, 0, v, 0, _ => by simp [mput2, mget]
  | w :: l, 0, v, i + 1, _ => by simp [mput2, mget, mget_head]
  | w :: l, 1, v, 0, h => by
    cases hc : mc2 w <;> simp [mput2, mget, hc]
  | w :: l, 1, v, i + 1, h => by
    have := mget_put2 l 0 v i (by simp at h ⊢; omega)
    simp only [mput2, mget, this]
    by_cases hi : i = 0
    · subst hi; simp
    · simp [hi]
  | w :: l, k + 2, v, 0, h => by simp [mput2, mget]
  | w :: l, k + 2, v, i + 1, h => by
    have := mget_put2 l (k + 1) v i (by simp at h ⊢; omega)
    simp only [mput2, mget, this]
    by_cases hi : i = k + 1
    · subst hi; simp
    · simp [hi]
theorem mput2_len : ∀ (L : List mV) (k : Nat) (v : mV), (mput2 L k v).length = L.length
  | [], _, _ => by simp [mput2]
  | _ :: l, 0, v => by simp [mput2, mhead_len]
  | w :: l, 1, v => by simp [mput2, mput2_len l 0 v]
  | w :: l, k + 2, v => by simp [mput2, mput2_len l (k + 1) v]
/-! ===== one step of the machine for one of the small machine: what doesn't touch the cells ===== -/
def mRm (j : Nat) : Room := { frames := mdep j, cells := mmc j, slots := mms j, locals := mneed j }
theorem m_i8 {n : Int} (h1 : -128 ≤ n) (h2 : n ≤ 127) : (Int8.ofInt n).toInt32 = Int32.ofInt n := by
  rw [← Int32.toInt_inj, Int8.toInt_toInt32, m_toInt ⟨by omega, by omega⟩, Int8.toInt_ofInt]
  have e : ((Int8.size : Nat) : Int) = 256 := rfl
  exact Int.bmod_eq_of_le (by rw [e]; omega) (by rw [e]; omega)
theorem m_i16 {n : Int} (h1 : -32768 ≤ n) (h2 : n ≤ 32767) : (Int16.ofInt n).toInt32 = Int32.ofInt n := by
  rw [← Int32.toInt_inj, Int16.toInt_toInt32, m_toInt ⟨by omega, by omega⟩, Int16.toInt_ofInt]
  have e : ((Int16.size : Nat) : Int) = 65536 := rfl
  exact Int.bmod_eq_of_le (by rw [e]; omega) (by rw [e]; omega)
theorem m_lc (n : Fin 2) : Int64.ofNat (n : Nat) = Int64.ofInt ((n : Nat) : Int) := by
  match n with
  | ⟨0, _⟩ => rfl
  | ⟨1, _⟩ => rfl
theorem m_bit (x : UInt64) : mbit (mof x) = x := by
  unfold mbit mof
  simp
theorem m_cmp {x y : Int} (hx : mInL x) (hy : mInL y) : lg_cmp (Int64.ofInt x) (Int64.ofInt y) = Int32.ofInt (mcmp x y) := by
  unfold lg_cmp mcmp
  simp only [gt_iff_lt, Int64.lt_iff_toInt_lt, ← Int64.toInt_inj, m_toIntL hx, m_toIntL hy]
  by_cases h1 : x < y
  · rw [if_pos h1, if_neg (by omega), if_neg (by omega)]; rfl
  · by_cases h2 : x = y
    · rw [if_neg h1, if_pos h2, if_neg (by omega), if_pos h2]; rfl
    · rw [if_neg h1, if_pos (show y < x by omega), if_neg h2]; rfl
section SA
variable {p : Program} {l : Launch} {e : Env} {s : State} {mid : MethodId} {args : Array Value} {below : List Frame} {meth : Method} {c : Code} {Q : State → Prop}
variable {E : mE} {D : va_G} {tc : Int → ClassId} {O : mO} {j : Nat}
def mW (p : Program) (l : Launch) (e : Env) (s : State) (mid : MethodId) (args : Array Value) (below : List Frame) (meth : Method) (c : Code) (Q : State → Prop) (E : mE) (D : va_G) (tc : Int → ClassId) (j : Nat) : mSt → Prop
  | (pc, L, S, cs, ss, G, d) => ∀ (H : Heap) (locs : List Loc) (ls : Array Slot), mLoc E ls (mmaxL j) L → mRep E D tc G d H → va_S (mAr E) s.heap H locs → cs ≤ mmc j → ss ≤ mms j →
      W p l e (mRm j) s mid args below meth c H locs cs ss Q (F0 mid pc ls (mst E S))
variable {C : Nat → List mV → mG → mD → mK → Prop} {K : mK} {pc len : Nat} {L S : List mV} {cs ss : Nat} {G : mG} {d : mD}
theorem mW_go (hx : p.tables.exec = Jvm.exec) (hb : c.code = mb j) {st' : List mV} {pc' : Nat} (h : mW p l e s mid args below meth c Q E D tc j (pc', L, st', cs, ss, G, d))
    (k : ∀ (H : Heap) (locs : List Loc) (ls : Array Slot), mLoc E ls (mmaxL j) L → W p l e (mRm j) s mid args below meth c H locs cs ss Q (F0 mid pc' ls (mst E st')) → W p l e (mRm j) s mid args below meth c H locs cs ss Q (F0 mid pc ls (mst E S))) :
    mW p l e s mid args below meth c Q E D tc j (pc, L, S, cs, ss, G, d) := fun H locs ls hl hr hs h1 h2 => k H locs ls hl (h H locs ls hl hr hs h1 h2)

theorem s_iconst (hx : p.tables.exec = Jvm.exec) (hb : c.code = mb j) {n : Int} (hd : decode (mb j) pc = .ok (.iconst n, 1)) (h : mint (mW p l e s mid args below meth c Q E D tc j) C j K (mX O j 1 (.iconst n) pc L S cs ss G d)) : mW p l e s mid args below meth c Q E D tc j (pc, L, S, cs, ss, G, d) := by
  exact mW_go hx hb h (fun H locs ls hl k => lv_iconst hx hb hd rfl k)
theorem s_bipush (hx : p.tables.exec = Jvm.exec) (hb : c.code = mb j) {n : Int} (h1 : -128 ≤ n) (h2 : n ≤ 127) (hd : decode (mb j) pc = .ok (.bipush n, 2)) (h : mint (mW p l e s mid args below meth c Q E D tc j) C j K (mX O j 2 (.bipush n) pc L S cs ss G d)) : mW p l e s mid args below meth c Q E D tc j (pc, L, S, cs, ss, G, d) := by
  exact mW_go hx hb h (fun H locs ls hl k => lv_bipush (v := Int32.ofInt n) hx hb hd (m_i8 h1 h2) k)
theorem s_sipush (hx : p.tables.exec = Jvm.exec) (hb : c.code = mb j) {n : Int} (h1 : -32768 ≤ n) (h2 : n ≤ 32767) (hd : decode (mb j) pc = .ok (.sipush n, 3)) (h : mint (mW p l e s mid args below meth c Q E D tc j) C j K (mX O j 3 (.sipush n) pc L S cs ss G d)) : mW p l e s mid args below meth c Q E D tc j (pc, L, S, cs, ss, G, d) := by
  exact mW_go hx hb h (fun H locs ls hl k => lv_sipush (v := Int32.ofInt n) hx hb hd (m_i16 h1 h2) k)
theorem s_lconst (hx : p.tables.exec = Jvm.exec) (hb : c.code = mb j) {n : Fin 2} (hd : decode (mb j) pc = .ok (.lconst n, 1)) (h : mint (mW p l e s mid args below meth c Q E D tc j) C j K (mX O j 1 (.lconst n) pc L S cs ss G d)) : mW p l e s mid args below meth c Q E D tc j (pc, L, S, cs, ss, G, d) := by
  exact mW_go hx hb h (fun H locs ls hl k => lv_lconst hx hb hd (m_lc n) k)
theorem s_dconst (hx : p.tables.exec = Jvm.exec) (hb : c.code = mb j)  (hd : decode (mb j) pc = .ok (.dconst 0, 1)) (h : mint (mW p l e s mid args below meth c Q E D tc j) C j K (mX O j 1 (.dconst 0) pc L S cs ss G d)) : mW p l e s mid args below meth c Q E D tc j (pc, L, S, cs, ss, G, d) := by
  exact mW_go hx hb h (fun H locs ls hl k => lv_dconst0 hx hb hd k)
theorem s_iadd (hx : p.tables.exec = Jvm.exec) (hb : c.code = mb j)  (hd : decode (mb j) pc = .ok (.iadd, 1)) (h : mint (mW p l e s mid args below meth c Q E D tc j) C j K (mX O j 1 (.iadd) pc L S cs ss G d)) : mW p l e s mid args below meth c Q E D tc j (pc, L, S, cs, ss, G, d) := by
  simp only [mX] at h
  split at h
  · exact mW_go hx hb h (fun H locs ls hl k => lv_iadd hx hb hd (by have k := k; simp only [mst, List.map_cons, mval] at k ⊢; rw [← Int32.ofInt_add]; exact k))
  · exact absurd h.1 id
theorem s_isub (hx : p.tables.exec = Jvm.exec) (hb : c.code = mb j)  (hd : decode (mb j) pc = .ok (.isub, 1)) (h : mint (mW p l e s mid args below meth c Q E D tc j) C j K (mX O j 1 (.isub) pc L S cs ss G d)) : mW p l e s mid args below meth c Q E D tc j (pc, L, S, cs, ss, G, d) := by
  simp only [mX] at h
  split at h
  · exact mW_go hx hb h (fun H locs ls hl k => lv_isub hx hb hd (by have k := k; simp only [mst, List.map_cons, mval] at k ⊢; rw [← Int32.ofInt_sub]; exact k))
  · exact absurd h.1 id
theorem s_imul (hx : p.tables.exec = Jvm.exec) (hb : c.code = mb j)  (hd : decode (mb j) pc = .ok (.imul, 1)) (h : mint (mW p l e s mid args below meth c Q E D tc j) C j K (mX O j 1 (.imul) pc L S cs ss G d)) : mW p l e s mid args below meth c Q E D tc j (pc, L, S, cs, ss, G, d) := by
  simp only [mX] at h
  split at h
  · exact mW_go hx hb h (fun H locs ls hl k => lv_imul hx hb hd (by have k := k; simp only [mst, List.map_cons, mval] at k ⊢; rw [← Int32.ofInt_mul]; exact k))
  · exact absurd h.1 id
theorem s_ladd (hx : p.tables.exec = Jvm.exec) (hb : c.code = mb j)  (hd : decode (mb j) pc = .ok (.ladd, 1)) (h : mint (mW p l e s mid args below meth c Q E D tc j) C j K (mX O j 1 (.ladd) pc L S cs ss G d)) : mW p l e s mid args below meth c Q E D tc j (pc, L, S, cs, ss, G, d) := by
  simp only [mX] at h
  split at h
  · exact mW_go hx hb h (fun H locs ls hl k => lv_ladd hx hb hd (by have k := k; simp only [mst, List.map_cons, mval] at k ⊢; rw [← Int64.ofInt_add]; exact k))
  · exact absurd h.1 id
theorem s_lsub (hx : p.tables.exec = Jvm.exec) (hb : c.code = mb j)  (hd : decode (mb j) pc = .ok (.lsub, 1)) (h : mint (mW p l e s mid args below meth c Q E D tc j) C j K (mX O j 1 (.lsub) pc L S cs ss G d)) : mW p l e s mid args below meth c Q E D tc j (pc, L, S, cs, ss, G, d) := by
  simp only [mX] at h
  split at h
  · exact mW_go hx hb h (fun H locs ls hl k => lv_lsub hx hb hd (by have k := k; simp only [mst, List.map_cons, mval] at k ⊢; rw [← Int64.ofInt_sub]; exact k))
  · exact absurd h.1 id
theorem s_lmul (hx : p.tables.exec = Jvm.exec) (hb : c.code = mb j)  (hd : decode (mb j) pc = .ok (.lmul, 1)) (h : mint (mW p l e s mid args below meth c Q E D tc j) C j K (mX O j 1 (.lmul) pc L S cs ss G d)) : mW p l e s mid args below meth c Q E D tc j (pc, L, S, cs, ss, G, d) := by
  simp only [mX] at h
  split at h
  · exact mW_go hx hb h (fun H locs ls hl k => lv_lmul hx hb hd (by have k := k; simp only [mst, List.map_cons, mval] at k ⊢; rw [← Int64.ofInt_mul]; exact k))
  · exact absurd h.1 id
theorem s_iand (hx : p.tables.exec = Jvm.exec) (hb : c.code = mb j)  (hd : decode (mb j) pc = .ok (.iand, 1)) (h : mint (mW p l e s mid args below meth c Q E D tc j) C j K (mX O j 1 (.iand) pc L S cs ss G d)) : mW p l e s mid args below meth c Q E D tc j (pc, L, S, cs, ss, G, d) := by
  simp only [mX] at h
  split at h
  · exact mW_go hx hb h (fun H locs ls hl k => lv_iand hx hb hd (by have k := k; simp only [mst, List.map_cons, mval] at k ⊢; rw [show Int32.ofInt (miand _ _) = _ from m_back _] at k; exact k))
  · exact absurd h.1 id
theorem s_ior (hx : p.tables.exec = Jvm.exec) (hb : c.code = mb j)  (hd : decode (mb j) pc = .ok (.ior, 1)) (h : mint (mW p l e s mid args below meth c Q E D tc j) C j K (mX O j 1 (.ior) pc L S cs ss G d)) : mW p l e s mid args below meth c Q E D tc j (pc, L, S, cs, ss, G, d) := by
  simp only [mX] at h
  split at h
  · exact mW_go hx hb h (fun H locs ls hl k => lv_ior hx hb hd (by have k := k; simp only [mst, List.map_cons, mval] at k ⊢; rw [show Int32.ofInt (mior _ _) = _ from m_back _] at k; exact k))
  · exact absurd h.1 id
theorem s_ishl (hx : p.tables.exec = Jvm.exec) (hb : c.code = mb j)  (hd : decode (mb j) pc = .ok (.ishl, 1)) (h : mint (mW p l e s mid args below meth c Q E D tc j) C j K (mX O j 1 (.ishl) pc L S cs ss G d)) : mW p l e s mid args below meth c Q E D tc j (pc, L, S, cs, ss, G, d) := by
  simp only [mX] at h
  split at h
  · exact mW_go hx hb h (fun H locs ls hl k => lv_ishl hx hb hd (by have k := k; simp only [mst, List.map_cons, mval] at k ⊢; rw [show Int32.ofInt (mishl _ _) = _ from m_back _] at k; exact k))
  · exact absurd h.1 id
theorem s_ishr (hx : p.tables.exec = Jvm.exec) (hb : c.code = mb j)  (hd : decode (mb j) pc = .ok (.ishr, 1)) (h : mint (mW p l e s mid args below meth c Q E D tc j) C j K (mX O j 1 (.ishr) pc L S cs ss G d)) : mW p l e s mid args below meth c Q E D tc j (pc, L, S, cs, ss, G, d) := by
  simp only [mX] at h
  split at h
  · exact mW_go hx hb h (fun H locs ls hl k => lv_ishr hx hb hd (by have k := k; simp only [mst, List.map_cons, mval] at k ⊢; rw [show Int32.ofInt (mishr _ _) = _ from m_back _] at k; exact k))
  · exact absurd h.1 id
theorem s_land (hx : p.tables.exec = Jvm.exec) (hb : c.code = mb j)  (hd : decode (mb j) pc = .ok (.land, 1)) (h : mint (mW p l e s mid args below meth c Q E D tc j) C j K (mX O j 1 (.land) pc L S cs ss G d)) : mW p l e s mid args below meth c Q E D tc j (pc, L, S, cs, ss, G, d) := by
  simp only [mX] at h
  split at h
  · exact mW_go hx hb h (fun H locs ls hl k => lv_land hx hb hd (by have k := k; simp only [mst, List.map_cons, mval] at k ⊢; rw [show Int64.ofInt (mland _ _) = _ from m_backL _] at k; exact k))
  · exact absurd h.1 id
theorem s_lor (hx : p.tables.exec = Jvm.exec) (hb : c.code = mb j)  (hd : decode (mb j) pc = .ok (.lor, 1)) (h : mint (mW p l e s mid args below meth c Q E D tc j) C j K (mX O j 1 (.lor) pc L S cs ss G d)) : mW p l e s mid args below meth c Q E D tc j (pc, L, S, cs, ss, G, d) := by
  simp only [mX] at h
  split at h
  · exact mW_go hx hb h (fun H locs ls hl k => lv_lor hx hb hd (by have k := k; simp only [mst, List.map_cons, mval] at k ⊢; rw [show Int64.ofInt (mlor _ _) = _ from m_backL _] at k; exact k))
  · exact absurd h.1 id
theorem s_lxor (hx : p.tables.exec = Jvm.exec) (hb : c.code = mb j)  (hd : decode (mb j) pc = .ok (.lxor, 1)) (h : mint (mW p l e s mid args below meth c Q E D tc j) C j K (mX O j 1 (.lxor) pc L S cs ss G d)) : mW p l e s mid args below meth c Q E D tc j (pc, L, S, cs, ss, G, d) := by
  simp only [mX] at h
  split at h
  · exact mW_go hx hb h (fun H locs ls hl k => lv_lxor hx hb hd (by have k := k; simp only [mst, List.map_cons, mval] at k ⊢; rw [show Int64.ofInt (mlxor _ _) = _ from m_backL _] at k; exact k))
  · exact absurd h.1 id
theorem s_iushr (hx : p.tables.exec = Jvm.exec) (hb : c.code = mb j)  (hd : decode (mb j) pc = .ok (.iushr, 1)) (h : mint (mW p l e s mid args below meth c Q E D tc j) C j K (mX O j 1 (.iushr) pc L S cs ss G d)) : mW p l e s mid args below meth c Q E D tc j (pc, L, S, cs, ss, G, d) := by
  simp only [mX] at h
  split at h
  · exact mW_go hx hb h (fun H locs ls hl k => lv_iushr hx hb hd rfl (by simp only [mst, List.map_cons, mval] at k ⊢; rw [show Int32.ofInt (miushr _ _) = _ from m_back _] at k; exact k))
  · exact absurd h.1 id
theorem s_lushr (hx : p.tables.exec = Jvm.exec) (hb : c.code = mb j)  (hd : decode (mb j) pc = .ok (.lushr, 1)) (h : mint (mW p l e s mid args below meth c Q E D tc j) C j K (mX O j 1 (.lushr) pc L S cs ss G d)) : mW p l e s mid args below meth c Q E D tc j (pc, L, S, cs, ss, G, d) := by
  simp only [mX] at h
  split at h
  · exact mW_go hx hb h (fun H locs ls hl k => lv_lushr hx hb hd rfl (by simp only [mst, List.map_cons, mval] at k ⊢; rw [show Int64.ofInt (mlushr _ _) = _ from m_backL _] at k; exact k))
  · exact absurd h.1 id
theorem s_lshl (hx : p.tables.exec = Jvm.exec) (hb : c.code = mb j)  (hd : decode (mb j) pc = .ok (.lshl, 1)) (h : mint (mW p l e s mid args below meth c Q E D tc j) C j K (mX O j 1 (.lshl) pc L S cs ss G d)) : mW p l e s mid args below meth c Q E D tc j (pc, L, S, cs, ss, G, d) := by
  simp only [mX] at h
  split at h
  · exact mW_go hx hb h (fun H locs ls hl k => lv_lshl hx hb hd rfl (by simp only [mst, List.map_cons, mval] at k ⊢; rw [show Int64.ofInt (mlshl _ _) = _ from m_backL _] at k; exact k))
  · exact absurd h.1 id
theorem s_i2b (hx : p.tables.exec = Jvm.exec) (hb : c.code = mb j)  (hd : decode (mb j) pc = .ok (.i2b, 1)) (h : mint (mW p l e s mid args below meth c Q E D tc j) C j K (mX O j 1 (.i2b) pc L S cs ss G d)) : mW p l e s mid args below meth c Q E D tc j (pc, L, S, cs, ss, G, d) := by
  simp only [mX] at h
  split at h
  · exact mW_go hx hb h (fun H locs ls hl k => lv_i2b hx hb hd (m_back _).symm k)
  · exact absurd h.1 id
theorem s_l2i (hx : p.tables.exec = Jvm.exec) (hb : c.code = mb j)  (hd : decode (mb j) pc = .ok (.l2i, 1)) (h : mint (mW p l e s mid args below meth c Q E D tc j) C j K (mX O j 1 (.l2i) pc L S cs ss G d)) : mW p l e s mid args below meth c Q E D tc j (pc, L, S, cs, ss, G, d) := by
  simp only [mX] at h
  split at h
  · exact mW_go hx hb h (fun H locs ls hl k => lv_l2i hx hb hd (m_l2i _) k)
  · exact absurd h.1 id
theorem s_i2d (hx : p.tables.exec = Jvm.exec) (hb : c.code = mb j)  (hd : decode (mb j) pc = .ok (.i2d, 1)) (h : mint (mW p l e s mid args below meth c Q E D tc j) C j K (mX O j 1 (.i2d) pc L S cs ss G d)) : mW p l e s mid args below meth c Q E D tc j (pc, L, S, cs, ss, G, d) := by
  simp only [mX] at h
  split at h
  · exact mW_go hx hb h (fun H locs ls hl k => lv_i2d hx hb hd (by simp only [mst, List.map_cons, mval] at k ⊢; rw [show mbit (mi2d _) = _ from m_bit _] at k; exact k))
  · exact absurd h.1 id
theorem s_pop (hx : p.tables.exec = Jvm.exec) (hb : c.code = mb j)  (hd : decode (mb j) pc = .ok (.pop, 1)) (h : mint (mW p l e s mid args below meth c Q E D tc j) C j K (mX O j 1 (.pop) pc L S cs ss G d)) : mW p l e s mid args below meth c Q E D tc j (pc, L, S, cs, ss, G, d) := by
  simp only [mX] at h
  split at h
  · exact mW_go hx hb h (fun H locs ls hl k => lv_pop hx hb hd rfl k)
  · exact mW_go hx hb h (fun H locs ls hl k => lv_pop hx hb hd (by simp only [mval]; split <;> rfl) k)
  · exact absurd h.1 id
theorem s_null (hx : p.tables.exec = Jvm.exec) (hb : c.code = mb j)  (hd : decode (mb j) pc = .ok (.aconst_null, 1)) (h : mint (mW p l e s mid args below meth c Q E D tc j) C j K (mX O j 1 (.aconst_null) pc L S cs ss G d)) : mW p l e s mid args below meth c Q E D tc j (pc, L, S, cs, ss, G, d) := by
  exact mW_go hx hb h (fun H locs ls hl k => lv_null hx hb hd (by have k := k; simp only [mst, List.map_cons, mval] at k ⊢; exact k))
theorem s_ineg (hx : p.tables.exec = Jvm.exec) (hb : c.code = mb j)  (hd : decode (mb j) pc = .ok (.ineg, 1)) (h : mint (mW p l e s mid args below meth c Q E D tc j) C j K (mX O j 1 (.ineg) pc L S cs ss G d)) : mW p l e s mid args below meth c Q E D tc j (pc, L, S, cs, ss, G, d) := by
  simp only [mX] at h
  split at h
  · exact mW_go hx hb h (fun H locs ls hl k => lv_ineg hx hb hd (by have k := k; simp only [mst, List.map_cons, mval] at k ⊢; rw [← Int32.ofInt_neg]; exact k))
  · exact absurd h.1 id
theorem s_i2c (hx : p.tables.exec = Jvm.exec) (hb : c.code = mb j)  (hd : decode (mb j) pc = .ok (.i2c, 1)) (h : mint (mW p l e s mid args below meth c Q E D tc j) C j K (mX O j 1 (.i2c) pc L S cs ss G d)) : mW p l e s mid args below meth c Q E D tc j (pc, L, S, cs, ss, G, d) := by
  simp only [mX] at h
  split at h
  · exact mW_go hx hb h (fun H locs ls hl k => lv_i2c hx hb hd (m_back _).symm k)
  · exact absurd h.1 id
theorem s_dup_x1 (hx : p.tables.exec = Jvm.exec) (hb : c.code = mb j)  (hd : decode (mb j) pc = .ok (.dup_x1, 1)) (h : mint (mW p l e s mid args below meth c Q E D tc j) C j K (mX O j 1 (.dup_x1) pc L S cs ss G d)) : mW p l e s mid args below meth c Q E D tc j (pc, L, S, cs, ss, G, d) := by
  simp only [mX] at h
  split at h
  · exact mW_go hx hb h (fun H locs ls hl k => lv_dup_x1 hx hb hd rfl (by simp only [mval]; split <;> rfl) k)
  · exact absurd h.1 id
theorem s_dup2 (hx : p.tables.exec = Jvm.exec) (hb : c.code = mb j)  (hd : decode (mb j) pc = .ok (.dup2, 1)) (h : mint (mW p l e s mid args below meth c Q E D tc j) C j K (mX O j 1 (.dup2) pc L S cs ss G d)) : mW p l e s mid args below meth c Q E D tc j (pc, L, S, cs, ss, G, d) := by
  simp only [mX] at h
  split at h
  · exact mW_go hx hb h (fun H locs ls hl k => lv_dup2_11 hx hb hd rfl (by simp only [mval]; split <;> rfl) k)
  · exact absurd h.1 id
theorem s_idiv (hx : p.tables.exec = Jvm.exec) (hb : c.code = mb j)  (hd : decode (mb j) pc = .ok (.idiv, 1)) (h : mint (mW p l e s mid args below meth c Q E D tc j) C j K (mX O j 1 (.idiv) pc L S cs ss G d)) : mW p l e s mid args below meth c Q E D tc j (pc, L, S, cs, ss, G, d) := by
  simp only [mX] at h
  split at h
  · obtain ⟨q, h⟩ := h
    exact mW_go hx hb h (fun H locs ls hl k => lv_idiv hx hb hd (m_nneg0 q.2.2.1 q.2.2.2) (by simp only [mst, List.map_cons, mval] at k ⊢; rw [m_div q.1 q.2.1 q.2.2.1 q.2.2.2]; exact k))
  · exact absurd h.1 id
theorem s_irem (hx : p.tables.exec = Jvm.exec) (hb : c.code = mb j)  (hd : decode (mb j) pc = .ok (.irem, 1)) (h : mint (mW p l e s mid args below meth c Q E D tc j) C j K (mX O j 1 (.irem) pc L S cs ss G d)) : mW p l e s mid args below meth c Q E D tc j (pc, L, S, cs, ss, G, d) := by
  simp only [mX] at h
  split at h
  · obtain ⟨q, h⟩ := h
    exact mW_go hx hb h (fun H locs ls hl k => lv_irem hx hb hd (m_nneg0 q.2.2.1 q.2.2.2) (by simp only [mst, List.map_cons, mval] at k ⊢; rw [m_rem q.1 q.2.1 q.2.2.1 q.2.2.2]; exact k))
  · exact absurd h.1 id
theorem s_i2l (hx : p.tables.exec = Jvm.exec) (hb : c.code = mb j)  (hd : decode (mb j) pc = .ok (.i2l, 1)) (h : mint (mW p l e s mid args below meth c Q E D tc j) C j K (mX O j 1 (.i2l) pc L S cs ss G d)) : mW p l e s mid args below meth c Q E D tc j (pc, L, S, cs, ss, G, d) := by
  simp only [mX] at h
  split at h
  · obtain ⟨q, h⟩ := h
    exact mW_go hx hb h (fun H locs ls hl k => lv_i2l hx hb hd (m_i2l q) k)
  · exact absurd h.1 id
theorem s_lcmp (hx : p.tables.exec = Jvm.exec) (hb : c.code = mb j)  (hd : decode (mb j) pc = .ok (.lcmp, 1)) (h : mint (mW p l e s mid args below meth c Q E D tc j) C j K (mX O j 1 (.lcmp) pc L S cs ss G d)) : mW p l e s mid args below meth c Q E D tc j (pc, L, S, cs, ss, G, d) := by
  simp only [mX] at h
  split at h
  · obtain ⟨q, h⟩ := h
    exact mW_go hx hb h (fun H locs ls hl k => W.lcmp hx hb hd (by simp only [mst, List.map_cons, mval] at k ⊢; rw [m_cmp q.1 q.2]; exact k))
  · exact absurd h.1 id
theorem s_ddiv (hx : p.tables.exec = Jvm.exec) (hb : c.code = mb j)  (hd : decode (mb j) pc = .ok (.ddiv, 1)) (h : mint (mW p l e s mid args below meth c Q E D tc j) C j K (mX O j 1 (.ddiv) pc L S cs ss G d)) : mW p l e s mid args below meth c Q E D tc j (pc, L, S, cs, ss, G, d) := by
  simp only [mX] at h
  split at h
  · obtain ⟨q, h⟩ := h
    exact mW_go hx hb h (fun H locs ls hl k => lv_ddiv hx hb hd q (by simp only [mst, List.map_cons, mval] at k ⊢; rw [show mbit (mddiv _ _) = _ from m_bit _] at k; exact k))
  · exact absurd h.1 id
theorem s_dcmp (hx : p.tables.exec = Jvm.exec) (hb : c.code = mb j) {op : CmpOp} (hd : decode (mb j) pc = .ok (.dcmp op, 1)) (h : mint (mW p l e s mid args below meth c Q E D tc j) C j K (mX O j 1 (.dcmp op) pc L S cs ss G d)) : mW p l e s mid args below meth c Q E D tc j (pc, L, S, cs, ss, G, d) := by
  simp only [mX] at h
  split at h
  · exact mW_go hx hb h (fun H locs ls hl k => lv_dcmp hx hb hd (by simp only [mst, List.map_cons, mval] at k ⊢; rw [show Int32.ofInt (mdcmp _ _ _) = _ from m_back _] at k; exact k))
  · exact absurd h.1 id
theorem s_dup (hx : p.tables.exec = Jvm.exec) (hb : c.code = mb j)  (hd : decode (mb j) pc = .ok (.dup, 1)) (h : mint (mW p l e s mid args below meth c Q E D tc j) C j K (mX O j 1 (.dup) pc L S cs ss G d)) : mW p l e s mid args below meth c Q E D tc j (pc, L, S, cs, ss, G, d) := by
  simp only [mX] at h
  split at h
  · exact mW_go hx hb h (fun H locs ls hl k => lv_dup hx hb hd rfl k)
  · exact mW_go hx hb h (fun H locs ls hl k => lv_dup hx hb hd (by simp only [mval]; split <;> rfl) k)
  · exact absurd h.1 id
theorem s_iload (hx : p.tables.exec = Jvm.exec) (hb : c.code = mb j) {n9 : Nat} (hd : decode (mb j) pc = .ok (.iload n9, 2)) (h : mint (mW p l e s mid args below meth c Q E D tc j) C j K (mX O j 2 (.iload n9) pc L S cs ss G d)) : mW p l e s mid args below meth c Q E D tc j (pc, L, S, cs, ss, G, d) := by
  simp only [mX] at h
  split at h
  · rename_i x hg
    exact mW_go hx hb h (fun H locs ls hl k => lv_iload hx hb hd (by have q := hl.2.2.2 n9 (by rw [hg]; exact Nat.le_of_ble_eq_true rfl); rw [hg] at q; exact q) k)
  · exact absurd h.1 id
theorem s_iload_n (hx : p.tables.exec = Jvm.exec) (hb : c.code = mb j) {n9 : Fin 4} (hd : decode (mb j) pc = .ok (.iload_n n9, 1)) (h : mint (mW p l e s mid args below meth c Q E D tc j) C j K (mX O j 1 (.iload (n9 : Nat)) pc L S cs ss G d)) : mW p l e s mid args below meth c Q E D tc j (pc, L, S, cs, ss, G, d) := by
  simp only [mX] at h
  split at h
  · rename_i x hg
    exact mW_go hx hb h (fun H locs ls hl k => lv_iload_n hx hb hd rfl (by have q := hl.2.2.2 n9 (by rw [hg]; exact Nat.le_of_ble_eq_true rfl); rw [hg] at q; exact q) k)
  · exact absurd h.1 id
theorem s_lload (hx : p.tables.exec = Jvm.exec) (hb : c.code = mb j) {n9 : Nat} (hd : decode (mb j) pc = .ok (.lload n9, 2)) (h : mint (mW p l e s mid args below meth c Q E D tc j) C j K (mX O j 2 (.lload n9) pc L S cs ss G d)) : mW p l e s mid args below meth c Q E D tc j (pc, L, S, cs, ss, G, d) := by
  simp only [mX] at h
  split at h
  · rename_i x hg
    exact mW_go hx hb h (fun H locs ls hl k => lv_lload hx hb hd (by have q := hl.2.2.2 n9 (by rw [hg]; exact Nat.le_of_ble_eq_true rfl); rw [hg] at q; exact q) k)
  · exact absurd h.1 id
theorem s_lload_n (hx : p.tables.exec = Jvm.exec) (hb : c.code = mb j) {n9 : Fin 4} (hd : decode (mb j) pc = .ok (.lload_n n9, 1)) (h : mint (mW p l e s mid args below meth c Q E D tc j) C j K (mX O j 1 (.lload (n9 : Nat)) pc L S cs ss G d)) : mW p l e s mid args below meth c Q E D tc j (pc, L, S, cs, ss, G, d) := by
  simp only [mX] at h
  split at h
  · rename_i x hg
    exact mW_go hx hb h (fun H locs ls hl k => lv_lload_n hx hb hd rfl (by have q := hl.2.2.2 n9 (by rw [hg]; exact Nat.le_of_ble_eq_true rfl); rw [hg] at q; exact q) k)
  · exact absurd h.1 id
theorem s_dload (hx : p.tables.exec = Jvm.exec) (hb : c.code = mb j) {n9 : Nat} (hd : decode (mb j) pc = .ok (.dload n9, 2)) (h : mint (mW p l e s mid args below meth c Q E D tc j) C j K (mX O j 2 (.dload n9) pc L S cs ss G d)) : mW p l e s mid args below meth c Q E D tc j (pc, L, S, cs, ss, G, d) := by
  simp only [mX] at h
  split at h
  · rename_i x hg
    exact mW_go hx hb h (fun H locs ls hl k => lv_dload hx hb hd (by have q := hl.2.2.2 n9 (by rw [hg]; exact Nat.le_of_ble_eq_true rfl); rw [hg] at q; exact q) k)
  · exact absurd h.1 id
theorem s_dload_n (hx : p.tables.exec = Jvm.exec) (hb : c.code = mb j) {n9 : Fin 4} (hd : decode (mb j) pc = .ok (.dload_n n9, 1)) (h : mint (mW p l e s mid args below meth c Q E D tc j) C j K (mX O j 1 (.dload (n9 : Nat)) pc L S cs ss G d)) : mW p l e s mid args below meth c Q E D tc j (pc, L, S, cs, ss, G, d) := by
  simp only [mX] at h
  split at h
  · rename_i x hg
    exact mW_go hx hb h (fun H locs ls hl k => lv_dload_n hx hb hd rfl (by have q := hl.2.2.2 n9 (by rw [hg]; exact Nat.le_of_ble_eq_true rfl); rw [hg] at q; exact q) k)
  · exact absurd h.1 id
theorem s_aload (hx : p.tables.exec = Jvm.exec) (hb : c.code = mb j) {n9 : Nat} (hd : decode (mb j) pc = .ok (.aload n9, 2)) (h : mint (mW p l e s mid args below meth c Q E D tc j) C j K (mX O j 2 (.aload n9) pc L S cs ss G d)) : mW p l e s mid args below meth c Q E D tc j (pc, L, S, cs, ss, G, d) := by
  simp only [mX] at h
  split at h
  · rename_i x hg
    refine mW_go hx hb h (fun H locs ls hl k => ?_)
    have q := hl.2.2.2 n9 (by rw [hg]; exact Nat.le_of_ble_eq_true rfl)
    rw [hg] at q
    simp only [mst, List.map_cons, mval] at k q ⊢
    by_cases h0 : x < 0
    · rw [if_pos h0] at k q
      exact lv_aloadN hx hb hd q k
    · rw [if_neg h0] at k q
      exact lv_aload hx hb hd q k
  · rename_i x hg
    exact mW_go hx hb h (fun H locs ls hl k => lv_aload hx hb hd (by have q := hl.2.2.2 n9 (by rw [hg]; exact Nat.le_of_ble_eq_true rfl); rw [hg] at q; exact q) k)
  · rename_i x hg
    exact mW_go hx hb h (fun H locs ls hl k => lv_aload hx hb hd (by have q := hl.2.2.2 n9 (by rw [hg]; exact Nat.le_of_ble_eq_true rfl); rw [hg] at q; exact q) k)
  · exact absurd h.1 id
theorem s_aload_n (hx : p.tables.exec = Jvm.exec) (hb : c.code = mb j) {n9 : Fin 4} (hd : decode (mb j) pc = .ok (.aload_n n9, 1)) (h : mint (mW p l e s mid args below meth c Q E D tc j) C j K (mX O j 1 (.aload (n9 : Nat)) pc L S cs ss G d)) : mW p l e s mid args below meth c Q E D tc j (pc, L, S, cs, ss, G, d) := by
  simp only [mX] at h
  split at h
  · rename_i x hg
    refine mW_go hx hb h (fun H locs ls hl k => ?_)
    have q := hl.2.2.2 n9 (by rw [hg]; exact Nat.le_of_ble_eq_true rfl)
    rw [hg] at q
    simp only [mst, List.map_cons, mval] at k q ⊢
    by_cases h0 : x < 0
    · rw [if_pos h0] at k q
      exact lv_aload_nN hx hb hd rfl q k
    · rw [if_neg h0] at k q
      exact lv_aload_n hx hb hd rfl q k
  · rename_i x hg
    exact mW_go hx hb h (fun H locs ls hl k => lv_aload_n hx hb hd rfl (by have q := hl.2.2.2 n9 (by rw [hg]; exact Nat.le_of_ble_eq_true rfl); rw [hg] at q; exact q) k)
  · rename_i x hg
    exact mW_go hx hb h (fun H locs ls hl k => lv_aload_n hx hb hd rfl (by have q := hl.2.2.2 n9 (by rw [hg]; exact Nat.le_of_ble_eq_true rfl); rw [hg] at q; exact q) k)
  · exact absurd h.1 id
end SA
/-! ===== locals that are written, branches ===== -/
def mlist (E : mE) (L : List mV) : List (Nat × Value) := (List.range L.length).filterMap (fun i => if (mget L i).1 < 6 then some (i, mval E (mget L i)) else none)
theorem mget_out : ∀ (L : List mV) (i : Nat), L.length ≤ i → mget L i = mu
  | [], _, _ => rfl
  | _ :: l, i + 1, h => mget_out l i (by simp at h; omega)
theorem mlist_mem {E : mE} {L : List mV} {i : Nat} (h : (mget L i).1 < 6) : (i, mval E (mget L i)) ∈ mlist E L := by
  refine List.mem_filterMap.mpr ⟨i, List.mem_range.mpr ?_, by rw [if_pos h]⟩
  rcases Nat.lt_or_ge i L.length with q | q
  · exact q
  · rw [mget_out L i q] at h
    exact absurd h (by decide)
theorem mLoc_has {E : mE} {ls : Array Slot} {nL : Nat} {L : List mV} (h : mLoc E ls nL L) : lv_has ls nL (mlist E L) := by
  refine ⟨h.1, h.2.1, fun q hq => ?_⟩
  obtain ⟨i, -, hi⟩ := List.mem_filterMap.mp hq
  split at hi
  · rename_i h6
    cases hi
    exact h.2.2.2 i h6
  · cases hi
theorem m_cat (E : mE) : ∀ (v : mV), v.1 < 6 → ((mval E v).category == 2) = mc2 v
  | (0, _), _ => rfl
  | (1, _), _ => rfl
  | (2, _), _ => rfl
  | (3, x), _ => by simp only [mval]; split <;> rfl
  | (4, _), _ => rfl
  | (5, _), _ => rfl
  | (n + 6, _), h => by have h : n + 6 < 6 := h; omega
theorem mLoc_put1 {E : mE} {ls' : Array Slot} {nL : Nat} {L : List mV} {k : Nat} {v : mV} (hl : L.length = nL) (hk : k < nL)
    (h : lv_has ls' nL ((k, mval E v) :: (mlist E L).filter (fun q => !(q.1 == k) && !(q.1 + 1 == k && q.2.category == 2)))) : mLoc E ls' nL (mput1 L k v) := by
  refine ⟨h.1, h.2.1, by rw [mput1_len]; exact hl, fun i hi => ?_⟩
  rw [mget_put1 L k v i (by omega)] at hi ⊢
  by_cases h1 : i = k
  · rw [if_pos h1] at hi ⊢
    rw [h1]
    exact h.2.2 _ List.mem_cons_self
  · rw [if_neg h1] at hi ⊢
    by_cases h2 : i + 1 = k ∧ mc2 (mget L i) = true
    · rw [if_pos h2] at hi
      exact absurd hi (by decide)
    · rw [if_neg h2] at hi ⊢
      refine h.2.2 (i, mval E (mget L i)) (List.mem_cons_of_mem _ (List.mem_filter.mpr ⟨mlist_mem hi, ?_⟩))
      simp only [m_cat E _ hi]
      simp [h1]
      by_cases h3 : i + 1 = k
      · right
        cases hc : mc2 (mget L i)
        · rfl
        · exact absurd ⟨h3, hc⟩ h2
      · exact Or.inl h3
theorem mLoc_put2 {E : mE} {ls' : Array Slot} {nL : Nat} {L : List mV} {k : Nat} {v : mV} (hl : L.length = nL) (hk : k < nL)
    (h : lv_has ls' nL ((k, mval E v) :: (mlist E L).filter (fun q => !(q.1 == k) && (!(q.1 == k + 1) && !(q.1 + 1 == k && q.2.category == 2))))) : mLoc E ls' nL (mput2 L k v) := by
  refine ⟨h.1, h.2.1, by rw [mput2_len]; exact hl, fun i hi => ?_⟩
  rw [mget_put2 L k v i (by omega)] at hi ⊢
  by_cases h1 : i = k
  · rw [if_pos h1] at hi ⊢
    rw [h1]
    exact h.2.2 _ List.mem_cons_self
  · rw [if_neg h1] at hi ⊢
    by_cases h4 : i = k + 1
    · rw [if_pos h4] at hi
      exact absurd hi (by decide)
    · rw [if_neg h4] at hi ⊢
      by_cases h2 : i + 1 = k ∧ mc2 (mget L i) = true
      · rw [if_pos h2] at hi
        exact absurd hi (by decide)
      · rw [if_neg h2] at hi ⊢
        refine h.2.2 (i, mval E (mget L i)) (List.mem_cons_of_mem _ (List.mem_filter.mpr ⟨mlist_mem hi, ?_⟩))
        simp only [m_cat E _ hi]
        simp [h1, h4]
        by_cases h3 : i + 1 = k
        · right
          cases hc : mc2 (mget L i)
          · rfl
          · exact absurd ⟨h3, hc⟩ h2
        · exact Or.inl h3
section SB
variable {p : Program} {l : Launch} {e : Env} {s : State} {mid : MethodId} {args : Array Value} {below : List Frame} {meth : Method} {c : Code} {Q : State → Prop}
variable {E : mE} {D : va_G} {tc : Int → ClassId} {O : mO} {j : Nat}
variable {C : Nat → List mV → mG → mD → mK → Prop} {K : mK} {pc len : Nat} {L S : List mV} {cs ss : Nat} {G : mG} {d : mD}

theorem s_istore (hx : p.tables.exec = Jvm.exec) (hb : c.code = mb j) {n9 : Nat} (hk : (n9 : Nat) < mmaxL j) (hd : decode (mb j) pc = .ok (.istore n9, 2)) (h : mint (mW p l e s mid args below meth c Q E D tc j) C j K (mX O j 2 (.istore n9) pc L S cs ss G d)) : mW p l e s mid args below meth c Q E D tc j (pc, L, S, cs, ss, G, d) := by
  simp only [mX] at h
  split at h
  · intro H locs ls hl hr hs h1 h2
    exact lv_istore hx hb hd (mLoc_has hl) hk rfl (fun ls' hl' => h H locs ls' (mLoc_put1 hl.2.2.1 (by omega) hl') hr hs h1 h2)
  · exact absurd h.1 id
theorem s_istore_n (hx : p.tables.exec = Jvm.exec) (hb : c.code = mb j) {n9 : Fin 4} (hk : (n9 : Nat) < mmaxL j) (hd : decode (mb j) pc = .ok (.istore_n n9, 1)) (h : mint (mW p l e s mid args below meth c Q E D tc j) C j K (mX O j 1 (.istore (n9 : Nat)) pc L S cs ss G d)) : mW p l e s mid args below meth c Q E D tc j (pc, L, S, cs, ss, G, d) := by
  simp only [mX] at h
  split at h
  · intro H locs ls hl hr hs h1 h2
    exact lv_istore_n hx hb hd rfl (mLoc_has hl) hk rfl (fun ls' hl' => h H locs ls' (mLoc_put1 hl.2.2.1 (by omega) hl') hr hs h1 h2)
  · exact absurd h.1 id
theorem s_lstore (hx : p.tables.exec = Jvm.exec) (hb : c.code = mb j) {n9 : Nat} (hk : (n9 : Nat) + 1 < mmaxL j) (hd : decode (mb j) pc = .ok (.lstore n9, 2)) (h : mint (mW p l e s mid args below meth c Q E D tc j) C j K (mX O j 2 (.lstore n9) pc L S cs ss G d)) : mW p l e s mid args below meth c Q E D tc j (pc, L, S, cs, ss, G, d) := by
  simp only [mX] at h
  split at h
  · intro H locs ls hl hr hs h1 h2
    exact lv_lstore hx hb hd (mLoc_has hl) hk rfl (fun ls' hl' => h H locs ls' (mLoc_put2 hl.2.2.1 (by omega) hl') hr hs h1 h2)
  · exact absurd h.1 id
theorem s_lstore_n (hx : p.tables.exec = Jvm.exec) (hb : c.code = mb j) {n9 : Fin 4} (hk : (n9 : Nat) + 1 < mmaxL j) (hd : decode (mb j) pc = .ok (.lstore_n n9, 1)) (h : mint (mW p l e s mid args below meth c Q E D tc j) C j K (mX O j 1 (.lstore (n9 : Nat)) pc L S cs ss G d)) : mW p l e s mid args below meth c Q E D tc j (pc, L, S, cs, ss, G, d) := by
  simp only [mX] at h
  split at h
  · intro H locs ls hl hr hs h1 h2
    exact lv_lstore_n hx hb hd rfl (mLoc_has hl) hk rfl (fun ls' hl' => h H locs ls' (mLoc_put2 hl.2.2.1 (by omega) hl') hr hs h1 h2)
  · exact absurd h.1 id
theorem s_dstore (hx : p.tables.exec = Jvm.exec) (hb : c.code = mb j) {n9 : Nat} (hk : (n9 : Nat) + 1 < mmaxL j) (hd : decode (mb j) pc = .ok (.dstore n9, 2)) (h : mint (mW p l e s mid args below meth c Q E D tc j) C j K (mX O j 2 (.dstore n9) pc L S cs ss G d)) : mW p l e s mid args below meth c Q E D tc j (pc, L, S, cs, ss, G, d) := by
  simp only [mX] at h
  split at h
  · intro H locs ls hl hr hs h1 h2
    exact lv_dstore hx hb hd (mLoc_has hl) hk rfl (fun ls' hl' => h H locs ls' (mLoc_put2 hl.2.2.1 (by omega) hl') hr hs h1 h2)
  · exact absurd h.1 id
theorem s_dstore_n (hx : p.tables.exec = Jvm.exec) (hb : c.code = mb j) {n9 : Fin 4} (hk : (n9 : Nat) + 1 < mmaxL j) (hd : decode (mb j) pc = .ok (.dstore_n n9, 1)) (h : mint (mW p l e s mid args below meth c Q E D tc j) C j K (mX O j 1 (.dstore (n9 : Nat)) pc L S cs ss G d)) : mW p l e s mid args below meth c Q E D tc j (pc, L, S, cs, ss, G, d) := by
  simp only [mX] at h
  split at h
  · intro H locs ls hl hr hs h1 h2
    exact lv_dstore_n hx hb hd rfl (mLoc_has hl) hk rfl (fun ls' hl' => h H locs ls' (mLoc_put2 hl.2.2.1 (by omega) hl') hr hs h1 h2)
  · exact absurd h.1 id
theorem s_astore (hx : p.tables.exec = Jvm.exec) (hb : c.code = mb j) {n9 : Nat} (hk : (n9 : Nat) < mmaxL j) (hd : decode (mb j) pc = .ok (.astore n9, 2)) (h : mint (mW p l e s mid args below meth c Q E D tc j) C j K (mX O j 2 (.astore n9) pc L S cs ss G d)) : mW p l e s mid args below meth c Q E D tc j (pc, L, S, cs, ss, G, d) := by
  simp only [mX] at h
  split at h
  · rename_i x S'
    obtain ⟨q, h⟩ := h
    intro H locs ls hl hr hs h1 h2
    have e1 : mval E (3, x) = .ref (E.1 + mtau x) := by simp only [mval]; rw [if_neg (by omega)]
    have e2 : mst E ((3, x) :: S') = .ref (E.1 + mtau x) :: mst E S' := by simp only [mst, List.map_cons, e1]
    rw [e2]
    refine lv_astore hx hb hd (mLoc_has hl) hk rfl (fun ls' hl' => h H locs ls' (mLoc_put1 hl.2.2.1 (by omega) ?_) hr hs h1 h2)
    rw [e1]
    exact hl'
  · exact absurd h.1 id
theorem s_astore_n (hx : p.tables.exec = Jvm.exec) (hb : c.code = mb j) {n9 : Fin 4} (hk : (n9 : Nat) < mmaxL j) (hd : decode (mb j) pc = .ok (.astore_n n9, 1)) (h : mint (mW p l e s mid args below meth c Q E D tc j) C j K (mX O j 1 (.astore (n9 : Nat)) pc L S cs ss G d)) : mW p l e s mid args below meth c Q E D tc j (pc, L, S, cs, ss, G, d) := by
  simp only [mX] at h
  split at h
  · rename_i x S'
    obtain ⟨q, h⟩ := h
    intro H locs ls hl hr hs h1 h2
    have e1 : mval E (3, x) = .ref (E.1 + mtau x) := by simp only [mval]; rw [if_neg (by omega)]
    have e2 : mst E ((3, x) :: S') = .ref (E.1 + mtau x) :: mst E S' := by simp only [mst, List.map_cons, e1]
    rw [e2]
    refine lv_astore_n hx hb hd rfl (mLoc_has hl) hk rfl (fun ls' hl' => h H locs ls' (mLoc_put1 hl.2.2.1 (by omega) ?_) hr hs h1 h2)
    rw [e1]
    exact hl'
  · exact absurd h.1 id
theorem s_iinc (hx : p.tables.exec = Jvm.exec) (hb : c.code = mb j) {n9 : Nat} {n : Int} (hk : n9 < mmaxL j) (hd : decode (mb j) pc = .ok (.iinc n9 n, 3)) (h : mint (mW p l e s mid args below meth c Q E D tc j) C j K (mX O j 3 (.iinc n9 n) pc L S cs ss G d)) : mW p l e s mid args below meth c Q E D tc j (pc, L, S, cs, ss, G, d) := by
  simp only [mX] at h
  split at h
  · rename_i x hg
    intro H locs ls hl hr hs h1 h2
    have hm : (n9, mval E (mget L n9)) ∈ mlist E L := mlist_mem (by rw [hg]; exact Nat.le_of_ble_eq_true rfl)
    rw [hg] at hm
    obtain ⟨k0, hk0⟩ := List.getElem?_of_mem hm
    refine lv_iinc hx hb hd (mLoc_has hl) hk0 rfl hk rfl (fun ls' hl' => h H locs ls' (mLoc_put1 hl.2.2.1 (by omega) ?_) hr hs h1 h2)
    rw [show mval E (0, x + n) = Value.int (Int32.ofInt x + Int32.ofInt n) by simp only [mval]; rw [Int32.ofInt_add]]
    exact hl'
  · exact absurd h.1 id
theorem s_goto (hx : p.tables.exec = Jvm.exec) (hb : c.code = mb j) {t t2 : Int} (ht : (pc : Int) + t2 = t) (h0 : 0 ≤ t) (hd : decode (mb j) pc = .ok (.goto t2, 3)) (h : mint (mW p l e s mid args below meth c Q E D tc j) C j K (mX O j 3 (.goto t) pc L S cs ss G d)) : mW p l e s mid args below meth c Q E D tc j (pc, L, S, cs, ss, G, d) := by
  exact mW_go hx hb h (fun H locs ls hl k => lv_goto hx hb hd (by omega) k)
theorem s_ifnonnull (hx : p.tables.exec = Jvm.exec) (hb : c.code = mb j) {t t2 : Int} (ht : (pc : Int) + t2 = t) (h0 : 0 ≤ t) (hd : decode (mb j) pc = .ok (.ifnonnull t2, 3)) (h : mint (mW p l e s mid args below meth c Q E D tc j) C j K (mX O j 3 (.ifnonnull t) pc L S cs ss G d)) : mW p l e s mid args below meth c Q E D tc j (pc, L, S, cs, ss, G, d) := by
  simp only [mX] at h
  split at h
  · exact mW_go hx hb h (fun H locs ls hl k => lv_ifnonnull hx hb hd (tgt := t.toNat) (by omega) k)
  · exact absurd h.1 id
theorem m_r0 : mInR 0 := ⟨by decide, by decide⟩
theorem s_icmp_eq (hx : p.tables.exec = Jvm.exec) (hb : c.code = mb j) {t t2 : Int} (ht : (pc : Int) + t2 = t) (h0 : 0 ≤ t) (hd : decode (mb j) pc = .ok (.if_icmp .eq t2, 3)) (h : mint (mW p l e s mid args below meth c Q E D tc j) C j K (mX O j 3 (.if_icmp .eq t) pc L S cs ss G d)) : mW p l e s mid args below meth c Q E D tc j (pc, L, S, cs, ss, G, d) := by
  simp only [mX] at h
  split at h
  · obtain ⟨q, ha, hc⟩ := h
    intro H locs ls hl hr hs h1 h2
    exact lv_icmp_eq hx hb hd (tgt := t.toNat) (by omega) (fun z => ha ((m_eq q.1 q.2).mp z) H locs ls hl hr hs h1 h2) (fun z => hc (fun w => z ((m_eq q.1 q.2).mpr w)) H locs ls hl hr hs h1 h2)
  · exact absurd h.1 id
theorem s_if_eq (hx : p.tables.exec = Jvm.exec) (hb : c.code = mb j) {t t2 : Int} (ht : (pc : Int) + t2 = t) (h0 : 0 ≤ t) (hd : decode (mb j) pc = .ok (.ifCond .eq t2, 3)) (h : mint (mW p l e s mid args below meth c Q E D tc j) C j K (mX O j 3 (.ifCond .eq t) pc L S cs ss G d)) : mW p l e s mid args below meth c Q E D tc j (pc, L, S, cs, ss, G, d) := by
  simp only [mX] at h
  split at h
  · obtain ⟨q, ha, hc⟩ := h
    intro H locs ls hl hr hs h1 h2
    exact lv_if_eq hx hb hd (tgt := t.toNat) (by omega) (fun z => ha ((m_eq q m_r0).mp z) H locs ls hl hr hs h1 h2) (fun z => hc (fun w => z ((m_eq q m_r0).mpr w)) H locs ls hl hr hs h1 h2)
  · exact absurd h.1 id
theorem s_icmp_ne (hx : p.tables.exec = Jvm.exec) (hb : c.code = mb j) {t t2 : Int} (ht : (pc : Int) + t2 = t) (h0 : 0 ≤ t) (hd : decode (mb j) pc = .ok (.if_icmp .ne t2, 3)) (h : mint (mW p l e s mid args below meth c Q E D tc j) C j K (mX O j 3 (.if_icmp .ne t) pc L S cs ss G d)) : mW p l e s mid args below meth c Q E D tc j (pc, L, S, cs, ss, G, d) := by
  simp only [mX] at h
  split at h
  · obtain ⟨q, ha, hc⟩ := h
    intro H locs ls hl hr hs h1 h2
    exact lv_icmp_ne hx hb hd (tgt := t.toNat) (by omega) (fun z => ha (fun w => z ((m_eq q.1 q.2).mpr w)) H locs ls hl hr hs h1 h2) (fun z => hc ((m_eq q.1 q.2).mp z) H locs ls hl hr hs h1 h2)
  · exact absurd h.1 id
theorem s_if_ne (hx : p.tables.exec = Jvm.exec) (hb : c.code = mb j) {t t2 : Int} (ht : (pc : Int) + t2 = t) (h0 : 0 ≤ t) (hd : decode (mb j) pc = .ok (.ifCond .ne t2, 3)) (h : mint (mW p l e s mid args below meth c Q E D tc j) C j K (mX O j 3 (.ifCond .ne t) pc L S cs ss G d)) : mW p l e s mid args below meth c Q E D tc j (pc, L, S, cs, ss, G, d) := by
  simp only [mX] at h
  split at h
  · obtain ⟨q, ha, hc⟩ := h
    intro H locs ls hl hr hs h1 h2
    exact lv_if_ne hx hb hd (tgt := t.toNat) (by omega) (fun z => ha (fun w => z ((m_eq q m_r0).mpr w)) H locs ls hl hr hs h1 h2) (fun z => hc ((m_eq q m_r0).mp z) H locs ls hl hr hs h1 h2)
  · exact absurd h.1 id
theorem s_icmp_lt (hx : p.tables.exec = Jvm.exec) (hb : c.code = mb j) {t t2 : Int} (ht : (pc : Int) + t2 = t) (h0 : 0 ≤ t) (hd : decode (mb j) pc = .ok (.if_icmp .lt t2, 3)) (h : mint (mW p l e s mid args below meth c Q E D tc j) C j K (mX O j 3 (.if_icmp .lt t) pc L S cs ss G d)) : mW p l e s mid args below meth c Q E D tc j (pc, L, S, cs, ss, G, d) := by
  simp only [mX] at h
  split at h
  · obtain ⟨q, ha, hc⟩ := h
    intro H locs ls hl hr hs h1 h2
    exact lv_icmp_lt hx hb hd (tgt := t.toNat) (by omega) (fun z => ha ((m_lt q.1 q.2).mp z) H locs ls hl hr hs h1 h2) (fun z => hc (Int.not_lt.mp (fun w => z ((m_lt q.1 q.2).mpr w))) H locs ls hl hr hs h1 h2)
  · exact absurd h.1 id
theorem s_if_lt (hx : p.tables.exec = Jvm.exec) (hb : c.code = mb j) {t t2 : Int} (ht : (pc : Int) + t2 = t) (h0 : 0 ≤ t) (hd : decode (mb j) pc = .ok (.ifCond .lt t2, 3)) (h : mint (mW p l e s mid args below meth c Q E D tc j) C j K (mX O j 3 (.ifCond .lt t) pc L S cs ss G d)) : mW p l e s mid args below meth c Q E D tc j (pc, L, S, cs, ss, G, d) := by
  simp only [mX] at h
  split at h
  · obtain ⟨q, ha, hc⟩ := h
    intro H locs ls hl hr hs h1 h2
    exact lv_if_lt hx hb hd (tgt := t.toNat) (by omega) (fun z => ha ((m_lt q m_r0).mp z) H locs ls hl hr hs h1 h2) (fun z => hc (Int.not_lt.mp (fun w => z ((m_lt q m_r0).mpr w))) H locs ls hl hr hs h1 h2)
  · exact absurd h.1 id
theorem s_icmp_ge (hx : p.tables.exec = Jvm.exec) (hb : c.code = mb j) {t t2 : Int} (ht : (pc : Int) + t2 = t) (h0 : 0 ≤ t) (hd : decode (mb j) pc = .ok (.if_icmp .ge t2, 3)) (h : mint (mW p l e s mid args below meth c Q E D tc j) C j K (mX O j 3 (.if_icmp .ge t) pc L S cs ss G d)) : mW p l e s mid args below meth c Q E D tc j (pc, L, S, cs, ss, G, d) := by
  simp only [mX] at h
  split at h
  · obtain ⟨q, ha, hc⟩ := h
    intro H locs ls hl hr hs h1 h2
    exact lv_icmp_ge hx hb hd (tgt := t.toNat) (by omega) (fun z => ha ((m_le q.2 q.1).mp z) H locs ls hl hr hs h1 h2) (fun z => hc (Int.not_le.mp (fun w => z ((m_le q.2 q.1).mpr w))) H locs ls hl hr hs h1 h2)
  · exact absurd h.1 id
theorem s_if_ge (hx : p.tables.exec = Jvm.exec) (hb : c.code = mb j) {t t2 : Int} (ht : (pc : Int) + t2 = t) (h0 : 0 ≤ t) (hd : decode (mb j) pc = .ok (.ifCond .ge t2, 3)) (h : mint (mW p l e s mid args below meth c Q E D tc j) C j K (mX O j 3 (.ifCond .ge t) pc L S cs ss G d)) : mW p l e s mid args below meth c Q E D tc j (pc, L, S, cs, ss, G, d) := by
  simp only [mX] at h
  split at h
  · obtain ⟨q, ha, hc⟩ := h
    intro H locs ls hl hr hs h1 h2
    exact lv_if_ge hx hb hd (tgt := t.toNat) (by omega) (fun z => ha ((m_le m_r0 q).mp z) H locs ls hl hr hs h1 h2) (fun z => hc (Int.not_le.mp (fun w => z ((m_le m_r0 q).mpr w))) H locs ls hl hr hs h1 h2)
  · exact absurd h.1 id
theorem s_icmp_gt (hx : p.tables.exec = Jvm.exec) (hb : c.code = mb j) {t t2 : Int} (ht : (pc : Int) + t2 = t) (h0 : 0 ≤ t) (hd : decode (mb j) pc = .ok (.if_icmp .gt t2, 3)) (h : mint (mW p l e s mid args below meth c Q E D tc j) C j K (mX O j 3 (.if_icmp .gt t) pc L S cs ss G d)) : mW p l e s mid args below meth c Q E D tc j (pc, L, S, cs, ss, G, d) := by
  simp only [mX] at h
  split at h
  · obtain ⟨q, ha, hc⟩ := h
    intro H locs ls hl hr hs h1 h2
    exact lv_icmp_gt hx hb hd (tgt := t.toNat) (by omega) (fun z => ha ((m_lt q.2 q.1).mp z) H locs ls hl hr hs h1 h2) (fun z => hc (Int.not_lt.mp (fun w => z ((m_lt q.2 q.1).mpr w))) H locs ls hl hr hs h1 h2)
  · exact absurd h.1 id
theorem s_if_gt (hx : p.tables.exec = Jvm.exec) (hb : c.code = mb j) {t t2 : Int} (ht : (pc : Int) + t2 = t) (h0 : 0 ≤ t) (hd : decode (mb j) pc = .ok (.ifCond .gt t2, 3)) (h : mint (mW p l e s mid args below meth c Q E D tc j) C j K (mX O j 3 (.ifCond .gt t) pc L S cs ss G d)) : mW p l e s mid args below meth c Q E D tc j (pc, L, S, cs, ss, G, d) := by
  simp only [mX] at h
  split at h
  · obtain ⟨q, ha, hc⟩ := h
    intro H locs ls hl hr hs h1 h2
    exact lv_if_gt hx hb hd (tgt := t.toNat) (by omega) (fun z => ha ((m_lt m_r0 q).mp z) H locs ls hl hr hs h1 h2) (fun z => hc (Int.not_lt.mp (fun w => z ((m_lt m_r0 q).mpr w))) H locs ls hl hr hs h1 h2)
  · exact absurd h.1 id
theorem s_icmp_le (hx : p.tables.exec = Jvm.exec) (hb : c.code = mb j) {t t2 : Int} (ht : (pc : Int) + t2 = t) (h0 : 0 ≤ t) (hd : decode (mb j) pc = .ok (.if_icmp .le t2, 3)) (h : mint (mW p l e s mid args below meth c Q E D tc j) C j K (mX O j 3 (.if_icmp .le t) pc L S cs ss G d)) : mW p l e s mid args below meth c Q E D tc j (pc, L, S, cs, ss, G, d) := by
  simp only [mX] at h
  split at h
  · obtain ⟨q, ha, hc⟩ := h
    intro H locs ls hl hr hs h1 h2
    exact lv_icmp_le hx hb hd (tgt := t.toNat) (by omega) (fun z => ha ((m_le q.1 q.2).mp z) H locs ls hl hr hs h1 h2) (fun z => hc (Int.not_le.mp (fun w => z ((m_le q.1 q.2).mpr w))) H locs ls hl hr hs h1 h2)
  · exact absurd h.1 id
theorem s_if_le (hx : p.tables.exec = Jvm.exec) (hb : c.code = mb j) {t t2 : Int} (ht : (pc : Int) + t2 = t) (h0 : 0 ≤ t) (hd : decode (mb j) pc = .ok (.ifCond .le t2, 3)) (h : mint (mW p l e s mid args below meth c Q E D tc j) C j K (mX O j 3 (.ifCond .le t) pc L S cs ss G d)) : mW p l e s mid args below meth c Q E D tc j (pc, L, S, cs, ss, G, d) := by
  simp only [mX] at h
  split at h
  · obtain ⟨q, ha, hc⟩ := h
    intro H locs ls hl hr hs h1 h2
    exact lv_if_le hx hb hd (tgt := t.toNat) (by omega) (fun z => ha ((m_le q m_r0).mp z) H locs ls hl hr hs h1 h2) (fun z => hc (Int.not_le.mp (fun w => z ((m_le q m_r0).mpr w))) H locs ls hl hr hs h1 h2)
  · exact absurd h.1 id
theorem msw_in {x : Int} {f : Nat → mSt} {B : mSt → Prop} : ∀ (ts : List Int) (k : Int) (z : List (Prop × mSt)), z ≠ [] → mall B (msw x f k ts ++ z) → mall B z ∧ ∀ (i : Nat) (t : Int), ts[i]? = some t → x = k + i → B (f t.toNat)
  | [], _, z, _, h => ⟨h, fun i t hi => by simp at hi⟩
  | t :: ts, k, z, hz, h => by
    have hne : msw x f (k + 1) ts ++ z ≠ [] := fun w => hz (List.append_eq_nil_iff.mp w).2
    obtain ⟨q, r, hqr⟩ := List.exists_cons_of_ne_nil hne
    have h' : mall B ((x = k, f t.toNat) :: (msw x f (k + 1) ts ++ z)) := h
    rw [hqr] at h'
    obtain ⟨h1, h2⟩ := h'
    rw [← hqr] at h2
    obtain ⟨h3, h4⟩ := msw_in ts (k + 1) z hz h2
    refine ⟨h3, fun i t' hi hx => ?_⟩
    cases i with
    | zero =>
      simp at hi
      subst hi
      exact h1 (by omega)
    | succ i => exact h4 i t' (by simpa using hi) (by omega)

theorem s_tableswitch (hx : p.tables.exec = Jvm.exec) (hb : c.code = mb j) {t t2 lo hi : Int} {ts2 : Array Int} (ht : (pc : Int) + t2 = t) (h0 : 0 ≤ t) (hts : ∀ q ∈ ts2.toList, 0 ≤ (pc : Int) + q) (hsz : (ts2.size : Int) = hi - lo + 1) (hd : decode (mb j) pc = .ok (.tableswitch t2 lo hi ts2, len)) (h : mint (mW p l e s mid args below meth c Q E D tc j) C j K (mX O j len (.tableswitch t lo hi (ts2.map (fun q => (pc : Int) + q))) pc L S cs ss G d)) : mW p l e s mid args below meth c Q E D tc j (pc, L, S, cs, ss, G, d) := by
  simp only [mX] at h
  split at h
  · rename_i x S'
    obtain ⟨q, h⟩ := h
    obtain ⟨h3, h4⟩ := msw_in _ _ _ (by simp) h
    intro H locs ls hl hr hs h1 h2
    by_cases hin : x < lo ∨ hi < x
    · exact lv_tableOut hx hb hd (by rw [m_toInt q]; exact hin) (tgt := t.toNat) (by omega) (h3 hin H locs ls hl hr hs h1 h2)
    · have hlt : (x - lo).toNat < ts2.size := by omega
      have hget : ts2[(x - lo).toNat]? = some ts2[(x - lo).toNat] := Array.getElem?_eq_getElem hlt
      have hq := hts _ (Array.mem_toList_iff.mpr (Array.getElem_mem hlt))
      refine lv_tableIn hx hb hd (by rw [m_toInt q]; omega) (by rw [m_toInt q]; omega) (by rw [m_toInt q]; exact hget) (tgt := ((pc : Int) + ts2[(x - lo).toNat]).toNat) (by omega) (h4 (x - lo).toNat ((pc : Int) + ts2[(x - lo).toNat]) ?_ (by omega) H locs ls hl hr hs h1 h2)
      simp [hget]
  · exact absurd h.1 id
end SB
/-! ===== the classes of our cells ===== -/
def mlayw : Bool := (List.range 16).all (fun c => bif mcr c then (List.range (mnf c)).all (fun k => mp_lay.any (fun e => Nat.beq e.1 (64 * c + k) && mG1 e.2 (u_lay (mCn c) (fun k => mFn (64 * c + k)) k))) else true)
theorem mlayw_ok : mlayw = true := by decide +kernel
theorem mcr_lt {c : Nat} (h : mcr c = true) : c < 16 := by
  unfold mcr at h
  rw [Bool.and_eq_true, Nat.blt_eq] at h
  exact h.1
theorem mlayw_in {c k : Nat} (hc : mcr c = true) (hk : k < mnf c) : u_lay (mCn c) (fun k => mFn (64 * c + k)) k ∈ GW := by
  have h1 := List.all_eq_true.mp mlayw_ok c (List.mem_range.mpr (mcr_lt hc))
  rw [hc] at h1
  have h2 := List.all_eq_true.mp h1 k (List.mem_range.mpr hk)
  obtain ⟨e, -, he⟩ := List.any_eq_true.mp h2
  exact mG1_in (Bool.and_eq_true_iff.mp he).2
theorem m_i8b {v : Int} (h1 : -128 ≤ v) (h2 : v ≤ 127) : (Int32.ofInt v).toInt8.toInt32 = Int32.ofInt v := by
  rw [← Int32.toInt_inj, Int8.toInt_toInt32, Int32.toInt_toInt8, m_toInt ⟨by omega, by omega⟩]
  exact Int.bmod_eq_of_le (by omega) (by omega)
theorem m_fitB (E : mE) (v : mV) (h : mfit 2 v) : narrow .byte (mval E v) = mval E v ∧ fits .byte (mval E v) = true := by
  obtain ⟨t, x⟩ := v
  obtain ⟨h, h1, h2⟩ := h
  have h : t = 0 := h
  have h1 : -128 ≤ x := h1
  have h2 : x ≤ 127 := h2
  subst h
  have e : narrow .byte (mval E (0, x)) = mval E (0, x) := by
    simp only [mval]
    rw [narrow_byte, m_i8b h1 h2]
  refine ⟨e, ?_⟩
  simp only [mval, fits]
  rw [Bool.and_eq_true, decide_eq_true_eq, decide_eq_true_eq]
  constructor
  · rw [Int32.le_iff_toInt_le, m_toInt ⟨by omega, by omega⟩]; exact h1
  · rw [Int32.le_iff_toInt_le, m_toInt ⟨by omega, by omega⟩]; exact h2
def mClsOK (c : Nat) (T : u_T) (ty : Nat → FieldType) : Prop := vwCl[mvw c]? = some (mCn c, T, mnf c) ∧ (∀ k, k < 64 → mFn (64 * c + k) = T k) ∧ (∀ k, k < mnf c → parseFieldDescriptor (T k).2.2.1 = some (ty k))
  ∧ (∀ a, a < mnf c → ∀ b, b < mnf c → a ≠ b → (T a).2.1 ≠ (T b).2.1) ∧ (∀ B k, k < mnf c → defaultValue (ty k) = mslot B (mfty (64 * c + k)) (if mfty (64 * c + k) = 4 then -1 else 0))
  ∧ (∀ (E : mE) (k : Nat) (v : mV), k < mnf c → mfit (mfty (64 * c + k)) v → narrow (ty k) (mval E v) = mval E v ∧ fits (ty k) (mval E v) = true) ∧ mnf c ≤ 64
theorem m_fitI (E : mE) (v : mV) (h : mfit 0 v) : narrow .int (mval E v) = mval E v ∧ fits .int (mval E v) = true := by
  obtain ⟨t, x⟩ := v
  have h : t = 0 := h
  subst h
  exact ⟨rfl, rfl⟩
theorem m_fitZ (E : mE) (v : mV) (h : mfit 1 v) : narrow .boolean (mval E v) = mval E v ∧ fits .boolean (mval E v) = true := by
  obtain ⟨t, x⟩ := v
  obtain ⟨h, h2⟩ := h
  have h : t = 0 := h
  have h2 : x = 0 ∨ x = 1 := h2
  subst h
  rcases h2 with rfl | rfl
  · exact ⟨rfl, rfl⟩
  · exact ⟨rfl, rfl⟩
theorem m_fitO (E : mE) (C : String) (v : mV) (h : mfit 4 v) : narrow (.object C) (mval E v) = mval E v ∧ fits (.object C) (mval E v) = true := by
  obtain ⟨t, x⟩ := v
  have h : t = 3 := h
  subst h
  simp only [mval]
  split <;> exact ⟨rfl, rfl⟩
theorem m_fitA (E : mE) (C : FieldType) (v : mV) (h : mfit 4 v) : narrow (.array C) (mval E v) = mval E v ∧ fits (.array C) (mval E v) = true := by
  obtain ⟨t, x⟩ := v
  have h : t = 3 := h
  subst h
  simp only [mval]
  split <;> exact ⟨rfl, rfl⟩
theorem m_lt_cases {n k : Nat} {P : Nat → Prop} (h : ∀ i, i < n → P i) (hk : k < n) : P k := h k hk
set_option maxRecDepth 20000 in
theorem mcls_0 : mClsOK 0 TX0 tyX0 := by
  refine ⟨rfl, fun k hk => ?_, tyX0_ok, nmX0, fun B k hk => ?_, fun E k v hk h => ?_, by decide⟩
  · unfold mFn
    rw [show (64 * 0 + k) / 64 = 0 by omega, show (64 * 0 + k) % 64 = k by omega]
    rfl
  · have hk : k < 3 := hk
    match k, hk with
    | 0, _ => rfl
    | 1, _ => rfl
    | 2, _ => rfl
    | k + 3, hk => exact absurd hk (by omega)
  · have hk : k < 3 := hk
    match k, hk with
    | 0, _ => exact m_fitA E _ v h
    | 1, _ => exact m_fitI E v h
    | 2, _ => exact m_fitI E v h
    | k + 3, hk => exact absurd hk (by omega)
set_option maxRecDepth 20000 in
theorem mcls_1 : mClsOK 1 TX1 tyX1 := by
  refine ⟨rfl, fun k hk => ?_, tyX1_ok, nmX1, fun B k hk => ?_, fun E k v hk h => ?_, by decide⟩
  · unfold mFn
    rw [show (64 * 1 + k) / 64 = 1 by omega, show (64 * 1 + k) % 64 = k by omega]
    rfl
  · have hk : k < 1 := hk
    match k, hk with
    | 0, _ => rfl
    | k + 1, hk => exact absurd hk (by omega)
  · have hk : k < 1 := hk
    match k, hk with
    | 0, _ => exact m_fitA E _ v h
    | k + 1, hk => exact absurd hk (by omega)
set_option maxRecDepth 20000 in
theorem mcls_2 : mClsOK 2 TX2 tyX2 := by
  refine ⟨rfl, fun k hk => ?_, tyX2_ok, nmX2, fun B k hk => ?_, fun E k v hk h => ?_, by decide⟩
  · unfold mFn
    rw [show (64 * 2 + k) / 64 = 2 by omega, show (64 * 2 + k) % 64 = k by omega]
    rfl
  · have hk : k < 7 := hk
    match k, hk with
    | 0, _ => rfl
    | 1, _ => rfl
    | 2, _ => rfl
    | 3, _ => rfl
    | 4, _ => rfl
    | 5, _ => rfl
    | 6, _ => rfl
    | k + 7, hk => exact absurd hk (by omega)
  · have hk : k < 7 := hk
    match k, hk with
    | 0, _ => exact m_fitO E _ v h
    | 1, _ => exact m_fitO E _ v h
    | 2, _ => exact m_fitI E v h
    | 3, _ => exact m_fitI E v h
    | 4, _ => exact m_fitI E v h
    | 5, _ => exact m_fitI E v h
    | 6, _ => exact m_fitI E v h
    | k + 7, hk => exact absurd hk (by omega)
set_option maxRecDepth 20000 in
theorem mcls_3 : mClsOK 3 TX3 tyX3 := by
  refine ⟨rfl, fun k hk => ?_, tyX3_ok, nmX3, fun B k hk => ?_, fun E k v hk h => ?_, by decide⟩
  · unfold mFn
    rw [show (64 * 3 + k) / 64 = 3 by omega, show (64 * 3 + k) % 64 = k by omega]
    rfl
  · have hk : k < 8 := hk
    match k, hk with
    | 0, _ => rfl
    | 1, _ => rfl
    | 2, _ => rfl
    | 3, _ => rfl
    | 4, _ => rfl
    | 5, _ => rfl
    | 6, _ => rfl
    | 7, _ => rfl
    | k + 8, hk => exact absurd hk (by omega)
  · have hk : k < 8 := hk
    match k, hk with
    | 0, _ => exact m_fitI E v h
    | 1, _ => exact m_fitA E _ v h
    | 2, _ => exact m_fitA E _ v h
    | 3, _ => exact m_fitA E _ v h
    | 4, _ => exact m_fitA E _ v h
    | 5, _ => exact m_fitA E _ v h
    | 6, _ => exact m_fitA E _ v h
    | 7, _ => exact m_fitA E _ v h
    | k + 8, hk => exact absurd hk (by omega)
set_option maxRecDepth 20000 in
theorem mcls_4 : mClsOK 4 TX4 tyX4 := by
  refine ⟨rfl, fun k hk => ?_, tyX4_ok, nmX4, fun B k hk => ?_, fun E k v hk h => ?_, by decide⟩
  · unfold mFn
    rw [show (64 * 4 + k) / 64 = 4 by omega, show (64 * 4 + k) % 64 = k by omega]
    rfl
  · have hk : k < 7 := hk
    match k, hk with
    | 0, _ => rfl
    | 1, _ => rfl
    | 2, _ => rfl
    | 3, _ => rfl
    | 4, _ => rfl
    | 5, _ => rfl
    | 6, _ => rfl
    | k + 7, hk => exact absurd hk (by omega)
  · have hk : k < 7 := hk
    match k, hk with
    | 0, _ => exact m_fitI E v h
    | 1, _ => exact m_fitA E _ v h
    | 2, _ => exact m_fitA E _ v h
    | 3, _ => exact m_fitA E _ v h
    | 4, _ => exact m_fitA E _ v h
    | 5, _ => exact m_fitA E _ v h
    | 6, _ => exact m_fitA E _ v h
    | k + 7, hk => exact absurd hk (by omega)
set_option maxRecDepth 20000 in
theorem mcls_5 : mClsOK 5 TX5 tyX5 := by
  refine ⟨rfl, fun k hk => ?_, tyX5_ok, nmX5, fun B k hk => ?_, fun E k v hk h => ?_, by decide⟩
  · unfold mFn
    rw [show (64 * 5 + k) / 64 = 5 by omega, show (64 * 5 + k) % 64 = k by omega]
    rfl
  · have hk : k < 5 := hk
    match k, hk with
    | 0, _ => rfl
    | 1, _ => rfl
    | 2, _ => rfl
    | 3, _ => rfl
    | 4, _ => rfl
    | k + 5, hk => exact absurd hk (by omega)
  · have hk : k < 5 := hk
    match k, hk with
    | 0, _ => exact m_fitO E _ v h
    | 1, _ => exact m_fitI E v h
    | 2, _ => exact m_fitI E v h
    | 3, _ => exact m_fitI E v h
    | 4, _ => exact m_fitI E v h
    | k + 5, hk => exact absurd hk (by omega)
set_option maxRecDepth 20000 in
theorem mcls_6 : mClsOK 6 TX6 tyX6 := by
  refine ⟨rfl, fun k hk => ?_, tyX6_ok, nmX6, fun B k hk => ?_, fun E k v hk h => ?_, by decide⟩
  · unfold mFn
    rw [show (64 * 6 + k) / 64 = 6 by omega, show (64 * 6 + k) % 64 = k by omega]
    rfl
  · have hk : k < 7 := hk
    match k, hk with
    | 0, _ => rfl
    | 1, _ => rfl
    | 2, _ => rfl
    | 3, _ => rfl
    | 4, _ => rfl
    | 5, _ => rfl
    | 6, _ => rfl
    | k + 7, hk => exact absurd hk (by omega)
  · have hk : k < 7 := hk
    match k, hk with
    | 0, _ => exact m_fitA E _ v h
    | 1, _ => exact m_fitI E v h
    | 2, _ => exact m_fitI E v h
    | 3, _ => exact m_fitO E _ v h
    | 4, _ => exact m_fitO E _ v h
    | 5, _ => exact m_fitO E _ v h
    | 6, _ => exact m_fitO E _ v h
    | k + 7, hk => exact absurd hk (by omega)
set_option maxRecDepth 20000 in
theorem mcls_7 : mClsOK 7 TX7 tyX7 := by
  refine ⟨rfl, fun k hk => ?_, tyX7_ok, nmX7, fun B k hk => ?_, fun E k v hk h => ?_, by decide⟩
  · unfold mFn
    rw [show (64 * 7 + k) / 64 = 7 by omega, show (64 * 7 + k) % 64 = k by omega]
    rfl
  · have hk : k < 2 := hk
    match k, hk with
    | 0, _ => rfl
    | 1, _ => rfl
    | k + 2, hk => exact absurd hk (by omega)
  · have hk : k < 2 := hk
    match k, hk with
    | 0, _ => exact m_fitA E _ v h
    | 1, _ => exact m_fitI E v h
    | k + 2, hk => exact absurd hk (by omega)
set_option maxRecDepth 20000 in
theorem mcls_8 : mClsOK 8 TX8 tyX8 := by
  refine ⟨rfl, fun k hk => ?_, tyX8_ok, nmX8, fun B k hk => ?_, fun E k v hk h => ?_, by decide⟩
  · unfold mFn
    rw [show (64 * 8 + k) / 64 = 8 by omega, show (64 * 8 + k) % 64 = k by omega]
    rfl
  · have hk : k < 8 := hk
    match k, hk with
    | 0, _ => rfl
    | 1, _ => rfl
    | 2, _ => rfl
    | 3, _ => rfl
    | 4, _ => rfl
    | 5, _ => rfl
    | 6, _ => rfl
    | 7, _ => rfl
    | k + 8, hk => exact absurd hk (by omega)
  · have hk : k < 8 := hk
    match k, hk with
    | 0, _ => exact m_fitI E v h
    | 1, _ => exact m_fitA E _ v h
    | 2, _ => exact m_fitA E _ v h
    | 3, _ => exact m_fitA E _ v h
    | 4, _ => exact m_fitA E _ v h
    | 5, _ => exact m_fitA E _ v h
    | 6, _ => exact m_fitA E _ v h
    | 7, _ => exact m_fitA E _ v h
    | k + 8, hk => exact absurd hk (by omega)
set_option maxRecDepth 20000 in
theorem mcls_9 : mClsOK 9 TX9 tyX9 := by
  refine ⟨rfl, fun k hk => ?_, tyX9_ok, nmX9, fun B k hk => ?_, fun E k v hk h => ?_, by decide⟩
  · unfold mFn
    rw [show (64 * 9 + k) / 64 = 9 by omega, show (64 * 9 + k) % 64 = k by omega]
    rfl
  · have hk : k < 7 := hk
    match k, hk with
    | 0, _ => rfl
    | 1, _ => rfl
    | 2, _ => rfl
    | 3, _ => rfl
    | 4, _ => rfl
    | 5, _ => rfl
    | 6, _ => rfl
    | k + 7, hk => exact absurd hk (by omega)
  · have hk : k < 7 := hk
    match k, hk with
    | 0, _ => exact m_fitI E v h
    | 1, _ => exact m_fitA E _ v h
    | 2, _ => exact m_fitA E _ v h
    | 3, _ => exact m_fitA E _ v h
    | 4, _ => exact m_fitA E _ v h
    | 5, _ => exact m_fitI E v h
    | 6, _ => exact m_fitA E _ v h
    | k + 7, hk => exact absurd hk (by omega)
set_option maxRecDepth 20000 in
theorem mcls_10 : mClsOK 10 TX10 tyX10 := by
  refine ⟨rfl, fun k hk => ?_, tyX10_ok, nmX10, fun B k hk => ?_, fun E k v hk h => ?_, by decide⟩
  · unfold mFn
    rw [show (64 * 10 + k) / 64 = 10 by omega, show (64 * 10 + k) % 64 = k by omega]
    rfl
  · have hk : k < 9 := hk
    match k, hk with
    | 0, _ => rfl
    | 1, _ => rfl
    | 2, _ => rfl
    | 3, _ => rfl
    | 4, _ => rfl
    | 5, _ => rfl
    | 6, _ => rfl
    | 7, _ => rfl
    | 8, _ => rfl
    | k + 9, hk => exact absurd hk (by omega)
  · have hk : k < 9 := hk
    match k, hk with
    | 0, _ => exact m_fitO E _ v h
    | 1, _ => exact m_fitO E _ v h
    | 2, _ => exact m_fitA E _ v h
    | 3, _ => exact m_fitA E _ v h
    | 4, _ => exact m_fitO E _ v h
    | 5, _ => exact m_fitO E _ v h
    | 6, _ => exact m_fitO E _ v h
    | 7, _ => exact m_fitO E _ v h
    | 8, _ => exact m_fitO E _ v h
    | k + 9, hk => exact absurd hk (by omega)
set_option maxRecDepth 20000 in
theorem mcls_12 : mClsOK 12 TX11 tyX11 := by
  refine ⟨rfl, fun k hk => ?_, tyX11_ok, nmX11, fun B k hk => ?_, fun E k v hk h => ?_, by decide⟩
  · unfold mFn
    rw [show (64 * 12 + k) / 64 = 12 by omega, show (64 * 12 + k) % 64 = k by omega]
    rfl
  · have hk : k < 1 := hk
    match k, hk with
    | 0, _ => rfl
    | k + 1, hk => exact absurd hk (by omega)
  · have hk : k < 1 := hk
    match k, hk with
    | 0, _ => exact m_fitI E v h
    | k + 1, hk => exact absurd hk (by omega)
set_option maxRecDepth 20000 in
theorem mcls_13 : mClsOK 13 TX12 tyX12 := by
  refine ⟨rfl, fun k hk => ?_, tyX12_ok, nmX12, fun B k hk => ?_, fun E k v hk h => ?_, by decide⟩
  · unfold mFn
    rw [show (64 * 13 + k) / 64 = 13 by omega, show (64 * 13 + k) % 64 = k by omega]
    rfl
  · have hk : k < 35 := hk
    match k, hk with
    | 0, _ => rfl
    | 1, _ => rfl
    | 2, _ => rfl
    | 3, _ => rfl
    | 4, _ => rfl
    | 5, _ => rfl
    | 6, _ => rfl
    | 7, _ => rfl
    | 8, _ => rfl
    | 9, _ => rfl
    | 10, _ => rfl
    | 11, _ => rfl
    | 12, _ => rfl
    | 13, _ => rfl
    | 14, _ => rfl
    | 15, _ => rfl
    | 16, _ => rfl
    | 17, _ => rfl
    | 18, _ => rfl
    | 19, _ => rfl
    | 20, _ => rfl
    | 21, _ => rfl
    | 22, _ => rfl
    | 23, _ => rfl
    | 24, _ => rfl
    | 25, _ => rfl
    | 26, _ => rfl
    | 27, _ => rfl
    | 28, _ => rfl
    | 29, _ => rfl
    | 30, _ => rfl
    | 31, _ => rfl
    | 32, _ => rfl
    | 33, _ => rfl
    | 34, _ => rfl
    | k + 35, hk => exact absurd hk (by omega)
  · have hk : k < 35 := hk
    match k, hk with
    | 0, _ => exact m_fitI E v h
    | 1, _ => exact m_fitI E v h
    | 2, _ => exact m_fitI E v h
    | 3, _ => exact m_fitI E v h
    | 4, _ => exact m_fitI E v h
    | 5, _ => exact m_fitI E v h
    | 6, _ => exact m_fitI E v h
    | 7, _ => exact m_fitI E v h
    | 8, _ => exact m_fitA E _ v h
    | 9, _ => exact m_fitA E _ v h
    | 10, _ => exact m_fitA E _ v h
    | 11, _ => exact m_fitA E _ v h
    | 12, _ => exact m_fitA E _ v h
    | 13, _ => exact m_fitA E _ v h
    | 14, _ => exact m_fitA E _ v h
    | 15, _ => exact m_fitA E _ v h
    | 16, _ => exact m_fitA E _ v h
    | 17, _ => exact m_fitA E _ v h
    | 18, _ => exact m_fitA E _ v h
    | 19, _ => exact m_fitA E _ v h
    | 20, _ => exact m_fitA E _ v h
    | 21, _ => exact m_fitA E _ v h
    | 22, _ => exact m_fitA E _ v h
    | 23, _ => exact m_fitA E _ v h
    | 24, _ => exact m_fitA E _ v h
    | 25, _ => exact m_fitA E _ v h
    | 26, _ => exact m_fitA E _ v h
    | 27, _ => exact m_fitA E _ v h
    | 28, _ => exact m_fitA E _ v h
    | 29, _ => exact m_fitA E _ v h
    | 30, _ => exact m_fitA E _ v h
    | 31, _ => exact m_fitA E _ v h
    | 32, _ => exact m_fitA E _ v h
    | 33, _ => exact m_fitA E _ v h
    | 34, _ => exact m_fitA E _ v h
    | k + 35, hk => exact absurd hk (by omega)
set_option maxRecDepth 20000 in
theorem mcls_14 : mClsOK 14 TJ4 tyJ4 := by
  refine ⟨rfl, fun k hk => ?_, tyJ4_ok, nmJ4, fun B k hk => ?_, fun E k v hk h => ?_, by decide⟩
  · unfold mFn
    rw [show (64 * 14 + k) / 64 = 14 by omega, show (64 * 14 + k) % 64 = k by omega]
    rfl
  · have hk : k < 4 := hk
    match k, hk with
    | 0, _ => rfl
    | 1, _ => rfl
    | 2, _ => rfl
    | 3, _ => rfl
    | k + 4, hk => exact absurd hk (by omega)
  · have hk : k < 4 := hk
    match k, hk with
    | 0, _ => exact m_fitA E _ v h
    | 1, _ => exact m_fitB E v h
    | 2, _ => exact m_fitZ E v h
    | 3, _ => exact m_fitI E v h
    | k + 4, hk => exact absurd hk (by omega)
set_option maxRecDepth 20000 in
theorem mcls_15 : mClsOK 15 TJ0 tyJ0 := by
  refine ⟨rfl, fun k hk => ?_, tyJ0_ok, nmJ0, fun B k hk => ?_, fun E k v hk h => ?_, by decide⟩
  · unfold mFn
    rw [show (64 * 15 + k) / 64 = 15 by omega, show (64 * 15 + k) % 64 = k by omega]
    rfl
  · have hk : k < 4 := hk
    match k, hk with
    | 0, _ => rfl
    | 1, _ => rfl
    | 2, _ => rfl
    | 3, _ => rfl
    | k + 4, hk => exact absurd hk (by omega)
  · have hk : k < 4 := hk
    match k, hk with
    | 0, _ => exact m_fitA E _ v h
    | 1, _ => exact m_fitB E v h
    | 2, _ => exact m_fitI E v h
    | 3, _ => exact m_fitZ E v h
    | k + 4, hk => exact absurd hk (by omega)
theorem mcls {c : Nat} (h : mcr c = true) : ∃ T ty, mClsOK c T ty := by
  match c, h with
  | 0, _ => exact ⟨_, _, mcls_0⟩
  | 1, _ => exact ⟨_, _, mcls_1⟩
  | 2, _ => exact ⟨_, _, mcls_2⟩
  | 3, _ => exact ⟨_, _, mcls_3⟩
  | 4, _ => exact ⟨_, _, mcls_4⟩
  | 5, _ => exact ⟨_, _, mcls_5⟩
  | 6, _ => exact ⟨_, _, mcls_6⟩
  | 7, _ => exact ⟨_, _, mcls_7⟩
  | 8, _ => exact ⟨_, _, mcls_8⟩
  | 9, _ => exact ⟨_, _, mcls_9⟩
  | 10, _ => exact ⟨_, _, mcls_10⟩
  | 12, _ => exact ⟨_, _, mcls_12⟩
  | 13, _ => exact ⟨_, _, mcls_13⟩
  | 14, _ => exact ⟨_, _, mcls_14⟩
  | 15, _ => exact ⟨_, _, mcls_15⟩
  | 11, h => exact absurd h (by decide)
  | c + 16, h => exact absurd (mcr_lt h) (by omega)
theorem mcls_ws {c : Nat} {T : u_T} {ty : Nat → FieldType} (hc : mcr c = true) (h : mClsOK c T ty) : ∀ w ∈ u_ws (mCn c) T (mnf c), w ∈ GW := by
  intro w hw
  obtain ⟨k, hk, rfl⟩ := List.mem_map.mp hw
  have hk := List.mem_range.mp hk
  have h1 := mlayw_in hc hk
  have h2 : (fun k => mFn (64 * c + k)) k = T k := h.2.1 k (Nat.lt_of_lt_of_le hk h.2.2.2.2.2.2)
  unfold u_lay at h1 ⊢
  rw [h2] at h1
  exact h1
/-! ===== fields, rows, new cells ===== -/
theorem mFL_rng : (List.range 32).all (fun o => (mFL o).all (fun e => Nat.blt (e.2.1 % 64) (mnf (e.2.1 / 64)) && mcr (e.2.1 / 64))) = true := by decide +kernel
theorem m_all16 {α : Type} {f : Nat → List α} {q : Nat → α → Bool} (h : (List.range 32).all (fun o => (f o).all (q o)) = true) {o : Nat} (ho : o < 32) {x : α} (hx : x ∈ f o) : q o x = true :=
  List.all_eq_true.mp (List.all_eq_true.mp h o (List.mem_range.mpr ho)) x hx
theorem mFL_use {o i g : Nat} (ho : o < 32) (h : mlk (mFL o) i = some g) : mfw o i g ∈ GW ∧ g % 64 < mnf (g / 64) ∧ mcr (g / 64) = true := by
  obtain ⟨p, hp⟩ := mlk_in h
  have h1 := m_all16 mFL_ok ho hp
  have h2 := m_all16 mFL_rng ho hp
  simp only [Bool.and_eq_true, Nat.blt_eq] at h2
  exact ⟨mG1_in h1, h2.1, h2.2⟩
theorem mRep_upd {E : mE} {D : va_G} {tc : Int → ClassId} {G : mG} {d d' : mD} {H H' : Heap} {a : Int} (hr : mRep E D tc G d H) (ha : 0 ≤ G.1 a) (hz : H'.size = H.size) (ho : ∀ q : Nat, q ≠ E.1 + mtau a → H'[q]? = H[q]?) (hd : ∀ b, b ≠ a → d' b = d b)
    (hO : G.1 a < 100 → mcellO E D a (G.1 a) (d' a) H') (hA : 100 ≤ G.1 a → mcellA E tc a (G.1 a) (G.2.1 a) (d' a) H') : mRep E D tc G d' H' := by
  refine ⟨by rw [hz]; exact hr.1, fun h => by rw [hz]; exact hr.2.1 h, fun b hb => ?_⟩
  have ha0 := (hr.2.2 a ha).1
  obtain ⟨h0, h1, h2⟩ := hr.2.2 b hb
  by_cases e : b = a
  · subst e
    exact ⟨h0, hO, hA⟩
  · rw [hd b e]
    have hq : H'[E.1 + mtau b]? = H[E.1 + mtau b]? := ho _ (fun z => e (mtau_inj h0 ha0 (by omega)))
    exact ⟨h0, fun h => ⟨(h1 h).1, (h1 h).2.kept hq⟩, fun h => ⟨(h2 h).1, (h2 h).2.1, (h2 h).2.2.1, by rw [hq]; exact (h2 h).2.2.2⟩⟩
theorem mcr_hi {c : Nat} (h : mcr c = true) : c < 100 := Nat.lt_of_lt_of_le (mcr_lt h) (by decide)
theorem mset_ne {d : mD} {a i v b : Int} (h : b ≠ a) : mset d a i v b = d b := by
  funext j
  simp [mset, h]
section SC
variable {p : Program} {l : Launch} {e : Env} {s : State} {mid : MethodId} {args : Array Value} {below : List Frame} {meth : Method} {c : Code} {Q : State → Prop}
variable {E : mE} {D : va_G} {tc : Int → ClassId} {O : mO} {j : Nat}
variable {C : Nat → List mV → mG → mD → mK → Prop} {K : mK} {pc len : Nat} {L S : List mV} {cs ss : Nat} {G : mG} {d : mD} {H : Heap} {o : Nat}
theorem mRep_obj (hr : mRep E D tc G d H) {a : Int} {g : Nat} (hg : mcr (g / 64) = true) (h : G.1 a = ((g / 64 : Nat) : Int)) : 0 ≤ a ∧ t_OB (E.1 + mtau a) (D.1 (mvw (g / 64))) (mnf (g / 64)) (D.2 (mvw (g / 64))) H (mfun E (g / 64) (d a)) := by
  have hg9 := mcr_hi hg
  obtain ⟨h0, h1, -⟩ := hr.2.2 a (by omega)
  obtain ⟨-, h2⟩ := h1 (by omega)
  rw [h] at h2
  exact ⟨h0.1, h2⟩
theorem mval_own {a : Int} (h : 0 ≤ a) (S : List mV) : mst E ((3, a) :: S) = .ref (E.1 + mtau a) :: mst E S := by
  simp only [mst, List.map_cons, mval]
  rw [if_neg (by omega)]
theorem vp_V_map {N : Nat} (f : Nat → Value) {k : Nat} (hk : k < N) : vp_V ((List.range N).map f) k = f k := by
  simp [vp_V, hk]
theorem mFN_rng : (List.range 32).all (fun o => (mFN o).all (fun e => Nat.blt (e.2.1 % 64) (mnf (e.2.1 / 64)) && mcr (e.2.1 / 64))) = true := by decide +kernel
theorem mFN_use {s : State} {args : Array Value} {o i g : Nat} (ho : o < 32) (hN : ∀ e ∈ mFN o, va_Nw (mfwN o e.1 e.2.1) s) (h : mlk (mFN o) i = some g) : (mfwN o i g).before args s = true ∧ g % 64 < mnf (g / 64) ∧ mcr (g / 64) = true := by
  obtain ⟨p, hp⟩ := mlk_in h
  have h2 := m_all16 mFN_rng ho hp
  simp only [Bool.and_eq_true, Nat.blt_eq] at h2
  exact ⟨va_Nw.use rfl (hN _ hp), h2.1, h2.2⟩
theorem s_getfield (hx : p.tables.exec = Jvm.exec) (hb : c.code = mb j) (hG : ∀ w ∈ GW, w.before args s = true) (ho : o < 32) (hown : s.vm.findClass (mR o) = some mid.cls) (hK : va_K D vwCl (mtys tc) s) {idx g : Nat} (hlk : mlk (mFL o) idx = some g)
    (hd : decode (mb j) pc = .ok (.getfield idx, 3)) (h : mint (mW p l e s mid args below meth c Q E D tc j) C j K (mX O j 3 (.getfield g) pc L S cs ss G d)) : mW p l e s mid args below meth c Q E D tc j (pc, L, S, cs, ss, G, d) := by
  obtain ⟨hw, hk, hg⟩ := mFL_use ho hlk
  obtain ⟨T, ty, hT⟩ := mcls hg
  simp only [mX] at h
  split at h
  · rename_i a S'
    obtain ⟨q, h⟩ := h
    intro H locs ls hl hr hs h1 h2
    obtain ⟨ha, hO⟩ := mRep_obj hr hg q
    have hF : mFn g = T (g % 64) := by
      have := hT.2.1 (g % 64) (Nat.mod_lt _ (by decide))
      rwa [Nat.div_add_mod] at this
    have hP : va_P D vwCl [(E.1 + mtau a, .inr (mvw (g / 64), (List.range (mnf (g / 64))).map (mfun E (g / 64) (d a))))] H := by
      intro k x hx9
      cases k with
      | zero => cases hx9; exact ⟨_, hT.1, hO.to (fun k hk => (vp_V_map _ hk).symm)⟩
      | succ k => simp at hx9
    have hlink := hG _ hw
    unfold mfw at hlink
    rw [hF] at hlink
    have kk := h H locs ls hl hr hs h1 h2
    rw [mval_own ha]
    refine va_get (D := D) (ci := mvw (g / 64)) hx hb hG (mcls_ws hg hT) hown hK hP 0 rfl hT.1 (g % 64) hk hlink (fun _ z => z) (v := mfun E (g / 64) (d a) (g % 64)) (by simp [hk]) hd ?_
    rw [show mst E ((mtag (mfty g), d a ((g % 64 : Nat) : Int)) :: S') = mfun E (g / 64) (d a) (g % 64) :: mst E S' by simp only [mst, List.map_cons, mval_tag, mfun, Nat.div_add_mod]] at kk
    exact kk
  · exact absurd h.1 id
theorem s_putfield (hx : p.tables.exec = Jvm.exec) (hb : c.code = mb j) (hG : ∀ w ∈ GW, w.before args s = true) (ho : o < 32) (hown : s.vm.findClass (mR o) = some mid.cls) (hK : va_K D vwCl (mtys tc) s) {idx g : Nat} (hlk : mlk (mFL o) idx = some g)
    (hfin : (mFn g).2.2.2 = true → meth.name = "<init>" ∧ (mFn g).1 = mR o)
    (hd : decode (mb j) pc = .ok (.putfield idx, 3)) (h : mint (mW p l e s mid args below meth c Q E D tc j) C j K (mX O j 3 (.putfield g) pc L S cs ss G d)) : mW p l e s mid args below meth c Q E D tc j (pc, L, S, cs, ss, G, d) := by
  obtain ⟨hw, hk, hg⟩ := mFL_use ho hlk
  obtain ⟨T, ty, hT⟩ := mcls hg
  simp only [mX] at h
  split at h
  · rename_i v a S'
    obtain ⟨⟨q, hft⟩, h⟩ := h
    intro H locs ls hl hr hs h1 h2
    obtain ⟨ha, hO⟩ := mRep_obj hr hg q
    have hF : mFn g = T (g % 64) := by
      have := hT.2.1 (g % 64) (Nat.mod_lt _ (by decide))
      rwa [Nat.div_add_mod] at this
    have hlink := hG _ hw
    unfold mfw at hlink
    rw [hF] at hlink hfin
    have hin := mcls_ws hg hT
    have hap := va_apart (own := mR o) hG hin ty hT.2.2.1 hT.2.2.2.1 hK hT.1
    obtain ⟨cell, q1, q2, q3, q4⟩ := hO
    obtain ⟨hS, hfc, kC, hkC, hkind⟩ := hK.1 (mvw (g / 64)) _ hT.1
    obtain ⟨cf, kf, fi, f, hi, hsl⟩ := hS (g % 64) hk
    have hst := (u_facts hfc hkC (u_lays hG hin hk) hi).1
    have hfit := hT.2.2.2.2.2.1 E (g % 64) v hk (by rw [Nat.div_add_mod]; exact hft)
    have hv : mval E v = mslot E.1 (mfty g) v.2 := by
      obtain ⟨t9, x9⟩ := v
      have ht : t9 = mtag (mfty g) := by
        revert hft
        generalize mfty g = z
        intro hft
        match z with
        | 0 => exact hft
        | 1 => exact hft.1
        | 2 => exact hft.1
        | 3 => exact hft
        | _ + 4 => exact hft
      rw [ht, mval_tag]
    have done : ∀ H' : Heap, H'[E.1 + mtau a]? = some (cell.setSlot f.slot (mval E v)) → H'.size = H.size → (∀ q : Nat, q ≠ E.1 + mtau a → H'[q]? = H[q]?) → W p l e (mRm j) s mid args below meth c H' (locs ++ [⟨E.1 + mtau a, f.slot⟩]) cs ss Q (F0 mid (pc + 3) ls (mst E S')) := by
      intro H' e1 e2 e3
      rw [hsl] at e1 ⊢
      refine h H' _ ls hl (mRep_upd hr (by omega) e2 e3 (fun b hb9 => mset_ne hb9) (fun _ => ⟨by rw [q, Int.toNat_natCast]; exact hg, ?_⟩) (fun h9 => by have := mcr_hi hg; omega)) (hs.put e2 e3 (by show E.1 ≤ _; omega)) h1 h2
      rw [q]
      refine t_OB.to (V := updV (mfun E (g / 64) (d a)) (g % 64) (mval E v)) ⟨_, e1, q2, q3, t_set q4 hap hk _⟩ (fun i hi9 => ?_)
      simp only [updV, mfun, mset, Int.toNat_natCast]
      by_cases hij : i = g % 64
      · subst hij
        rw [if_pos rfl, if_pos ⟨trivial, rfl⟩, hv, Nat.div_add_mod]
      · rw [if_neg hij, if_neg (by omega)]
    have e9 : mst E (v :: (3, a) :: S') = mval E v :: .ref (E.1 + mtau a) :: mst E S' := by
      have := mval_own (E := E) ha S'
      simp only [mst, List.map_cons] at this ⊢
      rw [this]
    rw [e9]
    cases hf9 : (T (g % 64)).2.2.2 with
    | false =>
      have hlay := hG _ (hin _ (u_in_lay hk))
      unfold u_lay at hlay
      rw [if_neg (by rw [hf9]; decide)] at hlay
      have h6 := u_store hfc hkC hkind hlay hi (hT.2.2.1 _ hk) hfit.1 hfit.2
      exact W.putK hx hb (f := f) ⟨hown, hlink, ⟨_, _, _, hi⟩, hst⟩ (by rw [q2]; exact h6) q1 q3 (by rw [hsl]; exact k2_hasslot (q4 _ hk)) rfl rfl hd done
    | true =>
      obtain ⟨hin2, hdecl⟩ := hfin hf9
      have hlay := hG _ (hin _ (u_in_lay hk))
      unfold u_lay at hlay
      rw [if_pos hf9] at hlay
      have hcf : mid.cls = cf := by
        obtain ⟨_, _, c', _, _, _, -, -, hf', -, -, -, hown2, -⟩ := Cond.laysFinal_spec hlay
        have e1 : c' = cf := by have := hi.symm.trans hf'; simp at this; exact this.1.symm
        rw [hdecl] at hown2
        rw [← e1]; exact Option.some.inj (hown.symm.trans hown2)
      have h6 := u_fits hfc hkC hkind (Or.inr hlay) hi (hT.2.2.1 _ hk) hfit.1 hfit.2
      exact W.putFinK hx hb hown hlink hi hst hcf hin2 (by rw [q2]; exact h6) q1 q3 (by rw [hsl]; exact k2_hasslot (q4 _ hk)) rfl rfl hd done
  · exact absurd h.1 id
theorem s_getfieldN (hx : p.tables.exec = Jvm.exec) (hb : c.code = mb j) (hG : ∀ w ∈ GW, w.before args s = true) (ho : o < 32) (hown : s.vm.findClass (mR o) = some mid.cls) (hK : va_K D vwCl (mtys tc) s) {idx g : Nat} (hN : ∀ e ∈ mFN o, va_Nw (mfwN o e.1 e.2.1) s) (hlk : mlk (mFN o) idx = some g)
    (hd : decode (mb j) pc = .ok (.getfield idx, 3)) (h : mint (mW p l e s mid args below meth c Q E D tc j) C j K (mX O j 3 (.getfield g) pc L S cs ss G d)) : mW p l e s mid args below meth c Q E D tc j (pc, L, S, cs, ss, G, d) := by
  obtain ⟨hw, hk, hg⟩ := mFN_use (s := s) (args := args) ho hN hlk
  obtain ⟨T, ty, hT⟩ := mcls hg
  simp only [mX] at h
  split at h
  · rename_i a S'
    obtain ⟨q, h⟩ := h
    intro H locs ls hl hr hs h1 h2
    obtain ⟨ha, hO⟩ := mRep_obj hr hg q
    have hF : mFn g = T (g % 64) := by
      have := hT.2.1 (g % 64) (Nat.mod_lt _ (by decide))
      rwa [Nat.div_add_mod] at this
    have hP : va_P D vwCl [(E.1 + mtau a, .inr (mvw (g / 64), (List.range (mnf (g / 64))).map (mfun E (g / 64) (d a))))] H := by
      intro k x hx9
      cases k with
      | zero => cases hx9; exact ⟨_, hT.1, hO.to (fun k hk => (vp_V_map _ hk).symm)⟩
      | succ k => simp at hx9
    have hlink := hw
    unfold mfwN at hlink
    rw [hF] at hlink
    have kk := h H locs ls hl hr hs h1 h2
    rw [mval_own ha]
    refine va_getN (D := D) (ci := mvw (g / 64)) hx hb hG (mcls_ws hg hT) hown hK hP 0 rfl hT.1 (g % 64) hk hlink (fun _ z => z) (v := mfun E (g / 64) (d a) (g % 64)) (by simp [hk]) hd ?_
    rw [show mst E ((mtag (mfty g), d a ((g % 64 : Nat) : Int)) :: S') = mfun E (g / 64) (d a) (g % 64) :: mst E S' by simp only [mst, List.map_cons, mval_tag, mfun, Nat.div_add_mod]] at kk
    exact kk
  · exact absurd h.1 id
theorem s_putfieldN (hx : p.tables.exec = Jvm.exec) (hb : c.code = mb j) (hG : ∀ w ∈ GW, w.before args s = true) (ho : o < 32) (hown : s.vm.findClass (mR o) = some mid.cls) (hK : va_K D vwCl (mtys tc) s) {idx g : Nat} (hN : ∀ e ∈ mFN o, va_Nw (mfwN o e.1 e.2.1) s) (hlk : mlk (mFN o) idx = some g)
    (hfin : (mFn g).2.2.2 = false)
    (hd : decode (mb j) pc = .ok (.putfield idx, 3)) (h : mint (mW p l e s mid args below meth c Q E D tc j) C j K (mX O j 3 (.putfield g) pc L S cs ss G d)) : mW p l e s mid args below meth c Q E D tc j (pc, L, S, cs, ss, G, d) := by
  obtain ⟨hw, hk, hg⟩ := mFN_use (s := s) (args := args) ho hN hlk
  obtain ⟨T, ty, hT⟩ := mcls hg
  simp only [mX] at h
  split at h
  · rename_i v a S'
    obtain ⟨⟨q, hft⟩, h⟩ := h
    intro H locs ls hl hr hs h1 h2
    obtain ⟨ha, hO⟩ := mRep_obj hr hg q
    have hF : mFn g = T (g % 64) := by
      have := hT.2.1 (g % 64) (Nat.mod_lt _ (by decide))
      rwa [Nat.div_add_mod] at this
    have hlink := hw
    unfold mfwN at hlink
    rw [hF] at hlink hfin
    have hin := mcls_ws hg hT
    have hap := va_apart (own := mR o) hG hin ty hT.2.2.1 hT.2.2.2.1 hK hT.1
    obtain ⟨cell, q1, q2, q3, q4⟩ := hO
    obtain ⟨hS, hfc, kC, hkC, hkind⟩ := hK.1 (mvw (g / 64)) _ hT.1
    obtain ⟨cf, kf, fi, f, hi, hsl⟩ := hS (g % 64) hk
    have hst := (u_facts hfc hkC (u_lays hG hin hk) hi).1
    have hfit := hT.2.2.2.2.2.1 E (g % 64) v hk (by rw [Nat.div_add_mod]; exact hft)
    have hv : mval E v = mslot E.1 (mfty g) v.2 := by
      obtain ⟨t9, x9⟩ := v
      have ht : t9 = mtag (mfty g) := by
        revert hft
        generalize mfty g = z
        intro hft
        match z with
        | 0 => exact hft
        | 1 => exact hft.1
        | 2 => exact hft.1
        | 3 => exact hft
        | _ + 4 => exact hft
      rw [ht, mval_tag]
    have done : ∀ H' : Heap, H'[E.1 + mtau a]? = some (cell.setSlot f.slot (mval E v)) → H'.size = H.size → (∀ q : Nat, q ≠ E.1 + mtau a → H'[q]? = H[q]?) → W p l e (mRm j) s mid args below meth c H' (locs ++ [⟨E.1 + mtau a, f.slot⟩]) cs ss Q (F0 mid (pc + 3) ls (mst E S')) := by
      intro H' e1 e2 e3
      rw [hsl] at e1 ⊢
      refine h H' _ ls hl (mRep_upd hr (by omega) e2 e3 (fun b hb9 => mset_ne hb9) (fun _ => ⟨by rw [q, Int.toNat_natCast]; exact hg, ?_⟩) (fun h9 => by have := mcr_hi hg; omega)) (hs.put e2 e3 (by show E.1 ≤ _; omega)) h1 h2
      rw [q]
      refine t_OB.to (V := updV (mfun E (g / 64) (d a)) (g % 64) (mval E v)) ⟨_, e1, q2, q3, t_set q4 hap hk _⟩ (fun i hi9 => ?_)
      simp only [updV, mfun, mset, Int.toNat_natCast]
      by_cases hij : i = g % 64
      · subst hij
        rw [if_pos rfl, if_pos ⟨trivial, rfl⟩, hv, Nat.div_add_mod]
      · rw [if_neg hij, if_neg (by omega)]
    have e9 : mst E (v :: (3, a) :: S') = mval E v :: .ref (E.1 + mtau a) :: mst E S' := by
      have := mval_own (E := E) ha S'
      simp only [mst, List.map_cons] at this ⊢
      rw [this]
    rw [e9]
    cases hf9 : (T (g % 64)).2.2.2 with
    | false =>
      have hlay := hG _ (hin _ (u_in_lay hk))
      unfold u_lay at hlay
      rw [if_neg (by rw [hf9]; decide)] at hlay
      have h6 := u_store hfc hkC hkind hlay hi (hT.2.2.1 _ hk) hfit.1 hfit.2
      exact va_WputK hx hb (f := f) hown hlink hi hst (by rw [q2]; exact h6) q1 q3 (by rw [hsl]; exact k2_hasslot (q4 _ hk)) rfl rfl hd done
    | true =>
      rw [hfin] at hf9
      cases hf9
  · exact absurd h.1 id
end SC
/-! ===== rows ===== -/
theorem mset_upd (E : mE) (k : Int) (d : mD) (a i v : Int) (h0 : 0 ≤ i) : updV (mrow E k (d a)) i.toNat (mslot E.1 (mety k) v) = mrow E k (mset d a i v a) := by
  funext z
  simp only [updV, mrow, mset]
  by_cases h : z = i.toNat
  · rw [if_pos h, if_pos ⟨trivial, by omega⟩]
  · rw [if_neg h, if_neg (by omega)]
theorem m_zb {v : Int} (h : v = 0 ∨ v = 1) : narrow .boolean (.int (Int32.ofInt v)) = .int (Int32.ofInt v) := by
  rcases h with rfl | rfl <;> rfl
section SD
variable {p : Program} {l : Launch} {e : Env} {s : State} {mid : MethodId} {args : Array Value} {below : List Frame} {meth : Method} {c : Code} {Q : State → Prop}
variable {E : mE} {D : va_G} {tc : Int → ClassId} {O : mO} {j : Nat}
variable {C : Nat → List mV → mG → mD → mK → Prop} {K : mK} {pc len : Nat} {L S : List mV} {cs ss : Nat} {G : mG} {d : mD} {H : Heap} {o : Nat}
theorem mRep_row (hr : mRep E D tc G d H) {a k : Int} (hk : 100 ≤ k) (h : G.1 a = k) : 0 ≤ a ∧ mcellA E tc a k (G.2.1 a) (d a) H := by
  obtain ⟨h0, -, h1⟩ := hr.2.2 a (by omega)
  have h2 := h1 (by omega)
  rw [h] at h2
  exact ⟨h0.1, h2⟩
theorem mval_row {a : Int} (h : 0 ≤ a) (x : Value) (v : mV) (hv : mval E v = x) (S : List mV) : mst E (v :: (3, a) :: S) = x :: .ref (E.1 + mtau a) :: mst E S := by
  have := mval_own (E := E) h S
  simp only [mst, List.map_cons] at this ⊢
  rw [this, hv]
theorem m_tys {tc : Int → ClassId} (hK : va_K D vwCl (mtys tc) s) {k : Int} (h : k ∈ mkinds) : ArrOfT s (tc k) (metyF k) ∧ va_RA s (tc k) (metyF k) := by
  have hm : (tc k, metyF k) ∈ mtys tc := List.mem_map.mpr ⟨k, h, rfl⟩
  obtain ⟨i, hi⟩ := List.getElem?_of_mem hm
  exact hK.2 i _ hi

theorem s_laload (hx : p.tables.exec = Jvm.exec) (hb : c.code = mb j) (hK : va_K D vwCl (mtys tc) s) (hd : decode (mb j) pc = .ok (.laload, 1)) (h : mint (mW p l e s mid args below meth c Q E D tc j) C j K (mX O j 1 (.laload) pc L S cs ss G d)) : mW p l e s mid args below meth c Q E D tc j (pc, L, S, cs, ss, G, d) := by
  simp only [mX] at h
  split at h
  · rename_i i a S'
    obtain ⟨⟨q0, q1, q2⟩, h⟩ := h
    intro H locs ls hl hr hs h1 h2
    obtain ⟨ha, hm, hn0, hn, hc⟩ := mRep_row hr (by decide) q0
    rw [mval_row ha _ (0, _) rfl]
    have hlt : i.toNat < (G.2.1 a).toNat := by omega
    exact W.lald (v := .long (Int64.ofInt (d a i))) hx hb hc ((m_tys hK hm).1 _ _) (fun q => by cases q) (by rw [arrV_size]; exact m_in q1 q2 (by omega)) (by rw [m_nat q1 (by omega), arrV_read _ _ hlt]; simp only [mrow, Int.toNat_of_nonneg q1]; rfl) rfl rfl hd (h H locs ls hl hr hs h1 h2)
  · exact absurd h.1 id
theorem s_aaload (hx : p.tables.exec = Jvm.exec) (hb : c.code = mb j) (hK : va_K D vwCl (mtys tc) s) (hd : decode (mb j) pc = .ok (.aaload, 1)) (h : mint (mW p l e s mid args below meth c Q E D tc j) C j K (mX O j 1 (.aaload) pc L S cs ss G d)) : mW p l e s mid args below meth c Q E D tc j (pc, L, S, cs, ss, G, d) := by
  simp only [mX] at h
  split at h
  · rename_i i a S'
    obtain ⟨⟨q0, q1, q2⟩, h⟩ := h
    intro H locs ls hl hr hs h1 h2
    have hq := ((hr.2.2 a (by omega)).2.2 (by omega)).1
    have hq : G.1 a = 201 ∨ G.1 a = 206 ∨ G.1 a = 213 := by
      simp only [mkinds, List.mem_cons, List.not_mem_nil, or_false] at hq
      omega
    rcases hq with q0 | q0 | q0
    · obtain ⟨ha, hm, hn0, hn, hc⟩ := mRep_row hr (by decide) q0
      rw [mval_row ha _ (0, _) rfl]
      have hlt : i.toNat < (G.2.1 a).toNat := by omega
      exact W.aald (ty := .object _) (v := mslot E.1 4 (d a i)) hx hb hc ((m_tys hK hm).1 _ _) rfl (fun q => by cases q) (by rw [arrV_size]; exact m_in q1 q2 (by omega)) (by rw [m_nat q1 (by omega), arrV_read _ _ hlt]; simp only [mrow, Int.toNat_of_nonneg q1]; rfl) rfl rfl hd (h H locs ls hl hr hs h1 h2)
    · obtain ⟨ha, hm, hn0, hn, hc⟩ := mRep_row hr (by decide) q0
      rw [mval_row ha _ (0, _) rfl]
      have hlt : i.toNat < (G.2.1 a).toNat := by omega
      exact W.aald (ty := .object _) (v := mslot E.1 4 (d a i)) hx hb hc ((m_tys hK hm).1 _ _) rfl (fun q => by cases q) (by rw [arrV_size]; exact m_in q1 q2 (by omega)) (by rw [m_nat q1 (by omega), arrV_read _ _ hlt]; simp only [mrow, Int.toNat_of_nonneg q1]; rfl) rfl rfl hd (h H locs ls hl hr hs h1 h2)
    · obtain ⟨ha, hm, hn0, hn, hc⟩ := mRep_row hr (by decide) q0
      rw [mval_row ha _ (0, _) rfl]
      have hlt : i.toNat < (G.2.1 a).toNat := by omega
      exact W.aald (ty := .object _) (v := mslot E.1 4 (d a i)) hx hb hc ((m_tys hK hm).1 _ _) rfl (fun q => by cases q) (by rw [arrV_size]; exact m_in q1 q2 (by omega)) (by rw [m_nat q1 (by omega), arrV_read _ _ hlt]; simp only [mrow, Int.toNat_of_nonneg q1]; rfl) rfl rfl hd (h H locs ls hl hr hs h1 h2)
  · exact absurd h.1 id
theorem s_lastore (hx : p.tables.exec = Jvm.exec) (hb : c.code = mb j) (hK : va_K D vwCl (mtys tc) s) (hd : decode (mb j) pc = .ok (.lastore, 1)) (h : mint (mW p l e s mid args below meth c Q E D tc j) C j K (mX O j 1 (.lastore) pc L S cs ss G d)) : mW p l e s mid args below meth c Q E D tc j (pc, L, S, cs, ss, G, d) := by
  simp only [mX] at h
  split at h
  · rename_i v i a S'
    obtain ⟨⟨q0, q1, q2⟩, h⟩ := h
    intro H locs ls hl hr hs h1 h2
    obtain ⟨ha, hm, hn0, hn, hc⟩ := mRep_row hr (by decide) q0
    have e9 : mst E ((1, v) :: (0, i) :: (3, a) :: S') = mval E (1, v) :: .int (Int32.ofInt i) :: .ref (E.1 + mtau a) :: mst E S' := by
      have := mval_own (E := E) ha S'
      simp only [mst, List.map_cons] at this ⊢
      rw [this]
      rfl
    rw [e9]
    refine W.last hx hb hc ((m_tys hK hm).1 _ _) (fun q => by cases q) (by rw [arrV_size]; exact m_in q1 q2 (by omega)) rfl rfl hd fun H' e1 e2 e3 => ?_
    refine h H' _ ls hl (mRep_upd hr (by omega) e2 e3 (fun b hb9 => mset_ne hb9) (fun h9 => by omega) (fun _ => ?_)) (hs.put e2 e3 (by show E.1 ≤ _; omega)) h1 h2
    rw [q0]
    refine ⟨hm, hn0, hn, ?_⟩
    rw [← mset_upd E 101 d a i v q1, ← arrV_store, e1, m_nat q1 (by omega)]
    rfl
  · exact absurd h.1 id
theorem s_iastore (hx : p.tables.exec = Jvm.exec) (hb : c.code = mb j) (hK : va_K D vwCl (mtys tc) s) (hd : decode (mb j) pc = .ok (.iastore, 1)) (h : mint (mW p l e s mid args below meth c Q E D tc j) C j K (mX O j 1 (.iastore) pc L S cs ss G d)) : mW p l e s mid args below meth c Q E D tc j (pc, L, S, cs, ss, G, d) := by
  simp only [mX] at h
  split at h
  · rename_i v i a S'
    obtain ⟨⟨q0, q1, q2⟩, h⟩ := h
    intro H locs ls hl hr hs h1 h2
    obtain ⟨ha, hm, hn0, hn, hc⟩ := mRep_row hr (by decide) q0
    have e9 : mst E ((0, v) :: (0, i) :: (3, a) :: S') = mval E (0, v) :: .int (Int32.ofInt i) :: .ref (E.1 + mtau a) :: mst E S' := by
      have := mval_own (E := E) ha S'
      simp only [mst, List.map_cons] at this ⊢
      rw [this]
      rfl
    rw [e9]
    refine W.iast hx hb hc ((m_tys hK hm).1 _ _) (fun q => by cases q) (by rw [arrV_size]; exact m_in q1 q2 (by omega)) rfl rfl hd fun H' e1 e2 e3 => ?_
    refine h H' _ ls hl (mRep_upd hr (by omega) e2 e3 (fun b hb9 => mset_ne hb9) (fun h9 => by omega) (fun _ => ?_)) (hs.put e2 e3 (by show E.1 ≤ _; omega)) h1 h2
    rw [q0]
    refine ⟨hm, hn0, hn, ?_⟩
    rw [← mset_upd E 100 d a i v q1, ← arrV_store, e1, m_nat q1 (by omega)]
    rfl
  · exact absurd h.1 id
theorem s_bastore (hx : p.tables.exec = Jvm.exec) (hb : c.code = mb j) (hK : va_K D vwCl (mtys tc) s) (hd : decode (mb j) pc = .ok (.bastore, 1)) (h : mint (mW p l e s mid args below meth c Q E D tc j) C j K (mX O j 1 (.bastore) pc L S cs ss G d)) : mW p l e s mid args below meth c Q E D tc j (pc, L, S, cs, ss, G, d) := by
  simp only [mX] at h
  split at h
  · rename_i v i a S'
    obtain ⟨⟨q0, q1, q2⟩, h⟩ := h
    intro H locs ls hl hr hs h1 h2
    rcases q0 with ⟨q0, q3, q4⟩ | ⟨q0, q3⟩
    · obtain ⟨ha, hm, hn0, hn, hc⟩ := mRep_row hr (by decide) q0
      have e9 : mst E ((0, v) :: (0, i) :: (3, a) :: S') = mval E (0, v) :: .int (Int32.ofInt i) :: .ref (E.1 + mtau a) :: mst E S' := by
        have := mval_own (E := E) ha S'
        simp only [mst, List.map_cons] at this ⊢
        rw [this]
        rfl
      rw [e9]
      refine W.bast hx hb hc ((m_tys hK hm).1 _ _) (fun q => by cases q) (by rw [arrV_size]; exact m_in q1 q2 (by omega)) rfl rfl hd fun H' e1 e2 e3 => ?_
      refine h H' _ ls hl (mRep_upd hr (by omega) e2 e3 (fun b hb9 => mset_ne hb9) (fun h9 => by omega) (fun _ => ?_)) (hs.put e2 e3 (by show E.1 ≤ _; omega)) h1 h2
      rw [q0]
      refine ⟨hm, hn0, hn, ?_⟩
      rw [← mset_upd E 102 d a i v q1, ← arrV_store, e1, m_nat q1 (by omega)]
      rw [narrow_byte, m_i8b q3 q4]; rfl
    · obtain ⟨ha, hm, hn0, hn, hc⟩ := mRep_row hr (by decide) q0
      have e9 : mst E ((0, v) :: (0, i) :: (3, a) :: S') = mval E (0, v) :: .int (Int32.ofInt i) :: .ref (E.1 + mtau a) :: mst E S' := by
        have := mval_own (E := E) ha S'
        simp only [mst, List.map_cons] at this ⊢
        rw [this]
        rfl
      rw [e9]
      refine W.zast hx hb hc ((m_tys hK hm).1 _ _) (fun q => by cases q) (by rw [arrV_size]; exact m_in q1 q2 (by omega)) rfl rfl hd fun H' e1 e2 e3 => ?_
      refine h H' _ ls hl (mRep_upd hr (by omega) e2 e3 (fun b hb9 => mset_ne hb9) (fun h9 => by omega) (fun _ => ?_)) (hs.put e2 e3 (by show E.1 ≤ _; omega)) h1 h2
      rw [q0]
      refine ⟨hm, hn0, hn, ?_⟩
      rw [← mset_upd E 103 d a i v q1, ← arrV_store, e1, m_nat q1 (by omega)]
      rw [m_zb q3]; rfl
  · exact absurd h.1 id
end SD
/-! ===== what lies outside our cells and stays ===== -/
def mNW : List Jvm.Cond := [.superclass "java/lang/Throwable" "java/lang/Object", .declares (Bundle.initS "java/lang/RuntimeException"), .declares (Bundle.initS "java/lang/Exception"), .declares (Bundle.initS "java/lang/Throwable"),
  .castable (mEn 0) (mEn 0), .castable (mEn 1) (mEn 1), .castable (mEn 2) (mEn 2)]
-- the seven texts, and what String's methods look at
def mTXS (E : mE) (A : Nat → Prop) (U : State) (H : Heap) : Prop :=
  (∃ aV : Nat → Nat, ∀ k, k < 16 → va_O "java/lang/String" (E.2.2 k) A U H ∧ va_OF "java/lang/String" "coder" "B" (.int 0) (E.2.2 k) A U H ∧ va_OF "java/lang/String" "value" "[B" (.ref (aV k)) (E.2.2 k) A U H ∧ va_T .byte (aV k) (tsl (k : Int)).toNat (fun i => .int (Int32.ofInt (tsc (k : Int) (i : Int)))) A U H)
  ∧ va_Z "java/lang/String" "COMPACT_STRINGS" "Z" (.int 1) A U H ∧ va_Zq "jdk/internal/util/Preconditions" "SIOOBE_FORMATTER" "Ljava/util/function/BiFunction;" A U H
-- what the JDK's own methods of texts look at
def mJDK (E : mE) (O : mO) (A : Nat → Prop) (U : State) (H : Heap) : Prop :=
  (∀ o, o < 32 → ∀ e ∈ mFN o, va_Nw (mfwN o e.1 e.2.1) U)
  ∧ (∀ k, (k = 3 ∨ k = 4) → va_Z (mstw k).1 (mstw k).2.1 "[B" (.ref (E.2.1 k)) A U H ∧ va_T .byte (E.2.1 k) 100 (fun i => .int (Int32.ofInt (O.2 (k : Int) (i : Int)))) A U H ∧ O.1 (k : Int) = 100)
  ∧ va_Nw (.castable "[B" "java/lang/Cloneable") U
def mOld (E : mE) (O : mO) (A : Nat → Prop) (U : State) (H : Heap) : Prop :=
  (∀ w ∈ mNW, va_Nw w U) ∧ (∀ o, o < 32 → ∀ e ∈ mNL o, va_Nw (.methodLinkNest (mR o) e.1 (my e.2.1) (mhost o)) U) ∧ (∀ o, o < 32 → ∀ e ∈ mTN o, va_Nw (.fieldLinkNest (mR o) e.1 mnest (mStn e.2.1) "[I" mnest) U)
  ∧ (va_AO "WaitingBureau$HourSet" U ∧ va_AO "WaitingBureau$State" U ∧ va_AO "WaitingBureauLaw$World" U)
  ∧ (∀ k, k < 2 → va_Z mnest (mStn k) "[I" (.ref (E.2.1 k)) A U H ∧ va_T .int (E.2.1 k) 5 (fun i => .int (Int32.ofInt (O.2 (k : Int) (i : Int)))) A U H ∧ O.1 (k : Int) = 5)
  ∧ (0 ≤ O.1 2 ∧ O.1 2 ≤ 100000 ∧ va_X (E.2.1 2) (O.1 2).toNat (fun i => Int32.ofInt (O.2 2 (i : Int))) U H ∧ E.2.1 2 < H.size ∧ ¬ A (E.2.1 2))
  ∧ vx_Zq Bundle.tN "UNASSIGNED_STACK" Bundle.steD A U H ∧ vx_Zq Bundle.tN "SUPPRESSED_SENTINEL" Bundle.listD A U H
  ∧ (∀ e ∈ mXTL, ∃ sa, vk_R (mR e.1) e.2.1 e.2.2.1 sa U)
  ∧ (∀ o, o < 32 → ∀ e ∈ mSL o, vk_R (mR o) e.1 (mtx e.2.1) (E.2.2 e.2.1) U)
  ∧ (∀ a, a < 3 → ∀ b, b = 0 ∨ b = 2 → a ≠ b → va_Nc (mEn a) (mEn b) U) ∧ mTXS E A U H ∧ mJDK E O A U H
theorem m_superW {a b : String} {s U : State} (hW : s.WarmedH U.vm) (h : va_Nw (.superclass a b) s) : va_Nw (.superclass a b) U := by
  refine va_tabs rfl (rfl : (s.setVm U.vm).vm = U.vm) (A := #[]) (u := s.setVm U.vm) ?_
  have hA := hW.alike
  have h1 : (Jvm.Cond.superclass a b).holds #[] s none s [] = true := h
  show (Jvm.Cond.superclass a b).holds #[] (s.setVm U.vm) none (s.setVm U.vm) [] = true
  cases hc : s.vm.findClass a with
  | none => simp [Jvm.Cond.holds, Jvm.Cond.value, hc] at h1
  | some c =>
    obtain ⟨p, k, kp, e1, e2, e3, e4, e5, e6, e7⟩ := Cond.superclass_spec (args := #[]) (first := s) (o := none) (idx := []) hc h1
    obtain ⟨k', f1, f2⟩ := hA.2.2 _ _ e2
    obtain ⟨kp', f3, f4⟩ := hA.2.2 _ _ e3
    have g1 : (s.setVm U.vm).vm.findClass a = some c := by show U.vm.findClass a = some c; rw [hA.findClass]; exact hc
    have g2 : (s.setVm U.vm).vm.findClass b = some p := by show U.vm.findClass b = some p; rw [hA.findClass]; exact e1
    have g3 : (s.setVm U.vm).vm.classes[c]? = some k' := f1
    have g4 : (s.setVm U.vm).vm.classes[p]? = some kp' := f3
    simp only [Jvm.Cond.holds, Jvm.Cond.value, hc, e1, e2, e3] at h1
    simp only [Jvm.Cond.holds, Jvm.Cond.value, g1, g2, g3, g4]
    rw [f2, f4]
    exact h1
theorem mOld_to {E : mE} {O : mO} {A : Nat → Prop} {s U : State} {H H' : Heap} (h : mOld E O A s H) (hW : s.WarmedH U.vm) (hz : H.size ≤ H'.size) (hq : ∀ a : Nat, a < H.size → ¬ A a → H'[a]? = H[a]?) : mOld E O A U H' := by
  have hA := hW.alike
  obtain ⟨h1, h2, h3, h4, h5, h6, h7, h8, h9, h10, h11, ⟨⟨aV, h12⟩, h13, h14⟩, h15, h16, h17⟩ := h
  refine ⟨fun w hw => ?_, fun o ho e he => va_Nw.warmM hW (h2 o ho e he), fun o ho e he => va_Nw.warmF hW (h3 o ho e he), ⟨va_AO.moved hA h4.1, va_AO.moved hA h4.2.1, va_AO.moved hA h4.2.2⟩,
    fun k hk => ⟨va_Z.moved hA ((h5 k hk).1.kept hq), va_T.moved hA ((h5 k hk).2.1.kept hq), (h5 k hk).2.2⟩, ⟨h6.1, h6.2.1, va_X.moved hA (h6.2.2.1.kept (hq _ h6.2.2.2.1 h6.2.2.2.2)), Nat.lt_of_lt_of_le h6.2.2.2.1 hz, h6.2.2.2.2⟩,
    vx_Zq.moved hA (h7.kept hq), vx_Zq.moved hA (h8.kept hq), fun e he => ?_, fun o ho e he => vk_R.warm hW (h10 o ho e he), fun a ha b hb hne => va_Nc.moved hA (h11 a ha b hb hne),
    ⟨⟨aV, fun k hk => ⟨va_O.moved hA ((h12 k hk).1.kept hq), va_OF.moved hA ((h12 k hk).2.1.kept hq), va_OF.moved hA ((h12 k hk).2.2.1.kept hq), va_T.moved hA ((h12 k hk).2.2.2.kept hq)⟩⟩, va_Z.moved hA (h13.kept hq), va_Zq.moved hA (h14.kept hq)⟩, fun o ho e he => va_Nw.warmF hW (h15 o ho e he), fun k hk => ⟨va_Z.moved hA ((h16 k hk).1.kept hq), va_T.moved hA ((h16 k hk).2.1.kept hq), (h16 k hk).2.2⟩, va_Nw.warmC hW h17⟩
  · have hh := h1 w hw
    simp only [mNW, List.mem_cons, List.not_mem_nil, or_false] at hw
    rcases hw with rfl | rfl | rfl | rfl | rfl | rfl | rfl
    · exact m_superW hW hh
    · exact va_Nw.warmD hW hh
    · exact va_Nw.warmD hW hh
    · exact va_Nw.warmD hW hh
    · exact va_Nw.warmC hW hh
    · exact va_Nw.warmC hW hh
    · exact va_Nw.warmC hW hh
  · obtain ⟨sa, hs⟩ := h9 e he
    exact ⟨sa, vk_R.warm hW hs⟩
/-! ===== rows that are old, statics, constants, new cells ===== -/
theorem mTL_use {o i g : Nat} (ho : o < 32) (h : mlk (mTL o) i = some g) : Jvm.Cond.fieldLink (mR o) i (mstw g).1 (mstw g).2.1 (mstw g).2.2 ∈ GW ∧ (g < 2 ∨ g = 3 ∨ g = 4 ∨ g = 5) := by
  obtain ⟨p, hp⟩ := mlk_in h
  have h1 := m_all16 mTL_ok ho hp
  have h2 := m_all16 (q := fun _ e => Nat.blt e.2.1 2 || Nat.beq e.2.1 3 || Nat.beq e.2.1 4 || Nat.beq e.2.1 5) (by decide +kernel : (List.range 32).all (fun o => (mTL o).all (fun e => Nat.blt e.2.1 2 || Nat.beq e.2.1 3 || Nat.beq e.2.1 4 || Nat.beq e.2.1 5)) = true) ho hp
  simp only [Bool.or_eq_true, Nat.blt_eq] at h2
  refine ⟨mG1_in h1, ?_⟩
  rcases h2 with ((h2 | h2) | h2) | h2
  · exact Or.inl h2
  · exact Or.inr (Or.inl (Nat.eq_of_beq_eq_true h2))
  · exact Or.inr (Or.inr (Or.inl (Nat.eq_of_beq_eq_true h2)))
  · exact Or.inr (Or.inr (Or.inr (Nat.eq_of_beq_eq_true h2)))
theorem mTN_lt {o i g p : Nat} (ho : o < 32) (hp : (i, g, p) ∈ mTN o) : g < 2 := by
  have h2 := m_all16 (q := fun _ e => Nat.blt e.2.1 2) (by decide +kernel : (List.range 32).all (fun o => (mTN o).all (fun e => Nat.blt e.2.1 2)) = true) ho hp
  simpa only [Nat.blt_eq] using h2
theorem mCL_use {o i g : Nat} (ho : o < 32) (h : mlk (mCL o) i = some g) : Jvm.Cond.classLink (mR o) i (mCn g) ∈ GW ∧ mcr g = true := by
  obtain ⟨p, hp⟩ := mlk_in h
  have h1 := m_all16 mCL_ok ho hp
  have h2 := m_all16 (q := fun _ e => mcr e.2.1) (by decide +kernel : (List.range 32).all (fun o => (mCL o).all (fun e => mcr e.2.1)) = true) ho hp
  exact ⟨mG1_in h1, h2⟩
theorem mKL_use {o i : Nat} {g : Int} (ho : o < 32) (h : mlkI (mKL o) i = some g) : Jvm.Cond.constant (mR o) i (Int32.ofInt g) ∈ GW := by
  obtain ⟨p, hp⟩ := mlkI_in h
  exact mG1_in (m_all16 mKL_ok ho hp)
theorem mQL_use {o i : Nat} {g : Int} (ho : o < 32) (h : mlkI (mQL o) i = some g) : Jvm.Cond.constantLong (mR o) i (Int64.ofInt g) ∈ GW := by
  obtain ⟨p, hp⟩ := mlkI_in h
  exact mG1_in (m_all16 mQL_ok ho hp)
theorem mnew_use {k : Nat} (h : mcr k = true) : Jvm.Cond.instantiable (mCn k) (mnf k) ∈ GW ∧ Jvm.Cond.initialized (mCn k) ∈ GW := by
  have h1 := List.all_eq_true.mp mnew_ok k (List.mem_range.mpr (mcr_lt h))
  rw [h] at h1
  dsimp only [cond] at h1
  simp only [Bool.and_eq_true] at h1
  exact ⟨mG1_in h1.1, mG1_in h1.2⟩
theorem marr_ok : (mG1 1089 (.arrayClass .int) && mG1 1090 (.arrayClass .boolean) && mG1 1108 (.arrayClass .long) && mG1 2060 (.arrayClass .byte)) = true := by decide +kernel
theorem marr_use : Jvm.Cond.arrayClass .int ∈ GW ∧ Jvm.Cond.arrayClass .boolean ∈ GW ∧ Jvm.Cond.arrayClass .long ∈ GW ∧ Jvm.Cond.arrayClass .byte ∈ GW := by
  have h := marr_ok
  simp only [Bool.and_eq_true] at h
  exact ⟨mG1_in h.1.1.1, mG1_in h.1.1.2, mG1_in h.1.2, mG1_in h.2⟩
/-- a new cell at the end -/
theorem mRep_new {E : mE} {D : va_G} {tc : Int → ClassId} {G : mG} {d d' : mD} {H H' : Heap} {k n : Int} (hr : mRep E D tc G d H) (h0 : 0 ≤ G.2.2) (hk : 0 ≤ k) (hz : H'.size = H.size + 1) (ho : ∀ q : Nat, q < H.size → H'[q]? = H[q]?) (hd : ∀ b, b ≠ G.2.2 → d' b = d b)
    (hO : k < 100 → mcellO E D G.2.2 k (d' G.2.2) H') (hA : 100 ≤ k → mcellA E tc G.2.2 k n (d' G.2.2) H') : mRep E D tc (mkind G.1 G.2.2 k, mkind G.2.1 G.2.2 n, mnxt G.2.2) d' H' := by
  obtain ⟨hre, hs⟩ := hr.2.1 h0
  refine ⟨by rw [hz]; have := hr.1; omega, fun _ => ⟨mreal_nxt hre, by rw [hz, hs]; show _ = E.1 + mtau (mnxt G.2.2); rw [mtau_nxt hre]; omega⟩, fun b hb => ?_⟩
  simp only [mkind] at hb ⊢
  by_cases e : b = G.2.2
  · subst e
    rw [if_pos rfl, if_pos rfl]
    exact ⟨hre, hO, hA⟩
  · rw [if_neg e] at hb ⊢
    rw [if_neg e, hd b e]
    obtain ⟨h1, h2, h3⟩ := hr.2.2 b hb
    have hlt : E.1 + mtau b < H.size := by
      by_cases h9 : G.1 b < 100
      · obtain ⟨-, cell, hc, -⟩ := h2 h9
        exact (Array.getElem?_eq_some_iff.mp hc).1
      · obtain ⟨-, -, -, hc⟩ := h3 (by omega)
        exact (Array.getElem?_eq_some_iff.mp hc).1
    have hq := ho _ hlt
    exact ⟨h1, fun h => ⟨(h2 h).1, (h2 h).2.kept hq⟩, fun h => ⟨(h3 h).1, (h3 h).2.1, (h3 h).2.2.1, by rw [hq]; exact (h3 h).2.2.2⟩⟩
theorem mS_new {A : Nat → Prop} {H0 H H' : Heap} {locs : List Loc} (hs : va_S A H0 H locs) (hz : H'.size = H.size + 1) (ho : ∀ q : Nat, q < H.size → H'[q]? = H[q]?) : va_S A H0 H' locs :=
  ⟨Nat.le_trans hs.1 (by omega), fun x h1 h2 => (ho x (Nat.lt_of_lt_of_le h1 hs.1)).trans (hs.2.1 x h1 h2), hs.2.2⟩
theorem mfill_ne {d : mD} {a v b : Int} (h : b ≠ a) : mfill d a v b = d b := by
  funext j
  simp [mfill, h]
theorem m_ldcS {p : Program} {l : Launch} {e : Env} {R : Room} {s : State} {m : MethodId} {args : Array Value} {below : List Frame} {meth : Method} {c : Code} {H : Heap} {locs : List Loc} {cells slots : Nat} {Q : State → Prop} {cc : ByteArray} {pc : Nat} {ls : Array Slot} {rest : List Value}
    (hx : p.tables.exec = Jvm.exec) (hb : c.code = cc) {own text : String} {index sa : Nat} (hown : s.vm.findClass own = some m.cls) (hstr : vk_R own index text sa s) (hd : decode cc pc = .ok (.ldc index, 2))
    (k : W p l e R s m args below meth c H locs cells slots Q (F0 m (pc + 2) ls (.ref sa :: rest))) : W p l e R s m args below meth c H locs cells slots Q (F0 m pc ls rest) := by
  intro T hT X
  obtain ⟨t, a, b⟩ := k T hT X
  have h1 : (Jvm.Cond.stringRef own index text).before args s = true := (vk_R.same (u := s) rfl hstr).1
  exact ⟨t, X.ldcString hx (own := own) (text := text) (index := index) (a := sa) hown hstr.1 hstr.2 (g := F0 m pc ls rest) rfl (by rw [hb]; exact hd) t a, b⟩
section SE
variable {p : Program} {l : Launch} {e : Env} {s : State} {mid : MethodId} {args : Array Value} {below : List Frame} {meth : Method} {c : Code} {Q : State → Prop}
variable {E : mE} {D : va_G} {tc : Int → ClassId} {O : mO} {j : Nat}
variable {C : Nat → List mV → mG → mD → mK → Prop} {K : mK} {pc len : Nat} {L S : List mV} {cs ss : Nat} {G : mG} {d : mD} {H : Heap} {o : Nat}

theorem s_baload (hx : p.tables.exec = Jvm.exec) (hb : c.code = mb j) (hK : va_K D vwCl (mtys tc) s) (hOld : mOld E O (mAr E) s s.heap) (hd : decode (mb j) pc = .ok (.baload, 1)) (h : mint (mW p l e s mid args below meth c Q E D tc j) C j K (mX O j 1 (.baload) pc L S cs ss G d)) : mW p l e s mid args below meth c Q E D tc j (pc, L, S, cs, ss, G, d) := by
  simp only [mX] at h
  split at h
  · rename_i i a S'
    obtain ⟨⟨q0, q1, q2⟩, h⟩ := h
    intro H locs ls hl hr hs h1 h2
    rcases q0 with q0 | q0
    · obtain ⟨ha, hm, hn0, hn, hc⟩ := mRep_row hr (by decide) q0
      rw [mval_row ha _ (0, _) rfl]
      have hlt : i.toNat < (G.2.1 a).toNat := by omega
      exact W.bald (v := .int (Int32.ofInt (d a i))) hx hb hc ((m_tys hK hm).1 _ _) (fun q => by cases q) (by rw [arrV_size]; exact m_in q1 q2 (by omega)) (by rw [m_nat q1 (by omega), arrV_read _ _ hlt]; simp only [mrow, Int.toNat_of_nonneg q1]; rfl) rfl rfl hd (h H locs ls hl hr hs h1 h2)
    · obtain ⟨ha, hm, hn0, hn, hc⟩ := mRep_row hr (by decide) q0
      rw [mval_row ha _ (0, _) rfl]
      have hlt : i.toNat < (G.2.1 a).toNat := by omega
      exact W.zald (v := .int (Int32.ofInt (d a i))) hx hb hc ((m_tys hK hm).1 _ _) (fun q => by cases q) (by rw [arrV_size]; exact m_in q1 q2 (by omega)) (by rw [m_nat q1 (by omega), arrV_read _ _ hlt]; simp only [mrow, Int.toNat_of_nonneg q1]; rfl) rfl rfl hd (h H locs ls hl hr hs h1 h2)
  · rename_i i k S'
    obtain ⟨⟨q0, q1, q2⟩, h⟩ := h
    obtain ⟨-, -, -, -, -, -, -, -, -, -, -, -, -, hdg, -⟩ := hOld
    intro H locs ls hl hr hs h1 h2
    obtain rfl | rfl : k = 3 ∨ k = 4 := q0
    · obtain ⟨-, hT, h5⟩ := hdg 3 (Or.inl rfl)
      have h5 : O.1 3 = 100 := h5
      exact va_tb hx hb hT hs (by rw [h5] at q2; exact m_in q1 q2 (by omega)) (v := .int (Int32.ofInt (O.2 3 i))) (by rw [m_nat q1 (by omega)]; simp only [Int.toNat_of_nonneg q1]; rfl) hd (h H locs ls hl hr hs h1 h2)
    · obtain ⟨-, hT, h5⟩ := hdg 4 (Or.inr rfl)
      have h5 : O.1 4 = 100 := h5
      exact va_tb hx hb hT hs (by rw [h5] at q2; exact m_in q1 q2 (by omega)) (v := .int (Int32.ofInt (O.2 4 i))) (by rw [m_nat q1 (by omega)]; simp only [Int.toNat_of_nonneg q1]; rfl) hd (h H locs ls hl hr hs h1 h2)
  · exact absurd h.1 id
theorem s_iaload (hx : p.tables.exec = Jvm.exec) (hb : c.code = mb j) (hK : va_K D vwCl (mtys tc) s) (hOld : mOld E O (mAr E) s s.heap) (hd : decode (mb j) pc = .ok (.iaload, 1)) (h : mint (mW p l e s mid args below meth c Q E D tc j) C j K (mX O j 1 (.iaload) pc L S cs ss G d)) : mW p l e s mid args below meth c Q E D tc j (pc, L, S, cs, ss, G, d) := by
  obtain ⟨-, -, -, -, hst, hsc, -⟩ := hOld
  simp only [mX] at h
  split at h
  · rename_i i a S'
    obtain ⟨⟨q0, q1, q2⟩, h⟩ := h
    intro H locs ls hl hr hs h1 h2
    obtain ⟨ha, hm, hn0, hn, hc⟩ := mRep_row hr (by decide) q0
    rw [mval_row ha _ (0, _) rfl]
    have hlt : i.toNat < (G.2.1 a).toNat := by omega
    exact W.iald (v := .int (Int32.ofInt (d a i))) hx hb hc ((m_tys hK hm).1 _ _) (fun q => by cases q) (by rw [arrV_size]; exact m_in q1 q2 (by omega)) (by rw [m_nat q1 (by omega), arrV_read _ _ hlt]; simp only [mrow, Int.toNat_of_nonneg q1]; rfl) rfl rfl hd (h H locs ls hl hr hs h1 h2)
  · rename_i i k S'
    obtain ⟨⟨q0, q1, q2⟩, h⟩ := h
    intro H locs ls hl hr hs h1 h2
    obtain rfl | rfl | rfl : k = 0 ∨ k = 1 ∨ k = 2 := q0
    · obtain ⟨-, hT, h5⟩ := hst 0 (by decide)
      have h5 : O.1 0 = 5 := h5
      exact va_ti hx hb hT hs (by rw [h5] at q2; exact m_in q1 q2 (by omega)) (v := .int (Int32.ofInt (O.2 0 i))) (by rw [m_nat q1 (by omega)]; simp only [Int.toNat_of_nonneg q1]; rfl) hd (h H locs ls hl hr hs h1 h2)
    · obtain ⟨-, hT, h5⟩ := hst 1 (by decide)
      have h5 : O.1 1 = 5 := h5
      exact va_ti hx hb hT hs (by rw [h5] at q2; exact m_in q1 q2 (by omega)) (v := .int (Int32.ofInt (O.2 1 i))) (by rw [m_nat q1 (by omega)]; simp only [Int.toNat_of_nonneg q1]; rfl) hd (h H locs ls hl hr hs h1 h2)
    · obtain ⟨h7, h8, hX, hlt, hnA⟩ := hsc
      have kk := h H locs ls hl hr hs h1 h2
      refine va_sld hx hb hX hlt hnA hs (i := Int32.ofInt i) (m_in q1 q2 (by omega)) hd ?_
      rw [m_nat q1 (by omega)]
      simp only [Int.toNat_of_nonneg q1]
      exact kk
  · exact absurd h.1 id
theorem s_arraylength (hx : p.tables.exec = Jvm.exec) (hb : c.code = mb j) (hK : va_K D vwCl (mtys tc) s) (hOld : mOld E O (mAr E) s s.heap) (hd : decode (mb j) pc = .ok (.arraylength, 1)) (h : mint (mW p l e s mid args below meth c Q E D tc j) C j K (mX O j 1 (.arraylength) pc L S cs ss G d)) : mW p l e s mid args below meth c Q E D tc j (pc, L, S, cs, ss, G, d) := by
  obtain ⟨-, -, -, -, hst, hsc, -⟩ := hOld
  simp only [mX] at h
  split at h
  · rename_i k S'
    obtain ⟨q0, h⟩ := h
    intro H locs ls hl hr hs h1 h2
    subst q0
    obtain ⟨h7, h8, hX, hlt, hnA⟩ := hsc
    have kk := h H locs ls hl hr hs h1 h2
    refine va_slen hx hb hX hlt hnA hs hd ?_
    rw [show Int32.ofNat (O.1 2).toNat = Int32.ofInt (O.1 2) by rw [← Int32.ofInt_eq_ofNat, Int.toNat_of_nonneg h7]]
    exact kk
  · rename_i a S'
    obtain ⟨q0, h⟩ := h
    intro H locs ls hl hr hs h1 h2
    obtain ⟨ha, hm, hn0, hn, hc⟩ := mRep_row hr q0 rfl
    rw [mval_own ha]
    refine W.alen (n := Int32.ofInt (G.2.1 a)) hx hb hc ((m_tys hK hm).1 _ _) (by rw [arrV_size]; exact (by rw [← Int32.ofInt_eq_ofNat, Int.toNat_of_nonneg hn0] : Int32.ofNat (G.2.1 a).toNat = _)) rfl rfl hd (h H locs ls hl hr hs h1 h2)
  · exact absurd h.1 id
theorem s_getstatic (hx : p.tables.exec = Jvm.exec) (hb : c.code = mb j) {idx g : Nat} (hG : ∀ w ∈ GW, w.before args s = true) (ho : o < 32) (hown : s.vm.findClass (mR o) = some mid.cls) (hOld : mOld E O (mAr E) s s.heap) (hlk : mlk (mTL o) idx = some g) (hd : decode (mb j) pc = .ok (.getstatic idx, 3)) (h : mint (mW p l e s mid args below meth c Q E D tc j) C j K (mX O j 3 (.getstatic g) pc L S cs ss G d)) : mW p l e s mid args below meth c Q E D tc j (pc, L, S, cs, ss, G, d) := by
  obtain ⟨hw, hg⟩ := mTL_use ho hlk
  obtain ⟨-, -, -, -, hst, -, -, -, -, -, -, ⟨-, hcs, -⟩, -, hdg, -⟩ := hOld
  intro H locs ls hl hr hs h1 h2
  have kk := h H locs ls hl hr hs h1 h2
  rcases hg with hg | rfl | rfl | rfl
  · have e : g = 0 ∨ g = 1 := by omega
    rcases e with rfl | rfl
    · exact va_gets hx hb (hst 0 hg).1 hs hown (hG _ hw) (fun _ z => z) hd kk
    · exact va_gets hx hb (hst 1 hg).1 hs hown (hG _ hw) (fun _ z => z) hd kk
  · exact va_gets hx hb (hdg 3 (Or.inl rfl)).1 hs hown (hG _ hw) (fun _ z => z) hd kk
  · exact va_gets hx hb (hdg 4 (Or.inr rfl)).1 hs hown (hG _ hw) (fun _ z => z) hd kk
  · exact va_gets hx hb hcs hs hown (hG _ hw) (fun _ z => z) hd kk
theorem s_getstaticN (hx : p.tables.exec = Jvm.exec) (hb : c.code = mb j) {idx g : Nat} (hG : ∀ w ∈ GW, w.before args s = true) (ho : o < 32) (hown : s.vm.findClass (mR o) = some mid.cls) (hOld : mOld E O (mAr E) s s.heap) (hlk : mlk (mTN o) idx = some g) (hd : decode (mb j) pc = .ok (.getstatic idx, 3)) (h : mint (mW p l e s mid args below meth c Q E D tc j) C j K (mX O j 3 (.getstatic g) pc L S cs ss G d)) : mW p l e s mid args below meth c Q E D tc j (pc, L, S, cs, ss, G, d) := by
  obtain ⟨p9, hp⟩ := mlk_in hlk
  have hg := mTN_lt ho hp
  obtain ⟨-, -, hn, -, hst, -⟩ := hOld
  intro H locs ls hl hr hs h1 h2
  have eg : (bif Nat.beq g 5 then ((0, 1) : mV) else (4, (g : Int))) = (4, (g : Int)) := by
    have e : g = 0 ∨ g = 1 := by omega
    rcases e with rfl | rfl <;> rfl
  have h : mW p l e s mid args below meth c Q E D tc j (pc + 3, L, (bif Nat.beq g 5 then ((0, 1) : mV) else (4, (g : Int))) :: S, cs, ss, G, d) := h
  rw [eg] at h
  have hl9 : (Jvm.Cond.fieldLinkNest (mR o) idx mnest (mStn g) "[I" mnest).before args s = true := va_Nw.use (w := .fieldLinkNest (mR o) idx mnest (mStn g) "[I" mnest) (by rfl) (hn o ho _ hp)
  exact va_getsN (C := mnest) (n := mStn g) (d := "[I") (own := mR o) (ref := mnest) (host := mnest) (v := .ref (E.2.1 g)) hx hb (hst g hg).1 hs hown hl9 (fun _ z => z) hd (h H locs ls hl hr hs h1 h2)
theorem s_ldcI (hx : p.tables.exec = Jvm.exec) (hb : c.code = mb j) {idx : Nat} {g : Int} (hG : ∀ w ∈ GW, w.before args s = true) (ho : o < 32) (hown : s.vm.findClass (mR o) = some mid.cls) (hlk : mlkI (mKL o) idx = some g) (hd : decode (mb j) pc = .ok (.ldc idx, 2)) (h : mint (mW p l e s mid args below meth c Q E D tc j) C j K (mX O j 2 (.sipush g) pc L S cs ss G d)) : mW p l e s mid args below meth c Q E D tc j (pc, L, S, cs, ss, G, d) := by
  exact mW_go hx hb h (fun H locs ls hl k => lv_ldc hx hb hown (hG _ (mKL_use ho hlk)) hd k)
theorem s_ldcwI (hx : p.tables.exec = Jvm.exec) (hb : c.code = mb j) {idx : Nat} {g : Int} (hG : ∀ w ∈ GW, w.before args s = true) (ho : o < 32) (hown : s.vm.findClass (mR o) = some mid.cls) (hlk : mlkI (mKL o) idx = some g) (hd : decode (mb j) pc = .ok (.ldc_w idx, 3)) (h : mint (mW p l e s mid args below meth c Q E D tc j) C j K (mX O j 3 (.sipush g) pc L S cs ss G d)) : mW p l e s mid args below meth c Q E D tc j (pc, L, S, cs, ss, G, d) := by
  exact mW_go hx hb h (fun H locs ls hl k => lv_ldcw hx hb hown (hG _ (mKL_use ho hlk)) hd k)
theorem s_ldc2 (hx : p.tables.exec = Jvm.exec) (hb : c.code = mb j) {idx : Nat} {g : Int} (hG : ∀ w ∈ GW, w.before args s = true) (ho : o < 32) (hown : s.vm.findClass (mR o) = some mid.cls) (hlk : mlkI (mQL o) idx = some g) (hd : decode (mb j) pc = .ok (.ldc2_w idx, 3)) (h : mint (mW p l e s mid args below meth c Q E D tc j) C j K (mX O j 3 (.jsr_w g) pc L S cs ss G d)) : mW p l e s mid args below meth c Q E D tc j (pc, L, S, cs, ss, G, d) := by
  exact mW_go hx hb h (fun H locs ls hl k => lv_ldc2 hx hb hown (hG _ (mQL_use ho hlk)) hd k)
theorem s_ldcS (hx : p.tables.exec = Jvm.exec) (hb : c.code = mb j) {idx g : Nat} (hG : ∀ w ∈ GW, w.before args s = true) (ho : o < 32) (hown : s.vm.findClass (mR o) = some mid.cls) (hOld : mOld E O (mAr E) s s.heap) (hlk : mlk (mSL o) idx = some g) (hd : decode (mb j) pc = .ok (.ldc idx, 2)) (h : mint (mW p l e s mid args below meth c Q E D tc j) C j K (mX O j 2 (.ldc g) pc L S cs ss G d)) : mW p l e s mid args below meth c Q E D tc j (pc, L, S, cs, ss, G, d) := by
  obtain ⟨p9, hp⟩ := mlk_in hlk
  obtain ⟨-, -, -, -, -, -, -, -, -, hsl, -⟩ := hOld
  exact mW_go hx hb h (fun H locs ls hl k => m_ldcS hx hb hown (hsl o ho _ hp) hd k)
theorem s_new (hx : p.tables.exec = Jvm.exec) (hb : c.code = mb j) {idx g : Nat} (hG : ∀ w ∈ GW, w.before args s = true) (ho : o < 32) (hown : s.vm.findClass (mR o) = some mid.cls) (hK : va_K D vwCl (mtys tc) s) (hlk : mlk (mCL o) idx = some g) (hd : decode (mb j) pc = .ok (.new idx, 3)) (h : mint (mW p l e s mid args below meth c Q E D tc j) C j K (mX O j 3 (.new g) pc L S cs ss G d)) : mW p l e s mid args below meth c Q E D tc j (pc, L, S, cs, ss, G, d) := by
  obtain ⟨hw, hg⟩ := mCL_use ho hlk
  obtain ⟨T, ty, hT⟩ := mcls hg
  obtain ⟨hi1, hi2⟩ := mnew_use hg
  simp only [mX] at h
  obtain ⟨⟨q0, q1, q2⟩, h⟩ := h
  intro H locs ls hl hr hs h1 h2
  have hKn := hK.1 (mvw g) _ hT.1
  have hsz := (hr.2.1 q0).2
  have e9 : mst E ((3, G.2.2) :: S) = .ref H.size :: mst E S := by rw [mval_own q0, hsz]
  refine W.newcK hx hb hown (hG _ hw) (hG _ hi1) (hG _ hi2) rfl hd q1 q2 hKn.2.1 rfl fun H' kC hkC e1 z1 o1 => ?_
  have kk := h H' locs ls hl ?_ (mS_new hs z1 o1) q1 q2
  · rw [e9] at kk
    exact kk
  · refine mRep_new hr q0 (by omega) z1 o1 (fun b hb9 => by funext z; simp [hb9]) (fun _ => ⟨by rw [Int.toNat_natCast]; exact hg, ?_⟩) (fun h9 => by have := mcr_hi hg; omega)
    have hb9 := u_born ty hG (mcls_ws hg hT) hKn hkC e1 hT.2.2.1
    rw [hsz] at hb9
    refine hb9.to (fun i hi => ?_)
    rw [hT.2.2.2.2.1 E.1 i hi]
    simp only [mfun, if_true, Int.toNat_natCast]
theorem s_anewarray (hx : p.tables.exec = Jvm.exec) (hb : c.code = mb j) {idx g : Nat} (hG : ∀ w ∈ GW, w.before args s = true) (ho : o < 32) (hown : s.vm.findClass (mR o) = some mid.cls) (hK : va_K D vwCl (mtys tc) s) (hOld : mOld E O (mAr E) s s.heap) (hlk : mlk (mCL o) idx = some g) (hg9 : g = 1 ∨ g = 6 ∨ g = 13) (hd : decode (mb j) pc = .ok (.anewarray idx, 3)) (h : mint (mW p l e s mid args below meth c Q E D tc j) C j K (mX O j 3 (.anewarray g) pc L S cs ss G d)) : mW p l e s mid args below meth c Q E D tc j (pc, L, S, cs, ss, G, d) := by
  obtain ⟨hw, hg⟩ := mCL_use ho hlk
  obtain ⟨-, -, -, hAO, -⟩ := hOld
  simp only [mX] at h
  split at h
  · rename_i n S'
    obtain ⟨⟨q0, q1, q2, q3, q4⟩, h⟩ := h
    intro H locs ls hl hr hs h1 h2
    have hsz := (hr.2.1 q2).2
    have e9 : mst E ((3, G.2.2) :: S') = .ref H.size :: mst E S' := by rw [mval_own q2, hsz]
    have hover : va_AO (mCn g) s := by
      rcases hg9 with rfl | rfl | rfl
      · exact hAO.1
      · exact hAO.2.1
      · exact hAO.2.2
    have hmk : (200 + (g : Int)) ∈ mkinds ∧ metyF (200 + (g : Int)) = .object (mCn g) := by
      rcases hg9 with rfl | rfl | rfl
      · exact ⟨by decide, rfl⟩
      · exact ⟨by decide, rfl⟩
      · exact ⟨by decide, rfl⟩
    have hn : (Int32.ofInt n).toNatClampNeg = n.toNat := m_nat q0 (by omega)
    refine W.anew hx hb hown (hG _ hw) (va_AO.use hover) rfl hd rfl (m_nneg q0 (by omega)) (by rw [hn]; omega) q3 (by rw [hn]; exact q4) fun cA kA comp f1 f2 f3 f4 => ?_
    rw [hn]
    have hcA : cA = tc (200 + (g : Int)) := by
      have h9 := (m_tys hK hmk.1).2
      rw [hmk.2] at h9
      obtain ⟨_, _, _, _, _, h9⟩ := h9
      exact Option.some.inj (f1.symm.trans h9)
    generalize hH1 : H.push ({ cls := cA, slots := Array.replicate n.toNat .null, vm := .none } : Cell) = H1
    have z1 : H1.size = H.size + 1 := by rw [← hH1, Array.size_push]
    have e1 : H1[H.size]? = some (arrV cA n.toNat (fun _ => .null)) := by rw [← hH1, Array.getElem?_push_size, ← arrV_new]
    have o1 : ∀ q : Nat, q < H.size → H1[q]? = H[q]? := fun q hq => by rw [← hH1, Array.getElem?_push, if_neg (Nat.ne_of_lt hq)]
    have kk := h H1 locs ls hl ?_ (mS_new hs z1 o1) q3 q4
    · rw [e9] at kk
      exact kk
    · refine mRep_new hr q2 (by omega) z1 o1 (fun b hb9 => mfill_ne hb9) (fun h9 => by omega) (fun _ => ⟨hmk.1, q0, q1, ?_⟩)
      rw [← hsz, e1, hcA]
      congr 2
      funext z
      simp only [mrow, mfill, if_true]
      rw [show mety (200 + (g : Int)) = 4 by rcases hg9 with rfl | rfl | rfl <;> rfl]
      rfl
  · exact absurd h.1 id
theorem s_newarray (hx : p.tables.exec = Jvm.exec) (hb : c.code = mb j) {t : ArrayType} (hG : ∀ w ∈ GW, w.before args s = true) (ho : o < 32) (hown : s.vm.findClass (mR o) = some mid.cls) (hK : va_K D vwCl (mtys tc) s) (hd : decode (mb j) pc = .ok (.newarray t, 2)) (h : mint (mW p l e s mid args below meth c Q E D tc j) C j K (mX O j 2 (.newarray t) pc L S cs ss G d)) : mW p l e s mid args below meth c Q E D tc j (pc, L, S, cs, ss, G, d) := by
  simp only [mX] at h
  split at h
  · rename_i n S'
    obtain ⟨⟨q0, q1, q2, q3, q4, q5⟩, h⟩ := h
    intro H locs ls hl hr hs h1 h2
    have hsz := (hr.2.1 q2).2
    have e9 : mst E ((3, G.2.2) :: S') = .ref H.size :: mst E S' := by rw [mval_own q2, hsz]
    have hn : (Int32.ofInt n).toNatClampNeg = n.toNat := m_nat q0 (by omega)
    have hmk : matyp t ∈ mkinds ∧ metyF (matyp t) = newarray.typeOf t ∧ Jvm.Cond.arrayClass (newarray.typeOf t) ∈ GW ∧ componentBytes (newarray.typeOf t) ≤ 8 ∧ (∀ B, defaultValue (newarray.typeOf t) = mslot B (mety (matyp t)) 0) ∧ 100 ≤ matyp t := by
      have ma := marr_use
      cases t <;> first | exact absurd rfl q5 | exact ⟨by decide, rfl, ma.1, by decide, fun _ => rfl, by decide⟩ | exact ⟨by decide, rfl, ma.2.1, by decide, fun _ => rfl, by decide⟩ | exact ⟨by decide, rfl, ma.2.2.1, by decide, fun _ => rfl, by decide⟩ | exact ⟨by decide, rfl, ma.2.2.2, by decide, fun _ => rfl, by decide⟩
    obtain ⟨m1, m2, m3, m4, m5, m6⟩ := hmk
    have hbytes : n.toNat * componentBytes (newarray.typeOf t) ≤ 536870912 := Nat.le_trans (Nat.mul_le_mul (show n.toNat ≤ 100000 by omega) m4) (by decide)
    refine va_newaK hx hb (hG _ m3) rfl hd rfl (m_nneg q0 (by omega)) hn hbytes q3 q4 rfl fun H1 cA e1 z1 o1 hAr hNm => ?_
    have hcA : cA = tc (matyp t) := by
      have h9 := (m_tys hK m1).2
      rw [m2] at h9
      have h9 : s.vm.findClass ("[" ++ (newarray.typeOf t).toString) = some (tc (matyp t)) := by
        cases t <;> exact h9
      exact Option.some.inj (hNm.symm.trans h9)
    have kk := h H1 locs ls hl ?_ (mS_new hs z1 o1) q3 q4
    · rw [e9] at kk
      exact kk
    · refine mRep_new hr q2 (by omega) z1 o1 (fun b hb9 => mfill_ne hb9) (fun h9 => by omega) (fun _ => ⟨m1, q0, q1, ?_⟩)
      rw [← hsz, e1, hcA]
      congr 2
      funext z
      simp only [mrow, mfill, if_true]
      exact m5 E.1
  · exact absurd h.1 id
theorem s_aastore (hx : p.tables.exec = Jvm.exec) (hb : c.code = mb j) (hK : va_K D vwCl (mtys tc) s) (hd : decode (mb j) pc = .ok (.aastore, 1)) (h : mint (mW p l e s mid args below meth c Q E D tc j) C j K (mX O j 1 (.aastore) pc L S cs ss G d)) : mW p l e s mid args below meth c Q E D tc j (pc, L, S, cs, ss, G, d) := by
  simp only [mX] at h
  split at h
  · rename_i v i a S'
    obtain ⟨⟨q0, q3, q4, q1, q2⟩, h⟩ := h
    intro H locs ls hl hr hs h1 h2
    obtain ⟨ha, hm, hn0, hn, hc⟩ := mRep_row hr (by omega) (rfl : G.1 a = G.1 a)
    have hq : G.1 a = 201 ∨ G.1 a = 206 ∨ G.1 a = 213 := by
      simp only [mkinds, List.mem_cons, List.not_mem_nil, or_false] at hm
      omega
    obtain ⟨g, hg9, hga⟩ : ∃ g : Nat, (g = 1 ∨ g = 6 ∨ g = 13) ∧ G.1 a = 200 + (g : Int) := by
      rcases hq with q | q | q
      · exact ⟨1, Or.inl rfl, q⟩
      · exact ⟨6, Or.inr (Or.inl rfl), q⟩
      · exact ⟨13, Or.inr (Or.inr rfl), q⟩
    have hgv : G.1 v = (g : Int) := by omega
    obtain ⟨hv0, hO, -⟩ := hr.2.2 v (by omega)
    obtain ⟨-, cellV, g1, g2, g3, -⟩ := hO (by rcases hg9 with rfl | rfl | rfl <;> omega)
    have hg12 : mcr g = true := by rcases hg9 with rfl | rfl | rfl <;> decide
    obtain ⟨T, ty, hT⟩ := mcls hg12
    have hcls := (hK.1 (mvw g) _ hT.1).2
    have hmE : metyF (G.1 a) = .object (mCn g) := by
      rw [hga]
      rcases hg9 with rfl | rfl | rfl <;> rfl
    have hra := (m_tys hK hm).2
    rw [hmE] at hra
    obtain ⟨kA, comp, k1, k2, k3, -⟩ := hra
    have hcomp : comp = D.1 (mvw g) := Option.some.inj (k3.symm.trans hcls.1)
    subst hcomp
    obtain ⟨kC, hkC, -⟩ := hcls.2
    rw [hgv, Int.toNat_natCast] at g2
    have e9 : mst E ((3, v) :: (0, i) :: (3, a) :: S') = .ref (E.1 + mtau v) :: .int (Int32.ofInt i) :: .ref (E.1 + mtau a) :: mst E S' := by
      have h8 := mval_own (E := E) ha S'
      have h9 := mval_own (E := E) hv0.1 ((0, i) :: (3, a) :: S')
      rw [h9]
      simp only [mst, List.map_cons] at h8 ⊢
      rw [h8]
      rfl
    rw [e9]
    have hlt : i.toNat < (G.2.1 a).toNat := by omega
    refine W.aast hx hb hc (fun q h => by cases h) (fun h => by cases h) k1 k2 rfl hkC ⟨m_nneg q1 (by omega), by rw [m_nat q1 (by omega), arrV_size]; exact hlt⟩ g1 (fun q h => by rw [g3] at h; cases h) (by rw [g2]; exact hkC) (by rw [g2]; exact va_assign hcls) rfl rfl hd fun H' e1 e2 e3 => ?_
    refine h H' _ ls hl (mRep_upd hr (by omega) e2 e3 (fun b hb9 => mset_ne hb9) (fun h9 => by omega) (fun _ => ?_)) (hs.put e2 e3 (by show E.1 ≤ _; omega)) h1 h2
    refine ⟨hm, hn0, hn, ?_⟩
    rw [← mset_upd E (G.1 a) d a i v q1, ← arrV_store, e1, m_nat q1 (by omega)]
    congr 2
    rw [hga, show mety (200 + (g : Int)) = 4 by rcases hg9 with rfl | rfl | rfl <;> rfl]
    show Value.ref _ = if v < 0 then Value.null else Value.ref (E.1 + mtau v)
    rw [if_neg (by omega)]
  · exact absurd h.1 id
end SE
/-! ===== the machine's own helpers: Object's constructor, max, min, copies of rows ===== -/
theorem mlib_ok : (mG1 (mp_lib.getD 0 0) (.instanceMethod Lib.objectInit) && mG1 (mp_lib.getD 1 0) (.code Lib.objectInit ⟨#[0xb1]⟩ 1 none) && mG1 (mp_lib.getD 2 0) (.static Lib.Math.max.name) && mG1 (mp_lib.getD 3 0) (.code Lib.Math.max.name Lib.Math.max.code 2 (some .int))
  && mG1 (mp_lib.getD 4 0) (.static Lib.Math.min.name) && mG1 (mp_lib.getD 5 0) (.code Lib.Math.min.name Lib.Math.min.code 2 (some .int)) && mG1 (mp_lib.getD 6 0) (.initialized "java/lang/Math") && mG1 (mp_lib.getD 7 0) (.native arraycopyName) && mG1 (mp_lib.getD 8 0) (.static arraycopyName) && mG1 (mp_lib.getD 9 0) (.initialized "java/lang/System")) = true := by decide +kernel
theorem mlib : Jvm.Cond.instanceMethod Lib.objectInit ∈ GW ∧ Jvm.Cond.code Lib.objectInit ⟨#[0xb1]⟩ 1 none ∈ GW ∧ Jvm.Cond.static Lib.Math.max.name ∈ GW ∧ Jvm.Cond.code Lib.Math.max.name Lib.Math.max.code 2 (some .int) ∈ GW
  ∧ Jvm.Cond.static Lib.Math.min.name ∈ GW ∧ Jvm.Cond.code Lib.Math.min.name Lib.Math.min.code 2 (some .int) ∈ GW ∧ Jvm.Cond.initialized "java/lang/Math" ∈ GW ∧ Jvm.Cond.native arraycopyName ∈ GW ∧ Jvm.Cond.static arraycopyName ∈ GW ∧ Jvm.Cond.initialized "java/lang/System" ∈ GW := by
  have h := mlib_ok
  simp only [Bool.and_eq_true] at h
  obtain ⟨⟨⟨⟨⟨⟨⟨⟨⟨h0, h1⟩, h2⟩, h3⟩, h4⟩, h5⟩, h6⟩, h7⟩, h8⟩, h9⟩ := h
  exact ⟨mG1_in h0, mG1_in h1, mG1_in h2, mG1_in h3, mG1_in h4, mG1_in h5, mG1_in h6, mG1_in h7, mG1_in h8, mG1_in h9⟩
theorem mSP_use {o i g : Nat} (ho : o < 32) (h : mlk (mSP o) i = some g) : Jvm.Cond.methodLink (mR o) i (mSpn g) ∈ GW := by
  obtain ⟨p, hp⟩ := mlk_in h
  exact mG1_in (m_all16 mSP_ok ho hp)
theorem m_cat1 (E : mE) (v : mV) : (mval E v).category = (bif mc2 v then 2 else 1) := by
  obtain ⟨t, x⟩ := v
  match t with
  | 0 => rfl
  | 1 => rfl
  | 2 => rfl
  | 3 => simp only [mval]; split <;> rfl
  | 4 => rfl
  | 5 => rfl
  | n + 6 =>
    have e : mc2 (n + 6, x) = false := rfl
    rw [e]
    rfl
theorem m_cats (E : mE) : ∀ S : List mV, ((mst E S).map fun v => v.category).sum = mcats S
  | [] => rfl
  | v :: S => by
    have := m_cats E S
    simp only [mst, List.map_cons, List.sum_cons, mcats] at this ⊢
    rw [this, m_cat1]
theorem m_maxI {x y : Int} (hx : mInR x) (hy : mInR y) : (if Int32.ofInt x < Int32.ofInt y then Int32.ofInt y else Int32.ofInt x) = Int32.ofInt (mmax x y) := by
  unfold mmax
  by_cases h : x < y
  · rw [if_pos h, if_pos ((m_lt hx hy).mpr h)]
  · rw [if_neg h, if_neg (fun w => h ((m_lt hx hy).mp w))]
theorem m_minI {x y : Int} (hx : mInR x) (hy : mInR y) : (if Int32.ofInt y < Int32.ofInt x then Int32.ofInt y else Int32.ofInt x) = Int32.ofInt (mmin x y) := by
  unfold mmin
  by_cases h : y < x
  · rw [if_pos h, if_pos ((m_lt hy hx).mpr h)]
  · rw [if_neg h, if_neg (fun w => h ((m_lt hy hx).mp w))]
theorem m_cpyf (B t : Nat) (d : mD) {x sp y dp n : Int} (h1 : 0 ≤ sp) (h2 : 0 ≤ dp) (h3 : 0 ≤ n) : va_cpy (fun z : Nat => mslot B t (d x (z : Int))) (fun z : Nat => mslot B t (d y (z : Int))) sp.toNat dp.toNat n.toNat = fun z : Nat => mslot B t (mcopy d x sp y dp n y (z : Int)) := by
  funext z
  simp only [va_cpy, mcopy]
  by_cases h : dp.toNat ≤ z ∧ z < dp.toNat + n.toNat
  · rw [if_pos h, if_pos ⟨trivial, by omega, by omega⟩]
    congr 2
    omega
  · rw [if_neg h, if_neg (by omega)]
theorem mcopy_ne {d : mD} {x sp y dp n b : Int} (h : b ≠ y) : mcopy d x sp y dp n b = d b := by
  funext j
  simp [mcopy, h]
section SF
variable {p : Program} {l : Launch} {e : Env} {s : State} {mid : MethodId} {args : Array Value} {below : List Frame} {meth : Method} {c : Code} {Q : State → Prop}
variable {E : mE} {D : va_G} {tc : Int → ClassId} {O : mO} {j : Nat}
variable {C : Nat → List mV → mG → mD → mK → Prop} {K : mK} {pc len : Nat} {L S : List mV} {cs ss : Nat} {G : mG} {d : mD} {H : Heap} {o : Nat}

theorem m_copyi {R : Room} {cells slots : Nat} {locs : List Loc} {cc : ByteArray} {ls : Array Slot} {rest : List Value} (hexec : p.tables.exec = Jvm.exec) (hb : c.code = cc) (hml : c.maxLocals = ls.size) {own : String} {index : Nat} (hown : s.vm.findClass own = some mid.cls) (hlink : (Jvm.Cond.methodLink own index arraycopyName).before args s = true) (hnat : (Jvm.Cond.native arraycopyName).before args s = true) (hstat : (Jvm.Cond.static arraycopyName).before args s = true) (hini : (Jvm.Cond.initialized "java/lang/System").before args s = true)
    {c0 : ClassId} {a0 a n0 n1 : Nat} {f g : Nat → Int} (hA : ArrOfT s c0 .int) (ha0 : H[a0]? = some (arrV c0 n0 (fun z => (fun x : Int => Value.int (Int32.ofInt x)) (f z)))) (ha1 : H[a]? = some (arrV c0 n1 (fun z => (fun x : Int => Value.int (Int32.ofInt x)) (g z))))
    {sp dp n : Int32} (h1 : ¬ sp < 0) (h2 : ¬ dp < 0) (h3 : ¬ n < 0) (h4 : sp.toNatClampNeg + n.toNatClampNeg ≤ n0) (h5 : dp.toNatClampNeg + n.toNatClampNeg ≤ n1)
    (hframes : 1 ≤ R.frames) (hlocals : (rest.map fun v => v.category).sum + 18 ≤ R.locals) (hdg : decode cc pc = .ok (.invokestatic index, 3)) (hAr : mAr E a) (hs : va_S (mAr E) s.heap H locs)
    (kk : ∀ (H1 : Heap) (locs1 : List Loc), H1[a]? = some (arrV c0 n1 (va_cpy (fun z => (fun x : Int => Value.int (Int32.ofInt x)) (f z)) (fun z => (fun x : Int => Value.int (Int32.ofInt x)) (g z)) sp.toNatClampNeg dp.toNatClampNeg n.toNatClampNeg)) → H1.size = H.size → (∀ q : Nat, q ≠ a → H1[q]? = H[q]?) → va_S (mAr E) s.heap H1 locs1 → W p l e R s mid args below meth c H1 locs1 cells slots Q (F0 mid (pc + 3) ls rest)) : W p l e R s mid args below meth c H locs cells slots Q (F0 mid pc ls (.int n :: .int dp :: .ref a :: .int sp :: .ref a0 :: rest)) := by
  have nn : ∀ z : Int32, ¬ z < 0 → z.toInt = (z.toNatClampNeg : Int) := by
    intro z hz
    have hz0 : (0 : Int) ≤ z.toInt := by
      have := Int32.not_lt.mp hz
      simpa using Int32.le_iff_toInt_le.mp this
    show z.toInt = ((z.toInt.toNat : Nat) : Int)
    omega
  intro T hT X
  obtain ⟨-, k0, hk0, cm0, hkk0⟩ := hA n0 (fun z => (fun x : Int => Value.int (Int32.ofInt x)) (f z))
  obtain ⟨-, k1, hk1, cm1, hkk1⟩ := hA n1 (fun z => (fun x : Int => Value.int (Int32.ofInt x)) (g z))
  obtain ⟨vm', X', step⟩ := X.arraycopy hexec hown hlink hnat hstat hini (src := a0) (dst := a) (cs := arrV c0 n0 (fun z => (fun x : Int => Value.int (Int32.ofInt x)) (f z))) (cd := arrV c0 n1 (fun z => (fun x : Int => Value.int (Int32.ofInt x)) (g z))) (srcPos := sp) (destPos := dp) (n := n) (by rw [hT]; exact ha0) (by rw [hT]; exact ha1)
    (fun _ h => by cases h) (fun _ h => by cases h) (fun h => by cases h) (fun h => by cases h) hk0 hk1 hkk0 hkk1 (by decide) h1 h2 h3
    (by rw [nn sp h1, nn n h3, arrV_size]; omega)
    (by rw [nn dp h2, nn n h3, arrV_size]; omega)
    (fun vm₁ _ i hi => by
      have e : (arrV c0 n0 (fun z => (fun x : Int => Value.int (Int32.ofInt x)) (f z))).slots.getD (sp.toNatClampNeg + i) .null = (fun x : Int => Value.int (Int32.ofInt x)) (f (sp.toNatClampNeg + i)) := by
        rw [Array.getD_eq_getD_getElem?, arrV_read _ _ (by omega)]
        rfl
      refine ⟨?_, ?_⟩
      · rw [e]
        rfl
      · rw [e]
        exact trivial)
    (g := F0 mid pc ls (.int n :: .int dp :: .ref a :: .int sp :: .ref a0 :: rest)) rfl (by rw [hml]) (rest := rest) rfl (by rw [hb]; exact hdg) hframes (by show 2 * 0 + _ + _ ≤ _; rw [show nativeFrameWords "java/lang/System" "arraycopy" 5 = 7 by decide]; omega)
  have e1 : copied (arrV c0 n0 (fun z => (fun x : Int => Value.int (Int32.ofInt x)) (f z))) (arrV c0 n1 (fun z => (fun x : Int => Value.int (Int32.ofInt x)) (g z))) sp dp n = arrV c0 n1 (fun z => (fun x : Int => Value.int (Int32.ofInt x)) (va_cpy f g sp.toNatClampNeg dp.toNatClampNeg n.toNatClampNeg z)) := va_copied (fun x : Int => Value.int (Int32.ofInt x)) c0 c0 f g h4
  have e2 : (fun z => (fun x : Int => Value.int (Int32.ofInt x)) (va_cpy f g sp.toNatClampNeg dp.toNatClampNeg n.toNatClampNeg z)) = va_cpy (fun z => (fun x : Int => Value.int (Int32.ofInt x)) (f z)) (fun z => (fun x : Int => Value.int (Int32.ofInt x)) (g z)) sp.toNatClampNeg dp.toNatClampNeg n.toNatClampNeg := by
    funext z
    simp only [va_cpy]
    split <;> rfl
  rw [e1, e2] at X' step
  have hl : a < H.size := (Array.getElem?_eq_some_iff.mp ha1).1
  obtain ⟨new, hnew⟩ : ∃ new, new = arrV c0 n1 (va_cpy (fun z => (fun x : Int => Value.int (Int32.ofInt x)) (f z)) (fun z => (fun x : Int => Value.int (Int32.ofInt x)) (g z)) sp.toNatClampNeg dp.toNatClampNeg n.toNatClampNeg) := ⟨_, rfl⟩
  rw [← hnew] at X' step kk
  have hheap : ((T.setVm vm').setCell a new).heap = H.setIfInBounds a new := by rw [← hT]; rfl
  have oq : ∀ q : Nat, q ≠ a → (H.setIfInBounds a new)[q]? = H[q]? := fun q hq => by simp [Array.getElem?_setIfInBounds, Ne.symm hq]
  obtain ⟨t, a1, b1⟩ := kk _ _ (show (H.setIfInBounds a _)[a]? = some _ by simp [Array.getElem?_setIfInBounds, hl]) (by simp) oq ⟨by simp; exact hs.1, fun q g1 g2 => by
      rw [oq q (fun e => g2 (by rw [e]; exact hAr))]
      exact hs.2.1 q g1 g2, fun q hq => by
      rcases List.mem_append.mp hq with h | h
      · exact hs.2.2 q h
      · obtain ⟨z, -, hz⟩ := List.mem_map.mp h
        rw [← hz]
        exact hAr⟩ _ hheap X'
  exact ⟨t, step t a1, b1⟩
theorem m_copyb {R : Room} {cells slots : Nat} {locs : List Loc} {cc : ByteArray} {ls : Array Slot} {rest : List Value} (hexec : p.tables.exec = Jvm.exec) (hb : c.code = cc) (hml : c.maxLocals = ls.size) {own : String} {index : Nat} (hown : s.vm.findClass own = some mid.cls) (hlink : (Jvm.Cond.methodLink own index arraycopyName).before args s = true) (hnat : (Jvm.Cond.native arraycopyName).before args s = true) (hstat : (Jvm.Cond.static arraycopyName).before args s = true) (hini : (Jvm.Cond.initialized "java/lang/System").before args s = true)
    {c0 : ClassId} {a0 a n0 n1 : Nat} {f g : Nat → Int} (hA : ArrOfT s c0 .byte) (ha0 : H[a0]? = some (arrV c0 n0 (fun z => (fun x : Int => Value.int (Int32.ofInt x)) (f z)))) (ha1 : H[a]? = some (arrV c0 n1 (fun z => (fun x : Int => Value.int (Int32.ofInt x)) (g z))))
    {sp dp n : Int32} (h1 : ¬ sp < 0) (h2 : ¬ dp < 0) (h3 : ¬ n < 0) (h4 : sp.toNatClampNeg + n.toNatClampNeg ≤ n0) (h5 : dp.toNatClampNeg + n.toNatClampNeg ≤ n1)
    (hfit : ∀ i : Nat, i < n.toNatClampNeg → fits .byte (.int (Int32.ofInt (f (sp.toNatClampNeg + i)))) = true)
    (hframes : 1 ≤ R.frames) (hlocals : (rest.map fun v => v.category).sum + 18 ≤ R.locals) (hdg : decode cc pc = .ok (.invokestatic index, 3)) (hAr : mAr E a) (hs : va_S (mAr E) s.heap H locs)
    (kk : ∀ (H1 : Heap) (locs1 : List Loc), H1[a]? = some (arrV c0 n1 (va_cpy (fun z => (fun x : Int => Value.int (Int32.ofInt x)) (f z)) (fun z => (fun x : Int => Value.int (Int32.ofInt x)) (g z)) sp.toNatClampNeg dp.toNatClampNeg n.toNatClampNeg)) → H1.size = H.size → (∀ q : Nat, q ≠ a → H1[q]? = H[q]?) → va_S (mAr E) s.heap H1 locs1 → W p l e R s mid args below meth c H1 locs1 cells slots Q (F0 mid (pc + 3) ls rest)) : W p l e R s mid args below meth c H locs cells slots Q (F0 mid pc ls (.int n :: .int dp :: .ref a :: .int sp :: .ref a0 :: rest)) := by
  have nn : ∀ z : Int32, ¬ z < 0 → z.toInt = (z.toNatClampNeg : Int) := by
    intro z hz
    have hz0 : (0 : Int) ≤ z.toInt := by
      have := Int32.not_lt.mp hz
      simpa using Int32.le_iff_toInt_le.mp this
    show z.toInt = ((z.toInt.toNat : Nat) : Int)
    omega
  intro T hT X
  obtain ⟨-, k0, hk0, cm0, hkk0⟩ := hA n0 (fun z => (fun x : Int => Value.int (Int32.ofInt x)) (f z))
  obtain ⟨-, k1, hk1, cm1, hkk1⟩ := hA n1 (fun z => (fun x : Int => Value.int (Int32.ofInt x)) (g z))
  obtain ⟨vm', X', step⟩ := X.arraycopy hexec hown hlink hnat hstat hini (src := a0) (dst := a) (cs := arrV c0 n0 (fun z => (fun x : Int => Value.int (Int32.ofInt x)) (f z))) (cd := arrV c0 n1 (fun z => (fun x : Int => Value.int (Int32.ofInt x)) (g z))) (srcPos := sp) (destPos := dp) (n := n) (by rw [hT]; exact ha0) (by rw [hT]; exact ha1)
    (fun _ h => by cases h) (fun _ h => by cases h) (fun h => by cases h) (fun h => by cases h) hk0 hk1 hkk0 hkk1 (by decide) h1 h2 h3
    (by rw [nn sp h1, nn n h3, arrV_size]; omega)
    (by rw [nn dp h2, nn n h3, arrV_size]; omega)
    (fun vm₁ _ i hi => by
      have e : (arrV c0 n0 (fun z => (fun x : Int => Value.int (Int32.ofInt x)) (f z))).slots.getD (sp.toNatClampNeg + i) .null = (fun x : Int => Value.int (Int32.ofInt x)) (f (sp.toNatClampNeg + i)) := by
        rw [Array.getD_eq_getD_getElem?, arrV_read _ _ (by omega)]
        rfl
      refine ⟨?_, ?_⟩
      · rw [e]
        exact hfit i hi
      · rw [e]
        exact trivial)
    (g := F0 mid pc ls (.int n :: .int dp :: .ref a :: .int sp :: .ref a0 :: rest)) rfl (by rw [hml]) (rest := rest) rfl (by rw [hb]; exact hdg) hframes (by show 2 * 0 + _ + _ ≤ _; rw [show nativeFrameWords "java/lang/System" "arraycopy" 5 = 7 by decide]; omega)
  have e1 : copied (arrV c0 n0 (fun z => (fun x : Int => Value.int (Int32.ofInt x)) (f z))) (arrV c0 n1 (fun z => (fun x : Int => Value.int (Int32.ofInt x)) (g z))) sp dp n = arrV c0 n1 (fun z => (fun x : Int => Value.int (Int32.ofInt x)) (va_cpy f g sp.toNatClampNeg dp.toNatClampNeg n.toNatClampNeg z)) := va_copied (fun x : Int => Value.int (Int32.ofInt x)) c0 c0 f g h4
  have e2 : (fun z => (fun x : Int => Value.int (Int32.ofInt x)) (va_cpy f g sp.toNatClampNeg dp.toNatClampNeg n.toNatClampNeg z)) = va_cpy (fun z => (fun x : Int => Value.int (Int32.ofInt x)) (f z)) (fun z => (fun x : Int => Value.int (Int32.ofInt x)) (g z)) sp.toNatClampNeg dp.toNatClampNeg n.toNatClampNeg := by
    funext z
    simp only [va_cpy]
    split <;> rfl
  rw [e1, e2] at X' step
  have hl : a < H.size := (Array.getElem?_eq_some_iff.mp ha1).1
  obtain ⟨new, hnew⟩ : ∃ new, new = arrV c0 n1 (va_cpy (fun z => (fun x : Int => Value.int (Int32.ofInt x)) (f z)) (fun z => (fun x : Int => Value.int (Int32.ofInt x)) (g z)) sp.toNatClampNeg dp.toNatClampNeg n.toNatClampNeg) := ⟨_, rfl⟩
  rw [← hnew] at X' step kk
  have hheap : ((T.setVm vm').setCell a new).heap = H.setIfInBounds a new := by rw [← hT]; rfl
  have oq : ∀ q : Nat, q ≠ a → (H.setIfInBounds a new)[q]? = H[q]? := fun q hq => by simp [Array.getElem?_setIfInBounds, Ne.symm hq]
  obtain ⟨t, a1, b1⟩ := kk _ _ (show (H.setIfInBounds a _)[a]? = some _ by simp [Array.getElem?_setIfInBounds, hl]) (by simp) oq ⟨by simp; exact hs.1, fun q g1 g2 => by
      rw [oq q (fun e => g2 (by rw [e]; exact hAr))]
      exact hs.2.1 q g1 g2, fun q hq => by
      rcases List.mem_append.mp hq with h | h
      · exact hs.2.2 q h
      · obtain ⟨z, -, hz⟩ := List.mem_map.mp h
        rw [← hz]
        exact hAr⟩ _ hheap X'
  exact ⟨t, step t a1, b1⟩
theorem m_copyz {R : Room} {cells slots : Nat} {locs : List Loc} {cc : ByteArray} {ls : Array Slot} {rest : List Value} (hexec : p.tables.exec = Jvm.exec) (hb : c.code = cc) (hml : c.maxLocals = ls.size) {own : String} {index : Nat} (hown : s.vm.findClass own = some mid.cls) (hlink : (Jvm.Cond.methodLink own index arraycopyName).before args s = true) (hnat : (Jvm.Cond.native arraycopyName).before args s = true) (hstat : (Jvm.Cond.static arraycopyName).before args s = true) (hini : (Jvm.Cond.initialized "java/lang/System").before args s = true)
    {c0 : ClassId} {a0 a n0 n1 : Nat} {f g : Nat → Int} (hA : ArrOfT s c0 .boolean) (ha0 : H[a0]? = some (arrV c0 n0 (fun z => (fun x : Int => Value.int (Int32.ofInt x)) (f z)))) (ha1 : H[a]? = some (arrV c0 n1 (fun z => (fun x : Int => Value.int (Int32.ofInt x)) (g z))))
    {sp dp n : Int32} (h1 : ¬ sp < 0) (h2 : ¬ dp < 0) (h3 : ¬ n < 0) (h4 : sp.toNatClampNeg + n.toNatClampNeg ≤ n0) (h5 : dp.toNatClampNeg + n.toNatClampNeg ≤ n1)
    (hfit : ∀ i : Nat, i < n.toNatClampNeg → fits .boolean (.int (Int32.ofInt (f (sp.toNatClampNeg + i)))) = true)
    (hframes : 1 ≤ R.frames) (hlocals : (rest.map fun v => v.category).sum + 18 ≤ R.locals) (hdg : decode cc pc = .ok (.invokestatic index, 3)) (hAr : mAr E a) (hs : va_S (mAr E) s.heap H locs)
    (kk : ∀ (H1 : Heap) (locs1 : List Loc), H1[a]? = some (arrV c0 n1 (va_cpy (fun z => (fun x : Int => Value.int (Int32.ofInt x)) (f z)) (fun z => (fun x : Int => Value.int (Int32.ofInt x)) (g z)) sp.toNatClampNeg dp.toNatClampNeg n.toNatClampNeg)) → H1.size = H.size → (∀ q : Nat, q ≠ a → H1[q]? = H[q]?) → va_S (mAr E) s.heap H1 locs1 → W p l e R s mid args below meth c H1 locs1 cells slots Q (F0 mid (pc + 3) ls rest)) : W p l e R s mid args below meth c H locs cells slots Q (F0 mid pc ls (.int n :: .int dp :: .ref a :: .int sp :: .ref a0 :: rest)) := by
  have nn : ∀ z : Int32, ¬ z < 0 → z.toInt = (z.toNatClampNeg : Int) := by
    intro z hz
    have hz0 : (0 : Int) ≤ z.toInt := by
      have := Int32.not_lt.mp hz
      simpa using Int32.le_iff_toInt_le.mp this
    show z.toInt = ((z.toInt.toNat : Nat) : Int)
    omega
  intro T hT X
  obtain ⟨-, k0, hk0, cm0, hkk0⟩ := hA n0 (fun z => (fun x : Int => Value.int (Int32.ofInt x)) (f z))
  obtain ⟨-, k1, hk1, cm1, hkk1⟩ := hA n1 (fun z => (fun x : Int => Value.int (Int32.ofInt x)) (g z))
  obtain ⟨vm', X', step⟩ := X.arraycopy hexec hown hlink hnat hstat hini (src := a0) (dst := a) (cs := arrV c0 n0 (fun z => (fun x : Int => Value.int (Int32.ofInt x)) (f z))) (cd := arrV c0 n1 (fun z => (fun x : Int => Value.int (Int32.ofInt x)) (g z))) (srcPos := sp) (destPos := dp) (n := n) (by rw [hT]; exact ha0) (by rw [hT]; exact ha1)
    (fun _ h => by cases h) (fun _ h => by cases h) (fun h => by cases h) (fun h => by cases h) hk0 hk1 hkk0 hkk1 (by decide) h1 h2 h3
    (by rw [nn sp h1, nn n h3, arrV_size]; omega)
    (by rw [nn dp h2, nn n h3, arrV_size]; omega)
    (fun vm₁ _ i hi => by
      have e : (arrV c0 n0 (fun z => (fun x : Int => Value.int (Int32.ofInt x)) (f z))).slots.getD (sp.toNatClampNeg + i) .null = (fun x : Int => Value.int (Int32.ofInt x)) (f (sp.toNatClampNeg + i)) := by
        rw [Array.getD_eq_getD_getElem?, arrV_read _ _ (by omega)]
        rfl
      refine ⟨?_, ?_⟩
      · rw [e]
        exact hfit i hi
      · rw [e]
        exact trivial)
    (g := F0 mid pc ls (.int n :: .int dp :: .ref a :: .int sp :: .ref a0 :: rest)) rfl (by rw [hml]) (rest := rest) rfl (by rw [hb]; exact hdg) hframes (by show 2 * 0 + _ + _ ≤ _; rw [show nativeFrameWords "java/lang/System" "arraycopy" 5 = 7 by decide]; omega)
  have e1 : copied (arrV c0 n0 (fun z => (fun x : Int => Value.int (Int32.ofInt x)) (f z))) (arrV c0 n1 (fun z => (fun x : Int => Value.int (Int32.ofInt x)) (g z))) sp dp n = arrV c0 n1 (fun z => (fun x : Int => Value.int (Int32.ofInt x)) (va_cpy f g sp.toNatClampNeg dp.toNatClampNeg n.toNatClampNeg z)) := va_copied (fun x : Int => Value.int (Int32.ofInt x)) c0 c0 f g h4
  have e2 : (fun z => (fun x : Int => Value.int (Int32.ofInt x)) (va_cpy f g sp.toNatClampNeg dp.toNatClampNeg n.toNatClampNeg z)) = va_cpy (fun z => (fun x : Int => Value.int (Int32.ofInt x)) (f z)) (fun z => (fun x : Int => Value.int (Int32.ofInt x)) (g z)) sp.toNatClampNeg dp.toNatClampNeg n.toNatClampNeg := by
    funext z
    simp only [va_cpy]
    split <;> rfl
  rw [e1, e2] at X' step
  have hl : a < H.size := (Array.getElem?_eq_some_iff.mp ha1).1
  obtain ⟨new, hnew⟩ : ∃ new, new = arrV c0 n1 (va_cpy (fun z => (fun x : Int => Value.int (Int32.ofInt x)) (f z)) (fun z => (fun x : Int => Value.int (Int32.ofInt x)) (g z)) sp.toNatClampNeg dp.toNatClampNeg n.toNatClampNeg) := ⟨_, rfl⟩
  rw [← hnew] at X' step kk
  have hheap : ((T.setVm vm').setCell a new).heap = H.setIfInBounds a new := by rw [← hT]; rfl
  have oq : ∀ q : Nat, q ≠ a → (H.setIfInBounds a new)[q]? = H[q]? := fun q hq => by simp [Array.getElem?_setIfInBounds, Ne.symm hq]
  obtain ⟨t, a1, b1⟩ := kk _ _ (show (H.setIfInBounds a _)[a]? = some _ by simp [Array.getElem?_setIfInBounds, hl]) (by simp) oq ⟨by simp; exact hs.1, fun q g1 g2 => by
      rw [oq q (fun e => g2 (by rw [e]; exact hAr))]
      exact hs.2.1 q g1 g2, fun q hq => by
      rcases List.mem_append.mp hq with h | h
      · exact hs.2.2 q h
      · obtain ⟨z, -, hz⟩ := List.mem_map.mp h
        rw [← hz]
        exact hAr⟩ _ hheap X'
  exact ⟨t, step t a1, b1⟩
theorem m_copyl {R : Room} {cells slots : Nat} {locs : List Loc} {cc : ByteArray} {ls : Array Slot} {rest : List Value} (hexec : p.tables.exec = Jvm.exec) (hb : c.code = cc) (hml : c.maxLocals = ls.size) {own : String} {index : Nat} (hown : s.vm.findClass own = some mid.cls) (hlink : (Jvm.Cond.methodLink own index arraycopyName).before args s = true) (hnat : (Jvm.Cond.native arraycopyName).before args s = true) (hstat : (Jvm.Cond.static arraycopyName).before args s = true) (hini : (Jvm.Cond.initialized "java/lang/System").before args s = true)
    {c0 : ClassId} {a0 a n0 n1 : Nat} {f g : Nat → Int} (hA : ArrOfT s c0 .long) (ha0 : H[a0]? = some (arrV c0 n0 (fun z => (fun x : Int => Value.long (Int64.ofInt x)) (f z)))) (ha1 : H[a]? = some (arrV c0 n1 (fun z => (fun x : Int => Value.long (Int64.ofInt x)) (g z))))
    {sp dp n : Int32} (h1 : ¬ sp < 0) (h2 : ¬ dp < 0) (h3 : ¬ n < 0) (h4 : sp.toNatClampNeg + n.toNatClampNeg ≤ n0) (h5 : dp.toNatClampNeg + n.toNatClampNeg ≤ n1)
    (hframes : 1 ≤ R.frames) (hlocals : (rest.map fun v => v.category).sum + 18 ≤ R.locals) (hdg : decode cc pc = .ok (.invokestatic index, 3)) (hAr : mAr E a) (hs : va_S (mAr E) s.heap H locs)
    (kk : ∀ (H1 : Heap) (locs1 : List Loc), H1[a]? = some (arrV c0 n1 (va_cpy (fun z => (fun x : Int => Value.long (Int64.ofInt x)) (f z)) (fun z => (fun x : Int => Value.long (Int64.ofInt x)) (g z)) sp.toNatClampNeg dp.toNatClampNeg n.toNatClampNeg)) → H1.size = H.size → (∀ q : Nat, q ≠ a → H1[q]? = H[q]?) → va_S (mAr E) s.heap H1 locs1 → W p l e R s mid args below meth c H1 locs1 cells slots Q (F0 mid (pc + 3) ls rest)) : W p l e R s mid args below meth c H locs cells slots Q (F0 mid pc ls (.int n :: .int dp :: .ref a :: .int sp :: .ref a0 :: rest)) := by
  have nn : ∀ z : Int32, ¬ z < 0 → z.toInt = (z.toNatClampNeg : Int) := by
    intro z hz
    have hz0 : (0 : Int) ≤ z.toInt := by
      have := Int32.not_lt.mp hz
      simpa using Int32.le_iff_toInt_le.mp this
    show z.toInt = ((z.toInt.toNat : Nat) : Int)
    omega
  intro T hT X
  obtain ⟨-, k0, hk0, cm0, hkk0⟩ := hA n0 (fun z => (fun x : Int => Value.long (Int64.ofInt x)) (f z))
  obtain ⟨-, k1, hk1, cm1, hkk1⟩ := hA n1 (fun z => (fun x : Int => Value.long (Int64.ofInt x)) (g z))
  obtain ⟨vm', X', step⟩ := X.arraycopy hexec hown hlink hnat hstat hini (src := a0) (dst := a) (cs := arrV c0 n0 (fun z => (fun x : Int => Value.long (Int64.ofInt x)) (f z))) (cd := arrV c0 n1 (fun z => (fun x : Int => Value.long (Int64.ofInt x)) (g z))) (srcPos := sp) (destPos := dp) (n := n) (by rw [hT]; exact ha0) (by rw [hT]; exact ha1)
    (fun _ h => by cases h) (fun _ h => by cases h) (fun h => by cases h) (fun h => by cases h) hk0 hk1 hkk0 hkk1 (by decide) h1 h2 h3
    (by rw [nn sp h1, nn n h3, arrV_size]; omega)
    (by rw [nn dp h2, nn n h3, arrV_size]; omega)
    (fun vm₁ _ i hi => by
      have e : (arrV c0 n0 (fun z => (fun x : Int => Value.long (Int64.ofInt x)) (f z))).slots.getD (sp.toNatClampNeg + i) .null = (fun x : Int => Value.long (Int64.ofInt x)) (f (sp.toNatClampNeg + i)) := by
        rw [Array.getD_eq_getD_getElem?, arrV_read _ _ (by omega)]
        rfl
      refine ⟨?_, ?_⟩
      · rw [e]
        rfl
      · rw [e]
        exact trivial)
    (g := F0 mid pc ls (.int n :: .int dp :: .ref a :: .int sp :: .ref a0 :: rest)) rfl (by rw [hml]) (rest := rest) rfl (by rw [hb]; exact hdg) hframes (by show 2 * 0 + _ + _ ≤ _; rw [show nativeFrameWords "java/lang/System" "arraycopy" 5 = 7 by decide]; omega)
  have e1 : copied (arrV c0 n0 (fun z => (fun x : Int => Value.long (Int64.ofInt x)) (f z))) (arrV c0 n1 (fun z => (fun x : Int => Value.long (Int64.ofInt x)) (g z))) sp dp n = arrV c0 n1 (fun z => (fun x : Int => Value.long (Int64.ofInt x)) (va_cpy f g sp.toNatClampNeg dp.toNatClampNeg n.toNatClampNeg z)) := va_copied (fun x : Int => Value.long (Int64.ofInt x)) c0 c0 f g h4
  have e2 : (fun z => (fun x : Int => Value.long (Int64.ofInt x)) (va_cpy f g sp.toNatClampNeg dp.toNatClampNeg n.toNatClampNeg z)) = va_cpy (fun z => (fun x : Int => Value.long (Int64.ofInt x)) (f z)) (fun z => (fun x : Int => Value.long (Int64.ofInt x)) (g z)) sp.toNatClampNeg dp.toNatClampNeg n.toNatClampNeg := by
    funext z
    simp only [va_cpy]
    split <;> rfl
  rw [e1, e2] at X' step
  have hl : a < H.size := (Array.getElem?_eq_some_iff.mp ha1).1
  obtain ⟨new, hnew⟩ : ∃ new, new = arrV c0 n1 (va_cpy (fun z => (fun x : Int => Value.long (Int64.ofInt x)) (f z)) (fun z => (fun x : Int => Value.long (Int64.ofInt x)) (g z)) sp.toNatClampNeg dp.toNatClampNeg n.toNatClampNeg) := ⟨_, rfl⟩
  rw [← hnew] at X' step kk
  have hheap : ((T.setVm vm').setCell a new).heap = H.setIfInBounds a new := by rw [← hT]; rfl
  have oq : ∀ q : Nat, q ≠ a → (H.setIfInBounds a new)[q]? = H[q]? := fun q hq => by simp [Array.getElem?_setIfInBounds, Ne.symm hq]
  obtain ⟨t, a1, b1⟩ := kk _ _ (show (H.setIfInBounds a _)[a]? = some _ by simp [Array.getElem?_setIfInBounds, hl]) (by simp) oq ⟨by simp; exact hs.1, fun q g1 g2 => by
      rw [oq q (fun e => g2 (by rw [e]; exact hAr))]
      exact hs.2.1 q g1 g2, fun q hq => by
      rcases List.mem_append.mp hq with h | h
      · exact hs.2.2 q h
      · obtain ⟨z, -, hz⟩ := List.mem_map.mp h
        rw [← hz]
        exact hAr⟩ _ hheap X'
  exact ⟨t, step t a1, b1⟩
theorem m_fitb {x : Int} (h1 : -128 ≤ x) (h2 : x ≤ 127) : fits .byte (.int (Int32.ofInt x)) = true := (m_fitB (0, fun _ => 0, fun _ => 0) (0, x) ⟨rfl, h1, h2⟩).2
theorem m_fitz {x : Int} (h : x = 0 ∨ x = 1) : fits .boolean (.int (Int32.ofInt x)) = true := (m_fitZ (0, fun _ => 0, fun _ => 0) (0, x) ⟨rfl, h⟩).2
theorem s_objInit (hx : p.tables.exec = Jvm.exec) (hb : c.code = mb j) {idx : Nat} (hml : c.maxLocals = mmaxL j) (hG : ∀ w ∈ GW, w.before args s = true) (ho : o < 32) (hown : s.vm.findClass (mR o) = some mid.cls) (hlk : mlk (mSP o) idx = some 0) (hd : decode (mb j) pc = .ok (.invokespecial idx, 3)) (h : mint (mW p l e s mid args below meth c Q E D tc j) C j K (mX O j 3 (.invokespecial 0) pc L S cs ss G d)) : mW p l e s mid args below meth c Q E D tc j (pc, L, S, cs, ss, G, d) := by
  have hw := mSP_use ho hlk
  have lib := mlib
  simp only [mX] at h
  split at h
  case h_1 =>
    rename_i a S' e0
    obtain ⟨⟨q0, q1, q2⟩, h⟩ := h
    intro H locs ls hl hr hs h1 h2
    rw [mval_own q0]
    exact W.objInit hx hb hown (hG _ hw) (hG _ lib.1) (hG _ lib.2.1) rfl (by show ls.size = _; rw [hl.1, hml]) rfl hd q1 (by show 2 * 0 + _ + 12 ≤ _; rw [m_cats]; show _ ≤ mneed j; omega) (h H locs ls hl hr hs h1 h2)
  all_goals first | exact absurd h.1 id | (rename_i e0 e1; exact absurd e0 (by decide)) | (simp at *; done)
theorem s_mmax (hx : p.tables.exec = Jvm.exec) (hb : c.code = mb j) {idx : Nat} (hml : c.maxLocals = mmaxL j) (hG : ∀ w ∈ GW, w.before args s = true) (ho : o < 32) (hown : s.vm.findClass (mR o) = some mid.cls) (hlk : mlk (mSP o) idx = some 1) (hd : decode (mb j) pc = .ok (.invokestatic idx, 3)) (h : mint (mW p l e s mid args below meth c Q E D tc j) C j K (mX O j 3 (.invokespecial 1) pc L S cs ss G d)) : mW p l e s mid args below meth c Q E D tc j (pc, L, S, cs, ss, G, d) := by
  have hw := mSP_use ho hlk
  have lib := mlib
  simp only [mX] at h
  split at h
  case h_2 =>
    rename_i y x S' e0
    obtain ⟨⟨q0, q1, q2, q3⟩, h⟩ := h
    intro H locs ls hl hr hs h1 h2
    have kk := h H locs ls hl hr hs h1 h2
    refine va_mmax hx hb (by rw [hl.1, hml]) hown (hG _ hw) (hG _ lib.2.2.1) (hG _ lib.2.2.2.2.2.2.1) (hG _ lib.2.2.2.1) q2 (by rw [m_cats]; exact q3) h1 h2 hd ?_
    rw [m_maxI q0 q1]
    exact kk
  all_goals first | exact absurd h.1 id | (rename_i e0 e1; exact absurd e0 (by decide)) | (simp at *; done)
theorem s_mmin (hx : p.tables.exec = Jvm.exec) (hb : c.code = mb j) {idx : Nat} (hml : c.maxLocals = mmaxL j) (hG : ∀ w ∈ GW, w.before args s = true) (ho : o < 32) (hown : s.vm.findClass (mR o) = some mid.cls) (hlk : mlk (mSP o) idx = some 2) (hd : decode (mb j) pc = .ok (.invokestatic idx, 3)) (h : mint (mW p l e s mid args below meth c Q E D tc j) C j K (mX O j 3 (.invokespecial 2) pc L S cs ss G d)) : mW p l e s mid args below meth c Q E D tc j (pc, L, S, cs, ss, G, d) := by
  have hw := mSP_use ho hlk
  have lib := mlib
  simp only [mX] at h
  split at h
  case h_3 =>
    rename_i y x S' e0
    obtain ⟨⟨q0, q1, q2, q3⟩, h⟩ := h
    intro H locs ls hl hr hs h1 h2
    have kk := h H locs ls hl hr hs h1 h2
    refine va_mmin hx hb (by rw [hl.1, hml]) hown (hG _ hw) (hG _ lib.2.2.2.2.1) (hG _ lib.2.2.2.2.2.2.1) (hG _ lib.2.2.2.2.2.1) q2 (by rw [m_cats]; exact q3) h1 h2 hd ?_
    rw [m_minI q0 q1]
    exact kk
  all_goals first | exact absurd h.1 id | (rename_i e0 e1; exact absurd e0 (by decide)) | (simp at *; done)
theorem s_copy (hx : p.tables.exec = Jvm.exec) (hb : c.code = mb j) {idx : Nat} (hml : c.maxLocals = mmaxL j) (hG : ∀ w ∈ GW, w.before args s = true) (ho : o < 32) (hown : s.vm.findClass (mR o) = some mid.cls) (hK : va_K D vwCl (mtys tc) s) (hlk : mlk (mSP o) idx = some 3) (hd : decode (mb j) pc = .ok (.invokestatic idx, 3)) (h : mint (mW p l e s mid args below meth c Q E D tc j) C j K (mX O j 3 (.invokespecial 3) pc L S cs ss G d)) : mW p l e s mid args below meth c Q E D tc j (pc, L, S, cs, ss, G, d) := by
  have hw := mSP_use ho hlk
  obtain ⟨-, -, -, -, -, -, -, lb1, lb2, lb3⟩ := mlib
  simp only [mX] at h
  split at h
  case h_4 =>
    rename_i n dp y sp x S' e0
    obtain ⟨⟨q0, q1, q2, q3, q4, q5, q6, q7, q8, q9, q10, q11⟩, h⟩ := h
    intro H locs ls hl hr hs h1 h2
    have kk := fun H locs hr hs => h H locs ls hl hr hs h1 h2
    rcases q0 with q0 | q0 | q0 | q0
    · obtain ⟨hx0, hmx, hnx, hnx2, hcx⟩ := mRep_row hr (by decide) q0
      obtain ⟨hy0, hmy, hny, hny2, hcy⟩ := mRep_row hr (by decide) (q1.trans q0)
      have e9 : mst E ((0, n) :: (0, dp) :: (3, y) :: (0, sp) :: (3, x) :: S') = .int (Int32.ofInt n) :: .int (Int32.ofInt dp) :: .ref (E.1 + mtau y) :: .int (Int32.ofInt sp) :: .ref (E.1 + mtau x) :: mst E S' := by
        simp only [mst, List.map_cons, mval]
        rw [if_neg (by omega), if_neg (by omega)]
      rw [e9]
      refine m_copyi (E := E) hx hb (by rw [hl.1, hml]) hown (hG _ hw) (hG _ lb1) (hG _ lb2) (hG _ lb3) (m_tys hK hmx).1 hcx hcy (m_nneg q2 (by omega)) (m_nneg q3 (by omega)) (m_nneg q4 (by omega)) (by rw [m_nat q2 (by omega), m_nat q4 (by omega)]; omega) (by rw [m_nat q3 (by omega), m_nat q4 (by omega)]; omega) q10.1 (by rw [m_cats]; exact q10.2) hd (by show E.1 ≤ _; omega) hs (fun H' locs' e1 e2 e3 hs' => ?_)
      refine kk H' locs' (mRep_upd hr (by omega) e2 e3 (fun b hb9 => mcopy_ne hb9) (fun h9 => by omega) (fun _ => ?_)) hs'
      rw [q1, q0]
      refine ⟨hmy, hny, hny2, ?_⟩
      rw [e1, m_nat q2 (by omega), m_nat q3 (by omega), m_nat q4 (by omega)]
      congr 2
      exact m_cpyf E.1 0 d q2 q3 q4
    · obtain ⟨hx0, hmx, hnx, hnx2, hcx⟩ := mRep_row hr (by decide) q0
      obtain ⟨hy0, hmy, hny, hny2, hcy⟩ := mRep_row hr (by decide) (q1.trans q0)
      have e9 : mst E ((0, n) :: (0, dp) :: (3, y) :: (0, sp) :: (3, x) :: S') = .int (Int32.ofInt n) :: .int (Int32.ofInt dp) :: .ref (E.1 + mtau y) :: .int (Int32.ofInt sp) :: .ref (E.1 + mtau x) :: mst E S' := by
        simp only [mst, List.map_cons, mval]
        rw [if_neg (by omega), if_neg (by omega)]
      rw [e9]
      refine m_copyl (E := E) hx hb (by rw [hl.1, hml]) hown (hG _ hw) (hG _ lb1) (hG _ lb2) (hG _ lb3) (m_tys hK hmx).1 hcx hcy (m_nneg q2 (by omega)) (m_nneg q3 (by omega)) (m_nneg q4 (by omega)) (by rw [m_nat q2 (by omega), m_nat q4 (by omega)]; omega) (by rw [m_nat q3 (by omega), m_nat q4 (by omega)]; omega) q10.1 (by rw [m_cats]; exact q10.2) hd (by show E.1 ≤ _; omega) hs (fun H' locs' e1 e2 e3 hs' => ?_)
      refine kk H' locs' (mRep_upd hr (by omega) e2 e3 (fun b hb9 => mcopy_ne hb9) (fun h9 => by omega) (fun _ => ?_)) hs'
      rw [q1, q0]
      refine ⟨hmy, hny, hny2, ?_⟩
      rw [e1, m_nat q2 (by omega), m_nat q3 (by omega), m_nat q4 (by omega)]
      congr 2
      exact m_cpyf E.1 3 d q2 q3 q4
    · obtain ⟨hx0, hmx, hnx, hnx2, hcx⟩ := mRep_row hr (by decide) q0
      obtain ⟨hy0, hmy, hny, hny2, hcy⟩ := mRep_row hr (by decide) (q1.trans q0)
      have e9 : mst E ((0, n) :: (0, dp) :: (3, y) :: (0, sp) :: (3, x) :: S') = .int (Int32.ofInt n) :: .int (Int32.ofInt dp) :: .ref (E.1 + mtau y) :: .int (Int32.ofInt sp) :: .ref (E.1 + mtau x) :: mst E S' := by
        simp only [mst, List.map_cons, mval]
        rw [if_neg (by omega), if_neg (by omega)]
      rw [e9]
      refine m_copyb (E := E) hx hb (by rw [hl.1, hml]) hown (hG _ hw) (hG _ lb1) (hG _ lb2) (hG _ lb3) (m_tys hK hmx).1 hcx hcy (m_nneg q2 (by omega)) (m_nneg q3 (by omega)) (m_nneg q4 (by omega)) (by rw [m_nat q2 (by omega), m_nat q4 (by omega)]; omega) (by rw [m_nat q3 (by omega), m_nat q4 (by omega)]; omega) (fun i hi => by rw [m_nat q4 (by omega)] at hi; rw [m_nat q2 (by omega)]; have z := q11.1 q0 (((sp.toNat + i : Nat)) : Int) (by omega) (by omega); exact m_fitb z.1 z.2) q10.1 (by rw [m_cats]; exact q10.2) hd (by show E.1 ≤ _; omega) hs (fun H' locs' e1 e2 e3 hs' => ?_)
      refine kk H' locs' (mRep_upd hr (by omega) e2 e3 (fun b hb9 => mcopy_ne hb9) (fun h9 => by omega) (fun _ => ?_)) hs'
      rw [q1, q0]
      refine ⟨hmy, hny, hny2, ?_⟩
      rw [e1, m_nat q2 (by omega), m_nat q3 (by omega), m_nat q4 (by omega)]
      congr 2
      exact m_cpyf E.1 0 d q2 q3 q4
    · obtain ⟨hx0, hmx, hnx, hnx2, hcx⟩ := mRep_row hr (by decide) q0
      obtain ⟨hy0, hmy, hny, hny2, hcy⟩ := mRep_row hr (by decide) (q1.trans q0)
      have e9 : mst E ((0, n) :: (0, dp) :: (3, y) :: (0, sp) :: (3, x) :: S') = .int (Int32.ofInt n) :: .int (Int32.ofInt dp) :: .ref (E.1 + mtau y) :: .int (Int32.ofInt sp) :: .ref (E.1 + mtau x) :: mst E S' := by
        simp only [mst, List.map_cons, mval]
        rw [if_neg (by omega), if_neg (by omega)]
      rw [e9]
      refine m_copyz (E := E) hx hb (by rw [hl.1, hml]) hown (hG _ hw) (hG _ lb1) (hG _ lb2) (hG _ lb3) (m_tys hK hmx).1 hcx hcy (m_nneg q2 (by omega)) (m_nneg q3 (by omega)) (m_nneg q4 (by omega)) (by rw [m_nat q2 (by omega), m_nat q4 (by omega)]; omega) (by rw [m_nat q3 (by omega), m_nat q4 (by omega)]; omega) (fun i hi => by rw [m_nat q4 (by omega)] at hi; rw [m_nat q2 (by omega)]; have z := q11.2 q0 (((sp.toNat + i : Nat)) : Int) (by omega) (by omega); exact m_fitz z) q10.1 (by rw [m_cats]; exact q10.2) hd (by show E.1 ≤ _; omega) hs (fun H' locs' e1 e2 e3 hs' => ?_)
      refine kk H' locs' (mRep_upd hr (by omega) e2 e3 (fun b hb9 => mcopy_ne hb9) (fun h9 => by omega) (fun _ => ?_)) hs'
      rw [q1, q0]
      refine ⟨hmy, hny, hny2, ?_⟩
      rw [e1, m_nat q2 (by omega), m_nat q3 (by omega), m_nat q4 (by omega)]
      congr 2
      exact m_cpyf E.1 0 d q2 q3 q4
  all_goals first | exact absurd h.1 id | (rename_i e0 e1; exact absurd e0 (by decide)) | (simp at *; done)
end SF
/-! ===== copies of byte rows by clone ===== -/
def mclnY : MethodName := ⟨"java/lang/Object", "clone", "()Ljava/lang/Object;"⟩
def mclnX : MethodName := ⟨"[B", "clone", "()Ljava/lang/Object;"⟩
theorem m_clone {p : Program} {l : Launch} {e : Env} {R : Room} {s : State} {m : MethodId} {args : Array Value} {below : List Frame} {meth : Method} {c : Code} {H : Heap} {locs : List Loc} {cells slots : Nat} {Q : State → Prop} {cc : ByteArray} {pc : Nat} {ls : Array Slot} {rest : List Value} {E : mE} {a : Nat}
    (hexec : p.tables.exec = Jvm.exec) (hb : c.code = cc) (hml : c.maxLocals = ls.size) {own : String} {index : Nat} (hown : s.vm.findClass own = some m.cls)
    (hlink : (Jvm.Cond.methodLink own index mclnX).before args s = true) (hsame : (Jvm.Cond.sameMethod "[B" "java/lang/Object" "clone" "()Ljava/lang/Object;").before args s = true)
    (hnat : (Jvm.Cond.native mclnY).before args s = true) (hinst : (Jvm.Cond.instanceMethod mclnY).before args s = true)
    (hsel : (Jvm.Cond.selects "[B" mclnX mclnY).before args s = true) (hcl : va_Nw (.castable "[B" "java/lang/Cloneable") s)
    {cA : ClassId} {n : Nat} {f : Nat → Int32} (hT : ArrOfT s cA .byte) (hnm : s.vm.findClass "[B" = some cA) (hc : H[a]? = some (arrV cA n (fun j => .int (f j)))) (hfit : ∀ i : Nat, i < n → fits .byte (.int (f i)) = true)
    (hframes : 1 ≤ R.frames) (hlocals : (rest.map fun v => v.category).sum + 14 ≤ R.locals) (hcells : cells + 1 ≤ R.cells) (hslots : slots + n ≤ R.slots) (hdg : decode cc pc = .ok (.invokevirtual index, 3))
    (kk : ∀ (H1 : Heap), H1[H.size]? = some (arrV cA n (fun j => .int (f j))) → H1.size = H.size + 1 → (∀ q : Nat, q < H.size → H1[q]? = H[q]?) →
      W p l e R s m args below meth c H1 locs (cells + 1) (slots + n) Q (F0 m (pc + 3) ls (.ref H.size :: rest))) : W p l e R s m args below meth c H locs cells slots Q (F0 m pc ls (.ref a :: rest)) := by
  obtain ⟨c0, t0', f1, f2, f3⟩ := Cond.castable_spec (va_Nw.use (A := args) rfl hcl)
  cases hnm.symm.trans f1
  generalize hce : (arrV cA n (fun j => .int (f j)) : Cell) = ce at *
  have hsz : ce.slots.size = n := by rw [← hce]; exact arrV_size _ _ _
  have hvm0 : ce.vm = .none := by rw [← hce]; rfl
  have hcl0 : ce.cls = cA := by rw [← hce]; rfl
  have hcellE : ({ cls := ce.cls, slots := ce.slots } : Cell) = ce := by rw [← hce]; rfl
  intro T hT9 X
  have hcellT : T.heap[a]? = some ce := by rw [hT9]; exact hc
  obtain ⟨-, kA, hkA, comp, hkind⟩ := State.isArrayOf_alike X.warmed.alike (hT 0 (fun _ => .null))
  obtain ⟨-, kS, hkS, compS, hkindS⟩ := hT 0 (fun _ => .null)
  obtain ⟨vm', X', st⟩ := X.cloneArray hexec hown hlink hsame hnat hinst hsel (a := a) (cell := ce) hcellT (fun k h => by rw [hvm0] at h; cases h) (by rw [hvm0]; exact fun h => by cases h) (by rw [hcl0]; exact hnm) f2 (by rw [hcl0]; exact f3)
    (fun i v hv => by
      rw [hcl0]
      have hk' : T.vm.classes[cA]? = some kA := hkA
      have hi : i < n := by
        rw [← hsz]
        exact (Array.getElem?_eq_some_iff.mp hv).1
      have hv' : v = .int (f i) := by
        rw [← hce, arrV_read _ _ hi] at hv
        exact (Option.some.inj hv).symm
      rw [hv']
      simpa [State.fitsSlot, State.slotType?, hk', hkind] using hfit i hi)
    (g := F0 m pc ls (.ref a :: rest)) rfl (by rw [hml]) rfl (by rw [hb]; exact hdg) hframes (by show 2 * 0 + _ + 14 ≤ _; omega) hcells (by rw [hsz]; exact hslots) (hloader := by rw [hcl0]; exact Vm.clonesLoader_of_array hkS hkindS)
  rw [hcellE, hsz] at X'
  generalize hH1 : H.push ce = H1
  have z1 : H1.size = H.size + 1 := by rw [← hH1, Array.size_push]
  have e1 : H1[H.size]? = some ce := by rw [← hH1, Array.getElem?_push_size]
  have o1 : ∀ q : Nat, q < H.size → H1[q]? = H[q]? := fun q hq => by rw [← hH1, Array.getElem?_push, if_neg (Nat.ne_of_lt hq)]
  obtain ⟨t, b1, b2⟩ := kk H1 e1 z1 o1 ((T.setVm vm').pushCell ce) (by rw [← hH1, ← hT9]; rfl) X'
  refine ⟨t, st t ?_, b2⟩
  rw [hcellE, hT9]
  exact b1
def mclW : List Jvm.Cond := [.sameMethod "[B" "java/lang/Object" "clone" "()Ljava/lang/Object;", .native mclnY, .instanceMethod mclnY, .selects "[B" mclnX mclnY, .classLink (mR 15) 311 "[B"]
theorem mclW_ok : (Nat.beq mclW.length mp_cln.length && (mclW.zip mp_cln).all (fun e => mG1 e.2 e.1)) = true := by decide +kernel
theorem mclw {w : Jvm.Cond} (i : Nat) (h : mclW[i]? = some w) : w ∈ GW := by
  have h1 := mclW_ok
  rw [Bool.and_eq_true] at h1
  have hl := Nat.eq_of_beq_eq_true h1.1
  have hi : i < mclW.length := (List.getElem?_eq_some_iff.mp h).1
  have h2 : (mclW.zip mp_cln)[i]? = some (w, mp_cln[i]'(by omega)) := by
    rw [List.getElem?_zip_eq_some]
    exact ⟨h, List.getElem?_eq_getElem _⟩
  exact mG1_in (List.all_eq_true.mp h1.2 _ (List.mem_of_getElem? h2))
section SCL
variable {p : Program} {l : Launch} {e : Env} {s : State} {mid : MethodId} {args : Array Value} {below : List Frame} {meth : Method} {c : Code} {Q : State → Prop}
variable {E : mE} {D : va_G} {tc : Int → ClassId} {O : mO} {j : Nat}
variable {C : Nat → List mV → mG → mD → mK → Prop} {K : mK} {pc len : Nat} {L S : List mV} {cs ss : Nat} {G : mG} {d : mD} {H : Heap} {o : Nat}
theorem m_nmB (hK : va_K D vwCl (mtys tc) s) : s.vm.findClass "[B" = some (tc 102) := by
  have h9 := (m_tys hK (k := 102) (by decide)).2
  exact h9
theorem s_castB (hx : p.tables.exec = Jvm.exec) (hb : c.code = mb j) (hG : ∀ w ∈ GW, w.before args s = true) (hown : s.vm.findClass (mR 15) = some mid.cls) (hK : va_K D vwCl (mtys tc) s) (hd : decode (mb j) pc = .ok (.checkcast 311, 3)) (h : mint (mW p l e s mid args below meth c Q E D tc j) C j K (mX O j 3 .monitorexit pc L S cs ss G d)) : mW p l e s mid args below meth c Q E D tc j (pc, L, S, cs, ss, G, d) := by
  simp only [mX] at h
  split at h
  · rename_i a S'
    obtain ⟨q0, h⟩ := h
    intro H locs ls hl hr hs h1 h2
    obtain ⟨ha, hm, hn0, hn, hc⟩ := mRep_row hr (by decide) q0
    have kk := h H locs ls hl hr hs h1 h2
    rw [mval_own ha] at kk ⊢
    have hP : va_P D vwCl [(E.1 + mtau a, .inl (tc 102, (G.2.1 a).toNat, .inl (fun z => Int32.ofInt (d a (z : Int)))))] H := by
      intro k x hx9
      cases k with
      | zero => cases hx9; exact hc
      | succ k => simp at hx9
    exact va_castA hx hb hown (hG _ (mclw 4 rfl)) hP 0 rfl (m_nmB hK) hd kk
  · exact absurd h.1 id
theorem s_clone (hx : p.tables.exec = Jvm.exec) (hb : c.code = mb j) {idx : Nat} (hml : c.maxLocals = mmaxL j) (hG : ∀ w ∈ GW, w.before args s = true) (ho : o < 32) (hown : s.vm.findClass (mR o) = some mid.cls) (hK : va_K D vwCl (mtys tc) s) (hOld : mOld E O (mAr E) s s.heap) (hlk : mlk (mSP o) idx = some 8) (hd : decode (mb j) pc = .ok (.invokevirtual idx, 3)) (h : mint (mW p l e s mid args below meth c Q E D tc j) C j K (mX O j 3 (.invokespecial 8) pc L S cs ss G d)) : mW p l e s mid args below meth c Q E D tc j (pc, L, S, cs, ss, G, d) := by
  have hw := mSP_use ho hlk
  obtain ⟨-, -, -, -, -, -, -, -, -, -, -, -, -, -, hcst⟩ := hOld
  simp only [mX] at h
  split at h
  case h_9 =>
    rename_i a S' e0
    obtain ⟨⟨q0, q1, q2, q3, q4, q5⟩, h⟩ := h
    intro H locs ls hl hr hs h1 h2
    obtain ⟨ha, hm, hn0, hn, hc⟩ := mRep_row hr (by decide) q0
    have hsz := (hr.2.1 q1).2
    rw [mval_own ha]
    refine m_clone (E := E) hx hb (by rw [hl.1, hml]) hown (hG _ hw) (hG _ (mclw 0 rfl)) (hG _ (mclw 1 rfl)) (hG _ (mclw 2 rfl)) (hG _ (mclw 3 rfl)) hcst (m_tys hK hm).1 (m_nmB hK) (f := fun z => Int32.ofInt (d a (z : Int))) hc (fun i hi => ?_) q4.1 (by rw [m_cats]; have := q4.2; show _ ≤ mneed j; omega) q2 q3 hd fun H1 e1 z1 o1 => ?_
    · have z := q5.1 rfl (i : Int) (by omega) (by omega)
      exact m_fitb z.1 z.2
    · have kk := h H1 locs ls hl ?_ (mS_new hs z1 o1) q2 q3
      · rw [mval_own q1, ← hsz] at kk
        exact kk
      · refine mRep_new hr q1 (by omega) z1 o1 (fun b hb9 => by funext z; simp [hb9]) (fun h9 => by omega) (fun _ => ⟨hm, hn0, hn, ?_⟩)
        rw [← hsz, e1]
        congr 2
        funext z
        simp only [mrow, if_true]
        rfl
  all_goals first | exact absurd h.1 id | (rename_i e0 e1; exact absurd e0 (by decide)) | (simp at *; done)
end SCL
/-! ===== a method of the small machine as a contract of the machine ===== -/
def mws (j : Nat) : List Jvm.Cond := mcode j :: GW
def mRetOk (j : Nat) : Instr → Option mV → Prop
  | .ireturn, some (0, x) => mret1 j x
  | .areturn, some (3, _) => mret j = 5
  | .lreturn, some (1, _) => mret j = 3
  | .dreturn, some (2, _) => mret j = 4
  | .return_, none => mret j = 0
  | _, _ => False
def mFrame (l : Launch) (E : mE) (D : va_G) (tc : Int → ClassId) (O : mO) (j : Nat) (p : Program) (s : State) (mid : MethodId) (args : Array Value) (meth : Method) (c : Code) : Prop :=
  p.tables.exec = Jvm.exec ∧ c.code = mb j ∧ c.maxLocals = mmaxL j ∧ meth.sig.returnType = mrt j ∧ s.vm.findClass (mR (mown j)) = some mid.cls ∧ (∀ w ∈ GW, w.before args s = true) ∧ meth.locks = false
    ∧ ((my j).name = "<init>" → meth.name = "<init>") ∧ (0 < j → c.exceptionTable.toList = tableOf (mhh j)) ∧ va_K D vwCl (mtys tc) s ∧ mOld E O (mAr E) s s.heap ∧ l.stackTraces = false
section SH
variable (p : Program) (l : Launch) (e : Env) (s : State) (mid : MethodId) (args : Array Value) (below : List Frame) (meth : Method) (c : Code) (Q : State → Prop)
variable (E : mE) (D : va_G) (tc : Int → ClassId) (O : mO) (j : Nat) (K : mK)
def mHret : Prop := ∀ (op : Instr) (v : Option mV) (G : mG) (d : mD) (H : Heap) (locs : List Loc) (cs ss pc : Nat) (ls : Array Slot), K (.inl v) G d → mRep E D tc G d H → va_S (mAr E) s.heap H locs → cs ≤ mmc j → ss ≤ mms j →
  decode (mb j) pc = .ok (op, 1) → mRetOk j op v → W p l e (mRm j) s mid args below meth c H locs cs ss Q (F0 mid pc ls (mst E v.toList))
def mHthr : Prop := ∀ (ex : Nat) (G : mG) (d : mD) (H : Heap) (locs : List Loc) (cs ss pc : Nat) (ls : Array Slot) (S : List mV), 0 ≤ G.2.2 → (∀ nx : Int, mreal nx → mtau G.2.2 ≤ mtau nx → K (.inr ex) (G.1, G.2.1, nx) d) → mRep E D tc G d H → va_S (mAr E) s.heap H locs →
  mthr j (mown j) pc ex = true → mhh j = [] → mroomT j S cs ss → ls.size = mmaxL j → W p l e (mRm j) s mid args below meth c H locs cs ss Q (F0 mid pc ls (mst E S))
def mHcat : Prop := ∀ (ex : Nat) (G : mG) (d : mD) (H : Heap) (locs : List Loc) (cs ss pc : Nat) (ls : Array Slot) (S : List Value) (q : Addr) (ce : Cell), ex < 3 → K (.inr ex) G d → mRep E D tc G d H → va_S (mAr E) s.heap H locs → cs ≤ mmc j → ss ≤ mms j → mhh j = [] →
  H[q]? = some ce → ce.vm = .none → s.vm.findClass (mEn ex) = some ce.cls → vx_W p l e (mRm j) s mid args below meth c H locs cs ss Q (F0 mid pc ls S) q
def mEnds : Prop := mHret p l e s mid args below meth c Q E D tc j K ∧ mHthr p l e s mid args below meth c Q E D tc j K ∧ mHcat p l e s mid args below meth c Q E D tc j K
end SH
def mSim (l : Launch) (E : mE) (D : va_G) (tc : Int → ClassId) (O : mO) : mP := fun j st K => mre j = true → ∀ (p : Program) (e : Env) (s : State) (mid : MethodId) (args : Array Value) (below : List Frame) (meth : Method) (c : Code) (Q : State → Prop),
  mFrame l E D tc O j p s mid args meth c → mEnds p l e s mid args below meth c Q E D tc j K → mW p l e s mid args below meth c Q E D tc j st
def mPc (E : mE) (D : va_G) (tc : Int → ClassId) (O : mO) (as : List mV) (G : mG) (d : mD) : Array Value → State → Prop := va_Pc (as.map (mval E)) (fun U => mRep E D tc G d U.heap ∧ va_K D vwCl (mtys tc) U ∧ mOld E O (mAr E) U U.heap)
def mQc (E : mE) (D : va_G) (tc : Int → ClassId) (K : mK) : Array Value → State → Outcome → State → Prop := fun _ st oc t => (∃ (v : Option mV) (G : mG) (d : mD), oc = .returned (v.map (mval E)) ∧ K (.inl v) G d ∧ mRep E D tc G d t.heap) ∧ va_F (mAr E) st t
def mXc (E : mE) (D : va_G) (tc : Int → ClassId) (K : mK) : String → State → State → Prop := fun n st t => (∃ (ex : Nat) (G : mG) (d : mD), n = mEn ex ∧ ex < 3 ∧ K (.inr ex) G d ∧ mRep E D tc G d t.heap) ∧ va_F (mAr E) st t
-- the locals at a method's entry
theorem mget_pad : ∀ (n : Nat) (l : List mV) (i : Nat), i < n → mget (mpad n l) i = mget l i
  | n + 1, [], 0, _ => rfl
  | n + 1, [], i + 1, h => by
    show mget (mpad n []) i = mu
    rw [mget_pad n [] i (by omega)]
    rfl
  | n + 1, v :: l, 0, _ => rfl
  | n + 1, v :: l, i + 1, h => mget_pad n l i (by omega)
theorem mpad_len : ∀ (n : Nat) (l : List mV), (mpad n l).length = n
  | 0, _ => rfl
  | n + 1, [] => by simp [mpad, mpad_len n []]
  | n + 1, v :: l => by simp [mpad, mpad_len n l]
theorem mlay_in (E : mE) : ∀ (as : List mV) (off i : Nat), (mget (mlay as) i).1 < 6 → (off + i, mval E (mget (mlay as) i)) ∈ lv_args off (as.map (mval E))
  | [], _, _, h => absurd (show 7 < 6 from h) (by omega)
  | v :: as, off, i, h => by
    have hc := m_cat1 E v
    cases h2 : mc2 v with
    | true =>
      rw [h2] at hc
      have e : mlay (v :: as) = v :: mu :: mlay as := by simp [mlay, h2]
      have hc : (mval E v).category = 2 := hc
      rw [e] at h ⊢
      simp only [List.map_cons, lv_args, hc, if_true]
      match i with
      | 0 => exact List.mem_cons_self
      | 1 => exact absurd (show 7 < 6 from h) (by omega)
      | i + 2 =>
        refine List.mem_cons_of_mem _ ?_
        have := mlay_in E as (off + 2) i h
        rw [show off + (i + 2) = off + 2 + i by omega]
        exact this
    | false =>
      rw [h2] at hc
      have e : mlay (v :: as) = v :: mlay as := by simp [mlay, h2]
      have hc : (mval E v).category = 1 := hc
      rw [e] at h ⊢
      simp only [List.map_cons, lv_args, hc]
      match i with
      | 0 => exact List.mem_cons_self
      | i + 1 =>
        refine List.mem_cons_of_mem _ ?_
        have := mlay_in E as (off + 1) i h
        rw [show off + (i + 1) = off + 1 + i by omega]
        exact this
theorem mlay_len (E : mE) : ∀ as : List mV, (lg_sl (as.map (mval E))).length = (mlay as).length
  | [] => rfl
  | v :: as => by
    have ih := mlay_len E as
    have hc := m_cat1 E v
    unfold lg_sl at ih ⊢
    cases h2 : mc2 v with
    | true =>
      rw [h2] at hc
      have hc : (mval E v).category = 2 := hc
      simp [mlay, h2, hc, ih]
    | false =>
      rw [h2] at hc
      have hc : (mval E v).category = 1 := hc
      simp [mlay, h2, hc, ih]
theorem mLoc_entry {E : mE} {j : Nat} {as : List mV} (h : Nat.ble (mlay as).length (mmaxL j) = true) : mLoc E ((lg_sl (as.map (mval E)) ++ List.replicate (mmaxL j - (lg_sl (as.map (mval E))).length) Slot.unset).toArray) (mmaxL j) (mloc j as) := by
  have hl := lv_entry (as.map (mval E)) (n := mmaxL j) (by rw [mlay_len]; exact Nat.le_of_ble_eq_true h)
  refine ⟨hl.1, hl.2.1, mpad_len _ _, fun i hi => ?_⟩
  unfold mloc at hi ⊢
  by_cases h1 : i < mmaxL j
  · rw [mget_pad _ _ _ h1] at hi ⊢
    have h2 := mlay_in E as 0 i hi
    rw [Nat.zero_add] at h2
    exact hl.2.2 _ h2
  · rw [mget_out _ _ (by rw [mpad_len]; omega)] at hi
    exact absurd hi (by decide)
theorem mFrameBlind {E : mE} {D : va_G} {tc : Int → ClassId} {O : mO} {as : List mV} {G : mG} {d : mD} : FrameBlind (mPc E D tc O as G d) := by
  intro a U g mk q
  obtain ⟨q0, q1, q2, q3⟩ := q
  exact ⟨q0, q1, va_K.moved (u := U) (U := U.calling g mk a) (Vm.Alike.refl U.vm) q2, mOld_to (U := U.calling g mk a) q3 (State.WarmedH.refl U) (Nat.le_refl _) (fun _ _ _ => rfl)⟩
theorem m_narc {x : Int} (h1 : 0 ≤ x) (h2 : x ≤ 65535) : narrow .char (.int (Int32.ofInt x)) = .int (Int32.ofInt x) := by
  have e : narrow .char (.int (Int32.ofInt x)) = .int ((Int32.ofInt x).toUInt32 % 65536).toInt32 := rfl
  rw [e]
  congr 1
  obtain ⟨n, rfl⟩ := Int.eq_ofNat_of_zero_le h1
  have hn : n < 65536 := by omega
  have e1 : Int32.ofInt (n : Int) = Int32.ofNat n := Int32.ofInt_eq_ofNat ..
  rw [e1]
  have e2 : (Int32.ofNat n).toUInt32 = UInt32.ofNat n := by simp
  rw [e2]
  have e3 : UInt32.ofNat n % 65536 = UInt32.ofNat n := by
    rw [← UInt32.toNat_inj, UInt32.toNat_mod]
    simp
    omega
  rw [e3]
  simp
theorem mrr_ok : (List.range 420).all (fun j => bif Nat.beq (mret j) 5 then (match mrr j with | some (.object _) => true | some (.array _) => true | _ => false) else true) = true := by decide +kernel
theorem mrr_use {j : Nat} (hj : j < 420) (h : mret j = 5) : ∃ rt, mrt j = some rt ∧ ((∃ n, rt = .object n) ∨ ∃ t, rt = .array t) := by
  have h1 := List.all_eq_true.mp mrr_ok j (List.mem_range.mpr hj)
  rw [h] at h1
  have h1 : (match mrr j with | some (.object _) => true | some (.array _) => true | _ => false) = true := h1
  have h2 : mrt j = mrr j := by
    unfold mrt
    rw [h]
    rfl
  rw [h2]
  split at h1
  · rename_i n e
    exact ⟨_, e, Or.inl ⟨n, rfl⟩⟩
  · rename_i n e
    exact ⟨_, e, Or.inr ⟨n, rfl⟩⟩
  · cases h1
theorem m_retw {p : Program} {l : Launch} {e : Env} {s : State} {mid : MethodId} {args : Array Value} {below : List Frame} {meth : Method} {c : Code} {E : mE} {D : va_G} {tc : Int → ClassId} {j : Nat} {K : mK}
    (hj9 : j < 420) (hx : p.tables.exec = Jvm.exec) (hb : c.code = mb j) (hr : meth.sig.returnType = mrt j) (hlocks : meth.locks = false) : mHret p l e s mid args below meth c (vx_MQ below (mQc E D tc K) (mXc E D tc K) args s (mmc j) (mms j) (mAr E)) E D tc j K := by
  intro op v G d H locs cs ss pc ls hk hrep hs h1 h2 hd hok
  refine W.widen (k := mmc j) (n := mms j) h1 h2 (vx_ret ?_)
  unfold mrt at hr
  match op, v, hok with
  | .ireturn, some (0, x), hok =>
    have hq : ∀ t : State, t.heap = H → s.WarmedH t.vm → mQc E D tc K args s (.returned (some (.int (Int32.ofInt x)))) t := fun t ht hW => ⟨⟨some (0, x), G, d, rfl, hk, by rw [ht]; exact hrep⟩, hs.F ht⟩
    simp only [mRetOk, mret1] at hok
    split at hok
    · rename_i hm
      rw [hm] at hr
      exact W.iret hx hb hr hq hs.2.2 hd hlocks
    · rename_i hm
      rw [hm] at hr
      exact W.zret hx hb hr (m_zb hok) hq hs.2.2 hd hlocks
    · rename_i hm
      rw [hm] at hr
      exact W.zret hx hb hr (m_fitB E (0, x) ⟨rfl, hok.1, hok.2⟩).1 hq hs.2.2 hd hlocks
    · rename_i hm
      rw [hm] at hr
      exact W.zret hx hb hr (m_narc hok.1 hok.2) hq hs.2.2 hd hlocks
    · exact hok.elim
  | .areturn, some (3, x), hok =>
    have hm : mret j = 5 := hok
    obtain ⟨rt, h5, h6⟩ := mrr_use hj9 hm
    have hr : meth.sig.returnType = mrt j := hr
    rw [h5] at hr
    refine W.aret (v := mval E (3, x)) hx hb hr h6 ?_ (fun t ht hW => ⟨⟨some (3, x), G, d, rfl, hk, by rw [ht]; exact hrep⟩, hs.F ht⟩) hs.2.2 hd hlocks
    simp only [mval]
    split
    · exact Or.inl rfl
    · exact Or.inr ⟨_, rfl⟩
  | .lreturn, some (1, x), hok =>
    have hm : mret j = 3 := hok
    rw [hm] at hr
    exact W.lret hx hb hr (fun t ht hW => ⟨⟨some (1, x), G, d, rfl, hk, by rw [ht]; exact hrep⟩, hs.F ht⟩) hs.2.2 hd hlocks
  | .dreturn, some (2, x), hok =>
    have hm : mret j = 4 := hok
    rw [hm] at hr
    exact W.dret hx hb hr (fun t ht hW => ⟨⟨some (2, x), G, d, rfl, hk, by rw [ht]; exact hrep⟩, hs.F ht⟩) hs.2.2 hd hlocks
  | .return_, none, hok =>
    have hm : mret j = 0 := hok
    rw [hm] at hr
    exact W.vret hx hb hr (fun t ht hW => ⟨⟨none, G, d, rfl, hk, by rw [ht]; exact hrep⟩, hs.F ht⟩) hs.2.2 hd hlocks
theorem mRep_forget {E : mE} {D : va_G} {tc : Int → ClassId} {G : mG} {d : mD} {H H' : Heap} (h : mRep E D tc G d H) (h0 : 0 ≤ G.2.2) (hz : H.size ≤ H'.size) (ho : ∀ q : Nat, q < H.size → H'[q]? = H[q]?) : ∃ nx : Int, mreal nx ∧ mtau G.2.2 ≤ mtau nx ∧ mRep E D tc (G.1, G.2.1, nx) d H' := by
  obtain ⟨s1, s2⟩ := msig_tau (H'.size - E.1)
  have hE := h.1
  obtain ⟨r1, r2⟩ := h.2.1 h0
  refine ⟨msig (H'.size - E.1), s1, by rw [s2]; omega, Nat.le_trans h.1 hz, fun _ => ⟨s1, by show _ = E.1 + mtau (msig (H'.size - E.1)); rw [s2]; omega⟩, fun b hb => ?_⟩
  obtain ⟨h1, h2, h3⟩ := h.2.2 b hb
  have hlt : E.1 + mtau b < H.size := by
    by_cases h9 : G.1 b < 100
    · obtain ⟨-, cell, hc, -⟩ := h2 h9
      exact (Array.getElem?_eq_some_iff.mp hc).1
    · obtain ⟨-, -, -, hc⟩ := h3 (by omega)
      exact (Array.getElem?_eq_some_iff.mp hc).1
  have hq := ho _ hlt
  exact ⟨h1, fun h => ⟨(h2 h).1, (h2 h).2.kept hq⟩, fun h => ⟨(h3 h).1, (h3 h).2.1, (h3 h).2.2.1, by rw [hq]; exact (h3 h).2.2.2⟩⟩
theorem m_catw {p : Program} {l : Launch} {e : Env} {s : State} {mid : MethodId} {args : Array Value} {below : List Frame} {meth : Method} {c : Code} {E : mE} {D : va_G} {tc : Int → ClassId} {j : Nat} {K : mK}
    (ht : mhh j = [] → c.exceptionTable.toList = []) (hlocks : meth.locks = false) : mHcat p l e s mid args below meth c (vx_MQ below (mQc E D tc K) (mXc E D tc K) args s (mmc j) (mms j) (mAr E)) E D tc j K := by
  intro ex G d H locs cs ss pc ls S q ce hex hk hrep hs h1 h2 hh hc hv hcl
  have ht := ht hh
  exact vx_out (E := mEn ex) (fun x hx => by rw [ht] at hx; cases hx) hlocks hc hv hcl (fun t ht hA => ⟨⟨ex, G, d, rfl, hex, hk, by rw [ht]; exact hrep⟩, hs.F ht⟩) hs.2.2 h1 h2
/-! ===== 'throw new E("..")' without stack traces, the class's own constructor at any index (after the library's ctorThrowS and ctorThrowSVX) ===== -/
section MX
variable {p : Program} {l : Launch} {e : Env} {R : Room} {s : State} {m : MethodId} {args : Array Value} {below : List Frame} {meth : Method} {c : Code}
set_option maxHeartbeats 1000000 in
theorem m_ctorSX {Wt : State} {locs : List Loc} {cells slots : Nat} (X : Stand p l e R s m args below meth c Wt locs cells slots) (hexec : p.tables.exec = Jvm.exec) (htr : e.platform.stackTraces = false) {own cls : String} {names : List String} {ic : Nat}
    {ix : Nat} {rx : ByteArray} (x0 : decode rx 0 = .ok (.aload_n 0, 1)) (x1 : decode rx 1 = .ok (.aload_n 1, 1)) (x2 : decode rx 2 = .ok (.invokespecial ix, 3)) (x5 : decode rx 5 = .ok (.return_, 1))
    (hown : s.vm.findClass own = some m.cls) (hcls : Bundle.fit cls = true) (hnames : ∀ n ∈ names, Bundle.fit n = true)
    (h : ∀ a ∈ Bundle.ownAtomsX own ic cls ix rx names, a.before args s = true)
    (hlocs : ∀ x ∈ locs, ∀ cell, s.heap[x.base]? = some cell → cell.vm.isStatics = false)
    {a : Addr} {cX : ClassId} {kX : Class} (hfoundX : s.vm.findClass cls = some cX) (hkX : s.vm.classes[cX]? = some kX) (hcell : Wt.heap[a]? = some (freshCell cX kX)) (hnew : s.heap.size ≤ a)
    {msg : Value} (hmsg : msg.isRef = true)
    {g : JFrame} (hg : g.method = m) (hsize : g.locals.size = c.maxLocals) (hlocked : g.locked = none) (hentered : g.entered = []) {rest : List Value} (hstack : g.stack = msg :: .ref a :: .ref a :: rest)
    (hd6 : decode c.code g.pc = .ok (.invokespecial ic, 3)) (hd9 : decode c.code (g.pc + 3) = .ok (.athrow, 1)) (hout : ∀ x ∈ c.exceptionTable.toList, covers x (g.pc + 3) = false)
    (hRframes : names.length + 3 < R.frames) (hRlocals : 2 * g.monitorRoom + ((Value.ref a :: rest).map fun v => v.category).sum + (13 * (names.length + 1) + 42) ≤ R.locals) (hlocks : meth.locks = false) :
    ∃ U : State, Steps p.tables e below (Wt.setTop g) U ∧ U.status = .running ∧ Ended U below (.threw a) ∧ s.WarmedH U.vm ∧ s.sameButNew ({ U with vm := s.vm } : State) locs cells slots ∧
      ∃ ce, U.heap[a]? = some ce ∧ ce.cls = cX ∧ ce.vm = .none := by
  have howns : e.platform.frameOwnsMonitors = true := by rw [X.admits.platform]
  have hfin : e.platform.finalization = false := by rw [X.admits.platform]
  have hpl : e.platform.magicAccessors = ({} : Platform).magicAccessors := by rw [X.admits.platform]
  have a' : ∀ x, x ∈ Bundle.ownAtomsX own ic cls ix rx names → x.holds args s none s [] = true := fun x hx => h x hx
  obtain ⟨T, Z0, L, -, Y⟩ := ThrowableC.of_atoms (args := args) howns hfin hpl (fun x hx => h x (by simp [Bundle.ownAtomsX, hx]))
  obtain ⟨Z, M, LZ, LM, hnZ⟩ := Init0T.ofS_atoms (args := args) hpl L Y (fun x hx => h x (by simp [Bundle.ownAtomsX, hx]))
  obtain ⟨P1, Ps, hlen, L1, hL, hP1m, hlink1, hlink⟩ := Bundle.chainSX (args := args) hpl hnZ x0 x1 x2 x5 names cls hcls hnames (fun x hx => h x (by simp [Bundle.ownAtomsX, hx]))
  have hfound : s.vm.findClass cls = some P1.m.cls := findClass_of_methodNamed hP1m
  cases Option.some.inj (hfoundX.symm.trans hfound)
  obtain ⟨c1, kX', hc1, hk, hord, -, -, hn6⟩ := Cond.instantiable_spec (a' (.instantiable cls 6) (by simp [Bundle.ownAtomsX]))
  cases Option.some.inj (hc1.symm.trans hfound)
  cases Option.some.inj (hkX.symm.trans hk)
  have hsel0 : selectMethod e.platform s.vm P1.m.cls T.fill0 = .method T.fill0 := by
    obtain ⟨c2, r2, m2, q1, q2, q3, q4, -⟩ := Cond.selects_spec (a' (.selects cls Bundle.tFill0 Bundle.tFill0) (by simp [Bundle.ownAtomsX]))
    cases Option.some.inj (q1.symm.trans hfound)
    cases Option.some.inj (q2.symm.trans (State.methodFound?_of_named Y.fill0 (by decide)))
    cases Option.some.inj (q3.symm.trans Y.fill0)
    rw [Launch.admits_selectMethod X.admits]; exact q4
  have hselF : selectMethod e.platform s.vm P1.m.cls T.fill = .method T.fill := by
    obtain ⟨c2, r2, m2, q1, q2, q3, q4, -⟩ := Cond.selects_spec (a' (.selects cls Bundle.tFill Bundle.tFill) (by simp [Bundle.ownAtomsX]))
    cases Option.some.inj (q1.symm.trans hfound)
    cases Option.some.inj (q2.symm.trans (State.methodFound?_of_named Y.fill (by decide)))
    cases Option.some.inj (q3.symm.trans Y.fill)
    rw [Launch.admits_selectMethod X.admits]; exact q4
  obtain ⟨cellS0, hcS0, hiss⟩ := Y.statics
  obtain ⟨u0, hu0⟩ := Cond.staticRefV Y.unassigned L.unassignedStatic L.statics hcS0 hiss (a' (.isRef (.static Bundle.tN "UNASSIGNED_STACK" Bundle.steD)) (by simp [Bundle.ownAtomsX]))
  obtain ⟨sen, hsen⟩ := Cond.staticRefV Y.sentinel L.sentinelStatic L.statics hcS0 hiss (a' (.isRef (.static Bundle.tN "SUPPRESSED_SENTINEL" Bundle.listD)) (by simp [Bundle.ownAtomsX]))
  obtain ⟨ci198, i198, fB, hk198, hg198, ha198, hsB, -, hnB, htB, hffB⟩ := Cond.ownField (t := .object "java/lang/Object") Y.found L.cls (by decide +kernel) (a' (.fieldLink Bundle.tN 198 Bundle.tN "backtrace" "Ljava/lang/Object;") (by simp [Bundle.ownAtomsX])) (a' (.lays Bundle.tN Bundle.tN "backtrace" "Ljava/lang/Object;") (by simp [Bundle.ownAtomsX])) e.platform hpl
  obtain ⟨cellS, hcS', heS, -, hkeep⟩ := X.same.2.2.2.2.2 T.aS cellS0 hcS0
  have hcellS : Wt.heap[T.aS]? = some cellS := hcS'
  have hout' : ∀ i, (⟨T.aS, i⟩ : Loc) ∉ locs := fun i hmem => by
    have := hlocs _ hmem cellS0 hcS0
    rw [hiss] at this; cases this
  have hknownS : cellS.vm ≠ .unknown := by
    rw [heS]; intro hu
    rw [show cellS0.vm = .unknown from hu] at hiss
    cases hiss
  have hneS : T.aS ≠ a := Nat.ne_of_lt (Nat.lt_of_lt_of_le (Array.getElem?_eq_some_iff.mp hcS0).1 hnew)
  obtain ⟨iM, hffM⟩ := Y.msg
  obtain ⟨tyC, dC, hdC, hdnC⟩ := Cond.laysAt hfound hk Y.cause (a' (.lays cls Bundle.tN "cause" "Ljava/lang/Throwable;") (by simp [Bundle.ownAtomsX]))
  obtain ⟨tyS, dS, hdS, hdnS⟩ := Cond.laysAt hfound hk Y.stack (a' (.lays cls Bundle.tN "stackTrace" Bundle.steD) (by simp [Bundle.ownAtomsX]))
  obtain ⟨tyP, dP, hdP, hdnP⟩ := Cond.laysAt hfound hk Y.supp (a' (.lays cls Bundle.tN "suppressedExceptions" Bundle.listD) (by simp [Bundle.ownAtomsX]))
  obtain ⟨tyM, dM, hdM, hdnM⟩ := Cond.laysAt hfound hk hffM (a' (.lays cls Bundle.tN "detailMessage" "Ljava/lang/String;") (by simp [Bundle.ownAtomsX]))
  obtain ⟨tyB, dB, hdB, hdnB⟩ := Cond.laysAt hfound hk hffB (a' (.lays cls Bundle.tN "backtrace" "Ljava/lang/Object;") (by simp [Bundle.ownAtomsX]))
  have bC := Cond.laysApart hdB hdC hdnB hdnC (by rw [hnB, Y.causeName]; decide)
  have bS := Cond.laysApart hdB hdS hdnB hdnS (by rw [hnB, Y.stackName]; decide)
  have bP := Cond.laysApart hdB hdP hdnB hdnP (by rw [hnB, Y.suppName]; decide)
  have hskip : SkipFacts T e.platform s (fun u => u) u0 ((preparedCellV T.toThrowableT (freshCell P1.m.cls kX) a u0 sen).withEntry Wt.cur) :=
    ⟨{ ci198 := ci198, i198 := i198, fBack := fB }, ⟨hk198, hg198, ha198, hsB⟩, by
      have := fresh_default (c := P1.m.cls) tyB
      rw [htB] at this
      simpa [preparedCellV, Cell.setSlot, Cell.withEntry, Array.getElem?_setIfInBounds, bC, bS, bP, bC.symm, bS.symm, bP.symm, defaultValue] using this, fun _ _ => rfl⟩
  obtain ⟨tm, methC, cdC, kC, vm₁, hnC, -, -, -, -, -, -, -, hW₁, st1⟩ := Steps.initColdS (tb := p.tables) (e := e) (below := below) (s := s) (U := Wt) X.here hexec X.warmed hpl hown (t := Bundle.initS cls) rfl rfl (Bundle.fit_spec hcls).2
    (a' (.methodLink own ic (Bundle.initS cls)) (by simp [Bundle.ownAtomsX])) (h (.instanceMethod (Bundle.initS cls)) (by cases names <;> simp [Bundle.ownAtomsX, Bundle.chainSAtomsX, Bundle.passSAtoms])) (bytes := rx) (maxL := 2) (h (.code (Bundle.initS cls) rx 2 none) (by cases names <;> simp [Bundle.ownAtomsX, Bundle.chainSAtomsX, Bundle.passSAtoms]))
    (f := g) hg (a := a) (msg := msg) (rest := .ref a :: rest) hstack hd6
  cases Option.some.inj (hnC.symm.trans hP1m)
  have X₁ := X.noted hW₁
  obtain ⟨vm₂, X₂, st2⟩ := X₁.ctorMessageOffV hexec (g := { g with stack := .ref a :: rest }) hg hsize T L Z LZ M LM (P1 :: Ps)
    (fun P hP => by rcases List.mem_cons.mp hP with rfl | hP; exact L1; exact hL P hP) ⟨hlink1, hlink⟩ (u0 := u0) (sen := sen) (self := a) hmsg (cell := freshCell P1.m.cls kX) (cellS := cellS)
    hcell (fun _ => by simp) (by simp) rfl rfl hsel0 hselF hcellS hneS hknownS (by rw [hkeep _ (hout' _)]; exact hu0) (by rw [hkeep _ (hout' _)]; exact hsen)
    (Takes.of_laid hk hord tyC (by rw [Y.causeType]; rfl)) (Takes.of_laid hk hord tyS (by rw [Y.stackType]; exact fits_refV_array _ u0)) (Takes.of_laid hk hord tyP (by rw [Y.suppType]; exact fits_refV_object _ sen))
    (Takes.of_laid hk hord tyM (by rw [Y.msgType]; exact fits_refV_object _ ⟨msg, hmsg⟩)) Y.objLocals hskip htr [] hd6
    (by simp only [List.length_cons, hlen]; omega) (by simp only [List.length_cons, hlen]; exact hRlocals)
  obtain ⟨hwalk, hrun, hended, hWU, hsame⟩ := X₂.athrowLeaves hexec (g := { g with stack := .ref a :: rest, pc := g.pc + 3 }) hg hlocked hentered hout (a := a) (rest := rest) rfl hd9
  have hlt : a < ((Wt.setVm vm₁).setVm vm₂).heap.size := (Array.getElem?_eq_some_iff.mp hcell).1
  have hU := heapAt_setCell_self (s := (Wt.setVm vm₁).setVm vm₂) (plainBareV T.toThrowableT (freshCell P1.m.cls kX) a u0 sen msg) hlt
  refine ⟨_, st1 _ (fun acts => ?_), hrun, hended, hWU, hsame.weaken (fun y hy hlt' => ?_) (Nat.le_refl _) (Nat.le_refl _), _, hU, rfl, rfl⟩
  · rw [doInvoke_state]
    exact st2 _ hwalk
  · rcases List.mem_append.mp hy with h1 | h1
    · exact h1
    · exfalso
      have hb : y.base = a := by
        simp only [List.mem_cons, List.not_mem_nil, or_false] at h1
        rcases h1 with rfl | rfl | rfl | rfl | rfl <;> rfl
      rw [hb] at hlt'
      exact Nat.not_lt.mpr hnew hlt'
theorem m_own {args : Array Value} {s : State} {L : List Cond} (h1 : ∀ w ∈ L.filter vx_no, w.before args s = true)
    (h2 : (Cond.isRef (.static Bundle.tN "UNASSIGNED_STACK" Bundle.steD)).before args s = true) (h3 : (Cond.isRef (.static Bundle.tN "SUPPRESSED_SENTINEL" Bundle.listD)).before args s = true)
    (h4 : (Cond.laysStatic Bundle.tN "UNASSIGNED_STACK" Bundle.steD).before args s = true) (h5 : (Cond.laysStatic Bundle.tN "SUPPRESSED_SENTINEL" Bundle.listD).before args s = true) : ∀ w ∈ L, w.before args s = true := vx_own h1 h2 h3 h4 h5
variable {H : Heap} {locs : List Loc} {cells slots : Nat} {free : Addr → Prop} {ls : Array Slot} {rest : List Value} {Qc : Array Value → State → Outcome → State → Prop} {XC : String → State → State → Prop}
theorem m_throwX {cc : ByteArray} {pc k : Nat} (hexec : p.tables.exec = Jvm.exec) (hb : c.code = cc) (hl : l.stackTraces = false) {own cls text : String} {names : List String} {ik is ic mc ms sa : Nat} {A : Nat → Prop}
    {ix : Nat} {rx : ByteArray} (x0 : decode rx 0 = .ok (.aload_n 0, 1)) (x1 : decode rx 1 = .ok (.aload_n 1, 1)) (x2 : decode rx 2 = .ok (.invokespecial ix, 3)) (x5 : decode rx 5 = .ok (.return_, 1))
    (hown : s.vm.findClass own = some m.cls) (hcls : Bundle.fit cls = true) (hnames : ∀ n ∈ names, Bundle.fit n = true)
    (hk : (Cond.classLink own ik cls).before args s = true) (hini : (Cond.initialized cls).before args s = true) (hstr : vk_R own is text sa s) (hat : ∀ w ∈ (Bundle.ownAtomsX own ic cls ix rx names).filter vx_no, w.before args s = true)
    (hgood : ∀ w ∈ Cond.classLink own ik cls :: Cond.initialized cls :: (Bundle.ownAtomsX own ic cls ix rx names).filter vx_no, vx_ot w = true)
    (hU : vx_Zq Bundle.tN "UNASSIGNED_STACK" Bundle.steD A s s.heap) (hN : vx_Zq Bundle.tN "SUPPRESSED_SENTINEL" Bundle.listD A s s.heap) (hS : va_S A s.heap H locs) (hsize : ls.size = c.maxLocals)
    (d0 : decode cc pc = .ok (.new ik, 3)) (d3 : decode cc (pc + 3) = .ok (.dup, 1)) (d4 : (decode cc (pc + 4) = .ok (.ldc is, 2) ∧ k = 2) ∨ (decode cc (pc + 4) = .ok (.ldc_w is, 3) ∧ k = 3)) (d6 : decode cc (pc + 4 + k) = .ok (.invokespecial ic, 3)) (d9 : decode cc (pc + 4 + k + 3) = .ok (.athrow, 1))
    (hout : ∀ x ∈ c.exceptionTable.toList, covers x (pc + 4 + k + 3) = false)
    (hRframes : names.length + 3 < R.frames) (hRlocals : (rest.map fun v => v.category).sum + (13 * (names.length + 1) + 43) ≤ R.locals) (hRcells : cells + 1 ≤ R.cells) (hRslots : slots + 6 ≤ R.slots) (hlocks : meth.locks = false)
    (hx : ∀ t : State, s.vm.Alike t.vm → H.size ≤ t.heap.size → (∀ q : Nat, q < H.size → t.heap[q]? = H[q]?) → XC cls s t)
    (hf : ∀ z ∈ locs, free z.base) (hc : cells + 1 ≤ mc) (hs : slots + 6 ≤ ms) :
    W p l e R s m args below meth c H locs cells slots (vx_MQ below Qc XC args s mc ms free) (F0 m pc ls rest) := by
  intro T hT X
  have htr : e.platform.stackTraces = false := (show e.platform.stackTraces = l.stackTraces by rw [X.admits.platform]).trans hl
  have Y := vx_rebase X (R' := { frames := R.frames, locals := R.locals, cells := 1, slots := 6 }) (Nat.le_refl _) (Nat.le_refl _) hRcells hRslots
  obtain ⟨s', hA⟩ : ∃ z, z = (T.setVm s.vm).setFrames (.invoking m args :: below) := ⟨_, rfl⟩
  rw [← hA] at Y
  have hvm : s'.vm = s.vm := by rw [hA]; rfl
  have hhp : s'.heap = H := by rw [hA]; exact hT
  have hW0 : s.WarmedH s'.vm := by rw [hvm]; exact State.WarmedH.refl s
  have hat' : ∀ w ∈ (Bundle.ownAtomsX own ic cls ix rx names).filter vx_no, w.before args s' = true := fun w hw => vx_ot_at hW0 hvm.symm (hgood w (List.mem_cons_of_mem _ (List.mem_cons_of_mem _ hw))) (hat w hw)
  have hk' : (Cond.classLink own ik cls).before args s' = true := vx_ot_at hW0 hvm.symm (hgood _ List.mem_cons_self) hk
  have hini' : (Cond.initialized cls).before args s' = true := vx_ot_at hW0 hvm.symm (hgood _ (List.mem_cons_of_mem _ List.mem_cons_self)) hini
  have hU' : vx_Zq Bundle.tN "UNASSIGNED_STACK" Bundle.steD A s' s'.heap := by rw [hhp]; exact vx_Zq.moved hW0.alike (hU.kept hS.2.1)
  have hN' : vx_Zq Bundle.tN "SUPPRESSED_SENTINEL" Bundle.listD A s' s'.heap := by rw [hhp]; exact vx_Zq.moved hW0.alike (hN.kept hS.2.1)
  have h : ∀ w ∈ Bundle.ownAtomsX own ic cls ix rx names, w.before args s' = true := m_own hat' (vx_isRefq hU'.1) (vx_isRefq hN'.1) hU'.2.word hN'.2.word
  have hown' : s'.vm.findClass own = some m.cls := by rw [hvm]; exact hown
  have hins : (Cond.instantiable cls 6).before args s' = true := h _ (by simp [Bundle.ownAtomsX])
  obtain ⟨vm₁, cX, kX, hfX, hkX, -, -, X₁, st1⟩ := Y.newCold hexec (own := own) (C := cls) (index := ik) (n := 6) hown' hk' hins hini'
    (g := F0 m pc ls rest) rfl (by rw [hb]; exact d0) (Nat.le_refl _) (Nat.le_refl _)
  generalize hT1 : (T.setVm vm₁).pushCell { cls := cX, slots := kX.instanceTypes.map defaultValue, vm := .none } = T1 at X₁ st1
  have hcat : (Value.ref T.heap.size).category = 1 := rfl
  have hcellA : T1.heap[T.heap.size]? = some (freshCell cX kX) := by rw [← hT1]; exact State.heap_pushCell_size _ _
  have d3' : decode c.code (pc + 3) = .ok (.dup, 1) := by rw [hb]; exact d3
  have hstr' : vk_R own is text sa s' := vk_R.warm hW0 hstr
  obtain ⟨U, hsteps, hrun, hend, hW, hsame, ce, hce, hOc, hOv⟩ := m_ctorSX X₁ hexec htr (own := own) (cls := cls) (names := names) (ic := ic) x0 x1 x2 x5 hown' hcls hnames h (fun x hx => nomatch hx) hfX hkX hcellA (by rw [hhp, hT]; exact Nat.le_refl _) (msg := .ref sa) rfl
    (g := { method := m, pc := pc + 4 + k, locals := ls, stack := .ref sa :: .ref T.heap.size :: .ref T.heap.size :: rest, locked := none }) rfl hsize rfl rfl (rest := rest) rfl
    (by rw [hb]; exact d6) (by rw [hb]; exact d9) hout hRframes (by simp only [List.map_cons, List.sum_cons, hcat]; omega) hlocks
  obtain ⟨f1, f2⟩ := vx_frame hsame
  rw [hhp] at f1 f2
  have hWs : s.WarmedH U.vm := State.WarmedH.trans hW0 hW
  have hcl : s.vm.findClass cls = some ce.cls := by
    rw [hOc, ← hvm]
    exact hfX
  have hall : s.sameButNew ({ U with vm := s.vm } : State) locs mc ms := by
    subst hA
    obtain ⟨e1, e2⟩ := hsame
    rw [State.setFrames_setFrames] at e1
    have h2 : (T.setVm s.vm).sameButNew ({ U with vm := s.vm } : State) [] (0 + 1) (0 + 6) := ⟨e1, e2⟩
    have h3 := X.same.trans h2
    rw [List.append_nil] at h3
    exact h3.mono hc hs
  refine ⟨U, ?_, .threw T.heap.size, hrun, hend, Or.inr ⟨T.heap.size, rfl, cls, ce, locs, hx U hWs.alike f1 (fun q hq => f2 q hq (fun z hz => nomatch hz)), hce, hOv, hcl, hWs, hall, hf⟩⟩
  refine st1 _ ?_
  show Steps p.tables e below (T1.setTop { method := m, pc := pc + 3, locals := ls, stack := .ref T.heap.size :: rest, locked := none }) _
  jvm_step X₁.here [X₁.here.top, hexec, d3', Value.category]
  rcases d4 with ⟨d4, rfl⟩ | ⟨d4, rfl⟩
  · have d4' : decode c.code (pc + 4) = .ok (.ldc is, 2) := by rw [hb]; exact d4
    exact X₁.ldcString hexec (own := own) (text := text) (index := is) (a := sa) hown' hstr'.1 hstr'.2
      (g := { method := m, pc := pc + 4, locals := ls, stack := .ref T.heap.size :: .ref T.heap.size :: rest, locked := none }) rfl d4' _ hsteps
  · have d4' : decode c.code (pc + 4) = .ok (.ldc_w is, 3) := by rw [hb]; exact d4
    exact X₁.ldcStringW hexec (own := own) (text := text) (index := is) (a := sa) hown' hstr'.1 hstr'.2
      (g := { method := m, pc := pc + 4, locals := ls, stack := .ref T.heap.size :: .ref T.heap.size :: rest, locked := none }) rfl d4' _ hsteps
end MX
/-! ===== its words ===== -/
def mix (e : Nat) : Nat := match e with
  | 3 => 13
  | _ => 7
def mrx (e : Nat) : ByteArray := match e with
  | 3 => ⟨#[0x2a, 0x2b, 0xb7, 0x00, 0x0d, 0xb1]⟩
  | _ => Bundle.six
def mxa (e : Nat) : List Jvm.Cond := (Bundle.ownAtomsX (mR 11) (mic e) (mEn e) (mix e) (mrx e) mEs).filter vx_no
def mxck (e : Nat) : Bool := Nat.beq (mxa e).length (mp_xa e).length && ((mxa e).zip (mp_xa e)).all (fun q => vx_ot q.1 && (bif Nat.beq q.2 0 then decide (q.1 ∈ mNW) else mG1 q.2 q.1)) && Bundle.fit (mEn e)
  && decide (decode (mrx e) 0 = .ok (.aload_n 0, 1)) && decide (decode (mrx e) 1 = .ok (.aload_n 1, 1)) && decide (decode (mrx e) 2 = .ok (.invokespecial (mix e), 3)) && decide (decode (mrx e) 5 = .ok (.return_, 1))
theorem mxck_ok : (List.range 3).all mxck = true := by decide +kernel
theorem mEs_fit : ∀ n ∈ mEs, Bundle.fit n = true := by decide +kernel
theorem mEL_ok : (List.range 32).all (fun o => (mEL o).all (fun e => mG1 e.2.2 (.classLink (mR o) e.1 (mEn e.2.1)))) = true := by decide +kernel
theorem mXL_ok : (List.range 32).all (fun o => (mXL o).all (fun e => decide (mR o = mR 11) && Nat.blt e.2.2.2 3 && Nat.beq e.1 (mik e.2.2.2) && Nat.beq e.2.2.1 (mic e.2.2.2) && (mEL 11).any (fun z => Nat.beq z.1 e.1 && Nat.beq z.2.1 e.2.2.2) && mXTL.any (fun z => Nat.beq z.1 11 && Nat.beq z.2.1 e.2.1))) = true := by decide +kernel
theorem mzip_in {A B : Type} : ∀ (l : List A) (r : List B), l.length = r.length → ∀ w ∈ l, ∃ p, (w, p) ∈ l.zip r
  | [], _, _, w, h => absurd h (by simp)
  | _ :: _, [], h, _, _ => absurd h (by simp)
  | a :: l, b :: r, h, w, hw => by
    rcases List.mem_cons.mp hw with rfl | hw
    · exact ⟨b, by simp⟩
    · obtain ⟨p, hp⟩ := mzip_in l r (by simpa using h) w hw
      exact ⟨p, by simp [hp]⟩
theorem mxa_in {e : Nat} (he : e < 3) : (∀ w ∈ mxa e, vx_ot w = true ∧ (w ∈ mNW ∨ w ∈ GW)) ∧ Bundle.fit (mEn e) = true ∧ decode (mrx e) 0 = .ok (.aload_n 0, 1) ∧ decode (mrx e) 1 = .ok (.aload_n 1, 1) ∧ decode (mrx e) 2 = .ok (.invokespecial (mix e), 3) ∧ decode (mrx e) 5 = .ok (.return_, 1) := by
  have h := List.all_eq_true.mp mxck_ok e (List.mem_range.mpr he)
  simp only [mxck, Bool.and_eq_true, decide_eq_true_eq] at h
  obtain ⟨⟨⟨⟨⟨⟨h1, h2⟩, h3⟩, h4⟩, h5⟩, h6⟩, h7⟩ := h
  refine ⟨fun w hw => ?_, h3, h4, h5, h6, h7⟩
  obtain ⟨q, hq⟩ := mzip_in _ _ (Nat.eq_of_beq_eq_true h1) w hw
  have h8 := List.all_eq_true.mp h2 _ hq
  simp only [Bool.and_eq_true] at h8
  refine ⟨h8.1, ?_⟩
  have h9 := h8.2
  cases hc : Nat.beq q 0 with
  | true => rw [hc] at h9; exact Or.inl (of_decide_eq_true h9)
  | false => rw [hc] at h9; exact Or.inr (mG1_in h9)
/-! ===== a callee's contract out of the small machine ===== -/
theorem mown_ok : (List.range 420).all (fun j => Nat.blt (mown j) 32) = true := by decide +kernel
theorem mown_lt {j : Nat} (h : mre j = true) : mown j < 32 := by
  have h1 := List.all_eq_true.mp mown_ok j (List.mem_range.mpr (mre_lt h))
  simpa only [Nat.blt_eq] using h1
theorem mdec_ok {j pc : Nat} {r : Instr × Nat} (h : mdec j pc = some r) : decode (mb j) pc = .ok r := by
  unfold mdec at h
  split at h
  · rename_i q hq
    cases h
    exact hq
  · cases h
theorem mthr_out {j o pc e : Nat} (h : mthr j o pc e = true) : ∃ ik is ic k, decode (mb j) pc = .ok (.new ik, 3) ∧ decode (mb j) (pc + 3) = .ok (.dup, 1) ∧ ((decode (mb j) (pc + 4) = .ok (.ldc is, 2) ∧ k = 2) ∨ (decode (mb j) (pc + 4) = .ok (.ldc_w is, 3) ∧ k = 3))
    ∧ decode (mb j) (pc + 4 + k) = .ok (.invokespecial ic, 3) ∧ decode (mb j) (pc + 4 + k + 3) = .ok (.athrow, 1) ∧ (ik, is, ic, e) ∈ mXL o := by
  unfold mthr at h
  split at h
  · rename_i ik is h0 h3 h4
    split at h
    · rename_i ic h6 h9
      exact ⟨ik, is, ic, 2, mdec_ok h0, mdec_ok h3, Or.inl ⟨mdec_ok h4, rfl⟩, mdec_ok h6, mdec_ok h9, List.contains_iff_mem.mp h⟩
    · cases h
  · rename_i ik is h0 h3 h4
    split at h
    · rename_i ic h6 h9
      exact ⟨ik, is, ic, 3, mdec_ok h0, mdec_ok h3, Or.inr ⟨mdec_ok h4, rfl⟩, mdec_ok h6, mdec_ok h9, List.contains_iff_mem.mp h⟩
    · cases h
  · cases h
theorem mexc4 : (List.range 3).all (fun e => mp_exc.any (fun z => mG1 z.2 (.initialized (mEn e)))) = true := by decide +kernel
section SJ
variable {p : Program} {l : Launch} {e : Env} {s : State} {mid : MethodId} {args : Array Value} {below : List Frame} {meth : Method} {c : Code}
variable {E : mE} {D : va_G} {tc : Int → ClassId} {O : mO} {j : Nat} {K : mK}
theorem m_thrw (h0 : 0 < j) (hj : mre j = true) (hF : mFrame l E D tc O j p s mid args meth c) : mHthr p l e s mid args below meth c (vx_MQ below (mQc E D tc K) (mXc E D tc K) args s (mmc j) (mms j) (mAr E)) E D tc j K := by
  obtain ⟨hx, hb, hm, hr, hown, hGW, hlocks, hname, htab, hK, hO, hl⟩ := hF
  intro ex G d H locs cs ss pc ls S h09 hk hrep hs hthr hh hroom hsz
  obtain ⟨ik, is, ic, k, d0, d3, d4, d6, d9, hXL⟩ := mthr_out hthr
  have h1 := m_all16 mXL_ok (mown_lt hj) hXL
  simp only [Bool.and_eq_true, Nat.blt_eq] at h1
  obtain ⟨⟨⟨⟨⟨h11, h4⟩, hik⟩, hic⟩, hEL⟩, hTL⟩ := h1
  have h11 : mR (mown j) = mR 11 := of_decide_eq_true h11
  have hik := Nat.eq_of_beq_eq_true hik
  have hic := Nat.eq_of_beq_eq_true hic
  obtain ⟨z, hz, hz2⟩ := List.any_eq_true.mp hEL
  simp only [Bool.and_eq_true] at hz2
  have hz3 := m_all16 mEL_ok (o := 11) (by omega) hz
  rw [Nat.eq_of_beq_eq_true hz2.1, Nat.eq_of_beq_eq_true hz2.2] at hz3
  obtain ⟨y, hy, hy2⟩ := List.any_eq_true.mp hTL
  simp only [Bool.and_eq_true] at hy2
  obtain ⟨hO1, hO2, hO3, hO4, hO5, hO6, hO7, hO8, hO9, hO10, hO11, -⟩ := hO
  obtain ⟨sa, hsa⟩ := hO9 y hy
  rw [Nat.eq_of_beq_eq_true hy2.1, Nat.eq_of_beq_eq_true hy2.2] at hsa
  obtain ⟨hat, hfit, x0, x1, x2, x5⟩ := mxa_in h4
  have hexc : Jvm.Cond.initialized (mEn ex) ∈ GW := by
    obtain ⟨y9, -, hy9⟩ := List.any_eq_true.mp (List.all_eq_true.mp mexc4 ex (List.mem_range.mpr h4))
    exact mG1_in hy9
  have hgw : ∀ w ∈ GW, vx_ot w = true := fun w hw => by
    have := (List.mem_filter.mp hw).2
    simp [vx_ot, this]
  have htab : c.exceptionTable.toList = [] := by rw [htab h0, hh]; rfl
  rw [hik] at d0
  rw [hic] at d6
  have hcl : Jvm.Cond.classLink (mR 11) (mik ex) (mEn ex) ∈ GW := by rw [← hik]; exact mG1_in hz3
  exact m_throwX (own := mR 11) (cls := mEn ex) (names := mEs) (ik := mik ex) (is := is) (ic := mic ex) (ix := mix ex) (rx := mrx ex) hx hb hl x0 x1 x2 x5 (by rw [← h11]; exact hown) hfit mEs_fit (hGW _ hcl) (hGW _ hexc) hsa
    (fun w hw => by
      obtain ⟨hot, hw9⟩ := hat w hw
      rcases hw9 with hw9 | hw9
      · exact vx_ot_at (State.WarmedH.refl s) rfl hot (hO1 w hw9)
      · exact hGW w hw9)
    (fun w hw => by
      rcases List.mem_cons.mp hw with rfl | hw
      · exact hgw _ hcl
      · rcases List.mem_cons.mp hw with rfl | hw
        · exact hgw _ hexc
        · exact (hat w hw).1)
    hO7 hO8 hs (by rw [hm]; exact hsz) d0 d3 d4 d6 d9 (fun x hx => by rw [htab] at hx; cases hx) hroom.1
    (by
      have h5 := m_cats E S
      have h6 : mcats S + 82 ≤ (mRm j).locals := hroom.2.1
      have h7 : mEs.length = 2 := rfl
      rw [h5, h7]
      omega)
    hroom.2.2.1 hroom.2.2.2 hlocks
    (fun t hA h5 h6 => ⟨(by obtain ⟨nx, n1, n2, n3⟩ := mRep_forget hrep h09 h5 h6; exact ⟨ex, (G.1, G.2.1, nx), d, rfl, h4, hk nx n1 n2, n3⟩), Nat.le_trans hs.1 h5, fun q hq hn => by rw [h6 q (Nat.lt_of_lt_of_le hq hs.1)]; exact hs.2.1 q hq hn⟩)
    hs.2.2 hroom.2.2.1 hroom.2.2.2
theorem m_contract (hl : l.stackTraces = false) (h0 : 0 < j) (hj : mre j = true) {as : List mV} {G : mG} {d : mD} (hlay : Nat.ble (mlay as).length (mmaxL j) = true) (hsim : mSim l E D tc O j (ment j as G d) K) :
    vx_Met l (my j) (mws j) (mRm j) (mPc E D tc O as G d) (mQc E D tc K) (mXc E D tc K) (mmc j) (mms j) (mAr E) := by
  have hJ := mJ_of h0 hj
  unfold mJm at hJ
  simp only [Bool.and_eq_true, decide_eq_true_eq] at hJ
  obtain ⟨⟨⟨⟨⟨-, hplain⟩, -⟩, -⟩, hcls⟩, -⟩ := hJ
  have go : ∀ p e s m args below meth c s₁, BodyLoose p l (my j) (headSpec (mws j) (mRm j)) (mb j) (mmaxL j) (mrt j) e s m args below meth c s₁ → c.maxLocals = mmaxL j → c.exceptionTable.toList = tableOf (mhh j) → mPc E D tc O as G d args s →
      W p l e (headSpec (mws j) (mRm j)).room s m args below meth c s.heap [] 0 0 (vx_MQ below (mQc E D tc K) (mXc E D tc K) args s (mmc j) (mms j) (mAr E)) (entryFrame m args (mmaxL j)) := by
    intro p e s m args below meth c s₁ B hml ht hP
    obtain ⟨rfl, hrep, hK, hO⟩ := hP
    have hts := atoms_spec (ws := mws j) B.pre
    have hF : mFrame l E D tc O j p s m (as.map (mval E)).toArray meth c := ⟨B.exec, B.bytes, hml, B.returns, by rw [← hcls]; exact findClass_of_methodNamed B.named, fun w hw => hts w (List.mem_cons_of_mem _ hw), B.notSynchronized, fun hn => (name_of_methodNamed B.named B.method).1.trans hn, fun _ => ht, hK, hO, hl⟩
    rw [lg_entry_eq]
    exact hsim hj p e s m _ below meth c _ hF ⟨m_retw (mre_lt hj) B.exec B.bytes B.returns B.notSynchronized, m_thrw h0 hj hF, m_catw (fun hh => by rw [ht, hh]; rfl) B.notSynchronized⟩ s.heap [] _ (mLoc_entry hlay) hrep va_S.rf (Nat.zero_le _) (Nat.zero_le _)
  cases hh : mhh j with
  | nil =>
    refine vx_ofW (cc := mb j) (maxL := mmaxL j) (ret := mrt j) hplain (ws' := GW) (by unfold mws mcode; rw [hh]) (fun p e s m args below meth c s₁ B hml ht hP => go p e s m args below meth c s₁ B hml ?_ hP)
    rw [hh]
    exact List.eq_nil_iff_forall_not_mem.mpr (fun x hx => ht x hx)
  | cons a t =>
    have hw : mws j = Cond.codeWith (my j) (mb j) (mmaxL j) (mrt j) (a :: t) :: GW := by unfold mws mcode; rw [hh]
    refine vx_ofWH (cc := mb j) (maxL := mmaxL j) (ret := mrt j) (hh := a :: t) hplain (ws' := GW) hw (fun p e s m args below meth c s₁ B hml hP => go p e s m args below meth c s₁ B hml ?_ hP)
    rw [hh]
    exact vx_table (x := my j) B (atoms_spec (ws := mws j) B.pre _ (by rw [hw]; exact List.mem_cons_self))
end SJ
/-! ===== BEGIN a constructor that throws (launches without stack traces) ===== -/
section VXIA
variable {p : Program} {l : Launch} {e : Env} {R : Room} {s : State} {m : MethodId} {args : Array Value} {below : List Frame} {meth : Method} {c : Code} {T : State} {locs : List Loc} {cells slots : Nat}
theorem vx_callI (X : Stand p l e R s m args below meth c T locs cells slots) (hexec : p.tables.exec = Jvm.exec) {own : String} {index : Nat} {y : MethodName} {bytes : ByteArray} {maxL : Nat}
    (hown : s.vm.findClass own = some m.cls) (hy1 : y.name = "<init>") (hlink : (Cond.methodLink own index y).before args s = true) (hinst : (Cond.instanceMethod y).before args s = true)
    (hcode : (Cond.code y bytes maxL none).before args s = true) (hy : y.cls ≠ "java/lang/invoke/MethodHandle" ∧ y.cls ≠ "java/lang/invoke/VarHandle")
    {W9 : Nat} {Pre : Pt → Array Value → Prop} {Post : Pt → Array Value → Option Value → Pt → Prop} {PostX : Pt → Array Value → Addr → Pt → Prop} (hK : vx_Back l R p e below s args y 3 W9 Pre Post PostX)
    {g : JFrame} (hg : g.method = m) (hsize : g.locals.size = c.maxLocals) {a : Addr} {argsL rest : List Value} (hlen : ∀ sig, parseMethodDescriptor y.desc = some sig → argsL.length = sig.parameters.length)
    (hstack : g.stack = argsL.reverse ++ .ref a :: rest) (hW : 2 * g.monitorRoom + (rest.map fun v => v.category).sum ≤ W9) (hdg : decode c.code g.pc = .ok (.invokespecial index, 3))
    (hpre : ∀ vm₁, s.WarmedH vm₁ → Pre ⟨T.setVm vm₁, locs, cells, slots⟩ (Value.ref a :: argsL).toArray) :
    (∃ (v : Option Value) (vm₁ : Vm) (B : Pt), s.WarmedH vm₁ ∧ Stand p l e R s m args below meth c B.U B.locs B.cells B.slots ∧ Post ⟨T.setVm vm₁, locs, cells, slots⟩ (Value.ref a :: argsL).toArray v B ∧
      ∀ target, Steps p.tables e below (B.U.setTop { g with pc := g.pc + 3, stack := v.toList ++ rest }) target → Steps p.tables e below (T.setTop g) target) ∨
    (∃ (q : Addr) (vm₁ : Vm) (B : Pt), s.WarmedH vm₁ ∧ Stand p l e R s m args below meth c B.U B.locs B.cells B.slots ∧ PostX ⟨T.setVm vm₁, locs, cells, slots⟩ (Value.ref a :: argsL).toArray q B ∧
      Steps p.tables e below (T.setTop g) ((B.U.setTop { g with stack := rest }).pushFrame (.throwing q))) := by
  subst hg
  have hpl : e.platform.magicAccessors = ({} : Platform).magicAccessors := by rw [X.admits.platform]
  obtain ⟨mk, methM, cM, kP, vm₁, hnamed, hmethM, hcodeM, -, hlocalsM, -, hkP, -, hW₁, hstep₁⟩ := Steps.initColdArgs (e := e) X.here hexec X.warmed hpl hown hy1 hy hlink hinst hcode (f := g) rfl hlen hstack hdg
  have X₁ := X.noted hW₁
  rcases hK g.method meth c ⟨T.setVm vm₁, locs, cells, slots⟩ { g with stack := rest } (.invokespecial index) mk (Value.ref a :: argsL).toArray X₁ rfl hsize hdg hW (X₁.named hnamed) (hpre vm₁ X₁.warmed) with ⟨v, B, X', hpost, hsteps⟩ | ⟨q, B, X', hpost, hsteps⟩
  · exact Or.inl ⟨v, vm₁, B, X₁.warmed, X', hpost, fun target h => hstep₁ _ fun acts => by rw [doInvoke_state]; exact hsteps.trans h⟩
  · exact Or.inr ⟨q, vm₁, B, X₁.warmed, X', hpost, hstep₁ _ fun acts => by rw [doInvoke_state]; exact hsteps⟩
end VXIA
section VXIB
variable {p : Program} {l : Launch} {e : Env} {R : Room} {s : State} {m : MethodId} {args : Array Value} {below : List Frame} {meth : Method} {c : Code} {H : Heap} {locs : List Loc} {cells slots : Nat}
variable {y : MethodName} {bytes cc : ByteArray} {maxL nL mc ms n index : Nat} {ret : Option FieldType} {ws : List Cond} {rm : Room} {Pc : Array Value → State → Prop} {Qc : Array Value → State → Outcome → State → Prop} {XC : String → State → State → Prop} {free : Addr → Prop} {Ts : List Cond} {own C : String} {b : Addr} {As rest : List Value} {g : JFrame}
theorem vx_runI (S : CallFix p m c cc nL s args Ts own) (hM : vx_Met l y ws rm Pc Qc XC mc ms free) (cw : CallB R s args own index y bytes maxL none ws rm mc ms n ∧ y.name = "<init>" ∧ (Cond.instanceMethod y).before args s = true) (hp : PreS s H Pc (.ref b :: As))
    (hg : g.method = m) (hn : As.length = n) (hsize : g.locals.size = nL) (hstack : g.stack = As.reverse ++ .ref b :: rest) (hW : 2 * g.monitorRoom + (rest.map fun v => v.category).sum ≤ 8) (hdg : decode cc g.pc = .ok (.invokespecial index, 3)) (hf : cells + mc ≤ R.cells ∧ slots + ms ≤ R.slots) :
    vx_Run p l e R s m args below meth c H locs cells slots mc ms g rest (Qc (Value.ref b :: As).toArray) XC free := by
  have hK : vx_Back l R p e below s args y 3 8 (PreOf R mc ms Pc) (PostOf Qc mc ms free) (vx_Post XC mc ms free) := vx_callBack cw.1 hM hp.1
  obtain ⟨⟨-, -, -, -, -, -, hcode, -, hy, hlen, hl⟩, hy1, hin⟩ := cw
  obtain ⟨hx, hb, hml, ho, -⟩ := S
  have hPc := hp.2
  intro T hT X
  rcases vx_callI X hx (bytes := bytes) (maxL := maxL) ho hy1 hl hin hcode hy hK hg (hsize.trans hml.symm) (a := b) (argsL := As) (rest := rest) (fun sig h => hn.trans (hlen sig h)) hstack hW (by rw [hb]; exact hdg)
    (fun vm₁ hW₁ => ⟨hf.1, hf.2, hPc (T.setVm vm₁) hT hW₁⟩) with ⟨v, vm₁, ⟨U', l2, c2, s2⟩, hW₁, X', ⟨g', mk, t, L, e1, e2, hq, h1, hL, h2, h3⟩, st⟩ | ⟨q, vm₁, ⟨U', l2, c2, s2⟩, hW₁, X', ⟨g', mk, t, L, E, ce, e1, e2, hq, hce, hcv, hcl, h1, hL, h2, h3⟩, st⟩
  · dsimp only [Pt.U, Pt.locs, Pt.cells, Pt.slots] at X' e1 e2 h1 h2 h3 st
    subst h1; subst h2; subst h3
    exact Or.inl ⟨v, (T.setVm vm₁).calling g' mk (Value.ref b :: As).toArray, t, U', L, hT, X', hL, e1, e2, hq, st⟩
  · dsimp only [Pt.U, Pt.locs, Pt.cells, Pt.slots] at X' e1 e2 h1 h2 h3 st hcl
    subst h1; subst h2; subst h3
    exact Or.inr ⟨q, (T.setVm vm₁).calling g' mk (Value.ref b :: As).toArray, t, U', L, E, ce, hT, X', hL, e1, e2, hq, hce, hcv, vx_cls hW₁ hcl, st⟩
end VXIB
/-! ===== END ===== -/
/-! ===== BEGIN a private constructor of a nest mate that throws ===== -/
section VXIC
variable {p : Program} {l : Launch} {e : Env} {R : Room} {s : State} {m : MethodId} {args : Array Value} {below : List Frame} {meth : Method} {c : Code} {T : State} {locs : List Loc} {cells slots : Nat}
theorem vx_callIN (X : Stand p l e R s m args below meth c T locs cells slots) (hexec : p.tables.exec = Jvm.exec) {own : String} {index : Nat} {host : String} {y : MethodName} {bytes : ByteArray} {maxL : Nat}
    (hown : s.vm.findClass own = some m.cls) (hy1 : y.name = "<init>") (hlink : (Cond.methodLinkNest own index y host).before args s = true) (hinst : (Cond.instanceMethod y).before args s = true)
    (hcode : (Cond.code y bytes maxL none).before args s = true) (hy : y.cls ≠ "java/lang/invoke/MethodHandle" ∧ y.cls ≠ "java/lang/invoke/VarHandle")
    {W9 : Nat} {Pre : Pt → Array Value → Prop} {Post : Pt → Array Value → Option Value → Pt → Prop} {PostX : Pt → Array Value → Addr → Pt → Prop} (hK : vx_Back l R p e below s args y 3 W9 Pre Post PostX)
    {g : JFrame} (hg : g.method = m) (hsize : g.locals.size = c.maxLocals) {a : Addr} {argsL rest : List Value} (hlen : ∀ sig, parseMethodDescriptor y.desc = some sig → argsL.length = sig.parameters.length)
    (hstack : g.stack = argsL.reverse ++ .ref a :: rest) (hW : 2 * g.monitorRoom + (rest.map fun v => v.category).sum ≤ W9) (hdg : decode c.code g.pc = .ok (.invokespecial index, 3))
    (hpre : ∀ vm₁, s.WarmedH vm₁ → Pre ⟨T.setVm vm₁, locs, cells, slots⟩ (Value.ref a :: argsL).toArray) :
    (∃ (v : Option Value) (vm₁ : Vm) (B : Pt), s.WarmedH vm₁ ∧ Stand p l e R s m args below meth c B.U B.locs B.cells B.slots ∧ Post ⟨T.setVm vm₁, locs, cells, slots⟩ (Value.ref a :: argsL).toArray v B ∧
      ∀ target, Steps p.tables e below (B.U.setTop { g with pc := g.pc + 3, stack := v.toList ++ rest }) target → Steps p.tables e below (T.setTop g) target) ∨
    (∃ (q : Addr) (vm₁ : Vm) (B : Pt), s.WarmedH vm₁ ∧ Stand p l e R s m args below meth c B.U B.locs B.cells B.slots ∧ PostX ⟨T.setVm vm₁, locs, cells, slots⟩ (Value.ref a :: argsL).toArray q B ∧
      Steps p.tables e below (T.setTop g) ((B.U.setTop { g with stack := rest }).pushFrame (.throwing q))) := by
  subst hg
  have hpl : e.platform.magicAccessors = ({} : Platform).magicAccessors := by rw [X.admits.platform]
  obtain ⟨mk, methM, cM, kP, vm₁, hnamed, hmethM, hcodeM, -, hlocalsM, -, hkP, -, hW₁, hstep₁⟩ := Steps.initColdArgsNest (e := e) X.here hexec X.warmed hpl hown hy1 hy hlink hinst hcode (f := g) rfl hlen hstack hdg
  have X₁ := X.noted hW₁
  rcases hK g.method meth c ⟨T.setVm vm₁, locs, cells, slots⟩ { g with stack := rest } (.invokespecial index) mk (Value.ref a :: argsL).toArray X₁ rfl hsize hdg hW (X₁.named hnamed) (hpre vm₁ X₁.warmed) with ⟨v, B, X', hpost, hsteps⟩ | ⟨q, B, X', hpost, hsteps⟩
  · exact Or.inl ⟨v, vm₁, B, X₁.warmed, X', hpost, fun target h => hstep₁ _ fun acts => by rw [doInvoke_state]; exact hsteps.trans h⟩
  · exact Or.inr ⟨q, vm₁, B, X₁.warmed, X', hpost, hstep₁ _ fun acts => by rw [doInvoke_state]; exact hsteps⟩
end VXIC
section VXID
variable {p : Program} {l : Launch} {e : Env} {R : Room} {s : State} {m : MethodId} {args : Array Value} {below : List Frame} {meth : Method} {c : Code} {H : Heap} {locs : List Loc} {cells slots : Nat}
theorem vx_runIN {y : MethodName} {bytes cc : ByteArray} {maxL nL mc ms n index : Nat} {ws : List Cond} {rm : Room} {Pc : Array Value → State → Prop} {Qc : Array Value → State → Outcome → State → Prop} {XC : String → State → State → Prop} {free : Addr → Prop} {Ts : List Cond} {own host : String} {b : Addr} {As rest : List Value} {g : JFrame}
    (S : CallFix p m c cc nL s args Ts own) (hM : vx_Met l y ws rm Pc Qc XC mc ms free) (cw : va_CN R s args own index y host bytes maxL none ws rm mc ms n ∧ y.name = "<init>" ∧ (Cond.instanceMethod y).before args s = true) (hp : PreS s H Pc (.ref b :: As))
    (hg : g.method = m) (hn : As.length = n) (hsize : g.locals.size = nL) (hstack : g.stack = As.reverse ++ .ref b :: rest) (hW : 2 * g.monitorRoom + (rest.map fun v => v.category).sum ≤ 8) (hdg : decode cc g.pc = .ok (.invokespecial index, 3)) (hf : cells + mc ≤ R.cells ∧ slots + ms ≤ R.slots) :
    vx_Run p l e R s m args below meth c H locs cells slots mc ms g rest (Qc (Value.ref b :: As).toArray) XC free := by
  obtain ⟨⟨⟨hrc, hrs, hfr, hlo, hws, hcw⟩, hcode, hini, hy, hlen, hl⟩, hx1, hx2⟩ := cw
  have hK : vx_Back l R p e below s args y 3 8 (PreOf R mc ms Pc) (PostOf Qc mc ms free) (vx_Post XC mc ms free) := vx_back (bytes := bytes) (maxL := maxL) (ret := none) hM hp.1 hrc hrs hfr hlo hws hcw (fun a' U hW => word_at hW (Or.inl (by first | rfl | simp [Cond.onTables, Cond.keeps, Cond.steady])) hini)
  obtain ⟨hx, hb, hml, ho, -⟩ := S
  have hPc := hp.2
  intro T hT X
  rcases vx_callIN X hx (bytes := bytes) (maxL := maxL) ho hx1 hl hx2 hcode hy hK hg (hsize.trans hml.symm) (a := b) (argsL := As) (rest := rest) (fun sig h => hn.trans (hlen sig h)) hstack hW (by rw [hb]; exact hdg)
    (fun vm₁ hW₁ => ⟨hf.1, hf.2, hPc (T.setVm vm₁) hT hW₁⟩) with ⟨v, vm₁, ⟨U', l2, c2, s2⟩, hW₁, X', ⟨g', mk, t, L, e1, e2, hq, h1, hL, h2, h3⟩, st⟩ | ⟨q, vm₁, ⟨U', l2, c2, s2⟩, hW₁, X', ⟨g', mk, t, L, E, ce, e1, e2, hq, hce, hcv, hcl, h1, hL, h2, h3⟩, st⟩
  · dsimp only [Pt.U, Pt.locs, Pt.cells, Pt.slots] at X' e1 e2 h1 h2 h3 st
    subst h1; subst h2; subst h3
    exact Or.inl ⟨v, (T.setVm vm₁).calling g' mk (Value.ref b :: As).toArray, t, U', L, hT, X', hL, e1, e2, hq, st⟩
  · dsimp only [Pt.U, Pt.locs, Pt.cells, Pt.slots] at X' e1 e2 h1 h2 h3 st hcl
    subst h1; subst h2; subst h3
    exact Or.inr ⟨q, (T.setVm vm₁).calling g' mk (Value.ref b :: As).toArray, t, U', L, E, ce, hT, X', hL, e1, e2, hq, hce, hcv, vx_cls hW₁ hcl, st⟩
end VXID
/-! ===== END ===== -/
/-! ===== BEGIN a method of a class above, found by the receiver, that may throw (follows va_callVU, va_runU of this kit) ===== -/
section
variable {p : Program} {l : Launch} {e : Env} {R : Room} {s : State} {m : MethodId} {args : Array Value} {below : List Frame} {meth : Method} {c : Code} {H : Heap} {locs : List Loc} {cells slots : Nat}
theorem vx_callVU {T : State} {locs : List Loc} {cells slots : Nat} (X : Stand p l e R s m args below meth c T locs cells slots) (hexec : p.tables.exec = Jvm.exec) {own C owner : String} {index : Nat} {x y : MethodName} {bytes : ByteArray} {maxL : Nat} {ret : Option FieldType}
    (hown : s.vm.findClass own = some m.cls) (hlink : (Cond.methodLink own index x).before args s = true) (hsame : (Cond.sameMethod x.cls owner x.name x.desc).before args s = true)
    (hd0 : va_Decl s ⟨owner, x.name, x.desc⟩) (howner : owner ≠ "java/lang/invoke/MethodHandle" ∧ owner ≠ "java/lang/invoke/VarHandle")
    (hsel : (Cond.selects C x y).before args s = true) (hinst : (Cond.instanceMethod y).before args s = true) (hcode : (Cond.code y bytes maxL ret).before args s = true)
    {W : Nat} {Pre : Pt → Array Value → Prop} {Post : Pt → Array Value → Option Value → Pt → Prop} {PostX : Pt → Array Value → Addr → Pt → Prop} (hK : vx_Back l R p e below s args y 3 W Pre Post PostX)
    {b : Addr} {cellB : Cell} (hcell : T.heap[b]? = some cellB) (hobj : cellB.vm.isStatics = false) (hcls : s.vm.findClass C = some cellB.cls)
    {g : JFrame} (hg : g.method = m) (hsize : g.locals.size = c.maxLocals) {argsL rest : List Value} (hlen : ∀ sig, parseMethodDescriptor x.desc = some sig → argsL.length = sig.parameters.length)
    (hstack : g.stack = argsL.reverse ++ .ref b :: rest) (hW : 2 * g.monitorRoom + (rest.map fun v => v.category).sum ≤ W) (hdg : decode c.code g.pc = .ok (.invokevirtual index, 3))
    (hpre : ∀ vm₁, s.WarmedH vm₁ → Pre ⟨T.setVm vm₁, locs, cells, slots⟩ (Value.ref b :: argsL).toArray) :
    (∃ (v : Option Value) (vm₁ : Vm) (B : Pt), s.WarmedH vm₁ ∧ Stand p l e R s m args below meth c B.U B.locs B.cells B.slots ∧ Post ⟨T.setVm vm₁, locs, cells, slots⟩ (Value.ref b :: argsL).toArray v B ∧
      ∀ target, Steps p.tables e below (B.U.setTop { g with pc := g.pc + 3, stack := v.toList ++ rest }) target → Steps p.tables e below (T.setTop g) target) ∨
    (∃ (q : Addr) (vm₁ : Vm) (B : Pt), s.WarmedH vm₁ ∧ Stand p l e R s m args below meth c B.U B.locs B.cells B.slots ∧ PostX ⟨T.setVm vm₁, locs, cells, slots⟩ (Value.ref b :: argsL).toArray q B ∧
      Steps p.tables e below (T.setTop g) ((B.U.setTop { g with stack := rest }).pushFrame (.throwing q))) := by
  obtain ⟨r0, r, hn, hrm, hstR, hsigR⟩ := hd0
  obtain ⟨cn, ck, r1, hcn, hck, hni, hf, hn1⟩ := Cond.sameMethod_found hsame
  cases hn.symm.trans hn1
  obtain ⟨mk, methM, hnamed, hmethM, -, habM⟩ := Cond.instanceMethod_spec hinst
  obtain ⟨c2, r2, m2, q1, q2, q3, q4, kP, hkP, hkPi⟩ := Cond.selects_spec hsel
  cases hcls.symm.trans q1
  cases hf.symm.trans q2
  cases hnamed.symm.trans q3
  have hselP : selectMethod e.platform s.vm cellB.cls r0 = .method mk := by rw [Launch.admits_selectMethod X.admits]; exact q4
  obtain ⟨vm₁, X₁, hstep₁⟩ := X.invokevirtualUp hexec hown hlink hsame howner hn hrm hstR (a := b) (cell := cellB) hcell
    (fun z h => by rw [h] at hobj; cases hobj) hselP hmethM habM hkP hkPi (g := g) hg (argsL := argsL) (rest := rest) (hlen _ hsigR) hstack hdg
  rcases hK m meth c ⟨T.setVm vm₁, locs, cells, slots⟩ { g with stack := rest } (.invokevirtual index) mk (Value.ref b :: argsL).toArray X₁ hg hsize hdg hW (X₁.named hnamed) (hpre vm₁ X₁.warmed) with ⟨v, B, X', hpost, hsteps⟩ | ⟨q, B, X', hpost, hsteps⟩
  · exact Or.inl ⟨v, vm₁, B, X₁.warmed, X', hpost, fun target h => hstep₁ _ fun acts => by rw [doInvoke_state]; exact hsteps.trans h⟩
  · exact Or.inr ⟨q, vm₁, B, X₁.warmed, X', hpost, hstep₁ _ fun acts => by rw [doInvoke_state]; exact hsteps⟩
theorem vx_runU {x y : MethodName} {bytes cc : ByteArray} {maxL nL mc ms n index : Nat} {ret : Option FieldType} {ws : List Cond} {rm : Room} {Pc : Array Value → State → Prop} {Qc : Array Value → State → Outcome → State → Prop} {XC : String → State → State → Prop} {free : Addr → Prop} {Ts : List Cond} {own C owner : String} {b : Addr} {As rest : List Value} {g : JFrame}
    (S : CallFix p m c cc nL s args Ts own) (hM : vx_Met l y ws rm Pc Qc XC mc ms free) (cw : va_CU R s args own C owner index x y bytes maxL ret ws rm mc ms n) (hp : PreV s H C b Pc As)
    (hg : g.method = m) (hn : As.length = n) (hsize : g.locals.size = nL) (hstack : g.stack = As.reverse ++ .ref b :: rest) (hW : 2 * g.monitorRoom + (rest.map fun v => v.category).sum ≤ 8) (hdg : decode cc g.pc = .ok (.invokevirtual index, 3)) (hf : cells + mc ≤ R.cells ∧ slots + ms ≤ R.slots) :
    vx_Run p l e R s m args below meth c H locs cells slots mc ms g rest (Qc (Value.ref b :: As).toArray) XC free := by
  obtain ⟨hrc, hrs, hfr, hlo, hws, hcw⟩ := cw.back
  have hini := cw.init
  have hK : vx_Back l R p e below s args y 3 8 (PreOf R mc ms Pc) (PostOf Qc mc ms free) (vx_Post XC mc ms free) := vx_back (bytes := bytes) (maxL := maxL) (ret := ret) hM hp.1 hrc hrs hfr hlo hws hcw (fun a' U hW => word_at hW (Or.inl (by first | rfl | simp [Cond.onTables, Cond.keeps, Cond.steady])) hini)
  obtain ⟨hx, hb, hml, ho, -⟩ := S
  obtain ⟨-, ⟨cellB, hcB, hoB, hclB⟩, hPc⟩ := hp
  intro T hT X
  rcases vx_callVU X hx (C := C) (owner := owner) (bytes := bytes) (maxL := maxL) (ret := ret) ho cw.link cw.same cw.decl cw.notMH cw.sel cw.inst cw.code hK (by rw [hT]; exact hcB) hoB hclB hg (hsize.trans hml.symm) (argsL := As) (rest := rest) (fun sig h => hn.trans (cw.len sig h)) hstack hW (by rw [hb]; exact hdg)
    (fun vm₁ hW₁ => ⟨hf.1, hf.2, hPc (T.setVm vm₁) hT hW₁⟩) with ⟨v, vm₁, ⟨U', l2, c2, s2⟩, hW₁, X', ⟨g', mk, t, L, e1, e2, hq, h1, hL, h2, h3⟩, st⟩ | ⟨q, vm₁, ⟨U', l2, c2, s2⟩, hW₁, X', ⟨g', mk, t, L, E, ce, e1, e2, hq, hce, hcv, hcl, h1, hL, h2, h3⟩, st⟩
  · dsimp only [Pt.U, Pt.locs, Pt.cells, Pt.slots] at X' e1 e2 h1 h2 h3 st
    subst h1; subst h2; subst h3
    exact Or.inl ⟨v, (T.setVm vm₁).calling g' mk (Value.ref b :: As).toArray, t, U', L, hT, X', hL, e1, e2, hq, st⟩
  · dsimp only [Pt.U, Pt.locs, Pt.cells, Pt.slots] at X' e1 e2 h1 h2 h3 st hcl
    subst h1; subst h2; subst h3
    exact Or.inr ⟨q, (T.setVm vm₁).calling g' mk (Value.ref b :: As).toArray, t, U', L, E, ce, hT, X', hL, e1, e2, hq, hce, hcv, vx_cls hW₁ hcl, st⟩
end
/-! ===== END ===== -/
/-! ===== BEGIN super.m(..) that may throw (follows va_callSU, va_runSU) ===== -/
section
variable {p : Program} {l : Launch} {e : Env} {R : Room} {s : State} {m : MethodId} {args : Array Value} {below : List Frame} {meth : Method} {c : Code} {H : Heap} {locs : List Loc} {cells slots : Nat}
theorem vx_callSU {T : State} {locs : List Loc} {cells slots : Nat} (X : Stand p l e R s m args below meth c T locs cells slots) (hexec : p.tables.exec = Jvm.exec) {own : String} {index : Nat} {y : MethodName} {bytes : ByteArray} {maxL : Nat} {ret : Option FieldType}
    (hown : s.vm.findClass own = some m.cls) (hlink : (Cond.methodLink own index y).before args s = true) (hsame : (Cond.sameMethod y.cls y.cls y.name y.desc).before args s = true) (hsup : (Cond.superclass own y.cls).before args s = true)
    (hinst : (Cond.instanceMethod y).before args s = true) (hcode : (Cond.code y bytes maxL ret).before args s = true) (hno : y.name ≠ "<init>")
    {W : Nat} {Pre : Pt → Array Value → Prop} {Post : Pt → Array Value → Option Value → Pt → Prop} {PostX : Pt → Array Value → Addr → Pt → Prop} (hK : vx_Back l R p e below s args y 3 W Pre Post PostX)
    {b : Addr} {cellB : Cell} {kB : Class} (hcell : T.heap[b]? = some cellB) (hobj : cellB.vm.isStatics = false) (hkB : s.vm.classes[cellB.cls]? = some kB)
    {g : JFrame} (hg : g.method = m) (hsize : g.locals.size = c.maxLocals) {argsL rest : List Value} (hlen : ∀ sig, parseMethodDescriptor y.desc = some sig → argsL.length = sig.parameters.length)
    (hstack : g.stack = argsL.reverse ++ .ref b :: rest) (hW : 2 * g.monitorRoom + (rest.map fun v => v.category).sum ≤ W) (hdg : decode c.code g.pc = .ok (.invokespecial index, 3))
    (hpre : ∀ vm₁, s.WarmedH vm₁ → Pre ⟨T.setVm vm₁, locs, cells, slots⟩ (Value.ref b :: argsL).toArray) :
    (∃ (v : Option Value) (vm₁ : Vm) (B : Pt), s.WarmedH vm₁ ∧ Stand p l e R s m args below meth c B.U B.locs B.cells B.slots ∧ Post ⟨T.setVm vm₁, locs, cells, slots⟩ (Value.ref b :: argsL).toArray v B ∧
      ∀ target, Steps p.tables e below (B.U.setTop { g with pc := g.pc + 3, stack := v.toList ++ rest }) target → Steps p.tables e below (T.setTop g) target) ∨
    (∃ (q : Addr) (vm₁ : Vm) (B : Pt), s.WarmedH vm₁ ∧ Stand p l e R s m args below meth c B.U B.locs B.cells B.slots ∧ PostX ⟨T.setVm vm₁, locs, cells, slots⟩ (Value.ref b :: argsL).toArray q B ∧
      Steps p.tables e below (T.setTop g) ((B.U.setTop { g with stack := rest }).pushFrame (.throwing q))) := by
  obtain ⟨mk, methM, hnamed, hmethM, hstM, habM⟩ := Cond.instanceMethod_spec hinst
  obtain ⟨methM', cM, hmethM', -, -, -, -, -, -, hsigM⟩ := Cond.code_spec hnamed hcode
  cases hmethM.symm.trans hmethM'
  obtain ⟨ps, dk, kp, hps, hdk, hkp, hsuper, -, -, hnid⟩ := Cond.superclass_spec hown hsup
  have hn : s.methodNamed? ⟨y.cls, y.name, y.desc⟩ = some mk := hnamed
  have hpm : ps = mk.cls := Option.some.inj (hps.symm.trans (findClass_of_methodNamed hnamed))
  have hsub : s.vm.isSubclass ps mk.cls = true := by rw [hpm]; simp [Vm.isSubclass, Vm.isSubclassAux]
  obtain ⟨vm₁, X₁, hstep₁⟩ := X.invokespecialUp hexec hown hlink hsame hn hmethM hstM habM hno hdk hnid hps hsuper hsub (a := b) (cell := cellB) hcell
    (fun z h => by rw [h] at hobj; cases hobj) hkB (g := g) hg (argsL := argsL) (rest := rest) (hlen _ hsigM) hstack hdg
  rcases hK m meth c ⟨T.setVm vm₁, locs, cells, slots⟩ { g with stack := rest } (.invokespecial index) mk (Value.ref b :: argsL).toArray X₁ hg hsize hdg hW (X₁.named hnamed) (hpre vm₁ X₁.warmed) with ⟨v, B, X', hpost, hsteps⟩ | ⟨q, B, X', hpost, hsteps⟩
  · exact Or.inl ⟨v, vm₁, B, X₁.warmed, X', hpost, fun target h => hstep₁ _ (by rw [doInvoke_state]; exact hsteps.trans h)⟩
  · exact Or.inr ⟨q, vm₁, B, X₁.warmed, X', hpost, hstep₁ _ (by rw [doInvoke_state]; exact hsteps)⟩
theorem vx_runSU {y : MethodName} {bytes cc : ByteArray} {maxL nL mc ms n index : Nat} {ret : Option FieldType} {ws : List Cond} {rm : Room} {Pc : Array Value → State → Prop} {Qc : Array Value → State → Outcome → State → Prop} {XC : String → State → State → Prop} {free : Addr → Prop} {Ts : List Cond} {own C : String} {cC : ClassId} {b : Addr} {As rest : List Value} {g : JFrame}
    (hat : ClassAt s C cC) (S : CallFix p m c cc nL s args Ts own) (hM : vx_Met l y ws rm Pc Qc XC mc ms free) (cw : va_CS R s args own index y bytes maxL ret ws rm mc ms n) (hp : PreV s H C b Pc As)
    (hg : g.method = m) (hn : As.length = n) (hsize : g.locals.size = nL) (hstack : g.stack = As.reverse ++ .ref b :: rest) (hW : 2 * g.monitorRoom + (rest.map fun v => v.category).sum ≤ 8) (hdg : decode cc g.pc = .ok (.invokespecial index, 3)) (hf : cells + mc ≤ R.cells ∧ slots + ms ≤ R.slots) :
    vx_Run p l e R s m args below meth c H locs cells slots mc ms g rest (Qc (Value.ref b :: As).toArray) XC free := by
  obtain ⟨⟨hrc, hrs, hfr, hlo, hws, hcw⟩, hl1, hl2, hl3, hl4, hini, hcode, hno, hlen⟩ := cw
  have hK : vx_Back l R p e below s args y 3 8 (PreOf R mc ms Pc) (PostOf Qc mc ms free) (vx_Post XC mc ms free) := vx_back (bytes := bytes) (maxL := maxL) (ret := ret) hM hp.1 hrc hrs hfr hlo hws hcw (fun a' U hW => word_at hW (Or.inl (by first | rfl | simp [Cond.onTables, Cond.keeps, Cond.steady])) hini)
  obtain ⟨hx, hb, hml, ho, -⟩ := S
  obtain ⟨-, ⟨cellB, hcB, hoB, hclB⟩, hPc⟩ := hp
  obtain ⟨hfc, kB, hkB, -⟩ := hat
  cases hfc.symm.trans hclB
  intro T hT X
  rcases vx_callSU X hx (bytes := bytes) (maxL := maxL) (ret := ret) ho hl1 hl2 hl3 hl4 hcode hno hK (by rw [hT]; exact hcB) hoB hkB hg (hsize.trans hml.symm) (argsL := As) (rest := rest) (fun sig h => hn.trans (hlen sig h)) hstack hW (by rw [hb]; exact hdg)
    (fun vm₁ hW₁ => ⟨hf.1, hf.2, hPc (T.setVm vm₁) hT hW₁⟩) with ⟨v, vm₁, ⟨U', l2, c2, s2⟩, hW₁, X', ⟨g', mk, t, L, e1, e2, hq, h1, hL, h2, h3⟩, st⟩ | ⟨q, vm₁, ⟨U', l2, c2, s2⟩, hW₁, X', ⟨g', mk, t, L, E, ce, e1, e2, hq, hce, hcv, hcl, h1, hL, h2, h3⟩, st⟩
  · dsimp only [Pt.U, Pt.locs, Pt.cells, Pt.slots] at X' e1 e2 h1 h2 h3 st
    subst h1; subst h2; subst h3
    exact Or.inl ⟨v, (T.setVm vm₁).calling g' mk (Value.ref b :: As).toArray, t, U', L, hT, X', hL, e1, e2, hq, st⟩
  · dsimp only [Pt.U, Pt.locs, Pt.cells, Pt.slots] at X' e1 e2 h1 h2 h3 st hcl
    subst h1; subst h2; subst h3
    exact Or.inr ⟨q, (T.setVm vm₁).calling g' mk (Value.ref b :: As).toArray, t, U', L, E, ce, hT, X', hL, e1, e2, hq, hce, hcv, vx_cls hW₁ hcl, st⟩
end
/-! ===== END ===== -/
/-! ===== calls ===== -/
theorem mpop_out : ∀ (n : Nat) (S a0 as S' : List mV), mpop n S a0 = some (as, S') → ∃ ts, as = ts ++ a0 ∧ S = ts.reverse ++ S' ∧ ts.length = n
  | 0, S, a0, as, S', h => by
    simp only [mpop, Option.some.injEq, Prod.mk.injEq] at h
    exact ⟨[], by simp [h.1], by simp [h.2], rfl⟩
  | n + 1, [], a0, as, S', h => by cases h
  | n + 1, v :: S, a0, as, S', h => by
    obtain ⟨ts, h1, h2, h3⟩ := mpop_out n S (v :: a0) as S' h
    exact ⟨ts ++ [v], by simp [h1], by simp [h2], by simp [h3]⟩
theorem mML_rng : (List.range 32).all (fun o => (mML o).all (fun e => Nat.blt 0 e.2.1 && mre e.2.1)) = true := by decide +kernel
theorem mNL_rng : (List.range 32).all (fun o => (mNL o).all (fun e => Nat.blt 0 e.2.1 && mre e.2.1)) = true := by decide +kernel
theorem mkhh_ok : (List.range 420).all (fun j => Nat.beq (mkd j) 0 || (mhh j).isEmpty) = true := by decide +kernel
theorem mkhh {j : Nat} (hj : mre j = true) (h : mkd j ≠ 0) : mhh j = [] := by
  have h1 := List.all_eq_true.mp mkhh_ok j (List.mem_range.mpr (mre_lt hj))
  rw [Bool.or_eq_true] at h1
  rcases h1 with h1 | h1
  · exact absurd (Nat.eq_of_beq_eq_true h1) h
  · exact List.isEmpty_iff.mp h1
theorem mML_use {o i g : Nat} (ho : o < 32) (h : mlk (mML o) i = some g) : Jvm.Cond.methodLink (mR o) i (my g) ∈ GW ∧ 0 < g ∧ mre g = true := by
  obtain ⟨p, hp⟩ := mlk_in h
  have h1 := m_all16 mML_ok ho hp
  have h2 := m_all16 mML_rng ho hp
  simp only [Bool.and_eq_true, Nat.blt_eq] at h2
  exact ⟨mG1_in h1, h2.1, h2.2⟩
theorem mNL_use {o i g : Nat} (ho : o < 32) (h : mlk (mNL o) i = some g) : (∃ e ∈ mNL o, e.1 = i ∧ e.2.1 = g) ∧ 0 < g ∧ mre g = true := by
  obtain ⟨p, hp⟩ := mlk_in h
  have h2 := m_all16 mNL_rng ho hp
  simp only [Bool.and_eq_true, Nat.blt_eq] at h2
  exact ⟨⟨_, hp, rfl, rfl⟩, h2.1, h2.2⟩
theorem m_good {w : Jvm.Cond} (h : w ∈ GW) : w ∈ GW ∧ ((w.onTables && w.keeps) = true ∨ ∃ ty, w = .arrayClass ty) := ⟨h, good_of_word (List.mem_filter.mp h).2⟩
theorem mws_in {j : Nat} (h0 : 0 < j) (hj : mre j = true) : ∀ w ∈ mws j, w ∈ GW := by
  intro w hw
  rcases List.mem_cons.mp hw with rfl | hw
  · exact mcode_in h0 hj
  · exact hw
theorem mJ_all {j : Nat} (h0 : 0 < j) (hj : mre j = true) : Jvm.Cond.initialized (my j).cls ∈ GW ∧ (my j).cls ≠ "java/lang/invoke/MethodHandle" ∧ (my j).cls ≠ "java/lang/invoke/VarHandle" ∧ (my j).cls = mR (mown j)
    ∧ (mkd j = 0 → Jvm.Cond.static (my j) ∈ GW ∧ (parseMethodDescriptor (my j).desc).map (fun d => d.parameters.length) = some (mnp j))
    ∧ (mkd j ≠ 0 → Jvm.Cond.instanceMethod (my j) ∈ GW ∧ (parseMethodDescriptor (my j).desc).map (fun d => d.parameters.length + 1) = some (mnp j) ∧ mcr (mcl j) = true)
    ∧ (mkd j = 1 → Jvm.Cond.selects (mCn (mcl j)) (my j) (my j) ∈ GW ∧ (my j).cls = mCn (mcl j)) ∧ (mkd j = 2 → (my j).name = "<init>" ∧ mret j = 0)
    ∧ (mkd j = 4 → Jvm.Cond.sameMethod (my j).cls (my j).cls (my j).name (my j).desc ∈ GW ∧ (my j).name ≠ "<init>")
    ∧ (mkd j = 5 → Jvm.Cond.selects (mCn (mcl j)) (mox j) (my j) ∈ GW)
    ∧ (mkd j = 6 → Jvm.Cond.selects (mCn (mcl j)) (my j) (my j) ∈ GW ∧ Jvm.Cond.sameMethod (my j).cls (my j).cls (my j).name (my j).desc ∈ GW) := by
  have hJ := mJ_of h0 hj
  unfold mJm at hJ
  simp only [Bool.and_eq_true, bne_iff_ne, decide_eq_true_eq] at hJ
  obtain ⟨⟨⟨⟨⟨h1, h2⟩, h3⟩, h4⟩, h5⟩, h6⟩ := hJ
  refine ⟨mG1_in h1, h3, h4, h5, ?_, ?_, ?_, ?_, ?_, ?_, ?_⟩
  · intro hk
    rw [hk] at h6
    simp only [Bool.and_eq_true, decide_eq_true_eq] at h6
    exact ⟨mG1_in h6.1, h6.2⟩
  · intro hk
    split at h6
    · exact absurd (by assumption) hk
    · simp only [Bool.and_eq_true, decide_eq_true_eq] at h6
      exact ⟨mG1_in h6.1.1.1.1, h6.1.1.2, h6.1.2⟩
    · simp only [Bool.and_eq_true, decide_eq_true_eq] at h6
      exact ⟨mG1_in h6.1.1.1.1, h6.1.1.2, h6.1.2⟩
    · simp only [Bool.and_eq_true, decide_eq_true_eq] at h6
      exact ⟨mG1_in h6.1.1.1.1, h6.1.1.2, h6.1.2⟩
    · simp only [Bool.and_eq_true, decide_eq_true_eq] at h6
      exact ⟨mG1_in h6.1.1.1.1, h6.1.1.2, h6.1.2⟩
    · simp only [Bool.and_eq_true, decide_eq_true_eq] at h6
      exact ⟨mG1_in h6.1.1.1.1, h6.1.1.2, h6.1.2⟩
  · intro hk
    rw [hk] at h6
    simp only [Bool.and_eq_true, decide_eq_true_eq] at h6
    exact ⟨mG1_in h6.1.1.1.2, h6.2⟩
  · intro hk
    rw [hk] at h6
    simp only [Bool.and_eq_true, decide_eq_true_eq] at h6
    exact ⟨h6.1.1.1.2, Nat.eq_of_beq_eq_true h6.2⟩
  · intro hk
    rw [hk] at h6
    simp only [Bool.and_eq_true, decide_eq_true_eq, bne_iff_ne] at h6
    exact ⟨mG1_in h6.1.1.1.2, h6.2⟩
  · intro hk
    rw [hk] at h6
    simp only [Bool.and_eq_true, decide_eq_true_eq] at h6
    exact mG1_in h6.1.1.1.2
  · intro hk
    rw [hk] at h6
    simp only [Bool.and_eq_true, decide_eq_true_eq] at h6
    exact ⟨mG1_in h6.1.1.1.2, mG1_in h6.2⟩
theorem m_len1 {d : String} {n : Nat} (h : (parseMethodDescriptor d).map (fun d => d.parameters.length + 1) = some n) : (parseMethodDescriptor d).map (fun d => d.parameters.length) = some (n - 1) ∧ 0 < n := by
  cases hp : parseMethodDescriptor d with
  | none => rw [hp] at h; cases h
  | some q =>
    rw [hp] at h
    have h := Option.some.inj h
    simp only at h
    simp only [Option.map_some, Option.some.injEq]
    omega
theorem mcode_plain {j : Nat} (h : mhh j = []) : mws j = Jvm.Cond.code (my j) (mb j) (mmaxL j) (mrt j) :: GW := by
  unfold mws mcode
  rw [h]
theorem mcode_with {j : Nat} {a : Nat × Nat × Nat × Nat} {t : List (Nat × Nat × Nat × Nat)} (h : mhh j = a :: t) : mws j = Jvm.Cond.codeWith (my j) (mb j) (mmaxL j) (mrt j) (a :: t) :: GW := by
  unfold mws mcode
  rw [h]
theorem mrt0 {j : Nat} (h : mret j = 0) : mrt j = none := by
  unfold mrt
  rw [h]
  rfl
-- handlers of the wrappers
def mhcn (j q : Nat) (n : Int) : Bool := match mdec j q with
  | some (.iconst m, 1) => decide (m = n) && (match mdec j (q + 1) with
    | some (.ireturn, 1) => true
    | _ => false)
  | some (.ldc i, 2) => decide (mlkI (mKL (mown j)) i = some n) && (match mdec j (q + 2) with
    | some (.ireturn, 1) => true
    | _ => false)
  | _ => false
def mhck (j pc e : Nat) : Bool := match mhnd j pc e with
  | none => true
  | some n => match (mhh j)[mhix j pc e]? with
    | none => false
    | some x => Nat.ble x.1 pc && Nat.blt pc x.2.1 && !Nat.beq x.2.2.2 0 && (mEL (mown j)).any (fun z => Nat.beq z.1 x.2.2.2 && Nat.beq z.2.1 e)
      && ((mhh j).take (mhix j pc e)).all (fun y => !(Nat.ble y.1 pc && Nat.blt pc y.2.1) || (!Nat.beq y.2.2.2 0 && (mEL (mown j)).any (fun z => Nat.beq z.1 y.2.2.2 && !Nat.beq z.2.1 e && (Nat.beq z.2.1 0 || Nat.beq z.2.1 2))))
      && (match mdec j x.2.2.1 with
        | some (.astore_n k, 1) => Nat.blt k (mmaxL j) && mhcn j (x.2.2.1 + 1) n
        | some (.astore k, 2) => Nat.blt k (mmaxL j) && mhcn j (x.2.2.1 + 2) n
        | _ => false)
theorem mhckT_ok : (List.range 420).all (fun j => bif mhas j && mre j then (List.range (mlen j)).all (fun pc => (List.range 3).all (fun e => mhck j pc e)) else true) = true := by decide +kernel
theorem mhck_ok {j pc e : Nat} (hj : mre j = true) (hp : pc < mlen j) (he : e < 3) : mhck j pc e = true := by
  have h := List.all_eq_true.mp mhckT_ok j (List.mem_range.mpr (mre_lt hj))
  cases hc : mhas j with
  | true =>
    rw [hc, hj] at h
    exact List.all_eq_true.mp (List.all_eq_true.mp h pc (List.mem_range.mpr hp)) e (List.mem_range.mpr he)
  | false =>
    have h2 : mhnd j pc e = none := by
      unfold mhnd
      rw [hc]
      rfl
    unfold mhck
    rw [h2]
def mp_jk : List Nat := [3007, 3003, 3005, 3006, 1022, 3002, 3000, 3001, 1017, 2239, 2237, 2238, 1023, 2226, 2227, 6083, 2223, 2224, 2225, 2236, 2233, 2234, 2235, 2222, 6082, 2220, 2221, 2232, 2230, 2231]
theorem mcast_in {e : Nat} (h : e < 3) : Jvm.Cond.castable (mEn e) (mEn e) ∈ mNW := by
  match e, h with
  | 0, _ => exact List.mem_of_getElem? (i := 4) rfl
  | 1, _ => exact List.mem_of_getElem? (i := 5) rfl
  | 2, _ => exact List.mem_of_getElem? (i := 6) rfl
  | e + 3, h => exact absurd h (by omega)
theorem m_splitAt {α : Type} : ∀ (l : List α) (i : Nat) (a : α), l[i]? = some a → l = l.take i ++ a :: l.drop (i + 1)
  | [], i, a, h => by simp at h
  | b :: l, 0, a, h => by
    simp at h
    subst h
    rfl
  | b :: l, i + 1, a, h => by
    have ih := m_splitAt l i a (by simpa using h)
    show b :: l = b :: (l.take i ++ a :: l.drop (i + 1))
    rw [← ih]
theorem mEL_use {o : Nat} (ho : o < 32) {z : Nat × Nat × Nat} (hz : z ∈ mEL o) : Jvm.Cond.classLink (mR o) z.1 (mEn z.2.1) ∈ GW := mG1_in (m_all16 mEL_ok ho hz)
section SK
variable {p : Program} {l : Launch} {e : Env} {s : State} {mid : MethodId} {args : Array Value} {below : List Frame} {meth : Method} {c : Code} {Q : State → Prop}
variable {E : mE} {D : va_G} {tc : Int → ClassId} {O : mO} {j : Nat} {K : mK} {pc : Nat} {L S : List mV} {cs ss : Nat} {G : mG} {d : mD} {H : Heap} {locs : List Loc} {ls : Array Slot}
theorem m_hcn (hj : mre j = true) (hF : mFrame l E D tc O j p s mid args meth c) (hE : mHret p l e s mid args below meth c Q E D tc j K) {n : Int} {q : Nat} (hck : mhcn j q n = true) (hk : K (.inl (some (0, n))) G d) (hret : mret1 j n)
    (hrep : mRep E D tc G d H) (hs : va_S (mAr E) s.heap H locs) (h1 : cs ≤ mmc j) (h2 : ss ≤ mms j) : W p l e (mRm j) s mid args below meth c H locs cs ss Q (F0 mid q ls []) := by
  unfold mhcn at hck
  split at hck
  · rename_i m hd0
    simp only [Bool.and_eq_true, decide_eq_true_eq] at hck
    obtain ⟨rfl, hck⟩ := hck
    split at hck
    · rename_i hd1
      refine lv_iconst hF.1 hF.2.1 (mdec_ok hd0) rfl ?_
      exact hE .ireturn (some (0, m)) G d H locs cs ss (q + 1) ls hk hrep hs h1 h2 (mdec_ok hd1) hret
    · cases hck
  · rename_i i hd0
    simp only [Bool.and_eq_true, decide_eq_true_eq] at hck
    obtain ⟨hlk, hck⟩ := hck
    split at hck
    · rename_i hd1
      refine lv_ldc hF.1 hF.2.1 hF.2.2.2.2.1 (hF.2.2.2.2.2.1 _ (mKL_use (mown_lt hj) hlk)) (mdec_ok hd0) ?_
      exact hE .ireturn (some (0, n)) G d H locs cs ss (q + 2) ls hk hrep hs h1 h2 (mdec_ok hd1) hret
    · cases hck
  · cases hck
theorem m_hnd (hj : mre j = true) (hF : mFrame l E D tc O j p s mid args meth c) (hE : mHret p l e s mid args below meth c Q E D tc j K) {n : Int} {ex : Nat} (hpc : pc < mlen j) (hex : ex < 3) (hn : mhnd j pc ex = some n) (hk : K (.inl (some (0, n))) G d) (hret : mret1 j n)
    (hl : mLoc E ls (mmaxL j) L) (hrep : mRep E D tc G d H) (hs : va_S (mAr E) s.heap H locs) (h1 : cs ≤ mmc j) (h2 : ss ≤ mms j) {q : Addr} {ce : Cell} (hce : H[q]? = some ce) (hcv : ce.vm = .none) (hcl : s.vm.findClass (mEn ex) = some ce.cls) (rest : List Value) :
    vx_W p l e (mRm j) s mid args below meth c H locs cs ss Q (F0 mid pc ls rest) q := by
  have hF9 := hF
  obtain ⟨hx, hb, hm, hr, hown, hGW, hlocks, hname, htab, hK, hO, hll⟩ := hF
  have hck := mhck_ok hj hpc hex
  unfold mhck at hck
  rw [hn] at hck
  dsimp only at hck
  have ho := mown_lt hj
  have h00 : 0 < j := by
    rcases Nat.eq_zero_or_pos j with h | h
    · subst h
      exact absurd (show none = some n from hn) (by simp)
    · exact h
  cases hx9 : (mhh j)[mhix j pc ex]? with
  | none => rw [hx9] at hck; cases hck
  | some x =>
    rw [hx9] at hck
    dsimp only at hck
    simp only [Bool.and_eq_true, Bool.not_eq_true'] at hck
    obtain ⟨⟨⟨⟨⟨c1, c2⟩, c3⟩, c4⟩, c5⟩, c6⟩ := hck
    have hsp : c.exceptionTable.toList = tableOf ((mhh j).take (mhix j pc ex)) ++ ⟨x.1, x.2.1, x.2.2.1, x.2.2.2⟩ :: tableOf ((mhh j).drop (mhix j pc ex + 1)) := by
      have h9 := congrArg tableOf (m_splitAt _ _ _ hx9)
      rw [htab h00, h9]
      unfold tableOf
      rw [List.map_append, List.map_cons]
    have hcast := vx_ot_at (args := #[]) (a' := args) (State.WarmedH.refl s) rfl rfl (hO.1 _ (mcast_in hex))
    obtain ⟨z, hz, hz2⟩ := List.any_eq_true.mp c4
    simp only [Bool.and_eq_true] at hz2
    have hlink := hGW _ (mEL_use ho hz)
    rw [Nat.eq_of_beq_eq_true hz2.1, Nat.eq_of_beq_eq_true hz2.2] at hlink
    refine vx_catch (own := mR (mown j)) (name := mEn ex) (E := mEn ex) hown _ _ _ hsp (fun y hy => ?_) (by simp only [covers, Bool.and_eq_true, decide_eq_true_eq]; exact ⟨Nat.le_of_ble_eq_true c1, by simpa only [Nat.blt_eq] using c2⟩) (fun h0 => by have h0 : x.2.2.2 = 0 := h0; rw [h0] at c3; cases c3) hlink hcast hce hcv hcl ?_
    · obtain ⟨y9, hy9, rfl⟩ := List.mem_map.mp hy
      have h5 := List.all_eq_true.mp c5 y9 hy9
      rw [Bool.or_eq_true] at h5
      rcases h5 with h5 | h5
      · refine Or.inl ?_
        show (decide (y9.1 ≤ pc) && decide (pc < y9.2.1)) = false
        rw [Bool.not_eq_true', Bool.and_eq_false_iff] at h5
        rw [Bool.and_eq_false_iff]
        rcases h5 with h5 | h5
        · refine Or.inl (decide_eq_false fun z => ?_)
          rw [Nat.ble_eq_true_of_le z] at h5
          cases h5
        · refine Or.inr (decide_eq_false fun z => ?_)
          have z2 : Nat.blt pc y9.2.1 = true := by rw [Nat.blt_eq]; exact z
          rw [z2] at h5
          cases h5
      simp only [Bool.and_eq_true, Bool.not_eq_true'] at h5
      obtain ⟨h5, h6⟩ := h5
      obtain ⟨w, hw, hw2⟩ := List.any_eq_true.mp h6
      simp only [Bool.and_eq_true, Bool.not_eq_true', Bool.or_eq_true] at hw2
      obtain ⟨⟨hw2, hw3⟩, hw4⟩ := hw2
      have hw4 : w.2.1 = 0 ∨ w.2.1 = 2 := hw4.imp Nat.eq_of_beq_eq_true Nat.eq_of_beq_eq_true
      have hl9 := hGW _ (mEL_use ho hw)
      rw [Nat.eq_of_beq_eq_true hw2] at hl9
      refine Or.inr ⟨fun h0 => ?_, mEn w.2.1, hl9, hO.2.2.2.2.2.2.2.2.2.2.1 ex hex w.2.1 hw4 (fun hh => ?_)⟩
      · have h0 : y9.2.2.2 = 0 := h0
        rw [h0] at h5
        cases h5
      · rw [← hh] at hw3
        rw [Nat.beq_refl] at hw3
        cases hw3
    · split at c6
      · rename_i k hd0
        simp only [Bool.and_eq_true, Nat.blt_eq] at c6
        exact lv_astore_n hx hb (mdec_ok hd0) rfl (mLoc_has hl) c6.1 rfl (fun ls' hl' => m_hcn hj hF9 hE c6.2 hk hret hrep hs h1 h2)
      · rename_i k hd0
        simp only [Bool.and_eq_true, Nat.blt_eq] at c6
        exact lv_astore hx hb (mdec_ok hd0) (mLoc_has hl) c6.1 rfl (fun ls' hl' => m_hcn hj hF9 hE c6.2 hk hret hrep hs h1 h2)
      · cases c6
theorem m_after (hj : mre j = true) (hF : mFrame l E D tc O j p s mid args meth c) (hE : mEnds p l e s mid args below meth c Q E D tc j K) (hpc : pc < mlen j) {mc ms : Nat} {A : Array Value} {st0 : List Value}
    (hr : vx_Run p l e (mRm j) s mid args below meth c H locs cs ss mc ms (F0 mid pc ls st0) (mst E S) (mQc E D tc (mback j pc L S (cs + mc) (ss + ms) (mW p l e s mid args below meth c Q E D tc j) K) A) (mXc E D tc (mback j pc L S (cs + mc) (ss + ms) (mW p l e s mid args below meth c Q E D tc j) K)) (mAr E))
    (hl : mLoc E ls (mmaxL j) L) (hs : va_S (mAr E) s.heap H locs) (h1 : cs + mc ≤ mmc j) (h2 : ss + ms ≤ mms j) : W p l e (mRm j) s mid args below meth c H locs cs ss Q (F0 mid pc ls st0) := by
  intro T hT X
  rcases hr T hT X with ⟨v, st₀, t, T', L9, h0, X', hL, e1, e2, ⟨⟨v', G', d', hv, hk, hrep'⟩, hFF⟩, st⟩ | ⟨q, st₀, t, T', L9, En, ce, h0, X', hL, e1, e2, ⟨⟨ex, G', d', hen, hex, hk, hrep'⟩, hFF⟩, hce, hcv, hcl, st⟩
  · cases hv
    obtain ⟨k1, k2, k3⟩ := vx_keep h0 e1 hs (fun _ _ h => h) (fun _ h => h) hL hFF
    match v', hk with
    | some w, hk =>
      obtain ⟨t2, a1, b1⟩ := hk T'.heap (locs ++ L9) ls hl (by rw [e1]; exact hrep') k3 h1 h2 T' rfl X'
      exact ⟨t2, st t2 a1, b1⟩
    | none, hk =>
      obtain ⟨t2, a1, b1⟩ := hk T'.heap (locs ++ L9) ls hl (by rw [e1]; exact hrep') k3 h1 h2 T' rfl X'
      exact ⟨t2, st t2 a1, b1⟩
  · subst hen
    obtain ⟨k1, k2, k3⟩ := vx_keep h0 e1 hs (fun _ _ h => h) (fun _ h => h) hL hFF
    have hrep2 : mRep E D tc G' d' T'.heap := by rw [e1]; exact hrep'
    have hce2 : T'.heap[q]? = some ce := by rw [e1]; exact hce
    simp only [mback] at hk
    split at hk
    · rename_i n hn
      obtain ⟨t2, a1, b1⟩ := m_hnd hj hF hE.1 hpc hex hn hk.2 hk.1 hl hrep2 k3 h1 h2 hce2 hcv hcl (mst E S) T' rfl X'
      exact ⟨t2, st.trans a1, b1⟩
    · have hnoh : mhh j = [] := List.isEmpty_iff.mp hk.1
      obtain ⟨t2, a1, b1⟩ := hE.2.2 ex G' d' T'.heap (locs ++ L9) (cs + mc) (ss + ms) pc ls (mst E S) q ce hex hk.2 hrep2 k3 h1 h2 hnoh hce2 hcv hcl T' rfl X'
      exact ⟨t2, st.trans a1, b1⟩
end SK
