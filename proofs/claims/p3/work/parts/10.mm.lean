/-! ===== the small machine: a computable reading of the bytecode over whole numbers ===== -/
-- a value: its tag (0 int, 1 long, 2 double's bits, 3 one of our cells or null, 4 an old int row, 5 a text, 6 another object, 7 nothing) and a number
abbrev mV : Type := Nat × Int
-- the cells: kind (a number of 'vwCl'; 100 int[], 101 long[], 102 byte[], 103 boolean[], 200 + number: rows of objects; below 0: none), length, the next cell (below 0: not known)
abbrev mG : Type := (Int → Int) × (Int → Int) × Int
-- what lies in cell a at place i
abbrev mD : Type := Int → Int → Int
-- pc, locals, stack, cells and slots made here, cells, contents
abbrev mSt : Type := Nat × List mV × List mV × Nat × Nat × mG × mD
abbrev mRes : Type := Option mV ⊕ Nat
abbrev mNx : Type := mSt ⊕ ((Prop × mSt) ⊕ ((Prop × List (Prop × mSt)) ⊕ ((Prop × Nat × List mV × mSt) ⊕ (Prop × mRes × mG × mD))))
-- lengths and contents of the old rows
abbrev mO : Type := (Int → Int) × (Int → Int → Int)
def mu : mV := (7, 0)
def mget : List mV → Nat → mV
  | [], _ => mu
  | v :: _, 0 => v
  | _ :: l, i + 1 => mget l i
def mc2 (v : mV) : Bool := Nat.beq v.1 1 || Nat.beq v.1 2
def mput1 : List mV → Nat → mV → List mV
  | [], _, _ => []
  | _ :: l, 0, v => v :: l
  | w :: l, 1, v => (bif mc2 w then mu else w) :: mput1 l 0 v
  | w :: l, i + 2, v => w :: mput1 l (i + 1) v
def mhead : List mV → List mV
  | [] => []
  | _ :: l => mu :: l
def mput2 : List mV → Nat → mV → List mV
  | [], _, _ => []
  | _ :: l, 0, v => v :: mhead l
  | w :: l, 1, v => (bif mc2 w then mu else w) :: mput2 l 0 v
  | w :: l, i + 2, v => w :: mput2 l (i + 1) v
def mInR (x : Int) : Prop := -2147483648 ≤ x ∧ x ≤ 2147483647
def mInL (x : Int) : Prop := -9223372036854775808 ≤ x ∧ x ≤ 9223372036854775807
def mset (d : mD) (a i v : Int) : mD := fun b j => if b = a ∧ j = i then v else d b j
def mfill (d : mD) (a v : Int) : mD := fun b j => if b = a then v else d b j
def mcopy (d : mD) (x sp y dp n : Int) : mD := fun b j => if b = y ∧ dp ≤ j ∧ j < dp + n then d x (sp + (j - dp)) else d b j
def mkind (f : Int → Int) (a v : Int) : Int → Int := fun b => if b = a then v else f b
def mcmp (x y : Int) : Int := if x < y then -1 else if x = y then 0 else 1
def mmax (x y : Int) : Int := if x < y then y else x
def mmin (x y : Int) : Int := if y < x then y else x
def mI (f : Int32 → Int32 → Int32) (x y : Int) : Int := (f (Int32.ofInt x) (Int32.ofInt y)).toInt
def mJ (f : Int64 → Int64 → Int64) (x y : Int) : Int := (f (Int64.ofInt x) (Int64.ofInt y)).toInt
def miand : Int → Int → Int := mI (fun x y => x &&& y)
def mior : Int → Int → Int := mI (fun x y => x ||| y)
def mixor : Int → Int → Int := mI (fun x y => x ^^^ y)
def mishl : Int → Int → Int := mI (fun x y => x <<< (y &&& 31))
def mishr : Int → Int → Int := mI (fun x y => x >>> (y &&& 31))
def miushr : Int → Int → Int := mI (fun x y => (x.toUInt32 >>> (y.toUInt32 &&& Int32.toUInt32 31)).toInt32)
def mland : Int → Int → Int := mJ (fun x y => x &&& y)
def mlor : Int → Int → Int := mJ (fun x y => x ||| y)
def mlxor : Int → Int → Int := mJ (fun x y => x ^^^ y)
def mlshl (x y : Int) : Int := (Int64.ofInt x <<< ((Int32.ofInt y).toInt64 &&& 63)).toInt
def mlushr (x y : Int) : Int := (((Int64.ofInt x).toUInt64 >>> ((Int32.ofInt y).toInt64.toUInt64 &&& 63))).toInt64.toInt
def mi2b (x : Int) : Int := (Int32.ofInt x).toInt8.toInt32.toInt
def ml2i (x : Int) : Int := (Int64.ofInt x).toInt32.toInt
def mbit (x : Int) : UInt64 := UInt64.ofNat x.toNat
def mof (x : UInt64) : Int := (x.toNat : Int)
def mi2d (x : Int) : Int := mof (FP.i2d (Int32.ofInt x))
def mddiv (x y : Int) : Int := mof (FP.ddiv (mbit x) (mbit y))
def mdcmp (op : CmpOp) (x y : Int) : Int := (Op.cmpValue (FP.dcmp (mbit x) (mbit y)) op).toInt
-- a condition on one or two numbers
def mcond : ClassFile.Cond → Int → Int → Prop
  | .eq, x, y => x = y
  | .ne, x, y => ¬ x = y
  | .lt, x, y => x < y
  | .ge, x, y => y ≤ x
  | .gt, x, y => y < x
  | .le, x, y => x ≤ y
def mncond : ClassFile.Cond → Int → Int → Prop
  | .eq, x, y => ¬ x = y
  | .ne, x, y => x = y
  | .lt, x, y => y ≤ x
  | .ge, x, y => x < y
  | .gt, x, y => x ≤ y
  | .le, x, y => y < x
