/-! ===== one step of the small machine ===== -/
abbrev mK : Type := mRes → mG → mD → Prop
abbrev mgo (st : mSt) : mNx := .inl st
abbrev mif (p : Prop) (st : mSt) : mNx := .inr (.inl (p, st))
abbrev mbr (p : Prop) (bs : List (Prop × mSt)) : mNx := .inr (.inr (.inl (p, bs)))
abbrev mcal (p : Prop) (j : Nat) (as : List mV) (st : mSt) : mNx := .inr (.inr (.inr (.inl (p, j, as, st))))
abbrev mfin (p : Prop) (r : mRes) (G : mG) (d : mD) : mNx := .inr (.inr (.inr (.inr (p, r, G, d))))
abbrev mbad (G : mG) (d : mD) : mNx := mfin False (.inr 0) G d
def mpop : Nat → List mV → List mV → Option (List mV × List mV)
  | 0, S, as => some (as, S)
  | _ + 1, [], _ => none
  | n + 1, v :: S, as => mpop n S (v :: as)
def mcats : List mV → Nat
  | [] => 0
  | v :: S => (bif mc2 v then 2 else 1) + mcats S
def mlay : List mV → List mV
  | [] => []
  | v :: l => bif mc2 v then v :: mu :: mlay l else v :: mlay l
def mpad : Nat → List mV → List mV
  | 0, _ => []
  | n + 1, [] => mu :: mpad n []
  | n + 1, v :: l => v :: mpad n l
def mloc (j : Nat) (as : List mV) : List mV := mpad (mmaxL j) (mlay as)
-- the receiver is of the method's own kind
def mrecv (j : Nat) (as : List mV) (kd : Int → Int) : Prop := match mkd j with
  | 0 => True
  | _ => match as with
    | (3, a) :: _ => kd a = (mcl j : Int)
    | _ => False
def mroom (m j : Nat) : Bool := Nat.ble (mdep j + 1) (mdep m) && Nat.ble (8 + (mmaxL j + 11) + mneed j) (mneed m)
def mbud (m j : Nat) (as S : List mV) (c s : Nat) : Prop := mroom m j = true ∧ Nat.ble (mlay as).length (mmaxL j) = true ∧ mcats S ≤ 8 ∧ c + mmc j ≤ mmc m ∧ s + mms j ≤ mms m
-- room for the machine's own helpers
-- the texts: how long, their bytes
def tsl (k : Int) : Int := if k = 0 then 6 else if k = 1 then 6 else if k = 2 then 6 else if k = 3 then 4 else if k = 4 then 4 else if k = 5 then 5 else if k = 6 then 7 else 0
def tsc (k i : Int) : Int := if k = 0 then (if i = 0 then 98 else if i = 1 then 117 else if i = 2 then 114 else if i = 3 then 101 else if i = 4 then 97 else if i = 5 then 117 else 0) else if k = 1 then (if i = 0 then 111 else if i = 1 then 102 else if i = 2 then 102 else if i = 3 then 105 else if i = 4 then 99 else if i = 5 then 101 else 0) else if k = 2 then (if i = 0 then 112 else if i = 1 then 101 else if i = 2 then 114 else if i = 3 then 115 else if i = 4 then 111 else if i = 5 then 110 else 0) else if k = 3 then (if i = 0 then 106 else if i = 1 then 111 else if i = 2 then 105 else if i = 3 then 110 else 0) else if k = 4 then (if i = 0 then 112 else if i = 1 then 97 else if i = 2 then 115 else if i = 3 then 115 else 0) else if k = 5 then (if i = 0 then 99 else if i = 1 then 108 else if i = 2 then 97 else if i = 3 then 105 else if i = 4 then 109 else 0) else if k = 6 then (if i = 0 then 119 else if i = 1 then 105 else if i = 2 then 116 else if i = 3 then 110 else if i = 4 then 101 else if i = 5 then 115 else if i = 6 then 115 else 0) else 0
def mroomS (m : Nat) (S : List mV) : Prop := 4 ≤ mdep m ∧ mcats S ≤ 8 ∧ 85 ≤ mneed m
def mroomN (m : Nat) (S : List mV) (k : Nat) : Prop := 1 ≤ mdep m ∧ mcats S + k ≤ mneed m
def mroomT (m : Nat) (S : List mV) (c s : Nat) : Prop := 5 < mdep m ∧ mcats S + 82 ≤ mneed m ∧ c + 1 ≤ mmc m ∧ s + 6 ≤ mms m
def msw (x : Int) (pc : Nat → mSt) : Int → List Int → List (Prop × mSt)
  | _, [] => []
  | k, t :: ts => (x = k, pc t.toNat) :: msw x pc (k + 1) ts
-- what may be put into a field or a row of this type (0 int, 1 boolean, 2 byte, 3 long, 4 a reference)
def mfit (t : Nat) (v : mV) : Prop := match t with
  | 0 => v.1 = 0
  | 1 => v.1 = 0 ∧ (v.2 = 0 ∨ v.2 = 1)
  | 2 => v.1 = 0 ∧ -128 ≤ v.2 ∧ v.2 ≤ 127
  | 3 => v.1 = 1
  | _ => v.1 = 3
def mtag (t : Nat) : Nat := match t with
  | 0 => 0
  | 1 => 0
  | 2 => 0
  | 3 => 1
  | _ => 3
def mret1 (m : Nat) (v : Int) : Prop := match mret m with
  | 1 => True
  | 2 => v = 0 ∨ v = 1
  | _ => False
def mretk (m k : Nat) : Prop := mret m = k
def matyp : ArrayType → Int
  | .int => 100
  | .long => 101
  | .byte => 102
  | .boolean => 103
  | _ => 199
def mX (O : mO) (m len : Nat) (i : Instr) (pc : Nat) (L S : List mV) (c s : Nat) (G : mG) (d : mD) : mNx := match i with
  | .iconst n => mgo (pc + len, L, (0, n) :: S, c, s, G, d)
  | .bipush n => mgo (pc + len, L, (0, n) :: S, c, s, G, d)
  | .sipush n => mgo (pc + len, L, (0, n) :: S, c, s, G, d)
  | .lconst n => mgo (pc + len, L, (1, ((n : Nat) : Int)) :: S, c, s, G, d)
  | .jsr_w n => mgo (pc + len, L, (1, n) :: S, c, s, G, d)
  | .dconst _ => mgo (pc + len, L, (2, 0) :: S, c, s, G, d)
  | .ldc j => mgo (pc + len, L, (5, (j : Int)) :: S, c, s, G, d)
  | .getstatic j => mgo (pc + len, L, (4, (j : Int)) :: S, c, s, G, d)
  | .iload k => match mget L k with
    | (0, x) => mgo (pc + len, L, (0, x) :: S, c, s, G, d)
    | _ => mbad G d
  | .lload k => match mget L k with
    | (1, x) => mgo (pc + len, L, (1, x) :: S, c, s, G, d)
    | _ => mbad G d
  | .dload k => match mget L k with
    | (2, x) => mgo (pc + len, L, (2, x) :: S, c, s, G, d)
    | _ => mbad G d
  | .aload k => match mget L k with
    | (3, x) => mgo (pc + len, L, (3, x) :: S, c, s, G, d)
    | (4, x) => mgo (pc + len, L, (4, x) :: S, c, s, G, d)
    | (5, x) => mgo (pc + len, L, (5, x) :: S, c, s, G, d)
    | _ => mbad G d
  | .istore k => match S with
    | (0, x) :: S => mgo (pc + len, mput1 L k (0, x), S, c, s, G, d)
    | _ => mbad G d
  | .astore k => match S with
    | (3, x) :: S => mif (0 ≤ x) (pc + len, mput1 L k (3, x), S, c, s, G, d)
    | _ => mbad G d
  | .lstore k => match S with
    | (1, x) :: S => mgo (pc + len, mput2 L k (1, x), S, c, s, G, d)
    | _ => mbad G d
  | .dstore k => match S with
    | (2, x) :: S => mgo (pc + len, mput2 L k (2, x), S, c, s, G, d)
    | _ => mbad G d
  | .iinc k n => match mget L k with
    | (0, x) => mgo (pc + len, mput1 L k (0, x + n), S, c, s, G, d)
    | _ => mbad G d
  | .dup => match S with
    | (0, x) :: S => mgo (pc + 1, L, (0, x) :: (0, x) :: S, c, s, G, d)
    | (3, x) :: S => mgo (pc + 1, L, (3, x) :: (3, x) :: S, c, s, G, d)
    | _ => mbad G d
  | .dup2 => match S with
    | (0, y) :: (3, x) :: S => mgo (pc + 1, L, (0, y) :: (3, x) :: (0, y) :: (3, x) :: S, c, s, G, d)
    | _ => mbad G d
  | .pop => match S with
    | (0, _) :: S => mgo (pc + 1, L, S, c, s, G, d)
    | _ => mbad G d
  | .iadd => match S with
    | (0, y) :: (0, x) :: S => mgo (pc + 1, L, (0, x + y) :: S, c, s, G, d)
    | _ => mbad G d
  | .isub => match S with
    | (0, y) :: (0, x) :: S => mgo (pc + 1, L, (0, x - y) :: S, c, s, G, d)
    | _ => mbad G d
  | .imul => match S with
    | (0, y) :: (0, x) :: S => mgo (pc + 1, L, (0, x * y) :: S, c, s, G, d)
    | _ => mbad G d
  | .idiv => match S with
    | (0, y) :: (0, x) :: S => mif (0 ≤ x ∧ x ≤ 2147483647 ∧ 0 < y ∧ y ≤ 2147483647) (pc + 1, L, (0, x / y) :: S, c, s, G, d)
    | _ => mbad G d
  | .irem => match S with
    | (0, y) :: (0, x) :: S => mif (0 ≤ x ∧ x ≤ 2147483647 ∧ 0 < y ∧ y ≤ 2147483647) (pc + 1, L, (0, x % y) :: S, c, s, G, d)
    | _ => mbad G d
  | .iand => match S with
    | (0, y) :: (0, x) :: S => mgo (pc + 1, L, (0, miand x y) :: S, c, s, G, d)
    | _ => mbad G d
  | .ior => match S with
    | (0, y) :: (0, x) :: S => mgo (pc + 1, L, (0, mior x y) :: S, c, s, G, d)
    | _ => mbad G d
  | .ishl => match S with
    | (0, y) :: (0, x) :: S => mgo (pc + 1, L, (0, mishl x y) :: S, c, s, G, d)
    | _ => mbad G d
  | .ishr => match S with
    | (0, y) :: (0, x) :: S => mgo (pc + 1, L, (0, mishr x y) :: S, c, s, G, d)
    | _ => mbad G d
  | .iushr => match S with
    | (0, y) :: (0, x) :: S => mgo (pc + 1, L, (0, miushr x y) :: S, c, s, G, d)
    | _ => mbad G d
  | .i2b => match S with
    | (0, x) :: S => mgo (pc + 1, L, (0, mi2b x) :: S, c, s, G, d)
    | _ => mbad G d
  | .i2l => match S with
    | (0, x) :: S => mif (mInR x) (pc + 1, L, (1, x) :: S, c, s, G, d)
    | _ => mbad G d
  | .l2i => match S with
    | (1, x) :: S => mgo (pc + 1, L, (0, x) :: S, c, s, G, d)
    | _ => mbad G d
  | .i2d => match S with
    | (0, x) :: S => mgo (pc + 1, L, (2, mi2d x) :: S, c, s, G, d)
    | _ => mbad G d
  | .ladd => match S with
    | (1, y) :: (1, x) :: S => mgo (pc + 1, L, (1, x + y) :: S, c, s, G, d)
    | _ => mbad G d
  | .lsub => match S with
    | (1, y) :: (1, x) :: S => mgo (pc + 1, L, (1, x - y) :: S, c, s, G, d)
    | _ => mbad G d
  | .lmul => match S with
    | (1, y) :: (1, x) :: S => mgo (pc + 1, L, (1, x * y) :: S, c, s, G, d)
    | _ => mbad G d
  | .land => match S with
    | (1, y) :: (1, x) :: S => mgo (pc + 1, L, (1, mland x y) :: S, c, s, G, d)
    | _ => mbad G d
  | .lor => match S with
    | (1, y) :: (1, x) :: S => mgo (pc + 1, L, (1, mlor x y) :: S, c, s, G, d)
    | _ => mbad G d
  | .lxor => match S with
    | (1, y) :: (1, x) :: S => mgo (pc + 1, L, (1, mlxor x y) :: S, c, s, G, d)
    | _ => mbad G d
  | .lshl => match S with
    | (0, y) :: (1, x) :: S => mgo (pc + 1, L, (1, mlshl x y) :: S, c, s, G, d)
    | _ => mbad G d
  | .lushr => match S with
    | (0, y) :: (1, x) :: S => mgo (pc + 1, L, (1, mlushr x y) :: S, c, s, G, d)
    | _ => mbad G d
  | .lcmp => match S with
    | (1, y) :: (1, x) :: S => mif (mInL x ∧ mInL y) (pc + 1, L, (0, mcmp x y) :: S, c, s, G, d)
    | _ => mbad G d
  | .ddiv => match S with
    | (2, y) :: (2, x) :: S => mif (vf_n64 (FP.ddiv (mbit x) (mbit y))) (pc + 1, L, (2, mddiv x y) :: S, c, s, G, d)
    | _ => mbad G d
  | .dcmp op => match S with
    | (2, y) :: (2, x) :: S => mgo (pc + 1, L, (0, mdcmp op x y) :: S, c, s, G, d)
    | _ => mbad G d
  | .goto t => mgo (t.toNat, L, S, c, s, G, d)
  | .ifCond o t => match S with
    | (0, x) :: S => mbr (mInR x) [(mcond o x 0, t.toNat, L, S, c, s, G, d), (mncond o x 0, pc + 3, L, S, c, s, G, d)]
    | _ => mbad G d
  | .if_icmp o t => match S with
    | (0, y) :: (0, x) :: S => mbr (mInR x ∧ mInR y) [(mcond o x y, t.toNat, L, S, c, s, G, d), (mncond o x y, pc + 3, L, S, c, s, G, d)]
    | _ => mbad G d
  | .tableswitch t lo hi ts => match S with
    | (0, x) :: S => mbr (mInR x) (msw x (fun q => (q, L, S, c, s, G, d)) lo ts.toList ++ [(x < lo ∨ hi < x, t.toNat, L, S, c, s, G, d)])
    | _ => mbad G d
  | .getfield g => match S with
    | (3, a) :: S => mif (G.1 a = ((g / 32 : Nat) : Int)) (pc + 3, L, (mtag (mfty g), d a ((g % 32 : Nat) : Int)) :: S, c, s, G, d)
    | _ => mbad G d
  | .putfield g => match S with
    | v :: (3, a) :: S => mif (G.1 a = ((g / 32 : Nat) : Int) ∧ mfit (mfty g) v) (pc + 3, L, S, c, s, G, mset d a ((g % 32 : Nat) : Int) v.2)
    | _ => mbad G d
  | .arraylength => match S with
    | (4, k) :: S => mif (k = 2) (pc + 1, L, (0, O.1 k) :: S, c, s, G, d)
    | (3, a) :: S => mif (100 ≤ G.1 a) (pc + 1, L, (0, G.2.1 a) :: S, c, s, G, d)
    | _ => mbad G d
  | .iaload => match S with
    | (0, i) :: (3, a) :: S => mif (G.1 a = 100 ∧ 0 ≤ i ∧ i < G.2.1 a) (pc + 1, L, (0, d a i) :: S, c, s, G, d)
    | (0, i) :: (4, k) :: S => mif ((k = 0 ∨ k = 1 ∨ k = 2) ∧ 0 ≤ i ∧ i < O.1 k) (pc + 1, L, (0, O.2 k i) :: S, c, s, G, d)
    | _ => mbad G d
  | .laload => match S with
    | (0, i) :: (3, a) :: S => mif (G.1 a = 101 ∧ 0 ≤ i ∧ i < G.2.1 a) (pc + 1, L, (1, d a i) :: S, c, s, G, d)
    | _ => mbad G d
  | .baload => match S with
    | (0, i) :: (3, a) :: S => mif ((G.1 a = 102 ∨ G.1 a = 103) ∧ 0 ≤ i ∧ i < G.2.1 a) (pc + 1, L, (0, d a i) :: S, c, s, G, d)
    | _ => mbad G d
  | .aaload => match S with
    | (0, i) :: (3, a) :: S => mif (200 ≤ G.1 a ∧ 0 ≤ i ∧ i < G.2.1 a) (pc + 1, L, (3, d a i) :: S, c, s, G, d)
    | _ => mbad G d
  | .iastore => match S with
    | (0, v) :: (0, i) :: (3, a) :: S => mif (G.1 a = 100 ∧ 0 ≤ i ∧ i < G.2.1 a) (pc + 1, L, S, c, s, G, mset d a i v)
    | _ => mbad G d
  | .lastore => match S with
    | (1, v) :: (0, i) :: (3, a) :: S => mif (G.1 a = 101 ∧ 0 ≤ i ∧ i < G.2.1 a) (pc + 1, L, S, c, s, G, mset d a i v)
    | _ => mbad G d
  | .bastore => match S with
    | (0, v) :: (0, i) :: (3, a) :: S => mif (((G.1 a = 102 ∧ -128 ≤ v ∧ v ≤ 127) ∨ (G.1 a = 103 ∧ (v = 0 ∨ v = 1))) ∧ 0 ≤ i ∧ i < G.2.1 a) (pc + 1, L, S, c, s, G, mset d a i v)
    | _ => mbad G d
  | .aastore => match S with
    | (3, v) :: (0, i) :: (3, a) :: S => mif (200 ≤ G.1 a ∧ 0 ≤ v ∧ G.1 v = G.1 a - 200 ∧ 0 ≤ i ∧ i < G.2.1 a) (pc + 1, L, S, c, s, G, mset d a i v)
    | _ => mbad G d
  | .newarray t => match S with
    | (0, n) :: S => mif (0 ≤ n ∧ n ≤ 100000 ∧ 0 ≤ G.2.2 ∧ c + 1 ≤ mmc m ∧ s + n.toNat ≤ mms m ∧ matyp t ≠ 199) (pc + 2, L, (3, G.2.2) :: S, c + 1, s + n.toNat, (mkind G.1 G.2.2 (matyp t), mkind G.2.1 G.2.2 n, G.2.2 + 1), mfill d G.2.2 0)
    | _ => mbad G d
  | .anewarray k => match S with
    | (0, n) :: S => mif (0 ≤ n ∧ n ≤ 100000 ∧ 0 ≤ G.2.2 ∧ c + 1 ≤ mmc m ∧ s + n.toNat ≤ mms m) (pc + 3, L, (3, G.2.2) :: S, c + 1, s + n.toNat, (mkind G.1 G.2.2 (200 + (k : Int)), mkind G.2.1 G.2.2 n, G.2.2 + 1), mfill d G.2.2 (-1))
    | _ => mbad G d
  | .new k => mif (0 ≤ G.2.2 ∧ c + 1 ≤ mmc m ∧ s + mnf k ≤ mms m) (pc + 3, L, (3, G.2.2) :: S, c + 1, s + mnf k, (mkind G.1 G.2.2 (k : Int), mkind G.2.1 G.2.2 0, G.2.2 + 1), fun b j => if b = G.2.2 then (if mfty (32 * k + j.toNat) = 4 then -1 else 0) else d b j)
  | .checkcast e => mfin (mroomT m S c s) (.inr e) (G.1, G.2.1, -1) d
  | .invokestatic j => match mpop (mnp j) S [] with
    | some (as, S) => mcal (mbud m j as S c s ∧ mrecv j as G.1) j as (pc, L, S, c + mmc j, s + mms j, G, d)
    | none => mbad G d
  | .invokespecial j => match j, S with
    | 0, (3, a) :: S => mif (0 ≤ a ∧ mroomN m S 12) (pc + 3, L, S, c, s, G, d)
    | 1, (0, y) :: (0, x) :: S => mif (mInR x ∧ mInR y ∧ mroomN m S 13) (pc + 3, L, (0, mmax x y) :: S, c, s, G, d)
    | 2, (0, y) :: (0, x) :: S => mif (mInR x ∧ mInR y ∧ mroomN m S 13) (pc + 3, L, (0, mmin x y) :: S, c, s, G, d)
    | 3, (0, n) :: (0, dp) :: (3, y) :: (0, sp) :: (3, x) :: S => mif ((G.1 x = 100 ∨ G.1 x = 101) ∧ G.1 y = G.1 x ∧ 0 ≤ sp ∧ 0 ≤ dp ∧ 0 ≤ n ∧ n ≤ 100000 ∧ sp ≤ 100000 ∧ dp ≤ 100000 ∧ sp + n ≤ G.2.1 x ∧ dp + n ≤ G.2.1 y ∧ mroomN m S 18) (pc + 3, L, S, c, s, G, mcopy d x sp y dp n)
    | 4, (5, k) :: S => mif ((0 ≤ k ∧ k < 7) ∧ mroomS m S) (pc + 3, L, (0, tsl k) :: S, c, s, G, d)
    | 5, (0, i) :: (5, k) :: S => mif ((0 ≤ k ∧ k < 7 ∧ 0 ≤ i ∧ i < tsl k) ∧ mroomS m S) (pc + 3, L, (0, tsc k i) :: S, c, s, G, d)
    | _, _ => mbad G d
  | .ireturn => match S with
    | [(0, v)] => mfin (mret1 m v) (.inl (some (0, v))) G d
    | _ => mbad G d
  | .lreturn => match S with
    | [(1, v)] => mfin (mretk m 3) (.inl (some (1, v))) G d
    | _ => mbad G d
  | .dreturn => match S with
    | [(2, v)] => mfin (mretk m 4) (.inl (some (2, v))) G d
    | _ => mbad G d
  | .return_ => match S with
    | [] => mfin (mretk m 0) (.inl none) G d
    | _ => mbad G d
  | _ => mbad G d
def mall (B : mSt → Prop) : List (Prop × mSt) → Prop
  | [] => True
  | [(p, st)] => p → B st
  | (p, st) :: (q :: r) => (p → B st) ∧ mall B (q :: r)
def mnoh (m : Nat) : Bool := (mhh m).isEmpty
-- behind a call
def mback (m pc : Nat) (L S : List mV) (c s : Nat) (B : mSt → Prop) (K : mK) : mK := fun r G d => match r with
  | .inl (some v) => B (pc + 3, L, v :: S, c, s, G, d)
  | .inl none => B (pc + 3, L, S, c, s, G, d)
  | .inr e => match mhnd m pc e with
    | some n => mret1 m n ∧ K (.inl (some (0, n))) G d
    | none => mnoh m = true ∧ K (.inr e) G d
def mint (B : mSt → Prop) (C : Nat → List mV → mG → mD → mK → Prop) (m : Nat) (K : mK) : mNx → Prop
  | .inl st => B st
  | .inr (.inl (p, st)) => p ∧ B st
  | .inr (.inr (.inl (p, bs))) => p ∧ mall B bs
  | .inr (.inr (.inr (.inl (p, j, as, pc, L, S, c, s, G, d)))) => p ∧ C j as G d (mback m pc L S c s B K)
  | .inr (.inr (.inr (.inr (p, r, G, d)))) => p ∧ K r G d
abbrev mP : Type := Nat → mSt → mK → Prop
def ment (j : Nat) (as : List mV) (G : mG) (d : mD) : mSt := (0, mloc j as, [], 0, 0, G, d)
def mstp (O : mO) (B : mSt → Prop) (C : Nat → List mV → mG → mD → mK → Prop) (m : Nat) (K : mK) : mSt → Prop
  | (pc, L, S, c, s, G, d) => match mfetch m pc with
    | some (i, len) => mint B C m K (mX O m len i pc L S c s G d)
    | none => False
def mstep (O : mO) (P : mP) (m : Nat) (st : mSt) (K : mK) : Prop := mstp O (fun st => P m st K) (fun j as G d K' => P j (ment j as G d) K') m K st
-- a run comes to an end, with K
def mRun (O : mO) (m : Nat) (st : mSt) (K : mK) : Prop := ∀ P : mP, (∀ m st K, mstep O P m st K → P m st K) → P m st K
def mCall (O : mO) (j : Nat) (as : List mV) (G : mG) (d : mD) (K : mK) : Prop := mRun O j (ment j as G d) K
theorem mall_mono {B B' : mSt → Prop} (h : ∀ st, B st → B' st) : ∀ bs, mall B bs → mall B' bs
  | [], _ => trivial
  | [(_, _)], k => fun hp => h _ (k hp)
  | (_, _) :: (q :: r), k => ⟨fun hp => h _ (k.1 hp), mall_mono h (q :: r) k.2⟩
theorem mback_mono {m pc : Nat} {L S : List mV} {c s : Nat} {B B' : mSt → Prop} {K K' : mK} (h : ∀ st, B st → B' st) (hk : ∀ r G d, K r G d → K' r G d) : ∀ r G d, mback m pc L S c s B K r G d → mback m pc L S c s B' K' r G d := by
  intro r G d k
  match r with
  | .inl (some v) => exact h _ k
  | .inl none => exact h _ k
  | .inr e =>
    simp only [mback] at k ⊢
    split at k
    · exact ⟨k.1, hk _ _ _ k.2⟩
    · exact ⟨k.1, hk _ _ _ k.2⟩
theorem mint_mono {B B' : mSt → Prop} {C C' : Nat → List mV → mG → mD → mK → Prop} {m : Nat} {K K' : mK} (h : ∀ st, B st → B' st) (hk : ∀ r G d, K r G d → K' r G d)
    (hC : ∀ j as G d K1 K2, (∀ r G d, K1 r G d → K2 r G d) → C j as G d K1 → C' j as G d K2) : ∀ nx, mint B C m K nx → mint B' C' m K' nx := by
  intro nx k
  match nx with
  | .inl st => exact h _ k
  | .inr (.inl (p, st)) => exact ⟨k.1, h _ k.2⟩
  | .inr (.inr (.inl (p, bs))) => exact ⟨k.1, mall_mono h _ k.2⟩
  | .inr (.inr (.inr (.inl (p, j, as, pc, L, S, c, s, G, d)))) => exact ⟨k.1, hC _ _ _ _ _ _ (mback_mono h hk) k.2⟩
  | .inr (.inr (.inr (.inr (p, r, G, d)))) => exact ⟨k.1, hk _ _ _ k.2⟩
theorem mstp_mono {O : mO} {B B' : mSt → Prop} {C C' : Nat → List mV → mG → mD → mK → Prop} {m : Nat} {K K' : mK} (h : ∀ st, B st → B' st) (hk : ∀ r G d, K r G d → K' r G d)
    (hC : ∀ j as G d K1 K2, (∀ r G d, K1 r G d → K2 r G d) → C j as G d K1 → C' j as G d K2) : ∀ st, mstp O B C m K st → mstp O B' C' m K' st := by
  intro st k
  obtain ⟨pc, L, S, c, s, G, d⟩ := st
  simp only [mstp] at k ⊢
  split at k
  · exact mint_mono h hk hC _ k
  · exact k
theorem mRun_mono {O : mO} {m : Nat} {st : mSt} {K K' : mK} (h : mRun O m st K) (hk : ∀ r G d, K r G d → K' r G d) : mRun O m st K' := by
  intro P hP
  refine h (fun m st K => ∀ K' : mK, (∀ r G d, K r G d → K' r G d) → P m st K') ?_ K' hk
  intro m st K k K' hk
  refine hP _ _ _ ?_
  exact mstp_mono (fun st h => h K' hk) hk (fun j as G d K1 K2 h12 h => h K2 h12) st k
theorem mRun_in {O : mO} {m : Nat} {st : mSt} {K : mK} (h : mstp O (fun st => mRun O m st K) (fun j as G d K' => mCall O j as G d K') m K st) : mRun O m st K := by
  intro P hP
  refine hP _ _ _ ?_
  exact mstp_mono (B := fun st => mRun O m st K) (C := fun j as G d K' => mCall O j as G d K') (fun st h => h P hP) (fun _ _ _ h => h) (fun j as G d K1 K2 h12 h => mRun_mono h h12 P hP) st h
-- n steps at once
def mN (O : mO) (m : Nat) (K : mK) : Nat → mSt → Prop
  | 0, st => mRun O m st K
  | n + 1, st => mstp O (mN O m K n) (fun j as G d K' => mCall O j as G d K') m K st
theorem mN_run {O : mO} {m : Nat} {K : mK} : ∀ (n : Nat) (st : mSt), mN O m K n st → mRun O m st K
  | 0, _, h => h
  | n + 1, st, h => mRun_in (mstp_mono (B := mN O m K n) (C := fun j as G d K' => mCall O j as G d K') (fun st k => mN_run n st k) (fun _ _ _ k => k) (fun _ _ _ _ _ _ h12 k => mRun_mono k h12) st h)
