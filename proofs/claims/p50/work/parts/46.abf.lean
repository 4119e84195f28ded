/-! ===== one abstract step, found by the instruction alone (the kernel keeps what it found) ===== -/
noncomputable def aXo (i : Instr) (len : Nat) : Option (aI → Nat → Nat → List aV → List aV → Nat → Nat → aM → Nat → Bool → (aNx → Bool) → Bool) := match i with
  | .invokespecial j => some (fun I m pc L S c s M n kn k => aXc I m j pc L S c s M n kn k)
  | .iconst z => some (fun _ _ pc L S c s M n kn k => agoN 0 (0, z) (pc + len) L S c s M n kn k)
  | .bipush z => some (fun _ _ pc L S c s M n kn k => agoN 0 (0, z) (pc + len) L S c s M n kn k)
  | .sipush z => some (fun _ _ pc L S c s M n kn k => agoN 0 (0, z) (pc + len) L S c s M n kn k)
  | .lconst z => some (fun _ _ pc L S c s M n kn k => agoN 1 (0, ((z : Nat) : Int)) (pc + len) L S c s M n kn k)
  | .jsr_w z => some (fun _ _ pc L S c s M n kn k => agoN 1 (0, z) (pc + len) L S c s M n kn k)
  | .dconst _ => some (fun _ _ pc L S c s M n kn k => agoN 2 (0, 0) (pc + len) L S c s M n kn k)
  | .ldc j => some (fun _ _ pc L S c s M n kn k => agoN 5 (0, (j : Int)) (pc + len) L S c s M n kn k)
  | .getstatic j => some (fun _ _ pc L S c s M n kn k => bif Nat.beq j 5 then false else agoN 4 (0, (j : Int)) (pc + len) L S c s M n kn k)
  | .iload q => some (fun _ _ pc L S c s M n kn k => match agt L q with
    | (0, x) => agoN 0 x (pc + len) L S c s M n kn k
    | _ => false)
  | .lload q => some (fun _ _ pc L S c s M n kn k => match agt L q with
    | (1, x) => agoN 1 x (pc + len) L S c s M n kn k
    | _ => false)
  | .dload q => some (fun _ _ pc L S c s M n kn k => match agt L q with
    | (2, x) => agoN 2 x (pc + len) L S c s M n kn k
    | _ => false)
  | .aload q => some (fun _ _ pc L S c s M n kn k => match agt L q with
    | (3, x) => agoN 3 x (pc + len) L S c s M n kn k
    | (4, x) => agoN 4 x (pc + len) L S c s M n kn k
    | (5, x) => agoN 5 x (pc + len) L S c s M n kn k
    | _ => false)
  | .istore q => some (fun _ _ pc L S c s M n kn k => match S with
    | (0, x) :: S => al1K L q (0, x) (fun L => ago (pc + len) L S c s M n kn k)
    | _ => false)
  | .lstore q => some (fun _ _ pc L S c s M n kn k => match S with
    | (1, x) :: S => al2K L q (1, x) (fun L => ago (pc + len) L S c s M n kn k)
    | _ => false)
  | .dstore q => some (fun _ _ pc L S c s M n kn k => match S with
    | (2, x) :: S => al2K L q (2, x) (fun L => ago (pc + len) L S c s M n kn k)
    | _ => false)
  | .astore q => some (fun I _ pc L S c s M n kn k => match S with
    | (3, x) :: S => bif anneg I x then al1K L q (3, x) (fun L => ago (pc + len) L S c s M n kn k) else false
    | _ => false)
  | .iinc q z => some (fun _ _ pc L S c s M n kn k => match agt L q with
    | (0, x) => frcN (aadd x (0, z)).1 (fun u => frcZ (aadd x (0, z)).2 (fun v => al1K L q (0, u, v) (fun L => ago (pc + len) L S c s M n kn k)))
    | _ => false)
  | .dup => some (fun _ _ pc L S c s M n kn k => match S with
    | (0, x) :: S => ago (pc + 1) L ((0, x) :: (0, x) :: S) c s M n kn k
    | (3, x) :: S => ago (pc + 1) L ((3, x) :: (3, x) :: S) c s M n kn k
    | _ => false)
  | .dup2 => some (fun _ _ pc L S c s M n kn k => match S with
    | (0, y) :: (3, x) :: S => ago (pc + 1) L ((0, y) :: (3, x) :: (0, y) :: (3, x) :: S) c s M n kn k
    | _ => false)
  | .pop => some (fun _ _ pc L S c s M n kn k => match S with
    | (0, _) :: S => ago (pc + 1) L S c s M n kn k
    | _ => false)
  | .iadd => some (fun _ _ pc L S c s M n kn k => match S with
    | (0, y) :: (0, x) :: S => agoN 0 (aadd x y) (pc + 1) L S c s M n kn k
    | _ => false)
  | .isub => some (fun _ _ pc L S c s M n kn k => match S with
    | (0, y) :: (0, x) :: S => agoN 0 (asub x y) (pc + 1) L S c s M n kn k
    | _ => false)
  | .imul => some (fun I _ pc L S c s M n kn k => match S with
    | (0, y) :: (0, x) :: S => bif Nat.beq (anorm I x).1 0 then (bif Nat.beq (anorm I y).1 0 then agoN 0 (abin (fun a b => a * b) (anorm I x) (anorm I y)) (pc + 1) L S c s M n kn k else asp1 I y k) else asp1 I x k
    | _ => false)
  | .iand => some (fun I _ pc L S c s M n kn k => match S with
    | (0, y) :: (0, x) :: S => agoN 0 (aand I x y) (pc + 1) L S c s M n kn k
    | _ => false)
  | .ishr => some (fun I _ pc L S c s M n kn k => match S with
    | (0, y) :: (0, x) :: S => bif asm6 I x y then (match arng I x with
      | some (p, q) => bif zeq (p / 64) (q / 64) then agoN 0 (0, p / 64) (pc + 1) L S c s M n kn k else aspz x (p / 64 * 64 + 63) k
      | none => false) else agoN 0 (abin mishr (anorm I x) (anorm I y)) (pc + 1) L S c s M n kn k
    | _ => false)
  | .ior => some (fun I _ pc L S c s M n kn k => match S with
    | (0, y) :: (0, x) :: S => agoN 0 (abin mior (anorm I x) (anorm I y)) (pc + 1) L S c s M n kn k
    | _ => false)
  | .ishl => some (fun I _ pc L S c s M n kn k => match S with
    | (0, y) :: (0, x) :: S => agoN 0 (abin mishl (anorm I x) (anorm I y)) (pc + 1) L S c s M n kn k
    | _ => false)
  | .iushr => some (fun I _ pc L S c s M n kn k => match S with
    | (0, y) :: (0, x) :: S => agoN 0 (abin miushr (anorm I x) (anorm I y)) (pc + 1) L S c s M n kn k
    | _ => false)
  | .idiv => some (fun I _ pc L S c s M n kn k => match S with
    | (0, y) :: (0, x) :: S => bif adivc I x y then (bif anar I x y then asp1 I x k else agoN 0 (abin (fun a b => a / b) (anorm I x) (anorm I y)) (pc + 1) L S c s M n kn k) else false
    | _ => false)
  | .irem => some (fun I _ pc L S c s M n kn k => match S with
    | (0, y) :: (0, x) :: S => bif adivc I x y then agoN 0 (abin (fun a b => a % b) (anorm I x) (anorm I y)) (pc + 1) L S c s M n kn k else false
    | _ => false)
  | .ladd => some (fun _ _ pc L S c s M n kn k => match S with
    | (1, y) :: (1, x) :: S => agoN 1 (aadd x y) (pc + 1) L S c s M n kn k
    | _ => false)
  | .lsub => some (fun _ _ pc L S c s M n kn k => match S with
    | (1, y) :: (1, x) :: S => agoN 1 (asub x y) (pc + 1) L S c s M n kn k
    | _ => false)
  | .lmul => some (fun I _ pc L S c s M n kn k => match S with
    | (1, y) :: (1, x) :: S => agoN 1 (abin (fun a b => a * b) (anorm I x) (anorm I y)) (pc + 1) L S c s M n kn k
    | _ => false)
  | .land => some (fun I _ pc L S c s M n kn k => match S with
    | (1, y) :: (1, x) :: S => agoN 1 (abin mland (anorm I x) (anorm I y)) (pc + 1) L S c s M n kn k
    | _ => false)
  | .lor => some (fun I _ pc L S c s M n kn k => match S with
    | (1, y) :: (1, x) :: S => agoN 1 (abin mlor (anorm I x) (anorm I y)) (pc + 1) L S c s M n kn k
    | _ => false)
  | .lxor => some (fun I _ pc L S c s M n kn k => match S with
    | (1, y) :: (1, x) :: S => agoN 1 (abin mlxor (anorm I x) (anorm I y)) (pc + 1) L S c s M n kn k
    | _ => false)
  | .lshl => some (fun I _ pc L S c s M n kn k => match S with
    | (0, y) :: (1, x) :: S => agoN 1 (abin mlshl (anorm I x) (anorm I y)) (pc + 1) L S c s M n kn k
    | _ => false)
  | .lushr => some (fun I _ pc L S c s M n kn k => match S with
    | (0, y) :: (1, x) :: S => agoN 1 (ausr (anorm I x) (anorm I y)) (pc + 1) L S c s M n kn k
    | _ => false)
  | .lcmp => some (fun I _ pc L S c s M n kn k => match S with
    | (1, y) :: (1, x) :: S => bif ainL I x && ainL I y then (match alt I x y, aeq I x y with
      | some true, _ => agoN 0 (0, -1) (pc + 1) L S c s M n kn k
      | some false, some true => agoN 0 (0, 0) (pc + 1) L S c s M n kn k
      | some false, some false => agoN 0 (0, 1) (pc + 1) L S c s M n kn k
      | none, _ => asplit I .lt x y k
      | some false, none => asplit I .eq x y k) else false
    | _ => false)
  | .dcmp o => some (fun _ _ pc L S c s M n kn k => match S with
    | (2, y) :: (2, x) :: S => agoN 0 (abin (mdcmp o) x y) (pc + 1) L S c s M n kn k
    | _ => false)
  | .i2b => some (fun _ _ pc L S c s M n kn k => match S with
    | (0, x) :: S => agoN 0 (ai2b x) (pc + 1) L S c s M n kn k
    | _ => false)
  | .i2l => some (fun I _ pc L S c s M n kn k => match S with
    | (0, x) :: S => bif ainR I x then agoN 1 (x) (pc + 1) L S c s M n kn k else false
    | _ => false)
  | .l2i => some (fun _ _ pc L S c s M n kn k => match S with
    | (1, x) :: S => agoN 0 (x) (pc + 1) L S c s M n kn k
    | _ => false)
  | .goto t => some (fun _ _ _ L S c s M n kn k => ago t.toNat L S c s M n kn k)
  | .ifCond o t => some (fun I _ pc L S c s M n kn k => match S with
    | (0, x) :: S => bif ainR I x then (match acond I o x (0, 0) with
      | some true => ago t.toNat L S c s M n kn k
      | some false => ago (pc + 3) L S c s M n kn k
      | none => asplit I o x (0, 0) k) else false
    | _ => false)
  | .if_icmp o t => some (fun I _ pc L S c s M n kn k => match S with
    | (0, y) :: (0, x) :: S => bif ainR I x && ainR I y then (match acond I o x y with
      | some true => ago t.toNat L S c s M n kn k
      | some false => ago (pc + 3) L S c s M n kn k
      | none => asplit I o x y k) else false
    | _ => false)
  | .tableswitch t lo hi ts => some (fun I _ _ L S c s M n kn k => match S with
    | (0, x) :: S => bif ainR I x && zeq (ts.size : Int) (hi - lo + 1) then (match arng I x with
      | some (p, q) => bif zeq p q then ago (atgt p lo hi t ts.toList).toNat L S c s M n kn k else bif zlt q lo || zlt hi p then ago t.toNat L S c s M n kn k else asw lo hi p q x k
      | none => false) else false
    | _ => false)
  | .getfield g => some (fun _ _ pc L S c s M n kn k => match S with
    | (3, x) :: S => (match acl M n x with
      | some (_, c9) => bif Nat.beq c9.1 (g / 64) then agoN (mtag (mfty g)) (aget c9 (g % 64)) (pc + 3) L S c s M n kn k else false
      | none => false)
    | _ => false)
  | .putfield g => some (fun I _ pc L S c s M n kn k => match S with
    | v :: (3, x) :: S => (match acl M n x with
      | some (q9, c9) => bif Nat.beq c9.1 (g / 64) && afit I (mfty g) v then asetK c9 (g % 64) v.2 (fun c9 => aputK M q9 c9 (fun M => ago (pc + 3) L S c s M n kn k)) else false
      | none => false)
    | _ => false)
  | .arraylength => some (fun I _ pc L S c s M n kn k => match S with
    | (4, x) :: S => bif Nat.beq x.1 0 && zeq x.2 2 && !Nat.beq I.1 0 then agoN 0 (0, (I.1 : Int)) (pc + 1) L S c s M n kn k else false
    | (3, x) :: S => (match acl M n x with
      | some (_, c9) => bif Nat.ble 100 c9.1 then agoN 0 (0, (c9.2.1 : Int)) (pc + 1) L S c s M n kn k else false
      | none => false)
    | _ => false)
  | .iaload => some (fun I _ pc L S c s M n kn k => match S with
    | (0, i) :: (3, x) :: S => (match acl M n x with
      | some (_, c9) => bif Nat.beq c9.1 100 then (match aix I i c9.2.1 with
        | some i9 => agoN 0 (aget c9 i9) (pc + 1) L S c s M n kn k
        | none => asp1 I i k) else false
      | none => false)
    | (0, i) :: (4, x) :: S => bif Nat.beq x.1 0 && zeq x.2 2 then (match aix I i I.1 with
      | some i9 => agoN 0 (ascr I i9) (pc + 1) L S c s M n kn k
      | none => asp1 I i k) else (match aix I x 2, aix I i 5 with
      | some k9, some i9 => agoN 0 (0, mStv k9 i9) (pc + 1) L S c s M n kn k
      | some _, none => asp1 I i k
      | _, _ => false)
    | _ => false)
  | .laload => some (fun I _ pc L S c s M n kn k => match S with
    | (0, i) :: (3, x) :: S => (match acl M n x with
      | some (_, c9) => bif Nat.beq c9.1 101 then (match aix I i c9.2.1 with
        | some i9 => agoN 1 (aget c9 i9) (pc + 1) L S c s M n kn k
        | none => asp1 I i k) else false
      | none => false)
    | _ => false)
  | .baload => some (fun I _ pc L S c s M n kn k => match S with
    | (0, i) :: (3, x) :: S => (match acl M n x with
      | some (_, c9) => bif Nat.beq c9.1 102 || Nat.beq c9.1 103 then (match aix I i c9.2.1 with
        | some i9 => agoN 0 (aget c9 i9) (pc + 1) L S c s M n kn k
        | none => asp1 I i k) else false
      | none => false)
    | _ => false)
  | .aaload => some (fun I _ pc L S c s M n kn k => match S with
    | (0, i) :: (3, x) :: S => (match acl M n x with
      | some (_, c9) => bif Nat.ble 200 c9.1 then (match aix I i c9.2.1 with
        | some i9 => agoN 3 (aget c9 i9) (pc + 1) L S c s M n kn k
        | none => asp1 I i k) else false
      | none => false)
    | _ => false)
  | .iastore => some (fun I _ pc L S c s M n kn k => match S with
    | (0, v) :: (0, i) :: (3, x) :: S => (match acl M n x with
      | some (q9, c9) => bif Nat.beq c9.1 100 then (match aix I i c9.2.1 with
        | some i9 => asetK c9 i9 v (fun c9 => aputK M q9 c9 (fun M => ago (pc + 1) L S c s M n kn k))
        | none => asp1 I i k) else false
      | none => false)
    | _ => false)
  | .lastore => some (fun I _ pc L S c s M n kn k => match S with
    | (1, v) :: (0, i) :: (3, x) :: S => (match acl M n x with
      | some (q9, c9) => bif Nat.beq c9.1 101 then (match aix I i c9.2.1 with
        | some i9 => asetK c9 i9 v (fun c9 => aputK M q9 c9 (fun M => ago (pc + 1) L S c s M n kn k))
        | none => asp1 I i k) else false
      | none => false)
    | _ => false)
  | .bastore => some (fun I _ pc L S c s M n kn k => match S with
    | (0, v) :: (0, i) :: (3, x) :: S => (match acl M n x with
      | some (q9, c9) => bif (Nat.beq c9.1 102 && abyt I v) || (Nat.beq c9.1 103 && a01 v) then (match aix I i c9.2.1 with
        | some i9 => asetK c9 i9 v (fun c9 => aputK M q9 c9 (fun M => ago (pc + 1) L S c s M n kn k))
        | none => asp1 I i k) else false
      | none => false)
    | _ => false)
  | .aastore => some (fun I _ pc L S c s M n kn k => match S with
    | (3, v) :: (0, i) :: (3, x) :: S => (match acl M n v with
      | some (_, d9) => (match acl M n x with
      | some (q9, c9) => bif Nat.ble 200 c9.1 && Nat.beq (d9.1 + 200) c9.1 then (match aix I i c9.2.1 with
        | some i9 => asetK c9 i9 v (fun c9 => aputK M q9 c9 (fun M => ago (pc + 1) L S c s M n kn k))
        | none => asp1 I i k) else false
      | none => false)
      | none => false)
    | _ => false)
  | .newarray t => some (fun _ m pc L S c s M n kn k => match S with
    | (0, (0, .ofNat N)) :: S => bif Nat.ble N 100000 && (kn && Nat.blt n 769) && Nat.ble (c + 1) (mmc m) && Nat.ble (s + N) (mms m) && !Nat.beq (akd t) 199 then frcN (c + 1) (fun c => frcN (s + N) (fun s => frcN (n + 1) (fun n1 => aputK M n (akd t, N, (0, 0), []) (fun M => agoN 3 (0, (n : Int)) (pc + 2) L S c s M n1 kn k)))) else false
    | _ => false)
  | .anewarray j => some (fun _ m pc L S c s M n kn k => match S with
    | (0, (0, .ofNat N)) :: S => bif Nat.ble N 100000 && (kn && Nat.blt n 769) && Nat.ble (c + 1) (mmc m) && Nat.ble (s + N) (mms m) then frcN (c + 1) (fun c => frcN (s + N) (fun s => frcN (n + 1) (fun n1 => aputK M n (200 + j, N, (0, -1), []) (fun M => agoN 3 (0, (n : Int)) (pc + 3) L S c s M n1 kn k)))) else false
    | _ => false)
  | .new j => some (fun _ m pc L S c s M n kn k => bif (kn && Nat.blt n 769 && Nat.blt j 12) && Nat.ble (c + 1) (mmc m) && Nat.ble (s + mnf j) (mms m) then frcN (c + 1) (fun c => frcN (s + mnf j) (fun s => frcN (n + 1) (fun n1 => aputK M n (j, 0, (1, 0), [anr j]) (fun M => agoN 3 (0, (n : Int)) (pc + 3) L S c s M n1 kn k)))) else false)
  | .checkcast _ => some (fun _ _ _ _ _ _ _ _ _ _ _ => false)
  | .ireturn => some (fun _ m _ _ S _ _ M n kn k => match S with
    | [(0, v)] => bif aret1 m v then k (.inr (.inr (.inl (.inl (some (0, v)), M, n, kn)))) else false
    | _ => false)
  | .lreturn => some (fun _ m _ _ S _ _ M n kn k => match S with
    | [(1, v)] => bif Nat.beq (mret m) 3 then k (.inr (.inr (.inl (.inl (some (1, v)), M, n, kn)))) else false
    | _ => false)
  | .dreturn => some (fun _ m _ _ S _ _ M n kn k => match S with
    | [(2, v)] => bif Nat.beq (mret m) 4 then k (.inr (.inr (.inl (.inl (some (2, v)), M, n, kn)))) else false
    | _ => false)
  | .return_ => some (fun _ m _ _ S _ _ M n kn k => match S with
    | [] => bif Nat.beq (mret m) 0 then k (.inr (.inr (.inl (.inl none, M, n, kn)))) else false
    | _ => false)
  | .invokestatic j => some (fun _ m pc L S c s M n kn k => match apop (mnp j) S [] with
    | some (as, S) => bif mroom m j && Nat.ble (alay as).length (mmaxL j) && Nat.ble (acats S) 8 && Nat.ble (c + mmc j) (mmc m) && Nat.ble (s + mms j) (mms m) && arecv M n j as then frcN (c + mmc j) (fun c => frcN (s + mms j) (fun s => k (.inr (.inl (j, as, (pc, L, S, c, s, M, n, kn)))))) else false
    | none => false)
  | _ => none
noncomputable def aXg (h : Option (aI → Nat → Nat → List aV → List aV → Nat → Nat → aM → Nat → Bool → (aNx → Bool) → Bool)) (I : aI) (m pc : Nat) (L S : List aV) (c s : Nat) (M : aM) (n : Nat) (kn : Bool) (k : aNx → Bool) : Bool := match h with
  | some h => h I m pc L S c s M n kn k
  | none => false
theorem aXg_eq (i : Instr) (I : aI) (m len pc : Nat) (L S : List aV) (c s : Nat) (M : aM) (n : Nat) (kn : Bool) (k : aNx → Bool) : aXg (aXo i len) I m pc L S c s M n kn k = aX I m len i pc L S c s M n kn k := by cases i <;> rfl
noncomputable def aisC (i : Instr) : Bool := match i with
  | .if_icmp _ _ => true
  | _ => false
/-! ===== abstract runs ===== -/
noncomputable def aLo (I : aI) (q : Nat × Int) : aI := (I.1, lupd (0, 0) (fun b => (b.1, q.2)) I.2 q.1)
noncomputable def aHi (I : aI) (q : Nat × Int) : aI := (I.1, lupd (0, 0) (fun b => (q.2 + 1, b.2)) I.2 q.1)
noncomputable def amck (q : Int × List Nat × List (Nat × Nat)) (M : aM) (n : Nat) (kn : Bool) (r : aRes) : Bool := match r with
  | (.inl (some (0, 0, z)), M2, n2, kn2) => zeq z q.1 && Nat.beq n2 n && (kn2 == kn) && lEq (lEq acEq) (aP q M2) (aP q M)
  | _ => false
theorem amck_ok {ρ : Nat → Int} {q : Int × List Nat × List (Nat × Nat)} {M : aM} {n : Nat} {kn : Bool} {r : aRes} {x : mRes} {G : mG} {d : mD} (h : amck q M n kn r = true) (hr : gR ρ r x G d) : x = .inl (some (0, q.1)) ∧ gM ρ (aP q M) n kn G d := by
  unfold amck at h
  split at h
  · rename_i z M2 n2 kn2
    simp only [Bool.and_eq_true, beq_iff_eq] at h
    obtain ⟨⟨⟨h1, h2⟩, h3⟩, h4⟩ := h
    have h1 : z = q.1 := of_decide_eq_true h1
    have h2 := Nat.eq_of_beq_eq_true h2
    subst h2
    subst h3
    obtain ⟨hM, hx⟩ := hr
    have h5 := lEq_ok (lEq_ok acEq_ok) _ _ h4
    have hP := gM_P hM q
    dsimp only at hP
    rw [h5] at hP
    refine ⟨?_, hP⟩
    match x, hx with
    | .inl (some (t, w)), hx =>
      have e1 : 0 = t := hx.1
      have e2 : w = z := hx.2
      rw [← e1, e2, h1]
    | .inl none, hx => exact hx.elim
    | .inr _, hx => exact hx.elim
  · cases h
-- in method 0 at 'stop' it ends, with Z; behind a call of a method in g what g says is kept
noncomputable def aBody (g : aG) (stop : Nat) (Z : aI → aSt → Bool) (ih : aI → Nat → aSt → (aI → aRes → Bool) → Bool) (I : aI) (m : Nat) : aSt → (aI → aRes → Bool) → Bool
  | (pc, L, S, c, s, M, n, kn), K => bif Nat.beq m 0 && Nat.beq pc stop then Z I (pc, L, S, c, s, M, n, kn) else match mfetch m pc with
    | some (i, len) => (match amac (aisC i) I m pc L S M n with
      | some (t, L, M) => ih I m (t, L, [], c, s, M, n, kn) K
      | none => aXg (aXo i len) I m pc L S c s M n kn (fun nx => match nx with
      | .inl st => ih I m st K
      | .inr (.inl (j, as, (pc, L, S, c, s, M, n, kn))) => !Nat.beq j 0 && (match agm g j with
        | some q => ih I j (0, apad (mmaxL j) (alay as), [], 0, 0, M, n, kn) (fun _ r => amck q M n kn r) && aPK q M (fun M => ih I m (pc + 3, L, (0, 0, q.1) :: S, c, s, M, n, kn) K)
        | none => ih I j (0, apad (mmaxL j) (alay as), [], 0, 0, M, n, kn) (fun I r => match r with
        | (.inl (some v), M, n, kn) => ih I m (pc + 3, L, v :: S, c, s, M, n, kn) K
        | (.inl none, M, n, kn) => ih I m (pc + 3, L, S, c, s, M, n, kn) K
        | (.inr e, M, n, kn) => match mhnd m pc e with
          | some z => aret1 m (0, z) && K I (.inl (some (0, 0, z)), M, n, kn)
          | none => mnoh m && K I (.inr e, M, n, kn)))
      | .inr (.inr (.inl r)) => K I r
      | .inr (.inr (.inr q)) => Nat.blt q.1 I.2.length && ih (aLo I q) m (pc, L, S, c, s, M, n, kn) K && ih (aHi I q) m (pc, L, S, c, s, M, n, kn) K))
    | none => false
noncomputable def aRun (g : aG) (stop : Nat) (Z : aI → aSt → Bool) (f : Nat) : aI → Nat → aSt → (aI → aRes → Bool) → Bool :=
  Nat.rec (motive := fun _ => aI → Nat → aSt → (aI → aRes → Bool) → Bool) (fun _ _ _ _ => false) (fun _ ih => aBody g stop Z ih) f
theorem lupd_len {α : Type} (z : α) (f : α → α) : ∀ (l : List α) (i : Nat), i < l.length → (lupd z f l i).length = l.length
  | [], _, h => absurd h (by simp)
  | _ :: _, 0, _ => by simp [lupd]
  | _ :: l, i + 1, h => by simp [lupd, lupd_len z f l i (by simpa using h)]
theorem gI_lo {ρ : Nat → Int} {I : aI} {O : mO} (hI : gI ρ I O) {q : Nat × Int} (hq : q.1 < I.2.length) (h : ρ q.1 ≤ q.2) : gI ρ (aLo I q) O := by
  refine ⟨hI.1, hI.2.1, hI.2.2.1, fun i hi => ?_, hI.2.2.2.2⟩
  have hi : i < (lupd (0, 0) (fun b => (b.1, q.2)) I.2 q.1).length := hi
  rw [lupd_len _ _ _ _ hq] at hi
  have h1 := hI.2.2.2.1 i hi
  show (lget (0, 0) (lupd (0, 0) (fun b => (b.1, q.2)) I.2 q.1) i).1 ≤ ρ i ∧ ρ i ≤ (lget (0, 0) (lupd (0, 0) (fun b => (b.1, q.2)) I.2 q.1) i).2
  rw [lget_upd]
  by_cases e : i = q.1
  · subst e
    rw [if_pos rfl]
    exact ⟨h1.1, h⟩
  · rw [if_neg e]
    exact h1
theorem gI_hi {ρ : Nat → Int} {I : aI} {O : mO} (hI : gI ρ I O) {q : Nat × Int} (hq : q.1 < I.2.length) (h : q.2 < ρ q.1) : gI ρ (aHi I q) O := by
  refine ⟨hI.1, hI.2.1, hI.2.2.1, fun i hi => ?_, hI.2.2.2.2⟩
  have hi : i < (lupd (0, 0) (fun b => (q.2 + 1, b.2)) I.2 q.1).length := hi
  rw [lupd_len _ _ _ _ hq] at hi
  have h1 := hI.2.2.2.1 i hi
  show (lget (0, 0) (lupd (0, 0) (fun b => (q.2 + 1, b.2)) I.2 q.1) i).1 ≤ ρ i ∧ ρ i ≤ (lget (0, 0) (lupd (0, 0) (fun b => (q.2 + 1, b.2)) I.2 q.1) i).2
  rw [lget_upd]
  by_cases e : i = q.1
  · subst e
    rw [if_pos rfl]
    exact ⟨by show q.2 + 1 ≤ _; omega, h1.2⟩
  · rw [if_neg e]
    exact h1
theorem aRun_ok {ρ : Nat → Int} {O : mO} {g : aG} {stop : Nat} {Z : aI → aSt → Bool} : ∀ (f : Nat) (I : aI) (m : Nat) (st : aSt) (K : aI → aRes → Bool), gI ρ I O → aRun g stop Z f I m st K = true → ∀ w, gS ρ st w → ∀ Kc : mK, (∀ I' r, gI ρ I' O → K I' r = true → ∀ q G d, gR ρ r q G d → Kc q G d) → (m = 0 → ∀ I' st', gI ρ I' O → Z I' st' = true → ∀ w', gS ρ st' w' → mRun O 0 w' Kc) → mRun O m w Kc
  | 0, _, _, _, _, _, h, _, _, _, _, _ => by cases h
  | f + 1, I, m, (pc, L, S, c, s, M, n, kn), K, hI, h, (pc', L', S', c', s', G, d), hw, Kc, hK, hZ => by
    have hw9 := hw
    obtain ⟨rfl, hL, hS, rfl, rfl, hM⟩ := hw
    replace h : aBody g stop Z (aRun g stop Z f) I m (pc, L, S, c, s, M, n, kn) K = true := h
    unfold aBody at h
    dsimp only at h
    cases hst : (Nat.beq m 0 && Nat.beq pc stop) with
    | true =>
      rw [hst] at h
      dsimp only [cond] at h
      rw [Bool.and_eq_true] at hst
      have hm := Nat.eq_of_beq_eq_true hst.1
      subst hm
      exact hZ rfl I _ hI h _ hw9
    | false =>
    rw [hst] at h
    dsimp only [cond] at h
    split at h
    · rename_i i len hf
      split at h
      · rename_i t9 L9 M9 hm9
        exact amac1_ok hI hL hS hM (amac_is hm9) (fun L1' d' hL1 hM1 => aRun_ok f I m (t9, L9, [], c, s, M9, n, kn) K hI h (t9, L1', [], c, s, G, d') ⟨rfl, hL1, trivial, rfl, rfl, hM1⟩ Kc hK hZ)
      rw [aXg_eq] at h
      obtain ⟨nx, hnx, hs⟩ := aX_ok hI hL hS hM h
      have hin : ∀ (B : mSt → Prop) (C : Nat → List mV → mG → mD → mK → Prop), mint B C m Kc (mX O m len i pc L' S' c s G d) → mstp O B C m Kc (pc, L', S', c, s, G, d) := by
        intro B C hh
        simp only [mstp]
        rw [hf]
        exact hh
      match nx, hnx, hs with
      | .inl st, hnx, hs => exact mRun_in (hin _ _ (hs _ _ _ (fun w hw => aRun_ok f I m st K hI hnx w hw Kc hK hZ)))
      | .inr (.inr (.inl r)), hnx, hs => exact mRun_in (hin _ _ (hs _ _ _ (fun q G d hr => hK I r hI hnx q G d hr)))
      | .inr (.inr (.inr q)), hnx, hs =>
        simp only [Bool.and_eq_true, Nat.blt_eq] at hnx
        by_cases hq : ρ q.1 ≤ q.2
        · exact aRun_ok f (aLo I q) m _ K (gI_lo hI hnx.1.1 hq) hnx.1.2 _ hw9 Kc hK hZ
        · exact aRun_ok f (aHi I q) m _ K (gI_hi hI hnx.1.1 (by omega)) hnx.2 _ hw9 Kc hK hZ
      | .inr (.inl (j, as, (pc, L, S, c, s, M, n, kn))), hnx, hs =>
        refine mRun_in (hin _ _ (hs _ _ _ (fun as' pc' L' S' c' s' G d has hst => ?_)))
        obtain ⟨rfl, hL, hS, rfl, rfl, hM⟩ := hst
        rw [Bool.and_eq_true] at hnx
        have hj0 : j ≠ 0 := fun e => by
          have h8 := hnx.1
          rw [e] at h8
          cases h8
        replace hnx := hnx.2
        split at hnx
        · rename_i q9 hq9
          rw [Bool.and_eq_true, aPK_eq] at hnx
          refine aRun_ok f I j _ _ hI hnx.1 (ment j as' G d) ⟨rfl, gL_pad _ (gL_lay has), trivial, rfl, rfl, hM⟩ _ (fun I2 r hI2 hr q G d hrq => ?_) (fun e => absurd e hj0)
          obtain ⟨e1, hP⟩ := amck_ok hr hrq
          subst e1
          exact aRun_ok f I m _ K hI hnx.2 (pc + 3, L', (0, q9.1) :: S', c, s, G, d) ⟨rfl, hL, ⟨⟨rfl, rfl⟩, hS⟩, rfl, rfl, hP⟩ Kc hK hZ
        refine aRun_ok f I j _ _ hI hnx (ment j as' G d) ⟨rfl, gL_pad _ (gL_lay has), trivial, rfl, rfl, hM⟩ _ (fun I r hI hr q G d hrq => ?_) (fun e => absurd e hj0)
        obtain ⟨hM, hrq⟩ := hrq
        match r, q, hr, hrq with
        | (.inl (some v), M, n, kn), .inl (some w), hr, hrq => exact aRun_ok f I m _ K hI hr (pc + 3, L', w :: S', c, s, G, d) ⟨rfl, hL, ⟨hrq, hS⟩, rfl, rfl, hM⟩ Kc hK hZ
        | (.inl none, M, n, kn), .inl none, hr, hrq => exact aRun_ok f I m _ K hI hr (pc + 3, L', S', c, s, G, d) ⟨rfl, hL, hS, rfl, rfl, hM⟩ Kc hK hZ
        | (.inr e, M, n, kn), .inr e', hr, hrq =>
          have hrq : e = e' := hrq
          subst hrq
          simp only [mback]
          dsimp only at hr
          split at hr
          · rename_i z hz
            rw [hz]
            dsimp only
            rw [Bool.and_eq_true] at hr
            exact ⟨aret1_ok (ρ := ρ) (v := (0, z)) rfl hr.1, hK I _ hI hr.2 _ _ _ ⟨hM, rfl, rfl⟩⟩
          · rename_i hz
            rw [hz]
            dsimp only
            rw [Bool.and_eq_true] at hr
            exact ⟨hr.1, hK I _ hI hr.2 _ _ _ ⟨hM, rfl⟩⟩
        | (.inl (some v), M, n, kn), .inl none, hr, hrq => exact hrq.elim
        | (.inl (some v), M, n, kn), .inr e', hr, hrq => exact hrq.elim
        | (.inl none, M, n, kn), .inl (some w), hr, hrq => exact hrq.elim
        | (.inl none, M, n, kn), .inr e', hr, hrq => exact hrq.elim
        | (.inr e, M, n, kn), .inl (some w), hr, hrq => exact hrq.elim
        | (.inr e, M, n, kn), .inl none, hr, hrq => exact hrq.elim
    · cases h
/-! the state behind the two constructors: printed by a program of mine, checked below -/
def aM1_0 : List aC := [(10, 0, (1, 0), [[(0, 1), (0, 64), (0, 570), (0, 571), (0, 572), (0, 574), (0, 576), (0, 578), (0, 580)]]), (6, 0, (1, 0), [[(0, 2), (0, 20), (0, 0), (0, 3), (0, 11), (0, 50), (0, 58)]]), (100, 5, (0, 0), [[(0, 1), (0, 1), (0, 2), (0, 5), (0, 3)]]), (3, 0, (1, 0), [[(0, 2), (0, 4), (0, 5), (0, 6), (0, 7), (0, 8), (0, 9), (0, 10)]]), (100, 6, (0, 0), [[(0, 1), (0, 2)]]), (100, 6, (0, 0), [[(0, 1), (0, 1)]]), (100, 6, (0, 0), [[(0, 2), (0, 1)]]), (100, 6, (0, 0), [[(0, 6), (0, 4)]]), (103, 6, (0, 0), [[(0, 1), (0, 1)]]), (100, 6, (0, 0), [[(0, 0), (0, 0)]]), (100, 96, (0, 0), []), (4, 0, (1, 0), [[(0, 3), (0, 12), (0, 13), (0, 14), (0, 15), (0, 16), (0, 17)]]), (100, 16, (0, 0), [[(0, 24), (0, 25), (0, 26)]]), (100, 16, (0, 0), [[(0, 0), (0, 0), (0, 0)]]), (100, 16, (0, 0), [[(0, 0), (0, 0), (0, 0)]]), (100, 16, (0, 0), [[(0, 0), (0, 0), (0, 0)]]), (100, 16, (0, 0), [[(0, 0), (0, 0), (0, 0)]]), (201, 16, (0, (-1)), [[(0, 18), (0, 20), (0, 22), (0, 24), (0, 26), (0, 28), (0, 30), (0, 32), (0, 34), (0, 36), (0, 38), (0, 40), (0, 42), (0, 44), (0, 46), (0, 48)]]), (1, 0, (1, 0), [[(0, 19)]]), (101, 16, (0, 0), [[(0, 0), (0, 0), (0, 0), (0, 0), (0, 0), (0, 0), (0, 0), (0, 0), (0, 0), (0, 0), (0, 0), (0, 0), (0, 0), (0, 0), (0, 0), (0, 0)]]), (1, 0, (1, 0), [[(0, 21)]]), (101, 16, (0, 0), [[(0, 0), (0, 0), (0, 0), (0, 0), (0, 0), (0, 0), (0, 0), (0, 0), (0, 0), (0, 0), (0, 0), (0, 0), (0, 0), (0, 0), (0, 0), (0, 0)]]), (1, 0, (1, 0), [[(0, 23)]]), (101, 16, (0, 0), [[(0, 0), (0, 0), (0, 0), (0, 0), (0, 0), (0, 0), (0, 0), (0, 0), (0, 0), (0, 0), (0, 0), (0, 0), (0, 0), (0, 0), (0, 0), (0, 0)]]), (1, 0, (1, 0), [[(0, 25)]]), (101, 16, (0, 0), []), (1, 0, (1, 0), [[(0, 27)]]), (101, 16, (0, 0), []), (1, 0, (1, 0), [[(0, 29)]]), (101, 16, (0, 0), []), (1, 0, (1, 0), [[(0, 31)]]), (101, 16, (0, 0), [])]
def aM1_1 : List aC := [(1, 0, (1, 0), [[(0, 33)]]), (101, 16, (0, 0), []), (1, 0, (1, 0), [[(0, 35)]]), (101, 16, (0, 0), []), (1, 0, (1, 0), [[(0, 37)]]), (101, 16, (0, 0), []), (1, 0, (1, 0), [[(0, 39)]]), (101, 16, (0, 0), []), (1, 0, (1, 0), [[(0, 41)]]), (101, 16, (0, 0), []), (1, 0, (1, 0), [[(0, 43)]]), (101, 16, (0, 0), []), (1, 0, (1, 0), [[(0, 45)]]), (101, 16, (0, 0), []), (1, 0, (1, 0), [[(0, 47)]]), (101, 16, (0, 0), []), (1, 0, (1, 0), [[(0, 49)]]), (101, 16, (0, 0), []), (8, 0, (1, 0), [[(0, 0), (0, 51), (0, 52), (0, 53), (0, 54), (0, 55), (0, 56), (0, 57)]]), (100, 60, (0, 0), []), (100, 60, (0, 0), []), (100, 60, (0, 0), []), (100, 60, (0, 0), []), (100, 60, (0, 0), []), (100, 60, (0, 0), []), (100, 60, (0, 0), []), (9, 0, (1, 0), [[(0, 0), (0, 59), (0, 60), (0, 61), (0, 62), (0, 0), (0, 63)]]), (100, 200, (0, 0), []), (100, 200, (0, 0), []), (100, 200, (0, 0), []), (100, 200, (0, 0), []), (100, 200, (0, 0), [])]
def aM1_2 : List aC := [(0, 0, (1, 0), [[(0, 65), (0, 0), (0, 0)]]), (206, 8, (0, (-1)), [[(0, 66), (0, 129), (0, 192), (0, 255), (0, 318), (0, 381), (0, 444), (0, 507)]]), (6, 0, (1, 0), [[(0, 67), (0, 0), (0, 0), (0, 68), (0, 76), (0, 115), (0, 123)]]), (100, 5, (0, 0), []), (3, 0, (1, 0), [[(0, 0), (0, 69), (0, 70), (0, 71), (0, 72), (0, 73), (0, 74), (0, 75)]]), (100, 6, (0, 0), []), (100, 6, (0, 0), []), (100, 6, (0, 0), []), (100, 6, (0, 0), []), (103, 6, (0, 0), []), (100, 6, (0, 0), []), (100, 96, (0, 0), []), (4, 0, (1, 0), [[(0, 0), (0, 77), (0, 78), (0, 79), (0, 80), (0, 81), (0, 82)]]), (100, 16, (0, 0), []), (100, 16, (0, 0), []), (100, 16, (0, 0), []), (100, 16, (0, 0), []), (100, 16, (0, 0), []), (201, 16, (0, (-1)), [[(0, 83), (0, 85), (0, 87), (0, 89), (0, 91), (0, 93), (0, 95), (0, 97), (0, 99), (0, 101), (0, 103), (0, 105), (0, 107), (0, 109), (0, 111), (0, 113)]]), (1, 0, (1, 0), [[(0, 84)]]), (101, 16, (0, 0), []), (1, 0, (1, 0), [[(0, 86)]]), (101, 16, (0, 0), []), (1, 0, (1, 0), [[(0, 88)]]), (101, 16, (0, 0), []), (1, 0, (1, 0), [[(0, 90)]]), (101, 16, (0, 0), []), (1, 0, (1, 0), [[(0, 92)]]), (101, 16, (0, 0), []), (1, 0, (1, 0), [[(0, 94)]]), (101, 16, (0, 0), []), (1, 0, (1, 0), [[(0, 96)]])]
def aM1_3 : List aC := [(101, 16, (0, 0), []), (1, 0, (1, 0), [[(0, 98)]]), (101, 16, (0, 0), []), (1, 0, (1, 0), [[(0, 100)]]), (101, 16, (0, 0), []), (1, 0, (1, 0), [[(0, 102)]]), (101, 16, (0, 0), []), (1, 0, (1, 0), [[(0, 104)]]), (101, 16, (0, 0), []), (1, 0, (1, 0), [[(0, 106)]]), (101, 16, (0, 0), []), (1, 0, (1, 0), [[(0, 108)]]), (101, 16, (0, 0), []), (1, 0, (1, 0), [[(0, 110)]]), (101, 16, (0, 0), []), (1, 0, (1, 0), [[(0, 112)]]), (101, 16, (0, 0), []), (1, 0, (1, 0), [[(0, 114)]]), (101, 16, (0, 0), []), (8, 0, (1, 0), [[(0, 0), (0, 116), (0, 117), (0, 118), (0, 119), (0, 120), (0, 121), (0, 122)]]), (100, 60, (0, 0), []), (100, 60, (0, 0), []), (100, 60, (0, 0), []), (100, 60, (0, 0), []), (100, 60, (0, 0), []), (100, 60, (0, 0), []), (100, 60, (0, 0), []), (9, 0, (1, 0), [[(0, 0), (0, 124), (0, 125), (0, 126), (0, 127), (0, 0), (0, 128)]]), (100, 200, (0, 0), []), (100, 200, (0, 0), []), (100, 200, (0, 0), []), (100, 200, (0, 0), [])]
def aM1_4 : List aC := [(100, 200, (0, 0), []), (6, 0, (1, 0), [[(0, 130), (0, 0), (0, 0), (0, 131), (0, 139), (0, 178), (0, 186)]]), (100, 5, (0, 0), []), (3, 0, (1, 0), [[(0, 0), (0, 132), (0, 133), (0, 134), (0, 135), (0, 136), (0, 137), (0, 138)]]), (100, 6, (0, 0), []), (100, 6, (0, 0), []), (100, 6, (0, 0), []), (100, 6, (0, 0), []), (103, 6, (0, 0), []), (100, 6, (0, 0), []), (100, 96, (0, 0), []), (4, 0, (1, 0), [[(0, 0), (0, 140), (0, 141), (0, 142), (0, 143), (0, 144), (0, 145)]]), (100, 16, (0, 0), []), (100, 16, (0, 0), []), (100, 16, (0, 0), []), (100, 16, (0, 0), []), (100, 16, (0, 0), []), (201, 16, (0, (-1)), [[(0, 146), (0, 148), (0, 150), (0, 152), (0, 154), (0, 156), (0, 158), (0, 160), (0, 162), (0, 164), (0, 166), (0, 168), (0, 170), (0, 172), (0, 174), (0, 176)]]), (1, 0, (1, 0), [[(0, 147)]]), (101, 16, (0, 0), []), (1, 0, (1, 0), [[(0, 149)]]), (101, 16, (0, 0), []), (1, 0, (1, 0), [[(0, 151)]]), (101, 16, (0, 0), []), (1, 0, (1, 0), [[(0, 153)]]), (101, 16, (0, 0), []), (1, 0, (1, 0), [[(0, 155)]]), (101, 16, (0, 0), []), (1, 0, (1, 0), [[(0, 157)]]), (101, 16, (0, 0), []), (1, 0, (1, 0), [[(0, 159)]]), (101, 16, (0, 0), [])]
def aM1_5 : List aC := [(1, 0, (1, 0), [[(0, 161)]]), (101, 16, (0, 0), []), (1, 0, (1, 0), [[(0, 163)]]), (101, 16, (0, 0), []), (1, 0, (1, 0), [[(0, 165)]]), (101, 16, (0, 0), []), (1, 0, (1, 0), [[(0, 167)]]), (101, 16, (0, 0), []), (1, 0, (1, 0), [[(0, 169)]]), (101, 16, (0, 0), []), (1, 0, (1, 0), [[(0, 171)]]), (101, 16, (0, 0), []), (1, 0, (1, 0), [[(0, 173)]]), (101, 16, (0, 0), []), (1, 0, (1, 0), [[(0, 175)]]), (101, 16, (0, 0), []), (1, 0, (1, 0), [[(0, 177)]]), (101, 16, (0, 0), []), (8, 0, (1, 0), [[(0, 0), (0, 179), (0, 180), (0, 181), (0, 182), (0, 183), (0, 184), (0, 185)]]), (100, 60, (0, 0), []), (100, 60, (0, 0), []), (100, 60, (0, 0), []), (100, 60, (0, 0), []), (100, 60, (0, 0), []), (100, 60, (0, 0), []), (100, 60, (0, 0), []), (9, 0, (1, 0), [[(0, 0), (0, 187), (0, 188), (0, 189), (0, 190), (0, 0), (0, 191)]]), (100, 200, (0, 0), []), (100, 200, (0, 0), []), (100, 200, (0, 0), []), (100, 200, (0, 0), []), (100, 200, (0, 0), [])]
def aM1_6 : List aC := [(6, 0, (1, 0), [[(0, 193), (0, 0), (0, 0), (0, 194), (0, 202), (0, 241), (0, 249)]]), (100, 5, (0, 0), []), (3, 0, (1, 0), [[(0, 0), (0, 195), (0, 196), (0, 197), (0, 198), (0, 199), (0, 200), (0, 201)]]), (100, 6, (0, 0), []), (100, 6, (0, 0), []), (100, 6, (0, 0), []), (100, 6, (0, 0), []), (103, 6, (0, 0), []), (100, 6, (0, 0), []), (100, 96, (0, 0), []), (4, 0, (1, 0), [[(0, 0), (0, 203), (0, 204), (0, 205), (0, 206), (0, 207), (0, 208)]]), (100, 16, (0, 0), []), (100, 16, (0, 0), []), (100, 16, (0, 0), []), (100, 16, (0, 0), []), (100, 16, (0, 0), []), (201, 16, (0, (-1)), [[(0, 209), (0, 211), (0, 213), (0, 215), (0, 217), (0, 219), (0, 221), (0, 223), (0, 225), (0, 227), (0, 229), (0, 231), (0, 233), (0, 235), (0, 237), (0, 239)]]), (1, 0, (1, 0), [[(0, 210)]]), (101, 16, (0, 0), []), (1, 0, (1, 0), [[(0, 212)]]), (101, 16, (0, 0), []), (1, 0, (1, 0), [[(0, 214)]]), (101, 16, (0, 0), []), (1, 0, (1, 0), [[(0, 216)]]), (101, 16, (0, 0), []), (1, 0, (1, 0), [[(0, 218)]]), (101, 16, (0, 0), []), (1, 0, (1, 0), [[(0, 220)]]), (101, 16, (0, 0), []), (1, 0, (1, 0), [[(0, 222)]]), (101, 16, (0, 0), []), (1, 0, (1, 0), [[(0, 224)]])]
def aM1_7 : List aC := [(101, 16, (0, 0), []), (1, 0, (1, 0), [[(0, 226)]]), (101, 16, (0, 0), []), (1, 0, (1, 0), [[(0, 228)]]), (101, 16, (0, 0), []), (1, 0, (1, 0), [[(0, 230)]]), (101, 16, (0, 0), []), (1, 0, (1, 0), [[(0, 232)]]), (101, 16, (0, 0), []), (1, 0, (1, 0), [[(0, 234)]]), (101, 16, (0, 0), []), (1, 0, (1, 0), [[(0, 236)]]), (101, 16, (0, 0), []), (1, 0, (1, 0), [[(0, 238)]]), (101, 16, (0, 0), []), (1, 0, (1, 0), [[(0, 240)]]), (101, 16, (0, 0), []), (8, 0, (1, 0), [[(0, 0), (0, 242), (0, 243), (0, 244), (0, 245), (0, 246), (0, 247), (0, 248)]]), (100, 60, (0, 0), []), (100, 60, (0, 0), []), (100, 60, (0, 0), []), (100, 60, (0, 0), []), (100, 60, (0, 0), []), (100, 60, (0, 0), []), (100, 60, (0, 0), []), (9, 0, (1, 0), [[(0, 0), (0, 250), (0, 251), (0, 252), (0, 253), (0, 0), (0, 254)]]), (100, 200, (0, 0), []), (100, 200, (0, 0), []), (100, 200, (0, 0), []), (100, 200, (0, 0), []), (100, 200, (0, 0), []), (6, 0, (1, 0), [[(0, 256), (0, 0), (0, 0), (0, 257), (0, 265), (0, 304), (0, 312)]])]
def aM1_8 : List aC := [(100, 5, (0, 0), []), (3, 0, (1, 0), [[(0, 0), (0, 258), (0, 259), (0, 260), (0, 261), (0, 262), (0, 263), (0, 264)]]), (100, 6, (0, 0), []), (100, 6, (0, 0), []), (100, 6, (0, 0), []), (100, 6, (0, 0), []), (103, 6, (0, 0), []), (100, 6, (0, 0), []), (100, 96, (0, 0), []), (4, 0, (1, 0), [[(0, 0), (0, 266), (0, 267), (0, 268), (0, 269), (0, 270), (0, 271)]]), (100, 16, (0, 0), []), (100, 16, (0, 0), []), (100, 16, (0, 0), []), (100, 16, (0, 0), []), (100, 16, (0, 0), []), (201, 16, (0, (-1)), [[(0, 272), (0, 274), (0, 276), (0, 278), (0, 280), (0, 282), (0, 284), (0, 286), (0, 288), (0, 290), (0, 292), (0, 294), (0, 296), (0, 298), (0, 300), (0, 302)]]), (1, 0, (1, 0), [[(0, 273)]]), (101, 16, (0, 0), []), (1, 0, (1, 0), [[(0, 275)]]), (101, 16, (0, 0), []), (1, 0, (1, 0), [[(0, 277)]]), (101, 16, (0, 0), []), (1, 0, (1, 0), [[(0, 279)]]), (101, 16, (0, 0), []), (1, 0, (1, 0), [[(0, 281)]]), (101, 16, (0, 0), []), (1, 0, (1, 0), [[(0, 283)]]), (101, 16, (0, 0), []), (1, 0, (1, 0), [[(0, 285)]]), (101, 16, (0, 0), []), (1, 0, (1, 0), [[(0, 287)]]), (101, 16, (0, 0), [])]
def aM1_9 : List aC := [(1, 0, (1, 0), [[(0, 289)]]), (101, 16, (0, 0), []), (1, 0, (1, 0), [[(0, 291)]]), (101, 16, (0, 0), []), (1, 0, (1, 0), [[(0, 293)]]), (101, 16, (0, 0), []), (1, 0, (1, 0), [[(0, 295)]]), (101, 16, (0, 0), []), (1, 0, (1, 0), [[(0, 297)]]), (101, 16, (0, 0), []), (1, 0, (1, 0), [[(0, 299)]]), (101, 16, (0, 0), []), (1, 0, (1, 0), [[(0, 301)]]), (101, 16, (0, 0), []), (1, 0, (1, 0), [[(0, 303)]]), (101, 16, (0, 0), []), (8, 0, (1, 0), [[(0, 0), (0, 305), (0, 306), (0, 307), (0, 308), (0, 309), (0, 310), (0, 311)]]), (100, 60, (0, 0), []), (100, 60, (0, 0), []), (100, 60, (0, 0), []), (100, 60, (0, 0), []), (100, 60, (0, 0), []), (100, 60, (0, 0), []), (100, 60, (0, 0), []), (9, 0, (1, 0), [[(0, 0), (0, 313), (0, 314), (0, 315), (0, 316), (0, 0), (0, 317)]]), (100, 200, (0, 0), []), (100, 200, (0, 0), []), (100, 200, (0, 0), []), (100, 200, (0, 0), []), (100, 200, (0, 0), []), (6, 0, (1, 0), [[(0, 319), (0, 0), (0, 0), (0, 320), (0, 328), (0, 367), (0, 375)]]), (100, 5, (0, 0), [])]
def aM1_10 : List aC := [(3, 0, (1, 0), [[(0, 0), (0, 321), (0, 322), (0, 323), (0, 324), (0, 325), (0, 326), (0, 327)]]), (100, 6, (0, 0), []), (100, 6, (0, 0), []), (100, 6, (0, 0), []), (100, 6, (0, 0), []), (103, 6, (0, 0), []), (100, 6, (0, 0), []), (100, 96, (0, 0), []), (4, 0, (1, 0), [[(0, 0), (0, 329), (0, 330), (0, 331), (0, 332), (0, 333), (0, 334)]]), (100, 16, (0, 0), []), (100, 16, (0, 0), []), (100, 16, (0, 0), []), (100, 16, (0, 0), []), (100, 16, (0, 0), []), (201, 16, (0, (-1)), [[(0, 335), (0, 337), (0, 339), (0, 341), (0, 343), (0, 345), (0, 347), (0, 349), (0, 351), (0, 353), (0, 355), (0, 357), (0, 359), (0, 361), (0, 363), (0, 365)]]), (1, 0, (1, 0), [[(0, 336)]]), (101, 16, (0, 0), []), (1, 0, (1, 0), [[(0, 338)]]), (101, 16, (0, 0), []), (1, 0, (1, 0), [[(0, 340)]]), (101, 16, (0, 0), []), (1, 0, (1, 0), [[(0, 342)]]), (101, 16, (0, 0), []), (1, 0, (1, 0), [[(0, 344)]]), (101, 16, (0, 0), []), (1, 0, (1, 0), [[(0, 346)]]), (101, 16, (0, 0), []), (1, 0, (1, 0), [[(0, 348)]]), (101, 16, (0, 0), []), (1, 0, (1, 0), [[(0, 350)]]), (101, 16, (0, 0), []), (1, 0, (1, 0), [[(0, 352)]])]
def aM1_11 : List aC := [(101, 16, (0, 0), []), (1, 0, (1, 0), [[(0, 354)]]), (101, 16, (0, 0), []), (1, 0, (1, 0), [[(0, 356)]]), (101, 16, (0, 0), []), (1, 0, (1, 0), [[(0, 358)]]), (101, 16, (0, 0), []), (1, 0, (1, 0), [[(0, 360)]]), (101, 16, (0, 0), []), (1, 0, (1, 0), [[(0, 362)]]), (101, 16, (0, 0), []), (1, 0, (1, 0), [[(0, 364)]]), (101, 16, (0, 0), []), (1, 0, (1, 0), [[(0, 366)]]), (101, 16, (0, 0), []), (8, 0, (1, 0), [[(0, 0), (0, 368), (0, 369), (0, 370), (0, 371), (0, 372), (0, 373), (0, 374)]]), (100, 60, (0, 0), []), (100, 60, (0, 0), []), (100, 60, (0, 0), []), (100, 60, (0, 0), []), (100, 60, (0, 0), []), (100, 60, (0, 0), []), (100, 60, (0, 0), []), (9, 0, (1, 0), [[(0, 0), (0, 376), (0, 377), (0, 378), (0, 379), (0, 0), (0, 380)]]), (100, 200, (0, 0), []), (100, 200, (0, 0), []), (100, 200, (0, 0), []), (100, 200, (0, 0), []), (100, 200, (0, 0), []), (6, 0, (1, 0), [[(0, 382), (0, 0), (0, 0), (0, 383), (0, 391), (0, 430), (0, 438)]]), (100, 5, (0, 0), []), (3, 0, (1, 0), [[(0, 0), (0, 384), (0, 385), (0, 386), (0, 387), (0, 388), (0, 389), (0, 390)]])]
def aM1_12 : List aC := [(100, 6, (0, 0), []), (100, 6, (0, 0), []), (100, 6, (0, 0), []), (100, 6, (0, 0), []), (103, 6, (0, 0), []), (100, 6, (0, 0), []), (100, 96, (0, 0), []), (4, 0, (1, 0), [[(0, 0), (0, 392), (0, 393), (0, 394), (0, 395), (0, 396), (0, 397)]]), (100, 16, (0, 0), []), (100, 16, (0, 0), []), (100, 16, (0, 0), []), (100, 16, (0, 0), []), (100, 16, (0, 0), []), (201, 16, (0, (-1)), [[(0, 398), (0, 400), (0, 402), (0, 404), (0, 406), (0, 408), (0, 410), (0, 412), (0, 414), (0, 416), (0, 418), (0, 420), (0, 422), (0, 424), (0, 426), (0, 428)]]), (1, 0, (1, 0), [[(0, 399)]]), (101, 16, (0, 0), []), (1, 0, (1, 0), [[(0, 401)]]), (101, 16, (0, 0), []), (1, 0, (1, 0), [[(0, 403)]]), (101, 16, (0, 0), []), (1, 0, (1, 0), [[(0, 405)]]), (101, 16, (0, 0), []), (1, 0, (1, 0), [[(0, 407)]]), (101, 16, (0, 0), []), (1, 0, (1, 0), [[(0, 409)]]), (101, 16, (0, 0), []), (1, 0, (1, 0), [[(0, 411)]]), (101, 16, (0, 0), []), (1, 0, (1, 0), [[(0, 413)]]), (101, 16, (0, 0), []), (1, 0, (1, 0), [[(0, 415)]]), (101, 16, (0, 0), [])]
def aM1_13 : List aC := [(1, 0, (1, 0), [[(0, 417)]]), (101, 16, (0, 0), []), (1, 0, (1, 0), [[(0, 419)]]), (101, 16, (0, 0), []), (1, 0, (1, 0), [[(0, 421)]]), (101, 16, (0, 0), []), (1, 0, (1, 0), [[(0, 423)]]), (101, 16, (0, 0), []), (1, 0, (1, 0), [[(0, 425)]]), (101, 16, (0, 0), []), (1, 0, (1, 0), [[(0, 427)]]), (101, 16, (0, 0), []), (1, 0, (1, 0), [[(0, 429)]]), (101, 16, (0, 0), []), (8, 0, (1, 0), [[(0, 0), (0, 431), (0, 432), (0, 433), (0, 434), (0, 435), (0, 436), (0, 437)]]), (100, 60, (0, 0), []), (100, 60, (0, 0), []), (100, 60, (0, 0), []), (100, 60, (0, 0), []), (100, 60, (0, 0), []), (100, 60, (0, 0), []), (100, 60, (0, 0), []), (9, 0, (1, 0), [[(0, 0), (0, 439), (0, 440), (0, 441), (0, 442), (0, 0), (0, 443)]]), (100, 200, (0, 0), []), (100, 200, (0, 0), []), (100, 200, (0, 0), []), (100, 200, (0, 0), []), (100, 200, (0, 0), []), (6, 0, (1, 0), [[(0, 445), (0, 0), (0, 0), (0, 446), (0, 454), (0, 493), (0, 501)]]), (100, 5, (0, 0), []), (3, 0, (1, 0), [[(0, 0), (0, 447), (0, 448), (0, 449), (0, 450), (0, 451), (0, 452), (0, 453)]]), (100, 6, (0, 0), [])]
def aM1_14 : List aC := [(100, 6, (0, 0), []), (100, 6, (0, 0), []), (100, 6, (0, 0), []), (103, 6, (0, 0), []), (100, 6, (0, 0), []), (100, 96, (0, 0), []), (4, 0, (1, 0), [[(0, 0), (0, 455), (0, 456), (0, 457), (0, 458), (0, 459), (0, 460)]]), (100, 16, (0, 0), []), (100, 16, (0, 0), []), (100, 16, (0, 0), []), (100, 16, (0, 0), []), (100, 16, (0, 0), []), (201, 16, (0, (-1)), [[(0, 461), (0, 463), (0, 465), (0, 467), (0, 469), (0, 471), (0, 473), (0, 475), (0, 477), (0, 479), (0, 481), (0, 483), (0, 485), (0, 487), (0, 489), (0, 491)]]), (1, 0, (1, 0), [[(0, 462)]]), (101, 16, (0, 0), []), (1, 0, (1, 0), [[(0, 464)]]), (101, 16, (0, 0), []), (1, 0, (1, 0), [[(0, 466)]]), (101, 16, (0, 0), []), (1, 0, (1, 0), [[(0, 468)]]), (101, 16, (0, 0), []), (1, 0, (1, 0), [[(0, 470)]]), (101, 16, (0, 0), []), (1, 0, (1, 0), [[(0, 472)]]), (101, 16, (0, 0), []), (1, 0, (1, 0), [[(0, 474)]]), (101, 16, (0, 0), []), (1, 0, (1, 0), [[(0, 476)]]), (101, 16, (0, 0), []), (1, 0, (1, 0), [[(0, 478)]]), (101, 16, (0, 0), []), (1, 0, (1, 0), [[(0, 480)]])]
def aM1_15 : List aC := [(101, 16, (0, 0), []), (1, 0, (1, 0), [[(0, 482)]]), (101, 16, (0, 0), []), (1, 0, (1, 0), [[(0, 484)]]), (101, 16, (0, 0), []), (1, 0, (1, 0), [[(0, 486)]]), (101, 16, (0, 0), []), (1, 0, (1, 0), [[(0, 488)]]), (101, 16, (0, 0), []), (1, 0, (1, 0), [[(0, 490)]]), (101, 16, (0, 0), []), (1, 0, (1, 0), [[(0, 492)]]), (101, 16, (0, 0), []), (8, 0, (1, 0), [[(0, 0), (0, 494), (0, 495), (0, 496), (0, 497), (0, 498), (0, 499), (0, 500)]]), (100, 60, (0, 0), []), (100, 60, (0, 0), []), (100, 60, (0, 0), []), (100, 60, (0, 0), []), (100, 60, (0, 0), []), (100, 60, (0, 0), []), (100, 60, (0, 0), []), (9, 0, (1, 0), [[(0, 0), (0, 502), (0, 503), (0, 504), (0, 505), (0, 0), (0, 506)]]), (100, 200, (0, 0), []), (100, 200, (0, 0), []), (100, 200, (0, 0), []), (100, 200, (0, 0), []), (100, 200, (0, 0), []), (6, 0, (1, 0), [[(0, 508), (0, 0), (0, 0), (0, 509), (0, 517), (0, 556), (0, 564)]]), (100, 5, (0, 0), []), (3, 0, (1, 0), [[(0, 0), (0, 510), (0, 511), (0, 512), (0, 513), (0, 514), (0, 515), (0, 516)]]), (100, 6, (0, 0), []), (100, 6, (0, 0), [])]
def aM1_16 : List aC := [(100, 6, (0, 0), []), (100, 6, (0, 0), []), (103, 6, (0, 0), []), (100, 6, (0, 0), []), (100, 96, (0, 0), []), (4, 0, (1, 0), [[(0, 0), (0, 518), (0, 519), (0, 520), (0, 521), (0, 522), (0, 523)]]), (100, 16, (0, 0), []), (100, 16, (0, 0), []), (100, 16, (0, 0), []), (100, 16, (0, 0), []), (100, 16, (0, 0), []), (201, 16, (0, (-1)), [[(0, 524), (0, 526), (0, 528), (0, 530), (0, 532), (0, 534), (0, 536), (0, 538), (0, 540), (0, 542), (0, 544), (0, 546), (0, 548), (0, 550), (0, 552), (0, 554)]]), (1, 0, (1, 0), [[(0, 525)]]), (101, 16, (0, 0), []), (1, 0, (1, 0), [[(0, 527)]]), (101, 16, (0, 0), []), (1, 0, (1, 0), [[(0, 529)]]), (101, 16, (0, 0), []), (1, 0, (1, 0), [[(0, 531)]]), (101, 16, (0, 0), []), (1, 0, (1, 0), [[(0, 533)]]), (101, 16, (0, 0), []), (1, 0, (1, 0), [[(0, 535)]]), (101, 16, (0, 0), []), (1, 0, (1, 0), [[(0, 537)]]), (101, 16, (0, 0), []), (1, 0, (1, 0), [[(0, 539)]]), (101, 16, (0, 0), []), (1, 0, (1, 0), [[(0, 541)]]), (101, 16, (0, 0), []), (1, 0, (1, 0), [[(0, 543)]]), (101, 16, (0, 0), [])]
def aM1_17 : List aC := [(1, 0, (1, 0), [[(0, 545)]]), (101, 16, (0, 0), []), (1, 0, (1, 0), [[(0, 547)]]), (101, 16, (0, 0), []), (1, 0, (1, 0), [[(0, 549)]]), (101, 16, (0, 0), []), (1, 0, (1, 0), [[(0, 551)]]), (101, 16, (0, 0), []), (1, 0, (1, 0), [[(0, 553)]]), (101, 16, (0, 0), []), (1, 0, (1, 0), [[(0, 555)]]), (101, 16, (0, 0), []), (8, 0, (1, 0), [[(0, 0), (0, 557), (0, 558), (0, 559), (0, 560), (0, 561), (0, 562), (0, 563)]]), (100, 60, (0, 0), []), (100, 60, (0, 0), []), (100, 60, (0, 0), []), (100, 60, (0, 0), []), (100, 60, (0, 0), []), (100, 60, (0, 0), []), (100, 60, (0, 0), []), (9, 0, (1, 0), [[(0, 0), (0, 565), (0, 566), (0, 567), (0, 568), (0, 0), (0, 569)]]), (100, 200, (0, 0), []), (100, 200, (0, 0), []), (100, 200, (0, 0), []), (100, 200, (0, 0), []), (100, 200, (0, 0), []), (206, 2, (0, (-1)), [[(0, 643), (0, 706)]]), (103, 2, (0, 0), []), (7, 0, (1, 0), [[(0, 573), (0, 0)]]), (102, 1000, (0, 0), []), (1, 0, (1, 0), [[(0, 575)]]), (101, 16, (0, 0), [])]
def aM1_18 : List aC := [(2, 0, (1, 0), [[(0, 577), (0, 580), (0, 0), (0, (-1)), (0, 0), (0, 0), (0, 0)]]), (5, 0, (1, 0), [[(0, 578), (0, 0), (0, 0), (0, 0), (0, 0)]]), (7, 0, (1, 0), [[(0, 579), (0, 0)]]), (102, 1000, (0, 0), []), (6, 0, (1, 0), [[(0, 581), (0, 0), (0, 0), (0, 582), (0, 590), (0, 629), (0, 637)]]), (100, 5, (0, 0), []), (3, 0, (1, 0), [[(0, 0), (0, 583), (0, 584), (0, 585), (0, 586), (0, 587), (0, 588), (0, 589)]]), (100, 6, (0, 0), []), (100, 6, (0, 0), []), (100, 6, (0, 0), []), (100, 6, (0, 0), []), (103, 6, (0, 0), []), (100, 6, (0, 0), []), (100, 96, (0, 0), []), (4, 0, (1, 0), [[(0, 0), (0, 591), (0, 592), (0, 593), (0, 594), (0, 595), (0, 596)]]), (100, 16, (0, 0), []), (100, 16, (0, 0), []), (100, 16, (0, 0), []), (100, 16, (0, 0), []), (100, 16, (0, 0), []), (201, 16, (0, (-1)), [[(0, 597), (0, 599), (0, 601), (0, 603), (0, 605), (0, 607), (0, 609), (0, 611), (0, 613), (0, 615), (0, 617), (0, 619), (0, 621), (0, 623), (0, 625), (0, 627)]]), (1, 0, (1, 0), [[(0, 598)]]), (101, 16, (0, 0), []), (1, 0, (1, 0), [[(0, 600)]]), (101, 16, (0, 0), []), (1, 0, (1, 0), [[(0, 602)]]), (101, 16, (0, 0), []), (1, 0, (1, 0), [[(0, 604)]]), (101, 16, (0, 0), []), (1, 0, (1, 0), [[(0, 606)]]), (101, 16, (0, 0), []), (1, 0, (1, 0), [[(0, 608)]])]
def aM1_19 : List aC := [(101, 16, (0, 0), []), (1, 0, (1, 0), [[(0, 610)]]), (101, 16, (0, 0), []), (1, 0, (1, 0), [[(0, 612)]]), (101, 16, (0, 0), []), (1, 0, (1, 0), [[(0, 614)]]), (101, 16, (0, 0), []), (1, 0, (1, 0), [[(0, 616)]]), (101, 16, (0, 0), []), (1, 0, (1, 0), [[(0, 618)]]), (101, 16, (0, 0), []), (1, 0, (1, 0), [[(0, 620)]]), (101, 16, (0, 0), []), (1, 0, (1, 0), [[(0, 622)]]), (101, 16, (0, 0), []), (1, 0, (1, 0), [[(0, 624)]]), (101, 16, (0, 0), []), (1, 0, (1, 0), [[(0, 626)]]), (101, 16, (0, 0), []), (1, 0, (1, 0), [[(0, 628)]]), (101, 16, (0, 0), []), (8, 0, (1, 0), [[(0, 0), (0, 630), (0, 631), (0, 632), (0, 633), (0, 634), (0, 635), (0, 636)]]), (100, 60, (0, 0), []), (100, 60, (0, 0), []), (100, 60, (0, 0), []), (100, 60, (0, 0), []), (100, 60, (0, 0), []), (100, 60, (0, 0), []), (100, 60, (0, 0), []), (9, 0, (1, 0), [[(0, 0), (0, 638), (0, 639), (0, 640), (0, 641), (0, 0), (0, 642)]]), (100, 200, (0, 0), []), (100, 200, (0, 0), [])]
def aM1_20 : List aC := [(100, 200, (0, 0), []), (100, 200, (0, 0), []), (100, 200, (0, 0), []), (6, 0, (1, 0), [[(0, 644), (0, 0), (0, 0), (0, 645), (0, 653), (0, 692), (0, 700)]]), (100, 5, (0, 0), []), (3, 0, (1, 0), [[(0, 0), (0, 646), (0, 647), (0, 648), (0, 649), (0, 650), (0, 651), (0, 652)]]), (100, 6, (0, 0), []), (100, 6, (0, 0), []), (100, 6, (0, 0), []), (100, 6, (0, 0), []), (103, 6, (0, 0), []), (100, 6, (0, 0), []), (100, 96, (0, 0), []), (4, 0, (1, 0), [[(0, 0), (0, 654), (0, 655), (0, 656), (0, 657), (0, 658), (0, 659)]]), (100, 16, (0, 0), []), (100, 16, (0, 0), []), (100, 16, (0, 0), []), (100, 16, (0, 0), []), (100, 16, (0, 0), []), (201, 16, (0, (-1)), [[(0, 660), (0, 662), (0, 664), (0, 666), (0, 668), (0, 670), (0, 672), (0, 674), (0, 676), (0, 678), (0, 680), (0, 682), (0, 684), (0, 686), (0, 688), (0, 690)]]), (1, 0, (1, 0), [[(0, 661)]]), (101, 16, (0, 0), []), (1, 0, (1, 0), [[(0, 663)]]), (101, 16, (0, 0), []), (1, 0, (1, 0), [[(0, 665)]]), (101, 16, (0, 0), []), (1, 0, (1, 0), [[(0, 667)]]), (101, 16, (0, 0), []), (1, 0, (1, 0), [[(0, 669)]]), (101, 16, (0, 0), []), (1, 0, (1, 0), [[(0, 671)]]), (101, 16, (0, 0), [])]
def aM1_21 : List aC := [(1, 0, (1, 0), [[(0, 673)]]), (101, 16, (0, 0), []), (1, 0, (1, 0), [[(0, 675)]]), (101, 16, (0, 0), []), (1, 0, (1, 0), [[(0, 677)]]), (101, 16, (0, 0), []), (1, 0, (1, 0), [[(0, 679)]]), (101, 16, (0, 0), []), (1, 0, (1, 0), [[(0, 681)]]), (101, 16, (0, 0), []), (1, 0, (1, 0), [[(0, 683)]]), (101, 16, (0, 0), []), (1, 0, (1, 0), [[(0, 685)]]), (101, 16, (0, 0), []), (1, 0, (1, 0), [[(0, 687)]]), (101, 16, (0, 0), []), (1, 0, (1, 0), [[(0, 689)]]), (101, 16, (0, 0), []), (1, 0, (1, 0), [[(0, 691)]]), (101, 16, (0, 0), []), (8, 0, (1, 0), [[(0, 0), (0, 693), (0, 694), (0, 695), (0, 696), (0, 697), (0, 698), (0, 699)]]), (100, 60, (0, 0), []), (100, 60, (0, 0), []), (100, 60, (0, 0), []), (100, 60, (0, 0), []), (100, 60, (0, 0), []), (100, 60, (0, 0), []), (100, 60, (0, 0), []), (9, 0, (1, 0), [[(0, 0), (0, 701), (0, 702), (0, 703), (0, 704), (0, 0), (0, 705)]]), (100, 200, (0, 0), []), (100, 200, (0, 0), []), (100, 200, (0, 0), [])]
def aM1_22 : List aC := [(100, 200, (0, 0), []), (100, 200, (0, 0), []), (6, 0, (1, 0), [[(0, 707), (0, 0), (0, 0), (0, 708), (0, 716), (0, 755), (0, 763)]]), (100, 5, (0, 0), []), (3, 0, (1, 0), [[(0, 0), (0, 709), (0, 710), (0, 711), (0, 712), (0, 713), (0, 714), (0, 715)]]), (100, 6, (0, 0), []), (100, 6, (0, 0), []), (100, 6, (0, 0), []), (100, 6, (0, 0), []), (103, 6, (0, 0), []), (100, 6, (0, 0), []), (100, 96, (0, 0), []), (4, 0, (1, 0), [[(0, 0), (0, 717), (0, 718), (0, 719), (0, 720), (0, 721), (0, 722)]]), (100, 16, (0, 0), []), (100, 16, (0, 0), []), (100, 16, (0, 0), []), (100, 16, (0, 0), []), (100, 16, (0, 0), []), (201, 16, (0, (-1)), [[(0, 723), (0, 725), (0, 727), (0, 729), (0, 731), (0, 733), (0, 735), (0, 737), (0, 739), (0, 741), (0, 743), (0, 745), (0, 747), (0, 749), (0, 751), (0, 753)]]), (1, 0, (1, 0), [[(0, 724)]]), (101, 16, (0, 0), []), (1, 0, (1, 0), [[(0, 726)]]), (101, 16, (0, 0), []), (1, 0, (1, 0), [[(0, 728)]]), (101, 16, (0, 0), []), (1, 0, (1, 0), [[(0, 730)]]), (101, 16, (0, 0), []), (1, 0, (1, 0), [[(0, 732)]]), (101, 16, (0, 0), []), (1, 0, (1, 0), [[(0, 734)]]), (101, 16, (0, 0), []), (1, 0, (1, 0), [[(0, 736)]])]
def aM1_23 : List aC := [(101, 16, (0, 0), []), (1, 0, (1, 0), [[(0, 738)]]), (101, 16, (0, 0), []), (1, 0, (1, 0), [[(0, 740)]]), (101, 16, (0, 0), []), (1, 0, (1, 0), [[(0, 742)]]), (101, 16, (0, 0), []), (1, 0, (1, 0), [[(0, 744)]]), (101, 16, (0, 0), []), (1, 0, (1, 0), [[(0, 746)]]), (101, 16, (0, 0), []), (1, 0, (1, 0), [[(0, 748)]]), (101, 16, (0, 0), []), (1, 0, (1, 0), [[(0, 750)]]), (101, 16, (0, 0), []), (1, 0, (1, 0), [[(0, 752)]]), (101, 16, (0, 0), []), (1, 0, (1, 0), [[(0, 754)]]), (101, 16, (0, 0), []), (8, 0, (1, 0), [[(0, 0), (0, 756), (0, 757), (0, 758), (0, 759), (0, 760), (0, 761), (0, 762)]]), (100, 60, (0, 0), []), (100, 60, (0, 0), []), (100, 60, (0, 0), []), (100, 60, (0, 0), []), (100, 60, (0, 0), []), (100, 60, (0, 0), []), (100, 60, (0, 0), []), (9, 0, (1, 0), [[(0, 0), (0, 764), (0, 765), (0, 766), (0, 767), (0, 0), (0, 768)]]), (100, 200, (0, 0), []), (100, 200, (0, 0), []), (100, 200, (0, 0), []), (100, 200, (0, 0), [])]
def aM1_24 : List aC := [(100, 200, (0, 0), []), (11, 0, (1, 0), [[(0, 0), (0, 770), (0, 771), (0, 772), (0, 773), (0, 774), (0, 775), (0, 0), (0, 776), (0, 0), (0, 0), (0, 0), (0, (-1)), (0, 0), (0, 0), (0, 0), (0, 0), (0, 777), (0, 0)]]), (100, 3116, (0, 0), [[(0, 0), (0, 20), (0, 1), (0, 1), (0, 2), (0, 5), (0, 3), (0, 2), (0, 3), (0, 0), (0, 0), (0, 0), (0, 1), (0, 1), (0, 2), (0, 6), (0, 1)], [], [(0, 0), (0, 0), (0, 0), (0, 0), (0, 0), (0, 0), (0, 0), (0, 0), (0, 0), (0, 0), (0, 0), (0, 0), (0, 0), (0, 0), (0, 0), (0, 0), (0, 2), (0, 1), (0, 1), (0, 4), (0, 1)], [], [], [], [], [], [], [], [], [], [], [(0, 0), (0, 0), (0, 0), (0, 0), (0, 24), (0, 0), (0, 25), (0, 0), (0, 26), (0, 0)]]), (100, 24928, (0, 0), []), (100, 6232, (0, 0), []), (100, 3116, (0, 0), []), (100, 3116, (0, 0), []), (103, 2, (0, 0), []), (100, 1000, (0, 0), []), (100, 800, (0, 0), []), (101, 1, (0, 0), [])]
def aM1 : aM := [aM1_0, aM1_1, aM1_2, aM1_3, aM1_4, aM1_5, aM1_6, aM1_7, aM1_8, aM1_9, aM1_10, aM1_11, aM1_12, aM1_13, aM1_14, aM1_15, aM1_16, aM1_17, aM1_18, aM1_19, aM1_20, aM1_21, aM1_22, aM1_23, aM1_24]

def aM1_24c : List aC := [(100, 200, (0, 0), [])]
def aMc : aM := [aM1_0, aM1_1, aM1_2, aM1_3, aM1_4, aM1_5, aM1_6, aM1_7, aM1_8, aM1_9, aM1_10, aM1_11, aM1_12, aM1_13, aM1_14, aM1_15, aM1_16, aM1_17, aM1_18, aM1_19, aM1_20, aM1_21, aM1_22, aM1_23, aM1_24c]
/-! ===== the class's constructor, run abstractly ===== -/
noncomputable def aM0 : aM := [[(10, 0, (1, 0), [anr 10])]]
noncomputable def arOK (r : aRes) : Bool := match r with
  | (.inl none, M, n, kn) => lEq (lEq acEq) M aMc && Nat.beq n 769 && kn
  | _ => false
set_option maxRecDepth 100000 in
theorem p_pre : aRun [] 0 (fun _ _ => false) 8000 (0, []) 117 (0, apad (mmaxL 117) [(3, 0, 0)], [], 0, 0, aM0, 1, true) (fun _ r => arOK r) = true := by decide +kernel
/-! ===== a run of the class's constructor: what it leaves ===== -/
def cRho (G : mG) (d : mD) (k : Nat) : Int := if k < 1000 then 0 else if k % 3 = 1 then G.1 (((k - 1000) / 3 : Nat) : Int) else if k % 3 = 2 then G.2.1 (((k - 1001) / 3 : Nat) : Int) else d 900 (((k - 1002) / 3 : Nat) : Int)
theorem cRho_1 (G : mG) (d : mD) (a : Nat) : G.1 (a : Int) = cRho G d (1000 + 3 * a) := by
  unfold cRho
  rw [if_neg (by omega), if_pos (by omega), show (1000 + 3 * a - 1000) / 3 = a by omega]
theorem cRho_2 (G : mG) (d : mD) (a : Nat) : G.2.1 (a : Int) = cRho G d (1001 + 3 * a) := by
  unfold cRho
  rw [if_neg (by omega), if_neg (by omega), if_pos (by omega), show (1001 + 3 * a - 1001) / 3 = a by omega]
theorem cRho_3 (G : mG) (d : mD) (i : Nat) : d 900 (i : Int) = cRho G d (1002 + 3 * i) := by
  unfold cRho
  rw [if_neg (by omega), if_neg (by omega), if_neg (by omega), show (1002 + 3 * i - 1002) / 3 = i by omega]
theorem c_I0 {L : Nat} (xs : Nat → Int32) (G : mG) (d : mD) : gI (cRho G d) (0, []) (mO0 L xs) := by
  refine ⟨fun h => absurd rfl h, by show miand 0 63 = 0; decide, fun i hi => absurd hi (Nat.not_lt_zero i), fun i hi => absurd hi (by simp), fun k hk => ⟨?_, fun i => ?_⟩⟩
  · simp only [mO0]
    rw [if_neg (by omega), if_neg (by omega), if_neg (by omega)]
  · simp only [mO0]
    rw [if_neg (by omega), if_neg (by omega), if_neg (by omega)]
    simp
theorem ci_run {L : Nat} {xs : Nat → Int32} {G : mG} {d : mD} {K : mK} (hx : G.2.2 = 1) (h0 : G.1 0 = 10) (hl : G.2.1 0 = 0) (hd : ∀ i : Nat, d 0 (i : Int) = if mfty (64 * 10 + i) = 4 then -1 else 0)
    (hK : ∀ G' d', G'.2.2 = 901 → (∀ a : Nat, 779 ≤ a → G'.1 (a : Int) = G.1 (a : Int) ∧ G'.2.1 (a : Int) = G.2.1 (a : Int)) → (∀ i : Nat, d' 900 (i : Int) = d 900 (i : Int)) → gM (cRho G d) aMc 769 true G' d' → K (.inl none) G' d') : mRun (mO0 L xs) 117 (ment 117 [(3, 0)] G d) K := by
  refine aRun_ok (ρ := cRho G d) 8000 (0, []) 117 _ (fun _ r => arOK r) (c_I0 xs G d) p_pre (ment 117 [(3, 0)] G d) ⟨rfl, gL_pad (ρ := cRho G d) _ (S := [(3, 0, 0)]) (S' := [(3, 0)]) ⟨⟨rfl, rfl⟩, trivial⟩, trivial, rfl, rfl, ?_⟩ K (fun I' r _ h q G' d' hr => ?_) (fun e => absurd e (by decide))
  · refine ⟨⟨fun _ => ⟨by decide, by show G.2.2 = _; rw [hx]; rfl⟩, by decide, fun a _ => ⟨cRho_1 G d a, cRho_2 G d a⟩, cRho_3 G d⟩, fun a ha _ => ?_⟩
    have ha : a = 0 := by
      have ha : a < 1 := ha
      omega
    subst ha
    exact ⟨h0, hl, fun i => by
      show gN (cRho G d) (aget (10, 0, (1, 0), [anr 10]) i) (d 0 (i : Int))
      rw [hd]
      exact anr_ok 10 i (by decide)⟩
  · obtain ⟨x, M, n, kn⟩ := r
    have h : arOK (x, M, n, kn) = true := h
    unfold arOK at h
    split at h
    · rename_i M9 n9 kn9 e9
      cases e9
      simp only [Bool.and_eq_true] at h
      obtain ⟨⟨h1, h2⟩, h3⟩ := h
      have h1 := lEq_ok (lEq_ok acEq_ok) _ _ h1
      have h2 := Nat.eq_of_beq_eq_true h2
      subst h1
      subst h2
      subst h3
      obtain ⟨hM, hq⟩ := hr
      have hM : gM (cRho G d) aMc 769 true G' d' := hM
      match q, hq with
      | .inl none, _ =>
        refine hK G' d' (hM.1.1 rfl).2 (fun a ha => ?_) (fun i => ?_) hM
        · obtain ⟨e1, e2⟩ := hM.1.2.2.1 a ha
          exact ⟨by rw [e1, ← cRho_1], by rw [e2, ← cRho_2]⟩
        · rw [hM.1.2.2.2 i, ← cRho_3]
      | .inl (some _), hq => exact hq.elim
      | .inr _, hq => exact hq.elim
    · cases h
/-! ===== the reference's cells laid beside, as if they were there ===== -/
def gcv (ρ : Nat → Int) (x : aN) : Int := match x with
  | (0, c) => c
  | (1, _) => 0
  | (k + 2, c) => ρ k + c
theorem gcv_ok (ρ : Nat → Int) (x : aN) : gN ρ x (gcv ρ x) := by
  obtain ⟨t, c⟩ := x
  match t, c with
  | 0, c => exact rfl
  | 1, .ofNat _ => exact trivial
  | 1, .negSucc _ => exact (show -128 ≤ (0 : Int) ∧ (0 : Int) ≤ 127 from by decide)
  | k + 2, c => exact rfl
noncomputable def gAll (G : mG) : mG := (fun a => if 769 ≤ a ∧ a < 779 then ((acell aM1 a.toNat).1 : Int) else G.1 a, fun a => if 769 ≤ a ∧ a < 779 then ((acell aM1 a.toNat).2.1 : Int) else G.2.1 a, G.2.2)
noncomputable def dAll (ρ : Nat → Int) (d : mD) : mD := fun a i => if 769 ≤ a ∧ a < 779 then gcv ρ (aget (acell aM1 a.toNat) i.toNat) else d a i
set_option maxRecDepth 100000 in
theorem aMc_eq : (List.range 769).all (fun a => acEq (acell aM1 a) (acell aMc a)) = true := by decide +kernel
theorem gM_all {ρ : Nat → Int} {G : mG} {d : mD} (hM : gM ρ aMc 769 true G d) : gM ρ aM1 779 false (gAll G) (dAll ρ d) := by
  refine ⟨⟨fun e => (by cases e), by decide, fun a ha => ⟨?_, ?_⟩, fun i => ?_⟩, fun a ha h9 => ?_⟩
  · show (if 769 ≤ (a : Int) ∧ (a : Int) < 779 then _ else G.1 (a : Int)) = _
    rw [if_neg (by omega)]
    exact (hM.1.2.2.1 a ha).1
  · show (if 769 ≤ (a : Int) ∧ (a : Int) < 779 then _ else G.2.1 (a : Int)) = _
    rw [if_neg (by omega)]
    exact (hM.1.2.2.1 a ha).2
  · unfold dAll
    rw [if_neg (by omega)]
    exact hM.1.2.2.2 i
  · rcases Nat.lt_or_ge a 769 with h | h
    · have e := acEq_ok _ _ (List.all_eq_true.mp aMc_eq a (List.mem_range.mpr h))
      rw [e] at h9 ⊢
      obtain ⟨g1, g2, g3⟩ := hM.2 a h h9
      refine ⟨?_, ?_, fun i => ?_⟩
      · show (if 769 ≤ (a : Int) ∧ (a : Int) < 779 then _ else G.1 (a : Int)) = _
        rw [if_neg (by omega)]
        exact g1
      · show (if 769 ≤ (a : Int) ∧ (a : Int) < 779 then _ else G.2.1 (a : Int)) = _
        rw [if_neg (by omega)]
        exact g2
      · unfold dAll
        rw [if_neg (by omega)]
        exact g3 i
    · refine ⟨?_, ?_, fun i => ?_⟩
      · show (if 769 ≤ (a : Int) ∧ (a : Int) < 779 then (((acell aM1 (a : Int).toNat).1 : Nat) : Int) else G.1 (a : Int)) = _
        rw [if_pos (by omega), Int.toNat_natCast]
      · show (if 769 ≤ (a : Int) ∧ (a : Int) < 779 then (((acell aM1 (a : Int).toNat).2.1 : Nat) : Int) else G.2.1 (a : Int)) = _
        rw [if_pos (by omega), Int.toNat_natCast]
      · unfold dAll
        rw [if_pos (by omega), Int.toNat_natCast, Int.toNat_natCast]
        exact gcv_ok _ _
/-! ===== the law's first steps: the numbers' source and the class ===== -/
theorem drw_init {O : mO} {G : mG} {d : mD} {K : mK} {x : Int} (h9 : G.1 900 = 12) (h : K (.inl none) G (mset d 900 0 x)) : mCall O 341 [(3, 900), (0, x)] G d K := by
  refine mN_run 6 _ ?_
  refine And.intro ⟨by decide, by decide, by decide⟩ ?_
  refine And.intro ⟨h9, rfl⟩ ?_
  exact And.intro rfl h
theorem law_start1 {L : Nat} {xs : Nat → Int32} {K : mK} (hL : L ≤ 100000) (h : ∀ x : Int, mInR x → mRun (mO0 L xs) 0 (16, [(4, 2), mu, mu, mu, mu, mu, mu, mu, mu, mu, mu, mu], [(0, x), (3, 900), (3, 900)], 1, mnf 12, ((mkind (fun _ => -1) 900 12), (mkind (fun _ => 0) 900 0), 0), fun b j => if b = 900 then (if mfty (64 * 12 + j.toNat) = 4 then -1 else 0) else 0) K) : mRun (mO0 L xs) 0 (mlaw0 (fun _ _ => 0)) K := by
  refine mN_run 5 _ ?_
  refine And.intro ⟨by decide, by decide, by decide⟩ ?_
  refine And.intro rfl ?_
  refine And.intro ⟨?_, ?_⟩ (And.intro (fun hc => ?_) (fun hc => ?_))
  · show -2147483648 ≤ (L : Int); omega
  · show (L : Int) ≤ 2147483647; omega
  · refine mN_run 1 _ ?_
    exact h 0 ⟨by decide, by decide⟩
  · refine mN_run 4 _ ?_
    have hc : (0 : Int) < (L : Int) := hc
    refine And.intro ⟨Or.inr (Or.inr rfl), by decide, hc⟩ ?_
    exact h _ ⟨Int32.le_toInt (xs 0), by show (xs 0).toInt ≤ 2147483647; have := Int32.toInt_lt (xs 0); omega⟩
def lK0 : Int → Int := mkind (fun _ => -1) 900 12
def lD0 : mD := fun b j => if b = 900 then (if mfty (64 * 12 + j.toNat) = 4 then -1 else 0) else 0
theorem law_start2 {O : mO} {K : mK} {x : Int} (h : mCall O 117 [(3, 0)] ((mkind lK0 0 10), (mkind (mkind (fun _ => 0) 900 0) 0 0), 1) (fun b j => if b = 0 then (if mfty (64 * 10 + j.toNat) = 4 then -1 else 0) else mset lD0 900 0 x b j) (mback 0 24 [(4, 2), (3, 900), mu, mu, mu, mu, mu, mu, mu, mu, mu, mu] [(3, 0)] (1 + mmc 341 + 1 + mmc 117) (mnf 12 + mms 341 + mnf 10 + mms 117) (fun st => mRun O 0 st K) K)) : mRun O 0 (16, [(4, 2), mu, mu, mu, mu, mu, mu, mu, mu, mu, mu, mu], [(0, x), (3, 900), (3, 900)], 1, mnf 12, (lK0, (mkind (fun _ => 0) 900 0), 0), lD0) K := by
  refine mN_run 1 _ ?_
  refine And.intro ⟨⟨rfl, rfl, by decide, by decide, by decide⟩, rfl⟩ (drw_init rfl ?_)
  refine mN_run 4 _ ?_
  refine And.intro (by decide) ?_
  refine And.intro ⟨by decide, by decide, by decide⟩ ?_
  refine And.intro ⟨⟨rfl, rfl, by decide, by decide, by decide⟩, rfl⟩ ?_
  exact h
def lc1 : Nat := 1 + mmc 341 + 1 + mmc 117
def ls1 : Nat := mnf 12 + mms 341 + mnf 10 + mms 117
theorem law_start {L : Nat} {xs : Nat → Int32} {K : mK} (hL : L ≤ 100000) (h : ∀ (x : Int) (G : mG) (d : mD) (ρ : Nat → Int), mInR x → G.2.2 = 901 → (∀ a : Nat, 779 ≤ a → G.1 (a : Int) = if a = 900 then 12 else -1) → d 900 0 = x → gM ρ aMc 769 true G d → mRun (mO0 L xs) 0 (28, [(4, 2), (3, 900), (3, 0), mu, mu, mu, mu, mu, mu, mu, mu, mu], [], lc1, ls1, G, d) K) : mRun (mO0 L xs) 0 (mlaw0 (fun _ _ => 0)) K := by
  refine law_start1 hL (fun x hx => ?_)
  refine law_start2 ?_
  refine ci_run rfl rfl rfl (fun i => ?_) (fun G' d' g1 g2 g3 g4 => ?_)
  · show (if (0 : Int) = 0 then (if mfty (64 * 10 + ((i : Int)).toNat) = 4 then -1 else 0) else _) = _
    rw [if_pos rfl, Int.toNat_natCast]
  · show mRun (mO0 L xs) 0 (24 + 3, _, [(3, 0)], _, _, G', d') K
    refine mN_run 1 _ ?_
    refine And.intro (by decide) ?_
    refine h x G' d' _ hx g1 (fun a ha => ?_) ?_ g4
    · rw [(g2 a ha).1]
      show (if (a : Int) = 0 then _ else (if (a : Int) = 900 then _ else -1)) = _
      rw [if_neg (by omega)]
      by_cases e : a = 900
      · rw [if_pos (by omega), if_pos e]
      · rw [if_neg (by omega), if_neg e]
    · exact g3 0
/-! ===== a small machine with typed places: the cells' shape is fixed ===== -/
-- a number, or a place: its type (0 to 11: an object of the class; from 12 on rows of a kind and a length) and its cell
abbrev tV : Type := mV ⊕ (Nat × Int)
def tk (j : Nat) : Nat := bif Nat.ble 21 j then (bif Nat.ble 40 j then (bif Nat.ble 45 j then (bif Nat.ble 48 j then (bif Nat.ble 49 j then (bif Nat.ble 50 j then (bif Nat.beq j 50 then 103 else 199) else (bif Nat.beq j 49 then 103 else 199)) else (bif Nat.beq j 48 then 100 else 199)) else (bif Nat.ble 46 j then (bif Nat.ble 47 j then (bif Nat.beq j 47 then 100 else 199) else (bif Nat.beq j 46 then 100 else 199)) else (bif Nat.beq j 45 then 103 else 199))) else (bif Nat.ble 42 j then (bif Nat.ble 43 j then (bif Nat.ble 44 j then (bif Nat.beq j 44 then 103 else 199) else (bif Nat.beq j 43 then 100 else 199)) else (bif Nat.beq j 42 then 100 else 199)) else (bif Nat.ble 41 j then (bif Nat.beq j 41 then 13 else 199) else (bif Nat.beq j 40 then 12 else 199)))) else (bif Nat.ble 26 j then (bif Nat.ble 28 j then (bif Nat.ble 29 j then (bif Nat.ble 30 j then (bif Nat.beq j 30 then 101 else 199) else (bif Nat.beq j 29 then 100 else 199)) else (bif Nat.beq j 28 then 100 else 199)) else (bif Nat.ble 27 j then (bif Nat.beq j 27 then 100 else 199) else (bif Nat.beq j 26 then 100 else 199))) else (bif Nat.ble 23 j then (bif Nat.ble 24 j then (bif Nat.ble 25 j then (bif Nat.beq j 25 then 100 else 199) else (bif Nat.beq j 24 then 102 else 199)) else (bif Nat.beq j 23 then 206 else 199)) else (bif Nat.ble 22 j then (bif Nat.beq j 22 then 100 else 199) else (bif Nat.beq j 21 then 100 else 199))))) else (bif Nat.ble 10 j then (bif Nat.ble 15 j then (bif Nat.ble 18 j then (bif Nat.ble 19 j then (bif Nat.ble 20 j then (bif Nat.beq j 20 then 101 else 199) else (bif Nat.beq j 19 then 201 else 199)) else (bif Nat.beq j 18 then 100 else 199)) else (bif Nat.ble 16 j then (bif Nat.ble 17 j then (bif Nat.beq j 17 then 100 else 199) else (bif Nat.beq j 16 then 103 else 199)) else (bif Nat.beq j 15 then 100 else 199))) else (bif Nat.ble 12 j then (bif Nat.ble 13 j then (bif Nat.ble 14 j then (bif Nat.beq j 14 then 100 else 199) else (bif Nat.beq j 13 then 103 else 199)) else (bif Nat.beq j 12 then 206 else 199)) else (bif Nat.ble 11 j then (bif Nat.beq j 11 then 11 else 199) else (bif Nat.beq j 10 then 10 else 199)))) else (bif Nat.ble 5 j then (bif Nat.ble 7 j then (bif Nat.ble 8 j then (bif Nat.ble 9 j then (bif Nat.beq j 9 then 9 else 199) else (bif Nat.beq j 8 then 8 else 199)) else (bif Nat.beq j 7 then 7 else 199)) else (bif Nat.ble 6 j then (bif Nat.beq j 6 then 6 else 199) else (bif Nat.beq j 5 then 5 else 199))) else (bif Nat.ble 2 j then (bif Nat.ble 3 j then (bif Nat.ble 4 j then (bif Nat.beq j 4 then 4 else 199) else (bif Nat.beq j 3 then 3 else 199)) else (bif Nat.beq j 2 then 2 else 199)) else (bif Nat.ble 1 j then (bif Nat.beq j 1 then 1 else 199) else (bif Nat.beq j 0 then 0 else 199)))))
def tl (j : Nat) : Int := bif Nat.ble 21 j then (bif Nat.ble 40 j then (bif Nat.ble 45 j then (bif Nat.ble 48 j then (bif Nat.ble 49 j then (bif Nat.ble 50 j then (bif Nat.beq j 50 then 1300 else 0) else (bif Nat.beq j 49 then 16 else 0)) else (bif Nat.beq j 48 then 11 else 0)) else (bif Nat.ble 46 j then (bif Nat.ble 47 j then (bif Nat.beq j 47 then 12 else 0) else (bif Nat.beq j 46 then 4 else 0)) else (bif Nat.beq j 45 then 20800 else 0))) else (bif Nat.ble 42 j then (bif Nat.ble 43 j then (bif Nat.ble 44 j then (bif Nat.beq j 44 then 61 else 0) else (bif Nat.beq j 43 then 61 else 0)) else (bif Nat.beq j 42 then 366 else 0)) else (bif Nat.ble 41 j then (bif Nat.beq j 41 then 0 else 0) else (bif Nat.beq j 40 then 0 else 0)))) else (bif Nat.ble 26 j then (bif Nat.ble 28 j then (bif Nat.ble 29 j then (bif Nat.ble 30 j then (bif Nat.beq j 30 then 1 else 0) else (bif Nat.beq j 29 then 800 else 0)) else (bif Nat.beq j 28 then 1000 else 0)) else (bif Nat.ble 27 j then (bif Nat.beq j 27 then 6232 else 0) else (bif Nat.beq j 26 then 24928 else 0))) else (bif Nat.ble 23 j then (bif Nat.ble 24 j then (bif Nat.ble 25 j then (bif Nat.beq j 25 then 3116 else 0) else (bif Nat.beq j 24 then 1000 else 0)) else (bif Nat.beq j 23 then 8 else 0)) else (bif Nat.ble 22 j then (bif Nat.beq j 22 then 200 else 0) else (bif Nat.beq j 21 then 60 else 0))))) else (bif Nat.ble 10 j then (bif Nat.ble 15 j then (bif Nat.ble 18 j then (bif Nat.ble 19 j then (bif Nat.ble 20 j then (bif Nat.beq j 20 then 16 else 0) else (bif Nat.beq j 19 then 16 else 0)) else (bif Nat.beq j 18 then 16 else 0)) else (bif Nat.ble 16 j then (bif Nat.ble 17 j then (bif Nat.beq j 17 then 96 else 0) else (bif Nat.beq j 16 then 6 else 0)) else (bif Nat.beq j 15 then 6 else 0))) else (bif Nat.ble 12 j then (bif Nat.ble 13 j then (bif Nat.ble 14 j then (bif Nat.beq j 14 then 5 else 0) else (bif Nat.beq j 13 then 2 else 0)) else (bif Nat.beq j 12 then 2 else 0)) else (bif Nat.ble 11 j then (bif Nat.beq j 11 then 0 else 0) else (bif Nat.beq j 10 then 0 else 0)))) else (bif Nat.ble 5 j then (bif Nat.ble 7 j then (bif Nat.ble 8 j then (bif Nat.ble 9 j then (bif Nat.beq j 9 then 0 else 0) else (bif Nat.beq j 8 then 0 else 0)) else (bif Nat.beq j 7 then 0 else 0)) else (bif Nat.ble 6 j then (bif Nat.beq j 6 then 0 else 0) else (bif Nat.beq j 5 then 0 else 0))) else (bif Nat.ble 2 j then (bif Nat.ble 3 j then (bif Nat.ble 4 j then (bif Nat.beq j 4 then 0 else 0) else (bif Nat.beq j 3 then 0 else 0)) else (bif Nat.beq j 2 then 0 else 0)) else (bif Nat.ble 1 j then (bif Nat.beq j 1 then 0 else 0) else (bif Nat.beq j 0 then 0 else 0)))))
-- a field that holds a place: its type, its distance
def tpy (j : Nat) : Nat := bif Nat.ble 644 j then (bif Nat.ble 847 j then (bif Nat.ble 857 j then (bif Nat.ble 862 j then (bif Nat.ble 864 j then (bif Nat.ble 865 j then (bif Nat.ble 866 j then (bif Nat.beq j 866 then 22 else 99) else (bif Nat.beq j 865 then 22 else 99)) else (bif Nat.beq j 864 then 22 else 99)) else (bif Nat.ble 863 j then (bif Nat.beq j 863 then 22 else 99) else (bif Nat.beq j 862 then 22 else 99))) else (bif Nat.ble 859 j then (bif Nat.ble 860 j then (bif Nat.ble 861 j then (bif Nat.beq j 861 then 22 else 99) else (bif Nat.beq j 860 then 22 else 99)) else (bif Nat.beq j 859 then 22 else 99)) else (bif Nat.ble 858 j then (bif Nat.beq j 858 then 22 else 99) else (bif Nat.beq j 857 then 45 else 99)))) else (bif Nat.ble 852 j then (bif Nat.ble 854 j then (bif Nat.ble 855 j then (bif Nat.ble 856 j then (bif Nat.beq j 856 then 44 else 99) else (bif Nat.beq j 855 then 44 else 99)) else (bif Nat.beq j 854 then 43 else 99)) else (bif Nat.ble 853 j then (bif Nat.beq j 853 then 43 else 99) else (bif Nat.beq j 852 then 43 else 99))) else (bif Nat.ble 849 j then (bif Nat.ble 850 j then (bif Nat.ble 851 j then (bif Nat.beq j 851 then 43 else 99) else (bif Nat.beq j 850 then 43 else 99)) else (bif Nat.beq j 849 then 43 else 99)) else (bif Nat.ble 848 j then (bif Nat.beq j 848 then 42 else 99) else (bif Nat.beq j 847 then 16 else 99))))) else (bif Nat.ble 710 j then (bif Nat.ble 842 j then (bif Nat.ble 844 j then (bif Nat.ble 845 j then (bif Nat.ble 846 j then (bif Nat.beq j 846 then 18 else 99) else (bif Nat.beq j 845 then 15 else 99)) else (bif Nat.beq j 844 then 15 else 99)) else (bif Nat.ble 843 j then (bif Nat.beq j 843 then 15 else 99) else (bif Nat.beq j 842 then 15 else 99))) else (bif Nat.ble 721 j then (bif Nat.ble 840 j then (bif Nat.ble 841 j then (bif Nat.beq j 841 then 15 else 99) else (bif Nat.beq j 840 then 14 else 99)) else (bif Nat.beq j 721 then 29 else 99)) else (bif Nat.ble 712 j then (bif Nat.beq j 712 then 28 else 99) else (bif Nat.beq j 710 then 13 else 99)))) else (bif Nat.ble 705 j then (bif Nat.ble 707 j then (bif Nat.ble 708 j then (bif Nat.ble 709 j then (bif Nat.beq j 709 then 25 else 99) else (bif Nat.beq j 708 then 25 else 99)) else (bif Nat.beq j 707 then 27 else 99)) else (bif Nat.ble 706 j then (bif Nat.beq j 706 then 26 else 99) else (bif Nat.beq j 705 then 25 else 99))) else (bif Nat.ble 646 j then (bif Nat.ble 647 j then (bif Nat.ble 648 j then (bif Nat.beq j 648 then 6 else 99) else (bif Nat.beq j 647 then 7 else 99)) else (bif Nat.beq j 646 then 2 else 99)) else (bif Nat.ble 645 j then (bif Nat.beq j 645 then 1 else 99) else (bif Nat.beq j 644 then 7 else 99)))))) else (bif Nat.ble 388 j then (bif Nat.ble 519 j then (bif Nat.ble 582 j then (bif Nat.ble 641 j then (bif Nat.ble 642 j then (bif Nat.ble 643 j then (bif Nat.beq j 643 then 13 else 99) else (bif Nat.beq j 642 then 12 else 99)) else (bif Nat.beq j 641 then 0 else 99)) else (bif Nat.ble 640 j then (bif Nat.beq j 640 then 6 else 99) else (bif Nat.beq j 582 then 22 else 99))) else (bif Nat.ble 578 j then (bif Nat.ble 579 j then (bif Nat.ble 580 j then (bif Nat.beq j 580 then 22 else 99) else (bif Nat.beq j 579 then 22 else 99)) else (bif Nat.beq j 578 then 22 else 99)) else (bif Nat.ble 577 j then (bif Nat.beq j 577 then 22 else 99) else (bif Nat.beq j 519 then 21 else 99)))) else (bif Nat.ble 514 j then (bif Nat.ble 516 j then (bif Nat.ble 517 j then (bif Nat.ble 518 j then (bif Nat.beq j 518 then 21 else 99) else (bif Nat.beq j 517 then 21 else 99)) else (bif Nat.beq j 516 then 21 else 99)) else (bif Nat.ble 515 j then (bif Nat.beq j 515 then 21 else 99) else (bif Nat.beq j 514 then 21 else 99))) else (bif Nat.ble 390 j then (bif Nat.ble 448 j then (bif Nat.ble 513 j then (bif Nat.beq j 513 then 21 else 99) else (bif Nat.beq j 448 then 24 else 99)) else (bif Nat.beq j 390 then 9 else 99)) else (bif Nat.ble 389 j then (bif Nat.beq j 389 then 8 else 99) else (bif Nat.beq j 388 then 4 else 99))))) else (bif Nat.ble 199 j then (bif Nat.ble 261 j then (bif Nat.ble 320 j then (bif Nat.ble 384 j then (bif Nat.ble 387 j then (bif Nat.beq j 387 then 3 else 99) else (bif Nat.beq j 384 then 14 else 99)) else (bif Nat.beq j 320 then 7 else 99)) else (bif Nat.ble 262 j then (bif Nat.beq j 262 then 19 else 99) else (bif Nat.beq j 261 then 18 else 99))) else (bif Nat.ble 258 j then (bif Nat.ble 259 j then (bif Nat.ble 260 j then (bif Nat.beq j 260 then 18 else 99) else (bif Nat.beq j 259 then 18 else 99)) else (bif Nat.beq j 258 then 18 else 99)) else (bif Nat.ble 257 j then (bif Nat.beq j 257 then 18 else 99) else (bif Nat.beq j 199 then 17 else 99)))) else (bif Nat.ble 194 j then (bif Nat.ble 196 j then (bif Nat.ble 197 j then (bif Nat.ble 198 j then (bif Nat.beq j 198 then 15 else 99) else (bif Nat.beq j 197 then 16 else 99)) else (bif Nat.beq j 196 then 15 else 99)) else (bif Nat.ble 195 j then (bif Nat.beq j 195 then 15 else 99) else (bif Nat.beq j 194 then 15 else 99))) else (bif Nat.ble 128 j then (bif Nat.ble 129 j then (bif Nat.ble 193 j then (bif Nat.beq j 193 then 15 else 99) else (bif Nat.beq j 129 then 6 else 99)) else (bif Nat.beq j 128 then 5 else 99)) else (bif Nat.ble 64 j then (bif Nat.beq j 64 then 20 else 99) else (bif Nat.beq j 0 then 23 else 99))))))
def tpo (j : Nat) : Int := bif Nat.ble 644 j then (bif Nat.ble 847 j then (bif Nat.ble 857 j then (bif Nat.ble 862 j then (bif Nat.ble 864 j then (bif Nat.ble 865 j then (bif Nat.ble 866 j then (bif Nat.beq j 866 then 27 else 0) else (bif Nat.beq j 865 then 26 else 0)) else (bif Nat.beq j 864 then 25 else 0)) else (bif Nat.ble 863 j then (bif Nat.beq j 863 then 24 else 0) else (bif Nat.beq j 862 then 23 else 0))) else (bif Nat.ble 859 j then (bif Nat.ble 860 j then (bif Nat.ble 861 j then (bif Nat.beq j 861 then 22 else 0) else (bif Nat.beq j 860 then 21 else 0)) else (bif Nat.beq j 859 then 20 else 0)) else (bif Nat.ble 858 j then (bif Nat.beq j 858 then 19 else 0) else (bif Nat.beq j 857 then 18 else 0)))) else (bif Nat.ble 852 j then (bif Nat.ble 854 j then (bif Nat.ble 855 j then (bif Nat.ble 856 j then (bif Nat.beq j 856 then 17 else 0) else (bif Nat.beq j 855 then 16 else 0)) else (bif Nat.beq j 854 then 15 else 0)) else (bif Nat.ble 853 j then (bif Nat.beq j 853 then 14 else 0) else (bif Nat.beq j 852 then 13 else 0))) else (bif Nat.ble 849 j then (bif Nat.ble 850 j then (bif Nat.ble 851 j then (bif Nat.beq j 851 then 12 else 0) else (bif Nat.beq j 850 then 11 else 0)) else (bif Nat.beq j 849 then 10 else 0)) else (bif Nat.ble 848 j then (bif Nat.beq j 848 then 9 else 0) else (bif Nat.beq j 847 then 8 else 0))))) else (bif Nat.ble 710 j then (bif Nat.ble 842 j then (bif Nat.ble 844 j then (bif Nat.ble 845 j then (bif Nat.ble 846 j then (bif Nat.beq j 846 then 7 else 0) else (bif Nat.beq j 845 then 6 else 0)) else (bif Nat.beq j 844 then 5 else 0)) else (bif Nat.ble 843 j then (bif Nat.beq j 843 then 4 else 0) else (bif Nat.beq j 842 then 3 else 0))) else (bif Nat.ble 721 j then (bif Nat.ble 840 j then (bif Nat.ble 841 j then (bif Nat.beq j 841 then 2 else 0) else (bif Nat.beq j 840 then 1 else 0)) else (bif Nat.beq j 721 then 8 else 0)) else (bif Nat.ble 712 j then (bif Nat.beq j 712 then 7 else 0) else (bif Nat.beq j 710 then 6 else 0)))) else (bif Nat.ble 705 j then (bif Nat.ble 707 j then (bif Nat.ble 708 j then (bif Nat.ble 709 j then (bif Nat.beq j 709 then 5 else 0) else (bif Nat.beq j 708 then 4 else 0)) else (bif Nat.beq j 707 then 3 else 0)) else (bif Nat.ble 706 j then (bif Nat.beq j 706 then 2 else 0) else (bif Nat.beq j 705 then 1 else 0))) else (bif Nat.ble 646 j then (bif Nat.ble 647 j then (bif Nat.ble 648 j then (bif Nat.beq j 648 then 580 else 0) else (bif Nat.beq j 647 then 578 else 0)) else (bif Nat.beq j 646 then 576 else 0)) else (bif Nat.ble 645 j then (bif Nat.beq j 645 then 574 else 0) else (bif Nat.beq j 644 then 572 else 0)))))) else (bif Nat.ble 388 j then (bif Nat.ble 519 j then (bif Nat.ble 582 j then (bif Nat.ble 641 j then (bif Nat.ble 642 j then (bif Nat.ble 643 j then (bif Nat.beq j 643 then 571 else 0) else (bif Nat.beq j 642 then 570 else 0)) else (bif Nat.beq j 641 then 64 else 0)) else (bif Nat.ble 640 j then (bif Nat.beq j 640 then 1 else 0) else (bif Nat.beq j 582 then 5 else 0))) else (bif Nat.ble 578 j then (bif Nat.ble 579 j then (bif Nat.ble 580 j then (bif Nat.beq j 580 then 4 else 0) else (bif Nat.beq j 579 then 3 else 0)) else (bif Nat.beq j 578 then 2 else 0)) else (bif Nat.ble 577 j then (bif Nat.beq j 577 then 1 else 0) else (bif Nat.beq j 519 then 7 else 0)))) else (bif Nat.ble 514 j then (bif Nat.ble 516 j then (bif Nat.ble 517 j then (bif Nat.ble 518 j then (bif Nat.beq j 518 then 6 else 0) else (bif Nat.beq j 517 then 5 else 0)) else (bif Nat.beq j 516 then 4 else 0)) else (bif Nat.ble 515 j then (bif Nat.beq j 515 then 3 else 0) else (bif Nat.beq j 514 then 2 else 0))) else (bif Nat.ble 390 j then (bif Nat.ble 448 j then (bif Nat.ble 513 j then (bif Nat.beq j 513 then 1 else 0) else (bif Nat.beq j 448 then 1 else 0)) else (bif Nat.beq j 390 then 57 else 0)) else (bif Nat.ble 389 j then (bif Nat.beq j 389 then 49 else 0) else (bif Nat.beq j 388 then 10 else 0))))) else (bif Nat.ble 199 j then (bif Nat.ble 261 j then (bif Nat.ble 320 j then (bif Nat.ble 384 j then (bif Nat.ble 387 j then (bif Nat.beq j 387 then 2 else 0) else (bif Nat.beq j 384 then 1 else 0)) else (bif Nat.beq j 320 then 1 else 0)) else (bif Nat.ble 262 j then (bif Nat.beq j 262 then 6 else 0) else (bif Nat.beq j 261 then 5 else 0))) else (bif Nat.ble 258 j then (bif Nat.ble 259 j then (bif Nat.ble 260 j then (bif Nat.beq j 260 then 4 else 0) else (bif Nat.beq j 259 then 3 else 0)) else (bif Nat.beq j 258 then 2 else 0)) else (bif Nat.ble 257 j then (bif Nat.beq j 257 then 1 else 0) else (bif Nat.beq j 199 then 7 else 0)))) else (bif Nat.ble 194 j then (bif Nat.ble 196 j then (bif Nat.ble 197 j then (bif Nat.ble 198 j then (bif Nat.beq j 198 then 6 else 0) else (bif Nat.beq j 197 then 5 else 0)) else (bif Nat.beq j 196 then 4 else 0)) else (bif Nat.ble 195 j then (bif Nat.beq j 195 then 3 else 0) else (bif Nat.beq j 194 then 2 else 0))) else (bif Nat.ble 128 j then (bif Nat.ble 129 j then (bif Nat.ble 193 j then (bif Nat.beq j 193 then 1 else 0) else (bif Nat.beq j 129 then 4 else 0)) else (bif Nat.beq j 128 then 1 else 0)) else (bif Nat.ble 64 j then (bif Nat.beq j 64 then 1 else 0) else (bif Nat.beq j 0 then 1 else 0))))))
-- rows of objects: their class, the first, the step
def tec (j : Nat) : Nat := bif Nat.ble 19 j then (bif Nat.ble 23 j then (bif Nat.beq j 23 then 6 else 99) else (bif Nat.beq j 19 then 1 else 99)) else (bif Nat.beq j 12 then 6 else 99)
def teb (j : Nat) : Int := bif Nat.ble 19 j then (bif Nat.ble 23 j then (bif Nat.beq j 23 then 1 else 0) else (bif Nat.beq j 19 then 1 else 0)) else (bif Nat.beq j 12 then 73 else 0)
def tes (j : Nat) : Int := bif Nat.ble 19 j then (bif Nat.ble 23 j then (bif Nat.beq j 23 then 63 else 0) else (bif Nat.beq j 19 then 2 else 0)) else (bif Nat.beq j 12 then 63 else 0)
-- the class of an object's type
def tcl (t : Nat) : Nat := bif Nat.blt t 12 then t else bif Nat.beq t 40 then 12 else bif Nat.beq t 41 then 13 else 99
abbrev tSt : Type := Nat × List tV × List tV × Nat × Nat × mD
abbrev tK : Type := mRes → mD → Prop
def tu : tV := .inl mu
def tc2 : tV → Bool
  | .inl v => mc2 v
  | .inr _ => false
def tget : List tV → Nat → tV
  | [], _ => tu
  | v :: _, 0 => v
  | _ :: l, i + 1 => tget l i
def tput1 : List tV → Nat → tV → List tV
  | [], _, _ => []
  | _ :: l, 0, v => v :: l
  | w :: l, 1, v => (bif tc2 w then tu else w) :: tput1 l 0 v
  | w :: l, i + 2, v => w :: tput1 l (i + 1) v
def thead : List tV → List tV
  | [] => []
  | _ :: l => tu :: l
def tput2 : List tV → Nat → tV → List tV
  | [], _, _ => []
  | _ :: l, 0, v => v :: thead l
  | w :: l, 1, v => (bif tc2 w then tu else w) :: tput2 l 0 v
  | w :: l, i + 2, v => w :: tput2 l (i + 1) v
def tpop : Nat → List tV → List tV → Option (List tV × List tV)
  | 0, S, as => some (as, S)
  | _ + 1, [], _ => none
  | n + 1, v :: S, as => tpop n S (v :: as)
def tcats : List tV → Nat
  | [] => 0
  | v :: S => (bif tc2 v then 2 else 1) + tcats S
def tlay : List tV → List tV
  | [] => []
  | v :: l => bif tc2 v then v :: tu :: tlay l else v :: tlay l
def tpad : Nat → List tV → List tV
  | 0, _ => []
  | n + 1, [] => tu :: tpad n []
  | n + 1, v :: l => v :: tpad n l
def tloc (j : Nat) (as : List tV) : List tV := tpad (mmaxL j) (tlay as)
def tent (j : Nat) (as : List tV) (d : mD) : tSt := (0, tloc j as, [], 0, 0, d)
def trecv (j : Nat) (as : List tV) : Bool := bif Nat.beq (mkd j) 0 then true else match as with
  | .inr (t, _) :: _ => Nat.beq (tcl t) (mcl j) && Nat.blt (tcl t) 14
  | _ => false
def troom (m j : Nat) (as S : List tV) : Bool := mroom m j && Nat.ble (tlay as).length (mmaxL j) && Nat.ble (tcats S) 8
def troomS (m : Nat) (S : List tV) : Bool := Nat.ble 4 (mdep m) && Nat.ble (tcats S) 8 && Nat.ble 85 (mneed m)
def troomN (m : Nat) (S : List tV) (k : Nat) : Bool := Nat.ble 1 (mdep m) && Nat.ble (tcats S + k) (mneed m)
def troomT (m : Nat) (S : List tV) (c s : Nat) : Bool := Nat.blt 5 (mdep m) && Nat.ble (tcats S + 82) (mneed m) && Nat.ble (c + 1) (mmc m) && Nat.ble (s + 6) (mms m)
def tif (b : Bool) (P : Prop) : Prop := bif b then P else False
def tret1 (m : Nat) (v : Int) (P : Prop) : Prop := bif Nat.beq (mret m) 1 then P else bif Nat.beq (mret m) 2 then (v = 0 ∨ v = 1) ∧ P else False
def tback (m pc : Nat) (L S : List tV) (c s : Nat) (B : tSt → Prop) (K : tK) : tK := fun r d => match r with
  | .inl (some v) => B (pc + 3, L, .inl v :: S, c, s, d)
  | .inl none => B (pc + 3, L, S, c, s, d)
  | .inr e => match mhnd m pc e with
    | some n => tret1 m n (K (.inl (some (0, n))) d)
    | none => tif (mnoh m) (K (.inr e) d)
def tfit (t : Nat) (v : mV) (P : Prop) : Prop := match t, v with
  | 0, (0, _) => P
  | 1, (0, x) => (x = 0 ∨ x = 1) ∧ P
  | 2, (0, x) => (-128 ≤ x ∧ x ≤ 127) ∧ P
  | 3, (1, _) => P
  | _, _ => False
def tsw (x : Int) (f : Nat → Prop) : Int → List Int → Prop → Prop
  | _, [], P => P
  | k, t :: ts, P => (x = k → f t.toNat) ∧ tsw x f (k + 1) ts P
def zeqT (x y : Int) : Bool := decide (x = y)
def zleT (x y : Int) : Bool := decide (x ≤ y)
def tX (O : mO) (m len : Nat) (i : Instr) (pc : Nat) (L S : List tV) (c s : Nat) (d : mD) (B : tSt → Prop) (C : Nat → List tV → mD → tK → Prop) (K : tK) : Prop := match i with
  | .iconst z => B (pc + len, L, .inl (0, z) :: S, c, s, d)
  | .bipush z => B (pc + len, L, .inl (0, z) :: S, c, s, d)
  | .sipush z => B (pc + len, L, .inl (0, z) :: S, c, s, d)
  | .lconst z => B (pc + len, L, .inl (1, ((z : Nat) : Int)) :: S, c, s, d)
  | .jsr_w z => B (pc + len, L, .inl (1, z) :: S, c, s, d)
  | .dconst _ => B (pc + len, L, .inl (2, 0) :: S, c, s, d)
  | .ldc j => B (pc + len, L, .inl (5, (j : Int)) :: S, c, s, d)
  | .getstatic j => B (pc + len, L, .inl (bif Nat.beq j 5 then ((0, 1) : mV) else (4, (j : Int))) :: S, c, s, d)
  | .iload q => match tget L q with
    | .inl (0, x) => B (pc + len, L, .inl (0, x) :: S, c, s, d)
    | _ => False
  | .lload q => match tget L q with
    | .inl (1, x) => B (pc + len, L, .inl (1, x) :: S, c, s, d)
    | _ => False
  | .dload q => match tget L q with
    | .inl (2, x) => B (pc + len, L, .inl (2, x) :: S, c, s, d)
    | _ => False
  | .aload q => match tget L q with
    | .inr (t, x) => B (pc + len, L, .inr (t, x) :: S, c, s, d)
    | .inl (4, x) => B (pc + len, L, .inl (4, x) :: S, c, s, d)
    | .inl (5, x) => B (pc + len, L, .inl (5, x) :: S, c, s, d)
    | _ => False
  | .istore q => match S with
    | .inl (0, x) :: S => B (pc + len, tput1 L q (.inl (0, x)), S, c, s, d)
    | _ => False
  | .astore q => match S with
    | .inr (t, x) :: S => B (pc + len, tput1 L q (.inr (t, x)), S, c, s, d)
    | _ => False
  | .lstore q => match S with
    | .inl (1, x) :: S => B (pc + len, tput2 L q (.inl (1, x)), S, c, s, d)
    | _ => False
  | .dstore q => match S with
    | .inl (2, x) :: S => B (pc + len, tput2 L q (.inl (2, x)), S, c, s, d)
    | _ => False
  | .iinc q z => match tget L q with
    | .inl (0, x) => B (pc + len, tput1 L q (.inl (0, x + z)), S, c, s, d)
    | _ => False
  | .dup => match S with
    | .inl (0, x) :: S => B (pc + 1, L, .inl (0, x) :: .inl (0, x) :: S, c, s, d)
    | .inr (t, x) :: S => B (pc + 1, L, .inr (t, x) :: .inr (t, x) :: S, c, s, d)
    | _ => False
  | .dup2 => match S with
    | .inl (0, y) :: .inr (t, x) :: S => B (pc + 1, L, .inl (0, y) :: .inr (t, x) :: .inl (0, y) :: .inr (t, x) :: S, c, s, d)
    | _ => False
  | .pop => match S with
    | .inl (0, _) :: S => B (pc + 1, L, S, c, s, d)
    | _ => False
  | .iadd => match S with
    | .inl (0, y) :: .inl (0, x) :: S => B (pc + 1, L, .inl (0, x + y) :: S, c, s, d)
    | _ => False
  | .isub => match S with
    | .inl (0, y) :: .inl (0, x) :: S => B (pc + 1, L, .inl (0, x - y) :: S, c, s, d)
    | _ => False
  | .imul => match S with
    | .inl (0, y) :: .inl (0, x) :: S => B (pc + 1, L, .inl (0, x * y) :: S, c, s, d)
    | _ => False
  | .idiv => match S with
    | .inl (0, y) :: .inl (0, x) :: S => (0 ≤ x ∧ x ≤ 2147483647 ∧ 0 < y ∧ y ≤ 2147483647) ∧ B (pc + 1, L, .inl (0, x / y) :: S, c, s, d)
    | _ => False
  | .irem => match S with
    | .inl (0, y) :: .inl (0, x) :: S => (0 ≤ x ∧ x ≤ 2147483647 ∧ 0 < y ∧ y ≤ 2147483647) ∧ B (pc + 1, L, .inl (0, x % y) :: S, c, s, d)
    | _ => False
  | .iand => match S with
    | .inl (0, y) :: .inl (0, x) :: S => B (pc + 1, L, .inl (0, miand x y) :: S, c, s, d)
    | _ => False
  | .ior => match S with
    | .inl (0, y) :: .inl (0, x) :: S => B (pc + 1, L, .inl (0, mior x y) :: S, c, s, d)
    | _ => False
  | .ishl => match S with
    | .inl (0, y) :: .inl (0, x) :: S => B (pc + 1, L, .inl (0, mishl x y) :: S, c, s, d)
    | _ => False
  | .ishr => match S with
    | .inl (0, y) :: .inl (0, x) :: S => B (pc + 1, L, .inl (0, mishr x y) :: S, c, s, d)
    | _ => False
  | .iushr => match S with
    | .inl (0, y) :: .inl (0, x) :: S => B (pc + 1, L, .inl (0, miushr x y) :: S, c, s, d)
    | _ => False
  | .ladd => match S with
    | .inl (1, y) :: .inl (1, x) :: S => B (pc + 1, L, .inl (1, x + y) :: S, c, s, d)
    | _ => False
  | .lsub => match S with
    | .inl (1, y) :: .inl (1, x) :: S => B (pc + 1, L, .inl (1, x - y) :: S, c, s, d)
    | _ => False
  | .lmul => match S with
    | .inl (1, y) :: .inl (1, x) :: S => B (pc + 1, L, .inl (1, x * y) :: S, c, s, d)
    | _ => False
  | .land => match S with
    | .inl (1, y) :: .inl (1, x) :: S => B (pc + 1, L, .inl (1, mland x y) :: S, c, s, d)
    | _ => False
  | .lor => match S with
    | .inl (1, y) :: .inl (1, x) :: S => B (pc + 1, L, .inl (1, mlor x y) :: S, c, s, d)
    | _ => False
  | .lxor => match S with
    | .inl (1, y) :: .inl (1, x) :: S => B (pc + 1, L, .inl (1, mlxor x y) :: S, c, s, d)
    | _ => False
  | .lshl => match S with
    | .inl (0, y) :: .inl (1, x) :: S => B (pc + 1, L, .inl (1, mlshl x y) :: S, c, s, d)
    | _ => False
  | .lushr => match S with
    | .inl (0, y) :: .inl (1, x) :: S => B (pc + 1, L, .inl (1, mlushr x y) :: S, c, s, d)
    | _ => False
  | .lcmp => match S with
    | .inl (1, y) :: .inl (1, x) :: S => (mInL x ∧ mInL y) ∧ B (pc + 1, L, .inl (0, mcmp x y) :: S, c, s, d)
    | _ => False
  | .ddiv => match S with
    | .inl (2, y) :: .inl (2, x) :: S => (vf_n64 (FP.ddiv (mbit x) (mbit y))) ∧ B (pc + 1, L, .inl (2, mddiv x y) :: S, c, s, d)
    | _ => False
  | .dcmp o => match S with
    | .inl (2, y) :: .inl (2, x) :: S => B (pc + 1, L, .inl (0, mdcmp o x y) :: S, c, s, d)
    | _ => False
  | .i2b => match S with
    | .inl (0, x) :: S => B (pc + 1, L, .inl (0, mi2b x) :: S, c, s, d)
    | _ => False
  | .i2l => match S with
    | .inl (0, x) :: S => mInR x ∧ B (pc + 1, L, .inl (1, x) :: S, c, s, d)
    | _ => False
  | .l2i => match S with
    | .inl (1, x) :: S => B (pc + 1, L, .inl (0, x) :: S, c, s, d)
    | _ => False
  | .i2d => match S with
    | .inl (0, x) :: S => B (pc + 1, L, .inl (2, mi2d x) :: S, c, s, d)
    | _ => False
  | .goto t => B (t.toNat, L, S, c, s, d)
  | .ifCond o t => match S with
    | .inl (0, x) :: S => mInR x ∧ (mcond o x 0 → B (t.toNat, L, S, c, s, d)) ∧ (mncond o x 0 → B (pc + 3, L, S, c, s, d))
    | _ => False
  | .if_icmp o t => match S with
    | .inl (0, y) :: .inl (0, x) :: S => (mInR x ∧ mInR y) ∧ (mcond o x y → B (t.toNat, L, S, c, s, d)) ∧ (mncond o x y → B (pc + 3, L, S, c, s, d))
    | _ => False
  | .tableswitch t lo hi ts => match S with
    | .inl (0, x) :: S => mInR x ∧ tsw x (fun q => B (q, L, S, c, s, d)) lo ts.toList (x < lo ∨ hi < x → B (t.toNat, L, S, c, s, d))
    | _ => False
  | .getfield g => match S with
    | .inr (t, a) :: S => bif Nat.beq (tcl t) (g / 64) && Nat.blt (tcl t) 14 then (bif Nat.beq (mfty g) 4 then B (pc + 3, L, .inr (tpy g, a + tpo g) :: S, c, s, d) else B (pc + 3, L, .inl (mtag (mfty g), d a ((g % 64 : Nat) : Int)) :: S, c, s, d)) else False
    | _ => False
  | .putfield g => match S with
    | .inl v :: .inr (t, a) :: S => bif Nat.beq (tcl t) (g / 64) && Nat.blt (tcl t) 14 && !Nat.beq (mfty g) 4 then tfit (mfty g) v (B (pc + 3, L, S, c, s, mset d a ((g % 64 : Nat) : Int) v.2)) else False
    | _ => False
  | .arraylength => match S with
    | .inl (4, k) :: S => bif zeqT k 2 then B (pc + 1, L, .inl (0, O.1 k) :: S, c, s, d) else False
    | .inr (t, a) :: S => bif Nat.ble 100 (tk t) then B (pc + 1, L, .inl (0, tl t) :: S, c, s, d) else False
    | _ => False
  | .iaload => match S with
    | .inl (0, i) :: .inr (t, a) :: S => bif Nat.beq (tk t) 100 then (0 ≤ i ∧ i < tl t) ∧ B (pc + 1, L, .inl (0, d a i) :: S, c, s, d) else False
    | .inl (0, i) :: .inl (4, .ofNat k) :: S => bif Nat.ble k 2 then (0 ≤ i ∧ i < O.1 (k : Int)) ∧ B (pc + 1, L, .inl (0, O.2 (k : Int) i) :: S, c, s, d) else False
    | _ => False
  | .laload => match S with
    | .inl (0, i) :: .inr (t, a) :: S => bif Nat.beq (tk t) 101 then (0 ≤ i ∧ i < tl t) ∧ B (pc + 1, L, .inl (1, d a i) :: S, c, s, d) else False
    | _ => False
  | .baload => match S with
    | .inl (0, i) :: .inr (t, a) :: S => bif Nat.beq (tk t) 102 || Nat.beq (tk t) 103 then (0 ≤ i ∧ i < tl t) ∧ B (pc + 1, L, .inl (0, d a i) :: S, c, s, d) else False
    | _ => False
  | .aaload => match S with
    | .inl (0, i) :: .inr (t, a) :: S => bif Nat.ble 200 (tk t) then (0 ≤ i ∧ i < tl t) ∧ B (pc + 1, L, .inr (tec t, a + (teb t + tes t * i)) :: S, c, s, d) else False
    | _ => False
  | .iastore => match S with
    | .inl (0, v) :: .inl (0, i) :: .inr (t, a) :: S => bif Nat.beq (tk t) 100 then (0 ≤ i ∧ i < tl t) ∧ B (pc + 1, L, S, c, s, mset d a i v) else False
    | _ => False
  | .lastore => match S with
    | .inl (1, v) :: .inl (0, i) :: .inr (t, a) :: S => bif Nat.beq (tk t) 101 then (0 ≤ i ∧ i < tl t) ∧ B (pc + 1, L, S, c, s, mset d a i v) else False
    | _ => False
  | .bastore => match S with
    | .inl (0, v) :: .inl (0, i) :: .inr (t, a) :: S => bif Nat.beq (tk t) 102 then ((-128 ≤ v ∧ v ≤ 127) ∧ 0 ≤ i ∧ i < tl t) ∧ B (pc + 1, L, S, c, s, mset d a i v) else bif Nat.beq (tk t) 103 then ((v = 0 ∨ v = 1) ∧ 0 ≤ i ∧ i < tl t) ∧ B (pc + 1, L, S, c, s, mset d a i v) else False
    | _ => False
  | .checkcast e => tif (troomT m S c s) (K (.inr e) d)
  | .invokestatic j => match tpop (mnp j) S [] with
    | some (as, S) => tif (troom m j as S && trecv j as) (tif (Nat.ble (c + mmc j) (mmc m) && Nat.ble (s + mms j) (mms m)) (C j as d (tback m pc L S (c + mmc j) (s + mms j) B K)))
    | none => False
  | .invokespecial j => match j, S with
    | 0, .inr (t, a) :: S => tif (troomN m S 12) (B (pc + 3, L, S, c, s, d))
    | 1, .inl (0, y) :: .inl (0, x) :: S => tif (troomN m S 13) ((mInR x ∧ mInR y) ∧ B (pc + 3, L, .inl (0, mmax x y) :: S, c, s, d))
    | 2, .inl (0, y) :: .inl (0, x) :: S => tif (troomN m S 13) ((mInR x ∧ mInR y) ∧ B (pc + 3, L, .inl (0, mmin x y) :: S, c, s, d))
    | 3, .inl (0, n) :: .inl (0, dp) :: .inr (ty, y) :: .inl (0, sp) :: .inr (tx, x) :: S => bif Nat.beq (tk tx) 103 then tif (troomN m S 18 && Nat.beq (tk ty) (tk tx) && zleT (tl tx) 100000 && zleT (tl ty) 100000) ((0 ≤ sp ∧ 0 ≤ dp ∧ 0 ≤ n ∧ sp + n ≤ tl tx ∧ dp + n ≤ tl ty ∧ ∀ i, sp ≤ i → i < sp + n → d x i = 0 ∨ d x i = 1) ∧ B (pc + 3, L, S, c, s, mcopy d x sp y dp n)) else tif (troomN m S 18 && (Nat.beq (tk tx) 100 || Nat.beq (tk tx) 101) && Nat.beq (tk ty) (tk tx) && zleT (tl tx) 100000 && zleT (tl ty) 100000) ((0 ≤ sp ∧ 0 ≤ dp ∧ 0 ≤ n ∧ sp + n ≤ tl tx ∧ dp + n ≤ tl ty) ∧ B (pc + 3, L, S, c, s, mcopy d x sp y dp n))
    | 4, .inl (5, k) :: S => tif (troomS m S) ((0 ≤ k ∧ k < 7) ∧ B (pc + 3, L, .inl (0, tsl k) :: S, c, s, d))
    | 5, .inl (0, i) :: .inl (5, k) :: S => tif (troomS m S) ((0 ≤ k ∧ k < 7 ∧ 0 ≤ i ∧ i < tsl k) ∧ B (pc + 3, L, .inl (0, tsc k i) :: S, c, s, d))
    | _, _ => False
  | .ireturn => match S with
    | [.inl (0, v)] => tret1 m v (K (.inl (some (0, v))) d)
    | _ => False
  | .lreturn => match S with
    | [.inl (1, v)] => tif (Nat.beq (mret m) 3) (K (.inl (some (1, v))) d)
    | _ => False
  | .dreturn => match S with
    | [.inl (2, v)] => tif (Nat.beq (mret m) 4) (K (.inl (some (2, v))) d)
    | _ => False
  | .return_ => match S with
    | [] => tif (Nat.beq (mret m) 0) (K (.inl none) d)
    | _ => False
  | _ => False
def tstp (O : mO) (B : tSt → Prop) (C : Nat → List tV → mD → tK → Prop) (m : Nat) (K : tK) : tSt → Prop
  | (pc, L, S, c, s, d) => match mfetch m pc with
    | some (i, len) => tX O m len i pc L S c s d B C K
    | none => False
/-! ===== runs of the machine with typed places are runs of the small machine ===== -/
def mcv : tV → mV
  | .inl v => v
  | .inr (_, a) => (3, a)
abbrev tW : Type := (Int → Int) × (Int → Int)
def tokV (W : tW) : tV → Prop
  | .inl _ => True
  | .inr (t, a) => (0 ≤ a ∧ 0 ≤ a) ∧ W.1 a = (tk t : Int) ∧ (12 ≤ t → W.2 a = tl t)
def tokL (W : tW) : List tV → Prop
  | [] => True
  | v :: l => tokV W v ∧ tokL W l
theorem okc {W : tW} {v : tV} {l : List tV} (h : tokV W v) (hl : tokL W l) : tokL W (v :: l) := ⟨h, hl⟩
theorem oki {W : tW} {v : mV} {l : List tV} (hl : tokL W l) : tokL W (.inl v :: l) := ⟨trivial, hl⟩
-- the shape of the cells
def tSh (W : tW) (d : mD) : Prop := (∀ (a : Int) (g : Nat), 0 ≤ a → g / 64 < 14 → W.1 a = ((g / 64 : Nat) : Int) → mfty g = 4 → d a ((g % 64 : Nat) : Int) = a + tpo g ∧ tokV W (.inr (tpy g, a + tpo g)))
  ∧ ∀ (a : Int) (t : Nat) (i : Int), tokV W (.inr (t, a)) → 200 ≤ tk t → 0 ≤ i → i < tl t → d a i = a + (teb t + tes t * i) ∧ tokV W (.inr (tec t, a + (teb t + tes t * i)))
theorem tcl_lt {t : Nat} (h : tcl t < 14) : t < 12 ∧ tcl t = t ∨ t = 40 ∨ t = 41 := by
  unfold tcl at h ⊢
  cases h1 : Nat.blt t 12 with
  | true =>
    rw [Nat.blt_eq] at h1
    exact Or.inl ⟨h1, rfl⟩
  | false =>
    rw [h1] at h
    dsimp only [cond] at h ⊢
    cases h2 : Nat.beq t 40 with
    | true => exact Or.inr (Or.inl (Nat.eq_of_beq_eq_true h2))
    | false =>
      rw [h2] at h
      dsimp only [cond] at h ⊢
      cases h3 : Nat.beq t 41 with
      | true => exact Or.inr (Or.inr (Nat.eq_of_beq_eq_true h3))
      | false =>
        rw [h3] at h
        dsimp only [cond] at h
        omega
theorem tk_ob0 : ∀ t : Nat, t < 12 → tk t = t := by decide
theorem tk_obj (t : Nat) (h : tcl t < 14) : tk t = tcl t := by
  rcases tcl_lt h with ⟨h1, h2⟩ | rfl | rfl
  · rw [h2]
    exact tk_ob0 t h1
  · rfl
  · rfl
theorem tobj {W : tW} {t : Nat} {a : Int} (h : tokV W (.inr (t, a))) (ht : tcl t < 14) : W.1 a = (tcl t : Int) := by
  rw [h.2.1, tk_obj t ht]
theorem trow {W : tW} {t : Nat} {a : Int} (h : tokV W (.inr (t, a))) (ht : 100 ≤ tk t) : 0 ≤ a ∧ W.1 a = (tk t : Int) ∧ W.2 a = tl t := by
  rcases Nat.lt_or_ge t 12 with h1 | h1
  · rw [tk_ob0 t h1] at ht
    omega
  · exact ⟨h.1.1, h.2.1, h.2.2 h1⟩
theorem tbb {q : Nat} (h : (Nat.beq q 102 || Nat.beq q 103) = true) : q = 102 ∨ q = 103 := by
  rw [Bool.or_eq_true] at h
  exact h.imp Nat.eq_of_beq_eq_true Nat.eq_of_beq_eq_true
theorem tSh.setF {W : tW} {d : mD} (hd : tSh W d) {a : Int} {g : Nat} {v : Int} (hk : W.1 a = ((g / 64 : Nat) : Int)) (h12 : g / 64 < 14) (hc : Nat.beq (mfty g) 4 = false) : tSh W (mset d a ((g % 64 : Nat) : Int) v) := by
  refine ⟨fun b h b0 b1 hb h4 => ?_, fun b t i hb ht h0 h1 => ?_⟩
  · have k := hd.1 b h b0 b1 hb h4
    refine ⟨?_, k.2⟩
    unfold mset
    rw [if_neg, k.1]
    intro e
    obtain ⟨e1, e2⟩ := e
    rw [e1, hk] at hb
    have e3 : h = g := by omega
    rw [e3] at h4
    rw [h4] at hc
    cases hc
  · have k := hd.2 b t i hb ht h0 h1
    refine ⟨?_, k.2⟩
    have hn : b ≠ a := by
      intro e
      obtain ⟨-, e1, -⟩ := trow hb (by omega)
      rw [e, hk] at e1
      omega
    rw [mset_ne hn]
    exact k.1
theorem tSh.oth {W : tW} {d d' : mD} (hd : tSh W d) {a : Int} {t : Nat} (hk : W.1 a = (tk t : Int)) (h1 : 100 ≤ tk t) (h2 : tk t < 200) (h : ∀ b, b ≠ a → d' b = d b) : tSh W d' := by
  refine ⟨fun b g b0 b1 hb h4 => ?_, fun b t' i hb ht h0 h3 => ?_⟩
  · have k := hd.1 b g b0 b1 hb h4
    refine ⟨?_, k.2⟩
    rw [h b, k.1]
    intro e
    rw [e, hk] at hb
    omega
  · have k := hd.2 b t' i hb ht h0 h3
    refine ⟨?_, k.2⟩
    rw [h b, k.1]
    intro e
    obtain ⟨-, e1, -⟩ := trow hb (by omega)
    rw [e, hk] at e1
    omega
theorem tSh.setA {W : tW} {d : mD} (hd : tSh W d) {a i v : Int} {t : Nat} (hk : W.1 a = (tk t : Int)) (h1 : 100 ≤ tk t) (h2 : tk t < 200) : tSh W (mset d a i v) := hd.oth hk h1 h2 (fun _ hb => mset_ne hb)
theorem tSh.cpyA {W : tW} {d : mD} (hd : tSh W d) {x sp y dp n : Int} {t : Nat} (hk : W.1 y = (tk t : Int)) (h1 : 100 ≤ tk t) (h2 : tk t < 200) : tSh W (mcopy d x sp y dp n) := hd.oth hk h1 h2 (fun _ hb => mcopy_ne hb)
theorem tc2_map : ∀ v : tV, mc2 (mcv v) = tc2 v
  | .inl _ => rfl
  | .inr _ => rfl
theorem tget_map : ∀ (L : List tV) (k : Nat), mget (L.map mcv) k = mcv (tget L k)
  | [], _ => rfl
  | _ :: _, 0 => rfl
  | _ :: l, k + 1 => tget_map l k
theorem ok_get {W : tW} : ∀ {L : List tV}, tokL W L → ∀ k, tokV W (tget L k)
  | [], _, _ => trivial
  | _ :: _, h, 0 => h.1
  | _ :: _, h, k + 1 => ok_get h.2 k
theorem tput1_map : ∀ (L : List tV) (k : Nat) (v : tV), (tput1 L k v).map mcv = mput1 (L.map mcv) k (mcv v)
  | [], _, _ => by simp [tput1, mput1]
  | _ :: l, 0, v => rfl
  | w :: l, 1, v => by
    simp only [tput1, mput1, List.map_cons, tc2_map]
    rw [tput1_map l 0 v]
    cases tc2 w <;> rfl
  | w :: l, k + 2, v => by
    simp only [tput1, mput1, List.map_cons]
    rw [tput1_map l (k + 1) v]
theorem ok_tput1 {W : tW} : ∀ {L : List tV}, tokL W L → ∀ {v : tV}, tokV W v → ∀ k, tokL W (tput1 L k v)
  | [], _, _, _, _ => by simp [tput1, tokL]
  | _ :: _, h, _, hv, 0 => ⟨hv, h.2⟩
  | w :: _, h, _, hv, 1 => by
    simp only [tput1]
    refine ⟨?_, ok_tput1 h.2 hv 0⟩
    cases tc2 w
    · exact h.1
    · trivial
  | _ :: _, h, _, hv, k + 2 => by
    simp only [tput1]
    exact ⟨h.1, ok_tput1 h.2 hv (k + 1)⟩
theorem thead_map : ∀ L : List tV, (thead L).map mcv = mhead (L.map mcv)
  | [] => rfl
  | _ :: _ => rfl
theorem ok_thead {W : tW} : ∀ {L : List tV}, tokL W L → tokL W (thead L)
  | [], _ => trivial
  | _ :: _, h => ⟨trivial, h.2⟩
theorem tput2_map : ∀ (L : List tV) (k : Nat) (v : tV), (tput2 L k v).map mcv = mput2 (L.map mcv) k (mcv v)
  | [], _, _ => by simp [tput2, mput2]
  | _ :: l, 0, v => by
    simp only [tput2, mput2, List.map_cons]
    rw [thead_map]
  | w :: l, 1, v => by
    simp only [tput2, mput2, List.map_cons, tc2_map]
    rw [tput2_map l 0 v]
    cases tc2 w <;> rfl
  | w :: l, k + 2, v => by
    simp only [tput2, mput2, List.map_cons]
    rw [tput2_map l (k + 1) v]
theorem ok_tput2 {W : tW} : ∀ {L : List tV}, tokL W L → ∀ {v : tV}, tokV W v → ∀ k, tokL W (tput2 L k v)
  | [], _, _, _, _ => by simp [tput2, tokL]
  | _ :: _, h, _, hv, 0 => ⟨hv, ok_thead h.2⟩
  | w :: _, h, _, hv, 1 => by
    simp only [tput2]
    refine ⟨?_, ok_tput2 h.2 hv 0⟩
    cases tc2 w
    · exact h.1
    · trivial
  | _ :: _, h, _, hv, k + 2 => by
    simp only [tput2]
    exact ⟨h.1, ok_tput2 h.2 hv (k + 1)⟩
theorem tcats_map : ∀ S : List tV, mcats (S.map mcv) = tcats S
  | [] => rfl
  | v :: S => by
    simp only [List.map_cons, mcats, tcats, tc2_map, tcats_map S]
theorem tlay_map : ∀ S : List tV, mlay (S.map mcv) = (tlay S).map mcv
  | [] => rfl
  | v :: S => by
    simp only [List.map_cons, mlay, tlay, tc2_map, tlay_map S]
    cases tc2 v <;> rfl
theorem tpad_map : ∀ (n : Nat) (S : List tV), mpad n (S.map mcv) = (tpad n S).map mcv
  | 0, _ => rfl
  | n + 1, [] => by
    have h := tpad_map n []
    simp only [List.map_nil] at h
    simp only [List.map_nil, mpad, tpad, List.map_cons, h]
    rfl
  | n + 1, _ :: S => by
    simp only [List.map_cons, mpad, tpad, tpad_map n S]
theorem ok_lay {W : tW} : ∀ {S : List tV}, tokL W S → tokL W (tlay S)
  | [], _ => trivial
  | v :: _, h => by
    simp only [tlay]
    cases tc2 v
    · exact ⟨h.1, ok_lay h.2⟩
    · exact ⟨h.1, trivial, ok_lay h.2⟩
theorem ok_pad {W : tW} : ∀ (n : Nat) {S : List tV}, tokL W S → tokL W (tpad n S)
  | 0, _, _ => trivial
  | n + 1, [], h => ⟨trivial, ok_pad n h⟩
  | n + 1, _ :: _, h => ⟨h.1, ok_pad n h.2⟩
theorem tpop_map : ∀ (n : Nat) (S as : List tV) {r q : List tV}, tpop n S as = some (r, q) → mpop n (S.map mcv) (as.map mcv) = some (r.map mcv, q.map mcv)
  | 0, S, as, r, q, h => by
    cases h
    rfl
  | n + 1, [], _, _, _, h => by cases h
  | n + 1, v :: S, as, _, _, h => tpop_map n S (v :: as) h
theorem ok_pop {W : tW} : ∀ (n : Nat) {S as r q : List tV}, tokL W S → tokL W as → tpop n S as = some (r, q) → tokL W r ∧ tokL W q
  | 0, _, _, _, _, hS, ha, h => by
    cases h
    exact ⟨ha, hS⟩
  | n + 1, [], _, _, _, _, _, h => by cases h
  | n + 1, v :: S, as, _, _, hS, ha, h => ok_pop n (S := S) (as := v :: as) hS.2 ⟨hS.1, ha⟩ h
theorem tif_ok {b : Bool} {P : Prop} (h : tif b P) : b = true ∧ P := by
  cases b with
  | false => exact h.elim
  | true => exact ⟨rfl, h⟩
theorem tret1_ok {m : Nat} {v : Int} {P : Prop} (h : tret1 m v P) : mret1 m v ∧ P := by
  unfold tret1 at h
  cases h1 : Nat.beq (mret m) 1 with
  | true =>
    rw [h1] at h
    unfold mret1
    rw [Nat.eq_of_beq_eq_true h1]
    exact ⟨trivial, h⟩
  | false =>
    rw [h1] at h
    dsimp only [cond] at h
    cases h2 : Nat.beq (mret m) 2 with
    | true =>
      rw [h2] at h
      unfold mret1
      rw [Nat.eq_of_beq_eq_true h2]
      exact h
    | false => rw [h2] at h; exact h.elim
theorem troomS_ok {m : Nat} {S : List tV} (h : troomS m S = true) : mroomS m (S.map mcv) := by
  simp only [troomS, Bool.and_eq_true] at h
  exact ⟨Nat.le_of_ble_eq_true h.1.1, by rw [tcats_map]; exact Nat.le_of_ble_eq_true h.1.2, Nat.le_of_ble_eq_true h.2⟩
theorem troomN_ok {m : Nat} {S : List tV} {k : Nat} (h : troomN m S k = true) : mroomN m (S.map mcv) k := by
  unfold troomN at h
  rw [Bool.and_eq_true] at h
  exact ⟨Nat.le_of_ble_eq_true h.1, by rw [tcats_map]; exact Nat.le_of_ble_eq_true h.2⟩
theorem tfit_ok {t : Nat} {v : mV} {P : Prop} (h4 : Nat.beq t 4 = false) (h : tfit t v P) : mfit t v ∧ P := by
  unfold tfit at h
  split at h
  · exact ⟨rfl, h⟩
  · exact ⟨⟨rfl, h.1⟩, h.2⟩
  · exact ⟨⟨rfl, h.1⟩, h.2⟩
  · exact ⟨rfl, h⟩
  · exact h.elim
theorem trecv_ok {W : tW} {j : Nat} {as : List tV} (ha : tokL W as) (h : trecv j as = true) : mrecv j (as.map mcv) W.1 := by
  unfold trecv at h
  unfold mrecv
  cases h0 : Nat.beq (mkd j) 0 with
  | true =>
    rw [Nat.eq_of_beq_eq_true h0]
    trivial
  | false =>
    rw [h0] at h
    dsimp only [cond] at h
    split
    · trivial
    · split at h
      · rename_i t a r
        rw [Bool.and_eq_true, Nat.blt_eq] at h
        have e := Nat.eq_of_beq_eq_true h.1
        have k := tobj ha.1 h.2
        rw [e] at k
        exact k
      · cases h
theorem tsw_all {x : Int} {f : Nat → Prop} {g : Nat → mSt} {B : mSt → Prop} {p P : Prop} {st : mSt} (hf : ∀ q, f q → B (g q)) (hp : P → p → B st) : ∀ (ts : List Int) (k : Int), tsw x f k ts P → mall B (msw x g k ts ++ [(p, st)])
  | [], _, h => hp h
  | t :: ts, k, h => by
    have ih := tsw_all hf hp ts (k + 1) h.2
    have hne : msw x g (k + 1) ts ++ [(p, st)] ≠ [] := fun w => by
      have := (List.append_eq_nil_iff.mp w).2
      cases this
    obtain ⟨q, r, hqr⟩ := List.exists_cons_of_ne_nil hne
    show mall B ((x = k, g t.toNat) :: (msw x g (k + 1) ts ++ [(p, st)]))
    rw [hqr] at ih ⊢
    exact ⟨fun e => hf _ (h.1 e), ih⟩
section TS
variable {O : mO} {W : tW} {m : Nat} {B : tSt → Prop} {C : Nat → List tV → mD → tK → Prop} {K : tK} {B' : mSt → Prop} {C' : Nat → List mV → mG → mD → mK → Prop} {Kc : mK}
def mle (a b : Int) : Prop := mreal b ∧ mtau a ≤ mtau b
theorem mle_rf {a : Int} (h : mreal a) : mle a a := ⟨h, Nat.le_refl _⟩
theorem mle_tr {a b c : Int} (h1 : mle a b) (h2 : mle b c) : mle a c := ⟨h2.1, Nat.le_trans h1.2 h2.2⟩
theorem tback_ok {pc c s : Nat} {L S : List tV} {d : mD} {nx : Int} {r : mRes} (hL : tokL W L) (hS : tokL W S)
    (hB : ∀ pc L S c s d, tokL W L → tokL W S → tSh W d → B (pc, L, S, c, s, d) → B' (pc, L.map mcv, S.map mcv, c, s, (W.1, W.2, nx), d))
    (hK : ∀ r d', tSh W d' → K r d' → Kc r (W.1, W.2, nx) d') (hd : tSh W d) (h : tback m pc L S c s B K r d) : mback m pc (L.map mcv) (S.map mcv) c s B' Kc r (W.1, W.2, nx) d := by
  match r, h with
  | .inl (some v), h => exact hB _ _ (.inl v :: S) _ _ _ hL ⟨trivial, hS⟩ hd h
  | .inl none, h => exact hB _ _ _ _ _ _ hL hS hd h
  | .inr e, h =>
    simp only [tback] at h
    simp only [mback]
    split at h
    · rename_i n hn
      rw [hn]
      obtain ⟨h1, h2⟩ := tret1_ok h
      exact ⟨h1, hK _ _ hd h2⟩
    · rename_i hn
      rw [hn]
      obtain ⟨h1, h2⟩ := tif_ok h
      exact ⟨h1, hK _ _ hd h2⟩
set_option maxHeartbeats 2000000 in
theorem tX_ok {len pc c s : Nat} {i : Instr} {L S : List tV} {d : mD} {nx : Int} (hnx : mreal nx) (hL : tokL W L) (hS : tokL W S) (hd : tSh W d)
    (hB : ∀ nx', mle nx nx' → ∀ pc L S c s d, tokL W L → tokL W S → tSh W d → B (pc, L, S, c, s, d) → B' (pc, L.map mcv, S.map mcv, c, s, (W.1, W.2, nx'), d))
    (hC : ∀ j as d K', tokL W as → tSh W d → C j as d K' → ∀ Kc', (∀ r nx' d', mle nx nx' → tSh W d' → K' r d' → Kc' r (W.1, W.2, nx') d') → C' j (as.map mcv) (W.1, W.2, nx) d Kc')
    (hK : ∀ r nx' d', mle nx nx' → tSh W d' → K r d' → Kc r (W.1, W.2, nx') d') (h : tX O m len i pc L S c s d B C K) : mint B' C' m Kc (mX O m len i pc (L.map mcv) (S.map mcv) c s (W.1, W.2, nx) d) := by
  unfold tX at h
  split at h
  · exact hB nx (mle_rf hnx) _ _ _ _ _ _ hL (oki hS) hd h
  · exact hB nx (mle_rf hnx) _ _ _ _ _ _ hL (oki hS) hd h
  · exact hB nx (mle_rf hnx) _ _ _ _ _ _ hL (oki hS) hd h
  · exact hB nx (mle_rf hnx) _ _ _ _ _ _ hL (oki hS) hd h
  · exact hB nx (mle_rf hnx) _ _ _ _ _ _ hL (oki hS) hd h
  · exact hB nx (mle_rf hnx) _ _ _ _ _ _ hL (oki hS) hd h
  · exact hB nx (mle_rf hnx) _ _ _ _ _ _ hL (oki hS) hd h
  · exact hB nx (mle_rf hnx) _ _ _ _ _ _ hL (oki hS) hd h
  · split at h
    · rename_i hx
      simp only [mX, tget_map, hx, mcv]
      exact hB nx (mle_rf hnx) _ _ _ _ _ _ hL (okc (hx ▸ ok_get hL _) hS) hd h
    · exact h.elim
  · split at h
    · rename_i hx
      simp only [mX, tget_map, hx, mcv]
      exact hB nx (mle_rf hnx) _ _ _ _ _ _ hL (okc (hx ▸ ok_get hL _) hS) hd h
    · exact h.elim
  · split at h
    · rename_i hx
      simp only [mX, tget_map, hx, mcv]
      exact hB nx (mle_rf hnx) _ _ _ _ _ _ hL (okc (hx ▸ ok_get hL _) hS) hd h
    · exact h.elim
  · split at h
    · rename_i hx
      simp only [mX, tget_map, hx, mcv]
      exact hB nx (mle_rf hnx) _ _ _ _ _ _ hL (okc (hx ▸ ok_get hL _) hS) hd h
    · rename_i hx
      simp only [mX, tget_map, hx, mcv]
      exact hB nx (mle_rf hnx) _ _ _ _ _ _ hL (okc (hx ▸ ok_get hL _) hS) hd h
    · rename_i hx
      simp only [mX, tget_map, hx, mcv]
      exact hB nx (mle_rf hnx) _ _ _ _ _ _ hL (okc (hx ▸ ok_get hL _) hS) hd h
    · exact h.elim
  · split at h
    · have k := hB nx (mle_rf hnx) _ _ _ _ _ _ (ok_tput1 hL hS.1 _) hS.2 hd h
      rw [tput1_map] at k
      exact k
    · exact h.elim
  · split at h
    · have k := hB nx (mle_rf hnx) _ _ _ _ _ _ (ok_tput1 hL hS.1 _) hS.2 hd h
      rw [tput1_map] at k
      exact And.intro hS.1.1.1 k
    · exact h.elim
  · split at h
    · have k := hB nx (mle_rf hnx) _ _ _ _ _ _ (ok_tput2 hL hS.1 _) hS.2 hd h
      rw [tput2_map] at k
      exact k
    · exact h.elim
  · split at h
    · have k := hB nx (mle_rf hnx) _ _ _ _ _ _ (ok_tput2 hL hS.1 _) hS.2 hd h
      rw [tput2_map] at k
      exact k
    · exact h.elim
  · split at h
    · rename_i hx
      simp only [mX, tget_map, hx, mcv]
      have k := hB nx (mle_rf hnx) _ _ _ _ _ _ (ok_tput1 hL (v := .inl (0, _)) trivial _) hS hd h
      rw [tput1_map] at k
      exact k
    · exact h.elim
  · split at h
    · exact hB nx (mle_rf hnx) _ _ _ _ _ _ hL (okc hS.1 hS) hd h
    · exact hB nx (mle_rf hnx) _ _ _ _ _ _ hL (okc hS.1 hS) hd h
    · exact h.elim
  · split at h
    · exact hB nx (mle_rf hnx) _ _ _ _ _ _ hL (okc hS.1 (okc hS.2.1 hS)) hd h
    · exact h.elim
  · split at h
    · exact hB nx (mle_rf hnx) _ _ _ _ _ _ hL hS.2 hd h
    · exact h.elim
  · split at h
    · exact hB nx (mle_rf hnx) _ _ _ _ _ _ hL (oki hS.2.2) hd h
    · exact h.elim
  · split at h
    · exact hB nx (mle_rf hnx) _ _ _ _ _ _ hL (oki hS.2.2) hd h
    · exact h.elim
  · split at h
    · exact hB nx (mle_rf hnx) _ _ _ _ _ _ hL (oki hS.2.2) hd h
    · exact h.elim
  · split at h
    · exact And.intro h.1 (hB nx (mle_rf hnx) _ _ _ _ _ _ hL (oki hS.2.2) hd h.2)
    · exact h.elim
  · split at h
    · exact And.intro h.1 (hB nx (mle_rf hnx) _ _ _ _ _ _ hL (oki hS.2.2) hd h.2)
    · exact h.elim
  · split at h
    · exact hB nx (mle_rf hnx) _ _ _ _ _ _ hL (oki hS.2.2) hd h
    · exact h.elim
  · split at h
    · exact hB nx (mle_rf hnx) _ _ _ _ _ _ hL (oki hS.2.2) hd h
    · exact h.elim
  · split at h
    · exact hB nx (mle_rf hnx) _ _ _ _ _ _ hL (oki hS.2.2) hd h
    · exact h.elim
  · split at h
    · exact hB nx (mle_rf hnx) _ _ _ _ _ _ hL (oki hS.2.2) hd h
    · exact h.elim
  · split at h
    · exact hB nx (mle_rf hnx) _ _ _ _ _ _ hL (oki hS.2.2) hd h
    · exact h.elim
  · split at h
    · exact hB nx (mle_rf hnx) _ _ _ _ _ _ hL (oki hS.2.2) hd h
    · exact h.elim
  · split at h
    · exact hB nx (mle_rf hnx) _ _ _ _ _ _ hL (oki hS.2.2) hd h
    · exact h.elim
  · split at h
    · exact hB nx (mle_rf hnx) _ _ _ _ _ _ hL (oki hS.2.2) hd h
    · exact h.elim
  · split at h
    · exact hB nx (mle_rf hnx) _ _ _ _ _ _ hL (oki hS.2.2) hd h
    · exact h.elim
  · split at h
    · exact hB nx (mle_rf hnx) _ _ _ _ _ _ hL (oki hS.2.2) hd h
    · exact h.elim
  · split at h
    · exact hB nx (mle_rf hnx) _ _ _ _ _ _ hL (oki hS.2.2) hd h
    · exact h.elim
  · split at h
    · exact hB nx (mle_rf hnx) _ _ _ _ _ _ hL (oki hS.2.2) hd h
    · exact h.elim
  · split at h
    · exact hB nx (mle_rf hnx) _ _ _ _ _ _ hL (oki hS.2.2) hd h
    · exact h.elim
  · split at h
    · exact And.intro h.1 (hB nx (mle_rf hnx) _ _ _ _ _ _ hL (oki hS.2.2) hd h.2)
    · exact h.elim
  · split at h
    · exact And.intro h.1 (hB nx (mle_rf hnx) _ _ _ _ _ _ hL (oki hS.2.2) hd h.2)
    · exact h.elim
  · split at h
    · exact hB nx (mle_rf hnx) _ _ _ _ _ _ hL (oki hS.2.2) hd h
    · exact h.elim
  · split at h
    · exact hB nx (mle_rf hnx) _ _ _ _ _ _ hL (oki hS.2) hd h
    · exact h.elim
  · split at h
    · exact And.intro h.1 (hB nx (mle_rf hnx) _ _ _ _ _ _ hL (oki hS.2) hd h.2)
    · exact h.elim
  · split at h
    · exact hB nx (mle_rf hnx) _ _ _ _ _ _ hL (oki hS.2) hd h
    · exact h.elim
  · split at h
    · exact hB nx (mle_rf hnx) _ _ _ _ _ _ hL (oki hS.2) hd h
    · exact h.elim
  · exact hB nx (mle_rf hnx) _ _ _ _ _ _ hL hS hd h
  · split at h
    · exact ⟨h.1, fun z => hB nx (mle_rf hnx) _ _ _ _ _ _ hL hS.2 hd (h.2.1 z), fun z => hB nx (mle_rf hnx) _ _ _ _ _ _ hL hS.2 hd (h.2.2 z)⟩
    · exact h.elim
  · split at h
    · exact ⟨h.1, fun z => hB nx (mle_rf hnx) _ _ _ _ _ _ hL hS.2.2 hd (h.2.1 z), fun z => hB nx (mle_rf hnx) _ _ _ _ _ _ hL hS.2.2 hd (h.2.2 z)⟩
    · exact h.elim
  · split at h
    · exact ⟨h.1, tsw_all (fun q z => hB nx (mle_rf hnx) _ _ _ _ _ _ hL hS.2 hd z) (fun z z2 => hB nx (mle_rf hnx) _ _ _ _ _ _ hL hS.2 hd (z z2)) _ _ h.2⟩
    · exact h.elim
  · rename_i g
    split at h
    · rename_i t a S0
      cases hc : (Nat.beq (tcl t) (g / 64) && Nat.blt (tcl t) 14) with
      | false => rw [hc] at h; exact h.elim
      | true =>
        rw [hc] at h
        dsimp only [cond] at h
        rw [Bool.and_eq_true, Nat.blt_eq] at hc
        obtain ⟨hc, h12⟩ := hc
        have hc9 := Nat.eq_of_beq_eq_true hc
        have hk := tobj hS.1 h12
        rw [hc9] at hk h12
        cases hc2 : Nat.beq (mfty g) 4 with
        | true =>
          rw [hc2] at h
          obtain ⟨e1, e2⟩ := hd.1 a g hS.1.1.1 h12 hk (Nat.eq_of_beq_eq_true hc2)
          refine And.intro hk ?_
          have k := hB nx (mle_rf hnx) (pc + 3) _ (.inr (tpy g, a + tpo g) :: S0) c s d hL (okc e2 hS.2) hd h
          rw [Nat.eq_of_beq_eq_true hc2, e1]
          exact k
        | false =>
          rw [hc2] at h
          exact And.intro hk (hB nx (mle_rf hnx) _ _ _ _ _ _ hL (oki hS.2) hd h)
    · exact h.elim
  · rename_i g
    split at h
    · rename_i v t a S0
      cases hc : (Nat.beq (tcl t) (g / 64) && Nat.blt (tcl t) 14 && !Nat.beq (mfty g) 4) with
      | false => rw [hc] at h; exact h.elim
      | true =>
        rw [hc] at h
        dsimp only [cond] at h
        rw [Bool.and_eq_true, Bool.and_eq_true, Bool.not_eq_true', Nat.blt_eq] at hc
        obtain ⟨⟨hc, h12⟩, hc2⟩ := hc
        have hc9 := Nat.eq_of_beq_eq_true hc
        have hk := tobj hS.2.1 h12
        rw [hc9] at hk h12
        obtain ⟨h1, h2⟩ := tfit_ok hc2 h
        exact And.intro ⟨hk, h1⟩ (hB nx (mle_rf hnx) _ _ _ _ _ _ hL hS.2.2 (hd.setF hk h12 hc2) h2)
    · exact h.elim
  · split at h
    · rename_i k S0
      cases hc : zeqT k 2 with
      | false => rw [hc] at h; exact h.elim
      | true =>
        rw [hc] at h
        exact And.intro (of_decide_eq_true hc) (hB nx (mle_rf hnx) _ _ _ _ _ _ hL (oki hS.2) hd h)
    · rename_i t a S0
      cases hc : Nat.ble 100 (tk t) with
      | false => rw [hc] at h; exact h.elim
      | true =>
        rw [hc] at h
        obtain ⟨e0, e1, e2⟩ := trow hS.1 (Nat.le_of_ble_eq_true hc)
        refine And.intro (by show 100 ≤ W.1 a; rw [e1]; have := Nat.le_of_ble_eq_true hc; omega) ?_
        have k := hB nx (mle_rf hnx) (pc + 1) _ (.inl (0, tl t) :: S0) c s d hL (oki hS.2) hd h
        rw [← e2] at k
        exact k
    · exact h.elim
  · split at h
    · rename_i i t a S0
      cases hc : (Nat.beq (tk t) 100) with
      | false => rw [hc] at h; exact h.elim
      | true =>
        rw [hc] at h
        obtain ⟨⟨h1, h2⟩, h3⟩ := h
        obtain ⟨e0, e1, e2⟩ := trow hS.2.1 (by rw [Nat.eq_of_beq_eq_true hc]; omega)
        exact And.intro ⟨by show W.1 a = 100; rw [e1, Nat.eq_of_beq_eq_true hc]; rfl, h1, by show i < W.2 a; rw [e2]; exact h2⟩ (hB nx (mle_rf hnx) _ _ _ _ _ _ hL (oki hS.2.2) hd h3)
    · rename_i i k S0
      cases hc : Nat.ble k 2 with
      | false => rw [hc] at h; exact h.elim
      | true =>
        rw [hc] at h
        have hk := Nat.le_of_ble_eq_true hc
        exact And.intro ⟨by show (k : Int) = 0 ∨ (k : Int) = 1 ∨ (k : Int) = 2; omega, h.1.1, h.1.2⟩ (hB nx (mle_rf hnx) _ _ _ _ _ _ hL (oki hS.2.2) hd h.2)
    · exact h.elim
  · split at h
    · rename_i i t a S0
      cases hc : (Nat.beq (tk t) 101) with
      | false => rw [hc] at h; exact h.elim
      | true =>
        rw [hc] at h
        obtain ⟨⟨h1, h2⟩, h3⟩ := h
        obtain ⟨e0, e1, e2⟩ := trow hS.2.1 (by rw [Nat.eq_of_beq_eq_true hc]; omega)
        exact And.intro ⟨by show W.1 a = 101; rw [e1, Nat.eq_of_beq_eq_true hc]; rfl, h1, by show i < W.2 a; rw [e2]; exact h2⟩ (hB nx (mle_rf hnx) _ _ _ _ _ _ hL (oki hS.2.2) hd h3)
    · exact h.elim
  · split at h
    · rename_i i t a S0
      cases hc : (Nat.beq (tk t) 102 || Nat.beq (tk t) 103) with
      | false => rw [hc] at h; exact h.elim
      | true =>
        rw [hc] at h
        obtain ⟨⟨h1, h2⟩, h3⟩ := h
        obtain ⟨e0, e1, e2⟩ := trow hS.2.1 (by have := tbb hc; omega)
        exact And.intro ⟨by show W.1 a = 102 ∨ W.1 a = 103; rw [e1]; have := tbb hc; omega, h1, by show i < W.2 a; rw [e2]; exact h2⟩ (hB nx (mle_rf hnx) _ _ _ _ _ _ hL (oki hS.2.2) hd h3)
    · exact h.elim
  · split at h
    · rename_i i t a S0
      cases hc : Nat.ble 200 (tk t) with
      | false => rw [hc] at h; exact h.elim
      | true =>
        rw [hc] at h
        obtain ⟨⟨h1, h2⟩, h3⟩ := h
        have hk := Nat.le_of_ble_eq_true hc
        obtain ⟨e0, e1, e2⟩ := trow hS.2.1 (by omega)
        obtain ⟨g1, g2⟩ := hd.2 a t i hS.2.1 hk h1 h2
        refine And.intro ⟨by show 200 ≤ W.1 a; rw [e1]; omega, h1, by show i < W.2 a; rw [e2]; exact h2⟩ ?_
        have k := hB nx (mle_rf hnx) (pc + 1) _ (.inr (tec t, a + (teb t + tes t * i)) :: S0) c s d hL (okc g2 hS.2.2) hd h3
        rw [g1]
        exact k
    · exact h.elim
  · split at h
    · rename_i v i t a S0
      cases hc : Nat.beq (tk t) 100 with
      | false => rw [hc] at h; exact h.elim
      | true =>
        rw [hc] at h
        obtain ⟨⟨h1, h2⟩, h3⟩ := h
        have hk := Nat.eq_of_beq_eq_true hc
        obtain ⟨e0, e1, e2⟩ := trow hS.2.2.1 (by omega)
        exact And.intro ⟨by show W.1 a = 100; rw [e1, hk]; rfl, h1, by show i < W.2 a; rw [e2]; exact h2⟩ (hB nx (mle_rf hnx) _ _ _ _ _ _ hL hS.2.2.2 (hd.setA e1 (by omega) (by omega)) h3)
    · exact h.elim
  · split at h
    · rename_i v i t a S0
      cases hc : Nat.beq (tk t) 101 with
      | false => rw [hc] at h; exact h.elim
      | true =>
        rw [hc] at h
        obtain ⟨⟨h1, h2⟩, h3⟩ := h
        have hk := Nat.eq_of_beq_eq_true hc
        obtain ⟨e0, e1, e2⟩ := trow hS.2.2.1 (by omega)
        exact And.intro ⟨by show W.1 a = 101; rw [e1, hk]; rfl, h1, by show i < W.2 a; rw [e2]; exact h2⟩ (hB nx (mle_rf hnx) _ _ _ _ _ _ hL hS.2.2.2 (hd.setA e1 (by omega) (by omega)) h3)
    · exact h.elim
  · split at h
    · rename_i v i t a S0
      cases hc : Nat.beq (tk t) 102 with
      | true =>
        rw [hc] at h
        obtain ⟨⟨h0, h1, h2⟩, h3⟩ := h
        have hk := Nat.eq_of_beq_eq_true hc
        obtain ⟨e0, e1, e2⟩ := trow hS.2.2.1 (by omega)
        exact And.intro ⟨Or.inl ⟨by show W.1 a = 102; rw [e1, hk]; rfl, h0.1, h0.2⟩, h1, by show i < W.2 a; rw [e2]; exact h2⟩ (hB nx (mle_rf hnx) _ _ _ _ _ _ hL hS.2.2.2 (hd.setA e1 (by omega) (by omega)) h3)
      | false =>
        rw [hc] at h
        dsimp only [cond] at h
        cases hc2 : Nat.beq (tk t) 103 with
        | false => rw [hc2] at h; exact h.elim
        | true =>
          rw [hc2] at h
          obtain ⟨⟨h0, h1, h2⟩, h3⟩ := h
          have hk := Nat.eq_of_beq_eq_true hc2
          obtain ⟨e0, e1, e2⟩ := trow hS.2.2.1 (by omega)
          exact And.intro ⟨Or.inr ⟨by show W.1 a = 103; rw [e1, hk]; rfl, h0⟩, h1, by show i < W.2 a; rw [e2]; exact h2⟩ (hB nx (mle_rf hnx) _ _ _ _ _ _ hL hS.2.2.2 (hd.setA e1 (by omega) (by omega)) h3)
    · exact h.elim
  · unfold tif troomT at h
    cases hc : (Nat.blt 5 (mdep m) && Nat.ble (tcats S + 82) (mneed m) && Nat.ble (c + 1) (mmc m) && Nat.ble (s + 6) (mms m)) with
    | false => rw [hc] at h; exact h.elim
    | true =>
      rw [hc] at h
      simp only [Bool.and_eq_true] at hc
      obtain ⟨⟨⟨c1, c2⟩, c3⟩, c4⟩ := hc
      exact And.intro ⟨⟨by simpa only [Nat.blt_eq] using c1, by rw [tcats_map]; exact Nat.le_of_ble_eq_true c2, Nat.le_of_ble_eq_true c3, Nat.le_of_ble_eq_true c4⟩, hnx.1⟩ (fun nx2 n1 n2 => hK _ _ _ ⟨n1, n2⟩ hd h)
  · rename_i j
    split at h
    · rename_i as S0 hp
      have p1 : mpop (mnp j) (S.map mcv) [] = _ := tpop_map _ _ _ hp
      have ⟨ha, hS0⟩ := ok_pop (as := []) _ hS True.intro hp
      simp only [mX, p1]
      unfold tif troom at h
      cases hc : (mroom m j && Nat.ble (tlay as).length (mmaxL j) && Nat.ble (tcats S0) 8 && trecv j as) with
      | false => rw [hc] at h; exact h.elim
      | true =>
        rw [hc] at h
        dsimp only [cond] at h
        cases hc2 : (Nat.ble (c + mmc j) (mmc m) && Nat.ble (s + mms j) (mms m)) with
        | false => rw [hc2] at h; exact h.elim
        | true =>
          rw [hc2] at h
          dsimp only [cond] at h
          simp only [Bool.and_eq_true] at hc hc2
          obtain ⟨⟨⟨c1, c2⟩, c3⟩, c4⟩ := hc
          refine And.intro ⟨⟨c1, by rw [tlay_map, List.length_map]; exact c2, by rw [tcats_map]; exact Nat.le_of_ble_eq_true c3, Nat.le_of_ble_eq_true hc2.1, Nat.le_of_ble_eq_true hc2.2⟩, trecv_ok ha c4⟩ ?_
          refine hC j as d _ ha hd h _ (fun r nx' d' hle hd' hr => ?_)
          exact tback_ok hL hS0 (hB nx' hle) (fun r d' => hK r nx' d' hle) hd' hr
    · exact h.elim
  · rename_i j
    split at h
    · rename_i t a S0
      obtain ⟨c1, h⟩ := tif_ok h
      exact And.intro ⟨hS.1.1.1, troomN_ok c1⟩ (hB nx (mle_rf hnx) _ _ _ _ _ _ hL hS.2 hd h)
    · obtain ⟨c1, h⟩ := tif_ok h
      exact And.intro ⟨h.1.1, h.1.2, troomN_ok c1⟩ (hB nx (mle_rf hnx) _ _ _ _ _ _ hL (oki hS.2.2) hd h.2)
    · obtain ⟨c1, h⟩ := tif_ok h
      exact And.intro ⟨h.1.1, h.1.2, troomN_ok c1⟩ (hB nx (mle_rf hnx) _ _ _ _ _ _ hL (oki hS.2.2) hd h.2)
    · rename_i n dp ty y sp tx x S0
      cases hz : Nat.beq (tk tx) 103 with
      | true =>
        rw [hz] at h
        have c2 := Nat.eq_of_beq_eq_true hz
        have h := tif_ok h
        obtain ⟨c1, h⟩ := h
        simp only [Bool.and_eq_true] at c1
        obtain ⟨⟨⟨c1, c3⟩, c4⟩, c5⟩ := c1
        obtain ⟨⟨h1, h2, h3, h4, h5, h7⟩, h6⟩ := h
        have c3 := Nat.eq_of_beq_eq_true c3
        obtain ⟨y0, y1, y2⟩ := trow hS.2.2.1 (by omega)
        obtain ⟨x0, x1, x2⟩ := trow hS.2.2.2.2.1 (by omega)
        have bx : tl tx ≤ 100000 := of_decide_eq_true c4
        have by_ : tl ty ≤ 100000 := of_decide_eq_true c5
        refine And.intro ⟨by show W.1 x = 100 ∨ W.1 x = 101 ∨ W.1 x = 102 ∨ W.1 x = 103; rw [x1]; omega, by show W.1 y = W.1 x; rw [y1, x1, c3], h1, h2, h3, by omega, by omega, by omega, by show sp + n ≤ W.2 x; rw [x2]; exact h4, by show dp + n ≤ W.2 y; rw [y2]; exact h5, troomN_ok c1, fun w => by have w : W.1 x = 102 := w; omega, fun _ => h7⟩ ?_
        exact hB nx (mle_rf hnx) _ _ _ _ _ _ hL hS.2.2.2.2.2 (hd.cpyA y1 (by omega) (by omega)) h6
      | false =>
        rw [hz] at h
        dsimp only [cond] at h
        obtain ⟨c1, h⟩ := tif_ok h
        simp only [Bool.and_eq_true, Bool.or_eq_true] at c1
        obtain ⟨⟨⟨⟨c1, c2⟩, c3⟩, c4⟩, c5⟩ := c1
        obtain ⟨⟨h1, h2, h3, h4, h5⟩, h6⟩ := h
        have c2 : tk tx = 100 ∨ tk tx = 101 := c2.imp Nat.eq_of_beq_eq_true Nat.eq_of_beq_eq_true
        have c3 := Nat.eq_of_beq_eq_true c3
        obtain ⟨y0, y1, y2⟩ := trow hS.2.2.1 (by omega)
        obtain ⟨x0, x1, x2⟩ := trow hS.2.2.2.2.1 (by omega)
        have bx : tl tx ≤ 100000 := of_decide_eq_true c4
        have by_ : tl ty ≤ 100000 := of_decide_eq_true c5
        refine And.intro ⟨by show W.1 x = 100 ∨ W.1 x = 101 ∨ W.1 x = 102 ∨ W.1 x = 103; rw [x1]; omega, by show W.1 y = W.1 x; rw [y1, x1, c3], h1, h2, h3, by omega, by omega, by omega, by show sp + n ≤ W.2 x; rw [x2]; exact h4, by show dp + n ≤ W.2 y; rw [y2]; exact h5, troomN_ok c1, fun w => by have w : W.1 x = 102 := w; omega, fun w => by have w : W.1 x = 103 := w; omega⟩ ?_
        exact hB nx (mle_rf hnx) _ _ _ _ _ _ hL hS.2.2.2.2.2 (hd.cpyA y1 (by omega) (by omega)) h6
    · obtain ⟨c1, h⟩ := tif_ok h
      exact And.intro ⟨⟨h.1.1, Int.lt_trans h.1.2 (by decide)⟩, troomS_ok c1⟩ (hB nx (mle_rf hnx) _ _ _ _ _ _ hL (oki hS.2) hd h.2)
    · obtain ⟨c1, h⟩ := tif_ok h
      exact And.intro ⟨⟨h.1.1, Int.lt_trans h.1.2.1 (by decide), h.1.2.2⟩, troomS_ok c1⟩ (hB nx (mle_rf hnx) _ _ _ _ _ _ hL (oki hS.2.2) hd h.2)
    · exact h.elim
  · split at h
    · obtain ⟨h1, h2⟩ := tret1_ok h
      exact And.intro h1 (hK _ _ _ (mle_rf hnx) hd h2)
    · exact h.elim
  · split at h
    · obtain ⟨h1, h2⟩ := tif_ok h
      exact And.intro (Nat.eq_of_beq_eq_true h1) (hK _ _ _ (mle_rf hnx) hd h2)
    · exact h.elim
  · split at h
    · obtain ⟨h1, h2⟩ := tif_ok h
      exact And.intro (Nat.eq_of_beq_eq_true h1) (hK _ _ _ (mle_rf hnx) hd h2)
    · exact h.elim
  · split at h
    · obtain ⟨h1, h2⟩ := tif_ok h
      exact And.intro (Nat.eq_of_beq_eq_true h1) (hK _ _ _ (mle_rf hnx) hd h2)
    · exact h.elim
  · exact h.elim
end TS
-- the next cell is a new one, if there is a new one at all
def mfr (W : tW) (nx : Int) : Prop := ∀ a, 0 ≤ W.1 a → mtau a < mtau nx
def mfq (W : tW) (nx : Int) : Prop := mreal nx ∧ ((∃ z, mfr W z) → mfr W nx)
theorem mfq.le {W : tW} {nx nx' : Int} (h : mfq W nx) (hl : mle nx nx') : mfq W nx' := ⟨hl.1, fun z a ha => Nat.lt_of_lt_of_le (h.2 z a ha) hl.2⟩
theorem mfq_ex (W : tW) : ∃ nx, mfq W nx := by
  by_cases h : ∃ z, mfr W z
  · obtain ⟨z, hz⟩ := h
    obtain ⟨h1, h2⟩ := msig_tau (mtau z)
    exact ⟨msig (mtau z), h1, fun _ a ha => by rw [h2]; exact hz a ha⟩
  · exact ⟨0, ⟨by decide, Or.inl (by decide)⟩, fun z => absurd z h⟩
-- the cells' shape holds, and places are what they say: then a run
def tRun (E : mO × tW) (m : Nat) : tSt → tK → Prop
  | (pc, L, S, c, s, d), K => ∀ (nx : Int) (Kc : mK), mfq E.2 nx → tokL E.2 L → tokL E.2 S → tSh E.2 d → (∀ r nx' d', mle nx nx' → tSh E.2 d' → K r d' → Kc r (E.2.1, E.2.2, nx') d') → mRun E.1 m (pc, L.map mcv, S.map mcv, c, s, (E.2.1, E.2.2, nx), d) Kc
def tCall (E : mO × tW) (j : Nat) (as : List tV) (d : mD) (K : tK) : Prop := tRun E j (tent j as d) K
-- behind a call
def tbk (E : mO × tW) (m pc : Nat) (L S : List tV) (c s : Nat) (K : tK) : tK := tback m pc L S c s (fun st => tRun E m st K) K
theorem tRun_mono {E : mO × tW} {m : Nat} {st : tSt} {K K2 : tK} (h : tRun E m st K) (hk : ∀ r d, K r d → K2 r d) : tRun E m st K2 := by
  obtain ⟨pc, L, S, c, s, d⟩ := st
  exact fun nx Kc hn hL hS hd hK => h nx Kc hn hL hS hd (fun r nx' d' hle hd' hr => hK r nx' d' hle hd' (hk r d' hr))
theorem tRun_in {E : mO × tW} {m : Nat} {st : tSt} {K : tK} {B : tSt → Prop} (hB : ∀ st, B st → tRun E m st K) (h : tstp E.1 B (fun j as d K' => tCall E j as d K') m K st) : tRun E m st K := by
  obtain ⟨pc, L, S, c, s, d⟩ := st
  intro nx Kc hnx hL hS hd hK
  simp only [tstp] at h
  split at h
  · rename_i i len hf
    refine mRun_in ?_
    simp only [mstp, hf]
    refine tX_ok (B := B) (B' := fun st => mRun E.1 m st Kc) (C := fun j as d K' => tCall E j as d K') (C' := fun j as G d K' => mCall E.1 j as G d K') hnx.1 hL hS hd (fun nx' hle pc L S c s d hL hS hd hb => ?_) (fun j as d K' ha hd hc Kc' hk => ?_) hK h
    · exact hB _ hb nx' Kc (hnx.le hle) hL hS hd (fun r nx2 d' h2 => hK r nx2 d' (mle_tr hle h2))
    · have k := hc nx Kc' hnx (ok_pad _ (ok_lay ha)) trivial hd hk
      show mRun E.1 j (0, mloc j (as.map mcv), [], 0, 0, (E.2.1, E.2.2, nx), d) Kc'
      unfold mloc
      rw [tlay_map, tpad_map]
      exact k
  · exact h.elim
def tin : List Nat → Nat → Bool
  | [], _ => false
  | a :: l, b => bif Nat.beq a b then true else tin l b
-- steps up to these places
def tT (E : mO × tW) (m : Nat) (K : tK) (cut : List Nat) : Nat → tSt → Prop
  | 0, st => tRun E m st K
  | n + 1, st => tstp E.1 (fun st => bif tin cut st.1 then tRun E m st K else tT E m K cut n st) (fun j as d K' => tCall E j as d K') m K st
theorem tT_run {E : mO × tW} {m : Nat} {K : tK} {cut : List Nat} : ∀ (n : Nat) (st : tSt), tT E m K cut n st → tRun E m st K
  | 0, _, h => h
  | n + 1, st, h => tRun_in (fun st k => by
      cases hc : tin cut st.1 with
      | true => rw [hc] at k; exact k
      | false => rw [hc] at k; exact tT_run n st k) h
/-! ===== pieces of the methods between cuts: printed by a program of mine ===== -/
theorem t_2_0 {E : mO × tW} {K : tK} {d : mD} {x0 x1 : Int}
  (h : (0 ≤ d x0 1 ∧ d x0 1 < 8) ∧ tCall E 59 [.inr (6, x0 + 1 + (1 + 63 * (d x0 1))), .inr (6, x1)] d (tbk E 2 10 [.inr (0, x0), .inr (6, x1)] [] 0 0 K)) :
  tRun E 2 (0, [.inr (0, x0), .inr (6, x1)], [], 0, 0, d) K := tT_run (cut := [0, 13]) 7 _ h
theorem t_2_13 {E : mO × tW} {K : tK} {d : mD} {x0 x1 : Int}
  (h : (0 ≤ (d x0 1) + 1 ∧ (d x0 1) + 1 ≤ 2147483647 ∧ 0 < (8 : Int) ∧ (8 : Int) ≤ 2147483647) ∧ (mInR 8 ∧ mInR (((mset d x0 1 (((d x0 1) + 1) % 8)) x0 2) + 1)) ∧ K (.inl none) (mset (mset d x0 1 (((d x0 1) + 1) % 8)) x0 2 (mmin 8 (((mset d x0 1 (((d x0 1) + 1) % 8)) x0 2) + 1)))) :
  tRun E 2 (13, [.inr (0, x0), .inr (6, x1)], [], 0, 0, d) K := tT_run (cut := [0, 13]) 17 _ h
theorem t_3_0 {E : mO × tW} {K : tK} {d : mD} {x0 x1 : Int}
  (h : (0 ≤ ((d x0 1) + 8) - 1 ∧ ((d x0 1) + 8) - 1 ≤ 2147483647 ∧ 0 < (8 : Int) ∧ (8 : Int) ≤ 2147483647) ∧ (0 ≤ (mset (mset d x0 1 ((((d x0 1) + 8) - 1) % 8)) x0 2 (((mset d x0 1 ((((d x0 1) + 8) - 1) % 8)) x0 2) - 1)) x0 1 ∧ (mset (mset d x0 1 ((((d x0 1) + 8) - 1) % 8)) x0 2 (((mset d x0 1 ((((d x0 1) + 8) - 1) % 8)) x0 2) - 1)) x0 1 < 8) ∧ tCall E 59 [.inr (6, x1), .inr (6, x0 + 1 + (1 + 63 * ((mset (mset d x0 1 ((((d x0 1) + 8) - 1) % 8)) x0 2 (((mset d x0 1 ((((d x0 1) + 8) - 1) % 8)) x0 2) - 1)) x0 1)))] (mset (mset d x0 1 ((((d x0 1) + 8) - 1) % 8)) x0 2 (((mset d x0 1 ((((d x0 1) + 8) - 1) % 8)) x0 2) - 1)) (tbk E 3 36 [.inr (0, x0), .inr (6, x1)] [] 0 0 K)) :
  tRun E 3 (0, [.inr (0, x0), .inr (6, x1)], [], 0, 0, d) K := tT_run (cut := [0, 39]) 23 _ h
theorem t_3_39 {E : mO × tW} {K : tK} {d : mD} {x0 x1 : Int}
  (h : K (.inl none) d) :
  tRun E 3 (39, [.inr (0, x0), .inr (6, x1)], [], 0, 0, d) K := tT_run (cut := [0, 39]) 1 _ h
theorem t_4_0 {E : mO × tW} {K : tK} {d : mD} {x0 : Int}
  (h : K (.inl none) (mset d x0 2 0)) :
  tRun E 4 (0, [.inr (0, x0)], [], 0, 0, d) K := tT_run (cut := [0]) 4 _ h
theorem t_6_0 {E : mO × tW} {K : tK} {d : mD} {x0 x1 : Int}
  (h : mInR x1 ∧ (x1 < 0 → ((0 : Int) = 0 ∨ (0 : Int) = 1) ∧ K (.inl (some (0, 0))) d) ∧ (0 ≤ x1 → (mInR x1 ∧ mInR 999) ∧ (999 < x1 → ((0 : Int) = 0 ∨ (0 : Int) = 1) ∧ K (.inl (some (0, 0))) d) ∧ (x1 ≤ 999 → (0 ≤ mishr x1 6 ∧ mishr x1 6 < 16) ∧ (mInL (mland (mlushr (d (x0 + 1) (mishr x1 6)) (miand x1 63)) 1) ∧ mInL 0) ∧ mInR (mcmp (mland (mlushr (d (x0 + 1) (mishr x1 6)) (miand x1 63)) 1) 0) ∧ (mcmp (mland (mlushr (d (x0 + 1) (mishr x1 6)) (miand x1 63)) 1) 0 = 0 → ((0 : Int) = 0 ∨ (0 : Int) = 1) ∧ K (.inl (some (0, 0))) d) ∧ (¬ mcmp (mland (mlushr (d (x0 + 1) (mishr x1 6)) (miand x1 63)) 1) 0 = 0 → ((1 : Int) = 0 ∨ (1 : Int) = 1) ∧ K (.inl (some (0, 1))) d)))) :
  tRun E 6 (0, [.inr (1, x0), .inl (0, x1)], [], 0, 0, d) K := tT_run (cut := [0]) 23 _ h
theorem t_7_0 {E : mO × tW} {K : tK} {d : mD} {x0 x1 : Int}
  (h : mInR x1 ∧ (x1 < 0 → K (.inl none) d) ∧ (0 ≤ x1 → (mInR x1 ∧ mInR 999) ∧ (999 < x1 → K (.inl none) d) ∧ (x1 ≤ 999 → (0 ≤ mishr x1 6 ∧ mishr x1 6 < 16) ∧ (0 ≤ mishr x1 6 ∧ mishr x1 6 < 16) ∧ K (.inl none) (mset d (x0 + 1) (mishr x1 6) (mlor (d (x0 + 1) (mishr x1 6)) (mlshl 1 (miand x1 63))))))) :
  tRun E 7 (0, [.inr (1, x0), .inl (0, x1)], [], 0, 0, d) K := tT_run (cut := [0]) 20 _ h
theorem t_8_0 {E : mO × tW} {K : tK} {d : mD} {x0 : Int}
  (h : tCall E 300 [.inr (20, x0 + 1), .inl (1, 0)] d (tbk E 8 5 [.inr (1, x0)] [] 0 0 K)) :
  tRun E 8 (0, [.inr (1, x0)], [], 0, 0, d) K := tT_run (cut := [0, 8]) 4 _ h
theorem t_8_8 {E : mO × tW} {K : tK} {d : mD} {x0 : Int}
  (h : K (.inl none) d) :
  tRun E 8 (8, [.inr (1, x0)], [], 0, 0, d) K := tT_run (cut := [0, 8]) 1 _ h
theorem t_9_0 {E : mO × tW} {K : tK} {d : mD} {x0 : Int}
  (h : tRun E 9 (4, [.inr (1, x0), .inl (0, 0), .inl (0, 0)], [], 0, 0, d) K) :
  tRun E 9 (0, [.inr (1, x0), tu, tu], [], 0, 0, d) K := tT_run (cut := [0, 4, 20]) 4 _ h
theorem t_9_4 {E : mO × tW} {K : tK} {d : mD} {x0 x1 x2 : Int}
  (h : (mInR x2 ∧ mInR 16) ∧ (16 ≤ x2 → K (.inl (some (0, x1))) d) ∧ (x2 < 16 → (0 ≤ x2 ∧ x2 < 16) ∧ tCall E 297 [.inl (1, d (x0 + 1) x2)] d (tbk E 9 17 [.inr (1, x0), .inl (0, x1), .inl (0, x2)] [.inl (0, x1)] 0 0 K))) :
  tRun E 9 (4, [.inr (1, x0), .inl (0, x1), .inl (0, x2)], [], 0, 0, d) K := tT_run (cut := [0, 4, 20]) 9 _ h
theorem t_9_20 {E : mO × tW} {K : tK} {d : mD} {x0 x1 x2 y0 y1 : Int}
  (h : tRun E 9 (4, [.inr (1, x0), .inl (0, y0 + y1), .inl (0, x2 + 1)], [], 0, 0, d) K) :
  tRun E 9 (20, [.inr (1, x0), .inl (0, x1), .inl (0, x2)], [.inl (0, y1), .inl (0, y0)], 0, 0, d) K := tT_run (cut := [0, 4, 20]) 4 _ h
theorem t_10_0 {E : mO × tW} {K : tK} {d : mD} {x0 x1 : Int}
  (h : tRun E 10 (4, [.inr (1, x0), .inr (1, x1), .inl (0, 0), .inl (0, 0)], [], 0, 0, d) K) :
  tRun E 10 (0, [.inr (1, x0), .inr (1, x1), tu, tu], [], 0, 0, d) K := tT_run (cut := [0, 4, 31]) 4 _ h
theorem t_10_4 {E : mO × tW} {K : tK} {d : mD} {x0 x1 x2 x3 : Int}
  (h : (mInR x3 ∧ mInR 16) ∧ (16 ≤ x3 → K (.inl (some (0, x2))) d) ∧ (x3 < 16 → (0 ≤ x3 ∧ x3 < 16) ∧ (0 ≤ x3 ∧ x3 < 16) ∧ tCall E 297 [.inl (1, mland (d (x0 + 1) x3) (mlxor (d (x1 + 1) x3) ((-1))))] d (tbk E 10 28 [.inr (1, x0), .inr (1, x1), .inl (0, x2), .inl (0, x3)] [.inl (0, x2)] 0 0 K))) :
  tRun E 10 (4, [.inr (1, x0), .inr (1, x1), .inl (0, x2), .inl (0, x3)], [], 0, 0, d) K := tT_run (cut := [0, 4, 31]) 16 _ h
theorem t_10_31 {E : mO × tW} {K : tK} {d : mD} {x0 x1 x2 x3 y0 y1 : Int}
  (h : tRun E 10 (4, [.inr (1, x0), .inr (1, x1), .inl (0, y0 + y1), .inl (0, x3 + 1)], [], 0, 0, d) K) :
  tRun E 10 (31, [.inr (1, x0), .inr (1, x1), .inl (0, x2), .inl (0, x3)], [.inl (0, y1), .inl (0, y0)], 0, 0, d) K := tT_run (cut := [0, 4, 31]) 4 _ h
theorem t_11_0 {E : mO × tW} {K : tK} {d : mD} {x0 x1 : Int}
  (h : (0 ≤ (0 : Int) ∧ 0 ≤ (0 : Int) ∧ 0 ≤ (16 : Int) ∧ (0 : Int) + (16 : Int) ≤ 16 ∧ (0 : Int) + (16 : Int) ≤ 16) ∧ K (.inl none) (mcopy d (x1 + 1) 0 (x0 + 1) 0 16)) :
  tRun E 11 (0, [.inr (1, x0), .inr (1, x1)], [], 0, 0, d) K := tT_run (cut := [0]) 9 _ h
theorem t_13_0 {E : mO × tW} {K : tK} {d : mD} {x0 : Int}
  (h : tCall E 58 [.inr (6, x0 + 4)] (mset (mset d x0 2 0) x0 3 ((-1))) (tbk E 13 14 [.inr (2, x0)] [] 0 0 K)) :
  tRun E 13 (0, [.inr (2, x0)], [], 0, 0, d) K := tT_run (cut := [0, 17, 24]) 9 _ h
theorem t_13_17 {E : mO × tW} {K : tK} {d : mD} {x0 : Int}
  (h : tCall E 51 [.inr (5, x0 + 1)] d (tbk E 13 21 [.inr (2, x0)] [] 0 0 K)) :
  tRun E 13 (17, [.inr (2, x0)], [], 0, 0, d) K := tT_run (cut := [0, 17, 24]) 3 _ h
theorem t_13_24 {E : mO × tW} {K : tK} {d : mD} {x0 : Int}
  (h : K (.inl none) d) :
  tRun E 13 (24, [.inr (2, x0)], [], 0, 0, d) K := tT_run (cut := [0, 17, 24]) 1 _ h
theorem t_14_0 {E : mO × tW} {K : tK} {d : mD} {x0 : Int}
  (h : tCall E 24 [.inr (2, x0), .inl (5, 0)] d (tbk E 14 3 [.inr (2, x0), tu] [] 0 0 K)) :
  tRun E 14 (0, [.inr (2, x0), tu], [], 0, 0, d) K := tT_run (cut := [0, 6, 13, 32, 63, 83]) 3 _ h
theorem t_14_6 {E : mO × tW} {K : tK} {d : mD} {x0 y0 : Int}
  (h : mInR y0 ∧ (¬ y0 = 0 → tRun E 14 (13, [.inr (2, x0), .inl (0, 0)], [], 0, 0, d) K) ∧ (y0 = 0 → ((0 : Int) = 0 ∨ (0 : Int) = 1) ∧ K (.inl (some (0, 0))) d)) :
  tRun E 14 (6, [.inr (2, x0), tu], [.inl (0, y0)], 0, 0, d) K := tT_run (cut := [0, 6, 13, 32, 63, 83]) 3 _ h
theorem t_14_13 {E : mO × tW} {K : tK} {d : mD} {x0 x1 : Int}
  (h : (mInR x1 ∧ mInR 5) ∧ (5 ≤ x1 → tCall E 25 [.inr (2, x0), .inl (0, 0), .inl (0, 99999)] d (tbk E 14 60 [.inr (2, x0), .inl (0, x1)] [] 0 0 K)) ∧ (x1 < 5 → (0 ≤ x1 ∧ x1 < E.1.1 0) ∧ (0 ≤ x1 ∧ x1 < E.1.1 1) ∧ tCall E 25 [.inr (2, x0), .inl (0, E.1.2 0 x1), .inl (0, E.1.2 1 x1)] d (tbk E 14 29 [.inr (2, x0), .inl (0, x1)] [] 0 0 K))) :
  tRun E 14 (13, [.inr (2, x0), .inl (0, x1)], [], 0, 0, d) K := tT_run (cut := [0, 6, 13, 32, 63, 83]) 11 _ h
theorem t_14_32 {E : mO × tW} {K : tK} {d : mD} {x0 x1 y0 : Int}
  (h : mInR y0 ∧ (¬ y0 = 0 → (0 ≤ x1 ∧ x1 < 5) ∧ tRun E 14 (13, [.inr (2, x0), .inl (0, x1 + 1)], [], 0, 0, mset d (x0 + 4 + 1) x1 (d x0 4)) K) ∧ (y0 = 0 → ((0 : Int) = 0 ∨ (0 : Int) = 1) ∧ K (.inl (some (0, 0))) d)) :
  tRun E 14 (32, [.inr (2, x0), .inl (0, x1)], [.inl (0, y0)], 0, 0, d) K := tT_run (cut := [0, 6, 13, 32, 63, 83]) 10 _ h
theorem t_14_63 {E : mO × tW} {K : tK} {d : mD} {x0 x1 y0 : Int}
  (h : mInR y0 ∧ (¬ y0 = 0 → tCall E 31 [.inr (2, x0)] (mset d (x0 + 4) 1 (d x0 4)) (tbk E 14 80 [.inr (2, x0), .inl (0, x1)] [] 0 0 K)) ∧ (y0 = 0 → ((0 : Int) = 0 ∨ (0 : Int) = 1) ∧ K (.inl (some (0, 0))) d)) :
  tRun E 14 (63, [.inr (2, x0), .inl (0, x1)], [.inl (0, y0)], 0, 0, d) K := tT_run (cut := [0, 6, 13, 32, 63, 83]) 8 _ h
theorem t_14_83 {E : mO × tW} {K : tK} {d : mD} {x0 x1 y0 : Int}
  (h : (y0 = 0 ∨ y0 = 1) ∧ K (.inl (some (0, y0))) d) :
  tRun E 14 (83, [.inr (2, x0), .inl (0, x1)], [.inl (0, y0)], 0, 0, d) K := tT_run (cut := [0, 6, 13, 32, 63, 83]) 1 _ h
theorem t_15_0 {E : mO × tW} {K : tK} {d : mD} {x0 : Int}
  (h : tCall E 55 [.inr (5, x0 + 1), .inl (5, 1)] d (tbk E 15 6 [.inr (2, x0), tu] [] 0 0 K)) :
  tRun E 15 (0, [.inr (2, x0), tu], [], 0, 0, d) K := tT_run (cut := [0, 9, 17, 20, 35, 42]) 4 _ h
theorem t_15_9 {E : mO × tW} {K : tK} {d : mD} {x0 y0 : Int}
  (h : mInR y0 ∧ (¬ y0 = 0 → tRun E 15 (20, [.inr (2, x0), .inl (0, 0)], [], 0, 0, d) K) ∧ (y0 = 0 → tCall E 32 [.inr (2, x0), .inl (0, 1)] d (tbk E 15 14 [.inr (2, x0), tu] [] 0 0 K))) :
  tRun E 15 (9, [.inr (2, x0), tu], [.inl (0, y0)], 0, 0, d) K := tT_run (cut := [0, 9, 17, 20, 35, 42]) 4 _ h
theorem t_15_17 {E : mO × tW} {K : tK} {d : mD} {x0 y0 : Int}
  (h : (y0 = 0 ∨ y0 = 1) ∧ K (.inl (some (0, y0))) d) :
  tRun E 15 (17, [.inr (2, x0), tu], [.inl (0, y0)], 0, 0, d) K := tT_run (cut := [0, 9, 17, 20, 35, 42]) 1 _ h
theorem t_15_20 {E : mO × tW} {K : tK} {d : mD} {x0 x1 : Int}
  (h : (mInR x1 ∧ mInR 6) ∧ (6 < x1 → ((1 : Int) = 0 ∨ (1 : Int) = 1) ∧ K (.inl (some (0, 1))) d) ∧ (x1 ≤ 6 → tCall E 55 [.inr (5, x0 + 1), .inl (5, 1)] d (tbk E 15 32 [.inr (2, x0), .inl (0, x1)] [] 0 0 K))) :
  tRun E 15 (20, [.inr (2, x0), .inl (0, x1)], [], 0, 0, d) K := tT_run (cut := [0, 9, 17, 20, 35, 42]) 7 _ h
theorem t_15_35 {E : mO × tW} {K : tK} {d : mD} {x0 x1 y0 : Int}
  (h : mInR y0 ∧ (y0 = 0 → ((1 : Int) = 0 ∨ (1 : Int) = 1) ∧ K (.inl (some (0, 1))) d) ∧ (¬ y0 = 0 → tCall E 16 [.inr (2, x0)] d (tbk E 15 39 [.inr (2, x0), .inl (0, x1)] [] 0 0 K))) :
  tRun E 15 (35, [.inr (2, x0), .inl (0, x1)], [.inl (0, y0)], 0, 0, d) K := tT_run (cut := [0, 9, 17, 20, 35, 42]) 3 _ h
theorem t_15_42 {E : mO × tW} {K : tK} {d : mD} {x0 x1 y0 : Int}
  (h : mInR y0 ∧ (¬ y0 = 0 → tRun E 15 (20, [.inr (2, x0), .inl (0, x1 + 1)], [], 0, 0, d) K) ∧ (y0 = 0 → ((0 : Int) = 0 ∨ (0 : Int) = 1) ∧ K (.inl (some (0, 0))) d)) :
  tRun E 15 (42, [.inr (2, x0), .inl (0, x1)], [.inl (0, y0)], 0, 0, d) K := tT_run (cut := [0, 9, 17, 20, 35, 42]) 3 _ h
theorem t_16_0 {E : mO × tW} {K : tK} {d : mD} {x0 : Int}
  (h : (mInR (d (x0 + 4 + 2) 0) ∧ mInR 6) ∧ (d (x0 + 4 + 2) 0 < 6 → tCall E 52 [.inr (5, x0 + 1)] d (tbk E 16 27 [.inr (2, x0), .inr (3, x0 + 4 + 2), tu, tu, tu] [] 0 0 K)) ∧ (6 ≤ d (x0 + 4 + 2) 0 → tCall E 32 [.inr (2, x0), .inl (0, 5)] d (tbk E 16 19 [.inr (2, x0), .inr (3, x0 + 4 + 2), tu, tu, tu] [] 0 0 K))) :
  tRun E 16 (0, [.inr (2, x0), tu, tu, tu, tu], [], 0, 0, d) K := tT_run (cut := [0, 22, 30, 37, 49, 52, 61, 66, 82, 99, 117, 124, 141]) 11 _ h
theorem t_16_22 {E : mO × tW} {K : tK} {d : mD} {x0 x1 y0 : Int}
  (h : (y0 = 0 ∨ y0 = 1) ∧ K (.inl (some (0, y0))) d) :
  tRun E 16 (22, [.inr (2, x0), .inr (3, x1), tu, tu, tu], [.inl (0, y0)], 0, 0, d) K := tT_run (cut := [0, 22, 30, 37, 49, 52, 61, 66, 82, 99, 117, 124, 141]) 1 _ h
theorem t_16_30 {E : mO × tW} {K : tK} {d : mD} {x0 x1 : Int}
  (h : tCall E 56 [.inr (5, x0 + 1)] d (tbk E 16 34 [.inr (2, x0), .inr (3, x1), tu, tu, tu] [] 0 0 K)) :
  tRun E 16 (30, [.inr (2, x0), .inr (3, x1), tu, tu, tu], [], 0, 0, d) K := tT_run (cut := [0, 22, 30, 37, 49, 52, 61, 66, 82, 99, 117, 124, 141]) 3 _ h
theorem t_16_37 {E : mO × tW} {K : tK} {d : mD} {x0 x1 y0 : Int}
  (h : (mInR y0 ∧ mInR ((-1))) ∧ (y0 = (-1) → tCall E 26 [.inr (2, x0)] d (tbk E 16 63 [.inr (2, x0), .inr (3, x1), tu, tu, tu] [] 0 0 K)) ∧ (¬ y0 = (-1) → tCall E 56 [.inr (5, x0 + 1)] d (tbk E 16 46 [.inr (2, x0), .inr (3, x1), tu, tu, tu] [.inr (3, x1)] 0 0 K))) :
  tRun E 16 (37, [.inr (2, x0), .inr (3, x1), tu, tu, tu], [.inl (0, y0)], 0, 0, d) K := tT_run (cut := [0, 22, 30, 37, 49, 52, 61, 66, 82, 99, 117, 124, 141]) 6 _ h
theorem t_16_49 {E : mO × tW} {K : tK} {d : mD} {x0 x1 y0 y1 : Int}
  (h : tCall E 36 [.inr (3, y0), .inl (0, y1)] d (tbk E 16 49 [.inr (2, x0), .inr (3, x1), tu, tu, tu] [] 0 0 K)) :
  tRun E 16 (49, [.inr (2, x0), .inr (3, x1), tu, tu, tu], [.inl (0, y1), .inr (3, y0)], 0, 0, d) K := tT_run (cut := [0, 22, 30, 37, 49, 52, 61, 66, 82, 99, 117, 124, 141]) 1 _ h
theorem t_16_52 {E : mO × tW} {K : tK} {d : mD} {x0 x1 y0 : Int}
  (h : (mInR y0 ∧ mInR ((-1))) ∧ (y0 = (-1) → tCall E 26 [.inr (2, x0)] d (tbk E 16 63 [.inr (2, x0), .inr (3, x1), tu, tu, tu] [] 0 0 K)) ∧ (¬ y0 = (-1) → tCall E 32 [.inr (2, x0), .inl (0, 3)] d (tbk E 16 58 [.inr (2, x0), .inr (3, x1), tu, tu, tu] [] 0 0 K))) :
  tRun E 16 (52, [.inr (2, x0), .inr (3, x1), tu, tu, tu], [.inl (0, y0)], 0, 0, d) K := tT_run (cut := [0, 22, 30, 37, 49, 52, 61, 66, 82, 99, 117, 124, 141]) 5 _ h
theorem t_16_61 {E : mO × tW} {K : tK} {d : mD} {x0 x1 y0 : Int}
  (h : (y0 = 0 ∨ y0 = 1) ∧ K (.inl (some (0, y0))) d) :
  tRun E 16 (61, [.inr (2, x0), .inr (3, x1), tu, tu, tu], [.inl (0, y0)], 0, 0, d) K := tT_run (cut := [0, 22, 30, 37, 49, 52, 61, 66, 82, 99, 117, 124, 141]) 1 _ h
theorem t_16_66 {E : mO × tW} {K : tK} {d : mD} {x0 x1 y0 : Int}
  (h : mInR y0 ∧ (¬ y0 = 0 → tCall E 25 [.inr (2, x0), .inl (0, 1), .inl (0, 4)] d (tbk E 16 79 [.inr (2, x0), .inr (3, x1), .inl (0, d x0 5), tu, tu] [] 0 0 K)) ∧ (y0 = 0 → ((0 : Int) = 0 ∨ (0 : Int) = 1) ∧ K (.inl (some (0, 0))) d)) :
  tRun E 16 (66, [.inr (2, x0), .inr (3, x1), tu, tu, tu], [.inl (0, y0)], 0, 0, d) K := tT_run (cut := [0, 22, 30, 37, 49, 52, 61, 66, 82, 99, 117, 124, 141]) 8 _ h
theorem t_16_82 {E : mO × tW} {K : tK} {d : mD} {x0 x1 x2 y0 : Int}
  (h : mInR y0 ∧ (¬ y0 = 0 → tCall E 25 [.inr (2, x0), .inl (0, 1), .inl (0, 6)] d (tbk E 16 96 [.inr (2, x0), .inr (3, x1), .inl (0, x2), .inl (0, d x0 4), tu] [] 0 0 K)) ∧ (y0 = 0 → ((0 : Int) = 0 ∨ (0 : Int) = 1) ∧ K (.inl (some (0, 0))) d)) :
  tRun E 16 (82, [.inr (2, x0), .inr (3, x1), .inl (0, x2), tu, tu], [.inl (0, y0)], 0, 0, d) K := tT_run (cut := [0, 22, 30, 37, 49, 52, 61, 66, 82, 99, 117, 124, 141]) 8 _ h
theorem t_16_99 {E : mO × tW} {K : tK} {d : mD} {x0 x1 x2 x3 y0 : Int}
  (h : mInR y0 ∧ (¬ y0 = 0 → tCall E 25 [.inr (2, x0), .inl (0, 1), .inl (0, 20)] d (tbk E 16 114 [.inr (2, x0), .inr (3, x1), .inl (0, x2), .inl (0, x3), .inl (0, d x0 4)] [] 0 0 K)) ∧ (y0 = 0 → ((0 : Int) = 0 ∨ (0 : Int) = 1) ∧ K (.inl (some (0, 0))) d)) :
  tRun E 16 (99, [.inr (2, x0), .inr (3, x1), .inl (0, x2), .inl (0, x3), tu], [.inl (0, y0)], 0, 0, d) K := tT_run (cut := [0, 22, 30, 37, 49, 52, 61, 66, 82, 99, 117, 124, 141]) 8 _ h
theorem t_16_117 {E : mO × tW} {K : tK} {d : mD} {x0 x1 x2 x3 x4 y0 : Int}
  (h : mInR y0 ∧ (y0 = 0 → ((0 : Int) = 0 ∨ (0 : Int) = 1) ∧ K (.inl (some (0, 0))) d) ∧ (¬ y0 = 0 → tCall E 31 [.inr (2, x0)] d (tbk E 16 121 [.inr (2, x0), .inr (3, x1), .inl (0, x2), .inl (0, x3), .inl (0, x4)] [] 0 0 K))) :
  tRun E 16 (117, [.inr (2, x0), .inr (3, x1), .inl (0, x2), .inl (0, x3), .inl (0, x4)], [.inl (0, y0)], 0, 0, d) K := tT_run (cut := [0, 22, 30, 37, 49, 52, 61, 66, 82, 99, 117, 124, 141]) 3 _ h
theorem t_16_124 {E : mO × tW} {K : tK} {d : mD} {x0 x1 x2 x3 x4 y0 : Int}
  (h : mInR y0 ∧ (¬ y0 = 0 → tCall E 35 [.inr (3, x1), .inl (0, x2), .inl (0, x3), .inl (0, x4), .inl (0, d x0 4)] d (tbk E 16 138 [.inr (2, x0), .inr (3, x1), .inl (0, x2), .inl (0, x3), .inl (0, x4)] [] 0 0 K)) ∧ (y0 = 0 → ((0 : Int) = 0 ∨ (0 : Int) = 1) ∧ K (.inl (some (0, 0))) d)) :
  tRun E 16 (124, [.inr (2, x0), .inr (3, x1), .inl (0, x2), .inl (0, x3), .inl (0, x4)], [.inl (0, y0)], 0, 0, d) K := tT_run (cut := [0, 22, 30, 37, 49, 52, 61, 66, 82, 99, 117, 124, 141]) 8 _ h
theorem t_16_141 {E : mO × tW} {K : tK} {d : mD} {x0 x1 x2 x3 x4 : Int}
  (h : ((1 : Int) = 0 ∨ (1 : Int) = 1) ∧ K (.inl (some (0, 1))) d) :
  tRun E 16 (141, [.inr (2, x0), .inr (3, x1), .inl (0, x2), .inl (0, x3), .inl (0, x4)], [], 0, 0, d) K := tT_run (cut := [0, 22, 30, 37, 49, 52, 61, 66, 82, 99, 117, 124, 141]) 2 _ h
theorem t_17_0 {E : mO × tW} {K : tK} {d : mD} {x0 : Int}
  (h : tRun E 17 (2, [.inr (2, x0), .inl (0, 0)], [], 0, 0, d) K) :
  tRun E 17 (0, [.inr (2, x0), tu], [], 0, 0, d) K := tT_run (cut := [0, 2, 17, 24]) 2 _ h
theorem t_17_2 {E : mO × tW} {K : tK} {d : mD} {x0 x1 : Int}
  (h : (mInR x1 ∧ mInR 16) ∧ (16 < x1 → ((1 : Int) = 0 ∨ (1 : Int) = 1) ∧ K (.inl (some (0, 1))) d) ∧ (x1 ≤ 16 → tCall E 55 [.inr (5, x0 + 1), .inl (5, 2)] d (tbk E 17 14 [.inr (2, x0), .inl (0, x1)] [] 0 0 K))) :
  tRun E 17 (2, [.inr (2, x0), .inl (0, x1)], [], 0, 0, d) K := tT_run (cut := [0, 2, 17, 24]) 7 _ h
theorem t_17_17 {E : mO × tW} {K : tK} {d : mD} {x0 x1 y0 : Int}
  (h : mInR y0 ∧ (y0 = 0 → ((1 : Int) = 0 ∨ (1 : Int) = 1) ∧ K (.inl (some (0, 1))) d) ∧ (¬ y0 = 0 → tCall E 18 [.inr (2, x0)] d (tbk E 17 21 [.inr (2, x0), .inl (0, x1)] [] 0 0 K))) :
  tRun E 17 (17, [.inr (2, x0), .inl (0, x1)], [.inl (0, y0)], 0, 0, d) K := tT_run (cut := [0, 2, 17, 24]) 3 _ h
theorem t_17_24 {E : mO × tW} {K : tK} {d : mD} {x0 x1 y0 : Int}
  (h : mInR y0 ∧ (¬ y0 = 0 → tRun E 17 (2, [.inr (2, x0), .inl (0, x1 + 1)], [], 0, 0, d) K) ∧ (y0 = 0 → ((0 : Int) = 0 ∨ (0 : Int) = 1) ∧ K (.inl (some (0, 0))) d)) :
  tRun E 17 (24, [.inr (2, x0), .inl (0, x1)], [.inl (0, y0)], 0, 0, d) K := tT_run (cut := [0, 2, 17, 24]) 3 _ h
theorem t_18_0 {E : mO × tW} {K : tK} {d : mD} {x0 : Int}
  (h : (mInR (d (x0 + 4 + 10) 0) ∧ mInR 16) ∧ (d (x0 + 4 + 10) 0 < 16 → tCall E 52 [.inr (5, x0 + 1)] d (tbk E 18 25 [.inr (2, x0)] [] 0 0 K)) ∧ (16 ≤ d (x0 + 4 + 10) 0 → tCall E 32 [.inr (2, x0), .inl (0, 5)] d (tbk E 18 17 [.inr (2, x0)] [] 0 0 K))) :
  tRun E 18 (0, [.inr (2, x0)], [], 0, 0, d) K := tT_run (cut := [0, 20, 28, 35, 53, 56, 65, 70, 77, 96]) 9 _ h
theorem t_18_20 {E : mO × tW} {K : tK} {d : mD} {x0 y0 : Int}
  (h : (y0 = 0 ∨ y0 = 1) ∧ K (.inl (some (0, y0))) d) :
  tRun E 18 (20, [.inr (2, x0)], [.inl (0, y0)], 0, 0, d) K := tT_run (cut := [0, 20, 28, 35, 53, 56, 65, 70, 77, 96]) 1 _ h
theorem t_18_28 {E : mO × tW} {K : tK} {d : mD} {x0 : Int}
  (h : tCall E 56 [.inr (5, x0 + 1)] d (tbk E 18 32 [.inr (2, x0)] [] 0 0 K)) :
  tRun E 18 (28, [.inr (2, x0)], [], 0, 0, d) K := tT_run (cut := [0, 20, 28, 35, 53, 56, 65, 70, 77, 96]) 3 _ h
theorem t_18_35 {E : mO × tW} {K : tK} {d : mD} {x0 y0 : Int}
  (h : (mInR y0 ∧ mInR ((-1))) ∧ (y0 = (-1) → tCall E 26 [.inr (2, x0)] d (tbk E 18 67 [.inr (2, x0)] [] 0 0 K)) ∧ (¬ y0 = (-1) → tCall E 56 [.inr (5, x0 + 1)] d (tbk E 18 50 [.inr (2, x0)] [.inr (4, x0 + 4 + 10)] 0 0 K))) :
  tRun E 18 (35, [.inr (2, x0)], [.inl (0, y0)], 0, 0, d) K := tT_run (cut := [0, 20, 28, 35, 53, 56, 65, 70, 77, 96]) 8 _ h
theorem t_18_53 {E : mO × tW} {K : tK} {d : mD} {x0 y0 y1 : Int}
  (h : tCall E 48 [.inr (4, y0), .inl (0, y1)] d (tbk E 18 53 [.inr (2, x0)] [] 0 0 K)) :
  tRun E 18 (53, [.inr (2, x0)], [.inl (0, y1), .inr (4, y0)], 0, 0, d) K := tT_run (cut := [0, 20, 28, 35, 53, 56, 65, 70, 77, 96]) 1 _ h
theorem t_18_56 {E : mO × tW} {K : tK} {d : mD} {x0 y0 : Int}
  (h : (mInR y0 ∧ mInR ((-1))) ∧ (y0 = (-1) → tCall E 26 [.inr (2, x0)] d (tbk E 18 67 [.inr (2, x0)] [] 0 0 K)) ∧ (¬ y0 = (-1) → tCall E 32 [.inr (2, x0), .inl (0, 3)] d (tbk E 18 62 [.inr (2, x0)] [] 0 0 K))) :
  tRun E 18 (56, [.inr (2, x0)], [.inl (0, y0)], 0, 0, d) K := tT_run (cut := [0, 20, 28, 35, 53, 56, 65, 70, 77, 96]) 5 _ h
theorem t_18_65 {E : mO × tW} {K : tK} {d : mD} {x0 y0 : Int}
  (h : (y0 = 0 ∨ y0 = 1) ∧ K (.inl (some (0, y0))) d) :
  tRun E 18 (65, [.inr (2, x0)], [.inl (0, y0)], 0, 0, d) K := tT_run (cut := [0, 20, 28, 35, 53, 56, 65, 70, 77, 96]) 1 _ h
theorem t_18_70 {E : mO × tW} {K : tK} {d : mD} {x0 y0 : Int}
  (h : mInR y0 ∧ (y0 = 0 → ((0 : Int) = 0 ∨ (0 : Int) = 1) ∧ K (.inl (some (0, 0))) d) ∧ (¬ y0 = 0 → tCall E 31 [.inr (2, x0)] d (tbk E 18 74 [.inr (2, x0)] [] 0 0 K))) :
  tRun E 18 (70, [.inr (2, x0)], [.inl (0, y0)], 0, 0, d) K := tT_run (cut := [0, 20, 28, 35, 53, 56, 65, 70, 77, 96]) 3 _ h
theorem t_18_77 {E : mO × tW} {K : tK} {d : mD} {x0 y0 : Int}
  (h : mInR y0 ∧ (¬ y0 = 0 → tCall E 47 [.inr (4, x0 + 4 + 10), .inl (0, d x0 5)] d (tbk E 18 93 [.inr (2, x0)] [] 0 0 K)) ∧ (y0 = 0 → ((0 : Int) = 0 ∨ (0 : Int) = 1) ∧ K (.inl (some (0, 0))) d)) :
  tRun E 18 (77, [.inr (2, x0)], [.inl (0, y0)], 0, 0, d) K := tT_run (cut := [0, 20, 28, 35, 53, 56, 65, 70, 77, 96]) 7 _ h
theorem t_18_96 {E : mO × tW} {K : tK} {d : mD} {x0 : Int}
  (h : ((1 : Int) = 0 ∨ (1 : Int) = 1) ∧ K (.inl (some (0, 1))) d) :
  tRun E 18 (96, [.inr (2, x0)], [], 0, 0, d) K := tT_run (cut := [0, 20, 28, 35, 53, 56, 65, 70, 77, 96]) 2 _ h
theorem t_19_0 {E : mO × tW} {K : tK} {d : mD} {x0 : Int}
  (h : tRun E 19 (4, [.inr (2, x0), .inl (0, 1), .inl (0, 0)], [], 0, 0, d) K) :
  tRun E 19 (0, [.inr (2, x0), tu, tu], [], 0, 0, d) K := tT_run (cut := [0, 4, 35, 42, 55, 62, 75, 82, 95, 102, 111]) 4 _ h
theorem t_19_4 {E : mO × tW} {K : tK} {d : mD} {x0 x1 x2 : Int}
  (h : (mInR x2 ∧ mInR 1000) ∧ (1000 ≤ x2 → (x1 = 0 ∨ x1 = 1) ∧ K (.inl (some (0, x1))) d) ∧ (x2 < 1000 → mInR x1 ∧ (x1 = 0 → (x1 = 0 ∨ x1 = 1) ∧ K (.inl (some (0, x1))) d) ∧ (¬ x1 = 0 → (mInR (d (x0 + 1) 1) ∧ mInR 3) ∧ (d (x0 + 1) 1 = 3 → (x1 = 0 ∨ x1 = 1) ∧ K (.inl (some (0, x1))) d) ∧ (¬ d (x0 + 1) 1 = 3 → tCall E 55 [.inr (5, x0 + 1), .inl (5, 3)] d (tbk E 19 32 [.inr (2, x0), .inl (0, x1), .inl (0, x2)] [] 0 0 K))))) :
  tRun E 19 (4, [.inr (2, x0), .inl (0, x1), .inl (0, x2)], [], 0, 0, d) K := tT_run (cut := [0, 4, 35, 42, 55, 62, 75, 82, 95, 102, 111]) 14 _ h
theorem t_19_35 {E : mO × tW} {K : tK} {d : mD} {x0 x1 x2 y0 : Int}
  (h : mInR y0 ∧ (y0 = 0 → tCall E 55 [.inr (5, x0 + 1), .inl (5, 4)] d (tbk E 19 52 [.inr (2, x0), .inl (0, x1), .inl (0, x2)] [] 0 0 K)) ∧ (¬ y0 = 0 → tCall E 20 [.inr (2, x0)] d (tbk E 19 39 [.inr (2, x0), .inl (0, x1), .inl (0, x2)] [] 0 0 K))) :
  tRun E 19 (35, [.inr (2, x0), .inl (0, x1), .inl (0, x2)], [.inl (0, y0)], 0, 0, d) K := tT_run (cut := [0, 4, 35, 42, 55, 62, 75, 82, 95, 102, 111]) 5 _ h
theorem t_19_42 {E : mO × tW} {K : tK} {d : mD} {x0 x1 x2 y0 : Int}
  (h : tRun E 19 (4, [.inr (2, x0), .inl (0, y0), .inl (0, x2 + 1)], [], 0, 0, d) K) :
  tRun E 19 (42, [.inr (2, x0), .inl (0, x1), .inl (0, x2)], [.inl (0, y0)], 0, 0, d) K := tT_run (cut := [0, 4, 35, 42, 55, 62, 75, 82, 95, 102, 111]) 4 _ h
theorem t_19_55 {E : mO × tW} {K : tK} {d : mD} {x0 x1 x2 y0 : Int}
  (h : mInR y0 ∧ (y0 = 0 → tCall E 55 [.inr (5, x0 + 1), .inl (5, 5)] d (tbk E 19 72 [.inr (2, x0), .inl (0, x1), .inl (0, x2)] [] 0 0 K)) ∧ (¬ y0 = 0 → tCall E 21 [.inr (2, x0)] d (tbk E 19 59 [.inr (2, x0), .inl (0, x1), .inl (0, x2)] [] 0 0 K))) :
  tRun E 19 (55, [.inr (2, x0), .inl (0, x1), .inl (0, x2)], [.inl (0, y0)], 0, 0, d) K := tT_run (cut := [0, 4, 35, 42, 55, 62, 75, 82, 95, 102, 111]) 5 _ h
theorem t_19_62 {E : mO × tW} {K : tK} {d : mD} {x0 x1 x2 y0 : Int}
  (h : tRun E 19 (4, [.inr (2, x0), .inl (0, y0), .inl (0, x2 + 1)], [], 0, 0, d) K) :
  tRun E 19 (62, [.inr (2, x0), .inl (0, x1), .inl (0, x2)], [.inl (0, y0)], 0, 0, d) K := tT_run (cut := [0, 4, 35, 42, 55, 62, 75, 82, 95, 102, 111]) 4 _ h
theorem t_19_75 {E : mO × tW} {K : tK} {d : mD} {x0 x1 x2 y0 : Int}
  (h : mInR y0 ∧ (y0 = 0 → tCall E 55 [.inr (5, x0 + 1), .inl (5, 6)] d (tbk E 19 92 [.inr (2, x0), .inl (0, x1), .inl (0, x2)] [] 0 0 K)) ∧ (¬ y0 = 0 → tCall E 22 [.inr (2, x0)] d (tbk E 19 79 [.inr (2, x0), .inl (0, x1), .inl (0, x2)] [] 0 0 K))) :
  tRun E 19 (75, [.inr (2, x0), .inl (0, x1), .inl (0, x2)], [.inl (0, y0)], 0, 0, d) K := tT_run (cut := [0, 4, 35, 42, 55, 62, 75, 82, 95, 102, 111]) 5 _ h
theorem t_19_82 {E : mO × tW} {K : tK} {d : mD} {x0 x1 x2 y0 : Int}
  (h : tRun E 19 (4, [.inr (2, x0), .inl (0, y0), .inl (0, x2 + 1)], [], 0, 0, d) K) :
  tRun E 19 (82, [.inr (2, x0), .inl (0, x1), .inl (0, x2)], [.inl (0, y0)], 0, 0, d) K := tT_run (cut := [0, 4, 35, 42, 55, 62, 75, 82, 95, 102, 111]) 4 _ h
theorem t_19_95 {E : mO × tW} {K : tK} {d : mD} {x0 x1 x2 y0 : Int}
  (h : mInR y0 ∧ (y0 = 0 → tCall E 32 [.inr (2, x0), .inl (0, 1)] d (tbk E 19 108 [.inr (2, x0), .inl (0, x1), .inl (0, x2)] [] 0 0 K)) ∧ (¬ y0 = 0 → tCall E 23 [.inr (2, x0)] d (tbk E 19 99 [.inr (2, x0), .inl (0, x1), .inl (0, x2)] [] 0 0 K))) :
  tRun E 19 (95, [.inr (2, x0), .inl (0, x1), .inl (0, x2)], [.inl (0, y0)], 0, 0, d) K := tT_run (cut := [0, 4, 35, 42, 55, 62, 75, 82, 95, 102, 111]) 4 _ h
theorem t_19_102 {E : mO × tW} {K : tK} {d : mD} {x0 x1 x2 y0 : Int}
  (h : tRun E 19 (4, [.inr (2, x0), .inl (0, y0), .inl (0, x2 + 1)], [], 0, 0, d) K) :
  tRun E 19 (102, [.inr (2, x0), .inl (0, x1), .inl (0, x2)], [.inl (0, y0)], 0, 0, d) K := tT_run (cut := [0, 4, 35, 42, 55, 62, 75, 82, 95, 102, 111]) 4 _ h
theorem t_19_111 {E : mO × tW} {K : tK} {d : mD} {x0 x1 x2 y0 : Int}
  (h : tRun E 19 (4, [.inr (2, x0), .inl (0, y0), .inl (0, x2 + 1)], [], 0, 0, d) K) :
  tRun E 19 (111, [.inr (2, x0), .inl (0, x1), .inl (0, x2)], [.inl (0, y0)], 0, 0, d) K := tT_run (cut := [0, 4, 35, 42, 55, 62, 75, 82, 95, 102, 111]) 3 _ h
theorem t_20_0 {E : mO × tW} {K : tK} {d : mD} {x0 : Int}
  (h : tCall E 52 [.inr (5, x0 + 1)] d (tbk E 20 4 [.inr (2, x0), tu] [] 0 0 K)) :
  tRun E 20 (0, [.inr (2, x0), tu], [], 0, 0, d) K := tT_run (cut := [0, 7, 11, 25, 32, 49, 58, 71, 76]) 3 _ h
theorem t_20_7 {E : mO × tW} {K : tK} {d : mD} {x0 : Int}
  (h : tCall E 27 [.inr (2, x0)] d (tbk E 20 8 [.inr (2, x0), tu] [] 0 0 K)) :
  tRun E 20 (7, [.inr (2, x0), tu], [], 0, 0, d) K := tT_run (cut := [0, 7, 11, 25, 32, 49, 58, 71, 76]) 2 _ h
theorem t_20_11 {E : mO × tW} {K : tK} {d : mD} {x0 y0 : Int}
  (h : mInR y0 ∧ (¬ y0 = 0 → tCall E 28 [.inr (2, x0)] d (tbk E 20 22 [.inr (2, x0), .inl (0, d x0 6)] [] 0 0 K)) ∧ (y0 = 0 → ((0 : Int) = 0 ∨ (0 : Int) = 1) ∧ K (.inl (some (0, 0))) d)) :
  tRun E 20 (11, [.inr (2, x0), tu], [.inl (0, y0)], 0, 0, d) K := tT_run (cut := [0, 7, 11, 25, 32, 49, 58, 71, 76]) 6 _ h
theorem t_20_25 {E : mO × tW} {K : tK} {d : mD} {x0 x1 y0 : Int}
  (h : mInR y0 ∧ (y0 = 0 → ((0 : Int) = 0 ∨ (0 : Int) = 1) ∧ K (.inl (some (0, 0))) d) ∧ (¬ y0 = 0 → tCall E 30 [.inr (2, x0)] d (tbk E 20 29 [.inr (2, x0), .inl (0, x1)] [] 0 0 K))) :
  tRun E 20 (25, [.inr (2, x0), .inl (0, x1)], [.inl (0, y0)], 0, 0, d) K := tT_run (cut := [0, 7, 11, 25, 32, 49, 58, 71, 76]) 3 _ h
theorem t_20_32 {E : mO × tW} {K : tK} {d : mD} {x0 x1 y0 : Int}
  (h : mInR y0 ∧ (¬ y0 = 0 → tCall E 60 [.inr (6, x0 + 4), .inl (0, x1), .inl (0, d x0 6)] d (tbk E 20 46 [.inr (2, x0), .inl (0, x1)] [] 0 0 K)) ∧ (y0 = 0 → ((0 : Int) = 0 ∨ (0 : Int) = 1) ∧ K (.inl (some (0, 0))) d)) :
  tRun E 20 (32, [.inr (2, x0), .inl (0, x1)], [.inl (0, y0)], 0, 0, d) K := tT_run (cut := [0, 7, 11, 25, 32, 49, 58, 71, 76]) 7 _ h
theorem t_20_49 {E : mO × tW} {K : tK} {d : mD} {x0 x1 y0 : Int}
  (h : mInR y0 ∧ (¬ y0 = 0 → tCall E 61 [.inr (6, x0 + 4), .inl (0, x1), .inl (0, d x0 6)] d (tbk E 20 68 [.inr (2, x0), .inl (0, x1)] [] 0 0 K)) ∧ (y0 = 0 → tCall E 32 [.inr (2, x0), .inl (0, 6)] d (tbk E 20 55 [.inr (2, x0), .inl (0, x1)] [] 0 0 K))) :
  tRun E 20 (49, [.inr (2, x0), .inl (0, x1)], [.inl (0, y0)], 0, 0, d) K := tT_run (cut := [0, 7, 11, 25, 32, 49, 58, 71, 76]) 7 _ h
theorem t_20_58 {E : mO × tW} {K : tK} {d : mD} {x0 x1 y0 : Int}
  (h : (y0 = 0 ∨ y0 = 1) ∧ K (.inl (some (0, y0))) d) :
  tRun E 20 (58, [.inr (2, x0), .inl (0, x1)], [.inl (0, y0)], 0, 0, d) K := tT_run (cut := [0, 7, 11, 25, 32, 49, 58, 71, 76]) 1 _ h
theorem t_20_71 {E : mO × tW} {K : tK} {d : mD} {x0 x1 y0 : Int}
  (h : tCall E 31 [.inr (2, x0)] d (tbk E 20 73 [.inr (2, x0), .inl (0, x1)] [] 0 0 K)) :
  tRun E 20 (71, [.inr (2, x0), .inl (0, x1)], [.inl (0, y0)], 0, 0, d) K := tT_run (cut := [0, 7, 11, 25, 32, 49, 58, 71, 76]) 3 _ h
theorem t_20_76 {E : mO × tW} {K : tK} {d : mD} {x0 x1 y0 : Int}
  (h : (y0 = 0 ∨ y0 = 1) ∧ K (.inl (some (0, y0))) d) :
  tRun E 20 (76, [.inr (2, x0), .inl (0, x1)], [.inl (0, y0)], 0, 0, d) K := tT_run (cut := [0, 7, 11, 25, 32, 49, 58, 71, 76]) 1 _ h
theorem t_21_0 {E : mO × tW} {K : tK} {d : mD} {x0 : Int}
  (h : tCall E 52 [.inr (5, x0 + 1)] d (tbk E 21 4 [.inr (2, x0)] [] 0 0 K)) :
  tRun E 21 (0, [.inr (2, x0)], [], 0, 0, d) K := tT_run (cut := [0, 7, 14, 21, 37, 46, 58, 63]) 3 _ h
theorem t_21_7 {E : mO × tW} {K : tK} {d : mD} {x0 : Int}
  (h : tCall E 25 [.inr (2, x0), .inl (0, 1), .inl (0, 99)] d (tbk E 21 11 [.inr (2, x0)] [] 0 0 K)) :
  tRun E 21 (7, [.inr (2, x0)], [], 0, 0, d) K := tT_run (cut := [0, 7, 14, 21, 37, 46, 58, 63]) 4 _ h
theorem t_21_14 {E : mO × tW} {K : tK} {d : mD} {x0 y0 : Int}
  (h : mInR y0 ∧ (y0 = 0 → ((0 : Int) = 0 ∨ (0 : Int) = 1) ∧ K (.inl (some (0, 0))) d) ∧ (¬ y0 = 0 → tCall E 30 [.inr (2, x0)] d (tbk E 21 18 [.inr (2, x0)] [] 0 0 K))) :
  tRun E 21 (14, [.inr (2, x0)], [.inl (0, y0)], 0, 0, d) K := tT_run (cut := [0, 7, 14, 21, 37, 46, 58, 63]) 3 _ h
theorem t_21_21 {E : mO × tW} {K : tK} {d : mD} {x0 y0 : Int}
  (h : mInR y0 ∧ (¬ y0 = 0 → tCall E 67 [.inr (6, x0 + 4), .inl (0, d x0 4)] d (tbk E 21 34 [.inr (2, x0)] [] 0 0 K)) ∧ (y0 = 0 → ((0 : Int) = 0 ∨ (0 : Int) = 1) ∧ K (.inl (some (0, 0))) d)) :
  tRun E 21 (21, [.inr (2, x0)], [.inl (0, y0)], 0, 0, d) K := tT_run (cut := [0, 7, 14, 21, 37, 46, 58, 63]) 6 _ h
theorem t_21_37 {E : mO × tW} {K : tK} {d : mD} {x0 y0 : Int}
  (h : mInR y0 ∧ (¬ y0 = 0 → tCall E 68 [.inr (6, x0 + 4), .inl (0, d x0 4)] d (tbk E 21 55 [.inr (2, x0)] [] 0 0 K)) ∧ (y0 = 0 → tCall E 32 [.inr (2, x0), .inl (0, 6)] d (tbk E 21 43 [.inr (2, x0)] [] 0 0 K))) :
  tRun E 21 (37, [.inr (2, x0)], [.inl (0, y0)], 0, 0, d) K := tT_run (cut := [0, 7, 14, 21, 37, 46, 58, 63]) 6 _ h
theorem t_21_46 {E : mO × tW} {K : tK} {d : mD} {x0 y0 : Int}
  (h : (y0 = 0 ∨ y0 = 1) ∧ K (.inl (some (0, y0))) d) :
  tRun E 21 (46, [.inr (2, x0)], [.inl (0, y0)], 0, 0, d) K := tT_run (cut := [0, 7, 14, 21, 37, 46, 58, 63]) 1 _ h
theorem t_21_58 {E : mO × tW} {K : tK} {d : mD} {x0 y0 : Int}
  (h : tCall E 31 [.inr (2, x0)] d (tbk E 21 60 [.inr (2, x0)] [] 0 0 K)) :
  tRun E 21 (58, [.inr (2, x0)], [.inl (0, y0)], 0, 0, d) K := tT_run (cut := [0, 7, 14, 21, 37, 46, 58, 63]) 3 _ h
theorem t_21_63 {E : mO × tW} {K : tK} {d : mD} {x0 y0 : Int}
  (h : (y0 = 0 ∨ y0 = 1) ∧ K (.inl (some (0, y0))) d) :
  tRun E 21 (63, [.inr (2, x0)], [.inl (0, y0)], 0, 0, d) K := tT_run (cut := [0, 7, 14, 21, 37, 46, 58, 63]) 1 _ h
theorem t_22_0 {E : mO × tW} {K : tK} {d : mD} {x0 : Int}
  (h : tCall E 52 [.inr (5, x0 + 1)] d (tbk E 22 4 [.inr (2, x0)] [] 0 0 K)) :
  tRun E 22 (0, [.inr (2, x0)], [], 0, 0, d) K := tT_run (cut := [0, 7, 11, 18, 34, 43, 55, 60]) 3 _ h
theorem t_22_7 {E : mO × tW} {K : tK} {d : mD} {x0 : Int}
  (h : tCall E 29 [.inr (2, x0)] d (tbk E 22 8 [.inr (2, x0)] [] 0 0 K)) :
  tRun E 22 (7, [.inr (2, x0)], [], 0, 0, d) K := tT_run (cut := [0, 7, 11, 18, 34, 43, 55, 60]) 2 _ h
theorem t_22_11 {E : mO × tW} {K : tK} {d : mD} {x0 y0 : Int}
  (h : mInR y0 ∧ (y0 = 0 → ((0 : Int) = 0 ∨ (0 : Int) = 1) ∧ K (.inl (some (0, 0))) d) ∧ (¬ y0 = 0 → tCall E 30 [.inr (2, x0)] d (tbk E 22 15 [.inr (2, x0)] [] 0 0 K))) :
  tRun E 22 (11, [.inr (2, x0)], [.inl (0, y0)], 0, 0, d) K := tT_run (cut := [0, 7, 11, 18, 34, 43, 55, 60]) 3 _ h
theorem t_22_18 {E : mO × tW} {K : tK} {d : mD} {x0 y0 : Int}
  (h : mInR y0 ∧ (¬ y0 = 0 → tCall E 73 [.inr (6, x0 + 4), .inl (0, d x0 6)] d (tbk E 22 31 [.inr (2, x0)] [] 0 0 K)) ∧ (y0 = 0 → ((0 : Int) = 0 ∨ (0 : Int) = 1) ∧ K (.inl (some (0, 0))) d)) :
  tRun E 22 (18, [.inr (2, x0)], [.inl (0, y0)], 0, 0, d) K := tT_run (cut := [0, 7, 11, 18, 34, 43, 55, 60]) 6 _ h
theorem t_22_34 {E : mO × tW} {K : tK} {d : mD} {x0 y0 : Int}
  (h : mInR y0 ∧ (¬ y0 = 0 → tCall E 74 [.inr (6, x0 + 4), .inl (0, d x0 6)] d (tbk E 22 52 [.inr (2, x0)] [] 0 0 K)) ∧ (y0 = 0 → tCall E 32 [.inr (2, x0), .inl (0, 6)] d (tbk E 22 40 [.inr (2, x0)] [] 0 0 K))) :
  tRun E 22 (34, [.inr (2, x0)], [.inl (0, y0)], 0, 0, d) K := tT_run (cut := [0, 7, 11, 18, 34, 43, 55, 60]) 6 _ h
theorem t_22_43 {E : mO × tW} {K : tK} {d : mD} {x0 y0 : Int}
  (h : (y0 = 0 ∨ y0 = 1) ∧ K (.inl (some (0, y0))) d) :
  tRun E 22 (43, [.inr (2, x0)], [.inl (0, y0)], 0, 0, d) K := tT_run (cut := [0, 7, 11, 18, 34, 43, 55, 60]) 1 _ h
theorem t_22_55 {E : mO × tW} {K : tK} {d : mD} {x0 y0 : Int}
  (h : tCall E 31 [.inr (2, x0)] d (tbk E 22 57 [.inr (2, x0)] [] 0 0 K)) :
  tRun E 22 (55, [.inr (2, x0)], [.inl (0, y0)], 0, 0, d) K := tT_run (cut := [0, 7, 11, 18, 34, 43, 55, 60]) 3 _ h
theorem t_22_60 {E : mO × tW} {K : tK} {d : mD} {x0 y0 : Int}
  (h : (y0 = 0 ∨ y0 = 1) ∧ K (.inl (some (0, y0))) d) :
  tRun E 22 (60, [.inr (2, x0)], [.inl (0, y0)], 0, 0, d) K := tT_run (cut := [0, 7, 11, 18, 34, 43, 55, 60]) 1 _ h
theorem t_23_0 {E : mO × tW} {K : tK} {d : mD} {x0 : Int}
  (h : tCall E 52 [.inr (5, x0 + 1)] d (tbk E 23 4 [.inr (2, x0), tu] [] 0 0 K)) :
  tRun E 23 (0, [.inr (2, x0), tu], [], 0, 0, d) K := tT_run (cut := [0, 7, 11, 25, 32, 49, 58, 71, 76]) 3 _ h
theorem t_23_7 {E : mO × tW} {K : tK} {d : mD} {x0 : Int}
  (h : tCall E 27 [.inr (2, x0)] d (tbk E 23 8 [.inr (2, x0), tu] [] 0 0 K)) :
  tRun E 23 (7, [.inr (2, x0), tu], [], 0, 0, d) K := tT_run (cut := [0, 7, 11, 25, 32, 49, 58, 71, 76]) 2 _ h
theorem t_23_11 {E : mO × tW} {K : tK} {d : mD} {x0 y0 : Int}
  (h : mInR y0 ∧ (¬ y0 = 0 → tCall E 29 [.inr (2, x0)] d (tbk E 23 22 [.inr (2, x0), .inl (0, d x0 6)] [] 0 0 K)) ∧ (y0 = 0 → ((0 : Int) = 0 ∨ (0 : Int) = 1) ∧ K (.inl (some (0, 0))) d)) :
  tRun E 23 (11, [.inr (2, x0), tu], [.inl (0, y0)], 0, 0, d) K := tT_run (cut := [0, 7, 11, 25, 32, 49, 58, 71, 76]) 6 _ h
theorem t_23_25 {E : mO × tW} {K : tK} {d : mD} {x0 x1 y0 : Int}
  (h : mInR y0 ∧ (y0 = 0 → ((0 : Int) = 0 ∨ (0 : Int) = 1) ∧ K (.inl (some (0, 0))) d) ∧ (¬ y0 = 0 → tCall E 30 [.inr (2, x0)] d (tbk E 23 29 [.inr (2, x0), .inl (0, x1)] [] 0 0 K))) :
  tRun E 23 (25, [.inr (2, x0), .inl (0, x1)], [.inl (0, y0)], 0, 0, d) K := tT_run (cut := [0, 7, 11, 25, 32, 49, 58, 71, 76]) 3 _ h
theorem t_23_32 {E : mO × tW} {K : tK} {d : mD} {x0 x1 y0 : Int}
  (h : mInR y0 ∧ (¬ y0 = 0 → tCall E 77 [.inr (6, x0 + 4), .inl (0, d x0 6), .inl (0, x1)] d (tbk E 23 46 [.inr (2, x0), .inl (0, x1)] [] 0 0 K)) ∧ (y0 = 0 → ((0 : Int) = 0 ∨ (0 : Int) = 1) ∧ K (.inl (some (0, 0))) d)) :
  tRun E 23 (32, [.inr (2, x0), .inl (0, x1)], [.inl (0, y0)], 0, 0, d) K := tT_run (cut := [0, 7, 11, 25, 32, 49, 58, 71, 76]) 7 _ h
theorem t_23_49 {E : mO × tW} {K : tK} {d : mD} {x0 x1 y0 : Int}
  (h : mInR y0 ∧ (y0 = 0 → tCall E 75 [.inr (6, x0 + 4), .inl (0, d x0 6), .inl (0, x1)] d (tbk E 23 68 [.inr (2, x0), .inl (0, x1)] [] 0 0 K)) ∧ (¬ y0 = 0 → tCall E 32 [.inr (2, x0), .inl (0, 6)] d (tbk E 23 55 [.inr (2, x0), .inl (0, x1)] [] 0 0 K))) :
  tRun E 23 (49, [.inr (2, x0), .inl (0, x1)], [.inl (0, y0)], 0, 0, d) K := tT_run (cut := [0, 7, 11, 25, 32, 49, 58, 71, 76]) 7 _ h
theorem t_23_58 {E : mO × tW} {K : tK} {d : mD} {x0 x1 y0 : Int}
  (h : (y0 = 0 ∨ y0 = 1) ∧ K (.inl (some (0, y0))) d) :
  tRun E 23 (58, [.inr (2, x0), .inl (0, x1)], [.inl (0, y0)], 0, 0, d) K := tT_run (cut := [0, 7, 11, 25, 32, 49, 58, 71, 76]) 1 _ h
theorem t_23_71 {E : mO × tW} {K : tK} {d : mD} {x0 x1 y0 : Int}
  (h : tCall E 31 [.inr (2, x0)] d (tbk E 23 73 [.inr (2, x0), .inl (0, x1)] [] 0 0 K)) :
  tRun E 23 (71, [.inr (2, x0), .inl (0, x1)], [.inl (0, y0)], 0, 0, d) K := tT_run (cut := [0, 7, 11, 25, 32, 49, 58, 71, 76]) 3 _ h
theorem t_23_76 {E : mO × tW} {K : tK} {d : mD} {x0 x1 y0 : Int}
  (h : (y0 = 0 ∨ y0 = 1) ∧ K (.inl (some (0, y0))) d) :
  tRun E 23 (76, [.inr (2, x0), .inl (0, x1)], [.inl (0, y0)], 0, 0, d) K := tT_run (cut := [0, 7, 11, 25, 32, 49, 58, 71, 76]) 1 _ h
theorem t_24_0 {E : mO × tW} {K : tK} {d : mD} {x0 x1 : Int}
  (h : tCall E 55 [.inr (5, x0 + 1), .inl (5, x1)] d (tbk E 24 5 [.inr (2, x0), .inl (5, x1)] [] 0 0 K)) :
  tRun E 24 (0, [.inr (2, x0), .inl (5, x1)], [], 0, 0, d) K := tT_run (cut := [0, 8, 16, 24]) 4 _ h
theorem t_24_8 {E : mO × tW} {K : tK} {d : mD} {x0 x1 y0 : Int}
  (h : mInR y0 ∧ (¬ y0 = 0 → tCall E 52 [.inr (5, x0 + 1)] d (tbk E 24 21 [.inr (2, x0), .inl (5, x1)] [] 0 0 K)) ∧ (y0 = 0 → tCall E 32 [.inr (2, x0), .inl (0, 1)] d (tbk E 24 13 [.inr (2, x0), .inl (5, x1)] [] 0 0 K))) :
  tRun E 24 (8, [.inr (2, x0), .inl (5, x1)], [.inl (0, y0)], 0, 0, d) K := tT_run (cut := [0, 8, 16, 24]) 4 _ h
theorem t_24_16 {E : mO × tW} {K : tK} {d : mD} {x0 x1 y0 : Int}
  (h : (y0 = 0 ∨ y0 = 1) ∧ K (.inl (some (0, y0))) d) :
  tRun E 24 (16, [.inr (2, x0), .inl (5, x1)], [.inl (0, y0)], 0, 0, d) K := tT_run (cut := [0, 8, 16, 24]) 1 _ h
theorem t_24_24 {E : mO × tW} {K : tK} {d : mD} {x0 x1 : Int}
  (h : ((1 : Int) = 0 ∨ (1 : Int) = 1) ∧ K (.inl (some (0, 1))) d) :
  tRun E 24 (24, [.inr (2, x0), .inl (5, x1)], [], 0, 0, d) K := tT_run (cut := [0, 8, 16, 24]) 2 _ h
theorem t_25_0 {E : mO × tW} {K : tK} {d : mD} {x0 x1 x2 : Int}
  (h : (mInR (d (x0 + 1) 1) ∧ mInR 1) ∧ (d (x0 + 1) 1 = 1 → (mInR (d (x0 + 1) 4) ∧ mInR x1) ∧ (d (x0 + 1) 4 < x1 → tCall E 32 [.inr (2, x0), .inl (0, 2)] d (tbk E 25 41 [.inr (2, x0), .inl (0, x1), .inl (0, x2)] [] 0 0 K)) ∧ (x1 ≤ d (x0 + 1) 4 → (mInR (d (x0 + 1) 4) ∧ mInR x2) ∧ (d (x0 + 1) 4 ≤ x2 → tCall E 52 [.inr (5, x0 + 1)] (mset d x0 4 (d (x0 + 1) 4)) (tbk E 25 60 [.inr (2, x0), .inl (0, x1), .inl (0, x2)] [] 0 0 K)) ∧ (x2 < d (x0 + 1) 4 → tCall E 32 [.inr (2, x0), .inl (0, 2)] d (tbk E 25 41 [.inr (2, x0), .inl (0, x1), .inl (0, x2)] [] 0 0 K)))) ∧ (¬ d (x0 + 1) 1 = 1 → tCall E 32 [.inr (2, x0), .inl (0, 1)] d (tbk E 25 13 [.inr (2, x0), .inl (0, x1), .inl (0, x2)] [] 0 0 K))) :
  tRun E 25 (0, [.inr (2, x0), .inl (0, x1), .inl (0, x2)], [], 0, 0, d) K := tT_run (cut := [0, 16, 44, 63]) 23 _ h
theorem t_25_16 {E : mO × tW} {K : tK} {d : mD} {x0 x1 x2 y0 : Int}
  (h : (y0 = 0 ∨ y0 = 1) ∧ K (.inl (some (0, y0))) d) :
  tRun E 25 (16, [.inr (2, x0), .inl (0, x1), .inl (0, x2)], [.inl (0, y0)], 0, 0, d) K := tT_run (cut := [0, 16, 44, 63]) 1 _ h
theorem t_25_44 {E : mO × tW} {K : tK} {d : mD} {x0 x1 x2 y0 : Int}
  (h : (y0 = 0 ∨ y0 = 1) ∧ K (.inl (some (0, y0))) d) :
  tRun E 25 (44, [.inr (2, x0), .inl (0, x1), .inl (0, x2)], [.inl (0, y0)], 0, 0, d) K := tT_run (cut := [0, 16, 44, 63]) 1 _ h
theorem t_25_63 {E : mO × tW} {K : tK} {d : mD} {x0 x1 x2 : Int}
  (h : ((1 : Int) = 0 ∨ (1 : Int) = 1) ∧ K (.inl (some (0, 1))) d) :
  tRun E 25 (63, [.inr (2, x0), .inl (0, x1), .inl (0, x2)], [], 0, 0, d) K := tT_run (cut := [0, 16, 44, 63]) 2 _ h
theorem t_26_0 {E : mO × tW} {K : tK} {d : mD} {x0 : Int}
  (h : tCall E 56 [.inr (5, x0 + 1)] d (tbk E 26 5 [.inr (2, x0)] [.inr (2, x0)] 0 0 K)) :
  tRun E 26 (0, [.inr (2, x0)], [], 0, 0, d) K := tT_run (cut := [0, 8, 24, 32]) 4 _ h
theorem t_26_8 {E : mO × tW} {K : tK} {d : mD} {x0 y0 y1 : Int}
  (h : (mInR ((mset d y0 5 y1) x0 5) ∧ mInR ((-1))) ∧ (¬ (mset d y0 5 y1) x0 5 = (-1) → tCall E 52 [.inr (5, x0 + 1)] (mset d y0 5 y1) (tbk E 26 29 [.inr (2, x0)] [] 0 0 K)) ∧ ((mset d y0 5 y1) x0 5 = (-1) → tCall E 32 [.inr (2, x0), .inl (0, 1)] (mset d y0 5 y1) (tbk E 26 21 [.inr (2, x0)] [] 0 0 K))) :
  tRun E 26 (8, [.inr (2, x0)], [.inl (0, y1), .inr (2, y0)], 0, 0, d) K := tT_run (cut := [0, 8, 24, 32]) 8 _ h
theorem t_26_24 {E : mO × tW} {K : tK} {d : mD} {x0 y0 : Int}
  (h : (y0 = 0 ∨ y0 = 1) ∧ K (.inl (some (0, y0))) d) :
  tRun E 26 (24, [.inr (2, x0)], [.inl (0, y0)], 0, 0, d) K := tT_run (cut := [0, 8, 24, 32]) 1 _ h
theorem t_26_32 {E : mO × tW} {K : tK} {d : mD} {x0 : Int}
  (h : ((1 : Int) = 0 ∨ (1 : Int) = 1) ∧ K (.inl (some (0, 1))) d) :
  tRun E 26 (32, [.inr (2, x0)], [], 0, 0, d) K := tT_run (cut := [0, 8, 24, 32]) 2 _ h
theorem t_27_0 {E : mO × tW} {K : tK} {d : mD} {x0 : Int}
  (h : tCall E 56 [.inr (5, x0 + 1)] d (tbk E 27 12 [.inr (2, x0)] [.inr (4, x0 + 4 + 10), .inr (2, x0)] 0 0 K)) :
  tRun E 27 (0, [.inr (2, x0)], [], 0, 0, d) K := tT_run (cut := [0, 15, 18, 28, 45, 50]) 7 _ h
theorem t_27_15 {E : mO × tW} {K : tK} {d : mD} {x0 y0 y1 y2 : Int}
  (h : tCall E 48 [.inr (4, y1), .inl (0, y2)] d (tbk E 27 15 [.inr (2, x0)] [.inr (2, y0)] 0 0 K)) :
  tRun E 27 (15, [.inr (2, x0)], [.inl (0, y2), .inr (4, y1), .inr (2, y0)], 0, 0, d) K := tT_run (cut := [0, 15, 18, 28, 45, 50]) 1 _ h
theorem t_27_18 {E : mO × tW} {K : tK} {d : mD} {x0 y0 y1 : Int}
  (h : tCall E 56 [.inr (5, x0 + 1)] (mset d y0 6 y1) (tbk E 27 25 [.inr (2, x0)] [] 0 0 K)) :
  tRun E 27 (18, [.inr (2, x0)], [.inl (0, y1), .inr (2, y0)], 0, 0, d) K := tT_run (cut := [0, 15, 18, 28, 45, 50]) 4 _ h
theorem t_27_28 {E : mO × tW} {K : tK} {d : mD} {x0 y0 : Int}
  (h : (mInR y0 ∧ mInR ((-1))) ∧ (y0 = (-1) → tCall E 26 [.inr (2, x0)] d (tbk E 27 47 [.inr (2, x0)] [] 0 0 K)) ∧ (¬ y0 = (-1) → (mInR (d x0 6) ∧ mInR ((-1))) ∧ (¬ d x0 6 = (-1) → tCall E 26 [.inr (2, x0)] d (tbk E 27 47 [.inr (2, x0)] [] 0 0 K)) ∧ (d x0 6 = (-1) → tCall E 32 [.inr (2, x0), .inl (0, 4)] d (tbk E 27 42 [.inr (2, x0)] [] 0 0 K)))) :
  tRun E 27 (28, [.inr (2, x0)], [.inl (0, y0)], 0, 0, d) K := tT_run (cut := [0, 15, 18, 28, 45, 50]) 9 _ h
theorem t_27_45 {E : mO × tW} {K : tK} {d : mD} {x0 y0 : Int}
  (h : (y0 = 0 ∨ y0 = 1) ∧ K (.inl (some (0, y0))) d) :
  tRun E 27 (45, [.inr (2, x0)], [.inl (0, y0)], 0, 0, d) K := tT_run (cut := [0, 15, 18, 28, 45, 50]) 1 _ h
theorem t_27_50 {E : mO × tW} {K : tK} {d : mD} {x0 y0 : Int}
  (h : (y0 = 0 ∨ y0 = 1) ∧ K (.inl (some (0, y0))) d) :
  tRun E 27 (50, [.inr (2, x0)], [.inl (0, y0)], 0, 0, d) K := tT_run (cut := [0, 15, 18, 28, 45, 50]) 1 _ h
theorem t_28_0 {E : mO × tW} {K : tK} {d : mD} {x0 : Int}
  (h : tCall E 56 [.inr (5, x0 + 1)] d (tbk E 28 12 [.inr (2, x0)] [.inr (3, x0 + 4 + 2), .inr (2, x0)] 0 0 K)) :
  tRun E 28 (0, [.inr (2, x0)], [], 0, 0, d) K := tT_run (cut := [0, 15, 18, 28, 45, 50]) 7 _ h
theorem t_28_15 {E : mO × tW} {K : tK} {d : mD} {x0 y0 y1 y2 : Int}
  (h : tCall E 36 [.inr (3, y1), .inl (0, y2)] d (tbk E 28 15 [.inr (2, x0)] [.inr (2, y0)] 0 0 K)) :
  tRun E 28 (15, [.inr (2, x0)], [.inl (0, y2), .inr (3, y1), .inr (2, y0)], 0, 0, d) K := tT_run (cut := [0, 15, 18, 28, 45, 50]) 1 _ h
theorem t_28_18 {E : mO × tW} {K : tK} {d : mD} {x0 y0 y1 : Int}
  (h : tCall E 56 [.inr (5, x0 + 1)] (mset d y0 6 y1) (tbk E 28 25 [.inr (2, x0)] [] 0 0 K)) :
  tRun E 28 (18, [.inr (2, x0)], [.inl (0, y1), .inr (2, y0)], 0, 0, d) K := tT_run (cut := [0, 15, 18, 28, 45, 50]) 4 _ h
theorem t_28_28 {E : mO × tW} {K : tK} {d : mD} {x0 y0 : Int}
  (h : (mInR y0 ∧ mInR ((-1))) ∧ (y0 = (-1) → tCall E 26 [.inr (2, x0)] d (tbk E 28 47 [.inr (2, x0)] [] 0 0 K)) ∧ (¬ y0 = (-1) → (mInR (d x0 6) ∧ mInR ((-1))) ∧ (¬ d x0 6 = (-1) → tCall E 26 [.inr (2, x0)] d (tbk E 28 47 [.inr (2, x0)] [] 0 0 K)) ∧ (d x0 6 = (-1) → tCall E 32 [.inr (2, x0), .inl (0, 4)] d (tbk E 28 42 [.inr (2, x0)] [] 0 0 K)))) :
  tRun E 28 (28, [.inr (2, x0)], [.inl (0, y0)], 0, 0, d) K := tT_run (cut := [0, 15, 18, 28, 45, 50]) 9 _ h
theorem t_28_45 {E : mO × tW} {K : tK} {d : mD} {x0 y0 : Int}
  (h : (y0 = 0 ∨ y0 = 1) ∧ K (.inl (some (0, y0))) d) :
  tRun E 28 (45, [.inr (2, x0)], [.inl (0, y0)], 0, 0, d) K := tT_run (cut := [0, 15, 18, 28, 45, 50]) 1 _ h
theorem t_28_50 {E : mO × tW} {K : tK} {d : mD} {x0 y0 : Int}
  (h : (y0 = 0 ∨ y0 = 1) ∧ K (.inl (some (0, y0))) d) :
  tRun E 28 (50, [.inr (2, x0)], [.inl (0, y0)], 0, 0, d) K := tT_run (cut := [0, 15, 18, 28, 45, 50]) 1 _ h
theorem t_29_0 {E : mO × tW} {K : tK} {d : mD} {x0 : Int}
  (h : tCall E 56 [.inr (5, x0 + 1)] d (tbk E 29 11 [.inr (2, x0), tu] [.inr (4, x0 + 4 + 10)] 0 0 K)) :
  tRun E 29 (0, [.inr (2, x0), tu], [], 0, 0, d) K := tT_run (cut := [0, 14, 17, 39, 49, 66, 71]) 6 _ h
theorem t_29_14 {E : mO × tW} {K : tK} {d : mD} {x0 y0 y1 : Int}
  (h : tCall E 48 [.inr (4, y0), .inl (0, y1)] d (tbk E 29 14 [.inr (2, x0), tu] [] 0 0 K)) :
  tRun E 29 (14, [.inr (2, x0), tu], [.inl (0, y1), .inr (4, y0)], 0, 0, d) K := tT_run (cut := [0, 14, 17, 39, 49, 66, 71]) 1 _ h
theorem t_29_17 {E : mO × tW} {K : tK} {d : mD} {x0 y0 : Int}
  (h : (mInR y0 ∧ mInR ((-1))) ∧ (¬ y0 = (-1) → tCall E 100 [.inr (8, x0 + 4 + 49), .inl (0, y0)] d (tbk E 29 36 [.inr (2, x0), .inl (0, y0)] [.inr (2, x0)] 0 0 K)) ∧ (y0 = (-1) → tRun E 29 (39, [.inr (2, x0), .inl (0, y0)], [.inl (0, (-1)), .inr (2, x0)], 0, 0, d) K)) :
  tRun E 29 (17, [.inr (2, x0), tu], [.inl (0, y0)], 0, 0, d) K := tT_run (cut := [0, 14, 17, 39, 49, 66, 71]) 10 _ h
theorem t_29_39 {E : mO × tW} {K : tK} {d : mD} {x0 x1 y0 y1 : Int}
  (h : tCall E 56 [.inr (5, x0 + 1)] (mset d y0 6 y1) (tbk E 29 46 [.inr (2, x0), .inl (0, x1)] [] 0 0 K)) :
  tRun E 29 (39, [.inr (2, x0), .inl (0, x1)], [.inl (0, y1), .inr (2, y0)], 0, 0, d) K := tT_run (cut := [0, 14, 17, 39, 49, 66, 71]) 4 _ h
theorem t_29_49 {E : mO × tW} {K : tK} {d : mD} {x0 x1 y0 : Int}
  (h : (mInR y0 ∧ mInR ((-1))) ∧ (y0 = (-1) → tCall E 26 [.inr (2, x0)] d (tbk E 29 68 [.inr (2, x0), .inl (0, x1)] [] 0 0 K)) ∧ (¬ y0 = (-1) → (mInR (d x0 6) ∧ mInR ((-1))) ∧ (¬ d x0 6 = (-1) → tCall E 26 [.inr (2, x0)] d (tbk E 29 68 [.inr (2, x0), .inl (0, x1)] [] 0 0 K)) ∧ (d x0 6 = (-1) → tCall E 32 [.inr (2, x0), .inl (0, 4)] d (tbk E 29 63 [.inr (2, x0), .inl (0, x1)] [] 0 0 K)))) :
  tRun E 29 (49, [.inr (2, x0), .inl (0, x1)], [.inl (0, y0)], 0, 0, d) K := tT_run (cut := [0, 14, 17, 39, 49, 66, 71]) 9 _ h
theorem t_29_66 {E : mO × tW} {K : tK} {d : mD} {x0 x1 y0 : Int}
  (h : (y0 = 0 ∨ y0 = 1) ∧ K (.inl (some (0, y0))) d) :
  tRun E 29 (66, [.inr (2, x0), .inl (0, x1)], [.inl (0, y0)], 0, 0, d) K := tT_run (cut := [0, 14, 17, 39, 49, 66, 71]) 1 _ h
theorem t_29_71 {E : mO × tW} {K : tK} {d : mD} {x0 x1 y0 : Int}
  (h : (y0 = 0 ∨ y0 = 1) ∧ K (.inl (some (0, y0))) d) :
  tRun E 29 (71, [.inr (2, x0), .inl (0, x1)], [.inl (0, y0)], 0, 0, d) K := tT_run (cut := [0, 14, 17, 39, 49, 66, 71]) 1 _ h
theorem t_30_0 {E : mO × tW} {K : tK} {d : mD} {x0 : Int}
  (h : (mInR (d (x0 + 1) 1) ∧ mInR 2) ∧ (d (x0 + 1) 1 = 2 → ((1 : Int) = 0 ∨ (1 : Int) = 1) ∧ K (.inl (some (0, 1))) d) ∧ (¬ d (x0 + 1) 1 = 2 → tCall E 32 [.inr (2, x0), .inl (0, 1)] d (tbk E 30 13 [.inr (2, x0)] [] 0 0 K))) :
  tRun E 30 (0, [.inr (2, x0)], [], 0, 0, d) K := tT_run (cut := [0, 16]) 8 _ h
theorem t_30_16 {E : mO × tW} {K : tK} {d : mD} {x0 y0 : Int}
  (h : mInR y0 ∧ (y0 = 0 → ((0 : Int) = 0 ∨ (0 : Int) = 1) ∧ K (.inl (some (0, 0))) d) ∧ (¬ y0 = 0 → ((1 : Int) = 0 ∨ (1 : Int) = 1) ∧ K (.inl (some (0, 1))) d)) :
  tRun E 30 (16, [.inr (2, x0)], [.inl (0, y0)], 0, 0, d) K := tT_run (cut := [0, 16]) 4 _ h
theorem t_31_0 {E : mO × tW} {K : tK} {d : mD} {x0 : Int}
  (h : tCall E 30 [.inr (2, x0)] d (tbk E 31 1 [.inr (2, x0)] [] 0 0 K)) :
  tRun E 31 (0, [.inr (2, x0)], [], 0, 0, d) K := tT_run (cut := [0, 4, 16]) 2 _ h
theorem t_31_4 {E : mO × tW} {K : tK} {d : mD} {x0 y0 : Int}
  (h : mInR y0 ∧ (¬ y0 = 0 → tCall E 52 [.inr (5, x0 + 1)] d (tbk E 31 13 [.inr (2, x0)] [] 0 0 K)) ∧ (y0 = 0 → ((0 : Int) = 0 ∨ (0 : Int) = 1) ∧ K (.inl (some (0, 0))) d)) :
  tRun E 31 (4, [.inr (2, x0)], [.inl (0, y0)], 0, 0, d) K := tT_run (cut := [0, 4, 16]) 4 _ h
theorem t_31_16 {E : mO × tW} {K : tK} {d : mD} {x0 : Int}
  (h : ((1 : Int) = 0 ∨ (1 : Int) = 1) ∧ K (.inl (some (0, 1))) d) :
  tRun E 31 (16, [.inr (2, x0)], [], 0, 0, d) K := tT_run (cut := [0, 4, 16]) 2 _ h
theorem t_32_0 {E : mO × tW} {K : tK} {d : mD} {x0 x1 : Int}
  (h : ((0 : Int) = 0 ∨ (0 : Int) = 1) ∧ K (.inl (some (0, 0))) (mset (mset d x0 2 x1) x0 3 ((mset d x0 2 x1) (x0 + 1) 2))) :
  tRun E 32 (0, [.inr (2, x0), .inl (0, x1)], [], 0, 0, d) K := tT_run (cut := [0]) 10 _ h
theorem t_34_0 {E : mO × tW} {K : tK} {d : mD} {x0 x1 : Int}
  (h : (0 ≤ (0 : Int) ∧ 0 ≤ (0 : Int) ∧ 0 ≤ (6 : Int) ∧ (0 : Int) + (6 : Int) ≤ 6 ∧ (0 : Int) + (6 : Int) ≤ 6) ∧ tRun E 34 (23, [.inr (3, x0), .inr (3, x1), tu], [], 0, 0, mcopy (mset d x0 0 (d x1 0)) (x1 + 1) 0 (x0 + 1) 0 6) K) :
  tRun E 34 (0, [.inr (3, x0), .inr (3, x1), tu], [], 0, 0, d) K := tT_run (cut := [0, 23, 38, 53, 68, 83, 98, 100]) 12 _ h
theorem t_34_23 {E : mO × tW} {K : tK} {d : mD} {x0 x1 : Int}
  (h : (0 ≤ (0 : Int) ∧ 0 ≤ (0 : Int) ∧ 0 ≤ (6 : Int) ∧ (0 : Int) + (6 : Int) ≤ 6 ∧ (0 : Int) + (6 : Int) ≤ 6) ∧ tRun E 34 (38, [.inr (3, x0), .inr (3, x1), tu], [], 0, 0, mcopy d (x1 + 2) 0 (x0 + 2) 0 6) K) :
  tRun E 34 (23, [.inr (3, x0), .inr (3, x1), tu], [], 0, 0, d) K := tT_run (cut := [0, 23, 38, 53, 68, 83, 98, 100]) 8 _ h
theorem t_34_38 {E : mO × tW} {K : tK} {d : mD} {x0 x1 : Int}
  (h : (0 ≤ (0 : Int) ∧ 0 ≤ (0 : Int) ∧ 0 ≤ (6 : Int) ∧ (0 : Int) + (6 : Int) ≤ 6 ∧ (0 : Int) + (6 : Int) ≤ 6) ∧ tRun E 34 (53, [.inr (3, x0), .inr (3, x1), tu], [], 0, 0, mcopy d (x1 + 3) 0 (x0 + 3) 0 6) K) :
  tRun E 34 (38, [.inr (3, x0), .inr (3, x1), tu], [], 0, 0, d) K := tT_run (cut := [0, 23, 38, 53, 68, 83, 98, 100]) 8 _ h
theorem t_34_53 {E : mO × tW} {K : tK} {d : mD} {x0 x1 : Int}
  (h : (0 ≤ (0 : Int) ∧ 0 ≤ (0 : Int) ∧ 0 ≤ (6 : Int) ∧ (0 : Int) + (6 : Int) ≤ 6 ∧ (0 : Int) + (6 : Int) ≤ 6) ∧ tRun E 34 (68, [.inr (3, x0), .inr (3, x1), tu], [], 0, 0, mcopy d (x1 + 4) 0 (x0 + 4) 0 6) K) :
  tRun E 34 (53, [.inr (3, x0), .inr (3, x1), tu], [], 0, 0, d) K := tT_run (cut := [0, 23, 38, 53, 68, 83, 98, 100]) 8 _ h
theorem t_34_68 {E : mO × tW} {K : tK} {d : mD} {x0 x1 : Int}
  (h : (0 ≤ (0 : Int) ∧ 0 ≤ (0 : Int) ∧ 0 ≤ (6 : Int) ∧ (0 : Int) + (6 : Int) ≤ 6 ∧ (0 : Int) + (6 : Int) ≤ 6) ∧ tRun E 34 (83, [.inr (3, x0), .inr (3, x1), tu], [], 0, 0, mcopy d (x1 + 6) 0 (x0 + 6) 0 6) K) :
  tRun E 34 (68, [.inr (3, x0), .inr (3, x1), tu], [], 0, 0, d) K := tT_run (cut := [0, 23, 38, 53, 68, 83, 98, 100]) 8 _ h
theorem t_34_83 {E : mO × tW} {K : tK} {d : mD} {x0 x1 : Int}
  (h : (0 ≤ (0 : Int) ∧ 0 ≤ (0 : Int) ∧ 0 ≤ (96 : Int) ∧ (0 : Int) + (96 : Int) ≤ 96 ∧ (0 : Int) + (96 : Int) ≤ 96) ∧ tRun E 34 (98, [.inr (3, x0), .inr (3, x1), tu], [], 0, 0, mcopy d (x1 + 7) 0 (x0 + 7) 0 96) K) :
  tRun E 34 (83, [.inr (3, x0), .inr (3, x1), tu], [], 0, 0, d) K := tT_run (cut := [0, 23, 38, 53, 68, 83, 98, 100]) 8 _ h
theorem t_34_98 {E : mO × tW} {K : tK} {d : mD} {x0 x1 : Int}
  (h : tRun E 34 (100, [.inr (3, x0), .inr (3, x1), .inl (0, 0)], [], 0, 0, d) K) :
  tRun E 34 (98, [.inr (3, x0), .inr (3, x1), tu], [], 0, 0, d) K := tT_run (cut := [0, 23, 38, 53, 68, 83, 98, 100]) 2 _ h
theorem t_34_100 {E : mO × tW} {K : tK} {d : mD} {x0 x1 x2 : Int}
  (h : (mInR x2 ∧ mInR 6) ∧ (6 ≤ x2 → K (.inl none) d) ∧ (x2 < 6 → (0 ≤ x2 ∧ x2 < 6) ∧ ((d (x1 + 5) x2 = 0 ∨ d (x1 + 5) x2 = 1) ∧ 0 ≤ x2 ∧ x2 < 6) ∧ tRun E 34 (100, [.inr (3, x0), .inr (3, x1), .inl (0, x2 + 1)], [], 0, 0, mset d (x0 + 5) x2 (d (x1 + 5) x2)) K)) :
  tRun E 34 (100, [.inr (3, x0), .inr (3, x1), .inl (0, x2)], [], 0, 0, d) K := tT_run (cut := [0, 23, 38, 53, 68, 83, 98, 100]) 13 _ h
theorem t_35_0 {E : mO × tW} {K : tK} {d : mD} {x0 x1 x2 x3 x4 : Int}
  (h : (mInR (d x0 0) ∧ mInR 6) ∧ (d x0 0 < 6 → (0 ≤ d x0 0 ∧ d x0 0 < 6) ∧ tRun E 35 (20, [.inr (3, x0), .inl (0, x1), .inl (0, x2), .inl (0, x3), .inl (0, x4)], [], 0, 0, mset d (x0 + 1) (d x0 0) x1) K) ∧ (6 ≤ d x0 0 → K (.inl none) d)) :
  tRun E 35 (0, [.inr (3, x0), .inl (0, x1), .inl (0, x2), .inl (0, x3), .inl (0, x4)], [], 0, 0, d) K := tT_run (cut := [0, 20, 30, 40, 51, 61, 71]) 10 _ h
theorem t_35_20 {E : mO × tW} {K : tK} {d : mD} {x0 x1 x2 x3 x4 : Int}
  (h : (0 ≤ d x0 0 ∧ d x0 0 < 6) ∧ tRun E 35 (30, [.inr (3, x0), .inl (0, x1), .inl (0, x2), .inl (0, x3), .inl (0, x4)], [], 0, 0, mset d (x0 + 2) (d x0 0) x2) K) :
  tRun E 35 (20, [.inr (3, x0), .inl (0, x1), .inl (0, x2), .inl (0, x3), .inl (0, x4)], [], 0, 0, d) K := tT_run (cut := [0, 20, 30, 40, 51, 61, 71]) 6 _ h
theorem t_35_30 {E : mO × tW} {K : tK} {d : mD} {x0 x1 x2 x3 x4 : Int}
  (h : (0 ≤ d x0 0 ∧ d x0 0 < 6) ∧ tRun E 35 (40, [.inr (3, x0), .inl (0, x1), .inl (0, x2), .inl (0, x3), .inl (0, x4)], [], 0, 0, mset d (x0 + 3) (d x0 0) x3) K) :
  tRun E 35 (30, [.inr (3, x0), .inl (0, x1), .inl (0, x2), .inl (0, x3), .inl (0, x4)], [], 0, 0, d) K := tT_run (cut := [0, 20, 30, 40, 51, 61, 71]) 6 _ h
theorem t_35_40 {E : mO × tW} {K : tK} {d : mD} {x0 x1 x2 x3 x4 : Int}
  (h : (0 ≤ d x0 0 ∧ d x0 0 < 6) ∧ tRun E 35 (51, [.inr (3, x0), .inl (0, x1), .inl (0, x2), .inl (0, x3), .inl (0, x4)], [], 0, 0, mset d (x0 + 4) (d x0 0) x4) K) :
  tRun E 35 (40, [.inr (3, x0), .inl (0, x1), .inl (0, x2), .inl (0, x3), .inl (0, x4)], [], 0, 0, d) K := tT_run (cut := [0, 20, 30, 40, 51, 61, 71]) 6 _ h
theorem t_35_51 {E : mO × tW} {K : tK} {d : mD} {x0 x1 x2 x3 x4 : Int}
  (h : (((1 : Int) = 0 ∨ (1 : Int) = 1) ∧ 0 ≤ d x0 0 ∧ d x0 0 < 6) ∧ tRun E 35 (61, [.inr (3, x0), .inl (0, x1), .inl (0, x2), .inl (0, x3), .inl (0, x4)], [], 0, 0, mset d (x0 + 5) (d x0 0) 1) K) :
  tRun E 35 (51, [.inr (3, x0), .inl (0, x1), .inl (0, x2), .inl (0, x3), .inl (0, x4)], [], 0, 0, d) K := tT_run (cut := [0, 20, 30, 40, 51, 61, 71]) 6 _ h
theorem t_35_61 {E : mO × tW} {K : tK} {d : mD} {x0 x1 x2 x3 x4 : Int}
  (h : (0 ≤ d x0 0 ∧ d x0 0 < 6) ∧ tRun E 35 (71, [.inr (3, x0), .inl (0, x1), .inl (0, x2), .inl (0, x3), .inl (0, x4)], [], 0, 0, mset d (x0 + 6) (d x0 0) 0) K) :
  tRun E 35 (61, [.inr (3, x0), .inl (0, x1), .inl (0, x2), .inl (0, x3), .inl (0, x4)], [], 0, 0, d) K := tT_run (cut := [0, 20, 30, 40, 51, 61, 71]) 6 _ h
theorem t_35_71 {E : mO × tW} {K : tK} {d : mD} {x0 x1 x2 x3 x4 : Int}
  (h : K (.inl none) (mset d x0 0 ((d x0 0) + 1))) :
  tRun E 35 (71, [.inr (3, x0), .inl (0, x1), .inl (0, x2), .inl (0, x3), .inl (0, x4)], [], 0, 0, d) K := tT_run (cut := [0, 20, 30, 40, 51, 61, 71]) 7 _ h
theorem t_36_0 {E : mO × tW} {K : tK} {d : mD} {x0 x1 : Int}
  (h : tRun E 36 (2, [.inr (3, x0), .inl (0, x1), .inl (0, 0)], [], 0, 0, d) K) :
  tRun E 36 (0, [.inr (3, x0), .inl (0, x1), tu], [], 0, 0, d) K := tT_run (cut := [0, 2]) 2 _ h
theorem t_36_2 {E : mO × tW} {K : tK} {d : mD} {x0 x1 x2 : Int}
  (h : (mInR x2 ∧ mInR (d x0 0)) ∧ (d x0 0 ≤ x2 → K (.inl (some (0, (-1)))) d) ∧ (x2 < d x0 0 → (0 ≤ x2 ∧ x2 < 6) ∧ (mInR (d (x0 + 1) x2) ∧ mInR x1) ∧ (¬ d (x0 + 1) x2 = x1 → tRun E 36 (2, [.inr (3, x0), .inl (0, x1), .inl (0, x2 + 1)], [], 0, 0, d) K) ∧ (d (x0 + 1) x2 = x1 → K (.inl (some (0, x2))) d))) :
  tRun E 36 (2, [.inr (3, x0), .inl (0, x1), .inl (0, x2)], [], 0, 0, d) K := tT_run (cut := [0, 2]) 12 _ h
theorem t_37_0 {E : mO × tW} {K : tK} {d : mD} {x0 : Int}
  (h : tRun E 37 (4, [.inr (3, x0), .inl (0, 0), .inl (0, 0)], [], 0, 0, d) K) :
  tRun E 37 (0, [.inr (3, x0), tu, tu], [], 0, 0, d) K := tT_run (cut := [0, 4]) 4 _ h
theorem t_37_4 {E : mO × tW} {K : tK} {d : mD} {x0 x1 x2 : Int}
  (h : (mInR x2 ∧ mInR (d x0 0)) ∧ (d x0 0 ≤ x2 → K (.inl (some (0, x1))) d) ∧ (x2 < d x0 0 → (0 ≤ x2 ∧ x2 < 6) ∧ mInR (d (x0 + 5) x2) ∧ (d (x0 + 5) x2 = 0 → tRun E 37 (4, [.inr (3, x0), .inl (0, x1 + 0), .inl (0, x2 + 1)], [], 0, 0, d) K) ∧ (¬ d (x0 + 5) x2 = 0 → tRun E 37 (4, [.inr (3, x0), .inl (0, x1 + 1), .inl (0, x2 + 1)], [], 0, 0, d) K))) :
  tRun E 37 (4, [.inr (3, x0), .inl (0, x1), .inl (0, x2)], [], 0, 0, d) K := tT_run (cut := [0, 4]) 16 _ h
theorem t_38_0 {E : mO × tW} {K : tK} {d : mD} {x0 x1 x2 : Int}
  (h : (0 ≤ (x1 * 16) + x2 ∧ (x1 * 16) + x2 < 96) ∧ K (.inl (some (0, d (x0 + 7) ((x1 * 16) + x2)))) d) :
  tRun E 38 (0, [.inr (3, x0), .inl (0, x1), .inl (0, x2)], [], 0, 0, d) K := tT_run (cut := [0]) 9 _ h
theorem t_39_0 {E : mO × tW} {K : tK} {d : mD} {x0 x1 x2 : Int}
  (h : tRun E 39 (2, [.inr (3, x0), .inl (0, x1), .inl (0, x2), .inl (0, 0)], [], 0, 0, d) K) :
  tRun E 39 (0, [.inr (3, x0), .inl (0, x1), .inl (0, x2), tu], [], 0, 0, d) K := tT_run (cut := [0, 2, 18]) 2 _ h
theorem t_39_2 {E : mO × tW} {K : tK} {d : mD} {x0 x1 x2 x3 : Int}
  (h : (0 ≤ x1 ∧ x1 < 6) ∧ (mInR x3 ∧ mInR (d (x0 + 6) x1)) ∧ (d (x0 + 6) x1 ≤ x3 → K (.inl (some (0, (-1)))) d) ∧ (x3 < d (x0 + 6) x1 → tCall E 38 [.inr (3, x0), .inl (0, x1), .inl (0, x3)] d (tbk E 39 15 [.inr (3, x0), .inl (0, x1), .inl (0, x2), .inl (0, x3)] [] 0 0 K))) :
  tRun E 39 (2, [.inr (3, x0), .inl (0, x1), .inl (0, x2), .inl (0, x3)], [], 0, 0, d) K := tT_run (cut := [0, 2, 18]) 10 _ h
theorem t_39_18 {E : mO × tW} {K : tK} {d : mD} {x0 x1 x2 x3 y0 : Int}
  (h : (mInR y0 ∧ mInR x2) ∧ (¬ y0 = x2 → tRun E 39 (2, [.inr (3, x0), .inl (0, x1), .inl (0, x2), .inl (0, x3 + 1)], [], 0, 0, d) K) ∧ (y0 = x2 → K (.inl (some (0, x3))) d)) :
  tRun E 39 (18, [.inr (3, x0), .inl (0, x1), .inl (0, x2), .inl (0, x3)], [.inl (0, y0)], 0, 0, d) K := tT_run (cut := [0, 2, 18]) 4 _ h
theorem t_40_0 {E : mO × tW} {K : tK} {d : mD} {x0 x1 x2 x3 : Int}
  (h : mInR x2 ∧ (x2 < 0 → K (.inl none) d) ∧ (0 ≤ x2 → (0 ≤ x1 ∧ x1 < 6) ∧ (mInR x2 ∧ mInR (d (x0 + 6) x1)) ∧ (d (x0 + 6) x1 < x2 → K (.inl none) d) ∧ (x2 ≤ d (x0 + 6) x1 → (0 ≤ x1 ∧ x1 < 6) ∧ (mInR (d (x0 + 6) x1) ∧ mInR 16) ∧ (d (x0 + 6) x1 < 16 → (0 ≤ x1 ∧ x1 < 6) ∧ tRun E 40 (40, [.inr (3, x0), .inl (0, x1), .inl (0, x2), .inl (0, x3), .inl (0, x1 * 16), .inl (0, d (x0 + 6) x1)], [], 0, 0, d) K) ∧ (16 ≤ d (x0 + 6) x1 → K (.inl none) d)))) :
  tRun E 40 (0, [.inr (3, x0), .inl (0, x1), .inl (0, x2), .inl (0, x3), tu, tu], [], 0, 0, d) K := tT_run (cut := [0, 40]) 23 _ h
theorem t_40_40 {E : mO × tW} {K : tK} {d : mD} {x0 x1 x2 x3 x4 x5 : Int}
  (h : (mInR x5 ∧ mInR x2) ∧ (x5 ≤ x2 → (0 ≤ x4 + x2 ∧ x4 + x2 < 96) ∧ (0 ≤ x1 ∧ x1 < 6) ∧ (0 ≤ x1 ∧ x1 < 6) ∧ K (.inl none) (mset (mset d (x0 + 7) (x4 + x2) x3) (x0 + 6) x1 (((mset d (x0 + 7) (x4 + x2) x3) (x0 + 6) x1) + 1))) ∧ (x2 < x5 → (0 ≤ (x4 + x5) - 1 ∧ (x4 + x5) - 1 < 96) ∧ (0 ≤ x4 + x5 ∧ x4 + x5 < 96) ∧ tRun E 40 (40, [.inr (3, x0), .inl (0, x1), .inl (0, x2), .inl (0, x3), .inl (0, x4), .inl (0, x5 + (-1))], [], 0, 0, mset d (x0 + 7) (x4 + x5) (d (x0 + 7) ((x4 + x5) - 1))) K)) :
  tRun E 40 (40, [.inr (3, x0), .inl (0, x1), .inl (0, x2), .inl (0, x3), .inl (0, x4), .inl (0, x5)], [], 0, 0, d) K := tT_run (cut := [0, 40]) 19 _ h
theorem t_41_0 {E : mO × tW} {K : tK} {d : mD} {x0 x1 x2 : Int}
  (h : mInR x2 ∧ (x2 < 0 → K (.inl none) d) ∧ (0 ≤ x2 → (0 ≤ x1 ∧ x1 < 6) ∧ (mInR x2 ∧ mInR (d (x0 + 6) x1)) ∧ (x2 < d (x0 + 6) x1 → tRun E 41 (25, [.inr (3, x0), .inl (0, x1), .inl (0, x2), .inl (0, x1 * 16), .inl (0, x2 + 1)], [], 0, 0, d) K) ∧ (d (x0 + 6) x1 ≤ x2 → K (.inl none) d))) :
  tRun E 41 (0, [.inr (3, x0), .inl (0, x1), .inl (0, x2), tu, tu], [], 0, 0, d) K := tT_run (cut := [0, 25]) 16 _ h
theorem t_41_25 {E : mO × tW} {K : tK} {d : mD} {x0 x1 x2 x3 x4 : Int}
  (h : (0 ≤ x1 ∧ x1 < 6) ∧ (mInR x4 ∧ mInR (d (x0 + 6) x1)) ∧ (d (x0 + 6) x1 ≤ x4 → (0 ≤ x1 ∧ x1 < 6) ∧ (0 ≤ x1 ∧ x1 < 6) ∧ K (.inl none) (mset d (x0 + 6) x1 ((d (x0 + 6) x1) - 1))) ∧ (x4 < d (x0 + 6) x1 → (0 ≤ x3 + x4 ∧ x3 + x4 < 96) ∧ (0 ≤ (x3 + x4) - 1 ∧ (x3 + x4) - 1 < 96) ∧ tRun E 41 (25, [.inr (3, x0), .inl (0, x1), .inl (0, x2), .inl (0, x3), .inl (0, x4 + 1)], [], 0, 0, mset d (x0 + 7) ((x3 + x4) - 1) (d (x0 + 7) (x3 + x4))) K)) :
  tRun E 41 (25, [.inr (3, x0), .inl (0, x1), .inl (0, x2), .inl (0, x3), .inl (0, x4)], [], 0, 0, d) K := tT_run (cut := [0, 25]) 22 _ h
theorem t_42_0 {E : mO × tW} {K : tK} {d : mD} {x0 x1 x2 : Int}
  (h : (0 ≤ x1 ∧ x1 < 6) ∧ mInR (d (x0 + 5) x1) ∧ (d (x0 + 5) x1 = 0 → K (.inl (some (0, 0))) d) ∧ (¬ d (x0 + 5) x1 = 0 → (0 ≤ x1 ∧ x1 < 6) ∧ (mInR 1 ∧ mInR (d (x0 + 3) x1)) ∧ (0 ≤ x2 ∧ x2 ≤ 2147483647 ∧ 0 < mmax 1 (d (x0 + 3) x1) ∧ mmax 1 (d (x0 + 3) x1) ≤ 2147483647) ∧ mInR (x2 % (mmax 1 (d (x0 + 3) x1))) ∧ (x2 % (mmax 1 (d (x0 + 3) x1)) = 0 → (0 ≤ x1 ∧ x1 < 6) ∧ (0 ≤ x1 ∧ x1 < 6) ∧ (mInR (d (x0 + 2) x1) ∧ mInR (d (x0 + 6) x1)) ∧ K (.inl (some (0, mmin (d (x0 + 2) x1) (d (x0 + 6) x1)))) d) ∧ (¬ x2 % (mmax 1 (d (x0 + 3) x1)) = 0 → K (.inl (some (0, 0))) d))) :
  tRun E 42 (0, [.inr (3, x0), .inl (0, x1), .inl (0, x2)], [], 0, 0, d) K := tT_run (cut := [0]) 24 _ h
theorem t_43_0 {E : mO × tW} {K : tK} {d : mD} {x0 x1 x2 x3 : Int}
  (h : (0 ≤ x1 ∧ x1 < 6) ∧ (mInR 1 ∧ mInR (d (x0 + 3) x1)) ∧ (0 ≤ x1 ∧ x1 < 6) ∧ (mInR 1 ∧ mInR (d (x0 + 2) x1)) ∧ (0 ≤ x2 ∧ x2 ≤ 2147483647 ∧ 0 < mmax 1 (d (x0 + 2) x1) ∧ mmax 1 (d (x0 + 2) x1) ≤ 2147483647) ∧ (0 ≤ x3 ∧ x3 ≤ 2147483647 ∧ 0 < mmax 1 (d (x0 + 3) x1) ∧ mmax 1 (d (x0 + 3) x1) ≤ 2147483647) ∧ K (.inl (some (0, (((x3 / (mmax 1 (d (x0 + 3) x1))) + ((x2 / (mmax 1 (d (x0 + 2) x1))) + 1)) * (mmax 1 (d (x0 + 3) x1))) - x3))) d) :
  tRun E 43 (0, [.inr (3, x0), .inl (0, x1), .inl (0, x2), .inl (0, x3), tu, tu], [], 0, 0, d) K := tT_run (cut := [0]) 28 _ h
theorem t_44_0 {E : mO × tW} {K : tK} {d : mD} {x0 x1 x2 x3 : Int}
  (h : (0 ≤ x1 ∧ x1 < 6) ∧ (mInR 1 ∧ mInR (d (x0 + 3) x1)) ∧ (0 ≤ x3 + x2 ∧ x3 + x2 ≤ 2147483647 ∧ 0 < mmax 1 (d (x0 + 3) x1) ∧ mmax 1 (d (x0 + 3) x1) ≤ 2147483647) ∧ (0 ≤ x3 ∧ x3 ≤ 2147483647 ∧ 0 < mmax 1 (d (x0 + 3) x1) ∧ mmax 1 (d (x0 + 3) x1) ≤ 2147483647) ∧ (0 ≤ x1 ∧ x1 < 6) ∧ (0 ≤ x1 ∧ x1 < 6) ∧ (mInR 0 ∧ mInR ((d (x0 + 6) x1) - ((((x3 + x2) / (mmax 1 (d (x0 + 3) x1))) - (x3 / (mmax 1 (d (x0 + 3) x1)))) * (d (x0 + 2) x1)))) ∧ K (.inl (some (0, mmax 0 ((d (x0 + 6) x1) - ((((x3 + x2) / (mmax 1 (d (x0 + 3) x1))) - (x3 / (mmax 1 (d (x0 + 3) x1)))) * (d (x0 + 2) x1)))))) d) :
  tRun E 44 (0, [.inr (3, x0), .inl (0, x1), .inl (0, x2), .inl (0, x3), tu, tu], [], 0, 0, d) K := tT_run (cut := [0]) 31 _ h
theorem t_46_0 {E : mO × tW} {K : tK} {d : mD} {x0 x1 : Int}
  (h : (0 ≤ (0 : Int) ∧ 0 ≤ (0 : Int) ∧ 0 ≤ (16 : Int) ∧ (0 : Int) + (16 : Int) ≤ 16 ∧ (0 : Int) + (16 : Int) ≤ 16) ∧ tRun E 46 (23, [.inr (4, x0), .inr (4, x1), tu], [], 0, 0, mcopy (mset d x0 0 (d x1 0)) (x1 + 1) 0 (x0 + 1) 0 16) K) :
  tRun E 46 (0, [.inr (4, x0), .inr (4, x1), tu], [], 0, 0, d) K := tT_run (cut := [0, 23, 38, 53, 68, 83, 85, 108]) 12 _ h
theorem t_46_23 {E : mO × tW} {K : tK} {d : mD} {x0 x1 : Int}
  (h : (0 ≤ (0 : Int) ∧ 0 ≤ (0 : Int) ∧ 0 ≤ (16 : Int) ∧ (0 : Int) + (16 : Int) ≤ 16 ∧ (0 : Int) + (16 : Int) ≤ 16) ∧ tRun E 46 (38, [.inr (4, x0), .inr (4, x1), tu], [], 0, 0, mcopy d (x1 + 2) 0 (x0 + 2) 0 16) K) :
  tRun E 46 (23, [.inr (4, x0), .inr (4, x1), tu], [], 0, 0, d) K := tT_run (cut := [0, 23, 38, 53, 68, 83, 85, 108]) 8 _ h
theorem t_46_38 {E : mO × tW} {K : tK} {d : mD} {x0 x1 : Int}
  (h : (0 ≤ (0 : Int) ∧ 0 ≤ (0 : Int) ∧ 0 ≤ (16 : Int) ∧ (0 : Int) + (16 : Int) ≤ 16 ∧ (0 : Int) + (16 : Int) ≤ 16) ∧ tRun E 46 (53, [.inr (4, x0), .inr (4, x1), tu], [], 0, 0, mcopy d (x1 + 3) 0 (x0 + 3) 0 16) K) :
  tRun E 46 (38, [.inr (4, x0), .inr (4, x1), tu], [], 0, 0, d) K := tT_run (cut := [0, 23, 38, 53, 68, 83, 85, 108]) 8 _ h
theorem t_46_53 {E : mO × tW} {K : tK} {d : mD} {x0 x1 : Int}
  (h : (0 ≤ (0 : Int) ∧ 0 ≤ (0 : Int) ∧ 0 ≤ (16 : Int) ∧ (0 : Int) + (16 : Int) ≤ 16 ∧ (0 : Int) + (16 : Int) ≤ 16) ∧ tRun E 46 (68, [.inr (4, x0), .inr (4, x1), tu], [], 0, 0, mcopy d (x1 + 4) 0 (x0 + 4) 0 16) K) :
  tRun E 46 (53, [.inr (4, x0), .inr (4, x1), tu], [], 0, 0, d) K := tT_run (cut := [0, 23, 38, 53, 68, 83, 85, 108]) 8 _ h
theorem t_46_68 {E : mO × tW} {K : tK} {d : mD} {x0 x1 : Int}
  (h : (0 ≤ (0 : Int) ∧ 0 ≤ (0 : Int) ∧ 0 ≤ (16 : Int) ∧ (0 : Int) + (16 : Int) ≤ 16 ∧ (0 : Int) + (16 : Int) ≤ 16) ∧ tRun E 46 (83, [.inr (4, x0), .inr (4, x1), tu], [], 0, 0, mcopy d (x1 + 5) 0 (x0 + 5) 0 16) K) :
  tRun E 46 (68, [.inr (4, x0), .inr (4, x1), tu], [], 0, 0, d) K := tT_run (cut := [0, 23, 38, 53, 68, 83, 85, 108]) 8 _ h
theorem t_46_83 {E : mO × tW} {K : tK} {d : mD} {x0 x1 : Int}
  (h : tRun E 46 (85, [.inr (4, x0), .inr (4, x1), .inl (0, 0)], [], 0, 0, d) K) :
  tRun E 46 (83, [.inr (4, x0), .inr (4, x1), tu], [], 0, 0, d) K := tT_run (cut := [0, 23, 38, 53, 68, 83, 85, 108]) 2 _ h
theorem t_46_85 {E : mO × tW} {K : tK} {d : mD} {x0 x1 x2 : Int}
  (h : (mInR x2 ∧ mInR (d x0 0)) ∧ (d x0 0 ≤ x2 → K (.inl none) d) ∧ (x2 < d x0 0 → (0 ≤ x2 ∧ x2 < 16) ∧ (0 ≤ x2 ∧ x2 < 16) ∧ tCall E 11 [.inr (1, x0 + 6 + (1 + 2 * x2)), .inr (1, x1 + 6 + (1 + 2 * x2))] d (tbk E 46 105 [.inr (4, x0), .inr (4, x1), .inl (0, x2)] [] 0 0 K))) :
  tRun E 46 (85, [.inr (4, x0), .inr (4, x1), .inl (0, x2)], [], 0, 0, d) K := tT_run (cut := [0, 23, 38, 53, 68, 83, 85, 108]) 13 _ h
theorem t_46_108 {E : mO × tW} {K : tK} {d : mD} {x0 x1 x2 : Int}
  (h : tRun E 46 (85, [.inr (4, x0), .inr (4, x1), .inl (0, x2 + 1)], [], 0, 0, d) K) :
  tRun E 46 (108, [.inr (4, x0), .inr (4, x1), .inl (0, x2)], [], 0, 0, d) K := tT_run (cut := [0, 23, 38, 53, 68, 83, 85, 108]) 2 _ h
theorem t_47_0 {E : mO × tW} {K : tK} {d : mD} {x0 x1 : Int}
  (h : (mInR (d x0 0) ∧ mInR 16) ∧ (d x0 0 < 16 → (0 ≤ d x0 0 ∧ d x0 0 < 16) ∧ tRun E 47 (20, [.inr (4, x0), .inl (0, x1)], [], 0, 0, mset d (x0 + 1) (d x0 0) x1) K) ∧ (16 ≤ d x0 0 → K (.inl none) d)) :
  tRun E 47 (0, [.inr (4, x0), .inl (0, x1)], [], 0, 0, d) K := tT_run (cut := [0, 20, 30, 40, 50, 60, 72]) 10 _ h
theorem t_47_20 {E : mO × tW} {K : tK} {d : mD} {x0 x1 : Int}
  (h : (0 ≤ d x0 0 ∧ d x0 0 < 16) ∧ tRun E 47 (30, [.inr (4, x0), .inl (0, x1)], [], 0, 0, mset d (x0 + 2) (d x0 0) 0) K) :
  tRun E 47 (20, [.inr (4, x0), .inl (0, x1)], [], 0, 0, d) K := tT_run (cut := [0, 20, 30, 40, 50, 60, 72]) 6 _ h
theorem t_47_30 {E : mO × tW} {K : tK} {d : mD} {x0 x1 : Int}
  (h : (0 ≤ d x0 0 ∧ d x0 0 < 16) ∧ tRun E 47 (40, [.inr (4, x0), .inl (0, x1)], [], 0, 0, mset d (x0 + 3) (d x0 0) 0) K) :
  tRun E 47 (30, [.inr (4, x0), .inl (0, x1)], [], 0, 0, d) K := tT_run (cut := [0, 20, 30, 40, 50, 60, 72]) 6 _ h
theorem t_47_40 {E : mO × tW} {K : tK} {d : mD} {x0 x1 : Int}
  (h : (0 ≤ d x0 0 ∧ d x0 0 < 16) ∧ tRun E 47 (50, [.inr (4, x0), .inl (0, x1)], [], 0, 0, mset d (x0 + 4) (d x0 0) 0) K) :
  tRun E 47 (40, [.inr (4, x0), .inl (0, x1)], [], 0, 0, d) K := tT_run (cut := [0, 20, 30, 40, 50, 60, 72]) 6 _ h
theorem t_47_50 {E : mO × tW} {K : tK} {d : mD} {x0 x1 : Int}
  (h : (0 ≤ d x0 0 ∧ d x0 0 < 16) ∧ tRun E 47 (60, [.inr (4, x0), .inl (0, x1)], [], 0, 0, mset d (x0 + 5) (d x0 0) 0) K) :
  tRun E 47 (50, [.inr (4, x0), .inl (0, x1)], [], 0, 0, d) K := tT_run (cut := [0, 20, 30, 40, 50, 60, 72]) 6 _ h
theorem t_47_60 {E : mO × tW} {K : tK} {d : mD} {x0 x1 : Int}
  (h : (0 ≤ d x0 0 ∧ d x0 0 < 16) ∧ tCall E 8 [.inr (1, x0 + 6 + (1 + 2 * (d x0 0)))] d (tbk E 47 69 [.inr (4, x0), .inl (0, x1)] [] 0 0 K)) :
  tRun E 47 (60, [.inr (4, x0), .inl (0, x1)], [], 0, 0, d) K := tT_run (cut := [0, 20, 30, 40, 50, 60, 72]) 6 _ h
theorem t_47_72 {E : mO × tW} {K : tK} {d : mD} {x0 x1 : Int}
  (h : K (.inl none) (mset d x0 0 ((d x0 0) + 1))) :
  tRun E 47 (72, [.inr (4, x0), .inl (0, x1)], [], 0, 0, d) K := tT_run (cut := [0, 20, 30, 40, 50, 60, 72]) 7 _ h
theorem t_48_0 {E : mO × tW} {K : tK} {d : mD} {x0 x1 : Int}
  (h : tRun E 48 (2, [.inr (4, x0), .inl (0, x1), .inl (0, 0)], [], 0, 0, d) K) :
  tRun E 48 (0, [.inr (4, x0), .inl (0, x1), tu], [], 0, 0, d) K := tT_run (cut := [0, 2]) 2 _ h
theorem t_48_2 {E : mO × tW} {K : tK} {d : mD} {x0 x1 x2 : Int}
  (h : (mInR x2 ∧ mInR (d x0 0)) ∧ (d x0 0 ≤ x2 → K (.inl (some (0, (-1)))) d) ∧ (x2 < d x0 0 → (0 ≤ x2 ∧ x2 < 16) ∧ (mInR (d (x0 + 1) x2) ∧ mInR x1) ∧ (¬ d (x0 + 1) x2 = x1 → tRun E 48 (2, [.inr (4, x0), .inl (0, x1), .inl (0, x2 + 1)], [], 0, 0, d) K) ∧ (d (x0 + 1) x2 = x1 → K (.inl (some (0, x2))) d))) :
  tRun E 48 (2, [.inr (4, x0), .inl (0, x1), .inl (0, x2)], [], 0, 0, d) K := tT_run (cut := [0, 2]) 12 _ h
theorem t_49_0 {E : mO × tW} {K : tK} {d : mD} {x0 : Int}
  (h : tCall E 299 [.inr (18, x0 + 3), .inl (0, 0)] d (tbk E 49 5 [.inr (4, x0)] [] 0 0 K)) :
  tRun E 49 (0, [.inr (4, x0)], [], 0, 0, d) K := tT_run (cut := [0, 8, 16, 24]) 4 _ h
theorem t_49_8 {E : mO × tW} {K : tK} {d : mD} {x0 : Int}
  (h : tCall E 299 [.inr (18, x0 + 4), .inl (0, 0)] d (tbk E 49 13 [.inr (4, x0)] [] 0 0 K)) :
  tRun E 49 (8, [.inr (4, x0)], [], 0, 0, d) K := tT_run (cut := [0, 8, 16, 24]) 4 _ h
theorem t_49_16 {E : mO × tW} {K : tK} {d : mD} {x0 : Int}
  (h : tCall E 299 [.inr (18, x0 + 5), .inl (0, 0)] d (tbk E 49 21 [.inr (4, x0)] [] 0 0 K)) :
  tRun E 49 (16, [.inr (4, x0)], [], 0, 0, d) K := tT_run (cut := [0, 8, 16, 24]) 4 _ h
theorem t_49_24 {E : mO × tW} {K : tK} {d : mD} {x0 : Int}
  (h : K (.inl none) d) :
  tRun E 49 (24, [.inr (4, x0)], [], 0, 0, d) K := tT_run (cut := [0, 8, 16, 24]) 1 _ h
theorem t_51_0 {E : mO × tW} {K : tK} {d : mD} {x0 : Int}
  (h : tCall E 52 [.inr (5, x0)] (mset d x0 3 0) (tbk E 51 6 [.inr (5, x0)] [] 0 0 K)) :
  tRun E 51 (0, [.inr (5, x0)], [], 0, 0, d) K := tT_run (cut := [0, 9]) 5 _ h
theorem t_51_9 {E : mO × tW} {K : tK} {d : mD} {x0 : Int}
  (h : K (.inl none) d) :
  tRun E 51 (9, [.inr (5, x0)], [], 0, 0, d) K := tT_run (cut := [0, 9]) 1 _ h
theorem t_52_0 {E : mO × tW} {K : tK} {d : mD} {x0 : Int}
  (h : tRun E 52 (8, [.inr (5, x0)], [], 0, 0, mset d x0 2 (d x0 3)) K) :
  tRun E 52 (0, [.inr (5, x0)], [], 0, 0, d) K := tT_run (cut := [0, 8, 33, 90, 97, 111, 118]) 4 _ h
theorem t_52_8 {E : mO × tW} {K : tK} {d : mD} {x0 : Int}
  (h : (mInR (d x0 2) ∧ mInR (d (x0 + 1) 1)) ∧ (d (x0 + 1) 1 ≤ d x0 2 → (mInR ((mset d x0 3 (d x0 2)) x0 2) ∧ mInR ((mset d x0 3 (d x0 2)) (x0 + 1) 1)) ∧ ((mset d x0 3 (d x0 2)) x0 2 < (mset d x0 3 (d x0 2)) (x0 + 1) 1 → tCall E 91 [.inr (7, x0 + 1), .inl (0, (mset d x0 3 (d x0 2)) x0 2)] (mset d x0 3 (d x0 2)) (tbk E 52 87 [.inr (5, x0)] [] 0 0 K)) ∧ ((mset d x0 3 (d x0 2)) (x0 + 1) 1 ≤ (mset d x0 3 (d x0 2)) x0 2 → K (.inl none) (mset (mset d x0 3 (d x0 2)) x0 1 3))) ∧ (d x0 2 < d (x0 + 1) 1 → tCall E 90 [.inr (7, x0 + 1), .inl (0, d x0 2)] d (tbk E 52 30 [.inr (5, x0)] [] 0 0 K))) :
  tRun E 52 (8, [.inr (5, x0)], [], 0, 0, d) K := tT_run (cut := [0, 8, 33, 90, 97, 111, 118]) 21 _ h
theorem t_52_33 {E : mO × tW} {K : tK} {d : mD} {x0 y0 : Int}
  (h : mInR y0 ∧ (y0 = 0 → (mInR ((mset d x0 3 (d x0 2)) x0 2) ∧ mInR ((mset d x0 3 (d x0 2)) (x0 + 1) 1)) ∧ ((mset d x0 3 (d x0 2)) x0 2 < (mset d x0 3 (d x0 2)) (x0 + 1) 1 → tCall E 91 [.inr (7, x0 + 1), .inl (0, (mset d x0 3 (d x0 2)) x0 2)] (mset d x0 3 (d x0 2)) (tbk E 52 87 [.inr (5, x0)] [] 0 0 K)) ∧ ((mset d x0 3 (d x0 2)) (x0 + 1) 1 ≤ (mset d x0 3 (d x0 2)) x0 2 → K (.inl none) (mset (mset d x0 3 (d x0 2)) x0 1 3))) ∧ (¬ y0 = 0 → tRun E 52 (8, [.inr (5, x0)], [], 0, 0, mset d x0 2 ((d x0 2) + 1)) K)) :
  tRun E 52 (33, [.inr (5, x0)], [.inl (0, y0)], 0, 0, d) K := tT_run (cut := [0, 8, 33, 90, 97, 111, 118]) 16 _ h
theorem t_52_90 {E : mO × tW} {K : tK} {d : mD} {x0 y0 : Int}
  (h : mInR y0 ∧ (y0 = 0 → tCall E 92 [.inr (7, x0 + 1), .inl (0, d x0 2)] d (tbk E 52 108 [.inr (5, x0)] [] 0 0 K)) ∧ (¬ y0 = 0 → tCall E 53 [.inr (5, x0)] d (tbk E 52 94 [.inr (5, x0)] [] 0 0 K))) :
  tRun E 52 (90, [.inr (5, x0)], [.inl (0, y0)], 0, 0, d) K := tT_run (cut := [0, 8, 33, 90, 97, 111, 118]) 6 _ h
theorem t_52_97 {E : mO × tW} {K : tK} {d : mD} {x0 : Int}
  (h : K (.inl none) d) :
  tRun E 52 (97, [.inr (5, x0)], [], 0, 0, d) K := tT_run (cut := [0, 8, 33, 90, 97, 111, 118]) 2 _ h
theorem t_52_111 {E : mO × tW} {K : tK} {d : mD} {x0 y0 : Int}
  (h : mInR y0 ∧ (y0 = 0 → (0 ≤ d x0 2 ∧ d x0 2 < 1000) ∧ (mInR (d (x0 + 1 + 1) (d x0 2)) ∧ mInR 59) ∧ (¬ d (x0 + 1 + 1) (d x0 2) = 59 → K (.inl none) (mset (mset d x0 1 4) x0 3 (((mset d x0 1 4) x0 3) + 1))) ∧ (d (x0 + 1 + 1) (d x0 2) = 59 → K (.inl none) (mset (mset d x0 1 2) x0 3 (((mset d x0 1 2) x0 3) + 1)))) ∧ (¬ y0 = 0 → tCall E 54 [.inr (5, x0)] d (tbk E 52 115 [.inr (5, x0)] [] 0 0 K))) :
  tRun E 52 (111, [.inr (5, x0)], [.inl (0, y0)], 0, 0, d) K := tT_run (cut := [0, 8, 33, 90, 97, 111, 118]) 20 _ h
theorem t_52_118 {E : mO × tW} {K : tK} {d : mD} {x0 : Int}
  (h : K (.inl none) d) :
  tRun E 52 (118, [.inr (5, x0)], [], 0, 0, d) K := tT_run (cut := [0, 8, 33, 90, 97, 111, 118]) 2 _ h
theorem t_53_0 {E : mO × tW} {K : tK} {d : mD} {x0 : Int}
  (h : (mInR (d x0 3) ∧ mInR (d (x0 + 1) 1)) ∧ (d (x0 + 1) 1 ≤ d x0 3 → K (.inl none) (mset d x0 1 0)) ∧ (d x0 3 < d (x0 + 1) 1 → tCall E 91 [.inr (7, x0 + 1), .inl (0, d x0 3)] d (tbk E 53 22 [.inr (5, x0)] [] 0 0 K))) :
  tRun E 53 (0, [.inr (5, x0)], [], 0, 0, d) K := tT_run (cut := [0, 25]) 11 _ h
theorem t_53_25 {E : mO × tW} {K : tK} {d : mD} {x0 y0 : Int}
  (h : mInR y0 ∧ (y0 = 0 → K (.inl none) (mset d x0 1 0)) ∧ (¬ y0 = 0 → tRun E 53 (0, [.inr (5, x0)], [], 0, 0, mset d x0 3 ((d x0 3) + 1)) K)) :
  tRun E 53 (25, [.inr (5, x0)], [.inl (0, y0)], 0, 0, d) K := tT_run (cut := [0, 25]) 8 _ h
theorem t_54_0 {E : mO × tW} {K : tK} {d : mD} {x0 : Int}
  (h : tRun E 54 (5, [.inr (5, x0)], [], 0, 0, mset d x0 4 0) K) :
  tRun E 54 (0, [.inr (5, x0)], [], 0, 0, d) K := tT_run (cut := [0, 5, 30]) 3 _ h
theorem t_54_5 {E : mO × tW} {K : tK} {d : mD} {x0 : Int}
  (h : (mInR (d x0 3) ∧ mInR (d (x0 + 1) 1)) ∧ (d (x0 + 1) 1 ≤ d x0 3 → (mInR ((d x0 3) - (d x0 2)) ∧ mInR 5) ∧ ((d x0 3) - (d x0 2) ≤ 5 → K (.inl none) (mset d x0 1 1)) ∧ (5 < (d x0 3) - (d x0 2) → K (.inl none) (mset d x0 1 4))) ∧ (d x0 3 < d (x0 + 1) 1 → tCall E 92 [.inr (7, x0 + 1), .inl (0, d x0 3)] d (tbk E 54 27 [.inr (5, x0)] [] 0 0 K))) :
  tRun E 54 (5, [.inr (5, x0)], [], 0, 0, d) K := tT_run (cut := [0, 5, 30]) 18 _ h
theorem t_54_30 {E : mO × tW} {K : tK} {d : mD} {x0 y0 : Int}
  (h : mInR y0 ∧ (y0 = 0 → (mInR ((d x0 3) - (d x0 2)) ∧ mInR 5) ∧ ((d x0 3) - (d x0 2) ≤ 5 → K (.inl none) (mset d x0 1 1)) ∧ (5 < (d x0 3) - (d x0 2) → K (.inl none) (mset d x0 1 4))) ∧ (¬ y0 = 0 → (mInR ((d x0 3) - (d x0 2)) ∧ mInR 5) ∧ (5 ≤ (d x0 3) - (d x0 2) → tRun E 54 (5, [.inr (5, x0)], [], 0, 0, mset d x0 3 ((d x0 3) + 1)) K) ∧ ((d x0 3) - (d x0 2) < 5 → (0 ≤ d x0 3 ∧ d x0 3 < 1000) ∧ tRun E 54 (5, [.inr (5, x0)], [], 0, 0, mset (mset d x0 4 ((((d x0 4) * 10) + (d (x0 + 1 + 1) (d x0 3))) - 48)) x0 3 (((mset d x0 4 ((((d x0 4) * 10) + (d (x0 + 1 + 1) (d x0 3))) - 48)) x0 3) + 1)) K))) :
  tRun E 54 (30, [.inr (5, x0)], [.inl (0, y0)], 0, 0, d) K := tT_run (cut := [0, 5, 30]) 30 _ h
theorem t_55_0 {E : mO × tW} {K : tK} {d : mD} {x0 x1 : Int}
  (h : mInR (d x0 1) ∧ (¬ d x0 1 = 0 → ((0 : Int) = 0 ∨ (0 : Int) = 1) ∧ K (.inl (some (0, 0))) d) ∧ (d x0 1 = 0 → (0 ≤ x1 ∧ x1 < 7) ∧ (mInR ((d x0 3) - (d x0 2)) ∧ mInR (tsl x1)) ∧ ((d x0 3) - (d x0 2) = tsl x1 → tRun E 55 (27, [.inr (5, x0), .inl (5, x1), .inl (0, 0)], [], 0, 0, d) K) ∧ (¬ (d x0 3) - (d x0 2) = tsl x1 → ((0 : Int) = 0 ∨ (0 : Int) = 1) ∧ K (.inl (some (0, 0))) d))) :
  tRun E 55 (0, [.inr (5, x0), .inl (5, x1), tu], [], 0, 0, d) K := tT_run (cut := [0, 27]) 13 _ h
theorem t_55_27 {E : mO × tW} {K : tK} {d : mD} {x0 x1 x2 : Int}
  (h : (0 ≤ x1 ∧ x1 < 7) ∧ (mInR x2 ∧ mInR (tsl x1)) ∧ (tsl x1 ≤ x2 → ((1 : Int) = 0 ∨ (1 : Int) = 1) ∧ K (.inl (some (0, 1))) d) ∧ (x2 < tsl x1 → (0 ≤ (d x0 2) + x2 ∧ (d x0 2) + x2 < 1000) ∧ (0 ≤ x1 ∧ x1 < 7 ∧ 0 ≤ x2 ∧ x2 < tsl x1) ∧ (mInR (d (x0 + 1 + 1) ((d x0 2) + x2)) ∧ mInR (tsc x1 x2)) ∧ (d (x0 + 1 + 1) ((d x0 2) + x2) = tsc x1 x2 → tRun E 55 (27, [.inr (5, x0), .inl (5, x1), .inl (0, x2 + 1)], [], 0, 0, d) K) ∧ (¬ d (x0 + 1 + 1) ((d x0 2) + x2) = tsc x1 x2 → ((0 : Int) = 0 ∨ (0 : Int) = 1) ∧ K (.inl (some (0, 0))) d))) :
  tRun E 55 (27, [.inr (5, x0), .inl (5, x1), .inl (0, x2)], [], 0, 0, d) K := tT_run (cut := [0, 27]) 18 _ h
theorem t_56_0 {E : mO × tW} {K : tK} {d : mD} {x0 : Int}
  (h : mInR (d x0 1) ∧ (¬ d x0 1 = 0 → K (.inl (some (0, (-1)))) d) ∧ (d x0 1 = 0 → tCall E 93 [.inr (7, x0 + 1), .inl (0, d x0 2), .inl (0, d x0 3)] d (tbk E 56 19 [.inr (5, x0)] [] 0 0 K))) :
  tRun E 56 (0, [.inr (5, x0)], [], 0, 0, d) K := tT_run (cut := [0, 22]) 10 _ h
theorem t_56_22 {E : mO × tW} {K : tK} {d : mD} {x0 y0 : Int}
  (h : K (.inl (some (0, y0))) d) :
  tRun E 56 (22, [.inr (5, x0)], [.inl (0, y0)], 0, 0, d) K := tT_run (cut := [0, 22]) 2 _ h
theorem t_58_0 {E : mO × tW} {K : tK} {d : mD} {x0 : Int}
  (h : K (.inl none) (mset (mset (mset (mset (mset (mset (mset d x0 1 0) x0 2 0) (x0 + 2) 0 0) (x0 + 10) 0 0) (x0 + 49) 0 0) (x0 + 57) 0 0) (x0 + 57) 5 0)) :
  tRun E 58 (0, [.inr (6, x0)], [], 0, 0, d) K := tT_run (cut := [0]) 27 _ h
theorem t_59_0 {E : mO × tW} {K : tK} {d : mD} {x0 x1 : Int}
  (h : (0 ≤ (0 : Int) ∧ 0 ≤ (0 : Int) ∧ 0 ≤ (5 : Int) ∧ (0 : Int) + (5 : Int) ≤ 5 ∧ (0 : Int) + (5 : Int) ≤ 5) ∧ tCall E 34 [.inr (3, x0 + 2), .inr (3, x1 + 2)] (mset (mset (mcopy d (x1 + 1) 0 (x0 + 1) 0 5) x0 1 ((mcopy d (x1 + 1) 0 (x0 + 1) 0 5) x1 1)) x0 2 ((mset (mcopy d (x1 + 1) 0 (x0 + 1) 0 5) x0 1 ((mcopy d (x1 + 1) 0 (x0 + 1) 0 5) x1 1)) x1 2)) (tbk E 59 38 [.inr (6, x0), .inr (6, x1)] [] 0 0 K)) :
  tRun E 59 (0, [.inr (6, x0), .inr (6, x1)], [], 0, 0, d) K := tT_run (cut := [0, 41, 52, 63, 74]) 21 _ h
theorem t_59_41 {E : mO × tW} {K : tK} {d : mD} {x0 x1 : Int}
  (h : tCall E 46 [.inr (4, x0 + 10), .inr (4, x1 + 10)] d (tbk E 59 49 [.inr (6, x0), .inr (6, x1)] [] 0 0 K)) :
  tRun E 59 (41, [.inr (6, x0), .inr (6, x1)], [], 0, 0, d) K := tT_run (cut := [0, 41, 52, 63, 74]) 5 _ h
theorem t_59_52 {E : mO × tW} {K : tK} {d : mD} {x0 x1 : Int}
  (h : tCall E 95 [.inr (8, x0 + 49), .inr (8, x1 + 49)] d (tbk E 59 60 [.inr (6, x0), .inr (6, x1)] [] 0 0 K)) :
  tRun E 59 (52, [.inr (6, x0), .inr (6, x1)], [], 0, 0, d) K := tT_run (cut := [0, 41, 52, 63, 74]) 5 _ h
theorem t_59_63 {E : mO × tW} {K : tK} {d : mD} {x0 x1 : Int}
  (h : tCall E 108 [.inr (9, x0 + 57), .inr (9, x1 + 57)] d (tbk E 59 71 [.inr (6, x0), .inr (6, x1)] [] 0 0 K)) :
  tRun E 59 (63, [.inr (6, x0), .inr (6, x1)], [], 0, 0, d) K := tT_run (cut := [0, 41, 52, 63, 74]) 5 _ h
theorem t_59_74 {E : mO × tW} {K : tK} {d : mD} {x0 x1 : Int}
  (h : K (.inl none) d) :
  tRun E 59 (74, [.inr (6, x0), .inr (6, x1)], [], 0, 0, d) K := tT_run (cut := [0, 41, 52, 63, 74]) 1 _ h
theorem t_60_0 {E : mO × tW} {K : tK} {d : mD} {x0 x1 x2 : Int}
  (h : (mInR (d (x0 + 49) 0) ∧ mInR 60) ∧ (60 ≤ d (x0 + 49) 0 → ((0 : Int) = 0 ∨ (0 : Int) = 1) ∧ K (.inl (some (0, 0))) d) ∧ (d (x0 + 49) 0 < 60 → (0 ≤ x2 ∧ x2 < 6) ∧ mInR (d (x0 + 2 + 5) x2) ∧ (d (x0 + 2 + 5) x2 = 0 → ((0 : Int) = 0 ∨ (0 : Int) = 1) ∧ K (.inl (some (0, 0))) d) ∧ (¬ d (x0 + 2 + 5) x2 = 0 → (0 ≤ x2 ∧ x2 < 6) ∧ (0 ≤ x2 ∧ x2 < 6) ∧ (mInR (d (x0 + 2 + 6) x2) ∧ mInR (d (x0 + 2 + 4) x2)) ∧ (d (x0 + 2 + 4) x2 ≤ d (x0 + 2 + 6) x2 → ((0 : Int) = 0 ∨ (0 : Int) = 1) ∧ K (.inl (some (0, 0))) d) ∧ (d (x0 + 2 + 6) x2 < d (x0 + 2 + 4) x2 → tCall E 62 [.inr (6, x0), .inl (0, x2), .inl (0, x1)] d (tbk E 60 48 [.inr (6, x0), .inl (0, x1), .inl (0, x2)] [] 0 0 K))))) :
  tRun E 60 (0, [.inr (6, x0), .inl (0, x1), .inl (0, x2)], [], 0, 0, d) K := tT_run (cut := [0, 51]) 26 _ h
theorem t_60_51 {E : mO × tW} {K : tK} {d : mD} {x0 x1 x2 y0 : Int}
  (h : (mInR y0 ∧ mInR ((-1))) ∧ (¬ y0 = (-1) → ((0 : Int) = 0 ∨ (0 : Int) = 1) ∧ K (.inl (some (0, 0))) d) ∧ (y0 = (-1) → ((1 : Int) = 0 ∨ (1 : Int) = 1) ∧ K (.inl (some (0, 1))) d)) :
  tRun E 60 (51, [.inr (6, x0), .inl (0, x1), .inl (0, x2)], [.inl (0, y0)], 0, 0, d) K := tT_run (cut := [0, 51]) 5 _ h
theorem t_61_0 {E : mO × tW} {K : tK} {d : mD} {x0 x1 x2 : Int}
  (h : tCall E 96 [.inr (8, x0 + 49), .inl (0, x1), .inl (0, x2), .inl (0, d x0 2)] d (tbk E 61 18 [.inr (6, x0), .inl (0, x1), .inl (0, x2), .inl (0, d (x0 + 49) 0)] [] 0 0 K)) :
  tRun E 61 (0, [.inr (6, x0), .inl (0, x1), .inl (0, x2), tu], [], 0, 0, d) K := tT_run (cut := [0, 21, 39]) 11 _ h
theorem t_61_21 {E : mO × tW} {K : tK} {d : mD} {x0 x1 x2 x3 : Int}
  (h : (0 ≤ x2 ∧ x2 < 6) ∧ tCall E 40 [.inr (3, x0 + 2), .inl (0, x2), .inl (0, d (x0 + 2 + 6) x2), .inl (0, x3)] d (tbk E 61 36 [.inr (6, x0), .inl (0, x1), .inl (0, x2), .inl (0, x3)] [] 0 0 K)) :
  tRun E 61 (21, [.inr (6, x0), .inl (0, x1), .inl (0, x2), .inl (0, x3)], [], 0, 0, d) K := tT_run (cut := [0, 21, 39]) 10 _ h
theorem t_61_39 {E : mO × tW} {K : tK} {d : mD} {x0 x1 x2 x3 : Int}
  (h : K (.inl (some (0, x3))) d) :
  tRun E 61 (39, [.inr (6, x0), .inl (0, x1), .inl (0, x2), .inl (0, x3)], [], 0, 0, d) K := tT_run (cut := [0, 21, 39]) 2 _ h
theorem t_62_0 {E : mO × tW} {K : tK} {d : mD} {x0 x1 x2 : Int}
  (h : tRun E 62 (2, [.inr (6, x0), .inl (0, x1), .inl (0, x2), .inl (0, 0)], [], 0, 0, d) K) :
  tRun E 62 (0, [.inr (6, x0), .inl (0, x1), .inl (0, x2), tu], [], 0, 0, d) K := tT_run (cut := [0, 2, 31]) 2 _ h
theorem t_62_2 {E : mO × tW} {K : tK} {d : mD} {x0 x1 x2 x3 : Int}
  (h : (0 ≤ x1 ∧ x1 < 6) ∧ (mInR x3 ∧ mInR (d (x0 + 2 + 6) x1)) ∧ (d (x0 + 2 + 6) x1 ≤ x3 → K (.inl (some (0, (-1)))) d) ∧ (x3 < d (x0 + 2 + 6) x1 → tCall E 38 [.inr (3, x0 + 2), .inl (0, x1), .inl (0, x3)] d (tbk E 62 28 [.inr (6, x0), .inl (0, x1), .inl (0, x2), .inl (0, x3)] [.inr (21, x0 + 49 + 1)] 0 0 K))) :
  tRun E 62 (2, [.inr (6, x0), .inl (0, x1), .inl (0, x2), .inl (0, x3)], [], 0, 0, d) K := tT_run (cut := [0, 2, 31]) 15 _ h
theorem t_62_31 {E : mO × tW} {K : tK} {d : mD} {x0 x1 x2 x3 y0 y1 : Int}
  (h : (0 ≤ y1 ∧ y1 < 60) ∧ (mInR (d y0 y1) ∧ mInR x2) ∧ (¬ d y0 y1 = x2 → tRun E 62 (2, [.inr (6, x0), .inl (0, x1), .inl (0, x2), .inl (0, x3 + 1)], [], 0, 0, d) K) ∧ (d y0 y1 = x2 → K (.inl (some (0, x3))) d)) :
  tRun E 62 (31, [.inr (6, x0), .inl (0, x1), .inl (0, x2), .inl (0, x3)], [.inl (0, y1), .inr (21, y0)], 0, 0, d) K := tT_run (cut := [0, 2, 31]) 5 _ h
