/-! ===== one abstract step, found by the instruction alone (the kernel keeps what it found) ===== -/
noncomputable def aXo (i : Instr) (len : Nat) : Option (aI → Nat → Nat → List aV → List aV → Nat → Nat → aM → Nat → Bool → (aNx → Bool) → Bool) := match i with
  | .invokespecial j => some (fun I m pc L S c s M n kn k => aXc I m j pc L S c s M n kn k)
  | .iconst z => some (fun _ _ pc L S c s M n kn k => agoN 0 (0, z) (pc + len) L S c s M n kn k)
  | .bipush z => some (fun _ _ pc L S c s M n kn k => agoN 0 (0, z) (pc + len) L S c s M n kn k)
  | .sipush z => some (fun _ _ pc L S c s M n kn k => agoN 0 (0, z) (pc + len) L S c s M n kn k)
  | .lconst z => some (fun _ _ pc L S c s M n kn k => agoN 1 (0, ((z : Nat) : Int)) (pc + len) L S c s M n kn k)
  | .jsr_w z => some (fun _ _ pc L S c s M n kn k => agoN 1 (0, z) (pc + len) L S c s M n kn k)
  | .dconst _ => some (fun _ _ pc L S c s M n kn k => agoN 2 (0, 0) (pc + len) L S c s M n kn k)
  | .ldc j => some (fun _ _ pc L S c s M n kn k => agoN 5 (0, (j : Int)) (pc + len) L S c s M n kn k)
  | .getstatic j => some (fun _ _ pc L S c s M n kn k => agoN 4 (0, (j : Int)) (pc + len) L S c s M n kn k)
  | .iload q => some (fun _ _ pc L S c s M n kn k => match agt L q with
    | (0, x) => agoN 0 x (pc + len) L S c s M n kn k
    | _ => false)
  | .lload q => some (fun _ _ pc L S c s M n kn k => match agt L q with
    | (1, x) => agoN 1 x (pc + len) L S c s M n kn k
    | _ => false)
  | .dload q => some (fun _ _ pc L S c s M n kn k => match agt L q with
    | (2, x) => agoN 2 x (pc + len) L S c s M n kn k
    | _ => false)
  | .aload q => some (fun _ _ pc L S c s M n kn k => match agt L q with
    | (3, x) => agoN 3 x (pc + len) L S c s M n kn k
    | (4, x) => agoN 4 x (pc + len) L S c s M n kn k
    | (5, x) => agoN 5 x (pc + len) L S c s M n kn k
    | _ => false)
  | .istore q => some (fun _ _ pc L S c s M n kn k => match S with
    | (0, x) :: S => al1K L q (0, x) (fun L => ago (pc + len) L S c s M n kn k)
    | _ => false)
  | .lstore q => some (fun _ _ pc L S c s M n kn k => match S with
    | (1, x) :: S => al2K L q (1, x) (fun L => ago (pc + len) L S c s M n kn k)
    | _ => false)
  | .dstore q => some (fun _ _ pc L S c s M n kn k => match S with
    | (2, x) :: S => al2K L q (2, x) (fun L => ago (pc + len) L S c s M n kn k)
    | _ => false)
  | .astore q => some (fun I _ pc L S c s M n kn k => match S with
    | (3, x) :: S => bif anneg I x then al1K L q (3, x) (fun L => ago (pc + len) L S c s M n kn k) else false
    | _ => false)
  | .iinc q z => some (fun _ _ pc L S c s M n kn k => match agt L q with
    | (0, x) => frcN (aadd x (0, z)).1 (fun u => frcZ (aadd x (0, z)).2 (fun v => al1K L q (0, u, v) (fun L => ago (pc + len) L S c s M n kn k)))
    | _ => false)
  | .dup => some (fun _ _ pc L S c s M n kn k => match S with
    | (0, x) :: S => ago (pc + 1) L ((0, x) :: (0, x) :: S) c s M n kn k
    | (3, x) :: S => ago (pc + 1) L ((3, x) :: (3, x) :: S) c s M n kn k
    | _ => false)
  | .dup2 => some (fun _ _ pc L S c s M n kn k => match S with
    | (0, y) :: (3, x) :: S => ago (pc + 1) L ((0, y) :: (3, x) :: (0, y) :: (3, x) :: S) c s M n kn k
    | _ => false)
  | .pop => some (fun _ _ pc L S c s M n kn k => match S with
    | (0, _) :: S => ago (pc + 1) L S c s M n kn k
    | _ => false)
  | .iadd => some (fun _ _ pc L S c s M n kn k => match S with
    | (0, y) :: (0, x) :: S => agoN 0 (aadd x y) (pc + 1) L S c s M n kn k
    | _ => false)
  | .isub => some (fun _ _ pc L S c s M n kn k => match S with
    | (0, y) :: (0, x) :: S => agoN 0 (asub x y) (pc + 1) L S c s M n kn k
    | _ => false)
  | .imul => some (fun I _ pc L S c s M n kn k => match S with
    | (0, y) :: (0, x) :: S => bif Nat.beq (anorm I x).1 0 then (bif Nat.beq (anorm I y).1 0 then agoN 0 (abin (fun a b => a * b) (anorm I x) (anorm I y)) (pc + 1) L S c s M n kn k else asp1 I y k) else asp1 I x k
    | _ => false)
  | .iand => some (fun I _ pc L S c s M n kn k => match S with
    | (0, y) :: (0, x) :: S => agoN 0 (aand I x y) (pc + 1) L S c s M n kn k
    | _ => false)
  | .ishr => some (fun I _ pc L S c s M n kn k => match S with
    | (0, y) :: (0, x) :: S => bif asm6 I x y then (match arng I x with
      | some (p, q) => bif zeq (p / 64) (q / 64) then agoN 0 (0, p / 64) (pc + 1) L S c s M n kn k else aspz x (p / 64 * 64 + 63) k
      | none => false) else agoN 0 (abin mishr (anorm I x) (anorm I y)) (pc + 1) L S c s M n kn k
    | _ => false)
  | .ior => some (fun I _ pc L S c s M n kn k => match S with
    | (0, y) :: (0, x) :: S => agoN 0 (abin mior (anorm I x) (anorm I y)) (pc + 1) L S c s M n kn k
    | _ => false)
  | .ishl => some (fun I _ pc L S c s M n kn k => match S with
    | (0, y) :: (0, x) :: S => agoN 0 (abin mishl (anorm I x) (anorm I y)) (pc + 1) L S c s M n kn k
    | _ => false)
  | .iushr => some (fun I _ pc L S c s M n kn k => match S with
    | (0, y) :: (0, x) :: S => agoN 0 (abin miushr (anorm I x) (anorm I y)) (pc + 1) L S c s M n kn k
    | _ => false)
  | .idiv => some (fun I _ pc L S c s M n kn k => match S with
    | (0, y) :: (0, x) :: S => bif adivc I x y then (bif anar I x y then asp1 I x k else agoN 0 (abin (fun a b => a / b) (anorm I x) (anorm I y)) (pc + 1) L S c s M n kn k) else false
    | _ => false)
  | .irem => some (fun I _ pc L S c s M n kn k => match S with
    | (0, y) :: (0, x) :: S => bif adivc I x y then agoN 0 (abin (fun a b => a % b) (anorm I x) (anorm I y)) (pc + 1) L S c s M n kn k else false
    | _ => false)
  | .ladd => some (fun _ _ pc L S c s M n kn k => match S with
    | (1, y) :: (1, x) :: S => agoN 1 (aadd x y) (pc + 1) L S c s M n kn k
    | _ => false)
  | .lsub => some (fun _ _ pc L S c s M n kn k => match S with
    | (1, y) :: (1, x) :: S => agoN 1 (asub x y) (pc + 1) L S c s M n kn k
    | _ => false)
  | .lmul => some (fun I _ pc L S c s M n kn k => match S with
    | (1, y) :: (1, x) :: S => agoN 1 (abin (fun a b => a * b) (anorm I x) (anorm I y)) (pc + 1) L S c s M n kn k
    | _ => false)
  | .land => some (fun I _ pc L S c s M n kn k => match S with
    | (1, y) :: (1, x) :: S => agoN 1 (abin mland (anorm I x) (anorm I y)) (pc + 1) L S c s M n kn k
    | _ => false)
  | .lor => some (fun I _ pc L S c s M n kn k => match S with
    | (1, y) :: (1, x) :: S => agoN 1 (abin mlor (anorm I x) (anorm I y)) (pc + 1) L S c s M n kn k
    | _ => false)
  | .lxor => some (fun I _ pc L S c s M n kn k => match S with
    | (1, y) :: (1, x) :: S => agoN 1 (abin mlxor (anorm I x) (anorm I y)) (pc + 1) L S c s M n kn k
    | _ => false)
  | .lshl => some (fun I _ pc L S c s M n kn k => match S with
    | (0, y) :: (1, x) :: S => agoN 1 (abin mlshl (anorm I x) (anorm I y)) (pc + 1) L S c s M n kn k
    | _ => false)
  | .lushr => some (fun I _ pc L S c s M n kn k => match S with
    | (0, y) :: (1, x) :: S => agoN 1 (ausr (anorm I x) (anorm I y)) (pc + 1) L S c s M n kn k
    | _ => false)
  | .lcmp => some (fun I _ pc L S c s M n kn k => match S with
    | (1, y) :: (1, x) :: S => bif ainL I x && ainL I y then (match alt I x y, aeq I x y with
      | some true, _ => agoN 0 (0, -1) (pc + 1) L S c s M n kn k
      | some false, some true => agoN 0 (0, 0) (pc + 1) L S c s M n kn k
      | some false, some false => agoN 0 (0, 1) (pc + 1) L S c s M n kn k
      | none, _ => asplit I .lt x y k
      | some false, none => asplit I .eq x y k) else false
    | _ => false)
  | .dcmp o => some (fun _ _ pc L S c s M n kn k => match S with
    | (2, y) :: (2, x) :: S => agoN 0 (abin (mdcmp o) x y) (pc + 1) L S c s M n kn k
    | _ => false)
  | .i2b => some (fun _ _ pc L S c s M n kn k => match S with
    | (0, x) :: S => agoN 0 (ai2b x) (pc + 1) L S c s M n kn k
    | _ => false)
  | .i2l => some (fun I _ pc L S c s M n kn k => match S with
    | (0, x) :: S => bif ainR I x then agoN 1 (x) (pc + 1) L S c s M n kn k else false
    | _ => false)
  | .l2i => some (fun _ _ pc L S c s M n kn k => match S with
    | (1, x) :: S => agoN 0 (x) (pc + 1) L S c s M n kn k
    | _ => false)
  | .goto t => some (fun _ _ _ L S c s M n kn k => ago t.toNat L S c s M n kn k)
  | .ifCond o t => some (fun I _ pc L S c s M n kn k => match S with
    | (0, x) :: S => bif ainR I x then (match acond I o x (0, 0) with
      | some true => ago t.toNat L S c s M n kn k
      | some false => ago (pc + 3) L S c s M n kn k
      | none => asplit I o x (0, 0) k) else false
    | _ => false)
  | .if_icmp o t => some (fun I _ pc L S c s M n kn k => match S with
    | (0, y) :: (0, x) :: S => bif ainR I x && ainR I y then (match acond I o x y with
      | some true => ago t.toNat L S c s M n kn k
      | some false => ago (pc + 3) L S c s M n kn k
      | none => asplit I o x y k) else false
    | _ => false)
  | .tableswitch t lo hi ts => some (fun I _ _ L S c s M n kn k => match S with
    | (0, x) :: S => bif ainR I x && zeq (ts.size : Int) (hi - lo + 1) then (match arng I x with
      | some (p, q) => bif zeq p q then ago (atgt p lo hi t ts.toList).toNat L S c s M n kn k else bif zlt q lo || zlt hi p then ago t.toNat L S c s M n kn k else asw lo hi p q x k
      | none => false) else false
    | _ => false)
  | .getfield g => some (fun _ _ pc L S c s M n kn k => match S with
    | (3, x) :: S => (match acl M n x with
      | some (_, c9) => bif Nat.beq c9.1 (g / 32) then agoN (mtag (mfty g)) (aget c9 (g % 32)) (pc + 3) L S c s M n kn k else false
      | none => false)
    | _ => false)
  | .putfield g => some (fun I _ pc L S c s M n kn k => match S with
    | v :: (3, x) :: S => (match acl M n x with
      | some (q9, c9) => bif Nat.beq c9.1 (g / 32) && afit I (mfty g) v then asetK c9 (g % 32) v.2 (fun c9 => aputK M q9 c9 (fun M => ago (pc + 3) L S c s M n kn k)) else false
      | none => false)
    | _ => false)
  | .arraylength => some (fun I _ pc L S c s M n kn k => match S with
    | (4, x) :: S => bif Nat.beq x.1 0 && zeq x.2 2 && !Nat.beq I.1 0 then agoN 0 (0, (I.1 : Int)) (pc + 1) L S c s M n kn k else false
    | (3, x) :: S => (match acl M n x with
      | some (_, c9) => bif Nat.ble 100 c9.1 then agoN 0 (0, (c9.2.1 : Int)) (pc + 1) L S c s M n kn k else false
      | none => false)
    | _ => false)
  | .iaload => some (fun I _ pc L S c s M n kn k => match S with
    | (0, i) :: (3, x) :: S => (match acl M n x with
      | some (_, c9) => bif Nat.beq c9.1 100 then (match aix I i c9.2.1 with
        | some i9 => agoN 0 (aget c9 i9) (pc + 1) L S c s M n kn k
        | none => asp1 I i k) else false
      | none => false)
    | (0, i) :: (4, x) :: S => bif Nat.beq x.1 0 && zeq x.2 2 then (match aix I i I.1 with
      | some i9 => agoN 0 (ascr I i9) (pc + 1) L S c s M n kn k
      | none => asp1 I i k) else (match aix I x 2, aix I i 5 with
      | some k9, some i9 => agoN 0 (0, mStv k9 i9) (pc + 1) L S c s M n kn k
      | some _, none => asp1 I i k
      | _, _ => false)
    | _ => false)
  | .laload => some (fun I _ pc L S c s M n kn k => match S with
    | (0, i) :: (3, x) :: S => (match acl M n x with
      | some (_, c9) => bif Nat.beq c9.1 101 then (match aix I i c9.2.1 with
        | some i9 => agoN 1 (aget c9 i9) (pc + 1) L S c s M n kn k
        | none => asp1 I i k) else false
      | none => false)
    | _ => false)
  | .baload => some (fun I _ pc L S c s M n kn k => match S with
    | (0, i) :: (3, x) :: S => (match acl M n x with
      | some (_, c9) => bif Nat.beq c9.1 102 || Nat.beq c9.1 103 then (match aix I i c9.2.1 with
        | some i9 => agoN 0 (aget c9 i9) (pc + 1) L S c s M n kn k
        | none => asp1 I i k) else false
      | none => false)
    | _ => false)
  | .aaload => some (fun I _ pc L S c s M n kn k => match S with
    | (0, i) :: (3, x) :: S => (match acl M n x with
      | some (_, c9) => bif Nat.ble 200 c9.1 then (match aix I i c9.2.1 with
        | some i9 => agoN 3 (aget c9 i9) (pc + 1) L S c s M n kn k
        | none => asp1 I i k) else false
      | none => false)
    | _ => false)
  | .iastore => some (fun I _ pc L S c s M n kn k => match S with
    | (0, v) :: (0, i) :: (3, x) :: S => (match acl M n x with
      | some (q9, c9) => bif Nat.beq c9.1 100 then (match aix I i c9.2.1 with
        | some i9 => asetK c9 i9 v (fun c9 => aputK M q9 c9 (fun M => ago (pc + 1) L S c s M n kn k))
        | none => asp1 I i k) else false
      | none => false)
    | _ => false)
  | .lastore => some (fun I _ pc L S c s M n kn k => match S with
    | (1, v) :: (0, i) :: (3, x) :: S => (match acl M n x with
      | some (q9, c9) => bif Nat.beq c9.1 101 then (match aix I i c9.2.1 with
        | some i9 => asetK c9 i9 v (fun c9 => aputK M q9 c9 (fun M => ago (pc + 1) L S c s M n kn k))
        | none => asp1 I i k) else false
      | none => false)
    | _ => false)
  | .bastore => some (fun I _ pc L S c s M n kn k => match S with
    | (0, v) :: (0, i) :: (3, x) :: S => (match acl M n x with
      | some (q9, c9) => bif (Nat.beq c9.1 102 && abyt I v) || (Nat.beq c9.1 103 && a01 v) then (match aix I i c9.2.1 with
        | some i9 => asetK c9 i9 v (fun c9 => aputK M q9 c9 (fun M => ago (pc + 1) L S c s M n kn k))
        | none => asp1 I i k) else false
      | none => false)
    | _ => false)
  | .aastore => some (fun I _ pc L S c s M n kn k => match S with
    | (3, v) :: (0, i) :: (3, x) :: S => (match acl M n v with
      | some (_, d9) => (match acl M n x with
      | some (q9, c9) => bif Nat.ble 200 c9.1 && Nat.beq (d9.1 + 200) c9.1 then (match aix I i c9.2.1 with
        | some i9 => asetK c9 i9 v (fun c9 => aputK M q9 c9 (fun M => ago (pc + 1) L S c s M n kn k))
        | none => asp1 I i k) else false
      | none => false)
      | none => false)
    | _ => false)
  | .newarray t => some (fun _ m pc L S c s M n kn k => match S with
    | (0, (0, .ofNat N)) :: S => bif Nat.ble N 100000 && kn && Nat.ble (c + 1) (mmc m) && Nat.ble (s + N) (mms m) && !Nat.beq (akd t) 199 then frcN (c + 1) (fun c => frcN (s + N) (fun s => frcN (n + 1) (fun n1 => aputK M n (akd t, N, (0, 0), []) (fun M => agoN 3 (0, (n : Int)) (pc + 2) L S c s M n1 kn k)))) else false
    | _ => false)
  | .anewarray j => some (fun _ m pc L S c s M n kn k => match S with
    | (0, (0, .ofNat N)) :: S => bif Nat.ble N 100000 && kn && Nat.ble (c + 1) (mmc m) && Nat.ble (s + N) (mms m) then frcN (c + 1) (fun c => frcN (s + N) (fun s => frcN (n + 1) (fun n1 => aputK M n (200 + j, N, (0, -1), []) (fun M => agoN 3 (0, (n : Int)) (pc + 3) L S c s M n1 kn k)))) else false
    | _ => false)
  | .new j => some (fun _ m pc L S c s M n kn k => bif kn && Nat.ble (c + 1) (mmc m) && Nat.ble (s + mnf j) (mms m) then frcN (c + 1) (fun c => frcN (s + mnf j) (fun s => frcN (n + 1) (fun n1 => aputK M n (j, 0, (1, 0), [anr j]) (fun M => agoN 3 (0, (n : Int)) (pc + 3) L S c s M n1 kn k)))) else false)
  | .checkcast e => some (fun _ m _ _ S c s M n _ k => bif Nat.blt 5 (mdep m) && Nat.ble (acats S + 82) (mneed m) && Nat.ble (c + 1) (mmc m) && Nat.ble (s + 6) (mms m) then k (.inr (.inr (.inl (.inr e, M, n, false)))) else false)
  | .ireturn => some (fun _ m _ _ S _ _ M n kn k => match S with
    | [(0, v)] => bif aret1 m v then k (.inr (.inr (.inl (.inl (some (0, v)), M, n, kn)))) else false
    | _ => false)
  | .lreturn => some (fun _ m _ _ S _ _ M n kn k => match S with
    | [(1, v)] => bif Nat.beq (mret m) 3 then k (.inr (.inr (.inl (.inl (some (1, v)), M, n, kn)))) else false
    | _ => false)
  | .dreturn => some (fun _ m _ _ S _ _ M n kn k => match S with
    | [(2, v)] => bif Nat.beq (mret m) 4 then k (.inr (.inr (.inl (.inl (some (2, v)), M, n, kn)))) else false
    | _ => false)
  | .return_ => some (fun _ m _ _ S _ _ M n kn k => match S with
    | [] => bif Nat.beq (mret m) 0 then k (.inr (.inr (.inl (.inl none, M, n, kn)))) else false
    | _ => false)
  | .invokestatic j => some (fun _ m pc L S c s M n kn k => match apop (mnp j) S [] with
    | some (as, S) => bif mroom m j && Nat.ble (alay as).length (mmaxL j) && Nat.ble (acats S) 8 && Nat.ble (c + mmc j) (mmc m) && Nat.ble (s + mms j) (mms m) && arecv M n j as then frcN (c + mmc j) (fun c => frcN (s + mms j) (fun s => k (.inr (.inl (j, as, (pc, L, S, c, s, M, n, kn)))))) else false
    | none => false)
  | _ => none
noncomputable def aXg (h : Option (aI → Nat → Nat → List aV → List aV → Nat → Nat → aM → Nat → Bool → (aNx → Bool) → Bool)) (I : aI) (m pc : Nat) (L S : List aV) (c s : Nat) (M : aM) (n : Nat) (kn : Bool) (k : aNx → Bool) : Bool := match h with
  | some h => h I m pc L S c s M n kn k
  | none => false
theorem aXg_eq (i : Instr) (I : aI) (m len pc : Nat) (L S : List aV) (c s : Nat) (M : aM) (n : Nat) (kn : Bool) (k : aNx → Bool) : aXg (aXo i len) I m pc L S c s M n kn k = aX I m len i pc L S c s M n kn k := by cases i <;> rfl
noncomputable def aisC (i : Instr) : Bool := match i with
  | .if_icmp _ _ => true
  | _ => false
