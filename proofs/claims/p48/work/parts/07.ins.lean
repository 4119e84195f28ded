/-! ===== each method's bytes decode to what the small machine runs ===== -/
def mlk : List (Nat × Nat × Nat) → Nat → Option Nat
  | [], _ => none
  | (b, g, _) :: r, i => bif Nat.beq b i then some g else mlk r i
theorem mlk_in : ∀ {l : List (Nat × Nat × Nat)} {i g : Nat}, mlk l i = some g → ∃ p, (i, g, p) ∈ l
  | (b, g', p) :: r, i, g, h => by
    unfold mlk at h
    cases hc : Nat.beq b i with
    | true =>
      rw [hc] at h
      obtain rfl := Nat.eq_of_beq_eq_true hc
      cases h
      exact ⟨p, List.mem_cons_self⟩
    | false =>
      rw [hc] at h
      obtain ⟨p', hp⟩ := mlk_in (l := r) h
      exact ⟨p', List.mem_cons_of_mem _ hp⟩
def mlkI : List (Nat × Int × Nat) → Nat → Option Int
  | [], _ => none
  | (b, g, _) :: r, i => bif Nat.beq b i then some g else mlkI r i
theorem mlkI_in : ∀ {l : List (Nat × Int × Nat)} {i : Nat} {g : Int}, mlkI l i = some g → ∃ p, (i, g, p) ∈ l
  | (b, g', p) :: r, i, g, h => by
    unfold mlkI at h
    cases hc : Nat.beq b i with
    | true =>
      rw [hc] at h
      obtain rfl := Nat.eq_of_beq_eq_true hc
      cases h
      exact ⟨p, List.mem_cons_self⟩
    | false =>
      rw [hc] at h
      obtain ⟨p', hp⟩ := mlkI_in (l := r) h
      exact ⟨p', List.mem_cons_of_mem _ hp⟩
-- an instruction as it stands in class o at pc, read for the small machine
def mresV (o i k : Nat) : Option Instr := match mlk (mML o) i with
  | some j => bif Nat.beq (mkd j) k then some (.invokestatic j) else none
  | none => match mlk (mSP o) i with
    | some q => bif (match k with | 0 => Nat.beq q 1 || Nat.beq q 2 || Nat.beq q 3 | 1 => Nat.beq q 4 || Nat.beq q 5 | _ => Nat.beq q 0) then some (.invokespecial q) else none
    | none => bif Nat.beq k 2 then (match mlk (mNL o) i with
      | some j => bif Nat.beq (mkd j) 2 then some (.invokestatic j) else none
      | none => none) else none
def mres (j o pc : Nat) : Instr → Option Instr
  | .iload_n k => some (.iload k)
  | .lload_n k => some (.lload k)
  | .dload_n k => some (.dload k)
  | .aload_n k => some (.aload k)
  | .istore_n k => some (.istore k)
  | .lstore_n k => some (.lstore k)
  | .dstore_n k => some (.dstore k)
  | .astore_n k => some (.astore k)
  | .goto t => some (.goto ((pc : Int) + t))
  | .ifCond c t => some (.ifCond c ((pc : Int) + t))
  | .if_icmp c t => some (.if_icmp c ((pc : Int) + t))
  | .tableswitch t lo hi ts => bif decide ((ts.size : Int) = hi - lo + 1) && ts.toList.all (fun q => decide (0 ≤ (pc : Int) + q)) && decide (0 ≤ (pc : Int) + t) then some (.tableswitch ((pc : Int) + t) lo hi (ts.map (fun q => (pc : Int) + q))) else none
  | .getfield i => (mlk (mFL o) i).map .getfield
  | .putfield i => match mlk (mFL o) i with
    | some g => bif !(mFn g).2.2.2 || ((my j).name == "<init>" && (mFn g).1 == mR o) then some (.putfield g) else none
    | none => none
  | .getstatic i => match mlk (mTL o) i with
    | some g => some (.getstatic g)
    | none => (mlk (mTN o) i).map .getstatic
  | .invokevirtual i => mresV o i 1
  | .invokestatic i => mresV o i 0
  | .invokespecial i => mresV o i 2
  | .new i => (mlk (mCL o) i).map .new
  | .anewarray i => (mlk (mCL o) i).map .anewarray
  | .ldc i => match mlkI (mKL o) i with
    | some v => some (.sipush v)
    | none => (mlk (mSL o) i).map .ldc
  | .ldc_w i => (mlkI (mKL o) i).map .sipush
  | .sipush n => bif decide (-32768 ≤ n) && decide (n ≤ 32767) then some (.sipush n) else none
  | .checkcast _ => none
  | .dconst n => bif Nat.beq n 0 then some (.dconst n) else none
  | .ldc2_w i => (mlkI (mQL o) i).map .jsr_w
  | i => some i
-- places of the locals are in range; targets are none below 0; numbers are what they are
def mlok (j : Nat) : Instr → Bool
  | .istore k => Nat.blt k (mmaxL j)
  | .astore k => Nat.blt k (mmaxL j)
  | .iinc k _ => Nat.blt k (mmaxL j)
  | .lstore k => Nat.blt (k + 1) (mmaxL j)
  | .dstore k => Nat.blt (k + 1) (mmaxL j)
  | .goto t => decide (0 ≤ t)
  | .ifCond _ t => decide (0 ≤ t)
  | .if_icmp _ t => decide (0 ≤ t)
  | .bipush n => decide (-128 ≤ n) && decide (n ≤ 127)
  | .anewarray k => Nat.beq k 1 || Nat.beq k 6
  | _ => true
def mdec (j pc : Nat) : Option (Instr × Nat) := match decode (mb j) pc with
  | .ok r => some r
  | .error _ => none
-- 'throw new E("..")'
def mthr (j o pc e : Nat) : Bool := match mdec j pc, mdec j (pc + 3), mdec j (pc + 4) with
  | some (.new ik, 3), some (.dup, 1), some (.ldc is, 2) => (match mdec j (pc + 6), mdec j (pc + 9) with
    | some (.invokespecial ic, 3), some (.athrow, 1) => (mXL o).contains (ik, is, ic, e)
    | _, _ => false)
  | some (.new ik, 3), some (.dup, 1), some (.ldc_w is, 3) => (match mdec j (pc + 7), mdec j (pc + 10) with
    | some (.invokespecial ic, 3), some (.athrow, 1) => (mXL o).contains (ik, is, ic, e)
    | _, _ => false)
  | _, _, _ => false
-- the instructions there are, with their lengths
def mlnk (i : Instr) (l : Nat) : Bool := match i with
  | .iconst _ => Nat.beq l 1
  | .lconst _ => Nat.beq l 1
  | .dconst _ => Nat.beq l 1
  | .iload_n _ => Nat.beq l 1
  | .lload_n _ => Nat.beq l 1
  | .dload_n _ => Nat.beq l 1
  | .aload_n _ => Nat.beq l 1
  | .istore_n _ => Nat.beq l 1
  | .lstore_n _ => Nat.beq l 1
  | .dstore_n _ => Nat.beq l 1
  | .astore_n _ => Nat.beq l 1
  | .dup => Nat.beq l 1
  | .dup2 => Nat.beq l 1
  | .pop => Nat.beq l 1
  | .iadd => Nat.beq l 1
  | .isub => Nat.beq l 1
  | .imul => Nat.beq l 1
  | .idiv => Nat.beq l 1
  | .irem => Nat.beq l 1
  | .iand => Nat.beq l 1
  | .ior => Nat.beq l 1
  | .ishl => Nat.beq l 1
  | .ishr => Nat.beq l 1
  | .iushr => Nat.beq l 1
  | .i2b => Nat.beq l 1
  | .i2l => Nat.beq l 1
  | .l2i => Nat.beq l 1
  | .i2d => Nat.beq l 1
  | .ladd => Nat.beq l 1
  | .lsub => Nat.beq l 1
  | .lmul => Nat.beq l 1
  | .land => Nat.beq l 1
  | .lor => Nat.beq l 1
  | .lxor => Nat.beq l 1
  | .lshl => Nat.beq l 1
  | .lushr => Nat.beq l 1
  | .lcmp => Nat.beq l 1
  | .ddiv => Nat.beq l 1
  | .arraylength => Nat.beq l 1
  | .iaload => Nat.beq l 1
  | .laload => Nat.beq l 1
  | .baload => Nat.beq l 1
  | .aaload => Nat.beq l 1
  | .iastore => Nat.beq l 1
  | .lastore => Nat.beq l 1
  | .bastore => Nat.beq l 1
  | .aastore => Nat.beq l 1
  | .ireturn => Nat.beq l 1
  | .lreturn => Nat.beq l 1
  | .dreturn => Nat.beq l 1
  | .return_ => Nat.beq l 1
  | .dcmp _ => Nat.beq l 1
  | .bipush _ => Nat.beq l 2
  | .iload _ => Nat.beq l 2
  | .lload _ => Nat.beq l 2
  | .dload _ => Nat.beq l 2
  | .aload _ => Nat.beq l 2
  | .istore _ => Nat.beq l 2
  | .lstore _ => Nat.beq l 2
  | .dstore _ => Nat.beq l 2
  | .astore _ => Nat.beq l 2
  | .ldc _ => Nat.beq l 2
  | .newarray _ => Nat.beq l 2
  | .sipush _ => Nat.beq l 3
  | .ldc_w _ => Nat.beq l 3
  | .ldc2_w _ => Nat.beq l 3
  | .goto _ => Nat.beq l 3
  | .getfield _ => Nat.beq l 3
  | .putfield _ => Nat.beq l 3
  | .getstatic _ => Nat.beq l 3
  | .invokevirtual _ => Nat.beq l 3
  | .invokestatic _ => Nat.beq l 3
  | .invokespecial _ => Nat.beq l 3
  | .new _ => Nat.beq l 3
  | .anewarray _ => Nat.beq l 3
  | .iinc _ _ => Nat.beq l 3
  | .ifCond _ _ => Nat.beq l 3
  | .if_icmp _ _ => Nat.beq l 3
  | .tableswitch _ _ _ _ => true
  | _ => false
def mck (j pc : Nat) : Bool := match mfetch j pc with
  | none => true
  | some (.checkcast e, _) => mthr j (mown j) pc e && (mhh j).isEmpty
  | some (i, len) => mlok j i && (match mdec j pc with
    | some (ia, l) => Nat.beq l len && mlnk ia l && (match mres j (mown j) pc ia with
      | some r => decide (r = i)
      | none => false)
    | none => false)
