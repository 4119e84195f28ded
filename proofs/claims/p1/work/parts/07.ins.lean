/-! ===== each method's bytes decode to what the small machine runs ===== -/
def mlk : List (Nat × Nat × Nat) → Nat → Option Nat
  | [], _ => none
  | (b, g, _) :: r, i => bif Nat.beq b i then some g else mlk r i
theorem mlk_in : ∀ {l : List (Nat × Nat × Nat)} {i g : Nat}, mlk l i = some g → ∃ p, (i, g, p) ∈ l
  | (b, g', p) :: r, i, g, h => by
    unfold mlk at h
    cases hc : Nat.beq b i with
    | true =>
      rw [hc] at h
      obtain rfl := Nat.eq_of_beq_eq_true hc
      cases h
      exact ⟨p, List.mem_cons_self⟩
    | false =>
      rw [hc] at h
      obtain ⟨p', hp⟩ := mlk_in (l := r) h
      exact ⟨p', List.mem_cons_of_mem _ hp⟩
def mlkI : List (Nat × Int × Nat) → Nat → Option Int
  | [], _ => none
  | (b, g, _) :: r, i => bif Nat.beq b i then some g else mlkI r i
theorem mlkI_in : ∀ {l : List (Nat × Int × Nat)} {i : Nat} {g : Int}, mlkI l i = some g → ∃ p, (i, g, p) ∈ l
  | (b, g', p) :: r, i, g, h => by
    unfold mlkI at h
    cases hc : Nat.beq b i with
    | true =>
      rw [hc] at h
      obtain rfl := Nat.eq_of_beq_eq_true hc
      cases h
      exact ⟨p, List.mem_cons_self⟩
    | false =>
      rw [hc] at h
      obtain ⟨p', hp⟩ := mlkI_in (l := r) h
      exact ⟨p', List.mem_cons_of_mem _ hp⟩
-- an instruction as it stands in class o at pc, read for the small machine
def mresV (o i k : Nat) : Option Instr := match mlk (mML o) i with
  | some j => bif Nat.beq (mkd j) k then some (.invokestatic j) else none
  | none => match mlk (mSP o) i with
    | some q => bif (match k with | 0 => Nat.beq q 1 || Nat.beq q 2 || Nat.beq q 3 | 1 => Nat.beq q 4 || Nat.beq q 5 | _ => Nat.beq q 0) then some (.invokespecial q) else none
    | none => bif Nat.beq k 2 then (match mlk (mNL o) i with
      | some j => bif Nat.beq (mkd j) 2 then some (.invokestatic j) else none
      | none => none) else none
def mres (j o pc : Nat) : Instr → Option Instr
  | .iload_n k => some (.iload k)
  | .lload_n k => some (.lload k)
  | .dload_n k => some (.dload k)
  | .aload_n k => some (.aload k)
  | .istore_n k => some (.istore k)
  | .lstore_n k => some (.lstore k)
  | .dstore_n k => some (.dstore k)
  | .astore_n k => some (.astore k)
  | .goto t => some (.goto ((pc : Int) + t))
  | .ifCond c t => some (.ifCond c ((pc : Int) + t))
  | .if_icmp c t => some (.if_icmp c ((pc : Int) + t))
  | .tableswitch t lo hi ts => bif decide ((ts.size : Int) = hi - lo + 1) && ts.toList.all (fun q => decide (0 ≤ (pc : Int) + q)) && decide (0 ≤ (pc : Int) + t) then some (.tableswitch ((pc : Int) + t) lo hi (ts.map (fun q => (pc : Int) + q))) else none
  | .getfield i => (mlk (mFL o) i).map .getfield
  | .putfield i => match mlk (mFL o) i with
    | some g => bif !(mFn g).2.2.2 || ((my j).name == "<init>" && (mFn g).1 == mR o) then some (.putfield g) else none
    | none => none
  | .getstatic i => match mlk (mTL o) i with
    | some g => some (.getstatic g)
    | none => (mlk (mTN o) i).map .getstatic
  | .invokevirtual i => mresV o i 1
  | .invokestatic i => mresV o i 0
  | .invokespecial i => mresV o i 2
  | .new i => (mlk (mCL o) i).map .new
  | .anewarray i => (mlk (mCL o) i).map .anewarray
  | .ldc i => match mlkI (mKL o) i with
    | some v => some (.sipush v)
    | none => (mlk (mSL o) i).map .ldc
  | .ldc_w i => (mlkI (mKL o) i).map .sipush
  | .ldc2_w i => (mlkI (mQL o) i).map .jsr_w
  | i => some i
-- places of the locals are in range; targets are none below 0; numbers are what they are
def mlok (j : Nat) : Instr → Bool
  | .istore k => Nat.blt k (mmaxL j)
  | .astore k => Nat.blt k (mmaxL j)
  | .iinc k _ => Nat.blt k (mmaxL j)
  | .lstore k => Nat.blt (k + 1) (mmaxL j)
  | .dstore k => Nat.blt (k + 1) (mmaxL j)
  | .goto t => decide (0 ≤ t)
  | .ifCond _ t => decide (0 ≤ t)
  | .if_icmp _ t => decide (0 ≤ t)
  | .bipush n => decide (-128 ≤ n) && decide (n ≤ 127)
  | _ => true
def mdec (j pc : Nat) : Option (Instr × Nat) := match decode (mb j) pc with
  | .ok r => some r
  | .error _ => none
-- 'throw new E("..")'
def mthr (j o pc e : Nat) : Bool := match mdec j pc, mdec j (pc + 3), mdec j (pc + 4) with
  | some (.new ik, 3), some (.dup, 1), some (.ldc is, 2) => (match mdec j (pc + 6), mdec j (pc + 9) with
    | some (.invokespecial ic, 3), some (.athrow, 1) => (mXL o).contains (ik, is, ic, e)
    | _, _ => false)
  | some (.new ik, 3), some (.dup, 1), some (.ldc_w is, 3) => (match mdec j (pc + 7), mdec j (pc + 10) with
    | some (.invokespecial ic, 3), some (.athrow, 1) => (mXL o).contains (ik, is, ic, e)
    | _, _ => false)
  | _, _, _ => false
def mck (j pc : Nat) : Bool := match mfetch j pc with
  | none => true
  | some (.checkcast e, _) => mthr j (mown j) pc e && (mhh j).isEmpty
  | some (i, len) => mlok j i && (match mdec j pc with
    | some (ia, l) => Nat.beq l len && (match mres j (mown j) pc ia with
      | some r => decide (r = i)
      | none => false)
    | none => false)
def mcks (lo n : Nat) : Bool := (List.range n).all (fun k => (List.range (mlen (lo + k))).all (mck (lo + k)))
theorem mck_1 : mcks 1 17 = true := by decide +kernel
theorem mck_18 : mcks 18 12 = true := by decide +kernel
theorem mck_30 : mcks 30 13 = true := by decide +kernel
theorem mck_43 : mcks 43 11 = true := by decide +kernel
theorem mck_54 : mcks 54 12 = true := by decide +kernel
theorem mck_66 : mcks 66 11 = true := by decide +kernel
theorem mck_77 : mcks 77 7 = true := by decide +kernel
theorem mck_84 : mcks 84 14 = true := by decide +kernel
theorem mck_98 : mcks 98 15 = true := by decide +kernel
theorem mck_113 : mcks 113 10 = true := by decide +kernel
theorem mck_123 : mcks 123 7 = true := by decide +kernel
theorem mck_130 : mcks 130 16 = true := by decide +kernel
theorem mck_146 : mcks 146 10 = true := by decide +kernel
theorem mck_156 : mcks 156 17 = true := by decide +kernel
theorem mck_173 : mcks 173 16 = true := by decide +kernel
theorem mck_189 : mcks 189 13 = true := by decide +kernel
theorem mck_202 : mcks 202 5 = true := by decide +kernel
theorem mck_207 : mcks 207 11 = true := by decide +kernel
theorem mck_218 : mcks 218 5 = true := by decide +kernel
theorem mck_223 : mcks 223 6 = true := by decide +kernel
theorem mck_229 : mcks 229 5 = true := by decide +kernel
theorem mck_234 : mcks 234 7 = true := by decide +kernel
theorem mck_241 : mcks 241 7 = true := by decide +kernel
theorem mck_248 : mcks 248 13 = true := by decide +kernel
theorem mck_261 : mcks 261 11 = true := by decide +kernel
theorem mck_272 : mcks 272 8 = true := by decide +kernel
theorem mck_280 : mcks 280 7 = true := by decide +kernel
theorem mck_287 : mcks 287 10 = true := by decide +kernel
theorem mck_297 : mcks 297 22 = true := by decide +kernel
theorem mck_319 : mcks 319 22 = true := by decide +kernel
def mckl (lo n : Nat) : Bool := (List.range n).all (fun k => mck 0 (lo + k))
theorem mckl_0 : mckl 0 150 = true := by decide +kernel
theorem mckl_150 : mckl 150 150 = true := by decide +kernel
theorem mckl_300 : mckl 300 150 = true := by decide +kernel
theorem mckl_450 : mckl 450 150 = true := by decide +kernel
theorem mckl_600 : mckl 600 150 = true := by decide +kernel
theorem mckl_750 : mckl 750 150 = true := by decide +kernel
theorem mckl_900 : mckl 900 150 = true := by decide +kernel
theorem mckl_1050 : mckl 1050 150 = true := by decide +kernel
theorem mckl_1200 : mckl 1200 150 = true := by decide +kernel
theorem mckl_1350 : mckl 1350 150 = true := by decide +kernel
theorem mckl_1500 : mckl 1500 150 = true := by decide +kernel
theorem mckl_1650 : mckl 1650 150 = true := by decide +kernel
theorem mckl_1800 : mckl 1800 150 = true := by decide +kernel
theorem mckl_1950 : mckl 1950 150 = true := by decide +kernel
theorem mckl_2100 : mckl 2100 150 = true := by decide +kernel
theorem mckl_2250 : mckl 2250 150 = true := by decide +kernel
theorem mckl_2400 : mckl 2400 150 = true := by decide +kernel
theorem mckl_2550 : mckl 2550 150 = true := by decide +kernel
theorem mckl_2700 : mckl 2700 150 = true := by decide +kernel
theorem mckl_2850 : mckl 2850 7 = true := by decide +kernel
theorem mcks_use {lo n j pc : Nat} (h : mcks lo n = true) (h1 : lo ≤ j) (h2 : j < lo + n) (h3 : pc < mlen j) : mck j pc = true := by
  have h4 := List.all_eq_true.mp h (j - lo) (List.mem_range.mpr (by omega))
  rw [show lo + (j - lo) = j by omega] at h4
  exact List.all_eq_true.mp h4 pc (List.mem_range.mpr h3)
theorem mckl_use {lo n pc : Nat} (h : mckl lo n = true) (h1 : lo ≤ pc) (h2 : pc < lo + n) : mck 0 pc = true := by
  have h4 := List.all_eq_true.mp h (pc - lo) (List.mem_range.mpr (by omega))
  rw [show lo + (pc - lo) = pc by omega] at h4
  exact h4
theorem mck_all {j pc : Nat} (hj : j < 341) (h : pc < mlen j) : mck j pc = true := by
  rcases Nat.eq_zero_or_pos j with h0 | h0
  · subst h0
    have h : pc < 2857 := h
    by_cases c0 : pc < 150
    · exact mckl_use mckl_0 (by omega) (by omega)
    by_cases c150 : pc < 300
    · exact mckl_use mckl_150 (by omega) (by omega)
    by_cases c300 : pc < 450
    · exact mckl_use mckl_300 (by omega) (by omega)
    by_cases c450 : pc < 600
    · exact mckl_use mckl_450 (by omega) (by omega)
    by_cases c600 : pc < 750
    · exact mckl_use mckl_600 (by omega) (by omega)
    by_cases c750 : pc < 900
    · exact mckl_use mckl_750 (by omega) (by omega)
    by_cases c900 : pc < 1050
    · exact mckl_use mckl_900 (by omega) (by omega)
    by_cases c1050 : pc < 1200
    · exact mckl_use mckl_1050 (by omega) (by omega)
    by_cases c1200 : pc < 1350
    · exact mckl_use mckl_1200 (by omega) (by omega)
    by_cases c1350 : pc < 1500
    · exact mckl_use mckl_1350 (by omega) (by omega)
    by_cases c1500 : pc < 1650
    · exact mckl_use mckl_1500 (by omega) (by omega)
    by_cases c1650 : pc < 1800
    · exact mckl_use mckl_1650 (by omega) (by omega)
    by_cases c1800 : pc < 1950
    · exact mckl_use mckl_1800 (by omega) (by omega)
    by_cases c1950 : pc < 2100
    · exact mckl_use mckl_1950 (by omega) (by omega)
    by_cases c2100 : pc < 2250
    · exact mckl_use mckl_2100 (by omega) (by omega)
    by_cases c2250 : pc < 2400
    · exact mckl_use mckl_2250 (by omega) (by omega)
    by_cases c2400 : pc < 2550
    · exact mckl_use mckl_2400 (by omega) (by omega)
    by_cases c2550 : pc < 2700
    · exact mckl_use mckl_2550 (by omega) (by omega)
    by_cases c2700 : pc < 2850
    · exact mckl_use mckl_2700 (by omega) (by omega)
    by_cases c2850 : pc < 2857
    · exact mckl_use mckl_2850 (by omega) (by omega)
    omega
  by_cases c1 : j < 18
  · exact mcks_use mck_1 (by omega) (by omega) h
  by_cases c18 : j < 30
  · exact mcks_use mck_18 (by omega) (by omega) h
  by_cases c30 : j < 43
  · exact mcks_use mck_30 (by omega) (by omega) h
  by_cases c43 : j < 54
  · exact mcks_use mck_43 (by omega) (by omega) h
  by_cases c54 : j < 66
  · exact mcks_use mck_54 (by omega) (by omega) h
  by_cases c66 : j < 77
  · exact mcks_use mck_66 (by omega) (by omega) h
  by_cases c77 : j < 84
  · exact mcks_use mck_77 (by omega) (by omega) h
  by_cases c84 : j < 98
  · exact mcks_use mck_84 (by omega) (by omega) h
  by_cases c98 : j < 113
  · exact mcks_use mck_98 (by omega) (by omega) h
  by_cases c113 : j < 123
  · exact mcks_use mck_113 (by omega) (by omega) h
  by_cases c123 : j < 130
  · exact mcks_use mck_123 (by omega) (by omega) h
  by_cases c130 : j < 146
  · exact mcks_use mck_130 (by omega) (by omega) h
  by_cases c146 : j < 156
  · exact mcks_use mck_146 (by omega) (by omega) h
  by_cases c156 : j < 173
  · exact mcks_use mck_156 (by omega) (by omega) h
  by_cases c173 : j < 189
  · exact mcks_use mck_173 (by omega) (by omega) h
  by_cases c189 : j < 202
  · exact mcks_use mck_189 (by omega) (by omega) h
  by_cases c202 : j < 207
  · exact mcks_use mck_202 (by omega) (by omega) h
  by_cases c207 : j < 218
  · exact mcks_use mck_207 (by omega) (by omega) h
  by_cases c218 : j < 223
  · exact mcks_use mck_218 (by omega) (by omega) h
  by_cases c223 : j < 229
  · exact mcks_use mck_223 (by omega) (by omega) h
  by_cases c229 : j < 234
  · exact mcks_use mck_229 (by omega) (by omega) h
  by_cases c234 : j < 241
  · exact mcks_use mck_234 (by omega) (by omega) h
  by_cases c241 : j < 248
  · exact mcks_use mck_241 (by omega) (by omega) h
  by_cases c248 : j < 261
  · exact mcks_use mck_248 (by omega) (by omega) h
  by_cases c261 : j < 272
  · exact mcks_use mck_261 (by omega) (by omega) h
  by_cases c272 : j < 280
  · exact mcks_use mck_272 (by omega) (by omega) h
  by_cases c280 : j < 287
  · exact mcks_use mck_280 (by omega) (by omega) h
  by_cases c287 : j < 297
  · exact mcks_use mck_287 (by omega) (by omega) h
  by_cases c297 : j < 319
  · exact mcks_use mck_297 (by omega) (by omega) h
  by_cases c319 : j < 341
  · exact mcks_use mck_319 (by omega) (by omega) h
  omega
