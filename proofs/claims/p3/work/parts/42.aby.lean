/-! ===== one abstract step ===== -/
noncomputable def ago (pc : Nat) (L S : List aV) (c s : Nat) (M : aM) (n : Nat) (kn : Bool) (k : aNx → Bool) : Bool := frcN pc (fun pc => k (.inl (pc, L, S, c, s, M, n, kn)))
noncomputable def agoN (t : Nat) (x : aN) (pc : Nat) (L S : List aV) (c s : Nat) (M : aM) (n : Nat) (kn : Bool) (k : aNx → Bool) : Bool := frcN pc (fun pc => frcN x.1 (fun u => frcZ x.2 (fun z => k (.inl (pc, L, (t, u, z) :: S, c, s, M, n, kn)))))
theorem ago_eq (pc : Nat) (L S : List aV) (c s : Nat) (M : aM) (n : Nat) (kn : Bool) (k : aNx → Bool) : ago pc L S c s M n kn k = k (.inl (pc, L, S, c, s, M, n, kn)) := by
  unfold ago
  rw [frcN_eq]
theorem agoN_eq (t : Nat) (x : aN) (pc : Nat) (L S : List aV) (c s : Nat) (M : aM) (n : Nat) (kn : Bool) (k : aNx → Bool) : agoN t x pc L S c s M n kn k = k (.inl (pc, L, (t, x) :: S, c, s, M, n, kn)) := by
  unfold agoN
  rw [frcN_eq, frcN_eq, frcZ_eq]
theorem gL_cons {ρ : Nat → Int} {t : Nat} {x : aN} {S : List aV} {S' : List mV} (h : gL ρ ((t, x) :: S) S') : ∃ x' S'', S' = (t, x') :: S'' ∧ gN ρ x x' ∧ gL ρ S S'' := by
  match S', h with
  | (u, y) :: S'', h =>
    obtain ⟨⟨h1, h2⟩, h3⟩ := h
    have h1 : t = u := h1
    subst h1
    exact ⟨y, S'', rfl, h2, h3⟩
theorem gL_at {ρ : Nat → Int} {L : List aV} {L' : List mV} (h : gL ρ L L') {q t : Nat} {x : aN} (hx : agt L q = (t, x)) : ∃ x', mget L' q = (t, x') ∧ gN ρ x x' := by
  have h1 := gL_get h q
  rw [hx] at h1
  exact ⟨(mget L' q).2, by rw [show t = (mget L' q).1 from h1.1], h1.2⟩
noncomputable def anneg (I : aI) (x : aN) : Bool := match arng I x with
  | some p => zle 0 p.1
  | none => false
theorem anneg_ok {ρ : Nat → Int} {I : aI} {O : mO} (hI : gI ρ I O) {x : aN} {a : Int} (hx : gN ρ x a) (h : anneg I x = true) : 0 ≤ a := by
  unfold anneg at h
  split at h
  · rename_i p hp
    have h1 := arng_ok hI hx hp
    have h2 := of_decide_eq_true h
    omega
  · cases h
noncomputable def adivc (I : aI) (x y : aN) : Bool := match arng I x, arng I y with
  | some p, some q => zle 0 p.1 && zle p.2 2147483647 && zlt 0 q.1 && zle q.2 2147483647
  | _, _ => false
theorem adivc_ok {ρ : Nat → Int} {I : aI} {O : mO} (hI : gI ρ I O) {x y : aN} {a b : Int} (hx : gN ρ x a) (hy : gN ρ y b) (h : adivc I x y = true) : 0 ≤ a ∧ a ≤ 2147483647 ∧ 0 < b ∧ b ≤ 2147483647 := by
  unfold adivc at h
  split at h
  · rename_i p q hp hq
    have h1 := arng_ok hI hx hp
    have h2 := arng_ok hI hy hq
    simp only [Bool.and_eq_true] at h
    have g1 := of_decide_eq_true h.1.1.1
    have g2 := of_decide_eq_true h.1.1.2
    have g3 := of_decide_eq_true h.1.2
    have g4 := of_decide_eq_true h.2
    exact ⟨by omega, by omega, by omega, by omega⟩
  · cases h
noncomputable def asplit (I : aI) (o : ClassFile.Cond) (x y : aN) (k : aNx → Bool) : Bool := match x, y with
  | (q + 2, a), (0, b) => (match o with
    | .lt => k (.inr (.inr (.inr (q, b - a - 1))))
    | .ge => k (.inr (.inr (.inr (q, b - a - 1))))
    | .gt => k (.inr (.inr (.inr (q, b - a))))
    | .le => k (.inr (.inr (.inr (q, b - a))))
    | _ => bif zlt (lget (0, 0) I.2 q).1 (b - a) then k (.inr (.inr (.inr (q, b - a - 1)))) else k (.inr (.inr (.inr (q, b - a)))))
  | (0, b), (q + 2, a) => (match o with
    | .lt => k (.inr (.inr (.inr (q, b - a))))
    | .ge => k (.inr (.inr (.inr (q, b - a))))
    | .gt => k (.inr (.inr (.inr (q, b - a - 1))))
    | .le => k (.inr (.inr (.inr (q, b - a - 1))))
    | _ => bif zlt (lget (0, 0) I.2 q).1 (b - a) then k (.inr (.inr (.inr (q, b - a - 1)))) else k (.inr (.inr (.inr (q, b - a)))))
  | (q + 2, a), (r + 2, b) => bif zlt (lget (0, 0) I.2 q).1 (lget (0, 0) I.2 q).2 then asp1 I (q + 2, a) k else asp1 I (r + 2, b) k
  | _, _ => false
theorem asplit_ok {I : aI} {o : ClassFile.Cond} {x y : aN} {k : aNx → Bool} (h : asplit I o x y k = true) : ∃ q, k (.inr (.inr (.inr q))) = true := by
  unfold asplit at h
  split at h
  · split at h
    · exact ⟨_, h⟩
    · exact ⟨_, h⟩
    · exact ⟨_, h⟩
    · exact ⟨_, h⟩
    · rename_i q a b _ _ _ _ _
      cases hc : zlt (lget (0, 0) I.2 q).1 (b - a) with
      | false => rw [hc] at h; exact ⟨_, h⟩
      | true => rw [hc] at h; exact ⟨_, h⟩
  · split at h
    · exact ⟨_, h⟩
    · exact ⟨_, h⟩
    · exact ⟨_, h⟩
    · exact ⟨_, h⟩
    · rename_i b q a _ _ _ _ _
      cases hc : zlt (lget (0, 0) I.2 q).1 (b - a) with
      | false => rw [hc] at h; exact ⟨_, h⟩
      | true => rw [hc] at h; exact ⟨_, h⟩
  · rename_i q a r b
    cases hc : zlt (lget (0, 0) I.2 q).1 (lget (0, 0) I.2 q).2 with
    | false => rw [hc] at h; dsimp only [cond] at h; exact asp1_ok h
    | true => rw [hc] at h; dsimp only [cond] at h; exact asp1_ok h
  · cases h
noncomputable def anorm (I : aI) (x : aN) : aN := match arng I x with
  | some (p, q) => bif zeq p q then (0, p) else x
  | none => x
theorem anorm_ok {ρ : Nat → Int} {I : aI} {O : mO} (hI : gI ρ I O) {x : aN} {a : Int} (hx : gN ρ x a) : gN ρ (anorm I x) a := by
  unfold anorm
  split
  · rename_i p q hp
    have h1 := arng_ok hI hx hp
    dsimp only at h1
    cases hc : zeq p q with
    | false => exact hx
    | true =>
      have h2 : p = q := of_decide_eq_true hc
      show a = p
      omega
  · exact hx
noncomputable def asw (lo hi p q : Int) (x : aN) (k : aNx → Bool) : Bool := match x with
  | (r + 2, a) => bif zlt p lo then k (.inr (.inr (.inr (r, lo - a - 1)))) else bif zlt hi q then k (.inr (.inr (.inr (r, hi - a)))) else k (.inr (.inr (.inr (r, p - a))))
  | _ => false
theorem asw_ok {lo hi p q : Int} {x : aN} {k : aNx → Bool} (h : asw lo hi p q x k = true) : ∃ q, k (.inr (.inr (.inr q))) = true := by
  unfold asw at h
  split at h
  · rename_i r a
    cases hc : zlt p lo with
    | true => rw [hc] at h; exact ⟨_, h⟩
    | false =>
      rw [hc] at h
      dsimp only [cond] at h
      cases hc2 : zlt hi q with
      | true => rw [hc2] at h; exact ⟨_, h⟩
      | false => rw [hc2] at h; exact ⟨_, h⟩
  · cases h
-- small, and to be shifted by 6; split at a number
noncomputable def asm6 (I : aI) (x y : aN) : Bool := Nat.beq y.1 0 && zeq y.2 6 && (match arng I x with
  | some p => zle 0 p.1 && zle p.2 100000
  | none => false)
theorem asm6_ok {ρ : Nat → Int} {I : aI} {O : mO} (hI : gI ρ I O) {x y : aN} {a b : Int} (hx : gN ρ x a) (hy : gN ρ y b) (h : asm6 I x y = true) : 0 ≤ a ∧ a ≤ 100000 ∧ b = 6 := by
  unfold asm6 at h
  rw [Bool.and_eq_true] at h
  obtain ⟨h1, h2⟩ := h
  obtain ⟨t, c⟩ := y
  rw [Bool.and_eq_true] at h1
  have e1 : t = 0 := Nat.eq_of_beq_eq_true h1.1
  have e2 : c = 6 := of_decide_eq_true h1.2
  subst e1
  subst e2
  have hy : b = 6 := hy
  split at h2
  · rename_i p hp
    have h3 := arng_ok hI hx hp
    rw [Bool.and_eq_true] at h2
    have g1 := of_decide_eq_true h2.1
    have g2 := of_decide_eq_true h2.2
    exact ⟨by omega, by omega, hy⟩
  · cases h2
noncomputable def aspz (x : aN) (z : Int) (k : aNx → Bool) : Bool := match x with
  | (q + 2, a) => k (.inr (.inr (.inr (q, z - a))))
  | _ => false
theorem aspz_ok {x : aN} {z : Int} {k : aNx → Bool} (h : aspz x z k = true) : ∃ q, k (.inr (.inr (.inr q))) = true := by
  unfold aspz at h
  split at h
  · exact ⟨_, h⟩
  · cases h
-- a narrow symbol over a known number
noncomputable def anar (I : aI) (x y : aN) : Bool := Nat.beq (anorm I y).1 0 && (match x with
  | (q + 2, _) => zlt (lget (0, 0) I.2 q).1 (lget (0, 0) I.2 q).2 && zle (lget (0, 0) I.2 q).2 ((lget (0, 0) I.2 q).1 + 1100)
  | _ => false)
noncomputable def atgt (x lo hi : Int) (t : Int) (ts : List Int) : Int := bif zlt x lo || zlt hi x then t else ts.getD (x - lo).toNat t
noncomputable def aXa (I : aI) (len : Nat) (i : Instr) (pc : Nat) (L S : List aV) (c s : Nat) (M : aM) (n : Nat) (kn : Bool) (k : aNx → Bool) : Bool := match i with
  | .iconst z => agoN 0 (0, z) (pc + len) L S c s M n kn k
  | .bipush z => agoN 0 (0, z) (pc + len) L S c s M n kn k
  | .sipush z => agoN 0 (0, z) (pc + len) L S c s M n kn k
  | .lconst z => agoN 1 (0, ((z : Nat) : Int)) (pc + len) L S c s M n kn k
  | .jsr_w z => agoN 1 (0, z) (pc + len) L S c s M n kn k
  | .dconst _ => agoN 2 (0, 0) (pc + len) L S c s M n kn k
  | .ldc j => agoN 5 (0, (j : Int)) (pc + len) L S c s M n kn k
  | .getstatic j => agoN 4 (0, (j : Int)) (pc + len) L S c s M n kn k
  | .iload q => match agt L q with
    | (0, x) => agoN 0 x (pc + len) L S c s M n kn k
    | _ => false
  | .lload q => match agt L q with
    | (1, x) => agoN 1 x (pc + len) L S c s M n kn k
    | _ => false
  | .dload q => match agt L q with
    | (2, x) => agoN 2 x (pc + len) L S c s M n kn k
    | _ => false
  | .aload q => match agt L q with
    | (3, x) => agoN 3 x (pc + len) L S c s M n kn k
    | (4, x) => agoN 4 x (pc + len) L S c s M n kn k
    | (5, x) => agoN 5 x (pc + len) L S c s M n kn k
    | _ => false
  | .istore q => match S with
    | (0, x) :: S => al1K L q (0, x) (fun L => ago (pc + len) L S c s M n kn k)
    | _ => false
  | .lstore q => match S with
    | (1, x) :: S => al2K L q (1, x) (fun L => ago (pc + len) L S c s M n kn k)
    | _ => false
  | .dstore q => match S with
    | (2, x) :: S => al2K L q (2, x) (fun L => ago (pc + len) L S c s M n kn k)
    | _ => false
  | .astore q => match S with
    | (3, x) :: S => bif anneg I x then al1K L q (3, x) (fun L => ago (pc + len) L S c s M n kn k) else false
    | _ => false
  | .iinc q z => match agt L q with
    | (0, x) => frcN (aadd x (0, z)).1 (fun u => frcZ (aadd x (0, z)).2 (fun v => al1K L q (0, u, v) (fun L => ago (pc + len) L S c s M n kn k)))
    | _ => false
  | .dup => match S with
    | (0, x) :: S => ago (pc + 1) L ((0, x) :: (0, x) :: S) c s M n kn k
    | (3, x) :: S => ago (pc + 1) L ((3, x) :: (3, x) :: S) c s M n kn k
    | _ => false
  | .dup2 => match S with
    | (0, y) :: (3, x) :: S => ago (pc + 1) L ((0, y) :: (3, x) :: (0, y) :: (3, x) :: S) c s M n kn k
    | _ => false
  | .pop => match S with
    | (0, _) :: S => ago (pc + 1) L S c s M n kn k
    | _ => false
  | .iadd => match S with
    | (0, y) :: (0, x) :: S => agoN 0 (aadd x y) (pc + 1) L S c s M n kn k
    | _ => false
  | .isub => match S with
    | (0, y) :: (0, x) :: S => agoN 0 (asub x y) (pc + 1) L S c s M n kn k
    | _ => false
  | .imul => match S with
    | (0, y) :: (0, x) :: S => bif Nat.beq (anorm I x).1 0 then (bif Nat.beq (anorm I y).1 0 then agoN 0 (abin (fun a b => a * b) (anorm I x) (anorm I y)) (pc + 1) L S c s M n kn k else asp1 I y k) else asp1 I x k
    | _ => false
  | .iand => match S with
    | (0, y) :: (0, x) :: S => agoN 0 (aand I x y) (pc + 1) L S c s M n kn k
    | _ => false
  | .ishr => match S with
    | (0, y) :: (0, x) :: S => bif asm6 I x y then (match arng I x with
      | some (p, q) => bif zeq (p / 64) (q / 64) then agoN 0 (0, p / 64) (pc + 1) L S c s M n kn k else aspz x (p / 64 * 64 + 63) k
      | none => false) else agoN 0 (abin mishr (anorm I x) (anorm I y)) (pc + 1) L S c s M n kn k
    | _ => false
  | .ior => match S with
    | (0, y) :: (0, x) :: S => agoN 0 (abin mior (anorm I x) (anorm I y)) (pc + 1) L S c s M n kn k
    | _ => false
  | .ishl => match S with
    | (0, y) :: (0, x) :: S => agoN 0 (abin mishl (anorm I x) (anorm I y)) (pc + 1) L S c s M n kn k
    | _ => false
  | .iushr => match S with
    | (0, y) :: (0, x) :: S => agoN 0 (abin miushr (anorm I x) (anorm I y)) (pc + 1) L S c s M n kn k
    | _ => false
  | .idiv => match S with
    | (0, y) :: (0, x) :: S => bif adivc I x y then (bif anar I x y then asp1 I x k else agoN 0 (abin (fun a b => a / b) (anorm I x) (anorm I y)) (pc + 1) L S c s M n kn k) else false
    | _ => false
  | .irem => match S with
    | (0, y) :: (0, x) :: S => bif adivc I x y then agoN 0 (abin (fun a b => a % b) (anorm I x) (anorm I y)) (pc + 1) L S c s M n kn k else false
    | _ => false
  | .ladd => match S with
    | (1, y) :: (1, x) :: S => agoN 1 (aadd x y) (pc + 1) L S c s M n kn k
    | _ => false
  | .lsub => match S with
    | (1, y) :: (1, x) :: S => agoN 1 (asub x y) (pc + 1) L S c s M n kn k
    | _ => false
  | .lmul => match S with
    | (1, y) :: (1, x) :: S => agoN 1 (abin (fun a b => a * b) (anorm I x) (anorm I y)) (pc + 1) L S c s M n kn k
    | _ => false
  | .land => match S with
    | (1, y) :: (1, x) :: S => agoN 1 (abin mland (anorm I x) (anorm I y)) (pc + 1) L S c s M n kn k
    | _ => false
  | .lor => match S with
    | (1, y) :: (1, x) :: S => agoN 1 (abin mlor (anorm I x) (anorm I y)) (pc + 1) L S c s M n kn k
    | _ => false
  | .lxor => match S with
    | (1, y) :: (1, x) :: S => agoN 1 (abin mlxor (anorm I x) (anorm I y)) (pc + 1) L S c s M n kn k
    | _ => false
  | .lshl => match S with
    | (0, y) :: (1, x) :: S => agoN 1 (abin mlshl (anorm I x) (anorm I y)) (pc + 1) L S c s M n kn k
    | _ => false
  | .lushr => match S with
    | (0, y) :: (1, x) :: S => agoN 1 (ausr (anorm I x) (anorm I y)) (pc + 1) L S c s M n kn k
    | _ => false
  | .lcmp => match S with
    | (1, y) :: (1, x) :: S => bif ainL I x && ainL I y then (match alt I x y, aeq I x y with
      | some true, _ => agoN 0 (0, -1) (pc + 1) L S c s M n kn k
      | some false, some true => agoN 0 (0, 0) (pc + 1) L S c s M n kn k
      | some false, some false => agoN 0 (0, 1) (pc + 1) L S c s M n kn k
      | none, _ => asplit I .lt x y k
      | some false, none => asplit I .eq x y k) else false
    | _ => false
  | .dcmp o => match S with
    | (2, y) :: (2, x) :: S => agoN 0 (abin (mdcmp o) x y) (pc + 1) L S c s M n kn k
    | _ => false
  | .i2b => match S with
    | (0, x) :: S => agoN 0 (ai2b x) (pc + 1) L S c s M n kn k
    | _ => false
  | .i2l => match S with
    | (0, x) :: S => bif ainR I x then agoN 1 (x) (pc + 1) L S c s M n kn k else false
    | _ => false
  | .l2i => match S with
    | (1, x) :: S => agoN 0 (x) (pc + 1) L S c s M n kn k
    | _ => false
  | .goto t => ago t.toNat L S c s M n kn k
  | .ifCond o t => match S with
    | (0, x) :: S => bif ainR I x then (match acond I o x (0, 0) with
      | some true => ago t.toNat L S c s M n kn k
      | some false => ago (pc + 3) L S c s M n kn k
      | none => asplit I o x (0, 0) k) else false
    | _ => false
  | .if_icmp o t => match S with
    | (0, y) :: (0, x) :: S => bif ainR I x && ainR I y then (match acond I o x y with
      | some true => ago t.toNat L S c s M n kn k
      | some false => ago (pc + 3) L S c s M n kn k
      | none => asplit I o x y k) else false
    | _ => false
  | .tableswitch t lo hi ts => match S with
    | (0, x) :: S => bif ainR I x && zeq (ts.size : Int) (hi - lo + 1) then (match arng I x with
      | some (p, q) => bif zeq p q then ago (atgt p lo hi t ts.toList).toNat L S c s M n kn k else bif zlt q lo || zlt hi p then ago t.toNat L S c s M n kn k else asw lo hi p q x k
      | none => false) else false
    | _ => false
  | _ => false
noncomputable def aSnd (ρ : Nat → Int) (m : Nat) (nx : aNx) (mn : mNx) : Prop := ∀ (B : mSt → Prop) (C : Nat → List mV → mG → mD → mK → Prop) (K : mK), match nx with
  | .inl st => (∀ w, gS ρ st w → B w) → mint B C m K mn
  | .inr (.inl (j, as, st)) => (∀ as' pc L S c s G d, gL ρ as as' → gS ρ st (pc, L, S, c, s, G, d) → C j as' G d (mback m pc L S c s B K)) → mint B C m K mn
  | .inr (.inr (.inl r)) => (∀ q G d, gR ρ r q G d → K q G d) → mint B C m K mn
  | .inr (.inr (.inr _)) => True
theorem a_next {ρ : Nat → Int} {m : Nat} {mn : mNx} {k : aNx → Bool} {st : aSt} (h : k (.inl st) = true) (hs : ∀ (B : mSt → Prop) (C : Nat → List mV → mG → mD → mK → Prop) (K : mK), (∀ w, gS ρ st w → B w) → mint B C m K mn) : ∃ nx, k nx = true ∧ aSnd ρ m nx mn := ⟨.inl st, h, hs⟩
theorem a_splt {ρ : Nat → Int} {m : Nat} {mn : mNx} {k : aNx → Bool} (h : ∃ q, k (.inr (.inr (.inr q))) = true) : ∃ nx, k nx = true ∧ aSnd ρ m nx mn := by
  obtain ⟨q, hq⟩ := h
  exact ⟨.inr (.inr (.inr q)), hq, fun _ _ _ => trivial⟩
theorem msw_all {x : Int} {f : Nat → mSt} {B : mSt → Prop} : ∀ (ts : List Int) (k : Int) (z : List (Prop × mSt)), z ≠ [] → (∀ (i : Nat) (t : Int), ts[i]? = some t → x = k + i → B (f t.toNat)) → mall B z → mall B (msw x f k ts ++ z)
  | [], _, _, _, _, h => h
  | t :: ts, k, z, hz, h1, h2 => by
    have hne : msw x f (k + 1) ts ++ z ≠ [] := fun w => hz (List.append_eq_nil_iff.mp w).2
    obtain ⟨q, r, hqr⟩ := List.exists_cons_of_ne_nil hne
    have ih := msw_all (x := x) (f := f) (B := B) ts (k + 1) z hz (fun i t' hi hx => h1 (i + 1) t' (by simpa using hi) (by have e9 : ((i + 1 : Nat) : Int) = (i : Int) + 1 := rfl; omega)) h2
    show mall B ((x = k, f t.toNat) :: (msw x f (k + 1) ts ++ z))
    rw [hqr] at ih ⊢
    exact ⟨fun e => h1 0 t rfl (by show x = k + 0; omega), ih⟩
theorem aXa_ok {ρ : Nat → Int} {I : aI} {O : mO} (hI : gI ρ I O) {m len : Nat} {i : Instr} {pc : Nat} {L S : List aV} {L' S' : List mV} {c s : Nat} {M : aM} {n : Nat} {kn : Bool} {G : mG} {d : mD} {k : aNx → Bool}
    (hL : gL ρ L L') (hS : gL ρ S S') (hM : gM ρ M n kn G d) (h : aXa I len i pc L S c s M n kn k = true) : ∃ nx, k nx = true ∧ aSnd ρ m nx (mX O m len i pc L' S' c s G d) := by
  unfold aXa at h
  split at h
  · rw [agoN_eq] at h; exact a_next h (fun B C K hB => hB _ ⟨rfl, hL, ⟨⟨rfl, rfl⟩, hS⟩, rfl, rfl, hM⟩)
  · rw [agoN_eq] at h; exact a_next h (fun B C K hB => hB _ ⟨rfl, hL, ⟨⟨rfl, rfl⟩, hS⟩, rfl, rfl, hM⟩)
  · rw [agoN_eq] at h; exact a_next h (fun B C K hB => hB _ ⟨rfl, hL, ⟨⟨rfl, rfl⟩, hS⟩, rfl, rfl, hM⟩)
  · rw [agoN_eq] at h; exact a_next h (fun B C K hB => hB _ ⟨rfl, hL, ⟨⟨rfl, rfl⟩, hS⟩, rfl, rfl, hM⟩)
  · rw [agoN_eq] at h; exact a_next h (fun B C K hB => hB _ ⟨rfl, hL, ⟨⟨rfl, rfl⟩, hS⟩, rfl, rfl, hM⟩)
  · rw [agoN_eq] at h; exact a_next h (fun B C K hB => hB _ ⟨rfl, hL, ⟨⟨rfl, rfl⟩, hS⟩, rfl, rfl, hM⟩)
  · rw [agoN_eq] at h; exact a_next h (fun B C K hB => hB _ ⟨rfl, hL, ⟨⟨rfl, rfl⟩, hS⟩, rfl, rfl, hM⟩)
  · rw [agoN_eq] at h; exact a_next h (fun B C K hB => hB _ ⟨rfl, hL, ⟨⟨rfl, rfl⟩, hS⟩, rfl, rfl, hM⟩)
  · split at h
    · rename_i x hx
      obtain ⟨x', hx', hg⟩ := gL_at hL hx
      simp only [mX, hx']
      rw [agoN_eq] at h; exact a_next h (fun B C K hB => hB _ ⟨rfl, hL, ⟨⟨rfl, hg⟩, hS⟩, rfl, rfl, hM⟩)
    · cases h
  · split at h
    · rename_i x hx
      obtain ⟨x', hx', hg⟩ := gL_at hL hx
      simp only [mX, hx']
      rw [agoN_eq] at h; exact a_next h (fun B C K hB => hB _ ⟨rfl, hL, ⟨⟨rfl, hg⟩, hS⟩, rfl, rfl, hM⟩)
    · cases h
  · split at h
    · rename_i x hx
      obtain ⟨x', hx', hg⟩ := gL_at hL hx
      simp only [mX, hx']
      rw [agoN_eq] at h; exact a_next h (fun B C K hB => hB _ ⟨rfl, hL, ⟨⟨rfl, hg⟩, hS⟩, rfl, rfl, hM⟩)
    · cases h
  · split at h
    · rename_i x hx
      obtain ⟨x', hx', hg⟩ := gL_at hL hx
      simp only [mX, hx']
      rw [agoN_eq] at h; exact a_next h (fun B C K hB => hB _ ⟨rfl, hL, ⟨⟨rfl, hg⟩, hS⟩, rfl, rfl, hM⟩)
    · rename_i x hx
      obtain ⟨x', hx', hg⟩ := gL_at hL hx
      simp only [mX, hx']
      rw [agoN_eq] at h; exact a_next h (fun B C K hB => hB _ ⟨rfl, hL, ⟨⟨rfl, hg⟩, hS⟩, rfl, rfl, hM⟩)
    · rename_i x hx
      obtain ⟨x', hx', hg⟩ := gL_at hL hx
      simp only [mX, hx']
      rw [agoN_eq] at h; exact a_next h (fun B C K hB => hB _ ⟨rfl, hL, ⟨⟨rfl, hg⟩, hS⟩, rfl, rfl, hM⟩)
    · cases h
  · split at h
    · obtain ⟨x', S', rfl, hg, hS⟩ := gL_cons hS
      rw [al1K_eq, ago_eq] at h
      exact a_next h (fun B C K hB => hB _ ⟨rfl, gL_put1 (v := (0, _)) (w := (0, _)) ⟨rfl, hg⟩ hL _, hS, rfl, rfl, hM⟩)
    · cases h
  · split at h
    · obtain ⟨x', S', rfl, hg, hS⟩ := gL_cons hS
      rw [al2K_eq, ago_eq] at h
      exact a_next h (fun B C K hB => hB _ ⟨rfl, gL_put2 (v := (1, _)) (w := (1, _)) ⟨rfl, hg⟩ hL _, hS, rfl, rfl, hM⟩)
    · cases h
  · split at h
    · obtain ⟨x', S', rfl, hg, hS⟩ := gL_cons hS
      rw [al2K_eq, ago_eq] at h
      exact a_next h (fun B C K hB => hB _ ⟨rfl, gL_put2 (v := (2, _)) (w := (2, _)) ⟨rfl, hg⟩ hL _, hS, rfl, rfl, hM⟩)
    · cases h
  · split at h
    · rename_i x S0
      obtain ⟨x', S', rfl, hg, hS⟩ := gL_cons hS
      cases hc : anneg I x with
      | false => rw [hc] at h; cases h
      | true =>
        rw [hc] at h
        dsimp only [cond] at h
        rw [al1K_eq, ago_eq] at h
        exact a_next h (fun B C K hB => ⟨anneg_ok hI hg hc, hB _ ⟨rfl, gL_put1 (v := (3, _)) (w := (3, _)) ⟨rfl, hg⟩ hL _, hS, rfl, rfl, hM⟩⟩)
    · cases h
  · split at h
    · rename_i x hx
      obtain ⟨x', hx', hg⟩ := gL_at hL hx
      simp only [mX, hx']
      rw [frcN_eq, frcZ_eq, al1K_eq, ago_eq] at h
      exact a_next h (fun B C K hB => hB _ ⟨rfl, gL_put1 (v := (0, _)) (w := (0, _)) ⟨rfl, aadd_ok (y := (0, _)) hg rfl⟩ hL _, hS, rfl, rfl, hM⟩)
    · cases h
  · split at h
    · obtain ⟨x', S', rfl, hg, hS⟩ := gL_cons hS
      rw [ago_eq] at h
      exact a_next h (fun B C K hB => hB _ ⟨rfl, hL, ⟨⟨rfl, hg⟩, ⟨rfl, hg⟩, hS⟩, rfl, rfl, hM⟩)
    · obtain ⟨x', S', rfl, hg, hS⟩ := gL_cons hS
      rw [ago_eq] at h
      exact a_next h (fun B C K hB => hB _ ⟨rfl, hL, ⟨⟨rfl, hg⟩, ⟨rfl, hg⟩, hS⟩, rfl, rfl, hM⟩)
    · cases h
  · split at h
    · obtain ⟨y', S', rfl, hy, hS⟩ := gL_cons hS
      obtain ⟨x', S', rfl, hg, hS⟩ := gL_cons hS
      rw [ago_eq] at h
      exact a_next h (fun B C K hB => hB _ ⟨rfl, hL, ⟨⟨rfl, hy⟩, ⟨rfl, hg⟩, ⟨rfl, hy⟩, ⟨rfl, hg⟩, hS⟩, rfl, rfl, hM⟩)
    · cases h
  · split at h
    · obtain ⟨x', S', rfl, hg, hS⟩ := gL_cons hS
      rw [ago_eq] at h
      exact a_next h (fun B C K hB => hB _ ⟨rfl, hL, hS, rfl, rfl, hM⟩)
    · cases h
  · split at h
    · rename_i y x S0
      obtain ⟨y', S', rfl, hy, hS⟩ := gL_cons hS
      obtain ⟨x', S', rfl, hx, hS⟩ := gL_cons hS
      rw [agoN_eq] at h; exact a_next h (fun B C K hB => hB _ ⟨rfl, hL, ⟨⟨rfl, aadd_ok hx hy⟩, hS⟩, rfl, rfl, hM⟩)
    · cases h
  · split at h
    · rename_i y x S0
      obtain ⟨y', S', rfl, hy, hS⟩ := gL_cons hS
      obtain ⟨x', S', rfl, hx, hS⟩ := gL_cons hS
      rw [agoN_eq] at h; exact a_next h (fun B C K hB => hB _ ⟨rfl, hL, ⟨⟨rfl, asub_ok hx hy⟩, hS⟩, rfl, rfl, hM⟩)
    · cases h
  · split at h
    · rename_i y x S0
      obtain ⟨y', S', rfl, hy, hS⟩ := gL_cons hS
      obtain ⟨x', S', rfl, hx, hS⟩ := gL_cons hS
      cases hc : Nat.beq (anorm I x).1 0 with
      | false => rw [hc] at h; exact a_splt (asp1_ok h)
      | true =>
        rw [hc] at h
        dsimp only [cond] at h
        cases hc2 : Nat.beq (anorm I y).1 0 with
        | false => rw [hc2] at h; exact a_splt (asp1_ok h)
        | true =>
          rw [hc2] at h
          dsimp only [cond] at h
          rw [agoN_eq] at h; exact a_next h (fun B C K hB => hB _ ⟨rfl, hL, ⟨⟨rfl, abin_ok (f := fun a b => a * b) (anorm_ok hI hx) (anorm_ok hI hy)⟩, hS⟩, rfl, rfl, hM⟩)
    · cases h
  · split at h
    · rename_i y x S0
      obtain ⟨y', S', rfl, hy, hS⟩ := gL_cons hS
      obtain ⟨x', S', rfl, hx, hS⟩ := gL_cons hS
      rw [agoN_eq] at h; exact a_next h (fun B C K hB => hB _ ⟨rfl, hL, ⟨⟨rfl, aand_ok hI hx hy⟩, hS⟩, rfl, rfl, hM⟩)
    · cases h
  · split at h
    · rename_i y x S0
      obtain ⟨y', S', rfl, hy, hS⟩ := gL_cons hS
      obtain ⟨x', S', rfl, hx, hS⟩ := gL_cons hS
      cases hc : asm6 I x y with
      | false =>
        rw [hc] at h
        dsimp only [cond] at h
        rw [agoN_eq] at h; exact a_next h (fun B C K hB => hB _ ⟨rfl, hL, ⟨⟨rfl, abin_ok (anorm_ok hI hx) (anorm_ok hI hy)⟩, hS⟩, rfl, rfl, hM⟩)
      | true =>
        rw [hc] at h
        dsimp only [cond] at h
        obtain ⟨h1, h2, h3⟩ := asm6_ok hI hx hy hc
        split at h
        · rename_i p q hp
          have hr := arng_ok hI hx hp
          dsimp only at hr
          cases hc2 : zeq (p / 64) (q / 64) with
          | false => rw [hc2] at h; exact a_splt (aspz_ok h)
          | true =>
            rw [hc2] at h
            dsimp only [cond] at h
            have e : p / 64 = q / 64 := of_decide_eq_true hc2
            rw [agoN_eq] at h
            refine a_next h (fun B C K hB => hB _ ⟨rfl, hL, ⟨⟨rfl, ?_⟩, hS⟩, rfl, rfl, hM⟩)
            show mishr x' y' = p / 64
            rw [h3, mishr_6 h1 h2]
            omega
        · cases h
    · cases h
  · split at h
    · rename_i y x S0
      obtain ⟨y', S', rfl, hy, hS⟩ := gL_cons hS
      obtain ⟨x', S', rfl, hx, hS⟩ := gL_cons hS
      rw [agoN_eq] at h; exact a_next h (fun B C K hB => hB _ ⟨rfl, hL, ⟨⟨rfl, abin_ok (anorm_ok hI hx) (anorm_ok hI hy)⟩, hS⟩, rfl, rfl, hM⟩)
    · cases h
  · split at h
    · rename_i y x S0
      obtain ⟨y', S', rfl, hy, hS⟩ := gL_cons hS
      obtain ⟨x', S', rfl, hx, hS⟩ := gL_cons hS
      rw [agoN_eq] at h; exact a_next h (fun B C K hB => hB _ ⟨rfl, hL, ⟨⟨rfl, abin_ok (anorm_ok hI hx) (anorm_ok hI hy)⟩, hS⟩, rfl, rfl, hM⟩)
    · cases h
  · split at h
    · rename_i y x S0
      obtain ⟨y', S', rfl, hy, hS⟩ := gL_cons hS
      obtain ⟨x', S', rfl, hx, hS⟩ := gL_cons hS
      rw [agoN_eq] at h; exact a_next h (fun B C K hB => hB _ ⟨rfl, hL, ⟨⟨rfl, abin_ok (anorm_ok hI hx) (anorm_ok hI hy)⟩, hS⟩, rfl, rfl, hM⟩)
    · cases h
  · split at h
    · rename_i y x S0
      obtain ⟨y', S', rfl, hy, hS⟩ := gL_cons hS
      obtain ⟨x', S', rfl, hx, hS⟩ := gL_cons hS
      cases hc : adivc I x y with
      | false => rw [hc] at h; cases h
      | true =>
        rw [hc] at h
        dsimp only [cond] at h
        cases hc2 : anar I x y with
        | true => rw [hc2] at h; exact a_splt (asp1_ok h)
        | false =>
          rw [hc2] at h
          dsimp only [cond] at h
          rw [agoN_eq] at h
          exact a_next h (fun B C K hB => ⟨adivc_ok hI hx hy hc, hB _ ⟨rfl, hL, ⟨⟨rfl, abin_ok (f := fun a b => a / b) (anorm_ok hI hx) (anorm_ok hI hy)⟩, hS⟩, rfl, rfl, hM⟩⟩)
    · cases h
  · split at h
    · rename_i y x S0
      obtain ⟨y', S', rfl, hy, hS⟩ := gL_cons hS
      obtain ⟨x', S', rfl, hx, hS⟩ := gL_cons hS
      cases hc : adivc I x y with
      | false => rw [hc] at h; cases h
      | true =>
        rw [hc] at h
        dsimp only [cond] at h
        rw [agoN_eq] at h
        exact a_next h (fun B C K hB => ⟨adivc_ok hI hx hy hc, hB _ ⟨rfl, hL, ⟨⟨rfl, abin_ok (f := fun a b => a % b) (anorm_ok hI hx) (anorm_ok hI hy)⟩, hS⟩, rfl, rfl, hM⟩⟩)
    · cases h
  · split at h
    · rename_i y x S0
      obtain ⟨y', S', rfl, hy, hS⟩ := gL_cons hS
      obtain ⟨x', S', rfl, hx, hS⟩ := gL_cons hS
      rw [agoN_eq] at h; exact a_next h (fun B C K hB => hB _ ⟨rfl, hL, ⟨⟨rfl, aadd_ok hx hy⟩, hS⟩, rfl, rfl, hM⟩)
    · cases h
  · split at h
    · rename_i y x S0
      obtain ⟨y', S', rfl, hy, hS⟩ := gL_cons hS
      obtain ⟨x', S', rfl, hx, hS⟩ := gL_cons hS
      rw [agoN_eq] at h; exact a_next h (fun B C K hB => hB _ ⟨rfl, hL, ⟨⟨rfl, asub_ok hx hy⟩, hS⟩, rfl, rfl, hM⟩)
    · cases h
  · split at h
    · rename_i y x S0
      obtain ⟨y', S', rfl, hy, hS⟩ := gL_cons hS
      obtain ⟨x', S', rfl, hx, hS⟩ := gL_cons hS
      rw [agoN_eq] at h; exact a_next h (fun B C K hB => hB _ ⟨rfl, hL, ⟨⟨rfl, abin_ok (f := fun a b => a * b) (anorm_ok hI hx) (anorm_ok hI hy)⟩, hS⟩, rfl, rfl, hM⟩)
    · cases h
  · split at h
    · rename_i y x S0
      obtain ⟨y', S', rfl, hy, hS⟩ := gL_cons hS
      obtain ⟨x', S', rfl, hx, hS⟩ := gL_cons hS
      rw [agoN_eq] at h; exact a_next h (fun B C K hB => hB _ ⟨rfl, hL, ⟨⟨rfl, abin_ok (anorm_ok hI hx) (anorm_ok hI hy)⟩, hS⟩, rfl, rfl, hM⟩)
    · cases h
  · split at h
    · rename_i y x S0
      obtain ⟨y', S', rfl, hy, hS⟩ := gL_cons hS
      obtain ⟨x', S', rfl, hx, hS⟩ := gL_cons hS
      rw [agoN_eq] at h; exact a_next h (fun B C K hB => hB _ ⟨rfl, hL, ⟨⟨rfl, abin_ok (anorm_ok hI hx) (anorm_ok hI hy)⟩, hS⟩, rfl, rfl, hM⟩)
    · cases h
  · split at h
    · rename_i y x S0
      obtain ⟨y', S', rfl, hy, hS⟩ := gL_cons hS
      obtain ⟨x', S', rfl, hx, hS⟩ := gL_cons hS
      rw [agoN_eq] at h; exact a_next h (fun B C K hB => hB _ ⟨rfl, hL, ⟨⟨rfl, abin_ok (anorm_ok hI hx) (anorm_ok hI hy)⟩, hS⟩, rfl, rfl, hM⟩)
    · cases h
  · split at h
    · rename_i y x S0
      obtain ⟨y', S', rfl, hy, hS⟩ := gL_cons hS
      obtain ⟨x', S', rfl, hx, hS⟩ := gL_cons hS
      rw [agoN_eq] at h; exact a_next h (fun B C K hB => hB _ ⟨rfl, hL, ⟨⟨rfl, abin_ok (anorm_ok hI hx) (anorm_ok hI hy)⟩, hS⟩, rfl, rfl, hM⟩)
    · cases h
  · split at h
    · rename_i y x S0
      obtain ⟨y', S', rfl, hy, hS⟩ := gL_cons hS
      obtain ⟨x', S', rfl, hx, hS⟩ := gL_cons hS
      rw [agoN_eq] at h; exact a_next h (fun B C K hB => hB _ ⟨rfl, hL, ⟨⟨rfl, ausr_ok (anorm_ok hI hx) (anorm_ok hI hy)⟩, hS⟩, rfl, rfl, hM⟩)
    · cases h
  · split at h
    · rename_i y x S0
      obtain ⟨y', S', rfl, hy, hS⟩ := gL_cons hS
      obtain ⟨x', S', rfl, hx, hS⟩ := gL_cons hS
      cases hc : (ainL I x && ainL I y) with
      | false => rw [hc] at h; cases h
      | true =>
        rw [hc] at h
        dsimp only [cond] at h
        rw [Bool.and_eq_true] at hc
        have hin : mInL x' ∧ mInL y' := ⟨ainL_ok hI hx hc.1, ainL_ok hI hy hc.2⟩
        split at h
        · rename_i h1 h2
          rw [agoN_eq] at h
          refine a_next h (fun B C K hB => ⟨hin, hB _ ⟨rfl, hL, ⟨⟨rfl, ?_⟩, hS⟩, rfl, rfl, hM⟩⟩)
          have := (alt_ok hI hx hy h2).1 rfl
          show mcmp x' y' = -1
          unfold mcmp
          rw [if_pos this]
        · rename_i h1 h2
          rw [agoN_eq] at h
          refine a_next h (fun B C K hB => ⟨hin, hB _ ⟨rfl, hL, ⟨⟨rfl, ?_⟩, hS⟩, rfl, rfl, hM⟩⟩)
          have h3 := (alt_ok hI hx hy h1).2 rfl
          have h4 := (aeq_ok hI hx hy h2).1 rfl
          show mcmp x' y' = 0
          unfold mcmp
          rw [if_neg (by omega), if_pos h4]
        · rename_i h1 h2
          rw [agoN_eq] at h
          refine a_next h (fun B C K hB => ⟨hin, hB _ ⟨rfl, hL, ⟨⟨rfl, ?_⟩, hS⟩, rfl, rfl, hM⟩⟩)
          have h3 := (alt_ok hI hx hy h1).2 rfl
          have h4 := (aeq_ok hI hx hy h2).2 rfl
          show mcmp x' y' = 1
          unfold mcmp
          rw [if_neg (by omega), if_neg h4]
        · exact a_splt (asplit_ok h)
        · exact a_splt (asplit_ok h)
    · cases h
  · split at h
    · rename_i y x S0
      obtain ⟨y', S', rfl, hy, hS⟩ := gL_cons hS
      obtain ⟨x', S', rfl, hx, hS⟩ := gL_cons hS
      rw [agoN_eq] at h; exact a_next h (fun B C K hB => hB _ ⟨rfl, hL, ⟨⟨rfl, abin_ok hx hy⟩, hS⟩, rfl, rfl, hM⟩)
    · cases h
  · split at h
    · rename_i x S0
      obtain ⟨x', S', rfl, hx, hS⟩ := gL_cons hS
      rw [agoN_eq] at h; exact a_next h (fun B C K hB => hB _ ⟨rfl, hL, ⟨⟨rfl, ai2b_ok hx⟩, hS⟩, rfl, rfl, hM⟩)
    · cases h
  · split at h
    · rename_i x S0
      obtain ⟨x', S', rfl, hx, hS⟩ := gL_cons hS
      cases hc : ainR I x with
      | false => rw [hc] at h; cases h
      | true =>
        rw [hc] at h
        dsimp only [cond] at h
        rw [agoN_eq] at h
        exact a_next h (fun B C K hB => ⟨ainR_ok hI hx hc, hB _ ⟨rfl, hL, ⟨⟨rfl, hx⟩, hS⟩, rfl, rfl, hM⟩⟩)
    · cases h
  · split at h
    · rename_i x S0
      obtain ⟨x', S', rfl, hx, hS⟩ := gL_cons hS
      rw [agoN_eq] at h; exact a_next h (fun B C K hB => hB _ ⟨rfl, hL, ⟨⟨rfl, hx⟩, hS⟩, rfl, rfl, hM⟩)
    · cases h
  · rw [ago_eq] at h
    exact a_next h (fun B C K hB => hB _ ⟨rfl, hL, hS, rfl, rfl, hM⟩)
  · split at h
    · rename_i x S0
      obtain ⟨x', S', rfl, hx, hS⟩ := gL_cons hS
      cases hc : (ainR I x) with
      | false => rw [hc] at h; cases h
      | true =>
        rw [hc] at h
        dsimp only [cond] at h
        split at h
        · rename_i h1
          have h2 := acond_ok hI hx (y := (0, 0)) (b := 0) rfl h1
          rw [ago_eq] at h
          exact a_next h (fun B C K hB => ⟨ainR_ok hI hx hc, fun _ => hB _ ⟨rfl, hL, hS, rfl, rfl, hM⟩, fun z => absurd z (h2.2 rfl)⟩)
        · rename_i h1
          have h2 := acond_ok hI hx (y := (0, 0)) (b := 0) rfl h1
          rw [ago_eq] at h
          exact a_next h (fun B C K hB => ⟨ainR_ok hI hx hc, fun z => absurd z (h2.1 rfl), fun _ => hB _ ⟨rfl, hL, hS, rfl, rfl, hM⟩⟩)
        · exact a_splt (asplit_ok h)
    · cases h
  · split at h
    · rename_i y x S0
      obtain ⟨y', S', rfl, hy, hS⟩ := gL_cons hS
      obtain ⟨x', S', rfl, hx, hS⟩ := gL_cons hS
      cases hc : (ainR I x && ainR I y) with
      | false => rw [hc] at h; cases h
      | true =>
        rw [hc] at h
        dsimp only [cond] at h
        split at h
        · rename_i h1
          have h2 := acond_ok hI hx hy h1
          rw [ago_eq] at h
          exact a_next h (fun B C K hB => ⟨(by rw [Bool.and_eq_true] at hc; exact ⟨ainR_ok hI hx hc.1, ainR_ok hI hy hc.2⟩), fun _ => hB _ ⟨rfl, hL, hS, rfl, rfl, hM⟩, fun z => absurd z (h2.2 rfl)⟩)
        · rename_i h1
          have h2 := acond_ok hI hx hy h1
          rw [ago_eq] at h
          exact a_next h (fun B C K hB => ⟨(by rw [Bool.and_eq_true] at hc; exact ⟨ainR_ok hI hx hc.1, ainR_ok hI hy hc.2⟩), fun z => absurd z (h2.1 rfl), fun _ => hB _ ⟨rfl, hL, hS, rfl, rfl, hM⟩⟩)
        · exact a_splt (asplit_ok h)
    · cases h
  · rename_i t9 lo9 hi9 ts9
    split at h
    · rename_i x S0
      obtain ⟨x', S', rfl, hx, hS⟩ := gL_cons hS
      cases hc : (ainR I x && zeq (ts9.size : Int) (hi9 - lo9 + 1)) with
      | false => rw [hc] at h; cases h
      | true =>
        rw [hc] at h
        dsimp only [cond] at h
        rw [Bool.and_eq_true] at hc
        have hsz : (ts9.size : Int) = hi9 - lo9 + 1 := of_decide_eq_true hc.2
        have hc := hc.1
        split at h
        · rename_i p q hp
          have hr := arng_ok hI hx hp
          dsimp only at hr
          cases hc2 : zeq p q with
          | true =>
            have hpq : p = q := of_decide_eq_true hc2
            have hxp : x' = p := by omega
            rw [hc2] at h
            dsimp only [cond] at h
            rw [ago_eq] at h
            refine a_next h (fun B C K hB => ⟨ainR_ok hI hx hc, msw_all _ _ _ (by simp) (fun i t hi hxi => ?_) (fun hout => ?_)⟩)
            · refine hB _ ⟨?_, hL, hS, rfl, rfl, hM⟩
              show (atgt p lo9 hi9 t9 ts9.toList).toNat = t.toNat
              have e : (zlt p lo9 || zlt hi9 p) = false ∨ (zlt p lo9 || zlt hi9 p) = true := by cases (zlt p lo9 || zlt hi9 p) <;> simp
              rcases e with e | e
              · unfold atgt
                rw [e]
                have e9 : (p - lo9).toNat = i := by omega
                show (ts9.toList.getD (p - lo9).toNat t9).toNat = t.toNat
                rw [e9, List.getD_eq_getElem?_getD, hi]
                rfl
              · exfalso
                have h7 : i < ts9.size := by
                  have := (List.getElem?_eq_some_iff.mp hi).1
                  simpa using this
                rw [Bool.or_eq_true] at e
                rcases e with e | e
                · have e := of_decide_eq_true e
                  omega
                · have e := of_decide_eq_true e
                  omega
            · refine hB _ ⟨?_, hL, hS, rfl, rfl, hM⟩
              show (atgt p lo9 hi9 t9 ts9.toList).toNat = t9.toNat
              unfold atgt zlt
              rw [hxp] at hout
              have e : (decide (p < lo9) || decide (hi9 < p)) = true := by rw [Bool.or_eq_true, decide_eq_true_eq, decide_eq_true_eq]; exact hout
              rw [e]
              rfl
          | false =>
            rw [hc2] at h
            dsimp only [cond] at h
            cases hc3 : (zlt q lo9 || zlt hi9 p) with
            | true =>
              rw [hc3] at h
              dsimp only [cond] at h
              rw [ago_eq] at h
              rw [Bool.or_eq_true] at hc3
              have hout : x' < lo9 ∨ hi9 < x' := by
                rcases hc3 with e | e
                · have e := of_decide_eq_true e
                  left
                  omega
                · have e := of_decide_eq_true e
                  right
                  omega
              refine a_next h (fun B C K hB => ⟨ainR_ok hI hx hc, msw_all _ _ _ (by simp) (fun i t hi hxi => ?_) (fun _ => hB _ ⟨rfl, hL, hS, rfl, rfl, hM⟩)⟩)
              exfalso
              have h7 : i < ts9.size := by
                have := (List.getElem?_eq_some_iff.mp hi).1
                simpa using this
              omega
            | false =>
              rw [hc3] at h
              dsimp only [cond] at h
              exact a_splt (asw_ok h)
        · cases h
    · cases h
  · cases h
