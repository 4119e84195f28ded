/-! ===== one abstract step ===== -/
def ago (pc : Nat) (L S : List aV) (c s : Nat) (M : aM) (n : Nat) (kn : Bool) (k : aNx → Option aRes) : Option aRes := frcN pc (fun pc => k (.inl (pc, L, S, c, s, M, n, kn)))
def agoN (t : Nat) (x : aN) (pc : Nat) (L S : List aV) (c s : Nat) (M : aM) (n : Nat) (kn : Bool) (k : aNx → Option aRes) : Option aRes := frcN pc (fun pc => frcN x.1 (fun u => frcZ x.2 (fun z => k (.inl (pc, L, (t, u, z) :: S, c, s, M, n, kn)))))
theorem ago_eq (pc : Nat) (L S : List aV) (c s : Nat) (M : aM) (n : Nat) (kn : Bool) (k : aNx → Option aRes) : ago pc L S c s M n kn k = k (.inl (pc, L, S, c, s, M, n, kn)) := by
  unfold ago
  rw [frcN_eq]
theorem agoN_eq (t : Nat) (x : aN) (pc : Nat) (L S : List aV) (c s : Nat) (M : aM) (n : Nat) (kn : Bool) (k : aNx → Option aRes) : agoN t x pc L S c s M n kn k = k (.inl (pc, L, (t, x) :: S, c, s, M, n, kn)) := by
  unfold agoN
  rw [frcN_eq, frcN_eq, frcZ_eq]
theorem gL_cons {ρ : Nat → Int} {t : Nat} {x : aN} {S : List aV} {S' : List mV} (h : gL ρ ((t, x) :: S) S') : ∃ x' S'', S' = (t, x') :: S'' ∧ gN ρ x x' ∧ gL ρ S S'' := by
  match S', h with
  | (u, y) :: S'', h =>
    obtain ⟨⟨h1, h2⟩, h3⟩ := h
    have h1 : t = u := h1
    subst h1
    exact ⟨y, S'', rfl, h2, h3⟩
theorem gL_at {ρ : Nat → Int} {L : List aV} {L' : List mV} (h : gL ρ L L') {q t : Nat} {x : aN} (hx : agt L q = (t, x)) : ∃ x', mget L' q = (t, x') ∧ gN ρ x x' := by
  have h1 := gL_get h q
  rw [hx] at h1
  exact ⟨(mget L' q).2, by rw [show t = (mget L' q).1 from h1.1], h1.2⟩
def anneg (I : aI) (x : aN) : Bool := match arng I x with
  | some p => zle 0 p.1
  | none => false
theorem anneg_ok {ρ : Nat → Int} {I : aI} {O : mO} (hI : gI ρ I O) {x : aN} {a : Int} (hx : gN ρ x a) (h : anneg I x = true) : 0 ≤ a := by
  unfold anneg at h
  split at h
  · rename_i p hp
    have h1 := arng_ok hI hx hp
    have h2 := of_decide_eq_true h
    omega
  · cases h
def adivc (I : aI) (x y : aN) : Bool := match arng I x, arng I y with
  | some p, some q => zle 0 p.1 && zle p.2 2147483647 && zlt 0 q.1 && zle q.2 2147483647
  | _, _ => false
theorem adivc_ok {ρ : Nat → Int} {I : aI} {O : mO} (hI : gI ρ I O) {x y : aN} {a b : Int} (hx : gN ρ x a) (hy : gN ρ y b) (h : adivc I x y = true) : 0 ≤ a ∧ a ≤ 2147483647 ∧ 0 < b ∧ b ≤ 2147483647 := by
  unfold adivc at h
  split at h
  · rename_i p q hp hq
    have h1 := arng_ok hI hx hp
    have h2 := arng_ok hI hy hq
    simp only [Bool.and_eq_true] at h
    have g1 := of_decide_eq_true h.1.1.1
    have g2 := of_decide_eq_true h.1.1.2
    have g3 := of_decide_eq_true h.1.2
    have g4 := of_decide_eq_true h.2
    exact ⟨by omega, by omega, by omega, by omega⟩
  · cases h
def aXa (I : aI) (len : Nat) (i : Instr) (pc : Nat) (L S : List aV) (c s : Nat) (M : aM) (n : Nat) (kn : Bool) (k : aNx → Option aRes) : Option aRes := match i with
  | .iconst z => agoN 0 (0, z) (pc + len) L S c s M n kn k
  | .bipush z => agoN 0 (0, z) (pc + len) L S c s M n kn k
  | .sipush z => agoN 0 (0, z) (pc + len) L S c s M n kn k
  | .lconst z => agoN 1 (0, ((z : Nat) : Int)) (pc + len) L S c s M n kn k
  | .jsr_w z => agoN 1 (0, z) (pc + len) L S c s M n kn k
  | .dconst _ => agoN 2 (0, 0) (pc + len) L S c s M n kn k
  | .getstatic j => agoN 4 (0, (j : Int)) (pc + len) L S c s M n kn k
  | .iload q => match agt L q with
    | (0, x) => agoN 0 x (pc + len) L S c s M n kn k
    | _ => none
  | .lload q => match agt L q with
    | (1, x) => agoN 1 x (pc + len) L S c s M n kn k
    | _ => none
  | .dload q => match agt L q with
    | (2, x) => agoN 2 x (pc + len) L S c s M n kn k
    | _ => none
  | .aload q => match agt L q with
    | (3, x) => agoN 3 x (pc + len) L S c s M n kn k
    | (4, x) => agoN 4 x (pc + len) L S c s M n kn k
    | _ => none
  | .istore q => match S with
    | (0, x) :: S => al1K L q (0, x) (fun L => ago (pc + len) L S c s M n kn k)
    | _ => none
  | .lstore q => match S with
    | (1, x) :: S => al2K L q (1, x) (fun L => ago (pc + len) L S c s M n kn k)
    | _ => none
  | .dstore q => match S with
    | (2, x) :: S => al2K L q (2, x) (fun L => ago (pc + len) L S c s M n kn k)
    | _ => none
  | .astore q => match S with
    | (3, x) :: S => bif anneg I x then al1K L q (3, x) (fun L => ago (pc + len) L S c s M n kn k) else none
    | _ => none
  | .iinc q z => match agt L q with
    | (0, x) => frcN (aadd x (0, z)).1 (fun u => frcZ (aadd x (0, z)).2 (fun v => al1K L q (0, u, v) (fun L => ago (pc + len) L S c s M n kn k)))
    | _ => none
  | .dup => match S with
    | (0, x) :: S => ago (pc + 1) L ((0, x) :: (0, x) :: S) c s M n kn k
    | (3, x) :: S => ago (pc + 1) L ((3, x) :: (3, x) :: S) c s M n kn k
    | _ => none
  | .dup2 => match S with
    | (0, y) :: (3, x) :: S => ago (pc + 1) L ((0, y) :: (3, x) :: (0, y) :: (3, x) :: S) c s M n kn k
    | _ => none
  | .pop => match S with
    | (0, _) :: S => ago (pc + 1) L S c s M n kn k
    | _ => none
  | .iadd => match S with
    | (0, y) :: (0, x) :: S => agoN 0 (aadd x y) (pc + 1) L S c s M n kn k
    | _ => none
  | .isub => match S with
    | (0, y) :: (0, x) :: S => agoN 0 (asub x y) (pc + 1) L S c s M n kn k
    | _ => none
  | .imul => match S with
    | (0, y) :: (0, x) :: S => agoN 0 (abin (fun a b => a * b) x y) (pc + 1) L S c s M n kn k
    | _ => none
  | .iand => match S with
    | (0, y) :: (0, x) :: S => agoN 0 (aand I x y) (pc + 1) L S c s M n kn k
    | _ => none
  | .ior => match S with
    | (0, y) :: (0, x) :: S => agoN 0 (abin mior x y) (pc + 1) L S c s M n kn k
    | _ => none
  | .ishl => match S with
    | (0, y) :: (0, x) :: S => agoN 0 (abin mishl x y) (pc + 1) L S c s M n kn k
    | _ => none
  | .ishr => match S with
    | (0, y) :: (0, x) :: S => agoN 0 (abin mishr x y) (pc + 1) L S c s M n kn k
    | _ => none
  | .iushr => match S with
    | (0, y) :: (0, x) :: S => agoN 0 (abin miushr x y) (pc + 1) L S c s M n kn k
    | _ => none
  | .idiv => match S with
    | (0, y) :: (0, x) :: S => bif adivc I x y then agoN 0 (abin (fun a b => a / b) x y) (pc + 1) L S c s M n kn k else none
    | _ => none
  | .irem => match S with
    | (0, y) :: (0, x) :: S => bif adivc I x y then agoN 0 (abin (fun a b => a % b) x y) (pc + 1) L S c s M n kn k else none
    | _ => none
  | .ladd => match S with
    | (1, y) :: (1, x) :: S => agoN 1 (aadd x y) (pc + 1) L S c s M n kn k
    | _ => none
  | .lsub => match S with
    | (1, y) :: (1, x) :: S => agoN 1 (asub x y) (pc + 1) L S c s M n kn k
    | _ => none
  | .lmul => match S with
    | (1, y) :: (1, x) :: S => agoN 1 (abin (fun a b => a * b) x y) (pc + 1) L S c s M n kn k
    | _ => none
  | .land => match S with
    | (1, y) :: (1, x) :: S => agoN 1 (abin mland x y) (pc + 1) L S c s M n kn k
    | _ => none
  | .lor => match S with
    | (1, y) :: (1, x) :: S => agoN 1 (abin mlor x y) (pc + 1) L S c s M n kn k
    | _ => none
  | .lxor => match S with
    | (1, y) :: (1, x) :: S => agoN 1 (abin mlxor x y) (pc + 1) L S c s M n kn k
    | _ => none
  | .lshl => match S with
    | (0, y) :: (1, x) :: S => agoN 1 (abin mlshl x y) (pc + 1) L S c s M n kn k
    | _ => none
  | .lushr => match S with
    | (0, y) :: (1, x) :: S => agoN 1 (abin mlushr x y) (pc + 1) L S c s M n kn k
    | _ => none
  | .lcmp => match S with
    | (1, y) :: (1, x) :: S => bif ainL I x && ainL I y then (match alt I x y, aeq I x y with
      | some true, _ => agoN 0 (0, -1) (pc + 1) L S c s M n kn k
      | some false, some true => agoN 0 (0, 0) (pc + 1) L S c s M n kn k
      | some false, some false => agoN 0 (0, 1) (pc + 1) L S c s M n kn k
      | _, _ => none) else none
    | _ => none
  | .dcmp o => match S with
    | (2, y) :: (2, x) :: S => agoN 0 (abin (mdcmp o) x y) (pc + 1) L S c s M n kn k
    | _ => none
  | .i2b => match S with
    | (0, x) :: S => agoN 0 (aun mi2b x) (pc + 1) L S c s M n kn k
    | _ => none
  | .i2l => match S with
    | (0, x) :: S => bif ainR I x then agoN 1 (x) (pc + 1) L S c s M n kn k else none
    | _ => none
  | .l2i => match S with
    | (1, x) :: S => agoN 0 (x) (pc + 1) L S c s M n kn k
    | _ => none
  | .goto t => ago t.toNat L S c s M n kn k
  | .ifCond o t => match S with
    | (0, x) :: S => bif ainR I x then (match acond I o x (0, 0) with
      | some true => ago t.toNat L S c s M n kn k
      | some false => ago (pc + 3) L S c s M n kn k
      | none => none) else none
    | _ => none
  | .if_icmp o t => match S with
    | (0, y) :: (0, x) :: S => bif ainR I x && ainR I y then (match acond I o x y with
      | some true => ago t.toNat L S c s M n kn k
      | some false => ago (pc + 3) L S c s M n kn k
      | none => none) else none
    | _ => none
  | _ => none
def aSnd (ρ : Nat → Int) (m : Nat) (nx : aNx) (mn : mNx) : Prop := ∀ (B : mSt → Prop) (C : Nat → List mV → mG → mD → mK → Prop) (K : mK), match nx with
  | .inl st => (∀ w, gS ρ st w → B w) → mint B C m K mn
  | .inr (.inl (j, as, st)) => (∀ as' pc L S c s G d, gL ρ as as' → gS ρ st (pc, L, S, c, s, G, d) → C j as' G d (mback m pc L S c s B K)) → mint B C m K mn
  | .inr (.inr r) => (∀ q G d, gR ρ r q G d → K q G d) → mint B C m K mn
theorem a_next {ρ : Nat → Int} {m : Nat} {mn : mNx} {k : aNx → Option aRes} {res : aRes} {st : aSt} (h : k (.inl st) = some res) (hs : ∀ (B : mSt → Prop) (C : Nat → List mV → mG → mD → mK → Prop) (K : mK), (∀ w, gS ρ st w → B w) → mint B C m K mn) : ∃ nx, k nx = some res ∧ aSnd ρ m nx mn := ⟨.inl st, h, hs⟩
theorem aXa_ok {ρ : Nat → Int} {I : aI} {O : mO} (hI : gI ρ I O) {m len : Nat} {i : Instr} {pc : Nat} {L S : List aV} {L' S' : List mV} {c s : Nat} {M : aM} {n : Nat} {kn : Bool} {G : mG} {d : mD} {k : aNx → Option aRes} {res : aRes}
    (hL : gL ρ L L') (hS : gL ρ S S') (hM : gM ρ M n kn G d) (h : aXa I len i pc L S c s M n kn k = some res) : ∃ nx, k nx = some res ∧ aSnd ρ m nx (mX O m len i pc L' S' c s G d) := by
  unfold aXa at h
  split at h
  · rw [agoN_eq] at h; exact a_next h (fun B C K hB => hB _ ⟨rfl, hL, ⟨⟨rfl, rfl⟩, hS⟩, rfl, rfl, hM⟩)
  · rw [agoN_eq] at h; exact a_next h (fun B C K hB => hB _ ⟨rfl, hL, ⟨⟨rfl, rfl⟩, hS⟩, rfl, rfl, hM⟩)
  · rw [agoN_eq] at h; exact a_next h (fun B C K hB => hB _ ⟨rfl, hL, ⟨⟨rfl, rfl⟩, hS⟩, rfl, rfl, hM⟩)
  · rw [agoN_eq] at h; exact a_next h (fun B C K hB => hB _ ⟨rfl, hL, ⟨⟨rfl, rfl⟩, hS⟩, rfl, rfl, hM⟩)
  · rw [agoN_eq] at h; exact a_next h (fun B C K hB => hB _ ⟨rfl, hL, ⟨⟨rfl, rfl⟩, hS⟩, rfl, rfl, hM⟩)
  · rw [agoN_eq] at h; exact a_next h (fun B C K hB => hB _ ⟨rfl, hL, ⟨⟨rfl, rfl⟩, hS⟩, rfl, rfl, hM⟩)
  · rw [agoN_eq] at h; exact a_next h (fun B C K hB => hB _ ⟨rfl, hL, ⟨⟨rfl, rfl⟩, hS⟩, rfl, rfl, hM⟩)
  · split at h
    · rename_i x hx
      obtain ⟨x', hx', hg⟩ := gL_at hL hx
      simp only [mX, hx']
      rw [agoN_eq] at h; exact a_next h (fun B C K hB => hB _ ⟨rfl, hL, ⟨⟨rfl, hg⟩, hS⟩, rfl, rfl, hM⟩)
    · cases h
  · split at h
    · rename_i x hx
      obtain ⟨x', hx', hg⟩ := gL_at hL hx
      simp only [mX, hx']
      rw [agoN_eq] at h; exact a_next h (fun B C K hB => hB _ ⟨rfl, hL, ⟨⟨rfl, hg⟩, hS⟩, rfl, rfl, hM⟩)
    · cases h
  · split at h
    · rename_i x hx
      obtain ⟨x', hx', hg⟩ := gL_at hL hx
      simp only [mX, hx']
      rw [agoN_eq] at h; exact a_next h (fun B C K hB => hB _ ⟨rfl, hL, ⟨⟨rfl, hg⟩, hS⟩, rfl, rfl, hM⟩)
    · cases h
  · split at h
    · rename_i x hx
      obtain ⟨x', hx', hg⟩ := gL_at hL hx
      simp only [mX, hx']
      rw [agoN_eq] at h; exact a_next h (fun B C K hB => hB _ ⟨rfl, hL, ⟨⟨rfl, hg⟩, hS⟩, rfl, rfl, hM⟩)
    · rename_i x hx
      obtain ⟨x', hx', hg⟩ := gL_at hL hx
      simp only [mX, hx']
      rw [agoN_eq] at h; exact a_next h (fun B C K hB => hB _ ⟨rfl, hL, ⟨⟨rfl, hg⟩, hS⟩, rfl, rfl, hM⟩)
    · cases h
  · split at h
    · obtain ⟨x', S', rfl, hg, hS⟩ := gL_cons hS
      rw [al1K_eq, ago_eq] at h
      exact a_next h (fun B C K hB => hB _ ⟨rfl, gL_put1 (v := (0, _)) (w := (0, _)) ⟨rfl, hg⟩ hL _, hS, rfl, rfl, hM⟩)
    · cases h
  · split at h
    · obtain ⟨x', S', rfl, hg, hS⟩ := gL_cons hS
      rw [al2K_eq, ago_eq] at h
      exact a_next h (fun B C K hB => hB _ ⟨rfl, gL_put2 (v := (1, _)) (w := (1, _)) ⟨rfl, hg⟩ hL _, hS, rfl, rfl, hM⟩)
    · cases h
  · split at h
    · obtain ⟨x', S', rfl, hg, hS⟩ := gL_cons hS
      rw [al2K_eq, ago_eq] at h
      exact a_next h (fun B C K hB => hB _ ⟨rfl, gL_put2 (v := (2, _)) (w := (2, _)) ⟨rfl, hg⟩ hL _, hS, rfl, rfl, hM⟩)
    · cases h
  · split at h
    · rename_i x S0
      obtain ⟨x', S', rfl, hg, hS⟩ := gL_cons hS
      cases hc : anneg I x with
      | false => rw [hc] at h; cases h
      | true =>
        rw [hc] at h
        dsimp only [cond] at h
        rw [al1K_eq, ago_eq] at h
        exact a_next h (fun B C K hB => ⟨anneg_ok hI hg hc, hB _ ⟨rfl, gL_put1 (v := (3, _)) (w := (3, _)) ⟨rfl, hg⟩ hL _, hS, rfl, rfl, hM⟩⟩)
    · cases h
  · split at h
    · rename_i x hx
      obtain ⟨x', hx', hg⟩ := gL_at hL hx
      simp only [mX, hx']
      rw [frcN_eq, frcZ_eq, al1K_eq, ago_eq] at h
      exact a_next h (fun B C K hB => hB _ ⟨rfl, gL_put1 (v := (0, _)) (w := (0, _)) ⟨rfl, aadd_ok (y := (0, _)) hg rfl⟩ hL _, hS, rfl, rfl, hM⟩)
    · cases h
  · split at h
    · obtain ⟨x', S', rfl, hg, hS⟩ := gL_cons hS
      rw [ago_eq] at h
      exact a_next h (fun B C K hB => hB _ ⟨rfl, hL, ⟨⟨rfl, hg⟩, ⟨rfl, hg⟩, hS⟩, rfl, rfl, hM⟩)
    · obtain ⟨x', S', rfl, hg, hS⟩ := gL_cons hS
      rw [ago_eq] at h
      exact a_next h (fun B C K hB => hB _ ⟨rfl, hL, ⟨⟨rfl, hg⟩, ⟨rfl, hg⟩, hS⟩, rfl, rfl, hM⟩)
    · cases h
  · split at h
    · obtain ⟨y', S', rfl, hy, hS⟩ := gL_cons hS
      obtain ⟨x', S', rfl, hg, hS⟩ := gL_cons hS
      rw [ago_eq] at h
      exact a_next h (fun B C K hB => hB _ ⟨rfl, hL, ⟨⟨rfl, hy⟩, ⟨rfl, hg⟩, ⟨rfl, hy⟩, ⟨rfl, hg⟩, hS⟩, rfl, rfl, hM⟩)
    · cases h
  · split at h
    · obtain ⟨x', S', rfl, hg, hS⟩ := gL_cons hS
      rw [ago_eq] at h
      exact a_next h (fun B C K hB => hB _ ⟨rfl, hL, hS, rfl, rfl, hM⟩)
    · cases h
  · split at h
    · rename_i y x S0
      obtain ⟨y', S', rfl, hy, hS⟩ := gL_cons hS
      obtain ⟨x', S', rfl, hx, hS⟩ := gL_cons hS
      rw [agoN_eq] at h; exact a_next h (fun B C K hB => hB _ ⟨rfl, hL, ⟨⟨rfl, aadd_ok hx hy⟩, hS⟩, rfl, rfl, hM⟩)
    · cases h
  · split at h
    · rename_i y x S0
      obtain ⟨y', S', rfl, hy, hS⟩ := gL_cons hS
      obtain ⟨x', S', rfl, hx, hS⟩ := gL_cons hS
      rw [agoN_eq] at h; exact a_next h (fun B C K hB => hB _ ⟨rfl, hL, ⟨⟨rfl, asub_ok hx hy⟩, hS⟩, rfl, rfl, hM⟩)
    · cases h
  · split at h
    · rename_i y x S0
      obtain ⟨y', S', rfl, hy, hS⟩ := gL_cons hS
      obtain ⟨x', S', rfl, hx, hS⟩ := gL_cons hS
      rw [agoN_eq] at h; exact a_next h (fun B C K hB => hB _ ⟨rfl, hL, ⟨⟨rfl, abin_ok (f := fun a b => a * b) hx hy⟩, hS⟩, rfl, rfl, hM⟩)
    · cases h
  · split at h
    · rename_i y x S0
      obtain ⟨y', S', rfl, hy, hS⟩ := gL_cons hS
      obtain ⟨x', S', rfl, hx, hS⟩ := gL_cons hS
      rw [agoN_eq] at h; exact a_next h (fun B C K hB => hB _ ⟨rfl, hL, ⟨⟨rfl, aand_ok hI hx hy⟩, hS⟩, rfl, rfl, hM⟩)
    · cases h
  · split at h
    · rename_i y x S0
      obtain ⟨y', S', rfl, hy, hS⟩ := gL_cons hS
      obtain ⟨x', S', rfl, hx, hS⟩ := gL_cons hS
      rw [agoN_eq] at h; exact a_next h (fun B C K hB => hB _ ⟨rfl, hL, ⟨⟨rfl, abin_ok hx hy⟩, hS⟩, rfl, rfl, hM⟩)
    · cases h
  · split at h
    · rename_i y x S0
      obtain ⟨y', S', rfl, hy, hS⟩ := gL_cons hS
      obtain ⟨x', S', rfl, hx, hS⟩ := gL_cons hS
      rw [agoN_eq] at h; exact a_next h (fun B C K hB => hB _ ⟨rfl, hL, ⟨⟨rfl, abin_ok hx hy⟩, hS⟩, rfl, rfl, hM⟩)
    · cases h
  · split at h
    · rename_i y x S0
      obtain ⟨y', S', rfl, hy, hS⟩ := gL_cons hS
      obtain ⟨x', S', rfl, hx, hS⟩ := gL_cons hS
      rw [agoN_eq] at h; exact a_next h (fun B C K hB => hB _ ⟨rfl, hL, ⟨⟨rfl, abin_ok hx hy⟩, hS⟩, rfl, rfl, hM⟩)
    · cases h
  · split at h
    · rename_i y x S0
      obtain ⟨y', S', rfl, hy, hS⟩ := gL_cons hS
      obtain ⟨x', S', rfl, hx, hS⟩ := gL_cons hS
      rw [agoN_eq] at h; exact a_next h (fun B C K hB => hB _ ⟨rfl, hL, ⟨⟨rfl, abin_ok hx hy⟩, hS⟩, rfl, rfl, hM⟩)
    · cases h
  · split at h
    · rename_i y x S0
      obtain ⟨y', S', rfl, hy, hS⟩ := gL_cons hS
      obtain ⟨x', S', rfl, hx, hS⟩ := gL_cons hS
      cases hc : adivc I x y with
      | false => rw [hc] at h; cases h
      | true =>
        rw [hc] at h
        dsimp only [cond] at h
        rw [agoN_eq] at h
        exact a_next h (fun B C K hB => ⟨adivc_ok hI hx hy hc, hB _ ⟨rfl, hL, ⟨⟨rfl, abin_ok (f := fun a b => a / b) hx hy⟩, hS⟩, rfl, rfl, hM⟩⟩)
    · cases h
  · split at h
    · rename_i y x S0
      obtain ⟨y', S', rfl, hy, hS⟩ := gL_cons hS
      obtain ⟨x', S', rfl, hx, hS⟩ := gL_cons hS
      cases hc : adivc I x y with
      | false => rw [hc] at h; cases h
      | true =>
        rw [hc] at h
        dsimp only [cond] at h
        rw [agoN_eq] at h
        exact a_next h (fun B C K hB => ⟨adivc_ok hI hx hy hc, hB _ ⟨rfl, hL, ⟨⟨rfl, abin_ok (f := fun a b => a % b) hx hy⟩, hS⟩, rfl, rfl, hM⟩⟩)
    · cases h
  · split at h
    · rename_i y x S0
      obtain ⟨y', S', rfl, hy, hS⟩ := gL_cons hS
      obtain ⟨x', S', rfl, hx, hS⟩ := gL_cons hS
      rw [agoN_eq] at h; exact a_next h (fun B C K hB => hB _ ⟨rfl, hL, ⟨⟨rfl, aadd_ok hx hy⟩, hS⟩, rfl, rfl, hM⟩)
    · cases h
  · split at h
    · rename_i y x S0
      obtain ⟨y', S', rfl, hy, hS⟩ := gL_cons hS
      obtain ⟨x', S', rfl, hx, hS⟩ := gL_cons hS
      rw [agoN_eq] at h; exact a_next h (fun B C K hB => hB _ ⟨rfl, hL, ⟨⟨rfl, asub_ok hx hy⟩, hS⟩, rfl, rfl, hM⟩)
    · cases h
  · split at h
    · rename_i y x S0
      obtain ⟨y', S', rfl, hy, hS⟩ := gL_cons hS
      obtain ⟨x', S', rfl, hx, hS⟩ := gL_cons hS
      rw [agoN_eq] at h; exact a_next h (fun B C K hB => hB _ ⟨rfl, hL, ⟨⟨rfl, abin_ok (f := fun a b => a * b) hx hy⟩, hS⟩, rfl, rfl, hM⟩)
    · cases h
  · split at h
    · rename_i y x S0
      obtain ⟨y', S', rfl, hy, hS⟩ := gL_cons hS
      obtain ⟨x', S', rfl, hx, hS⟩ := gL_cons hS
      rw [agoN_eq] at h; exact a_next h (fun B C K hB => hB _ ⟨rfl, hL, ⟨⟨rfl, abin_ok hx hy⟩, hS⟩, rfl, rfl, hM⟩)
    · cases h
  · split at h
    · rename_i y x S0
      obtain ⟨y', S', rfl, hy, hS⟩ := gL_cons hS
      obtain ⟨x', S', rfl, hx, hS⟩ := gL_cons hS
      rw [agoN_eq] at h; exact a_next h (fun B C K hB => hB _ ⟨rfl, hL, ⟨⟨rfl, abin_ok hx hy⟩, hS⟩, rfl, rfl, hM⟩)
    · cases h
  · split at h
    · rename_i y x S0
      obtain ⟨y', S', rfl, hy, hS⟩ := gL_cons hS
      obtain ⟨x', S', rfl, hx, hS⟩ := gL_cons hS
      rw [agoN_eq] at h; exact a_next h (fun B C K hB => hB _ ⟨rfl, hL, ⟨⟨rfl, abin_ok hx hy⟩, hS⟩, rfl, rfl, hM⟩)
    · cases h
  · split at h
    · rename_i y x S0
      obtain ⟨y', S', rfl, hy, hS⟩ := gL_cons hS
      obtain ⟨x', S', rfl, hx, hS⟩ := gL_cons hS
      rw [agoN_eq] at h; exact a_next h (fun B C K hB => hB _ ⟨rfl, hL, ⟨⟨rfl, abin_ok hx hy⟩, hS⟩, rfl, rfl, hM⟩)
    · cases h
  · split at h
    · rename_i y x S0
      obtain ⟨y', S', rfl, hy, hS⟩ := gL_cons hS
      obtain ⟨x', S', rfl, hx, hS⟩ := gL_cons hS
      rw [agoN_eq] at h; exact a_next h (fun B C K hB => hB _ ⟨rfl, hL, ⟨⟨rfl, abin_ok hx hy⟩, hS⟩, rfl, rfl, hM⟩)
    · cases h
  · split at h
    · rename_i y x S0
      obtain ⟨y', S', rfl, hy, hS⟩ := gL_cons hS
      obtain ⟨x', S', rfl, hx, hS⟩ := gL_cons hS
      cases hc : (ainL I x && ainL I y) with
      | false => rw [hc] at h; cases h
      | true =>
        rw [hc] at h
        dsimp only [cond] at h
        rw [Bool.and_eq_true] at hc
        have hin : mInL x' ∧ mInL y' := ⟨ainL_ok hI hx hc.1, ainL_ok hI hy hc.2⟩
        split at h
        · rename_i h1 h2
          rw [agoN_eq] at h
          refine a_next h (fun B C K hB => ⟨hin, hB _ ⟨rfl, hL, ⟨⟨rfl, ?_⟩, hS⟩, rfl, rfl, hM⟩⟩)
          have := (alt_ok hI hx hy h2).1 rfl
          show mcmp x' y' = -1
          unfold mcmp
          rw [if_pos this]
        · rename_i h1 h2
          rw [agoN_eq] at h
          refine a_next h (fun B C K hB => ⟨hin, hB _ ⟨rfl, hL, ⟨⟨rfl, ?_⟩, hS⟩, rfl, rfl, hM⟩⟩)
          have h3 := (alt_ok hI hx hy h1).2 rfl
          have h4 := (aeq_ok hI hx hy h2).1 rfl
          show mcmp x' y' = 0
          unfold mcmp
          rw [if_neg (by omega), if_pos h4]
        · rename_i h1 h2
          rw [agoN_eq] at h
          refine a_next h (fun B C K hB => ⟨hin, hB _ ⟨rfl, hL, ⟨⟨rfl, ?_⟩, hS⟩, rfl, rfl, hM⟩⟩)
          have h3 := (alt_ok hI hx hy h1).2 rfl
          have h4 := (aeq_ok hI hx hy h2).2 rfl
          show mcmp x' y' = 1
          unfold mcmp
          rw [if_neg (by omega), if_neg h4]
        · cases h
    · cases h
  · split at h
    · rename_i y x S0
      obtain ⟨y', S', rfl, hy, hS⟩ := gL_cons hS
      obtain ⟨x', S', rfl, hx, hS⟩ := gL_cons hS
      rw [agoN_eq] at h; exact a_next h (fun B C K hB => hB _ ⟨rfl, hL, ⟨⟨rfl, abin_ok hx hy⟩, hS⟩, rfl, rfl, hM⟩)
    · cases h
  · split at h
    · rename_i x S0
      obtain ⟨x', S', rfl, hx, hS⟩ := gL_cons hS
      rw [agoN_eq] at h; exact a_next h (fun B C K hB => hB _ ⟨rfl, hL, ⟨⟨rfl, aun_ok hx⟩, hS⟩, rfl, rfl, hM⟩)
    · cases h
  · split at h
    · rename_i x S0
      obtain ⟨x', S', rfl, hx, hS⟩ := gL_cons hS
      cases hc : ainR I x with
      | false => rw [hc] at h; cases h
      | true =>
        rw [hc] at h
        dsimp only [cond] at h
        rw [agoN_eq] at h
        exact a_next h (fun B C K hB => ⟨ainR_ok hI hx hc, hB _ ⟨rfl, hL, ⟨⟨rfl, hx⟩, hS⟩, rfl, rfl, hM⟩⟩)
    · cases h
  · split at h
    · rename_i x S0
      obtain ⟨x', S', rfl, hx, hS⟩ := gL_cons hS
      rw [agoN_eq] at h; exact a_next h (fun B C K hB => hB _ ⟨rfl, hL, ⟨⟨rfl, hx⟩, hS⟩, rfl, rfl, hM⟩)
    · cases h
  · rw [ago_eq] at h
    exact a_next h (fun B C K hB => hB _ ⟨rfl, hL, hS, rfl, rfl, hM⟩)
  · split at h
    · rename_i x S0
      obtain ⟨x', S', rfl, hx, hS⟩ := gL_cons hS
      cases hc : (ainR I x) with
      | false => rw [hc] at h; cases h
      | true =>
        rw [hc] at h
        dsimp only [cond] at h
        split at h
        · rename_i h1
          have h2 := acond_ok hI hx (y := (0, 0)) (b := 0) rfl h1
          rw [ago_eq] at h
          exact a_next h (fun B C K hB => ⟨ainR_ok hI hx hc, fun _ => hB _ ⟨rfl, hL, hS, rfl, rfl, hM⟩, fun z => absurd z (h2.2 rfl)⟩)
        · rename_i h1
          have h2 := acond_ok hI hx (y := (0, 0)) (b := 0) rfl h1
          rw [ago_eq] at h
          exact a_next h (fun B C K hB => ⟨ainR_ok hI hx hc, fun z => absurd z (h2.1 rfl), fun _ => hB _ ⟨rfl, hL, hS, rfl, rfl, hM⟩⟩)
        · cases h
    · cases h
  · split at h
    · rename_i y x S0
      obtain ⟨y', S', rfl, hy, hS⟩ := gL_cons hS
      obtain ⟨x', S', rfl, hx, hS⟩ := gL_cons hS
      cases hc : (ainR I x && ainR I y) with
      | false => rw [hc] at h; cases h
      | true =>
        rw [hc] at h
        dsimp only [cond] at h
        split at h
        · rename_i h1
          have h2 := acond_ok hI hx hy h1
          rw [ago_eq] at h
          exact a_next h (fun B C K hB => ⟨(by rw [Bool.and_eq_true] at hc; exact ⟨ainR_ok hI hx hc.1, ainR_ok hI hy hc.2⟩), fun _ => hB _ ⟨rfl, hL, hS, rfl, rfl, hM⟩, fun z => absurd z (h2.2 rfl)⟩)
        · rename_i h1
          have h2 := acond_ok hI hx hy h1
          rw [ago_eq] at h
          exact a_next h (fun B C K hB => ⟨(by rw [Bool.and_eq_true] at hc; exact ⟨ainR_ok hI hx hc.1, ainR_ok hI hy hc.2⟩), fun z => absurd z (h2.1 rfl), fun _ => hB _ ⟨rfl, hL, hS, rfl, rfl, hM⟩⟩)
        · cases h
    · cases h
  · cases h
