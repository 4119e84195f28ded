/-! ===== the machine's helpers, abstractly; abstract runs ===== -/
noncomputable def aroomN (m : Nat) (S : List aV) (q : Nat) : Bool := Nat.ble 1 (mdep m) && Nat.ble (acats S + q) (mneed m)
theorem aroomN_ok {ρ : Nat → Int} {m : Nat} {S : List aV} {S' : List mV} (hS : gL ρ S S') {q : Nat} (h : aroomN m S q = true) : mroomN m S' q := by
  unfold aroomN at h
  rw [Bool.and_eq_true, gL_cats hS] at h
  exact ⟨Nat.le_of_ble_eq_true h.1, Nat.le_of_ble_eq_true h.2⟩
noncomputable def acpc (m : Nat) (S : List aV) (cx cy : aC) (N D P : Nat) : Bool := (Nat.beq cx.1 100 || Nat.beq cx.1 101) && Nat.beq cy.1 cx.1 && Nat.ble N 100000 && Nat.ble P 100000 && Nat.ble D 100000 && Nat.ble (P + N) cx.2.1 && Nat.ble (D + N) cy.2.1 && aroomN m S 18
noncomputable def aXc (I : aI) (m : Nat) (j : Nat) (pc : Nat) (L S : List aV) (c s : Nat) (M : aM) (n : Nat) (kn : Bool) (k : aNx → Bool) : Bool := match j, S with
  | 0, (3, x) :: S => bif anneg I x && aroomN m S 12 then ago (pc + 3) L S c s M n kn k else false
  | 1, (0, y) :: (0, x) :: S => bif ainR I x && ainR I y && aroomN m S 13 then (match alt I x y with
    | some true => agoN 0 y (pc + 3) L S c s M n kn k
    | some false => agoN 0 x (pc + 3) L S c s M n kn k
    | none => asplit I .lt x y k) else false
  | 2, (0, y) :: (0, x) :: S => bif ainR I x && ainR I y && aroomN m S 13 then (match alt I y x with
    | some true => agoN 0 y (pc + 3) L S c s M n kn k
    | some false => agoN 0 x (pc + 3) L S c s M n kn k
    | none => asplit I .lt y x k) else false
  | 3, (0, 0, .ofNat N) :: (0, 0, .ofNat D) :: (3, y) :: (0, 0, .ofNat P) :: (3, x) :: S => (match acl M n x with
    | some (_, cx) => (match acl M n y with
      | some (qy, cy) => bif acpc m S cx cy N D P then acpyK cx N P D cy (fun cy => aputK M qy cy (fun M => ago (pc + 3) L S c s M n kn k)) else false
      | none => false)
    | none => false)
  | _, _ => false
theorem aXc_ok {ρ : Nat → Int} {I : aI} {O : mO} (hI : gI ρ I O) {m len : Nat} {j : Nat} {pc : Nat} {L S : List aV} {L' S' : List mV} {c s : Nat} {M : aM} {n : Nat} {kn : Bool} {G : mG} {d : mD} {k : aNx → Bool}
    (hL : gL ρ L L') (hS : gL ρ S S') (hM : gM ρ M n kn G d) (h : aXc I m j pc L S c s M n kn k = true) : ∃ nx, k nx = true ∧ aSnd ρ m nx (mX O m len (.invokespecial j) pc L' S' c s G d) := by
  unfold aXc at h
  split at h
  · rename_i x S0
    obtain ⟨x', S', rfl, hx, hS⟩ := gL_cons hS
    cases hc : (anneg I x && aroomN m S0 12) with
    | false => rw [hc] at h; cases h
    | true =>
      rw [hc] at h
      dsimp only [cond] at h
      rw [Bool.and_eq_true] at hc
      rw [ago_eq] at h
      exact a_next h (fun B C K hB => ⟨⟨anneg_ok hI hx hc.1, aroomN_ok hS hc.2⟩, hB _ ⟨rfl, hL, hS, rfl, rfl, hM⟩⟩)
  · rename_i y x S0
    obtain ⟨y', S', rfl, hy, hS⟩ := gL_cons hS
    obtain ⟨x', S', rfl, hx, hS⟩ := gL_cons hS
    cases hc : (ainR I x && ainR I y && aroomN m S0 13) with
    | false => rw [hc] at h; cases h
    | true =>
      rw [hc] at h
      dsimp only [cond] at h
      simp only [Bool.and_eq_true] at hc
      have hin : mInR x' ∧ mInR y' ∧ mroomN m S' 13 := ⟨ainR_ok hI hx hc.1.1, ainR_ok hI hy hc.1.2, aroomN_ok hS hc.2⟩
      split at h
      · rename_i h1
        have h2 := (alt_ok hI hx hy h1).1 rfl
        rw [agoN_eq] at h
        exact a_next h (fun B C K hB => ⟨hin, hB _ ⟨rfl, hL, ⟨⟨rfl, by show gN ρ y (mmax x' y'); unfold mmax; rw [if_pos h2]; exact hy⟩, hS⟩, rfl, rfl, hM⟩⟩)
      · rename_i h1
        have h2 := (alt_ok hI hx hy h1).2 rfl
        rw [agoN_eq] at h
        exact a_next h (fun B C K hB => ⟨hin, hB _ ⟨rfl, hL, ⟨⟨rfl, by show gN ρ x (mmax x' y'); unfold mmax; rw [if_neg (by omega)]; exact hx⟩, hS⟩, rfl, rfl, hM⟩⟩)
      · exact a_splt (asplit_ok h)
  · rename_i y x S0
    obtain ⟨y', S', rfl, hy, hS⟩ := gL_cons hS
    obtain ⟨x', S', rfl, hx, hS⟩ := gL_cons hS
    cases hc : (ainR I x && ainR I y && aroomN m S0 13) with
    | false => rw [hc] at h; cases h
    | true =>
      rw [hc] at h
      dsimp only [cond] at h
      simp only [Bool.and_eq_true] at hc
      have hin : mInR x' ∧ mInR y' ∧ mroomN m S' 13 := ⟨ainR_ok hI hx hc.1.1, ainR_ok hI hy hc.1.2, aroomN_ok hS hc.2⟩
      split at h
      · rename_i h1
        have h2 := (alt_ok hI hy hx h1).1 rfl
        rw [agoN_eq] at h
        exact a_next h (fun B C K hB => ⟨hin, hB _ ⟨rfl, hL, ⟨⟨rfl, by show gN ρ y (mmin x' y'); unfold mmin; rw [if_pos h2]; exact hy⟩, hS⟩, rfl, rfl, hM⟩⟩)
      · rename_i h1
        have h2 := (alt_ok hI hy hx h1).2 rfl
        rw [agoN_eq] at h
        exact a_next h (fun B C K hB => ⟨hin, hB _ ⟨rfl, hL, ⟨⟨rfl, by show gN ρ x (mmin x' y'); unfold mmin; rw [if_neg (by omega)]; exact hx⟩, hS⟩, rfl, rfl, hM⟩⟩)
      · exact a_splt (asplit_ok h)
  · rename_i N D y P x S0
    obtain ⟨N', S', rfl, hN, hS⟩ := gL_cons hS
    obtain ⟨D', S', rfl, hD, hS⟩ := gL_cons hS
    obtain ⟨y', S', rfl, hy, hS⟩ := gL_cons hS
    obtain ⟨P', S', rfl, hP, hS⟩ := gL_cons hS
    obtain ⟨x', S', rfl, hx, hS⟩ := gL_cons hS
    have hN : N' = (N : Int) := hN
    have hD : D' = (D : Int) := hD
    have hP : P' = (P : Int) := hP
    split at h
    · rename_i qx cx hcx
      obtain ⟨x1, x2, x3, x4, x5, x6, x7⟩ := acl_ok hM hx hcx
      split at h
      · rename_i qy cy hcy
        obtain ⟨y1, y2, y3, y4, y5, y6, y7⟩ := acl_ok hM hy hcy
        cases hc : acpc m S0 cx cy N D P with
        | false => rw [hc] at h; cases h
        | true =>
          rw [hc] at h
          dsimp only [cond] at h
          rw [acpyK_eq, aputK_eq, ago_eq] at h
          unfold acpc at hc
          simp only [Bool.and_eq_true, Bool.or_eq_true] at hc
          obtain ⟨⟨⟨⟨⟨⟨⟨c1, c2⟩, c3⟩, c4⟩, c5⟩, c6⟩, c7⟩, c8⟩ := hc
          have c1 : cx.1 = 100 ∨ cx.1 = 101 := c1.imp Nat.eq_of_beq_eq_true Nat.eq_of_beq_eq_true
          have c2 := Nat.eq_of_beq_eq_true c2
          have c3 := Nat.le_of_ble_eq_true c3
          have c4 := Nat.le_of_ble_eq_true c4
          have c5 := Nat.le_of_ble_eq_true c5
          have c6 := Nat.le_of_ble_eq_true c6
          have c7 := Nat.le_of_ble_eq_true c7
          have g := fun j => acpy_get cx N P D cy j
          have hM2 : gM ρ (aput M qy (acpy cx N P D cy)) n kn G (mcopy d x' P' y' D' N') := by
            subst y3
            refine gM_put hM y2 y4 (g 0).1 (g 0).2.1 (fun j => ?_) (fun b hb => mcopy_ne (by rw [y1]; exact hb))
            rw [(g j).2.2]
            unfold mcopy
            by_cases e : D ≤ j ∧ j < D + N
            · rw [if_pos e, if_pos ⟨y1.symm, by omega, by omega⟩]
              have e9 : P' + ((j : Int) - D') = ((P + (j - D) : Nat) : Int) := by omega
              rw [e9]
              exact x7 _
            · rw [if_neg e, if_neg (fun z => e ⟨by omega, by omega⟩), ← y1]
              exact y7 j
          exact a_next h (fun B C K hB => ⟨⟨by rw [x5]; omega, by rw [x5, y5, c2], by omega, by omega, by omega, by omega, by omega, by omega, by rw [x6]; omega, by rw [y6]; omega, aroomN_ok hS c8⟩, hB _ ⟨rfl, hL, hS, rfl, rfl, hM2⟩⟩)
      · cases h
    · cases h
  · cases h
noncomputable def aisB (i : Instr) : Bool := match i with
  | .getfield _ => true
  | .putfield _ => true
  | .arraylength => true
  | .iaload => true
  | .laload => true
  | .baload => true
  | .aaload => true
  | .iastore => true
  | .lastore => true
  | .bastore => true
  | .aastore => true
  | .newarray _ => true
  | .anewarray _ => true
  | .new _ => true
  | .checkcast _ => true
  | .ireturn => true
  | .lreturn => true
  | .dreturn => true
  | .return_ => true
  | .invokestatic _ => true
  | _ => false
noncomputable def aX (I : aI) (m len : Nat) (i : Instr) (pc : Nat) (L S : List aV) (c s : Nat) (M : aM) (n : Nat) (kn : Bool) (k : aNx → Bool) : Bool := match i with
  | .invokespecial j => aXc I m j pc L S c s M n kn k
  | i => bif aisB i then aXb I m i pc L S c s M n kn k else aXa I len i pc L S c s M n kn k
theorem aX_ok {ρ : Nat → Int} {I : aI} {O : mO} (hI : gI ρ I O) {m len : Nat} {i : Instr} {pc : Nat} {L S : List aV} {L' S' : List mV} {c s : Nat} {M : aM} {n : Nat} {kn : Bool} {G : mG} {d : mD} {k : aNx → Bool}
    (hL : gL ρ L L') (hS : gL ρ S S') (hM : gM ρ M n kn G d) (h : aX I m len i pc L S c s M n kn k = true) : ∃ nx, k nx = true ∧ aSnd ρ m nx (mX O m len i pc L' S' c s G d) := by
  unfold aX at h
  split at h
  · exact aXc_ok hI hL hS hM h
  · cases hc : aisB i with
    | true => rw [hc] at h; exact aXb_ok hI hL hS hM h
    | false => rw [hc] at h; exact aXa_ok hI hL hS hM h
