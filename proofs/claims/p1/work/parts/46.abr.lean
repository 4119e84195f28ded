/-! ===== the machine's helpers, abstractly; abstract runs ===== -/
def aroomN (m : Nat) (S : List aV) (q : Nat) : Bool := Nat.ble 1 (mdep m) && Nat.ble (acats S + q) (mneed m)
theorem aroomN_ok {ρ : Nat → Int} {m : Nat} {S : List aV} {S' : List mV} (hS : gL ρ S S') {q : Nat} (h : aroomN m S q = true) : mroomN m S' q := by
  unfold aroomN at h
  rw [Bool.and_eq_true, gL_cats hS] at h
  exact ⟨Nat.le_of_ble_eq_true h.1, Nat.le_of_ble_eq_true h.2⟩
def acpc (m : Nat) (S : List aV) (cx cy : aC) (N D P : Nat) : Bool := (Nat.beq cx.1 100 || Nat.beq cx.1 101) && Nat.beq cy.1 cx.1 && Nat.ble N 100000 && Nat.ble P 100000 && Nat.ble D 100000 && Nat.ble (P + N) cx.2.1 && Nat.ble (D + N) cy.2.1 && aroomN m S 18
def aXc (I : aI) (m : Nat) (j : Nat) (pc : Nat) (L S : List aV) (c s : Nat) (M : aM) (n : Nat) (kn : Bool) (k : aNx → Bool) : Bool := match j, S with
  | 0, (3, x) :: S => bif anneg I x && aroomN m S 12 then ago (pc + 3) L S c s M n kn k else false
  | 1, (0, y) :: (0, x) :: S => bif ainR I x && ainR I y && aroomN m S 13 then (match alt I x y with
    | some true => agoN 0 y (pc + 3) L S c s M n kn k
    | some false => agoN 0 x (pc + 3) L S c s M n kn k
    | none => asplit I .lt x y k) else false
  | 2, (0, y) :: (0, x) :: S => bif ainR I x && ainR I y && aroomN m S 13 then (match alt I y x with
    | some true => agoN 0 y (pc + 3) L S c s M n kn k
    | some false => agoN 0 x (pc + 3) L S c s M n kn k
    | none => asplit I .lt y x k) else false
  | 3, (0, 0, .ofNat N) :: (0, 0, .ofNat D) :: (3, y) :: (0, 0, .ofNat P) :: (3, x) :: S => (match acl M n x with
    | some (_, cx) => (match acl M n y with
      | some (qy, cy) => bif acpc m S cx cy N D P then acpyK cx N P D cy (fun cy => aputK M qy cy (fun M => ago (pc + 3) L S c s M n kn k)) else false
      | none => false)
    | none => false)
  | _, _ => false
theorem aXc_ok {ρ : Nat → Int} {I : aI} {O : mO} (hI : gI ρ I O) {m len : Nat} {j : Nat} {pc : Nat} {L S : List aV} {L' S' : List mV} {c s : Nat} {M : aM} {n : Nat} {kn : Bool} {G : mG} {d : mD} {k : aNx → Bool}
    (hL : gL ρ L L') (hS : gL ρ S S') (hM : gM ρ M n kn G d) (h : aXc I m j pc L S c s M n kn k = true) : ∃ nx, k nx = true ∧ aSnd ρ m nx (mX O m len (.invokespecial j) pc L' S' c s G d) := by
  unfold aXc at h
  split at h
  · rename_i x S0
    obtain ⟨x', S', rfl, hx, hS⟩ := gL_cons hS
    cases hc : (anneg I x && aroomN m S0 12) with
    | false => rw [hc] at h; cases h
    | true =>
      rw [hc] at h
      dsimp only [cond] at h
      rw [Bool.and_eq_true] at hc
      rw [ago_eq] at h
      exact a_next h (fun B C K hB => ⟨⟨anneg_ok hI hx hc.1, aroomN_ok hS hc.2⟩, hB _ ⟨rfl, hL, hS, rfl, rfl, hM⟩⟩)
  · rename_i y x S0
    obtain ⟨y', S', rfl, hy, hS⟩ := gL_cons hS
    obtain ⟨x', S', rfl, hx, hS⟩ := gL_cons hS
    cases hc : (ainR I x && ainR I y && aroomN m S0 13) with
    | false => rw [hc] at h; cases h
    | true =>
      rw [hc] at h
      dsimp only [cond] at h
      simp only [Bool.and_eq_true] at hc
      have hin : mInR x' ∧ mInR y' ∧ mroomN m S' 13 := ⟨ainR_ok hI hx hc.1.1, ainR_ok hI hy hc.1.2, aroomN_ok hS hc.2⟩
      split at h
      · rename_i h1
        have h2 := (alt_ok hI hx hy h1).1 rfl
        rw [agoN_eq] at h
        exact a_next h (fun B C K hB => ⟨hin, hB _ ⟨rfl, hL, ⟨⟨rfl, by show gN ρ y (mmax x' y'); unfold mmax; rw [if_pos h2]; exact hy⟩, hS⟩, rfl, rfl, hM⟩⟩)
      · rename_i h1
        have h2 := (alt_ok hI hx hy h1).2 rfl
        rw [agoN_eq] at h
        exact a_next h (fun B C K hB => ⟨hin, hB _ ⟨rfl, hL, ⟨⟨rfl, by show gN ρ x (mmax x' y'); unfold mmax; rw [if_neg (by omega)]; exact hx⟩, hS⟩, rfl, rfl, hM⟩⟩)
      · exact a_splt (asplit_ok h)
  · rename_i y x S0
    obtain ⟨y', S', rfl, hy, hS⟩ := gL_cons hS
    obtain ⟨x', S', rfl, hx, hS⟩ := gL_cons hS
    cases hc : (ainR I x && ainR I y && aroomN m S0 13) with
    | false => rw [hc] at h; cases h
    | true =>
      rw [hc] at h
      dsimp only [cond] at h
      simp only [Bool.and_eq_true] at hc
      have hin : mInR x' ∧ mInR y' ∧ mroomN m S' 13 := ⟨ainR_ok hI hx hc.1.1, ainR_ok hI hy hc.1.2, aroomN_ok hS hc.2⟩
      split at h
      · rename_i h1
        have h2 := (alt_ok hI hy hx h1).1 rfl
        rw [agoN_eq] at h
        exact a_next h (fun B C K hB => ⟨hin, hB _ ⟨rfl, hL, ⟨⟨rfl, by show gN ρ y (mmin x' y'); unfold mmin; rw [if_pos h2]; exact hy⟩, hS⟩, rfl, rfl, hM⟩⟩)
      · rename_i h1
        have h2 := (alt_ok hI hy hx h1).2 rfl
        rw [agoN_eq] at h
        exact a_next h (fun B C K hB => ⟨hin, hB _ ⟨rfl, hL, ⟨⟨rfl, by show gN ρ x (mmin x' y'); unfold mmin; rw [if_neg (by omega)]; exact hx⟩, hS⟩, rfl, rfl, hM⟩⟩)
      · exact a_splt (asplit_ok h)
  · rename_i N D y P x S0
    obtain ⟨N', S', rfl, hN, hS⟩ := gL_cons hS
    obtain ⟨D', S', rfl, hD, hS⟩ := gL_cons hS
    obtain ⟨y', S', rfl, hy, hS⟩ := gL_cons hS
    obtain ⟨P', S', rfl, hP, hS⟩ := gL_cons hS
    obtain ⟨x', S', rfl, hx, hS⟩ := gL_cons hS
    have hN : N' = (N : Int) := hN
    have hD : D' = (D : Int) := hD
    have hP : P' = (P : Int) := hP
    split at h
    · rename_i qx cx hcx
      obtain ⟨x1, x2, x3, x4, x5, x6, x7⟩ := acl_ok hM hx hcx
      split at h
      · rename_i qy cy hcy
        obtain ⟨y1, y2, y3, y4, y5, y6, y7⟩ := acl_ok hM hy hcy
        cases hc : acpc m S0 cx cy N D P with
        | false => rw [hc] at h; cases h
        | true =>
          rw [hc] at h
          dsimp only [cond] at h
          rw [acpyK_eq, aputK_eq, ago_eq] at h
          unfold acpc at hc
          simp only [Bool.and_eq_true, Bool.or_eq_true] at hc
          obtain ⟨⟨⟨⟨⟨⟨⟨c1, c2⟩, c3⟩, c4⟩, c5⟩, c6⟩, c7⟩, c8⟩ := hc
          have c1 : cx.1 = 100 ∨ cx.1 = 101 := c1.imp Nat.eq_of_beq_eq_true Nat.eq_of_beq_eq_true
          have c2 := Nat.eq_of_beq_eq_true c2
          have c3 := Nat.le_of_ble_eq_true c3
          have c4 := Nat.le_of_ble_eq_true c4
          have c5 := Nat.le_of_ble_eq_true c5
          have c6 := Nat.le_of_ble_eq_true c6
          have c7 := Nat.le_of_ble_eq_true c7
          have g := fun j => acpy_get cx N P D cy j
          have hM2 : gM ρ (aput M qy (acpy cx N P D cy)) n kn G (mcopy d x' P' y' D' N') := by
            subst y3
            refine gM_put hM y2 y4 (g 0).1 (g 0).2.1 (fun j => ?_) (fun b hb => mcopy_ne (by rw [y1]; exact hb))
            rw [(g j).2.2]
            unfold mcopy
            by_cases e : D ≤ j ∧ j < D + N
            · rw [if_pos e, if_pos ⟨y1.symm, by omega, by omega⟩]
              have e9 : P' + ((j : Int) - D') = ((P + (j - D) : Nat) : Int) := by omega
              rw [e9]
              exact x7 _
            · rw [if_neg e, if_neg (fun z => e ⟨by omega, by omega⟩), ← y1]
              exact y7 j
          exact a_next h (fun B C K hB => ⟨⟨by rw [x5]; omega, by rw [x5, y5, c2], by omega, by omega, by omega, by omega, by omega, by omega, by rw [x6]; omega, by rw [y6]; omega, aroomN_ok hS c8⟩, hB _ ⟨rfl, hL, hS, rfl, rfl, hM2⟩⟩)
      · cases h
    · cases h
  · cases h
def aisB (i : Instr) : Bool := match i with
  | .getfield _ => true
  | .putfield _ => true
  | .arraylength => true
  | .iaload => true
  | .laload => true
  | .baload => true
  | .aaload => true
  | .iastore => true
  | .lastore => true
  | .bastore => true
  | .aastore => true
  | .newarray _ => true
  | .anewarray _ => true
  | .new _ => true
  | .checkcast _ => true
  | .ireturn => true
  | .lreturn => true
  | .dreturn => true
  | .return_ => true
  | .invokestatic _ => true
  | _ => false
def aX (I : aI) (m len : Nat) (i : Instr) (pc : Nat) (L S : List aV) (c s : Nat) (M : aM) (n : Nat) (kn : Bool) (k : aNx → Bool) : Bool := match i with
  | .invokespecial j => aXc I m j pc L S c s M n kn k
  | i => bif aisB i then aXb I m i pc L S c s M n kn k else aXa I len i pc L S c s M n kn k
theorem aX_ok {ρ : Nat → Int} {I : aI} {O : mO} (hI : gI ρ I O) {m len : Nat} {i : Instr} {pc : Nat} {L S : List aV} {L' S' : List mV} {c s : Nat} {M : aM} {n : Nat} {kn : Bool} {G : mG} {d : mD} {k : aNx → Bool}
    (hL : gL ρ L L') (hS : gL ρ S S') (hM : gM ρ M n kn G d) (h : aX I m len i pc L S c s M n kn k = true) : ∃ nx, k nx = true ∧ aSnd ρ m nx (mX O m len i pc L' S' c s G d) := by
  unfold aX at h
  split at h
  · exact aXc_ok hI hL hS hM h
  · cases hc : aisB i with
    | true => rw [hc] at h; exact aXb_ok hI hL hS hM h
    | false => rw [hc] at h; exact aXa_ok hI hL hS hM h
def aLo (I : aI) (q : Nat × Int) : aI := (I.1, lupd (0, 0) (fun b => (b.1, q.2)) I.2 q.1)
def aHi (I : aI) (q : Nat × Int) : aI := (I.1, lupd (0, 0) (fun b => (q.2 + 1, b.2)) I.2 q.1)
def amck (q : Int × List Nat × List (Nat × Nat)) (M : aM) (n : Nat) (kn : Bool) (r : aRes) : Bool := match r with
  | (.inl (some (0, 0, z)), M2, n2, kn2) => zeq z q.1 && Nat.beq n2 n && (kn2 == kn) && lEq (lEq acEq) (aP q M2) (aP q M)
  | _ => false
theorem amck_ok {ρ : Nat → Int} {q : Int × List Nat × List (Nat × Nat)} {M : aM} {n : Nat} {kn : Bool} {r : aRes} {x : mRes} {G : mG} {d : mD} (h : amck q M n kn r = true) (hr : gR ρ r x G d) : x = .inl (some (0, q.1)) ∧ gM ρ (aP q M) n kn G d := by
  unfold amck at h
  split at h
  · rename_i z M2 n2 kn2
    simp only [Bool.and_eq_true, beq_iff_eq] at h
    obtain ⟨⟨⟨h1, h2⟩, h3⟩, h4⟩ := h
    have h1 : z = q.1 := of_decide_eq_true h1
    have h2 := Nat.eq_of_beq_eq_true h2
    subst h2
    subst h3
    obtain ⟨hM, hx⟩ := hr
    have h5 := lEq_ok (lEq_ok acEq_ok) _ _ h4
    have hP := gM_P hM q
    dsimp only at hP
    rw [h5] at hP
    refine ⟨?_, hP⟩
    match x, hx with
    | .inl (some (t, w)), hx =>
      have e1 : 0 = t := hx.1
      have e2 : w = z := hx.2
      rw [← e1, e2, h1]
    | .inl none, hx => exact hx.elim
    | .inr _, hx => exact hx.elim
  · cases h
-- in method 0 at 'stop' it ends, with Z; behind a call of a method in g what g says is kept
def aRun (g : aG) (stop : Nat) (Z : aI → aSt → Bool) : Nat → aI → Nat → aSt → (aI → aRes → Bool) → Bool
  | 0, _, _, _, _ => false
  | f + 1, I, m, (pc, L, S, c, s, M, n, kn), K => bif Nat.beq m 0 && Nat.beq pc stop then Z I (pc, L, S, c, s, M, n, kn) else match mfetch m pc with
    | some (i, len) => (match amac i I m pc L S M n with
      | some (t, L, M) => aRun g stop Z f I m (t, L, [], c, s, M, n, kn) K
      | none => aX I m len i pc L S c s M n kn (fun nx => match nx with
      | .inl st => aRun g stop Z f I m st K
      | .inr (.inl (j, as, (pc, L, S, c, s, M, n, kn))) => !Nat.beq j 0 && (match agm g j with
        | some q => aRun g stop Z f I j (0, apad (mmaxL j) (alay as), [], 0, 0, M, n, kn) (fun _ r => amck q M n kn r) && aPK q M (fun M => aRun g stop Z f I m (pc + 3, L, (0, 0, q.1) :: S, c, s, M, n, kn) K)
        | none => aRun g stop Z f I j (0, apad (mmaxL j) (alay as), [], 0, 0, M, n, kn) (fun I r => match r with
        | (.inl (some v), M, n, kn) => aRun g stop Z f I m (pc + 3, L, v :: S, c, s, M, n, kn) K
        | (.inl none, M, n, kn) => aRun g stop Z f I m (pc + 3, L, S, c, s, M, n, kn) K
        | (.inr e, M, n, kn) => match mhnd m pc e with
          | some z => aret1 m (0, z) && K I (.inl (some (0, 0, z)), M, n, kn)
          | none => mnoh m && K I (.inr e, M, n, kn)))
      | .inr (.inr (.inl r)) => K I r
      | .inr (.inr (.inr q)) => Nat.blt q.1 I.2.length && aRun g stop Z f (aLo I q) m (pc, L, S, c, s, M, n, kn) K && aRun g stop Z f (aHi I q) m (pc, L, S, c, s, M, n, kn) K))
    | none => false
theorem lupd_len {α : Type} (z : α) (f : α → α) : ∀ (l : List α) (i : Nat), i < l.length → (lupd z f l i).length = l.length
  | [], _, h => absurd h (by simp)
  | _ :: _, 0, _ => by simp [lupd]
  | _ :: l, i + 1, h => by simp [lupd, lupd_len z f l i (by simpa using h)]
theorem gI_lo {ρ : Nat → Int} {I : aI} {O : mO} (hI : gI ρ I O) {q : Nat × Int} (hq : q.1 < I.2.length) (h : ρ q.1 ≤ q.2) : gI ρ (aLo I q) O := by
  refine ⟨hI.1, hI.2.1, hI.2.2.1, fun i hi => ?_, hI.2.2.2.2⟩
  have hi : i < (lupd (0, 0) (fun b => (b.1, q.2)) I.2 q.1).length := hi
  rw [lupd_len _ _ _ _ hq] at hi
  have h1 := hI.2.2.2.1 i hi
  show (lget (0, 0) (lupd (0, 0) (fun b => (b.1, q.2)) I.2 q.1) i).1 ≤ ρ i ∧ ρ i ≤ (lget (0, 0) (lupd (0, 0) (fun b => (b.1, q.2)) I.2 q.1) i).2
  rw [lget_upd]
  by_cases e : i = q.1
  · subst e
    rw [if_pos rfl]
    exact ⟨h1.1, h⟩
  · rw [if_neg e]
    exact h1
theorem gI_hi {ρ : Nat → Int} {I : aI} {O : mO} (hI : gI ρ I O) {q : Nat × Int} (hq : q.1 < I.2.length) (h : q.2 < ρ q.1) : gI ρ (aHi I q) O := by
  refine ⟨hI.1, hI.2.1, hI.2.2.1, fun i hi => ?_, hI.2.2.2.2⟩
  have hi : i < (lupd (0, 0) (fun b => (q.2 + 1, b.2)) I.2 q.1).length := hi
  rw [lupd_len _ _ _ _ hq] at hi
  have h1 := hI.2.2.2.1 i hi
  show (lget (0, 0) (lupd (0, 0) (fun b => (q.2 + 1, b.2)) I.2 q.1) i).1 ≤ ρ i ∧ ρ i ≤ (lget (0, 0) (lupd (0, 0) (fun b => (q.2 + 1, b.2)) I.2 q.1) i).2
  rw [lget_upd]
  by_cases e : i = q.1
  · subst e
    rw [if_pos rfl]
    exact ⟨by show q.2 + 1 ≤ _; omega, h1.2⟩
  · rw [if_neg e]
    exact h1
theorem aRun_ok {ρ : Nat → Int} {O : mO} {g : aG} {stop : Nat} {Z : aI → aSt → Bool} : ∀ (f : Nat) (I : aI) (m : Nat) (st : aSt) (K : aI → aRes → Bool), gI ρ I O → aRun g stop Z f I m st K = true → ∀ w, gS ρ st w → ∀ Kc : mK, (∀ I' r, gI ρ I' O → K I' r = true → ∀ q G d, gR ρ r q G d → Kc q G d) → (m = 0 → ∀ I' st', gI ρ I' O → Z I' st' = true → ∀ w', gS ρ st' w' → mRun O 0 w' Kc) → mRun O m w Kc
  | 0, _, _, _, _, _, h, _, _, _, _, _ => by cases h
  | f + 1, I, m, (pc, L, S, c, s, M, n, kn), K, hI, h, (pc', L', S', c', s', G, d), hw, Kc, hK, hZ => by
    have hw9 := hw
    obtain ⟨rfl, hL, hS, rfl, rfl, hM⟩ := hw
    unfold aRun at h
    cases hst : (Nat.beq m 0 && Nat.beq pc stop) with
    | true =>
      rw [hst] at h
      dsimp only [cond] at h
      rw [Bool.and_eq_true] at hst
      have hm := Nat.eq_of_beq_eq_true hst.1
      subst hm
      exact hZ rfl I _ hI h _ hw9
    | false =>
    rw [hst] at h
    dsimp only [cond] at h
    split at h
    · rename_i i len hf
      split at h
      · rename_i t9 L9 M9 hm9
        exact amac1_ok hI hL hS hM (amac_is hm9) (fun L1' d' hL1 hM1 => aRun_ok f I m (t9, L9, [], c, s, M9, n, kn) K hI h (t9, L1', [], c, s, G, d') ⟨rfl, hL1, trivial, rfl, rfl, hM1⟩ Kc hK hZ)
      obtain ⟨nx, hnx, hs⟩ := aX_ok hI hL hS hM h
      have hin : ∀ (B : mSt → Prop) (C : Nat → List mV → mG → mD → mK → Prop), mint B C m Kc (mX O m len i pc L' S' c s G d) → mstp O B C m Kc (pc, L', S', c, s, G, d) := by
        intro B C hh
        simp only [mstp]
        rw [hf]
        exact hh
      match nx, hnx, hs with
      | .inl st, hnx, hs => exact mRun_in (hin _ _ (hs _ _ _ (fun w hw => aRun_ok f I m st K hI hnx w hw Kc hK hZ)))
      | .inr (.inr (.inl r)), hnx, hs => exact mRun_in (hin _ _ (hs _ _ _ (fun q G d hr => hK I r hI hnx q G d hr)))
      | .inr (.inr (.inr q)), hnx, hs =>
        simp only [Bool.and_eq_true, Nat.blt_eq] at hnx
        by_cases hq : ρ q.1 ≤ q.2
        · exact aRun_ok f (aLo I q) m _ K (gI_lo hI hnx.1.1 hq) hnx.1.2 _ hw9 Kc hK hZ
        · exact aRun_ok f (aHi I q) m _ K (gI_hi hI hnx.1.1 (by omega)) hnx.2 _ hw9 Kc hK hZ
      | .inr (.inl (j, as, (pc, L, S, c, s, M, n, kn))), hnx, hs =>
        refine mRun_in (hin _ _ (hs _ _ _ (fun as' pc' L' S' c' s' G d has hst => ?_)))
        obtain ⟨rfl, hL, hS, rfl, rfl, hM⟩ := hst
        rw [Bool.and_eq_true] at hnx
        have hj0 : j ≠ 0 := fun e => by
          have h8 := hnx.1
          rw [e] at h8
          cases h8
        replace hnx := hnx.2
        split at hnx
        · rename_i q9 hq9
          rw [Bool.and_eq_true, aPK_eq] at hnx
          refine aRun_ok f I j _ _ hI hnx.1 (ment j as' G d) ⟨rfl, gL_pad _ (gL_lay has), trivial, rfl, rfl, hM⟩ _ (fun I2 r hI2 hr q G d hrq => ?_) (fun e => absurd e hj0)
          obtain ⟨e1, hP⟩ := amck_ok hr hrq
          subst e1
          exact aRun_ok f I m _ K hI hnx.2 (pc + 3, L', (0, q9.1) :: S', c, s, G, d) ⟨rfl, hL, ⟨⟨rfl, rfl⟩, hS⟩, rfl, rfl, hP⟩ Kc hK hZ
        refine aRun_ok f I j _ _ hI hnx (ment j as' G d) ⟨rfl, gL_pad _ (gL_lay has), trivial, rfl, rfl, hM⟩ _ (fun I r hI hr q G d hrq => ?_) (fun e => absurd e hj0)
        obtain ⟨hM, hrq⟩ := hrq
        match r, q, hr, hrq with
        | (.inl (some v), M, n, kn), .inl (some w), hr, hrq => exact aRun_ok f I m _ K hI hr (pc + 3, L', w :: S', c, s, G, d) ⟨rfl, hL, ⟨hrq, hS⟩, rfl, rfl, hM⟩ Kc hK hZ
        | (.inl none, M, n, kn), .inl none, hr, hrq => exact aRun_ok f I m _ K hI hr (pc + 3, L', S', c, s, G, d) ⟨rfl, hL, hS, rfl, rfl, hM⟩ Kc hK hZ
        | (.inr e, M, n, kn), .inr e', hr, hrq =>
          have hrq : e = e' := hrq
          subst hrq
          simp only [mback]
          dsimp only at hr
          split at hr
          · rename_i z hz
            rw [hz]
            dsimp only
            rw [Bool.and_eq_true] at hr
            exact ⟨aret1_ok (ρ := ρ) (v := (0, z)) rfl hr.1, hK I _ hI hr.2 _ _ _ ⟨hM, rfl, rfl⟩⟩
          · rename_i hz
            rw [hz]
            dsimp only
            rw [Bool.and_eq_true] at hr
            exact ⟨hr.1, hK I _ hI hr.2 _ _ _ ⟨hM, rfl⟩⟩
        | (.inl (some v), M, n, kn), .inl none, hr, hrq => exact hrq.elim
        | (.inl (some v), M, n, kn), .inr e', hr, hrq => exact hrq.elim
        | (.inl none, M, n, kn), .inl (some w), hr, hrq => exact hrq.elim
        | (.inl none, M, n, kn), .inr e', hr, hrq => exact hrq.elim
        | (.inr e, M, n, kn), .inl (some w), hr, hrq => exact hrq.elim
        | (.inr e, M, n, kn), .inl none, hr, hrq => exact hrq.elim
    · cases h
