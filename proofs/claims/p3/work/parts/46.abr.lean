/-! ===== abstract runs ===== -/
noncomputable def aLo (I : aI) (q : Nat × Int) : aI := (I.1, lupd (0, 0) (fun b => (b.1, q.2)) I.2 q.1)
noncomputable def aHi (I : aI) (q : Nat × Int) : aI := (I.1, lupd (0, 0) (fun b => (q.2 + 1, b.2)) I.2 q.1)
noncomputable def amck (q : Int × List Nat × List (Nat × Nat)) (M : aM) (n : Nat) (kn : Bool) (r : aRes) : Bool := match r with
  | (.inl (some (0, 0, z)), M2, n2, kn2) => zeq z q.1 && Nat.beq n2 n && (kn2 == kn) && lEq (lEq acEq) (aP q M2) (aP q M)
  | _ => false
theorem amck_ok {ρ : Nat → Int} {q : Int × List Nat × List (Nat × Nat)} {M : aM} {n : Nat} {kn : Bool} {r : aRes} {x : mRes} {G : mG} {d : mD} (h : amck q M n kn r = true) (hr : gR ρ r x G d) : x = .inl (some (0, q.1)) ∧ gM ρ (aP q M) n kn G d := by
  unfold amck at h
  split at h
  · rename_i z M2 n2 kn2
    simp only [Bool.and_eq_true, beq_iff_eq] at h
    obtain ⟨⟨⟨h1, h2⟩, h3⟩, h4⟩ := h
    have h1 : z = q.1 := of_decide_eq_true h1
    have h2 := Nat.eq_of_beq_eq_true h2
    subst h2
    subst h3
    obtain ⟨hM, hx⟩ := hr
    have h5 := lEq_ok (lEq_ok acEq_ok) _ _ h4
    have hP := gM_P hM q
    dsimp only at hP
    rw [h5] at hP
    refine ⟨?_, hP⟩
    match x, hx with
    | .inl (some (t, w)), hx =>
      have e1 : 0 = t := hx.1
      have e2 : w = z := hx.2
      rw [← e1, e2, h1]
    | .inl none, hx => exact hx.elim
    | .inr _, hx => exact hx.elim
  · cases h
-- in method 0 at 'stop' it ends, with Z; behind a call of a method in g what g says is kept
noncomputable def aBody (g : aG) (stop : Nat) (Z : aI → aSt → Bool) (ih : aI → Nat → aSt → (aI → aRes → Bool) → Bool) (I : aI) (m : Nat) : aSt → (aI → aRes → Bool) → Bool
  | (pc, L, S, c, s, M, n, kn), K => bif Nat.beq m 0 && Nat.beq pc stop then Z I (pc, L, S, c, s, M, n, kn) else match mfetch m pc with
    | some (i, len) => (match amac (aisC i) I m pc L S M n with
      | some (t, L, M) => ih I m (t, L, [], c, s, M, n, kn) K
      | none => aXg (aXo i len) I m pc L S c s M n kn (fun nx => match nx with
      | .inl st => ih I m st K
      | .inr (.inl (j, as, (pc, L, S, c, s, M, n, kn))) => !Nat.beq j 0 && (match agm g j with
        | some q => ih I j (0, apad (mmaxL j) (alay as), [], 0, 0, M, n, kn) (fun _ r => amck q M n kn r) && aPK q M (fun M => ih I m (pc + 3, L, (0, 0, q.1) :: S, c, s, M, n, kn) K)
        | none => ih I j (0, apad (mmaxL j) (alay as), [], 0, 0, M, n, kn) (fun I r => match r with
        | (.inl (some v), M, n, kn) => ih I m (pc + 3, L, v :: S, c, s, M, n, kn) K
        | (.inl none, M, n, kn) => ih I m (pc + 3, L, S, c, s, M, n, kn) K
        | (.inr e, M, n, kn) => match mhnd m pc e with
          | some z => aret1 m (0, z) && K I (.inl (some (0, 0, z)), M, n, kn)
          | none => mnoh m && K I (.inr e, M, n, kn)))
      | .inr (.inr (.inl r)) => K I r
      | .inr (.inr (.inr q)) => Nat.blt q.1 I.2.length && ih (aLo I q) m (pc, L, S, c, s, M, n, kn) K && ih (aHi I q) m (pc, L, S, c, s, M, n, kn) K))
    | none => false
noncomputable def aRun (g : aG) (stop : Nat) (Z : aI → aSt → Bool) (f : Nat) : aI → Nat → aSt → (aI → aRes → Bool) → Bool :=
  Nat.rec (motive := fun _ => aI → Nat → aSt → (aI → aRes → Bool) → Bool) (fun _ _ _ _ => false) (fun _ ih => aBody g stop Z ih) f
theorem lupd_len {α : Type} (z : α) (f : α → α) : ∀ (l : List α) (i : Nat), i < l.length → (lupd z f l i).length = l.length
  | [], _, h => absurd h (by simp)
  | _ :: _, 0, _ => by simp [lupd]
  | _ :: l, i + 1, h => by simp [lupd, lupd_len z f l i (by simpa using h)]
theorem gI_lo {ρ : Nat → Int} {I : aI} {O : mO} (hI : gI ρ I O) {q : Nat × Int} (hq : q.1 < I.2.length) (h : ρ q.1 ≤ q.2) : gI ρ (aLo I q) O := by
  refine ⟨hI.1, hI.2.1, hI.2.2.1, fun i hi => ?_, hI.2.2.2.2⟩
  have hi : i < (lupd (0, 0) (fun b => (b.1, q.2)) I.2 q.1).length := hi
  rw [lupd_len _ _ _ _ hq] at hi
  have h1 := hI.2.2.2.1 i hi
  show (lget (0, 0) (lupd (0, 0) (fun b => (b.1, q.2)) I.2 q.1) i).1 ≤ ρ i ∧ ρ i ≤ (lget (0, 0) (lupd (0, 0) (fun b => (b.1, q.2)) I.2 q.1) i).2
  rw [lget_upd]
  by_cases e : i = q.1
  · subst e
    rw [if_pos rfl]
    exact ⟨h1.1, h⟩
  · rw [if_neg e]
    exact h1
theorem gI_hi {ρ : Nat → Int} {I : aI} {O : mO} (hI : gI ρ I O) {q : Nat × Int} (hq : q.1 < I.2.length) (h : q.2 < ρ q.1) : gI ρ (aHi I q) O := by
  refine ⟨hI.1, hI.2.1, hI.2.2.1, fun i hi => ?_, hI.2.2.2.2⟩
  have hi : i < (lupd (0, 0) (fun b => (q.2 + 1, b.2)) I.2 q.1).length := hi
  rw [lupd_len _ _ _ _ hq] at hi
  have h1 := hI.2.2.2.1 i hi
  show (lget (0, 0) (lupd (0, 0) (fun b => (q.2 + 1, b.2)) I.2 q.1) i).1 ≤ ρ i ∧ ρ i ≤ (lget (0, 0) (lupd (0, 0) (fun b => (q.2 + 1, b.2)) I.2 q.1) i).2
  rw [lget_upd]
  by_cases e : i = q.1
  · subst e
    rw [if_pos rfl]
    exact ⟨by show q.2 + 1 ≤ _; omega, h1.2⟩
  · rw [if_neg e]
    exact h1
theorem aRun_ok {ρ : Nat → Int} {O : mO} {g : aG} {stop : Nat} {Z : aI → aSt → Bool} : ∀ (f : Nat) (I : aI) (m : Nat) (st : aSt) (K : aI → aRes → Bool), gI ρ I O → aRun g stop Z f I m st K = true → ∀ w, gS ρ st w → ∀ Kc : mK, (∀ I' r, gI ρ I' O → K I' r = true → ∀ q G d, gR ρ r q G d → Kc q G d) → (m = 0 → ∀ I' st', gI ρ I' O → Z I' st' = true → ∀ w', gS ρ st' w' → mRun O 0 w' Kc) → mRun O m w Kc
  | 0, _, _, _, _, _, h, _, _, _, _, _ => by cases h
  | f + 1, I, m, (pc, L, S, c, s, M, n, kn), K, hI, h, (pc', L', S', c', s', G, d), hw, Kc, hK, hZ => by
    have hw9 := hw
    obtain ⟨rfl, hL, hS, rfl, rfl, hM⟩ := hw
    replace h : aBody g stop Z (aRun g stop Z f) I m (pc, L, S, c, s, M, n, kn) K = true := h
    unfold aBody at h
    dsimp only at h
    cases hst : (Nat.beq m 0 && Nat.beq pc stop) with
    | true =>
      rw [hst] at h
      dsimp only [cond] at h
      rw [Bool.and_eq_true] at hst
      have hm := Nat.eq_of_beq_eq_true hst.1
      subst hm
      exact hZ rfl I _ hI h _ hw9
    | false =>
    rw [hst] at h
    dsimp only [cond] at h
    split at h
    · rename_i i len hf
      split at h
      · rename_i t9 L9 M9 hm9
        exact amac1_ok hI hL hS hM (amac_is hm9) (fun L1' d' hL1 hM1 => aRun_ok f I m (t9, L9, [], c, s, M9, n, kn) K hI h (t9, L1', [], c, s, G, d') ⟨rfl, hL1, trivial, rfl, rfl, hM1⟩ Kc hK hZ)
      rw [aXg_eq] at h
      obtain ⟨nx, hnx, hs⟩ := aX_ok hI hL hS hM h
      have hin : ∀ (B : mSt → Prop) (C : Nat → List mV → mG → mD → mK → Prop), mint B C m Kc (mX O m len i pc L' S' c s G d) → mstp O B C m Kc (pc, L', S', c, s, G, d) := by
        intro B C hh
        simp only [mstp]
        rw [hf]
        exact hh
      match nx, hnx, hs with
      | .inl st, hnx, hs => exact mRun_in (hin _ _ (hs _ _ _ (fun w hw => aRun_ok f I m st K hI hnx w hw Kc hK hZ)))
      | .inr (.inr (.inl r)), hnx, hs => exact mRun_in (hin _ _ (hs _ _ _ (fun q G d hr => hK I r hI hnx q G d hr)))
      | .inr (.inr (.inr q)), hnx, hs =>
        simp only [Bool.and_eq_true, Nat.blt_eq] at hnx
        by_cases hq : ρ q.1 ≤ q.2
        · exact aRun_ok f (aLo I q) m _ K (gI_lo hI hnx.1.1 hq) hnx.1.2 _ hw9 Kc hK hZ
        · exact aRun_ok f (aHi I q) m _ K (gI_hi hI hnx.1.1 (by omega)) hnx.2 _ hw9 Kc hK hZ
      | .inr (.inl (j, as, (pc, L, S, c, s, M, n, kn))), hnx, hs =>
        refine mRun_in (hin _ _ (hs _ _ _ (fun as' pc' L' S' c' s' G d has hst => ?_)))
        obtain ⟨rfl, hL, hS, rfl, rfl, hM⟩ := hst
        rw [Bool.and_eq_true] at hnx
        have hj0 : j ≠ 0 := fun e => by
          have h8 := hnx.1
          rw [e] at h8
          cases h8
        replace hnx := hnx.2
        split at hnx
        · rename_i q9 hq9
          rw [Bool.and_eq_true, aPK_eq] at hnx
          refine aRun_ok f I j _ _ hI hnx.1 (ment j as' G d) ⟨rfl, gL_pad _ (gL_lay has), trivial, rfl, rfl, hM⟩ _ (fun I2 r hI2 hr q G d hrq => ?_) (fun e => absurd e hj0)
          obtain ⟨e1, hP⟩ := amck_ok hr hrq
          subst e1
          exact aRun_ok f I m _ K hI hnx.2 (pc + 3, L', (0, q9.1) :: S', c, s, G, d) ⟨rfl, hL, ⟨⟨rfl, rfl⟩, hS⟩, rfl, rfl, hP⟩ Kc hK hZ
        refine aRun_ok f I j _ _ hI hnx (ment j as' G d) ⟨rfl, gL_pad _ (gL_lay has), trivial, rfl, rfl, hM⟩ _ (fun I r hI hr q G d hrq => ?_) (fun e => absurd e hj0)
        obtain ⟨hM, hrq⟩ := hrq
        match r, q, hr, hrq with
        | (.inl (some v), M, n, kn), .inl (some w), hr, hrq => exact aRun_ok f I m _ K hI hr (pc + 3, L', w :: S', c, s, G, d) ⟨rfl, hL, ⟨hrq, hS⟩, rfl, rfl, hM⟩ Kc hK hZ
        | (.inl none, M, n, kn), .inl none, hr, hrq => exact aRun_ok f I m _ K hI hr (pc + 3, L', S', c, s, G, d) ⟨rfl, hL, hS, rfl, rfl, hM⟩ Kc hK hZ
        | (.inr e, M, n, kn), .inr e', hr, hrq =>
          have hrq : e = e' := hrq
          subst hrq
          simp only [mback]
          dsimp only at hr
          split at hr
          · rename_i z hz
            rw [hz]
            dsimp only
            rw [Bool.and_eq_true] at hr
            exact ⟨aret1_ok (ρ := ρ) (v := (0, z)) rfl hr.1, hK I _ hI hr.2 _ _ _ ⟨hM, rfl, rfl⟩⟩
          · rename_i hz
            rw [hz]
            dsimp only
            rw [Bool.and_eq_true] at hr
            exact ⟨hr.1, hK I _ hI hr.2 _ _ _ ⟨hM, rfl⟩⟩
        | (.inl (some v), M, n, kn), .inl none, hr, hrq => exact hrq.elim
        | (.inl (some v), M, n, kn), .inr e', hr, hrq => exact hrq.elim
        | (.inl none, M, n, kn), .inl (some w), hr, hrq => exact hrq.elim
        | (.inl none, M, n, kn), .inr e', hr, hrq => exact hrq.elim
        | (.inr e, M, n, kn), .inl (some w), hr, hrq => exact hrq.elim
        | (.inr e, M, n, kn), .inl none, hr, hrq => exact hrq.elim
    · cases h
