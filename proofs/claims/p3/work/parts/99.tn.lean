/-! ===== the class's reader goes on ===== -/
theorem l52 {L : Int} (hL2 : L ≤ 1000) : ∀ (n : Nat) (d : mD), d 578 1 = L → 0 ≤ d 577 2 → d 577 2 ≤ L → L - d 577 2 ≤ (n : Int) → ∃ d', lp_52_8 577 n d = d' ∧ (∀ b, ¬ b = 577 → d' b = d b) ∧ BL (d 579) L (d 577 2) (d' 577 2) ∧ TokAt (d 579) L (d' 577 2) (d' 577 1) (d' 577 3) (d' 577 4) := by
  have stop : ∀ (d : mD), d 577 2 = L → ∃ d', mset (mset d 577 3 (d 577 2)) 577 1 3 = d' ∧ (∀ b, ¬ b = 577 → d' b = d b) ∧ BL (d 579) L (d 577 2) (d' 577 2) ∧ TokAt (d 579) L (d' 577 2) (d' 577 1) (d' 577 3) (d' 577 4) := fun d h => by
    have e2 : mset (mset d 577 3 (d 577 2)) 577 1 3 577 2 = d 577 2 := by rw [ms_i (by decide), ms_i (by decide)]
    refine ⟨_, rfl, fun b hb => by funext j; rw [ms_a hb, ms_a hb], ?_, ?_⟩
    · rw [e2]
      exact ⟨by omega, by omega, fun j x y => by omega, fun z => by omega⟩
    · rw [e2]
      exact Or.inl ⟨h, ms_e rfl rfl, by rw [ms_i (by decide), ms_e rfl rfl]⟩
  intro n
  induction n with
  | zero =>
    intro d hL h0 ha hn
    have e : lp_52_8 577 0 d = mset (mset d 577 3 (d 577 2)) 577 1 3 := by
      show st_52_8 577 _ d = _
      unfold st_52_8
      rw [show (577 : Int) + 1 = 578 by decide, hL, if_neg (by omega)]
    rw [e]
    exact stop d (by omega)
  | succ n ih =>
    intro d hL h0 ha hn
    by_cases c : d 577 2 < L
    · rcases v90_i (i := d 577 2) (d := d) with ⟨v, g⟩ | ⟨v, g⟩
      · have bl : BL (d 579) L (d 577 2) (d 577 2) := ⟨by omega, by omega, fun j x y => by omega, fun _ => g⟩
        have hE : ∃ E, mset d 577 3 (d 577 2) = E ∧ (∀ b, ¬ b = 577 → E b = d b) ∧ (∀ j, ¬ j = 3 → E 577 j = d 577 j) ∧ E 577 3 = d 577 2 := ⟨_, rfl, fun b hb => by funext j; exact ms_a hb, fun j hj => ms_i hj, ms_e rfl rfl⟩
        obtain ⟨E, hE, E1, E2, E3⟩ := hE
        have E9 : E 579 = d 579 := E1 579 (by decide)
        have E8 : E 578 = d 578 := E1 578 (by decide)
        have st : lp_52_8 577 (n + 1) d = if v_91 578 (d 577 2) E = 0 then (if v_92 578 (d 577 2) E = 0 then (if d 579 (d 577 2) = 59 then mset (mset E 577 1 2) 577 3 (d 577 2 + 1) else mset (mset E 577 1 4) 577 3 (d 577 2 + 1)) else g_54 577 E) else g_53 577 E := by
          show st_52_8 577 _ d = _
          unfold st_52_8
          rw [show (577 : Int) + 1 = 578 by decide, hL, if_pos c, if_pos v, hE, show (578 : Int) + 1 = 579 by decide]
        rcases v91_i (i := d 577 2) (d := E) with ⟨v1, g1⟩ | ⟨v1, g1⟩
        · rw [if_pos v1] at st
          rw [E9] at g1
          rcases v92_i (i := d 577 2) (d := E) with ⟨v2, g2⟩ | ⟨v2, g2⟩
          · rw [if_pos v2] at st
            rw [E9] at g2
            have fin : ∀ k, ∃ d', mset (mset E 577 1 k) 577 3 (d 577 2 + 1) = d' ∧ (∀ b, ¬ b = 577 → d' b = d b) ∧ d' 577 2 = d 577 2 ∧ d' 577 1 = k ∧ d' 577 3 = d 577 2 + 1 := fun k => ⟨_, rfl, fun b hb => by rw [← E1 b hb]; funext j; rw [ms_a hb, ms_a hb], by rw [ms_i (by decide), ms_i (by decide)]; exact E2 2 (by decide), by rw [ms_i (by decide), ms_e rfl rfl], ms_e rfl rfl⟩
            by_cases q : d 579 (d 577 2) = 59
            · rw [if_pos q] at st
              obtain ⟨d', f1, f2, f3, f4, f5⟩ := fin 2
              rw [st]
              refine ⟨d', f1, f2, by rw [f3]; exact bl, ?_⟩
              rw [f3, f4, f5]
              exact Or.inr (Or.inr (Or.inr (Or.inl ⟨c, q, rfl, rfl⟩)))
            · rw [if_neg q] at st
              obtain ⟨d', f1, f2, f3, f4, f5⟩ := fin 4
              rw [st]
              refine ⟨d', f1, f2, by rw [f3]; exact bl, ?_⟩
              rw [f3, f4, f5]
              exact Or.inr (Or.inr (Or.inr (Or.inr ⟨c, g1, g2, q, rfl, rfl⟩)))
          · rw [if_neg (by omega)] at st
            rw [E9] at g2
            have e3 : mset E 577 4 0 577 3 = d 577 2 := by rw [ms_i (by decide)]; exact E3
            have e9 : mset E 577 4 0 579 = d 579 := by rw [← E9]; funext j; exact ms_a (by decide)
            obtain ⟨z, d', q1, q2, q3, q4, q5, q6⟩ := l54 (L := L) (a := d 577 2) (1000 - (mset E 577 4 0) 577 3 : Int).toNat (mset E 577 4 0) (by rw [ms_a (by decide), E8]; exact hL) (by rw [ms_i (by decide)]; exact E2 2 (by decide)) (by omega) (by omega) (by omega) (fun _ => by
              rw [ms_e rfl rfl, e3, show (d 577 2 - d 577 2).toNat = 0 by omega]
              rfl)
            rw [e3, e9] at q2
            rw [e9] at q6
            have e : g_54 577 E = d' := q1
            rw [st, e]
            refine ⟨d', rfl, fun b hb => ?_, by rw [q4]; exact bl, ?_⟩
            · rw [q3 b hb, ← E1 b hb]
              funext j
              exact ms_a hb
            · rw [q4, q5]
              refine Or.inr (Or.inr (Or.inl ⟨c, g2, q2, ?_⟩))
              exact q6
        · rw [if_neg (by omega)] at st
          rw [E9] at g1
          obtain ⟨z, d', q1, q2, q3, q4, q5, q6⟩ := l53 (L := L) (1000 - E 577 3 : Int).toNat E (by rw [E8]; exact hL) (by omega) (by omega)
          rw [E3, E9] at q2
          have e : g_53 577 E = d' := q1
          have f2 : d' 577 2 = d 577 2 := by rw [q4 2 (by decide) (by decide)]; exact E2 2 (by decide)
          rw [st, e]
          refine ⟨d', rfl, fun b hb => by rw [q3 b hb, E1 b hb], by rw [f2]; exact bl, ?_⟩
          rw [f2, q5, q6]
          exact Or.inr (Or.inl ⟨c, g1, rfl, q2⟩)
      · have st : lp_52_8 577 (n + 1) d = lp_52_8 577 n (mset d 577 2 (d 577 2 + 1)) := by
          show st_52_8 577 _ d = _
          unfold st_52_8
          rw [show (577 : Int) + 1 = 578 by decide, hL, if_pos c, if_neg (by omega)]
        have e2 : mset d 577 2 (d 577 2 + 1) 577 2 = d 577 2 + 1 := ms_e rfl rfl
        have e9 : mset d 577 2 (d 577 2 + 1) 579 = d 579 := by funext j; exact ms_a (by decide)
        obtain ⟨d', q1, q2, q3, q4⟩ := ih (mset d 577 2 (d 577 2 + 1)) (by rw [ms_a (by decide)]; exact hL) (by omega) (by omega) (by omega)
        rw [e2, e9] at q3
        rw [e9] at q4
        rw [st]
        refine ⟨d', q1, fun b hb => ?_, ⟨by have := q3.1; omega, q3.2.1, fun j x y => ?_, q3.2.2.2⟩, q4⟩
        · rw [q2 b hb]
          funext j
          exact ms_a hb
        · by_cases y2 : j = d 577 2
          · rw [y2]; exact g
          · exact q3.2.2.1 j (by omega) y
    · have e : lp_52_8 577 (n + 1) d = mset (mset d 577 3 (d 577 2)) 577 1 3 := by
        show st_52_8 577 _ d = _
        unfold st_52_8
        rw [show (577 : Int) + 1 = 578 by decide, hL, if_neg c]
      rw [e]
      exact stop d (by omega)
theorem adv {L : Int} {d : mD} (hL : d 578 1 = L) (hL2 : L ≤ 1000) (h0 : 0 ≤ d 577 3) (h1 : d 577 3 ≤ L) : (∀ b, ¬ b = 577 → g_52 577 d b = d b) ∧ BL (d 579) L (d 577 3) (g_52 577 d 577 2) ∧ TokAt (d 579) L (g_52 577 d 577 2) (g_52 577 d 577 1) (g_52 577 d 577 3) (g_52 577 d 577 4) := by
  have e2 : mset d 577 2 (d 577 3) 577 2 = d 577 3 := ms_e rfl rfl
  have e9 : mset d 577 2 (d 577 3) 579 = d 579 := by funext j; exact ms_a (by decide)
  obtain ⟨d', q1, q2, q3, q4⟩ := l52 hL2 (1000 - (mset d 577 2 (d 577 3)) 577 2 : Int).toNat (mset d 577 2 (d 577 3)) (by rw [ms_a (by decide)]; exact hL) (by omega) (by omega) (by omega)
  have e : g_52 577 d = d' := q1
  rw [e2, e9] at q3
  rw [e9] at q4
  rw [e]
  refine ⟨fun b hb => ?_, q3, q4⟩
  rw [q2 b hb]
  funext j
  exact ms_a hb
