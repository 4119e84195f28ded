/-! ===== tokens of the text: what the class's reader finds ===== -/
def isBl (x : Int) : Prop := x = 32 ∨ x = 10
def isLe (x : Int) : Prop := 97 ≤ x ∧ x ≤ 122
def isDi (x : Int) : Prop := 48 ≤ x ∧ x ≤ 57
def BL (b : Int → Int) (L i a : Int) : Prop := i ≤ a ∧ a ≤ L ∧ (∀ j, i ≤ j → j < a → isBl (b j)) ∧ (a < L → ¬ isBl (b a))
def RU (P : Int → Prop) (b : Int → Int) (L a z : Int) : Prop := a ≤ z ∧ z ≤ L ∧ (∀ j, a ≤ j → j < z → P (b j)) ∧ (z < L → ¬ P (b z))
def dv (b : Int → Int) (a : Int) : Nat → Int
  | 0 => 0
  | n + 1 => dv b a n * 10 + b (a + n) - 48
def TokAt (b : Int → Int) (L a k z m : Int) : Prop := (a = L ∧ k = 3 ∧ z = a) ∨ (a < L ∧ isLe (b a) ∧ k = 0 ∧ RU isLe b L a z) ∨ (a < L ∧ isDi (b a) ∧ RU isDi b L a z ∧ ((z - a ≤ 5 ∧ k = 1 ∧ m = dv b a (z - a).toNat) ∨ (5 < z - a ∧ k = 4))) ∨ (a < L ∧ b a = 59 ∧ k = 2 ∧ z = a + 1) ∨ (a < L ∧ ¬ isLe (b a) ∧ ¬ isDi (b a) ∧ ¬ b a = 59 ∧ k = 4 ∧ z = a + 1)
theorem BL.uni {b : Int → Int} {L i a a' : Int} (h : BL b L i a) (h' : BL b L i a') : a = a' := by
  obtain ⟨p1, p2, p3, p4⟩ := h
  obtain ⟨q1, q2, q3, q4⟩ := h'
  by_cases x : a < a'
  · exact absurd (q3 a p1 x) (p4 (by omega))
  · by_cases y : a' < a
    · exact absurd (p3 a' q1 y) (q4 (by omega))
    · omega
theorem RU.uni {P : Int → Prop} {b : Int → Int} {L i a a' : Int} (h : RU P b L i a) (h' : RU P b L i a') : a = a' := by
  obtain ⟨p1, p2, p3, p4⟩ := h
  obtain ⟨q1, q2, q3, q4⟩ := h'
  by_cases x : a < a'
  · exact absurd (q3 a p1 x) (p4 (by omega))
  · by_cases y : a' < a
    · exact absurd (p3 a' q1 y) (q4 (by omega))
    · omega
theorem v90_i {i : Int} {d : mD} : (v_90 578 i d = 0 ∧ ¬ isBl (d 579 i)) ∨ (v_90 578 i d = 1 ∧ isBl (d 579 i)) := by
  unfold v_90 isBl
  rw [show (578 : Int) + 1 = 579 by decide]
  split
  · exact Or.inr ⟨rfl, Or.inl (by assumption)⟩
  · split
    · exact Or.inr ⟨rfl, Or.inr (by assumption)⟩
    · exact Or.inl ⟨rfl, by omega⟩
theorem v91_i {i : Int} {d : mD} : (v_91 578 i d = 0 ∧ ¬ isLe (d 579 i)) ∨ (v_91 578 i d = 1 ∧ isLe (d 579 i)) := by
  unfold v_91 isLe
  rw [show (578 : Int) + 1 = 579 by decide]
  split
  · exact Or.inl ⟨rfl, by omega⟩
  · split
    · exact Or.inl ⟨rfl, by omega⟩
    · exact Or.inr ⟨rfl, by omega⟩
theorem v92_i {i : Int} {d : mD} : (v_92 578 i d = 0 ∧ ¬ isDi (d 579 i)) ∨ (v_92 578 i d = 1 ∧ isDi (d 579 i)) := by
  unfold v_92 isDi
  rw [show (578 : Int) + 1 = 579 by decide]
  split
  · exact Or.inl ⟨rfl, by omega⟩
  · split
    · exact Or.inl ⟨rfl, by omega⟩
    · exact Or.inr ⟨rfl, by omega⟩
theorem l53 {L : Int} : ∀ (n : Nat) (d : mD), d 578 1 = L → d 577 3 ≤ L → L - d 577 3 ≤ (n : Int) → ∃ z d', lp_53_0 577 n d = d' ∧ RU isLe (d 579) L (d 577 3) z ∧ (∀ b, ¬ b = 577 → d' b = d b) ∧ (∀ j, ¬ j = 1 → ¬ j = 3 → d' 577 j = d 577 j) ∧ d' 577 3 = z ∧ d' 577 1 = 0 := by
  have stop : ∀ (d : mD), d 577 3 ≤ L → (d 577 3 < L → ¬ isLe (d 579 (d 577 3))) → ∃ z d', mset d 577 1 0 = d' ∧ RU isLe (d 579) L (d 577 3) z ∧ (∀ b, ¬ b = 577 → d' b = d b) ∧ (∀ j, ¬ j = 1 → ¬ j = 3 → d' 577 j = d 577 j) ∧ d' 577 3 = z ∧ d' 577 1 = 0 := fun d hb hc =>
    ⟨d 577 3, _, rfl, ⟨by omega, hb, fun j x y => by omega, hc⟩, fun b hb => by funext j; exact ms_a hb, fun j x _ => ms_i x, ms_i (by decide), ms_e rfl rfl⟩
  intro n
  induction n with
  | zero =>
    intro d hL ha hn
    have e : lp_53_0 577 0 d = mset d 577 1 0 := by
      show st_53_0 577 _ d = _
      unfold st_53_0
      rw [show (577 : Int) + 1 = 578 by decide, hL, if_neg (by omega)]
    rw [e]
    exact stop d ha (fun z => by omega)
  | succ n ih =>
    intro d hL ha hn
    have st : lp_53_0 577 (n + 1) d = if d 577 3 < L then (if v_91 578 (d 577 3) d = 0 then mset d 577 1 0 else lp_53_0 577 n (mset d 577 3 (d 577 3 + 1))) else mset d 577 1 0 := by
      show st_53_0 577 _ d = _
      unfold st_53_0
      rw [show (577 : Int) + 1 = 578 by decide, hL]
    by_cases c : d 577 3 < L
    · rw [if_pos c] at st
      rcases v91_i (i := d 577 3) (d := d) with ⟨v, g⟩ | ⟨v, g⟩
      · rw [if_pos v] at st
        rw [st]
        exact stop d ha (fun _ => g)
      · rw [if_neg (by omega)] at st
        rw [st]
        have e3 : mset d 577 3 (d 577 3 + 1) 577 3 = d 577 3 + 1 := ms_e rfl rfl
        have e9 : mset d 577 3 (d 577 3 + 1) 579 = d 579 := by funext j; exact ms_a (by decide)
        obtain ⟨z, d', q1, q2, q3, q4, q5, q6⟩ := ih (mset d 577 3 (d 577 3 + 1)) (by rw [ms_a (by decide)]; exact hL) (by rw [e3]; omega) (by rw [e3]; omega)
        rw [e3, e9] at q2
        refine ⟨z, d', q1, ⟨by have := q2.1; omega, q2.2.1, fun j x y => ?_, q2.2.2.2⟩, fun b hb => ?_, fun j x y => ?_, q5, q6⟩
        · by_cases y2 : j = d 577 3
          · rw [y2]; exact g
          · exact q2.2.2.1 j (by omega) y
        · rw [q3 b hb]
          funext j
          exact ms_a hb
        · rw [q4 j x y, ms_i y]
    · rw [if_neg c] at st
      rw [st]
      exact stop d ha (fun z => absurd z c)
theorem l54 {L a : Int} : ∀ (n : Nat) (d : mD), d 578 1 = L → d 577 2 = a → a ≤ d 577 3 → d 577 3 ≤ L → L - d 577 3 ≤ (n : Int) → (d 577 3 - a ≤ 5 → d 577 4 = dv (d 579) a (d 577 3 - a).toNat) → ∃ z d', lp_54_5 577 n d = d' ∧ RU isDi (d 579) L (d 577 3) z ∧ (∀ b, ¬ b = 577 → d' b = d b) ∧ d' 577 2 = a ∧ d' 577 3 = z ∧ ((z - a ≤ 5 ∧ d' 577 1 = 1 ∧ d' 577 4 = dv (d 579) a (z - a).toNat) ∨ (5 < z - a ∧ d' 577 1 = 4)) := by
  have stop : ∀ (d : mD), d 577 2 = a → d 577 3 ≤ L → (d 577 3 - a ≤ 5 → d 577 4 = dv (d 579) a (d 577 3 - a).toNat) → (d 577 3 < L → ¬ isDi (d 579 (d 577 3))) → ∃ z d', (if (5 : Int) < d 577 3 - d 577 2 then mset d 577 1 4 else mset d 577 1 1) = d' ∧ RU isDi (d 579) L (d 577 3) z ∧ (∀ b, ¬ b = 577 → d' b = d b) ∧ d' 577 2 = a ∧ d' 577 3 = z ∧ ((z - a ≤ 5 ∧ d' 577 1 = 1 ∧ d' 577 4 = dv (d 579) a (z - a).toNat) ∨ (5 < z - a ∧ d' 577 1 = 4)) := fun d h2 hb hv hc => by
    rw [h2]
    by_cases c5 : 5 < d 577 3 - a
    · rw [if_pos c5]
      exact ⟨d 577 3, _, rfl, ⟨by omega, hb, fun j x y => by omega, hc⟩, fun b hb => by funext j; exact ms_a hb, by rw [ms_i (by decide)]; exact h2, ms_i (by decide), Or.inr ⟨c5, ms_e rfl rfl⟩⟩
    · rw [if_neg c5]
      exact ⟨d 577 3, _, rfl, ⟨by omega, hb, fun j x y => by omega, hc⟩, fun b hb => by funext j; exact ms_a hb, by rw [ms_i (by decide)]; exact h2, ms_i (by decide), Or.inl ⟨by omega, ms_e rfl rfl, by rw [ms_i (by decide)]; exact hv (by omega)⟩⟩
  intro n
  induction n with
  | zero =>
    intro d hL h2 ha hb hn hv
    have e : lp_54_5 577 0 d = if (5 : Int) < d 577 3 - d 577 2 then mset d 577 1 4 else mset d 577 1 1 := by
      show st_54_5 577 _ d = _
      unfold st_54_5
      rw [show (577 : Int) + 1 = 578 by decide, hL, if_neg (by omega)]
    rw [e]
    exact stop d h2 hb hv (fun z => by omega)
  | succ n ih =>
    intro d hL h2 ha hb hn hv
    have st : lp_54_5 577 (n + 1) d = if d 577 3 < L then (if v_92 578 (d 577 3) d = 0 then (if (5 : Int) < d 577 3 - d 577 2 then mset d 577 1 4 else mset d 577 1 1) else if d 577 3 - d 577 2 < 5 then lp_54_5 577 n (mset (mset d 577 4 (d 577 4 * 10 + d 579 (d 577 3) - 48)) 577 3 (d 577 3 + 1)) else lp_54_5 577 n (mset d 577 3 (d 577 3 + 1))) else if (5 : Int) < d 577 3 - d 577 2 then mset d 577 1 4 else mset d 577 1 1 := by
      show st_54_5 577 _ d = _
      unfold st_54_5
      rw [show (577 : Int) + 1 = 578 by decide, hL, show (578 : Int) + 1 = 579 by decide]
    by_cases c : d 577 3 < L
    · rw [if_pos c] at st
      rcases v92_i (i := d 577 3) (d := d) with ⟨v, g⟩ | ⟨v, g⟩
      · rw [if_pos v] at st
        rw [st]
        exact stop d h2 hb hv (fun _ => g)
      · rw [if_neg (by omega)] at st
        have go : ∀ (u : mD), (∀ b, ¬ b = 577 → u b = d b) → u 577 2 = a → u 577 3 = d 577 3 + 1 → (u 577 3 - a ≤ 5 → u 577 4 = dv (d 579) a (u 577 3 - a).toNat) → ∃ z d', lp_54_5 577 n u = d' ∧ RU isDi (d 579) L (d 577 3) z ∧ (∀ b, ¬ b = 577 → d' b = d b) ∧ d' 577 2 = a ∧ d' 577 3 = z ∧ ((z - a ≤ 5 ∧ d' 577 1 = 1 ∧ d' 577 4 = dv (d 579) a (z - a).toNat) ∨ (5 < z - a ∧ d' 577 1 = 4)) := fun u w1 w2 w3 w4 => by
          have u9 : u 579 = d 579 := w1 579 (by decide)
          obtain ⟨z, d', q1, q2, q3, q4, q5, q6⟩ := ih u (by rw [w1 578 (by decide)]; exact hL) w2 (by omega) (by omega) (by omega) (by rw [u9]; exact w4)
          rw [u9, w3] at q2
          rw [u9] at q6
          refine ⟨z, d', q1, ⟨by have := q2.1; omega, q2.2.1, fun j x y => ?_, q2.2.2.2⟩, fun b hb => by rw [q3 b hb, w1 b hb], q4, q5, q6⟩
          by_cases y2 : j = d 577 3
          · rw [y2]; exact g
          · exact q2.2.2.1 j (by omega) y
        by_cases c5 : d 577 3 - d 577 2 < 5
        · rw [if_pos c5] at st
          rw [st]
          refine go _ (fun b hb => by funext j; rw [ms_a hb, ms_a hb]) (by rw [ms_i (by decide), ms_i (by decide)]; exact h2) (ms_e rfl rfl) (fun _ => ?_)
          rw [ms_e rfl rfl, ms_i (by decide), ms_e rfl rfl, hv (by omega), show (d 577 3 + 1 - a).toNat = (d 577 3 - a).toNat + 1 by omega]
          show _ = dv (d 579) a (d 577 3 - a).toNat * 10 + d 579 (a + ((d 577 3 - a).toNat : Nat)) - 48
          rw [show a + ((d 577 3 - a).toNat : Int) = d 577 3 by omega]
        · rw [if_neg c5] at st
          rw [st]
          exact go _ (fun b hb => by funext j; rw [ms_a hb]) (by rw [ms_i (by decide)]; exact h2) (ms_e rfl rfl) (fun z => by rw [ms_e rfl rfl] at z; omega)
    · rw [if_neg c] at st
      rw [st]
      exact stop d h2 hb hv (fun z => absurd z c)
