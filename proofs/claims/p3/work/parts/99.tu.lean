/-! ===== both readers side by side: an office by its name, the latest ticket of a person ===== -/
theorem takeOff {d e : mD} {w : Row} (h : Syn d e) (hr : RelO 580 d w) (hw : e 770 = w) (h7 : 0 ≤ w 7 ∧ w 7 ≤ 6) : FrC d (g_28 576 d) ∧ FrR e (g_200 769 e) ∧ ((v_28 576 d = 1 ∧ Syn (g_28 576 d) (g_200 769 e) ∧ g_28 576 d 576 6 = v_200 769 e ∧ 0 ≤ v_200 769 e ∧ v_200 769 e < w 7) ∨ (v_28 576 d = 0 ∧ Fail (g_28 576 d) (g_200 769 e))) := by
  generalize hf : v_36 582 (v_56 577 d) d = f
  have ev : v_28 576 d = if v_56 577 d = -1 then v_26 576 (mset d 576 6 f) else if f = -1 then 0 else v_26 576 (mset d 576 6 f) := by
    unfold v_28
    rw [show (576 : Int) + 1 = 577 by decide, show (576 : Int) + 4 + 2 = 582 by decide, hf, v56_c]
    rfl
  have eg : g_28 576 d = if v_56 577 d = -1 then g_26 576 (mset d 576 6 f) else if f = -1 then g_32 576 4 (mset d 576 6 f) else g_26 576 (mset d 576 6 f) := by
    unfold g_28
    rw [show (576 : Int) + 1 = 577 by decide, show (576 : Int) + 4 + 2 = 582 by decide, hf, v56_c]
  have h6 : Syn (mset d 576 6 f) e := h.c (by funext j; exact ms_a (by decide)) (by funext j; exact ms_a (by decide)) (by funext j; exact ms_a (by decide))
  have c6 : FrC d (mset d 576 6 f) := fun b x y => by funext j; exact ms_a x
  obtain ⟨n1, n2, n3, n4⟩ := takeName h6
  rw [v56_c] at n4
  have s2 : mset d 576 6 f 577 2 = d 577 2 := ms_a (by decide)
  rw [s2] at n3
  have w1 : g_198 769 e 770 = w := by rw [n2.1 770 (by decide)]; exact hw
  have er : v_184 769 (v_198 769 e) (g_198 769 e) = V_184 (v_198 769 e) w := by rw [m_v_184, w1]
  have gr : g_200 769 e = if V_184 (v_198 769 e) w = -1 then g_188 769 4 (d 577 2) (g_198 769 e) else g_198 769 e := by
    unfold g_200
    rw [er, n3]
  rcases n4 with ⟨o1, o2, o3, o4, o5⟩ | ⟨o1, o2, o3, o4⟩
  · have hne : ¬ v_56 577 d = -1 := by
      have := o1.1
      omega
    have ff : f = V_184 (v_198 769 e) w := by
      rw [← hf, o5]
      exact findO (s := 580) hr o1
    rw [if_neg hne] at ev eg
    by_cases c : f = -1
    · rw [if_pos c] at ev eg
      rw [if_pos (by rw [← ff]; exact c)] at gr
      obtain ⟨b1, b2⟩ := flt188 (c := 4) (p := d 577 2) o3.2.1
      obtain ⟨c1, c2, c3⟩ := fail32 (c := 4) (d := mset d 576 6 f)
      rw [s2] at c2
      rw [eg, gr]
      exact ⟨fun b x y => by rw [c3 b x y, c6 b x y], n2.trans b2, Or.inr ⟨ev, 4, d 577 2, c1, c2, b1⟩⟩
    · rw [if_neg c] at ev eg
      rw [if_neg (by rw [← ff]; exact c)] at gr
      have vr : v_200 769 e = f := by
        unfold v_200
        rw [er, ← ff, if_neg c, if_pos o3.2.1]
      have rg := V184_rng (m := v_198 769 e) (w := w) h7
      rw [← ff] at rg
      rw [eg, gr, vr]
      exact ⟨fun b x y => by rw [n1 b x y, c6 b x y], n2, Or.inl ⟨by rw [ev]; exact o2, o3, by rw [g26_6 h6 (by rw [v56_c]; exact hne), ms_e rfl rfl], by omega, by omega⟩⟩
  · rw [if_pos o1] at ev eg
    obtain ⟨c, p, q1, q2, q3⟩ := o3
    have stay : ∀ x, g_188 769 4 x (g_198 769 e) = g_198 769 e := fun x => by
      unfold g_188
      rw [if_neg (by rw [q3.1]; decide)]
    have gr2 : g_200 769 e = g_198 769 e := by
      rw [gr, stay]
      split <;> rfl
    rw [eg, gr2]
    exact ⟨fun b x y => by rw [n1 b x y, c6 b x y], n2, Or.inr ⟨by rw [ev]; exact o2, c, p, q1, q2, q3⟩⟩
-- the latest ticket
theorem lp100 {s p : Int} {d : mD} {w : Row} (hr : RelT s d w) : ∀ (n : Nat) (x : Int), x < w 9 → lp_100_7 (s + 49) p n x d = LP_201_10 p n x w := by
  have st : ∀ (r : Int → mD → Int) (R : Int → Row → Int) (x : Int), x < w 9 → (0 ≤ x → r (x + -1) d = R (x + -1) w) → st_100_7 (s + 49) p r x d = ST_201_10 p R x w := fun r R x a hr2 => by
    unfold st_100_7 ST_201_10
    by_cases c : x < 0
    · rw [if_pos c, if_pos c]
    · rw [if_neg c, if_neg c, show s + 49 + 1 = s + 50 by omega, (hr.2 x (by omega) a).1]
      by_cases z : w (452 + 24 * x + 0) = p
      · rw [if_pos z, if_pos z]
      · rw [if_neg z, if_neg z]
        exact hr2 (by omega)
  intro n
  induction n with
  | zero => intro x a; exact st _ _ x a (fun _ => rfl)
  | succ n ih => intro x a; exact st _ _ x a (fun _ => ih (x + -1) (by omega))
theorem latest {s p : Int} {d : mD} {w : Row} (hr : RelT s d w) : v_100 (s + 49) p d = V_201 p w := by
  unfold v_100 V_201
  rw [hr.1]
  exact lp100 hr _ _ (by omega)
theorem V201_rng {p : Int} {w : Row} : V_201 p w = -1 ∨ (0 ≤ V_201 p w ∧ V_201 p w < w 9 ∧ w (452 + 24 * V_201 p w + 0) = p) := by
  have st : ∀ (n : Nat) (x : Int), x < w 9 → x + 1 ≤ (n : Int) → LP_201_10 p n x w = -1 ∨ (0 ≤ LP_201_10 p n x w ∧ LP_201_10 p n x w < w 9 ∧ w (452 + 24 * LP_201_10 p n x w + 0) = p) := by
    intro n
    induction n with
    | zero =>
      intro x a b
      have e : LP_201_10 p 0 x w = -1 := by
        show ST_201_10 p _ x w = _
        unfold ST_201_10
        rw [if_pos (by omega)]
      exact Or.inl e
    | succ n ih =>
      intro x a b
      have e : LP_201_10 p (n + 1) x w = if x < 0 then -1 else if w (452 + 24 * x + 0) = p then x else LP_201_10 p n (x + -1) w := rfl
      by_cases c : x < 0
      · rw [if_pos c] at e
        exact Or.inl e
      · rw [if_neg c] at e
        by_cases z : w (452 + 24 * x + 0) = p
        · rw [if_pos z] at e
          rw [e]
          exact Or.inr ⟨by omega, a, z⟩
        · rw [if_neg z] at e
          rw [e]
          exact ih (x + -1) (by omega) (by omega)
  unfold V_201
  by_cases c : 0 ≤ w 9
  · exact st _ _ (by omega) (by omega)
  · have e : ∀ n, LP_201_10 p n (w 9 - 1) w = -1 := fun n => by
      have s : ∀ R, ST_201_10 p R (w 9 - 1) w = -1 := fun R => by
        unfold ST_201_10
        rw [if_pos (by omega)]
      cases n with
      | zero => exact s _
      | succ n => exact s _
    exact Or.inl (e _)
theorem takeTick {d e : mD} {w : Row} (h : Syn d e) (hr : RelP 580 d w) (ht : RelT 580 d w) (hw : e 770 = w) (h8 : 0 ≤ w 8 ∧ w 8 ≤ 16) : FrC d (g_29 576 d) ∧ FrR e (g_199 769 1 e) ∧ ((v_29 576 d = 1 ∧ Syn (g_29 576 d) (g_199 769 1 e) ∧ g_29 576 d 576 6 = V_201 (v_199 769 1 e) w ∧ (0 ≤ v_199 769 1 e ∧ v_199 769 1 e < w 8) ∧ 0 ≤ V_201 (v_199 769 1 e) w ∧ V_201 (v_199 769 1 e) w < w 9) ∨ (v_29 576 d = 0 ∧ Fail (g_29 576 d) (g_199 769 1 e))) := by
  generalize hp : v_48 590 (v_56 577 d) d = p
  generalize hf : (if p = -1 then -1 else v_100 629 p d) = f
  have ev : v_29 576 d = if v_56 577 d = -1 then v_26 576 (mset d 576 6 f) else if f = -1 then 0 else v_26 576 (mset d 576 6 f) := by
    unfold v_29
    rw [show (576 : Int) + 1 = 577 by decide, show (576 : Int) + 4 + 10 = 590 by decide, show (576 : Int) + 4 + 49 = 629 by decide, hp, v56_c, v56_c]
    by_cases c : p = -1
    · rw [if_pos c] at hf
      rw [if_pos c, ← hf]
      rfl
    · rw [if_neg c] at hf
      rw [if_neg c, hf]
      rfl
  have eg : g_29 576 d = if v_56 577 d = -1 then g_26 576 (mset d 576 6 f) else if f = -1 then g_32 576 4 (mset d 576 6 f) else g_26 576 (mset d 576 6 f) := by
    unfold g_29
    rw [show (576 : Int) + 1 = 577 by decide, show (576 : Int) + 4 + 10 = 590 by decide, show (576 : Int) + 4 + 49 = 629 by decide, hp, v56_c, v56_c]
    by_cases c : p = -1
    · rw [if_pos c] at hf
      rw [if_pos c, ← hf]
      rfl
    · rw [if_neg c] at hf
      rw [if_neg c, hf]
  have h6 : Syn (mset d 576 6 f) e := h.c (by funext j; exact ms_a (by decide)) (by funext j; exact ms_a (by decide)) (by funext j; exact ms_a (by decide))
  have c6 : FrC d (mset d 576 6 f) := fun b x y => by funext j; exact ms_a x
  obtain ⟨n1, n2, n3, n4⟩ := takeName h6
  rw [v56_c] at n4
  have s2 : mset d 576 6 f 577 2 = d 577 2 := ms_a (by decide)
  rw [s2] at n3
  have w1 : g_198 769 e 770 = w := by rw [n2.1 770 (by decide)]; exact hw
  have er : v_183 769 (v_198 769 e) (g_198 769 e) = V_183 (v_198 769 e) w := by rw [m_v_183, w1]
  have el : ∀ x, v_201 769 x (g_198 769 e) = V_201 x w := fun x => by rw [m_v_201, w1]
  have gr : g_199 769 1 e = if V_183 (v_198 769 e) w = -1 then g_188 769 4 (d 577 2) (g_198 769 e) else if V_201 (V_183 (v_198 769 e) w) w = -1 then g_188 769 4 (d 577 2) (g_198 769 e) else g_198 769 e := by
    unfold g_199
    rw [er, n3, if_neg (by decide : ¬ (1 : Int) = 0), el]
  rcases n4 with ⟨o1, o2, o3, o4, o5⟩ | ⟨o1, o2, o3, o4⟩
  · have hne : ¬ v_56 577 d = -1 := by
      have := o1.1
      omega
    have pp : p = V_183 (v_198 769 e) w := by
      rw [← hp, o5]
      exact findP (s := 580) hr o1
    have lt : v_100 629 p d = V_201 p w := latest (s := 580) ht
    rw [← pp] at gr
    rw [if_neg hne] at ev eg
    have gr2 : g_199 769 1 e = if f = -1 then g_188 769 4 (d 577 2) (g_198 769 e) else g_198 769 e := by
      rw [gr, ← hf, lt]
      by_cases c : p = -1
      · rw [if_pos c, if_pos c, if_pos rfl]
      · rw [if_neg c, if_neg c]
    by_cases c : f = -1
    · rw [if_pos c] at ev eg gr2
      obtain ⟨b1, b2⟩ := flt188 (c := 4) (p := d 577 2) o3.2.1
      obtain ⟨c1, c2, c3⟩ := fail32 (c := 4) (d := mset d 576 6 f)
      rw [s2] at c2
      rw [eg, gr2]
      exact ⟨fun b x y => by rw [c3 b x y, c6 b x y], n2.trans b2, Or.inr ⟨ev, 4, d 577 2, c1, c2, b1⟩⟩
    · rw [if_neg c] at ev eg gr2
      have pne : ¬ p = -1 := fun y => c (by rw [← hf, if_pos y])
      rw [if_neg pne, lt] at hf
      have vr : v_199 769 1 e = p := by
        unfold v_199
        rw [er, ← pp, if_neg pne, if_neg (by decide : ¬ (1 : Int) = 0), el, hf, if_neg c, if_pos o3.2.1]
      have rg := V183_rng (m := v_198 769 e) (w := w) h8
      rw [← pp] at rg
      have rl := V201_rng (p := p) (w := w)
      rw [hf] at rl
      rw [eg, gr2, vr, hf]
      exact ⟨fun b x y => by rw [n1 b x y, c6 b x y], n2, Or.inl ⟨by rw [ev]; exact o2, o3, by rw [g26_6 h6 (by rw [v56_c]; exact hne), ms_e rfl rfl], by omega, by omega, by omega⟩⟩
  · rw [if_pos o1] at ev eg
    obtain ⟨c, p2, q1, q2, q3⟩ := o3
    have stay : ∀ x, g_188 769 4 x (g_198 769 e) = g_198 769 e := fun x => by
      unfold g_188
      rw [if_neg (by rw [q3.1]; decide)]
    have gr2 : g_199 769 1 e = g_198 769 e := by
      rw [gr, stay]
      split
      · rfl
      · split <;> rfl
    rw [eg, gr2]
    exact ⟨fun b x y => by rw [n1 b x y, c6 b x y], n2, Or.inr ⟨by rw [ev]; exact o2, c, p2, q1, q2, q3⟩⟩
