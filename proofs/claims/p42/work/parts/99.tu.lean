/-! ===== both readers side by side: an office by its name, the latest ticket of a person ===== -/
theorem takeOff {d e : mD} {w : Row} (h : Syn d e) (hr : RelO 580 d w) (hw : e 770 = w) (h7 : 0 ≤ w 7 ∧ w 7 ≤ 6) : FrC d (g_28 576 d) ∧ FrR e (g_200 769 e) ∧ ((v_28 576 d = 1 ∧ Syn (g_28 576 d) (g_200 769 e) ∧ g_28 576 d 576 6 = v_200 769 e ∧ 0 ≤ v_200 769 e ∧ v_200 769 e < w 7) ∨ (v_28 576 d = 0 ∧ Fail (g_28 576 d) (g_200 769 e))) := by
  generalize hf : v_36 582 (v_56 577 d) d = f
  have ev : v_28 576 d = if v_56 577 d = -1 then v_26 576 (mset d 576 6 f) else if f = -1 then 0 else v_26 576 (mset d 576 6 f) := by
    unfold v_28
    rw [show (576 : Int) + 1 = 577 by decide, show (576 : Int) + 4 + 2 = 582 by decide, hf, v56_c]
    rfl
  have eg : g_28 576 d = if v_56 577 d = -1 then g_26 576 (mset d 576 6 f) else if f = -1 then g_32 576 4 (mset d 576 6 f) else g_26 576 (mset d 576 6 f) := by
    unfold g_28
    rw [show (576 : Int) + 1 = 577 by decide, show (576 : Int) + 4 + 2 = 582 by decide, hf, v56_c]
  have h6 : Syn (mset d 576 6 f) e := h.c (by funext j; exact ms_a (by decide)) (by funext j; exact ms_a (by decide)) (by funext j; exact ms_a (by decide))
  have c6 : FrC d (mset d 576 6 f) := fun b x y => by funext j; exact ms_a x
  obtain ⟨n1, n2, n3, n4⟩ := takeName h6
  rw [v56_c] at n4
  have s2 : mset d 576 6 f 577 2 = d 577 2 := ms_a (by decide)
  rw [s2] at n3
  have w1 : g_198 769 e 770 = w := by rw [n2.1 770 (by decide)]; exact hw
  have er : v_184 769 (v_198 769 e) (g_198 769 e) = V_184 (v_198 769 e) w := by rw [m_v_184, w1]
  have gr : g_200 769 e = if V_184 (v_198 769 e) w = -1 then g_188 769 4 (d 577 2) (g_198 769 e) else g_198 769 e := by
    unfold g_200
    rw [er, n3]
  rcases n4 with ⟨o1, o2, o3, o4, o5⟩ | ⟨o1, o2, o3, o4⟩
  · have hne : ¬ v_56 577 d = -1 := by
      have := o1.1
      omega
    have ff : f = V_184 (v_198 769 e) w := by
      rw [← hf, o5]
      exact findO (s := 580) hr o1
    rw [if_neg hne] at ev eg
    by_cases c : f = -1
    · rw [if_pos c] at ev eg
      rw [if_pos (by rw [← ff]; exact c)] at gr
      obtain ⟨b1, b2⟩ := flt188 (c := 4) (p := d 577 2) o3.2.1
      obtain ⟨c1, c2, c3⟩ := fail32 (c := 4) (d := mset d 576 6 f)
      rw [s2] at c2
      rw [eg, gr]
      exact ⟨fun b x y => by rw [c3 b x y, c6 b x y], n2.trans b2, Or.inr ⟨ev, 4, d 577 2, c1, c2, b1⟩⟩
    · rw [if_neg c] at ev eg
      rw [if_neg (by rw [← ff]; exact c)] at gr
      have vr : v_200 769 e = f := by
        unfold v_200
        rw [er, ← ff, if_neg c, if_pos o3.2.1]
      have rg := V184_rng (m := v_198 769 e) (w := w) h7
      rw [← ff] at rg
      rw [eg, gr, vr]
      exact ⟨fun b x y => by rw [n1 b x y, c6 b x y], n2, Or.inl ⟨by rw [ev]; exact o2, o3, by rw [g26_6 h6 (by rw [v56_c]; exact hne), ms_e rfl rfl], by omega, by omega⟩⟩
  · rw [if_pos o1] at ev eg
    obtain ⟨c, p, q1, q2, q3⟩ := o3
    have stay : ∀ x, g_188 769 4 x (g_198 769 e) = g_198 769 e := fun x => by
      unfold g_188
      rw [if_neg (by rw [q3.1]; decide)]
    have gr2 : g_200 769 e = g_198 769 e := by
      rw [gr, stay]
      split <;> rfl
    rw [eg, gr2]
    exact ⟨fun b x y => by rw [n1 b x y, c6 b x y], n2, Or.inr ⟨by rw [ev]; exact o2, c, p, q1, q2, q3⟩⟩
-- the latest ticket
theorem lp100 {s p : Int} {d : mD} {w : Row} (hr : RelT s d w) : ∀ (n : Nat) (x : Int), x < w 9 → lp_100_7 (s + 49) p n x d = LP_201_10 p n x w := by
  have st : ∀ (r : Int → mD → Int) (R : Int → Row → Int) (x : Int), x < w 9 → (0 ≤ x → r (x + -1) d = R (x + -1) w) → st_100_7 (s + 49) p r x d = ST_201_10 p R x w := fun r R x a hr2 => by
    unfold st_100_7 ST_201_10
    by_cases c : x < 0
    · rw [if_pos c, if_pos c]
    · rw [if_neg c, if_neg c, show s + 49 + 1 = s + 50 by omega, (hr.2 x (by omega) a).1]
      by_cases z : w (452 + 24 * x + 0) = p
      · rw [if_pos z, if_pos z]
      · rw [if_neg z, if_neg z]
        exact hr2 (by omega)
  intro n
  induction n with
  | zero => intro x a; exact st _ _ x a (fun _ => rfl)
  | succ n ih => intro x a; exact st _ _ x a (fun _ => ih (x + -1) (by omega))
theorem latest {s p : Int} {d : mD} {w : Row} (hr : RelT s d w) : v_100 (s + 49) p d = V_201 p w := by
  unfold v_100 V_201
  rw [hr.1]
  exact lp100 hr _ _ (by omega)
theorem V201_rng {p : Int} {w : Row} : V_201 p w = -1 ∨ (0 ≤ V_201 p w ∧ V_201 p w < w 9 ∧ w (452 + 24 * V_201 p w + 0) = p) := by
  have st : ∀ (n : Nat) (x : Int), x < w 9 → x + 1 ≤ (n : Int) → LP_201_10 p n x w = -1 ∨ (0 ≤ LP_201_10 p n x w ∧ LP_201_10 p n x w < w 9 ∧ w (452 + 24 * LP_201_10 p n x w + 0) = p) := by
    intro n
    induction n with
    | zero =>
      intro x a b
      have e : LP_201_10 p 0 x w = -1 := by
        show ST_201_10 p _ x w = _
        unfold ST_201_10
        rw [if_pos (by omega)]
      exact Or.inl e
    | succ n ih =>
      intro x a b
      have e : LP_201_10 p (n + 1) x w = if x < 0 then -1 else if w (452 + 24 * x + 0) = p then x else LP_201_10 p n (x + -1) w := rfl
      by_cases c : x < 0
      · rw [if_pos c] at e
        exact Or.inl e
      · rw [if_neg c] at e
        by_cases z : w (452 + 24 * x + 0) = p
        · rw [if_pos z] at e
          rw [e]
          exact Or.inr ⟨by omega, a, z⟩
        · rw [if_neg z] at e
          rw [e]
          exact ih (x + -1) (by omega) (by omega)
  unfold V_201
  by_cases c : 0 ≤ w 9
  · exact st _ _ (by omega) (by omega)
  · have e : ∀ n, LP_201_10 p n (w 9 - 1) w = -1 := fun n => by
      have s : ∀ R, ST_201_10 p R (w 9 - 1) w = -1 := fun R => by
        unfold ST_201_10
        rw [if_pos (by omega)]
      cases n with
      | zero => exact s _
      | succ n => exact s _
    exact Or.inl (e _)
theorem takeTick {d e : mD} {w : Row} (h : Syn d e) (hr : RelP 580 d w) (ht : RelT 580 d w) (hw : e 770 = w) (h8 : 0 ≤ w 8 ∧ w 8 ≤ 16) : FrC d (g_29 576 d) ∧ FrR e (g_199 769 1 e) ∧ ((v_29 576 d = 1 ∧ Syn (g_29 576 d) (g_199 769 1 e) ∧ g_29 576 d 576 6 = V_201 (v_199 769 1 e) w ∧ (0 ≤ v_199 769 1 e ∧ v_199 769 1 e < w 8) ∧ 0 ≤ V_201 (v_199 769 1 e) w ∧ V_201 (v_199 769 1 e) w < w 9) ∨ (v_29 576 d = 0 ∧ Fail (g_29 576 d) (g_199 769 1 e))) := by
  generalize hp : v_48 590 (v_56 577 d) d = p
  generalize hf : (if p = -1 then -1 else v_100 629 p d) = f
  have ev : v_29 576 d = if v_56 577 d = -1 then v_26 576 (mset d 576 6 f) else if f = -1 then 0 else v_26 576 (mset d 576 6 f) := by
    unfold v_29
    rw [show (576 : Int) + 1 = 577 by decide, show (576 : Int) + 4 + 10 = 590 by decide, show (576 : Int) + 4 + 49 = 629 by decide, hp, v56_c, v56_c]
    by_cases c : p = -1
    · rw [if_pos c] at hf
      rw [if_pos c, ← hf]
      rfl
    · rw [if_neg c] at hf
      rw [if_neg c, hf]
      rfl
  have eg : g_29 576 d = if v_56 577 d = -1 then g_26 576 (mset d 576 6 f) else if f = -1 then g_32 576 4 (mset d 576 6 f) else g_26 576 (mset d 576 6 f) := by
    unfold g_29
    rw [show (576 : Int) + 1 = 577 by decide, show (576 : Int) + 4 + 10 = 590 by decide, show (576 : Int) + 4 + 49 = 629 by decide, hp, v56_c, v56_c]
    by_cases c : p = -1
    · rw [if_pos c] at hf
      rw [if_pos c, ← hf]
      rfl
    · rw [if_neg c] at hf
      rw [if_neg c, hf]
  have h6 : Syn (mset d 576 6 f) e := h.c (by funext j; exact ms_a (by decide)) (by funext j; exact ms_a (by decide)) (by funext j; exact ms_a (by decide))
  have c6 : FrC d (mset d 576 6 f) := fun b x y => by funext j; exact ms_a x
  obtain ⟨n1, n2, n3, n4⟩ := takeName h6
  rw [v56_c] at n4
  have s2 : mset d 576 6 f 577 2 = d 577 2 := ms_a (by decide)
  rw [s2] at n3
  have w1 : g_198 769 e 770 = w := by rw [n2.1 770 (by decide)]; exact hw
  have er : v_183 769 (v_198 769 e) (g_198 769 e) = V_183 (v_198 769 e) w := by rw [m_v_183, w1]
  have el : ∀ x, v_201 769 x (g_198 769 e) = V_201 x w := fun x => by rw [m_v_201, w1]
  have gr : g_199 769 1 e = if V_183 (v_198 769 e) w = -1 then g_188 769 4 (d 577 2) (g_198 769 e) else if V_201 (V_183 (v_198 769 e) w) w = -1 then g_188 769 4 (d 577 2) (g_198 769 e) else g_198 769 e := by
    unfold g_199
    rw [er, n3, if_neg (by decide : ¬ (1 : Int) = 0), el]
  rcases n4 with ⟨o1, o2, o3, o4, o5⟩ | ⟨o1, o2, o3, o4⟩
  · have hne : ¬ v_56 577 d = -1 := by
      have := o1.1
      omega
    have pp : p = V_183 (v_198 769 e) w := by
      rw [← hp, o5]
      exact findP (s := 580) hr o1
    have lt : v_100 629 p d = V_201 p w := latest (s := 580) ht
    rw [← pp] at gr
    rw [if_neg hne] at ev eg
    have gr2 : g_199 769 1 e = if f = -1 then g_188 769 4 (d 577 2) (g_198 769 e) else g_198 769 e := by
      rw [gr, ← hf, lt]
      by_cases c : p = -1
      · rw [if_pos c, if_pos c, if_pos rfl]
      · rw [if_neg c, if_neg c]
    by_cases c : f = -1
    · rw [if_pos c] at ev eg gr2
      obtain ⟨b1, b2⟩ := flt188 (c := 4) (p := d 577 2) o3.2.1
      obtain ⟨c1, c2, c3⟩ := fail32 (c := 4) (d := mset d 576 6 f)
      rw [s2] at c2
      rw [eg, gr2]
      exact ⟨fun b x y => by rw [c3 b x y, c6 b x y], n2.trans b2, Or.inr ⟨ev, 4, d 577 2, c1, c2, b1⟩⟩
    · rw [if_neg c] at ev eg gr2
      have pne : ¬ p = -1 := fun y => c (by rw [← hf, if_pos y])
      rw [if_neg pne, lt] at hf
      have vr : v_199 769 1 e = p := by
        unfold v_199
        rw [er, ← pp, if_neg pne, if_neg (by decide : ¬ (1 : Int) = 0), el, hf, if_neg c, if_pos o3.2.1]
      have rg := V183_rng (m := v_198 769 e) (w := w) h8
      rw [← pp] at rg
      have rl := V201_rng (p := p) (w := w)
      rw [hf] at rl
      rw [eg, gr2, vr, hf]
      exact ⟨fun b x y => by rw [n1 b x y, c6 b x y], n2, Or.inl ⟨by rw [ev]; exact o2, o3, by rw [g26_6 h6 (by rw [v56_c]; exact hne), ms_e rfl rfl], by omega, by omega, by omega⟩⟩
  · rw [if_pos o1] at ev eg
    obtain ⟨c, p2, q1, q2, q3⟩ := o3
    have stay : ∀ x, g_188 769 4 x (g_198 769 e) = g_198 769 e := fun x => by
      unfold g_188
      rw [if_neg (by rw [q3.1]; decide)]
    have gr2 : g_199 769 1 e = g_198 769 e := by
      rw [gr, stay]
      split
      · rfl
      · split <;> rfl
    rw [eg, gr2]
    exact ⟨fun b x y => by rw [n1 b x y, c6 b x y], n2, Or.inr ⟨by rw [ev]; exact o2, c, p2, q1, q2, q3⟩⟩
/-! ===== both readers side by side: the rest of an office, the rest of a person ===== -/
theorem bad197 {lo hi : Int} {e : mD} (h : ¬ e 769 13 = 0) : g_197 769 lo hi e = e := by
  unfold g_197 f_197
  rw [if_neg h]
theorem bad195 {e : mD} (h : ¬ e 769 13 = 0) : g_195 769 e = e := by
  unfold g_195
  rw [if_neg h]
theorem BadR.ne {c p : Int} {e : mD} (h : BadR c p e) : ¬ e 769 13 = 0 := by
  rw [h.1]
  decide
theorem Fail.ne {d e : mD} (h : Fail d e) : ¬ e 769 13 = 0 := by
  obtain ⟨c, p, -, -, h⟩ := h
  exact h.ne
theorem FrC.refl {d : mD} : FrC d d := fun _ _ _ => rfl
theorem FrC.trans {a b c : mD} (h : FrC a b) (g : FrC b c) : FrC a c := fun k x y => (g k x y).trans (h k x y)
theorem v2501 {lo hi : Int} {d : mD} : v_25 576 lo hi d = 0 ∨ v_25 576 lo hi d = 1 := by
  unfold v_25
  split
  · split
    · exact Or.inl rfl
    · split
      · exact Or.inl rfl
      · exact Or.inr rfl
  · exact Or.inl rfl
theorem officeTail {d e : mD} (h : Syn d e) (X : mD) : ∃ F, (if v_25 576 1 4 d = 0 then g_25 576 1 4 d else if v_25 576 1 6 (g_25 576 1 4 d) = 0 then g_25 576 1 6 (g_25 576 1 4 d) else if v_25 576 1 20 (g_25 576 1 6 (g_25 576 1 4 d)) = 0 then g_25 576 1 20 (g_25 576 1 6 (g_25 576 1 4 d)) else if v_31 576 (g_25 576 1 20 (g_25 576 1 6 (g_25 576 1 4 d))) = 0 then g_31 576 (g_25 576 1 20 (g_25 576 1 6 (g_25 576 1 4 d))) else X) = F ∧ FrR e (g_195 769 (g_197 769 1 20 (g_197 769 1 6 (g_197 769 1 4 e)))) ∧
    ((F = X ∧ (if v_25 576 1 4 d = 0 then 0 else if v_25 576 1 6 (g_25 576 1 4 d) = 0 then 0 else if v_25 576 1 20 (g_25 576 1 6 (g_25 576 1 4 d)) = 0 then 0 else if v_31 576 (g_25 576 1 20 (g_25 576 1 6 (g_25 576 1 4 d))) = 0 then 0 else 1) = (1 : Int) ∧ Syn (g_31 576 (g_25 576 1 20 (g_25 576 1 6 (g_25 576 1 4 d)))) (g_195 769 (g_197 769 1 20 (g_197 769 1 6 (g_197 769 1 4 e)))) ∧ FrC d (g_31 576 (g_25 576 1 20 (g_25 576 1 6 (g_25 576 1 4 d)))) ∧ (g_25 576 1 4 d 576 4 = v_197 769 1 4 e ∧ 1 ≤ v_197 769 1 4 e ∧ v_197 769 1 4 e ≤ 4) ∧ (g_25 576 1 6 (g_25 576 1 4 d) 576 4 = v_197 769 1 6 (g_197 769 1 4 e) ∧ 1 ≤ v_197 769 1 6 (g_197 769 1 4 e) ∧ v_197 769 1 6 (g_197 769 1 4 e) ≤ 6) ∧ (g_25 576 1 20 (g_25 576 1 6 (g_25 576 1 4 d)) 576 4 = v_197 769 1 20 (g_197 769 1 6 (g_197 769 1 4 e)) ∧ 1 ≤ v_197 769 1 20 (g_197 769 1 6 (g_197 769 1 4 e)) ∧ v_197 769 1 20 (g_197 769 1 6 (g_197 769 1 4 e)) ≤ 20))
    ∨ ((if v_25 576 1 4 d = 0 then 0 else if v_25 576 1 6 (g_25 576 1 4 d) = 0 then 0 else if v_25 576 1 20 (g_25 576 1 6 (g_25 576 1 4 d)) = 0 then 0 else if v_31 576 (g_25 576 1 20 (g_25 576 1 6 (g_25 576 1 4 d))) = 0 then 0 else 1) = (0 : Int) ∧ FrC d F ∧ Fail F (g_195 769 (g_197 769 1 20 (g_197 769 1 6 (g_197 769 1 4 e)))))) := by
  refine ⟨_, rfl, ?_⟩
  obtain ⟨c1, r1, o1⟩ := takeNum (lo := 1) (hi := 4) h
  rcases o1 with ⟨v1, s1, m1, l1, u1⟩ | ⟨v1, f1, -⟩
  · obtain ⟨c2, r2, o2⟩ := takeNum (lo := 1) (hi := 6) s1
    rcases o2 with ⟨v2, s2, m2, l2, u2⟩ | ⟨v2, f2, -⟩
    · obtain ⟨c3, r3, o3⟩ := takeNum (lo := 1) (hi := 20) s2
      rcases o3 with ⟨v3, s3, m3, l3, u3⟩ | ⟨v3, f3, -⟩
      · obtain ⟨-, -, c4, r4, o4, -⟩ := takeSemi s3
        have fr := ((r1.trans r2).trans r3).trans r4
        have fc := ((c1.trans c2).trans c3).trans c4
        rcases o4 with ⟨v4, s4⟩ | ⟨v4, f4⟩
        · simp only [v1, v2, v3, v4, if_neg (by decide : ¬ (1 : Int) = 0)]
          exact ⟨fr, Or.inl ⟨trivial, trivial, s4, fc, ⟨m1, l1, u1⟩, ⟨m2, l2, u2⟩, m3, l3, u3⟩⟩
        · simp only [v1, v2, v3, v4, if_neg (by decide : ¬ (1 : Int) = 0), if_true]
          exact ⟨fr, Or.inr ⟨trivial, fc, f4⟩⟩
      · have b := bad195 f3.ne
        rw [b]
        simp only [v1, v2, v3, if_neg (by decide : ¬ (1 : Int) = 0), if_true]
        exact ⟨(r1.trans r2).trans r3, Or.inr ⟨trivial, (c1.trans c2).trans c3, f3⟩⟩
    · have b := bad197 (lo := 1) (hi := 20) f2.ne
      rw [b, bad195 f2.ne]
      simp only [v1, v2, if_neg (by decide : ¬ (1 : Int) = 0), if_true]
      exact ⟨r1.trans r2, Or.inr ⟨trivial, c1.trans c2, f2⟩⟩
  · rw [bad197 (lo := 1) (hi := 6) f1.ne, bad197 (lo := 1) (hi := 20) f1.ne, bad195 f1.ne]
    simp only [v1, if_true]
    exact ⟨r1, Or.inr ⟨trivial, c1, f1⟩⟩
/-! ===== an office is read ===== -/
theorem f35 {c x y z : Int} {d : mD} : ∀ b, ¬ (582 ≤ b ∧ b ≤ 588) → g_35 582 c x y z d b = d b := fun b hb => by
  unfold g_35
  split
  · funext j
    simp (disch := omega) only [ms_a]
  · rfl
theorem Syn.r {d e e' : mD} (h : Syn d e) (e1 : e' 769 = e 769) (e2 : e' 776 = e 776) : Syn d e' := by
  unfold Syn TX
  rw [e1, e2]
  exact h
theorem OKR.frc {d d' : mD} {w : Row} (h : OKR 580 d w) (hc : FrC d d') : OKR 580 d' w := h.fr (fun b x y => hc b (by omega) (by omega))
def LdFr (d0 d e0 e : mD) : Prop := (∀ b, (b < 576 ∨ 642 < b ∨ b = 578 ∨ b = 579) → d b = d0 b) ∧ (∀ k, ¬ k = 769 → ¬ k = 770 → e k = e0 k) ∧ ∀ j, j < 10 ∨ 16 < j → e 769 j = e0 769 j
theorem LdFr.of {d0 d e0 e : mD} (h : FrC d0 d) (g : FrR e0 e) : LdFr d0 d e0 e := ⟨fun b hb => h b (by omega) (by omega), fun k x _ => g.1 k x, g.2⟩
theorem readOff {d0 e : mD} (h : Syn (g_52 577 d0) e) (hc : FrC d0 (g_52 577 d0)) (hk : OKR 580 d0 (e 770)) (hz : GZ (e 770)) (h9 : e 770 9 = 0) (h10 : e 770 10 = 0) (h7 : e 770 7 < 6) : LdFr d0 (g_16 576 d0) e (g_202 769 e) ∧ ((v_16 576 d0 = 1 ∧ Syn (g_16 576 d0) (g_202 769 e) ∧ OKR 580 (g_16 576 d0) (g_202 769 e 770) ∧ GZ (g_202 769 e 770) ∧ g_202 769 e 770 7 = e 770 7 + 1 ∧ g_202 769 e 770 8 = e 770 8 ∧ g_202 769 e 770 9 = 0 ∧ g_202 769 e 770 10 = 0) ∨ (v_16 576 d0 = 0 ∧ Fail (g_16 576 d0) (g_202 769 e))) := by
  have o7 : d0 582 0 = e 770 7 := hk.2.2.2.2.2.1.1
  have hk1 := hk.frc hc
  have rO := hk1.2.2.2.2.2.1
  generalize hw : e 770 = w at *
  unfold v_16 g_16
  rw [show (576 : Int) + 1 = 577 by decide, show (576 : Int) + 4 + 2 = 582 by decide, o7, if_pos h7, if_pos h7]
  generalize g_52 577 d0 = d at *
  obtain ⟨n1, n2, n3, n4⟩ := takeName h
  have w1 : g_198 769 e 770 = w := by rw [n2.1 770 (by decide)]; exact hw
  have er : v_184 769 (v_198 769 e) (g_198 769 e) = V_184 (v_198 769 e) w := by rw [m_v_184, w1]
  rcases n4 with ⟨o1, o2, o3, o4, o5⟩ | ⟨o1, o2, o3, o4⟩
  · have hne : ¬ v_56 577 d = -1 := by
      have := o1.1
      omega
    have ff : v_36 582 (v_56 577 d) d = V_184 (v_198 769 e) w := by
      rw [o5]
      exact findO (s := 580) rO o1
    have n26 : ¬ v_26 576 d = 0 := by rw [o2]; decide
    rw [if_neg hne, if_neg hne, ff]
    by_cases c : V_184 (v_198 769 e) w = -1
    · rw [if_pos c, if_pos c, if_neg n26, if_neg n26]
      obtain ⟨F, t1, t2, t3⟩ := officeTail o3 (g_35 582 (g_26 576 d 576 5) (g_25 576 1 4 (g_26 576 d) 576 4) (g_25 576 1 6 (g_25 576 1 4 (g_26 576 d)) 576 4) (g_25 576 1 20 (g_25 576 1 6 (g_25 576 1 4 (g_26 576 d))) 576 4) (g_31 576 (g_25 576 1 20 (g_25 576 1 6 (g_25 576 1 4 (g_26 576 d))))))
      rw [t1]
      have gr : g_202 769 e = if g_195 769 (g_197 769 1 20 (g_197 769 1 6 (g_197 769 1 4 (g_198 769 e)))) 769 13 = 0 then g_181 769 (v_198 769 e) (v_197 769 1 4 (g_198 769 e)) (v_197 769 1 6 (g_197 769 1 4 (g_198 769 e))) (v_197 769 1 20 (g_197 769 1 6 (g_197 769 1 4 (g_198 769 e)))) (g_195 769 (g_197 769 1 20 (g_197 769 1 6 (g_197 769 1 4 (g_198 769 e))))) else g_195 769 (g_197 769 1 20 (g_197 769 1 6 (g_197 769 1 4 (g_198 769 e)))) := by
        unfold g_202
        rw [if_pos o3.2.1, er, if_pos c]
      rw [gr]
      rcases t3 with ⟨f1, f2, f3, f4, ⟨m1, m2, m3⟩, ⟨m4, m5, m6⟩, m7, m8, m9⟩ | ⟨f1, f2, f3⟩
      · rw [if_pos f3.2.1, f2, f1, m1, m4, m7, o4]
        generalize v_197 769 1 4 (g_198 769 e) = x1 at *
        generalize v_197 769 1 6 (g_197 769 1 4 (g_198 769 e)) = x2 at *
        generalize v_197 769 1 20 (g_197 769 1 6 (g_197 769 1 4 (g_198 769 e))) = x3 at *
        generalize g_195 769 (g_197 769 1 20 (g_197 769 1 6 (g_197 769 1 4 (g_198 769 e)))) = E at *
        generalize g_31 576 (g_25 576 1 20 (g_25 576 1 6 (g_25 576 1 4 (g_26 576 d)))) = D at *
        have hD := (hk1.frc n1).frc f4
        have wE : E 770 = w := by rw [t2.1 770 (by decide)]; exact w1
        obtain ⟨a1, a2, a3, a4, a5⟩ := addO (c := v_56 577 d) (a1 := x1) (a2 := x2) (a3 := x3) hD.1 hz hD.2.2.2.2 h7 h9 h10 o1 ⟨m2, m3⟩ ⟨m5, m6⟩ ⟨m8, m9⟩
        have xr := addOX hD.1 a5
        obtain ⟨x4, x5⟩ := xr.1 hD.2.1 hD.2.2.1
        rw [m_g_181, wE, o5]
        have r7 : ∀ u, rset E u 770 = u := fun u => by unfold rset; simp
        have rn : ∀ u b, ¬ b = 770 → rset E u b = E b := fun u b hb => by unfold rset; simp [hb]
        refine ⟨⟨fun b hb => ?_, fun k x y => ?_, fun j hj => ?_⟩, Or.inl ⟨rfl, ?_, ?_, ?_, ?_, ?_, ?_, ?_⟩⟩
        · rw [f35 b (by omega), f4 b (by omega) (by omega), n1 b (by omega) (by omega), hc b (by omega) (by omega)]
        · rw [rn _ k y, t2.1 k x, n2.1 k x]
        · rw [rn _ 769 (by decide), t2.2 j hj, n2.2 j hj]
        · exact (f3.c (f35 577 (by decide)) (f35 578 (by decide)) (f35 579 (by decide))).r (rn _ 769 (by decide)) (rn _ 776 (by decide))
        · rw [r7]
          exact ⟨a1, x4, x5, by rw [xr.2]; exact hD.2.2.2.1, a3⟩
        · rw [r7]; exact a2
        · rw [r7]; exact a4
        · rw [r7]; exact a5 8 (by decide) (by decide)
        · rw [r7, a5 9 (by decide) (by decide)]; exact h9
        · rw [r7, a5 10 (by decide) (by decide)]; exact h10
      · rw [if_neg f3.ne, f1]
        exact ⟨LdFr.of ((hc.trans n1).trans f2) (n2.trans t2), Or.inr ⟨rfl, f3⟩⟩
    · rw [if_neg c, if_neg c]
      obtain ⟨b1, b2⟩ := flt188 (c := 3) (p := d 577 2) o3.2.1
      obtain ⟨c1, c2, c3⟩ := fail32 (c := 3) (d := d)
      have gr : g_202 769 e = g_188 769 3 (d 577 2) (g_198 769 e) := by
        unfold g_202
        rw [if_pos o3.2.1, er, if_neg c, n3, bad197 b1.ne, bad197 b1.ne, bad197 b1.ne, bad195 b1.ne, if_neg b1.ne]
      rw [gr]
      exact ⟨LdFr.of (hc.trans c3) (n2.trans b2), Or.inr ⟨rfl, 3, d 577 2, c1, c2, b1⟩⟩
  · rw [if_pos o1, if_pos o1, if_pos o2, if_pos o2]
    have gr : g_202 769 e = g_198 769 e := by
      unfold g_202
      rw [if_neg o3.ne, bad197 o3.ne, bad197 o3.ne, bad197 o3.ne, bad195 o3.ne, if_neg o3.ne]
    rw [gr]
    exact ⟨LdFr.of (hc.trans n1) n2, Or.inr ⟨rfl, o3⟩⟩
/-! ===== a person is read ===== -/
theorem f47 {c : Int} {d : mD} (h0 : 0 ≤ d 590 0) : ∀ b, (b < 590 ∨ 642 < b) → g_47 590 c d b = d b := fun b hb => by
  unfold g_47
  split
  · have eh : g_8 (590 + 6 + (1 + 2 * d 590 0)) = fun e => mfl e (598 + 2 * d 590 0) 0 16 := by
      funext e
      unfold g_8 g_300
      rw [show 590 + 6 + (1 + 2 * d 590 0) + 1 = 598 + 2 * d 590 0 by omega]
    rw [eh]
    funext j
    simp (disch := omega) only [ms_a, fl_n]
  · rfl
theorem personTail {d e : mD} (h : Syn d e) : FrR e (g_195 769 e) ∧ ((v_31 576 d = 1 ∧ Syn (g_31 576 d) (g_195 769 e) ∧ FrC d (g_31 576 d)) ∨ (v_31 576 d = 0 ∧ FrC d (g_31 576 d) ∧ Fail (g_31 576 d) (g_195 769 e))) := by
  obtain ⟨-, -, c4, r4, o4, -⟩ := takeSemi h
  rcases o4 with ⟨v4, s4⟩ | ⟨v4, f4⟩
  · exact ⟨r4, Or.inl ⟨v4, s4, c4⟩⟩
  · exact ⟨r4, Or.inr ⟨v4, c4, f4⟩⟩
theorem readPer {d0 e : mD} (h : Syn (g_52 577 d0) e) (hc : FrC d0 (g_52 577 d0)) (hk : OKR 580 d0 (e 770)) (h8 : e 770 8 < 16) : LdFr d0 (g_18 576 d0) e (g_203 769 e) ∧ ((v_18 576 d0 = 1 ∧ Syn (g_18 576 d0) (g_203 769 e) ∧ OKR 580 (g_18 576 d0) (g_203 769 e 770) ∧ g_203 769 e 770 8 = e 770 8 + 1 ∧ ∀ i, ¬ i = 8 → ¬ (420 ≤ i ∧ i < 452) → g_203 769 e 770 i = e 770 i) ∨ (v_18 576 d0 = 0 ∧ Fail (g_18 576 d0) (g_203 769 e))) := by
  have o8 : d0 590 0 = e 770 8 := hk.2.2.2.2.2.2.2.1.1
  have hk1 := hk.frc hc
  have rP := hk1.2.2.2.2.2.2.2.1
  have n8 := hk.1.1.2.1
  generalize hw : e 770 = w at *
  unfold v_18 g_18
  rw [show (576 : Int) + 1 = 577 by decide, show (576 : Int) + 4 + 10 = 590 by decide, o8, if_pos h8, if_pos h8]
  generalize g_52 577 d0 = d at *
  obtain ⟨n1, n2, n3, n4⟩ := takeName h
  have w1 : g_198 769 e 770 = w := by rw [n2.1 770 (by decide)]; exact hw
  have er : v_183 769 (v_198 769 e) (g_198 769 e) = V_183 (v_198 769 e) w := by rw [m_v_183, w1]
  rcases n4 with ⟨o1, o2, o3, o4, o5⟩ | ⟨o1, o2, o3, o4⟩
  · have hne : ¬ v_56 577 d = -1 := by
      have := o1.1
      omega
    have ff : v_48 590 (v_56 577 d) d = V_183 (v_198 769 e) w := by
      rw [o5]
      exact findP (s := 580) rP o1
    have n26 : ¬ v_26 576 d = 0 := by rw [o2]; decide
    rw [if_neg hne, if_neg hne, ff]
    by_cases c : V_183 (v_198 769 e) w = -1
    · rw [if_pos c, if_pos c, if_neg n26, if_neg n26]
      obtain ⟨t2, t3⟩ := personTail o3
      have gr : g_203 769 e = if g_195 769 (g_198 769 e) 769 13 = 0 then g_182 769 (v_198 769 e) (g_195 769 (g_198 769 e)) else g_195 769 (g_198 769 e) := by
        unfold g_203
        rw [if_pos o3.2.1, er, if_pos c]
      rw [gr]
      rcases t3 with ⟨f1, f3, f4⟩ | ⟨f1, f4, f3⟩
      · have n31 : ¬ v_31 576 (g_26 576 d) = 0 := by rw [f1]; decide
        rw [if_pos f3.2.1, if_neg n31, if_neg n31, o4]
        generalize g_195 769 (g_198 769 e) = E at *
        generalize g_31 576 (g_26 576 d) = D at *
        have hD := (hk1.frc n1).frc f4
        have wE : E 770 = w := by rw [t2.1 770 (by decide)]; exact w1
        have D0 : D 590 0 = w 8 := hD.2.2.2.2.2.2.2.1.1
        obtain ⟨a1, a2, a3, a4, a5⟩ := addP (c := v_56 577 d) hD.1 hD.2.1 hD.2.2.2.2 h8 o1
        have gp := addPX (c := nm (v_56 577 d)) hD.1 h8 hD.2.2.1
        have fr := f47 (c := v_56 577 d) (d := D) (by omega)
        rw [m_g_182, wE, o5]
        have r7 : ∀ u, rset E u 770 = u := fun u => rset_at E u
        have rn : ∀ u b, ¬ b = 770 → rset E u b = E b := fun u b hb => rset_ne hb
        refine ⟨⟨fun b hb => ?_, fun k x y => ?_, fun j hj => ?_⟩, Or.inl ⟨rfl, ?_, ?_, ?_, ?_⟩⟩
        · rw [fr b (by omega), f4 b (by omega) (by omega), n1 b (by omega) (by omega), hc b (by omega) (by omega)]
        · rw [rn _ k y, t2.1 k x, n2.1 k x]
        · rw [rn _ 769 (by decide), t2.2 j hj, n2.2 j hj]
        · exact (f3.c (fr 577 (by decide)) (fr 578 (by decide)) (fr 579 (by decide))).r (rn _ 769 (by decide)) (rn _ 776 (by decide))
        · rw [r7]
          exact ⟨a1, a2, gp, by rw [a5 0 (by decide) (by decide)]; exact hD.2.2.2.1, a3⟩
        · rw [r7]; exact a4
        · intro i x y
          rw [r7]
          exact a5 i x y
      · rw [if_neg f3.ne, if_pos f1, if_pos f1]
        exact ⟨LdFr.of ((hc.trans n1).trans f4) (n2.trans t2), Or.inr ⟨rfl, f3⟩⟩
    · rw [if_neg c, if_neg c]
      obtain ⟨b1, b2⟩ := flt188 (c := 3) (p := d 577 2) o3.2.1
      obtain ⟨c1, c2, c3⟩ := fail32 (c := 3) (d := d)
      have gr : g_203 769 e = g_188 769 3 (d 577 2) (g_198 769 e) := by
        unfold g_203
        rw [if_pos o3.2.1, er, if_neg c, n3, bad195 b1.ne, if_neg b1.ne]
      rw [gr]
      exact ⟨LdFr.of (hc.trans c3) (n2.trans b2), Or.inr ⟨rfl, 3, d 577 2, c1, c2, b1⟩⟩
  · rw [if_pos o1, if_pos o1, if_pos o2, if_pos o2]
    have gr : g_203 769 e = g_198 769 e := by
      unfold g_203
      rw [if_neg o3.ne, bad195 o3.ne, if_neg o3.ne]
    rw [gr]
    exact ⟨LdFr.of (hc.trans n1) n2, Or.inr ⟨rfl, o3⟩⟩
/-! ===== both readers side by side: the end of a deed ===== -/
theorem Syn.bl {d e : mD} (h : Syn d e) : Syn d (g_189 769 e) ∧ FrR e (g_189 769 e) ∧ g_189 769 e 769 10 = d 577 2 := by
  obtain ⟨tx, b13, bt, bl, tk⟩ := h
  obtain ⟨a, e1, p1, p2, p3, p4, p5⟩ := bl189 tx bt.1 bt.2
  have ea : a = d 577 2 := p2.uni bl
  rw [ea] at p5
  have f1 : FrR e e1 := ⟨p3, fun j hj => p4 j (by omega)⟩
  have b0 := bl.1
  rw [p1]
  refine ⟨⟨tx.fr (p4 9 (by decide)) (p3 776 (by decide)), by rw [p4 13 (by decide)]; exact b13, ?_, ?_, tk⟩, f1, p5⟩
  · rw [p5]
    exact ⟨by omega, bl.2.1⟩
  · rw [p5]
    exact bl.self
theorem semi192 {d e : mD} (h : Syn d e) : v_192 769 59 e = v_30 576 d := by
  obtain ⟨tx, b13, bt, bl, tk⟩ := id h
  obtain ⟨-, f1, f2⟩ := h.bl
  have b0 := bl.1
  have vr : v_192 769 59 e = if d 577 2 < d 578 1 then (if e 776 (d 577 2) = 59 then 1 else 0) else 0 := by
    unfold v_192
    rw [f2, tx.2.1, show (769 : Int) + 7 = 776 by decide]
  have ev : v_30 576 d = if d 577 1 = 2 then 1 else 0 := by
    unfold v_30 v_32
    rw [show (576 : Int) + 1 = 577 by decide, if_pos rfl]
  rw [vr, ev]
  rcases tk with ⟨a1, a2, a3⟩ | ⟨a1, a2, a3, a4⟩ | ⟨a1, a2, a3, a4⟩ | ⟨a1, a2, a3, a4⟩ | ⟨a1, a2, a3, a4, a5, a6⟩
  · rw [if_neg (by omega), if_neg (by omega)]
  · have g := tx.2.2 (d 577 2) (by omega) a1
    unfold isLe at a2
    rw [if_pos a1, if_neg (by omega), if_neg (by omega)]
  · have g := tx.2.2 (d 577 2) (by omega) a1
    unfold isDi at a2
    rw [if_pos a1, if_neg (by omega), if_neg (by omega)]
  · have g := tx.2.2 (d 577 2) (by omega) a1
    rw [if_pos a1, if_pos (by omega), if_pos a3]
  · have g := tx.2.2 (d 577 2) (by omega) a1
    rw [if_pos a1, if_neg (by omega), if_neg (by omega)]
theorem deedEnd {d e : mD} {x : Int} (h : Syn d e) : FrR e (g_196 769 x e) ∧ ((v_30 576 d = 0 ∧ v_196 769 x e = 0 ∧ FrC d (g_30 576 d) ∧ Fail (g_30 576 d) (g_196 769 x e)) ∨ (v_30 576 d = 1 ∧ g_30 576 d = d ∧ x = 0 ∧ v_196 769 x e = 0 ∧ FrC d (g_32 576 6 d) ∧ Fail (g_32 576 6 d) (g_196 769 x e)) ∨ (v_30 576 d = 1 ∧ g_30 576 d = d ∧ ¬ x = 0 ∧ v_196 769 x e = 1 ∧ g_196 769 x e = g_195 769 (g_189 769 e) ∧ Syn d (g_189 769 e) ∧ (g_195 769 (g_189 769 e)) 769 13 = 0)) := by
  obtain ⟨s1, s2, s3⟩ := h.bl
  obtain ⟨z1, -, z3, z4, z5, z6, z7, z8⟩ := takeSemi s1
  have h13 := h.2.1
  have e192 : g_192 769 59 e = g_189 769 e := rfl
  have vs := semi192 h
  have gr : g_196 769 x e = if v_30 576 d = 0 then g_195 769 (g_189 769 e) else if x = 0 then g_195 769 (g_188 769 6 (d 577 2) (g_189 769 e)) else g_195 769 (g_189 769 e) := by
    unfold g_196
    rw [if_pos h13, vs, e192, s3]
  have vr : v_196 769 x e = if v_30 576 d = 0 then (if g_195 769 (g_189 769 e) 769 13 = 0 then 1 else 0) else if x = 0 then (if g_195 769 (g_188 769 6 (d 577 2) (g_189 769 e)) 769 13 = 0 then 1 else 0) else if g_195 769 (g_189 769 e) 769 13 = 0 then 1 else 0 := by
    unfold v_196
    rw [if_pos h13, vs, e192, s3]
  rcases z1 with c | c
  · rw [if_pos c] at gr vr
    rcases z5 with ⟨y1, -⟩ | ⟨y1, y2⟩
    · omega
    · rw [if_neg y2.ne] at vr
      rw [gr]
      refine ⟨s2.trans z4, Or.inl ⟨c, vr, ?_, ?_⟩⟩
      · rw [← z8 c]; exact z3
      · rw [← z8 c]; exact y2
  · have c1 : ¬ v_30 576 d = 0 := by omega
    rw [if_neg c1] at gr vr
    by_cases q : x = 0
    · rw [if_pos q] at gr vr
      obtain ⟨b1, b2⟩ := flt188 (c := 6) (p := d 577 2) s1.2.1
      obtain ⟨k1, k2, k3⟩ := fail32 (c := 6) (d := d)
      rw [bad195 b1.ne] at gr vr
      rw [if_neg b1.ne] at vr
      rw [gr]
      exact ⟨s2.trans b2, Or.inr (Or.inl ⟨c, z7 c, q, vr, k3, 6, d 577 2, k1, k2, b1⟩)⟩
    · rw [if_neg q] at gr vr
      rcases z5 with ⟨y1, y2⟩ | ⟨y1, -⟩
      · rw [if_pos y2.2.1] at vr
        rw [gr]
        exact ⟨s2.trans z4, Or.inr (Or.inr ⟨c, z7 c, q, vr, rfl, s1, y2.2.1⟩)⟩
      · omega
/-! ===== a join is read ===== -/
theorem f61 {p o : Int} {d : mD} : ∀ b, (b < 580 ∨ 642 < b) → g_61 580 p o d b = d b := fun b hb => by
  have f96 : ∀ b, (b < 580 ∨ 642 < b) → g_96 629 p o (d 580 2) d b = d b := fun b hb => by
    unfold g_96
    split
    · funext j
      simp (disch := omega) only [ms_a]
    · rfl
  have e588 : g_96 629 p o (d 580 2) d 588 o = d 588 o := by
    unfold g_96
    split
    · simp (disch := omega) only [ms_a]
    · rfl
  unfold g_61
  rw [show (580 : Int) + 49 = 629 by decide, show (580 : Int) + 2 = 582 by decide, show (582 : Int) + 6 = 588 by decide, ← f96 b hb]
  unfold g_40
  rw [show (582 : Int) + 6 = 588 by decide, e588]
  split
  · rfl
  · split
    · rfl
    · split
      · exact (lp40 (x0 := 582) (o := o) (p := d 588 o) (t := d 629 0) (d 588 o).toNat (d 588 o) (g_96 629 p o (d 580 2) d) (by omega) (by omega)).1 b (by omega) (by omega)
      · rfl
def rJoinX (e : mD) : Int := if g_200 769 (g_199 769 0 e) 769 13 = 0 then (if v_225 769 (v_199 769 0 e) (v_200 769 (g_199 769 0 e)) (g_200 769 (g_199 769 0 e)) = 0 then 0 else 1) else 0
def rJoin (e : mD) : mD := if v_196 769 (rJoinX e) (g_200 769 (g_199 769 0 e)) = 0 then g_196 769 (rJoinX e) (g_200 769 (g_199 769 0 e)) else g_226 769 (v_199 769 0 e) (v_200 769 (g_199 769 0 e)) (g_196 769 (rJoinX e) (g_200 769 (g_199 769 0 e)))
theorem bad198 {e : mD} (h : ¬ e 769 13 = 0) : g_198 769 e = e := by
  unfold g_198
  rw [if_neg h]
theorem bad188 {c p : Int} {e : mD} (h : ¬ e 769 13 = 0) : g_188 769 c p e = e := by
  unfold g_188
  rw [if_neg h]
theorem bad200 {e : mD} (h : ¬ e 769 13 = 0) : g_200 769 e = e := by
  unfold g_200
  rw [bad198 h, bad188 h]
  split <;> rfl
theorem bad199 {x : Int} {e : mD} (h : ¬ e 769 13 = 0) : g_199 769 x e = e := by
  unfold g_199
  rw [bad198 h, bad188 h]
  split
  · rfl
  · split
    · rfl
    · split <;> rfl
theorem bad196 {x : Int} {e : mD} (h : ¬ e 769 13 = 0) : g_196 769 x e = e ∧ v_196 769 x e = 0 := by
  unfold g_196 v_196
  rw [if_neg h, if_neg h, bad195 h, if_neg h]
  exact ⟨rfl, rfl⟩
theorem readJoin {d0 e : mD} (h : Syn (g_52 577 d0) e) (hc : FrC d0 (g_52 577 d0)) (hk : OKR 580 d0 (e 770)) : LdFr d0 (g_20 576 d0) e (rJoin e) ∧ ((v_20 576 d0 = 1 ∧ Syn (g_20 576 d0) (rJoin e) ∧ OKR 580 (g_20 576 d0) (rJoin e 770)) ∨ (v_20 576 d0 = 0 ∧ Fail (g_20 576 d0) (rJoin e))) := by
  have hk1 := hk.frc hc
  have hG := hk.1
  generalize hw : e 770 = w at *
  unfold v_20 g_20 rJoin
  rw [show (576 : Int) + 1 = 577 by decide, show (576 : Int) + 4 = 580 by decide]
  generalize g_52 577 d0 = d at *
  obtain ⟨a1, a2, a3⟩ := takePer h hk1.2.2.2.2.2.2.2.1 hw hG.1.2.1
  rcases a3 with ⟨v1, s1, m1, l1, u1⟩ | ⟨v1, f1⟩
  · have hk2 := hk1.frc a1
    have w1 : g_199 769 0 e 770 = w := by rw [a2.1 770 (by decide)]; exact hw
    obtain ⟨b1, b2, b3⟩ := takeOff s1 hk2.2.2.2.2.2.1 w1 hG.1.1
    have n1 : ¬ v_27 576 d = 0 := by rw [v1]; decide
    rw [if_neg n1, if_neg n1]
    rcases b3 with ⟨v2, s2, m2, l2, u2⟩ | ⟨v2, f2⟩
    · have hk3 := hk2.frc b1
      have w2 : g_200 769 (g_199 769 0 e) 770 = w := by rw [b2.1 770 (by decide)]; exact w1
      have n2 : ¬ v_28 576 (g_27 576 d) = 0 := by rw [v2]; decide
      rw [if_neg n2, if_neg n2, m1, m2]
      have hx : rJoinX e = if V_225 (v_199 769 0 e) (v_200 769 (g_199 769 0 e)) w = 0 then 0 else 1 := by
        unfold rJoinX
        rw [if_pos s2.2.1, m_v_225, w2]
      obtain ⟨q1, q2, q3⟩ := canQ (p := v_199 769 0 e) (o := v_200 769 (g_199 769 0 e)) hG hk3.2.2.2.2 ⟨l2, u2⟩
      obtain ⟨r1, r2⟩ := deedEnd (x := rJoinX e) s2
      generalize rJoinX e = x at *
      generalize v_199 769 0 e = p at *
      generalize v_200 769 (g_199 769 0 e) = o at *
      generalize g_200 769 (g_199 769 0 e) = E at *
      have fcD := (hc.trans a1).trans b1
      generalize g_28 576 (g_27 576 d) = D at *
      have frE := a2.trans b2
      rcases r2 with ⟨y1, y2, y3, y4⟩ | ⟨y1, y2, y3, y4, y5, y6⟩ | ⟨y1, y2, y3, y4, y5, y6, y7⟩
      · rw [if_pos y1, if_pos y1, if_pos y2]
        exact ⟨LdFr.of (fcD.trans y3) (frE.trans r1), Or.inr ⟨rfl, y4⟩⟩
      · have ny : ¬ v_30 576 D = 0 := by omega
        have vz : v_60 580 p o D = 0 := by
          rw [q1]
          by_cases z : V_225 p o w = 0
          · exact z
          · rw [if_neg z] at hx
            omega
        rw [if_neg ny, if_neg ny, y2, if_pos vz, if_pos vz, if_pos y4]
        exact ⟨LdFr.of (fcD.trans y5) (frE.trans r1), Or.inr ⟨rfl, y6⟩⟩
      · have ny : ¬ v_30 576 D = 0 := by omega
        have vz : ¬ V_225 p o w = 0 := fun z => by
          rw [if_pos z] at hx
          exact y3 hx
        have vn : ¬ v_60 580 p o D = 0 := by rw [q1]; exact vz
        have nx : ¬ v_196 769 x E = 0 := by omega
        rw [if_neg ny, if_neg ny, y2, if_neg vn, if_neg vn, if_neg nx]
        have cj := q3.1 (by omega)
        obtain ⟨-, j1, j2⟩ := join hG hk3.2.2.2.2 ⟨l2, u2⟩ ⟨l1, u1⟩ cj
        have xr := joinX (p := p) hG ⟨l2, u2⟩ cj.1
        obtain ⟨x1, x2⟩ := xr.1 hk3.2.1 hk3.2.2.1
        have fr := f61 (p := p) (o := o) (d := D)
        have sD : Syn (g_61 580 p o D) (g_189 769 E) := y6.c (fr 577 (by decide)) (fr 578 (by decide)) (fr 579 (by decide))
        obtain ⟨-, -, t1, t2, t3, -⟩ := takeSemi sD
        rw [← y5] at t2 t3 y7
        have wE : g_196 769 x E 770 = w := by rw [r1.1 770 (by decide)]; exact w2
        rcases t3 with ⟨t4, t5⟩ | ⟨-, t5⟩
        · rw [m_g_226, wE]
          have rn : ∀ u b, ¬ b = 770 → rset (g_196 769 x E) u b = g_196 769 x E b := fun u b hb => rset_ne hb
          refine ⟨⟨fun b hb => ?_, fun k y z => ?_, fun j hj => ?_⟩, Or.inl ⟨t4, ?_, ?_⟩⟩
          · rw [t1 b (by omega) (by omega), fr b (by omega), fcD b (by omega) (by omega)]
          · rw [rn _ k z, r1.1 k y, frE.1 k y]
          · rw [rn _ 769 (by decide), r1.2 j hj, frE.2 j hj]
          · exact t5.r (rn _ 769 (by decide)) (rn _ 776 (by decide))
          · rw [rset_at]
            exact OKR.frc ⟨j1, x1, x2, by rw [xr.2]; exact hk3.2.2.2.1, j2⟩ t1
        · exact absurd y7 t5.ne
    · rw [if_pos v2, if_pos v2]
      have nx : rJoinX e = 0 := by
        unfold rJoinX
        rw [if_neg f2.ne]
      obtain ⟨z1, z2⟩ := bad196 (x := rJoinX e) f2.ne
      rw [z1, if_pos z2]
      exact ⟨LdFr.of ((hc.trans a1).trans b1) (a2.trans b2), Or.inr ⟨rfl, f2⟩⟩
  · rw [if_pos v1, if_pos v1, bad200 f1.ne]
    obtain ⟨z1, z2⟩ := bad196 (x := rJoinX e) f1.ne
    rw [z1, if_pos z2]
    exact ⟨LdFr.of (hc.trans a1) a2, Or.inr ⟨rfl, f1⟩⟩
/-! ===== a pass is read ===== -/
def rPassX (e : mD) : Int := if (999 : Int) < g_197 769 1 99 e 770 0 + v_197 769 1 99 e then 0 else 1
def rPass (e : mD) : mD := if v_196 769 (rPassX e) (g_197 769 1 99 e) = 0 then g_196 769 (rPassX e) (g_197 769 1 99 e) else rset (g_196 769 (rPassX e) (g_197 769 1 99 e)) (hoursW (v_197 769 1 99 e).toNat (g_196 769 (rPassX e) (g_197 769 1 99 e) 770))
theorem readPass {d0 e : mD} (h : Syn (g_52 577 d0) e) (hc : FrC d0 (g_52 577 d0)) (hk : OKR 580 d0 (e 770)) (hF : v_25 576 1 99 (g_52 577 d0) = 1 → ∀ b, (b < 580 ∨ 642 < b) → g_68 580 (g_25 576 1 99 (g_52 577 d0) 576 4) (g_25 576 1 99 (g_52 577 d0)) b = g_25 576 1 99 (g_52 577 d0) b) : LdFr d0 (g_21 576 d0) e (rPass e) ∧ ((v_21 576 d0 = 1 ∧ Syn (g_21 576 d0) (rPass e) ∧ OKR 580 (g_21 576 d0) (rPass e 770)) ∨ (v_21 576 d0 = 0 ∧ Fail (g_21 576 d0) (rPass e))) := by
  have hk1 := hk.frc hc
  have hG := hk.1
  generalize hw : e 770 = w at *
  unfold v_21 g_21 rPass
  rw [show (576 : Int) + 1 = 577 by decide, show (576 : Int) + 4 = 580 by decide]
  generalize g_52 577 d0 = d at *
  obtain ⟨a1, a2, a3⟩ := takeNum (lo := 1) (hi := 99) h
  rcases a3 with ⟨v1, s1, m1, l1, u1⟩ | ⟨v1, f1, -⟩
  · have hk2 := hk1.frc a1
    have w1 : g_197 769 1 99 e 770 = w := by rw [a2.1 770 (by decide)]; exact hw
    have n1 : ¬ v_25 576 1 99 d = 0 := by rw [v1]; decide
    have hF := hF v1
    rw [if_neg n1, if_neg n1]
    rw [m1] at hF ⊢
    have hx : rPassX e = if (999 : Int) < w 0 + v_197 769 1 99 e then 0 else 1 := by
      unfold rPassX
      rw [w1]
    obtain ⟨r1, r2⟩ := deedEnd (x := rPassX e) s1
    generalize rPassX e = x at *
    generalize v_197 769 1 99 e = n at *
    generalize g_197 769 1 99 e = E at *
    have fcD := hc.trans a1
    generalize g_25 576 1 99 d = D at *
    have t0 : D 580 2 = w 0 := hk2.2.2.2.2.1.2.1
    have vc : v_67 580 n D = if (999 : Int) < w 0 + n then 0 else 1 := by
      unfold v_67
      rw [t0]
    rcases r2 with ⟨y1, y2, y3, y4⟩ | ⟨y1, y2, y3, y4, y5, y6⟩ | ⟨y1, y2, y3, y4, y5, y6, y7⟩
    · rw [if_pos y1, if_pos y1, if_pos y2]
      exact ⟨LdFr.of (fcD.trans y3) (a2.trans r1), Or.inr ⟨rfl, y4⟩⟩
    · have ny : ¬ v_30 576 D = 0 := by omega
      have vz : v_67 580 n D = 0 := by
        rw [vc, ← hx]
        exact y3
      rw [if_neg ny, if_neg ny, y2, if_pos vz, if_pos vz, if_pos y4]
      exact ⟨LdFr.of (fcD.trans y5) (a2.trans r1), Or.inr ⟨rfl, y6⟩⟩
    · have ny : ¬ v_30 576 D = 0 := by omega
      have vn : ¬ v_67 580 n D = 0 := by rw [vc, ← hx]; exact y3
      have tl : w 0 + n ≤ 999 := by
        by_cases z : (999 : Int) < w 0 + n
        · rw [if_pos z] at hx
          exact absurd hx y3
        · omega
      have nx : ¬ v_196 769 x E = 0 := by omega
      rw [if_neg ny, if_neg ny, y2, if_neg vn, if_neg vn, if_neg nx]
      obtain ⟨-, j1, j2, j3, -, j5⟩ := passHours (s := 580) (N := n) (d := D) (by omega) hG hk2.2.2.2.2 (by omega)
      obtain ⟨x1, x2⟩ := j5 hk2.2.1 hk2.2.2.1
      have sD : Syn (g_68 580 n D) (g_189 769 E) := y6.c (hF 577 (by decide)) (hF 578 (by decide)) (hF 579 (by decide))
      obtain ⟨-, -, t1, t2, t3, -⟩ := takeSemi sD
      rw [← y5] at t2 t3 y7
      have wE : g_196 769 x E 770 = w := by rw [r1.1 770 (by decide)]; exact w1
      rcases t3 with ⟨t4, t5⟩ | ⟨-, t5⟩
      · rw [wE]
        have rn : ∀ u b, ¬ b = 770 → rset (g_196 769 x E) u b = g_196 769 x E b := fun u b hb => rset_ne hb
        refine ⟨⟨fun b hb => ?_, fun k y z => ?_, fun j hj => ?_⟩, Or.inl ⟨t4, ?_, ?_⟩⟩
        · rw [t1 b (by omega) (by omega), hF b (by omega), fcD b (by omega) (by omega)]
        · rw [rn _ k z, r1.1 k y, a2.1 k y]
        · rw [rn _ 769 (by decide), r1.2 j hj, a2.2 j hj]
        · exact t5.r (rn _ 769 (by decide)) (rn _ 776 (by decide))
        · rw [rset_at]
          exact OKR.frc ⟨j1, x1, x2, by rw [j3]; exact tl, j2⟩ t1
      · exact absurd y7 t5.ne
  · rw [if_pos v1, if_pos v1]
    obtain ⟨z1, z2⟩ := bad196 (x := rPassX e) f1.ne
    rw [z1, if_pos z2]
    exact ⟨LdFr.of (hc.trans a1) a2, Or.inr ⟨rfl, f1⟩⟩
/-! ===== a claim, a witness are read ===== -/
def rClaimX (e : mD) : Int := if g_199 769 1 e 769 13 = 0 then (if v_227 769 (v_201 769 (v_199 769 1 e) (g_199 769 1 e)) (g_199 769 1 e) = 0 then 0 else 1) else 0
def rClaim (e : mD) : mD := if v_196 769 (rClaimX e) (g_199 769 1 e) = 0 then g_196 769 (rClaimX e) (g_199 769 1 e) else g_228 769 (v_201 769 (v_199 769 1 e) (g_199 769 1 e)) (g_196 769 (rClaimX e) (g_199 769 1 e))
theorem readClaim {d0 e : mD} (h : Syn (g_52 577 d0) e) (hc : FrC d0 (g_52 577 d0)) (hk : OKR 580 d0 (e 770)) (hF : v_29 576 (g_52 577 d0) = 1 → ∀ b, (b < 580 ∨ 642 < b) → g_74 580 (g_29 576 (g_52 577 d0) 576 6) (g_29 576 (g_52 577 d0)) b = g_29 576 (g_52 577 d0) b) : LdFr d0 (g_22 576 d0) e (rClaim e) ∧ ((v_22 576 d0 = 1 ∧ Syn (g_22 576 d0) (rClaim e) ∧ OKR 580 (g_22 576 d0) (rClaim e 770)) ∨ (v_22 576 d0 = 0 ∧ Fail (g_22 576 d0) (rClaim e))) := by
  have hk1 := hk.frc hc
  have hG := hk.1
  generalize hw : e 770 = w at *
  unfold v_22 g_22 rClaim
  rw [show (576 : Int) + 1 = 577 by decide, show (576 : Int) + 4 = 580 by decide]
  generalize g_52 577 d0 = d at *
  obtain ⟨a1, a2, a3⟩ := takeTick h hk1.2.2.2.2.2.2.2.1 hk1.2.2.2.2.2.2.2.2.1 hw hG.1.2.1
  rcases a3 with ⟨v1, s1, m1, l0, l1, u1⟩ | ⟨v1, f1⟩
  · have hk2 := hk1.frc a1
    have w1 : g_199 769 1 e 770 = w := by rw [a2.1 770 (by decide)]; exact hw
    have n1 : ¬ v_29 576 d = 0 := by rw [v1]; decide
    have hF := hF v1
    have el : v_201 769 (v_199 769 1 e) (g_199 769 1 e) = V_201 (v_199 769 1 e) w := by rw [m_v_201, w1]
    have hx : rClaimX e = if V_227 (V_201 (v_199 769 1 e) w) w = 0 then 0 else 1 := by
      unfold rClaimX
      rw [if_pos s1.2.1, el, m_v_227, w1]
    rw [if_neg n1, if_neg n1, el]
    rw [m1] at hF ⊢
    obtain ⟨r1, r2⟩ := deedEnd (x := rClaimX e) s1
    generalize rClaimX e = x at *
    generalize V_201 (v_199 769 1 e) w = n at *
    generalize g_199 769 1 e = E at *
    have fcD := hc.trans a1
    generalize g_29 576 d = D at *
    obtain ⟨q1, q2, q3⟩ := canClaim hG hk2.2.2.2.2 ⟨l1, u1⟩
    rcases r2 with ⟨y1, y2, y3, y4⟩ | ⟨y1, y2, y3, y4, y5, y6⟩ | ⟨y1, y2, y3, y4, y5, y6, y7⟩
    · rw [if_pos y1, if_pos y1, if_pos y2]
      exact ⟨LdFr.of (fcD.trans y3) (a2.trans r1), Or.inr ⟨rfl, y4⟩⟩
    · have ny : ¬ v_30 576 D = 0 := by omega
      have vz : v_73 580 n D = 0 := by
        rw [q1]
        by_cases z : V_227 n w = 0
        · exact z
        · rw [if_neg z] at hx
          omega
      rw [if_neg ny, if_neg ny, y2, if_pos vz, if_pos vz, if_pos y4]
      exact ⟨LdFr.of (fcD.trans y5) (a2.trans r1), Or.inr ⟨rfl, y6⟩⟩
    · have ny : ¬ v_30 576 D = 0 := by omega
      have vz : ¬ V_227 n w = 0 := fun z => by
        rw [if_pos z] at hx
        exact y3 hx
      have vn : ¬ v_73 580 n D = 0 := by rw [q1]; exact vz
      have nx : ¬ v_196 769 x E = 0 := by omega
      rw [if_neg ny, if_neg ny, y2, if_neg vn, if_neg vn, if_neg nx]
      have cj := q3.1 (by omega)
      obtain ⟨-, j1, j2, -⟩ := claim hG hk2.2.2.2.2 ⟨l1, u1⟩ cj.1 cj.2 hk2.2.2.2.1
      have xr := claimX hG ⟨l1, u1⟩
      obtain ⟨x1, x2⟩ := xr.1 hk2.2.1 hk2.2.2.1
      have sD : Syn (g_74 580 n D) (g_189 769 E) := y6.c (hF 577 (by decide)) (hF 578 (by decide)) (hF 579 (by decide))
      obtain ⟨-, -, t1, t2, t3, -⟩ := takeSemi sD
      rw [← y5] at t2 t3 y7
      have wE : g_196 769 x E 770 = w := by rw [r1.1 770 (by decide)]; exact w1
      rcases t3 with ⟨t4, t5⟩ | ⟨-, t5⟩
      · rw [m_g_228, wE]
        have rn : ∀ u b, ¬ b = 770 → rset (g_196 769 x E) u b = g_196 769 x E b := fun u b hb => rset_ne hb
        refine ⟨⟨fun b hb => ?_, fun k y z => ?_, fun j hj => ?_⟩, Or.inl ⟨t4, ?_, ?_⟩⟩
        · rw [t1 b (by omega) (by omega), hF b (by omega), fcD b (by omega) (by omega)]
        · rw [rn _ k z, r1.1 k y, a2.1 k y]
        · rw [rn _ 769 (by decide), r1.2 j hj, a2.2 j hj]
        · exact t5.r (rn _ 769 (by decide)) (rn _ 776 (by decide))
        · rw [rset_at]
          exact OKR.frc ⟨j1, x1, x2, by rw [xr.2]; exact hk2.2.2.2.1, j2⟩ t1
      · exact absurd y7 t5.ne
  · rw [if_pos v1, if_pos v1]
    obtain ⟨z1, z2⟩ := bad196 (x := rClaimX e) f1.ne
    rw [z1, if_pos z2]
    exact ⟨LdFr.of (hc.trans a1) a2, Or.inr ⟨rfl, f1⟩⟩
def rWitE (e : mD) : mD := g_199 769 1 (g_199 769 0 e)
def rWitX (e : mD) : Int := if rWitE e 769 13 = 0 then (if v_234 769 (v_201 769 (v_199 769 1 (g_199 769 0 e)) (rWitE e)) (v_199 769 0 e) (rWitE e) = 0 then 1 else 0) else 0
def rWit (e : mD) : mD := if v_196 769 (rWitX e) (rWitE e) = 0 then g_196 769 (rWitX e) (rWitE e) else g_235 769 (v_201 769 (v_199 769 1 (g_199 769 0 e)) (rWitE e)) (v_199 769 0 e) (g_196 769 (rWitX e) (rWitE e))
theorem readWit {d0 e : mD} (h : Syn (g_52 577 d0) e) (hc : FrC d0 (g_52 577 d0)) (hk : OKR 580 d0 (e 770)) (hF : v_27 576 (g_52 577 d0) = 1 → v_29 576 (g_27 576 (g_52 577 d0)) = 1 → v_77 580 (g_29 576 (g_27 576 (g_52 577 d0)) 576 6) (g_27 576 (g_52 577 d0) 576 6) (g_29 576 (g_27 576 (g_52 577 d0))) = 0 → ∀ b, (b < 580 ∨ 642 < b) → g_75 580 (g_29 576 (g_27 576 (g_52 577 d0)) 576 6) (g_27 576 (g_52 577 d0) 576 6) (g_29 576 (g_27 576 (g_52 577 d0))) b = g_29 576 (g_27 576 (g_52 577 d0)) b) : LdFr d0 (g_23 576 d0) e (rWit e) ∧ ((v_23 576 d0 = 1 ∧ Syn (g_23 576 d0) (rWit e) ∧ OKR 580 (g_23 576 d0) (rWit e 770)) ∨ (v_23 576 d0 = 0 ∧ Fail (g_23 576 d0) (rWit e))) := by
  have hk1 := hk.frc hc
  have hG := hk.1
  generalize hw : e 770 = w at *
  unfold v_23 g_23 rWit
  rw [show (576 : Int) + 1 = 577 by decide, show (576 : Int) + 4 = 580 by decide]
  generalize g_52 577 d0 = d at *
  obtain ⟨b1, b2, b3⟩ := takePer h hk1.2.2.2.2.2.2.2.1 hw hG.1.2.1
  rcases b3 with ⟨v0, s0, m0, l0, u0⟩ | ⟨v0, f0⟩
  · have hk1' := hk1.frc b1
    have w0 : g_199 769 0 e 770 = w := by rw [b2.1 770 (by decide)]; exact hw
    obtain ⟨a1, a2, a3⟩ := takeTick s0 hk1'.2.2.2.2.2.2.2.1 hk1'.2.2.2.2.2.2.2.2.1 w0 hG.1.2.1
    have n0 : ¬ v_27 576 d = 0 := by rw [v0]; decide
    have hF := hF v0
    rw [if_neg n0, if_neg n0]
    rw [m0] at hF ⊢
    rcases a3 with ⟨v1, s1, m1, -, l1, u1⟩ | ⟨v1, f1⟩
    · have hk2 := hk1'.frc a1
      have w1 : rWitE e 770 = w := by
        show g_199 769 1 (g_199 769 0 e) 770 = w
        rw [a2.1 770 (by decide)]; exact w0
      have n1 : ¬ v_29 576 (g_27 576 d) = 0 := by rw [v1]; decide
      have hF := hF v1
      have el : v_201 769 (v_199 769 1 (g_199 769 0 e)) (rWitE e) = V_201 (v_199 769 1 (g_199 769 0 e)) w := by rw [m_v_201, w1]
      have s1 : Syn (g_29 576 (g_27 576 d)) (rWitE e) := s1
      have a2 : FrR (g_199 769 0 e) (rWitE e) := a2
      have hx : rWitX e = if V_234 (V_201 (v_199 769 1 (g_199 769 0 e)) w) (v_199 769 0 e) w = 0 then 1 else 0 := by
        unfold rWitX
        rw [if_pos s1.2.1, el, m_v_234, w1]
      rw [if_neg n1, if_neg n1, el]
      rw [m1] at hF ⊢
      obtain ⟨r1, r2⟩ := deedEnd (x := rWitX e) s1
      generalize rWitX e = x at *
      generalize V_201 (v_199 769 1 (g_199 769 0 e)) w = n at *
      generalize rWitE e = E at *
      generalize v_199 769 0 e = p at *
      have frE := b2.trans a2
      have fcD := (hc.trans b1).trans a1
      generalize g_29 576 (g_27 576 d) = D at *
      obtain ⟨q1, q2⟩ := hinder hG hk2.2.2.2.2 ⟨l1, u1⟩ ⟨l0, u0⟩
      rcases r2 with ⟨y1, y2, y3, y4⟩ | ⟨y1, y2, y3, y4, y5, y6⟩ | ⟨y1, y2, y3, y4, y5, y6, y7⟩
      · rw [if_pos y1, if_pos y1, if_pos y2]
        exact ⟨LdFr.of (fcD.trans y3) (frE.trans r1), Or.inr ⟨rfl, y4⟩⟩
      · have ny : ¬ v_30 576 D = 0 := by omega
        have vz : ¬ v_77 580 n p D = 0 := by
          rw [q1]
          intro z
          rw [if_pos z] at hx
          omega
        rw [if_neg ny, if_neg ny, y2, if_neg vz, if_neg vz, if_pos y4]
        exact ⟨LdFr.of (fcD.trans y5) (frE.trans r1), Or.inr ⟨rfl, y6⟩⟩
      · have ny : ¬ v_30 576 D = 0 := by omega
        have vz : V_234 n p w = 0 := by
          by_cases z : V_234 n p w = 0
          · exact z
          · rw [if_neg z] at hx
            exact absurd hx y3
        have vn : v_77 580 n p D = 0 := by rw [q1]; exact vz
        have hF := hF vn
        have nx : ¬ v_196 769 x E = 0 := by omega
        rw [if_neg ny, if_neg ny, y2, if_pos vn, if_pos vn, if_neg nx]
        obtain ⟨-, j1, j2, -⟩ := attest hG hk2.2.2.2.2 ⟨l1, u1⟩ ⟨l0, u0⟩ vz hk2.2.2.2.1
        have xr := attestX (p := p) hG ⟨l1, u1⟩ ⟨l0, u0⟩
        obtain ⟨x1, x2⟩ := xr.1 hk2.2.1 hk2.2.2.1
        have sD : Syn (g_75 580 n p D) (g_189 769 E) := y6.c (hF 577 (by decide)) (hF 578 (by decide)) (hF 579 (by decide))
        obtain ⟨-, -, t1, t2, t3, -⟩ := takeSemi sD
        rw [← y5] at t2 t3 y7
        have wE : g_196 769 x E 770 = w := by rw [r1.1 770 (by decide)]; exact w1
        rcases t3 with ⟨t4, t5⟩ | ⟨-, t5⟩
        · rw [m_g_235, wE]
          have rn : ∀ u b, ¬ b = 770 → rset (g_196 769 x E) u b = g_196 769 x E b := fun u b hb => rset_ne hb
          refine ⟨⟨fun b hb => ?_, fun k y z => ?_, fun j hj => ?_⟩, Or.inl ⟨t4, ?_, ?_⟩⟩
          · rw [t1 b (by omega) (by omega), hF b (by omega), fcD b (by omega) (by omega)]
          · rw [rn _ k z, r1.1 k y, frE.1 k y]
          · rw [rn _ 769 (by decide), r1.2 j hj, frE.2 j hj]
          · exact t5.r (rn _ 769 (by decide)) (rn _ 776 (by decide))
          · rw [rset_at]
            exact OKR.frc ⟨j1, x1, x2, by rw [xr.2]; exact hk2.2.2.2.1, j2⟩ t1
        · exact absurd y7 t5.ne
    · have f1 : Fail (g_29 576 (g_27 576 d)) (rWitE e) := f1
      rw [if_pos v1, if_pos v1]
      obtain ⟨z1, z2⟩ := bad196 (x := rWitX e) f1.ne
      rw [z1, if_pos z2]
      exact ⟨LdFr.of ((hc.trans b1).trans a1) (b2.trans a2), Or.inr ⟨rfl, f1⟩⟩
  · have eE : rWitE e = g_199 769 0 e := bad199 f0.ne
    rw [if_pos v0, if_pos v0, eE]
    obtain ⟨z1, z2⟩ := bad196 (x := rWitX e) f0.ne
    rw [z1, if_pos z2]
    exact ⟨LdFr.of (hc.trans b1) b2, Or.inr ⟨rfl, f0⟩⟩
/-! ===== the class's reader never goes back ===== -/
def CT (d : mD) : Prop := (0 ≤ d 577 2 ∧ d 577 2 ≤ d 578 1 ∧ d 578 1 ≤ 1000) ∧ TokAt (d 579) (d 578 1) (d 577 2) (d 577 1) (d 577 3) (d 577 4)
def PG (d d' : mD) : Prop := CT d → CT d' ∧ d 577 2 ≤ d' 577 2 ∧ FrC d d'
theorem Syn.ct {d e : mD} (h : Syn d e) : CT d := by
  obtain ⟨tx, b13, bt, bl, tk⟩ := h
  exact ⟨⟨by have := bl.1; omega, bl.2.1, tx.1.2⟩, tk⟩
def PW (d d' : mD) : Prop := CT d → CT d' ∧ d 577 2 ≤ d' 577 2
theorem PG.w {d d' : mD} (h : PG d d') : PW d d' := fun z => ⟨(h z).1, (h z).2.1⟩
theorem PW.fr {d d' : mD} (h7 : d' 577 = d 577) (h8 : d' 578 = d 578) (h9 : d' 579 = d 579) : PW d d' := fun h => by
  unfold CT at h ⊢
  rw [h7, h8, h9]
  exact ⟨h, Int.le_refl _⟩
theorem PW.trans {a b c : mD} (h : PW a b) (g : PW b c) : PW a c := fun z => by
  obtain ⟨q1, q2⟩ := h z
  obtain ⟨q3, q4⟩ := g q1
  exact ⟨q3, by omega⟩
theorem PG.trans {a b c : mD} (h : PG a b) (g : PG b c) : PG a c := fun z => by
  obtain ⟨q1, q2, q5⟩ := h z
  obtain ⟨q3, q4, q6⟩ := g q1
  exact ⟨q3, by omega, q5.trans q6⟩
theorem PG.refl {d : mD} : PG d d := fun z => ⟨z, Int.le_refl _, FrC.refl⟩
theorem PG.s6 {d : mD} {j v : Int} : PG d (mset d 576 j v) := fun z => by
  obtain ⟨q1, q2⟩ := PW.fr (d := d) (d' := mset d 576 j v) (by funext i; exact ms_a (by decide)) (by funext i; exact ms_a (by decide)) (by funext i; exact ms_a (by decide)) z
  exact ⟨q1, q2, fun b x _ => by funext i; exact ms_a x⟩
theorem pg52' {d : mD} (h : CT d) : CT (g_52 577 d) ∧ d 577 3 ≤ g_52 577 d 577 2 ∧ FrC d (g_52 577 d) := by
  obtain ⟨⟨h0, h1, h2⟩, tk⟩ := h
  have hz := tk.z h1
  obtain ⟨a1, a2, a3⟩ := adv (L := d 578 1) (d := d) rfl h2 (by omega) hz.2
  have e8 : g_52 577 d 578 = d 578 := a1 578 (by decide)
  have e9 : g_52 577 d 579 = d 579 := a1 579 (by decide)
  have := a2.1
  refine ⟨⟨⟨by omega, ?_, ?_⟩, ?_⟩, a2.1, fun b _ y => a1 b y⟩
  · rw [e8]; exact a2.2.1
  · rw [e8]; exact h2
  · rw [e8, e9]; exact a3
theorem pg52 {d : mD} : PG d (g_52 577 d) := fun h => by
  obtain ⟨q1, q2, q3⟩ := pg52' h
  have := (h.2.z h.1.2.1).1
  exact ⟨q1, by omega, q3⟩
theorem pg52s {d : mD} (h : CT d) (k : d 577 1 = 0) : CT (g_52 577 d) ∧ d 577 2 < g_52 577 d 577 2 := by
  obtain ⟨q1, q2, -⟩ := pg52' h
  obtain ⟨⟨h0, h1, h2⟩, tk⟩ := h
  refine ⟨q1, ?_⟩
  rcases tk with ⟨a1, a2, a3⟩ | ⟨a1, a2, a3, a4⟩ | ⟨a1, a2, a3, a4⟩ | ⟨a1, a2, a3, a4⟩ | ⟨a1, a2, a3, a4, a5, a6⟩
  · omega
  · by_cases c : d 577 2 < d 577 3
    · omega
    · have e3 : d 577 3 = d 577 2 := by have := a4.1; omega
      have := a4.2.2.2
      rw [e3] at this
      exact absurd a2 (this a1)
  · omega
  · omega
  · omega
theorem pg32 {c : Int} {d : mD} : PG d (g_32 576 c d) := PG.s6.trans PG.s6
theorem pg25 {lo hi : Int} {d : mD} : PG d (g_25 576 lo hi d) := by
  unfold g_25
  rw [show (576 : Int) + 1 = 577 by decide]
  repeat' split
  · exact pg32
  · exact pg32
  · exact PG.s6.trans pg52
  · exact pg32
theorem pg26 {d : mD} : PG d (g_26 576 d) := by
  unfold g_26
  rw [show (576 : Int) + 1 = 577 by decide]
  repeat' split
  · exact PG.s6.trans pg32
  · exact PG.s6.trans pg52
theorem pg27 {d : mD} : PG d (g_27 576 d) := by
  unfold g_27
  repeat' split
  · exact PG.s6.trans pg26
  · exact PG.s6.trans pg32
  · exact PG.s6.trans pg26
theorem pg28 {d : mD} : PG d (g_28 576 d) := by
  unfold g_28
  repeat' split
  · exact PG.s6.trans pg26
  · exact PG.s6.trans pg32
  · exact PG.s6.trans pg26
theorem pg29 {d : mD} : PG d (g_29 576 d) := by
  unfold g_29
  repeat' split
  · exact PG.s6.trans pg26
  · exact PG.s6.trans pg32
  · exact PG.s6.trans pg26
  · exact PG.s6.trans pg32
  · exact PG.s6.trans pg26
theorem pg30 {d : mD} : PG d (g_30 576 d) := by
  unfold g_30
  split
  · exact PG.refl
  · exact pg32
theorem pg31 {d : mD} : PG d (g_31 576 d) := by
  unfold g_31
  rw [show (576 : Int) + 1 = 577 by decide]
  split
  · exact pg30
  · exact pg30.trans pg52
-- behind a word: strictly on
def SPG (d d' : mD) : Prop := CT d → d 577 1 = 0 → d 577 2 < d' 577 2
theorem SPG.of {d d' : mD} (h : PW (g_52 577 d) d') : SPG d d' := fun c k => by
  obtain ⟨q1, q2⟩ := pg52s c k
  have := (h q1).2
  omega
theorem pg16 {d : mD} (h6 : d 582 0 < 6) : SPG d (g_16 576 d) := by
  refine SPG.of ?_
  have f : ∀ c x y z D, PW D (g_35 582 c x y z D) := fun c x y z D => PW.fr (f35 577 (by decide)) (f35 578 (by decide)) (f35 579 (by decide))
  have t : ∀ c x y z (D : mD), PW D (g_35 582 c x y z (g_31 576 (g_25 576 1 20 (g_25 576 1 6 (g_25 576 1 4 (g_26 576 D)))))) := fun c x y z D => ((((pg26.trans pg25).trans pg25).trans pg25).trans pg31).w.trans (f c x y z _)
  unfold g_16
  rw [show (576 : Int) + 1 = 577 by decide, show (576 : Int) + 4 + 2 = 582 by decide, if_pos h6]
  repeat' split
  all_goals first
    | exact t _ _ _ _ _
    | exact ((((pg26.trans pg25).trans pg25).trans pg25).trans pg31).w
    | exact (((pg26.trans pg25).trans pg25).trans pg25).w
    | exact ((pg26.trans pg25).trans pg25).w
    | exact (pg26.trans pg25).w
    | exact pg26.w
    | exact pg32.w
theorem pg18 {d : mD} (h6 : d 590 0 < 16) (h0 : 0 ≤ d 590 0) : SPG d (g_18 576 d) := by
  intro c k
  have e1 : g_52 577 d 590 = d 590 := (pg52 c).2.2 590 (by decide) (by decide)
  refine SPG.of (fun z => ?_) c k
  have f : ∀ c, PW (g_52 577 d) (g_47 590 c (g_31 576 (g_26 576 (g_52 577 d)))) := fun c z => by
    obtain ⟨q1, q2, q3⟩ := (pg26.trans pg31) z
    have hD : 0 ≤ g_31 576 (g_26 576 (g_52 577 d)) 590 0 := by rw [q3 590 (by decide) (by decide), e1]; exact h0
    obtain ⟨q4, q5⟩ := PW.fr (f47 (c := c) hD 577 (by decide)) (f47 (c := c) hD 578 (by decide)) (f47 (c := c) hD 579 (by decide)) q1
    exact ⟨q4, by omega⟩
  unfold g_18
  rw [show (576 : Int) + 1 = 577 by decide, show (576 : Int) + 4 + 10 = 590 by decide, if_pos h6]
  repeat' split
  all_goals first
    | exact f _ z
    | exact (pg26.trans pg31).w z
    | exact pg26.w z
    | exact pg32.w z
theorem pg20 {d : mD} : SPG d (g_20 576 d) := by
  refine SPG.of ?_
  have f : ∀ p o (D : mD), PW D (g_61 580 p o D) := fun p o D => PW.fr (f61 577 (by decide)) (f61 578 (by decide)) (f61 579 (by decide))
  have t : ∀ p o (D : mD), PW D (g_31 576 (g_61 580 p o (g_30 576 (g_28 576 (g_27 576 D))))) := fun p o D => (((pg27.trans pg28).trans pg30).w.trans (f p o _)).trans pg31.w
  unfold g_20
  rw [show (576 : Int) + 1 = 577 by decide, show (576 : Int) + 4 = 580 by decide]
  repeat' split
  all_goals first
    | exact t _ _ _
    | exact (((pg27.trans pg28).trans pg30).trans pg32).w
    | exact ((pg27.trans pg28).trans pg30).w
    | exact (pg27.trans pg28).w
    | exact pg27.w
theorem PW.fs {d d' : mD} (h : ∀ b, (b < 580 ∨ 642 < b) → d' b = d b) : PW d d' := PW.fr (h 577 (by decide)) (h 578 (by decide)) (h 579 (by decide))
theorem pg30e {d : mD} (h : ¬ v_30 576 d = 0) : g_30 576 d = d := by
  unfold v_30 at h
  unfold g_30
  split
  · rfl
  · rename_i c
    rw [if_neg c] at h
    exact absurd rfl h
theorem v25_1 {lo hi : Int} {d : mD} (h : ¬ v_25 576 lo hi d = 0) : v_25 576 lo hi d = 1 := by
  have : v_25 576 lo hi d = 0 ∨ v_25 576 lo hi d = 1 := by
    unfold v_25 v_32
    repeat' split
    all_goals first
      | exact Or.inl rfl
      | exact Or.inr rfl
  omega
theorem v29_1 {d : mD} (h : ¬ v_29 576 d = 0) : v_29 576 d = 1 := by
  have : v_29 576 d = 0 ∨ v_29 576 d = 1 := by
    unfold v_29 v_26 v_32
    repeat' split
    all_goals first
      | exact Or.inl rfl
      | exact Or.inr rfl
  omega
theorem v27_1 {d : mD} (h : ¬ v_27 576 d = 0) : v_27 576 d = 1 := by
  have : v_27 576 d = 0 ∨ v_27 576 d = 1 := by
    unfold v_27 v_26 v_32
    repeat' split
    all_goals first
      | exact Or.inl rfl
      | exact Or.inr rfl
  omega
theorem pg21 {d : mD} (hF : v_25 576 1 99 (g_52 577 d) = 1 → ∀ b, (b < 580 ∨ 642 < b) → g_68 580 (g_25 576 1 99 (g_52 577 d) 576 4) (g_25 576 1 99 (g_52 577 d)) b = g_25 576 1 99 (g_52 577 d) b) : SPG d (g_21 576 d) := by
  refine SPG.of ?_
  unfold g_21
  rw [show (576 : Int) + 1 = 577 by decide, show (576 : Int) + 4 = 580 by decide]
  by_cases c1 : v_25 576 1 99 (g_52 577 d) = 0
  · rw [if_pos c1]
    exact pg25.w
  · rw [if_neg c1]
    have v1 : v_25 576 1 99 (g_52 577 d) = 1 := v25_1 c1
    by_cases c2 : v_30 576 (g_25 576 1 99 (g_52 577 d)) = 0
    · rw [if_pos c2]
      exact (pg25.trans pg30).w
    · rw [if_neg c2]
      by_cases c3 : v_67 580 (g_25 576 1 99 (g_52 577 d) 576 4) (g_30 576 (g_25 576 1 99 (g_52 577 d))) = 0
      · rw [if_pos c3]
        exact ((pg25.trans pg30).trans pg32).w
      · rw [if_neg c3, pg30e c2]
        exact (pg25.w.trans (PW.fs (hF v1))).trans pg31.w
theorem pg22 {d : mD} (hF : v_29 576 (g_52 577 d) = 1 → ∀ b, (b < 580 ∨ 642 < b) → g_74 580 (g_29 576 (g_52 577 d) 576 6) (g_29 576 (g_52 577 d)) b = g_29 576 (g_52 577 d) b) : SPG d (g_22 576 d) := by
  refine SPG.of ?_
  unfold g_22
  rw [show (576 : Int) + 1 = 577 by decide, show (576 : Int) + 4 = 580 by decide]
  by_cases c1 : v_29 576 (g_52 577 d) = 0
  · rw [if_pos c1]
    exact pg29.w
  · rw [if_neg c1]
    by_cases c2 : v_30 576 (g_29 576 (g_52 577 d)) = 0
    · rw [if_pos c2]
      exact (pg29.trans pg30).w
    · rw [if_neg c2]
      by_cases c3 : v_73 580 (g_29 576 (g_52 577 d) 576 6) (g_30 576 (g_29 576 (g_52 577 d))) = 0
      · rw [if_pos c3]
        exact ((pg29.trans pg30).trans pg32).w
      · rw [if_neg c3, pg30e c2]
        exact (pg29.w.trans (PW.fs (hF (v29_1 c1)))).trans pg31.w
theorem pg23 {d : mD} (hF : v_27 576 (g_52 577 d) = 1 → v_29 576 (g_27 576 (g_52 577 d)) = 1 → v_77 580 (g_29 576 (g_27 576 (g_52 577 d)) 576 6) (g_27 576 (g_52 577 d) 576 6) (g_29 576 (g_27 576 (g_52 577 d))) = 0 → ∀ b, (b < 580 ∨ 642 < b) → g_75 580 (g_29 576 (g_27 576 (g_52 577 d)) 576 6) (g_27 576 (g_52 577 d) 576 6) (g_29 576 (g_27 576 (g_52 577 d))) b = g_29 576 (g_27 576 (g_52 577 d)) b) : SPG d (g_23 576 d) := by
  refine SPG.of ?_
  unfold g_23
  rw [show (576 : Int) + 1 = 577 by decide, show (576 : Int) + 4 = 580 by decide]
  by_cases c0 : v_27 576 (g_52 577 d) = 0
  · rw [if_pos c0]
    exact pg27.w
  · rw [if_neg c0]
    by_cases c1 : v_29 576 (g_27 576 (g_52 577 d)) = 0
    · rw [if_pos c1]
      exact (pg27.trans pg29).w
    · rw [if_neg c1]
      by_cases c2 : v_30 576 (g_29 576 (g_27 576 (g_52 577 d))) = 0
      · rw [if_pos c2]
        exact ((pg27.trans pg29).trans pg30).w
      · rw [if_neg c2]
        by_cases c3 : v_77 580 (g_29 576 (g_27 576 (g_52 577 d)) 576 6) (g_27 576 (g_52 577 d) 576 6) (g_30 576 (g_29 576 (g_27 576 (g_52 577 d)))) = 0
        · rw [if_pos c3, pg30e c2]
          rw [pg30e c2] at c3
          exact ((pg27.trans pg29).w.trans (PW.fs (hF (v27_1 c0) (v29_1 c1) c3))).trans pg31.w
        · rw [if_neg c3]
          exact (((pg27.trans pg29).trans pg30).trans pg32).w
theorem v55k {w : Int} {d : mD} (h : ¬ v_55 577 w d = 0) : d 577 1 = 0 := by
  unfold v_55 at h
  by_cases c : d 577 1 = 0
  · exact c
  · rw [if_neg c] at h
    exact absurd rfl h
/-! ===== offices and persons are read ===== -/
theorem LdFr.trans {a b c e f g : mD} (h : LdFr a b e f) (k : LdFr b c f g) : LdFr a c e g := ⟨fun x y => (k.1 x y).trans (h.1 x y), fun x y z => (k.2.1 x y z).trans (h.2.1 x y z), fun x y => (k.2.2 x y).trans (h.2.2 x y)⟩
theorem LdFr.refl {a e : mD} : LdFr a a e e := LdFr.of FrC.refl FrR.refl
theorem r204 (x1 : Int) (m : Nat) : ∃ r, lp_204_13 769 x1 m = st_204_13 769 x1 r ∧ (∀ e, r 0 e = e) ∧ ∀ m', m = m' + 1 → r = lp_204_13 769 x1 m' := by
  cases m with
  | zero => exact ⟨fun _ d => d, rfl, fun _ => rfl, fun m' h => absurd h (by omega)⟩
  | succ m =>
    refine ⟨lp_204_13 769 x1 m, rfl, fun e => ?_, fun m' h => by rw [show m = m' by omega]⟩
    cases m with
    | zero =>
      show st_204_13 769 x1 _ 0 e = e
      unfold st_204_13
      rw [if_pos rfl]
    | succ m =>
      show st_204_13 769 x1 _ 0 e = e
      unfold st_204_13
      rw [if_pos rfl]
theorem ma11 : miand 1 1 = 1 := by decide
theorem ma10 : miand 1 0 = 0 := by decide
theorem ma01 : miand 0 1 = 0 := by decide
theorem ma00 : miand 0 0 = 0 := by decide
def LO (d e : mD) (x : Int) : Prop := Syn d e ∧ OKR 580 d (e 770) ∧ GZ (e 770) ∧ e 770 9 = 0 ∧ e 770 10 = 0 ∧ e 770 7 = x ∧ e 770 8 = 0
theorem loopO : ∀ (n m : Nat) (x : Int) (d e : mD), LO d e x → 0 ≤ x → x ≤ 6 → 7 - x ≤ (n : Int) → d 578 1 - d 577 2 + 1 ≤ (m : Int) → (x = 0 → ¬ v_55 577 1 d = 0) → LdFr d (lp_15_20 576 n x d).2 e (lp_204_13 769 1 m 1 e) ∧ (((lp_15_20 576 n x d).1 = 1 ∧ Syn (lp_15_20 576 n x d).2 (lp_204_13 769 1 m 1 e) ∧ OKR 580 (lp_15_20 576 n x d).2 (lp_204_13 769 1 m 1 e 770) ∧ lp_204_13 769 1 m 1 e 770 8 = 0) ∨ ((lp_15_20 576 n x d).1 = 0 ∧ Fail (lp_15_20 576 n x d).2 (lp_204_13 769 1 m 1 e))) := by
  intro n
  induction n with
  | zero => intro m x d e h h0 h1 hn; omega
  | succ n ih =>
    intro m x d e ⟨hs, hk, hz, h9, h10, h7, h8⟩ h0 h1 hn hm hf
    obtain ⟨r, er, rz, rs⟩ := r204 1 m
    have st : lp_15_20 576 (n + 1) x d = if v_55 577 1 d = 0 then (1, d) else if v_16 576 d = 0 then (0, g_16 576 d) else lp_15_20 576 n (x + 1) (g_16 576 d) := by
      show st_15_20 576 _ x d = _
      unfold st_15_20
      rw [if_neg (by omega), show (576 : Int) + 1 = 577 by decide]
    obtain ⟨s1, s2, s3⟩ := hs.bl
    obtain ⟨i1, i2⟩ := isWord (w := 1) (code := 218546996) s1 word1
    have rt : lp_204_13 769 1 m 1 e = st_204_13 769 1 r 1 e := by rw [er]
    unfold st_204_13 at rt
    have z1 : ¬ (1 : Int) = 0 := by decide
    rw [if_neg z1, if_neg z1, show (769 : Int) + 1 = 770 by decide, h7, s3] at rt
    have f0 := s2.trans i1
    have w0 : g_194 769 218546996 (g_189 769 e) 770 = e 770 := f0.1 770 (by decide)
    rcases i2 with ⟨v1, v2, v3, v4⟩ | ⟨v1, v2, v3⟩
    · have n1 : ¬ v_55 577 1 d = 0 := by omega
      have n2 : ¬ v_194 769 218546996 (g_189 769 e) = 0 := by omega
      rw [if_neg n1] at st
      rw [if_neg n2] at rt
      rw [v2] at rt
      generalize g_194 769 218546996 (g_189 769 e) = H at *
      by_cases c : x = 6
      · obtain ⟨b1, b2⟩ := flt188 (c := 5) (p := d 577 2) v3.2.1
        obtain ⟨c1, c2, c3⟩ := fail32 (c := 5) (d := d)
        have o7 : d 582 0 = e 770 7 := hk.2.2.2.2.2.1.1
        have ev : v_16 576 d = 0 ∧ g_16 576 d = g_32 576 5 d := by
          unfold v_16 g_16
          rw [show (576 : Int) + 4 + 2 = 582 by decide, if_neg (by omega), if_neg (by omega)]
          exact ⟨rfl, rfl⟩
        rw [if_pos ev.1, ev.2] at st
        rw [if_pos c, if_neg b1.ne, ma10, rz] at rt
        rw [st, rt]
        exact ⟨LdFr.of c3 (f0.trans b2), Or.inr ⟨rfl, 5, d 577 2, c1, c2, b1⟩⟩
      · rw [if_neg c] at rt
        have o7 : d 582 0 = e 770 7 := hk.2.2.2.2.2.1.1
        have pg := pg16 (d := d) (by omega) hs.ct (v55k n1)
        obtain ⟨j1, j2⟩ := readOff v3 v4 (by rw [w0]; exact hk) (by rw [w0]; exact hz) (by rw [w0]; exact h9) (by rw [w0]; exact h10) (by rw [w0]; omega)
        have j1 : LdFr d (g_16 576 d) e (g_202 769 H) := (LdFr.of FrC.refl f0).trans j1
        rcases j2 with ⟨u1, u2, u3, u4, u5, u6, u7, u8⟩ | ⟨u1, u2⟩
        · rw [if_neg (by omega)] at st
          have ct := hs.ct.1
          rw [if_pos u2.2.1, ma11, rs (m - 1) (by omega)] at rt
          have e8 : g_16 576 d 578 = d 578 := j1.1 578 (Or.inr (Or.inr (Or.inl rfl)))
          obtain ⟨k1, k2⟩ := ih (m - 1) (x + 1) (g_16 576 d) (g_202 769 H) ⟨u2, u3, u4, u7, u8, by rw [u5, w0]; omega, by rw [u6, w0]; exact h8⟩ (by omega) (by omega) (by omega) (by rw [e8]; omega) (by omega)
          rw [st, rt]
          exact ⟨j1.trans k1, k2⟩
        · rw [if_pos u1] at st
          rw [if_neg u2.ne, ma10, rz] at rt
          rw [st, rt]
          exact ⟨j1, Or.inr ⟨rfl, u2⟩⟩
    · have x0 : ¬ x = 0 := fun z => hf z v1
      rw [if_pos v1] at st
      rw [if_pos v2, if_neg x0, if_pos v3.2.1, v2, ma01, rz] at rt
      rw [st, rt]
      exact ⟨LdFr.of FrC.refl f0, Or.inl ⟨rfl, v3, by rw [w0]; exact hk, by rw [w0]; exact h8⟩⟩
theorem loadO {d e : mD} (h : LO d e 0) : LdFr d (g_15 576 d) e (g_204 769 1 e) ∧ ((v_15 576 d = 1 ∧ Syn (g_15 576 d) (g_204 769 1 e) ∧ OKR 580 (g_15 576 d) (g_204 769 1 e 770) ∧ g_204 769 1 e 770 8 = 0) ∨ (v_15 576 d = 0 ∧ Fail (g_15 576 d) (g_204 769 1 e))) := by
  obtain ⟨hs, hk, hz, h9, h10, h7, h8⟩ := id h
  have ct := hs.ct.1
  have b1 := hs.2.2.1
  have b2 := hs.2.2.2.1.1
  have rt : g_204 769 1 e = lp_204_13 769 1 (1000 - e 769 10 + 1 : Int).toNat 1 e := by
    unfold g_204
    rw [if_pos hs.2.1]
  unfold v_15 g_15 f_15
  rw [show (576 : Int) + 1 = 577 by decide]
  by_cases c : v_55 577 1 d = 0
  · rw [if_pos c]
    generalize (1000 - e 769 10 + 1 : Int).toNat = m at rt
    obtain ⟨r, er, rz, rs⟩ := r204 1 m
    obtain ⟨s1, s2, s3⟩ := hs.bl
    obtain ⟨i1, i2⟩ := isWord (w := 1) (code := 218546996) s1 word1
    rw [er] at rt
    unfold st_204_13 at rt
    have z1 : ¬ (1 : Int) = 0 := by decide
    rw [if_neg z1, if_neg z1, show (769 : Int) + 1 = 770 by decide, h7, s3] at rt
    rcases i2 with ⟨v1, v2, v3, v4⟩ | ⟨v1, v2, v3⟩
    · omega
    · obtain ⟨b1, b2⟩ := flt188 (c := 1) (p := d 577 2) v3.2.1
      obtain ⟨c1, c2, c3⟩ := fail32 (c := 1) (d := d)
      rw [if_pos v2, if_pos rfl, if_neg b1.ne, v2, ma00, rz] at rt
      rw [rt]
      exact ⟨LdFr.of c3 ((s2.trans i1).trans b2), Or.inr ⟨rfl, 1, d 577 2, c1, c2, b1⟩⟩
  · rw [if_neg c, rt]
    exact loopO _ _ 0 d e h (by decide) (by decide) (by omega) (by omega) (fun _ => c)
theorem loopP : ∀ (n m : Nat) (x : Int) (d e : mD), Syn d e → OKR 580 d (e 770) → e 770 8 = x → 0 ≤ x → x ≤ 16 → 17 - x ≤ (n : Int) → d 578 1 - d 577 2 + 1 ≤ (m : Int) → LdFr d (lp_17_2 576 n x d).2 e (lp_204_13 769 0 m 1 e) ∧ (((lp_17_2 576 n x d).1 = 1 ∧ Syn (lp_17_2 576 n x d).2 (lp_204_13 769 0 m 1 e) ∧ OKR 580 (lp_17_2 576 n x d).2 (lp_204_13 769 0 m 1 e 770)) ∨ ((lp_17_2 576 n x d).1 = 0 ∧ Fail (lp_17_2 576 n x d).2 (lp_204_13 769 0 m 1 e))) := by
  intro n
  induction n with
  | zero => intro m x d e hs hk h8 h0 h1 hn; omega
  | succ n ih =>
    intro m x d e hs hk h8 h0 h1 hn hm
    obtain ⟨r, er, rz, rs⟩ := r204 0 m
    have st : lp_17_2 576 (n + 1) x d = if v_55 577 2 d = 0 then (1, d) else if v_18 576 d = 0 then (0, g_18 576 d) else lp_17_2 576 n (x + 1) (g_18 576 d) := by
      show st_17_2 576 _ x d = _
      unfold st_17_2
      rw [if_neg (by omega), show (576 : Int) + 1 = 577 by decide]
    obtain ⟨s1, s2, s3⟩ := hs.bl
    obtain ⟨i1, i2⟩ := isWord (w := 2) (code := 232608281) s1 word2
    have rt : lp_204_13 769 0 m 1 e = st_204_13 769 0 r 1 e := by rw [er]
    unfold st_204_13 at rt
    have z1 : ¬ (1 : Int) = 0 := by decide
    rw [if_neg z1, if_pos rfl, show (769 : Int) + 1 = 770 by decide, h8, s3] at rt
    have f0 := s2.trans i1
    have w0 : g_194 769 232608281 (g_189 769 e) 770 = e 770 := f0.1 770 (by decide)
    have o8 : d 590 0 = e 770 8 := hk.2.2.2.2.2.2.2.1.1
    rcases i2 with ⟨v1, v2, v3, v4⟩ | ⟨v1, v2, v3⟩
    · have n1 : ¬ v_55 577 2 d = 0 := by omega
      have n2 : ¬ v_194 769 232608281 (g_189 769 e) = 0 := by omega
      rw [if_neg n1] at st
      rw [if_neg n2] at rt
      rw [v2] at rt
      generalize g_194 769 232608281 (g_189 769 e) = H at *
      by_cases c : x = 16
      · obtain ⟨b1, b2⟩ := flt188 (c := 5) (p := d 577 2) v3.2.1
        obtain ⟨c1, c2, c3⟩ := fail32 (c := 5) (d := d)
        have ev : v_18 576 d = 0 ∧ g_18 576 d = g_32 576 5 d := by
          unfold v_18 g_18
          rw [show (576 : Int) + 4 + 10 = 590 by decide, if_neg (by omega), if_neg (by omega)]
          exact ⟨rfl, rfl⟩
        rw [if_pos ev.1, ev.2] at st
        rw [if_pos c, if_neg b1.ne, ma10, rz] at rt
        rw [st, rt]
        exact ⟨LdFr.of c3 (f0.trans b2), Or.inr ⟨rfl, 5, d 577 2, c1, c2, b1⟩⟩
      · rw [if_neg c] at rt
        have pg := pg18 (d := d) (by omega) (by omega) hs.ct (v55k n1)
        obtain ⟨j1, j2⟩ := readPer v3 v4 (by rw [w0]; exact hk) (by rw [w0]; omega)
        have j1 : LdFr d (g_18 576 d) e (g_203 769 H) := (LdFr.of FrC.refl f0).trans j1
        rcases j2 with ⟨u1, u2, u3, u4, u5⟩ | ⟨u1, u2⟩
        · rw [if_neg (by omega)] at st
          have ct := hs.ct.1
          rw [if_pos u2.2.1, ma11, rs (m - 1) (by omega)] at rt
          have e8 : g_18 576 d 578 = d 578 := j1.1 578 (Or.inr (Or.inr (Or.inl rfl)))
          obtain ⟨k1, k2⟩ := ih (m - 1) (x + 1) (g_18 576 d) (g_203 769 H) u2 u3 (by rw [u4, w0]; omega) (by omega) (by omega) (by omega) (by rw [e8]; omega)
          rw [st, rt]
          exact ⟨j1.trans k1, k2⟩
        · rw [if_pos u1] at st
          rw [if_neg u2.ne, ma10, rz] at rt
          rw [st, rt]
          exact ⟨j1, Or.inr ⟨rfl, u2⟩⟩
    · rw [if_pos v1] at st
      rw [if_pos v2, if_pos v3.2.1, v2, ma01, rz] at rt
      rw [st, rt]
      exact ⟨LdFr.of FrC.refl f0, Or.inl ⟨rfl, v3, by rw [w0]; exact hk⟩⟩
theorem loadP {d e : mD} (hs : Syn d e) (hk : OKR 580 d (e 770)) (h8 : e 770 8 = 0) : LdFr d (g_17 576 d) e (g_204 769 0 e) ∧ ((v_17 576 d = 1 ∧ Syn (g_17 576 d) (g_204 769 0 e) ∧ OKR 580 (g_17 576 d) (g_204 769 0 e 770)) ∨ (v_17 576 d = 0 ∧ Fail (g_17 576 d) (g_204 769 0 e))) := by
  have ct := hs.ct.1
  have b1 := hs.2.2.1
  have b2 := hs.2.2.2.1.1
  have rt : g_204 769 0 e = lp_204_13 769 0 (1000 - e 769 10 + 1 : Int).toNat 1 e := by
    unfold g_204
    rw [if_pos hs.2.1]
  unfold v_17 g_17 f_17
  rw [rt]
  exact loopP _ _ 0 d e hs hk h8 (by decide) (by decide) (by omega) (by omega)
/-! ===== a deed of the reference's text ===== -/
def nx (r : Int → mD → mD) (x : Int) (E : mD) : mD := if E 769 13 = 0 then r (miand x 1) E else r (miand x 0) E
theorem nxI {P : Prop} [Decidable P] {r : Int → mD → mD} {x : Int} {E F : mD} (h : F 769 13 = E 769 13) : (if P then (if E 769 13 = 0 then r (miand x 1) E else r (miand x 0) E) else if E 769 13 = 0 then r (miand x 1) F else r (miand x 0) F) = nx r x (if P then E else F) := by
  unfold nx
  by_cases c : P
  · rw [if_pos c, if_pos c]
  · rw [if_neg c, if_neg c, h]
theorem nxH {P : Prop} [Decidable P] {r : Int → mD → mD} {x : Int} {E F G : mD} (h : G = nx r x F) : (if P then (if E 769 13 = 0 then r (miand x 1) E else r (miand x 0) E) else G) = nx r x (if P then E else F) := by
  rw [h]
  by_cases c : P
  · rw [if_pos c, if_pos c]
    rfl
  · rw [if_neg c, if_neg c]
theorem lp205h {r : Int → mD → mD} {x N : Int} : ∀ (n : Nat) (k : Int) (E : mD), 0 ≤ N - k → N - k ≤ (n : Int) → lp_205_123 769 r n x N k E = nx r x (rset E (hoursW (N - k).toNat (E 770))) := by
  have stop : ∀ (k : Int) (E : mD), N - k = 0 → nx r x E = nx r x (rset E (hoursW (N - k).toNat (E 770))) := fun k E h => by
    rw [show (N - k).toNat = 0 by omega]
    show _ = nx r x (rset E (E 770))
    rw [rset_self]
  intro n
  induction n with
  | zero =>
    intro k E h0 h1
    rw [← stop k E (by omega)]
    show st_205_123 769 r _ x N k E = _
    unfold st_205_123
    rw [if_neg (by omega)]
    rfl
  | succ n ih =>
    intro k E h0 h1
    by_cases c : k < N
    · have e : lp_205_123 769 r (n + 1) x N k E = lp_205_123 769 r n x N (k + 1) (g_223 769 E) := by
        show st_205_123 769 r _ x N k E = _
        unfold st_205_123
        rw [if_pos c]
      rw [e, ih (k + 1) _ (by omega) (by omega), m_g_223, rset_rset, rset_at, show (N - k).toNat = (N - (k + 1)).toNat + 1 by omega]
      rfl
    · rw [← stop k E (by omega)]
      show st_205_123 769 r _ x N k E = _
      unfold st_205_123
      rw [if_neg c]
      rfl
theorem k13 {E : mD} {u : Row} : rset E u 769 13 = E 769 13 := by rw [rset_ne (by decide)]
theorem st205j {r : Int → mD → mD} {x : Int} {d : mD} (hx : ¬ x = 0) (h3 : ¬ v_194 769 208022 d = 0) : st_205_13 769 r x d = nx r x (rJoin (g_194 769 208022 d)) := by
  unfold st_205_13
  rw [if_neg hx, if_neg h3]
  generalize g_194 769 208022 d = A
  have k : ∀ p o (E : mD), g_226 769 p o E 769 13 = E 769 13 := fun p o E => by rw [m_g_226, k13]
  unfold rJoin rJoinX
  by_cases c1 : g_200 769 (g_199 769 0 A) 769 13 = 0
  · simp only [if_pos c1]
    by_cases c2 : v_225 769 (v_199 769 0 A) (v_200 769 (g_199 769 0 A)) (g_200 769 (g_199 769 0 A)) = 0
    · simp only [if_pos c2]
      exact nxI (k _ _ _)
    · simp only [if_neg c2]
      exact nxI (k _ _ _)
  · simp only [if_neg c1]
    exact nxI (k _ _ _)
theorem st205p {r : Int → mD → mD} {x : Int} {d B : mD} (hx : ¬ x = 0) (h3 : v_194 769 208022 d = 0) (h4 : ¬ v_194 769 316189 (g_194 769 208022 d) = 0) (hB : g_194 769 316189 (g_194 769 208022 d) = B) (hp : g_197 769 1 99 B 770 0 = d 770 0) (hv : 0 ≤ v_197 769 1 99 B) : st_205_13 769 r x d = nx r x (rPass B) := by
  unfold st_205_13
  rw [if_neg hx, if_pos h3, if_neg h4, hB, show (769 : Int) + 1 = 770 by decide, ← hp]
  unfold rPass rPassX
  have k : ∀ (D : mD), lp_205_123 769 r (v_197 769 1 99 B - 0 : Int).toNat x (v_197 769 1 99 B) 0 D = nx r x (rset D (hoursW (v_197 769 1 99 B).toNat (D 770))) := fun D => by
    rw [lp205h _ _ _ (by omega) (by omega), show v_197 769 1 99 B - 0 = v_197 769 1 99 B by omega]
  by_cases c1 : (999 : Int) < g_197 769 1 99 B 770 0 + v_197 769 1 99 B
  · simp only [if_pos c1]
    exact nxH (k _)
  · simp only [if_neg c1]
    exact nxH (k _)
theorem st205c {r : Int → mD → mD} {x : Int} {d C : mD} (hx : ¬ x = 0) (h3 : v_194 769 208022 d = 0) (h4 : v_194 769 316189 (g_194 769 208022 d) = 0) (h5 : ¬ v_194 769 1831504 (g_194 769 316189 (g_194 769 208022 d)) = 0) (hC : g_194 769 1831504 (g_194 769 316189 (g_194 769 208022 d)) = C) : st_205_13 769 r x d = nx r x (rClaim C) := by
  unfold st_205_13
  rw [if_neg hx, if_pos h3, if_pos h4, if_neg h5, hC]
  have k : ∀ p (E : mD), g_228 769 p E 769 13 = E 769 13 := fun p E => by rw [m_g_228, k13]
  unfold rClaim rClaimX
  by_cases c1 : g_199 769 1 C 769 13 = 0
  · simp only [if_pos c1]
    by_cases c2 : v_227 769 (v_201 769 (v_199 769 1 C) (g_199 769 1 C)) (g_199 769 1 C) = 0
    · simp only [if_pos c2]
      exact nxI (k _ _)
    · simp only [if_neg c2]
      exact nxI (k _ _)
  · simp only [if_neg c1]
    exact nxI (k _ _)
theorem st205w {r : Int → mD → mD} {x : Int} {d D : mD} (hx : ¬ x = 0) (h3 : v_194 769 208022 d = 0) (h4 : v_194 769 316189 (g_194 769 208022 d) = 0) (h5 : v_194 769 1831504 (g_194 769 316189 (g_194 769 208022 d)) = 0) (h6 : ¬ v_194 769 9050719969 (g_194 769 1831504 (g_194 769 316189 (g_194 769 208022 d))) = 0) (hD : g_194 769 9050719969 (g_194 769 1831504 (g_194 769 316189 (g_194 769 208022 d))) = D) : st_205_13 769 r x d = nx r x (rWit D) := by
  unfold st_205_13
  rw [if_neg hx, if_pos h3, if_pos h4, if_pos h5, if_neg h6, hD]
  have k : ∀ p q (E : mD), g_235 769 p q E 769 13 = E 769 13 := fun p q E => by rw [m_g_235, k13]
  unfold rWit rWitX rWitE
  by_cases c1 : g_199 769 1 (g_199 769 0 D) 769 13 = 0
  · simp only [if_pos c1]
    by_cases c2 : v_234 769 (v_201 769 (v_199 769 1 (g_199 769 0 D)) (g_199 769 1 (g_199 769 0 D))) (v_199 769 0 D) (g_199 769 1 (g_199 769 0 D)) = 0
    · simp only [if_pos c2]
      exact nxI (k _ _ _)
    · simp only [if_neg c2]
      exact nxI (k _ _ _)
  · simp only [if_neg c1]
    exact nxI (k _ _ _)
theorem st205u {r : Int → mD → mD} {x : Int} {d D : mD} (hx : ¬ x = 0) (h3 : v_194 769 208022 d = 0) (h4 : v_194 769 316189 (g_194 769 208022 d) = 0) (h5 : v_194 769 1831504 (g_194 769 316189 (g_194 769 208022 d)) = 0) (h6 : v_194 769 9050719969 (g_194 769 1831504 (g_194 769 316189 (g_194 769 208022 d))) = 0) (hD : g_194 769 9050719969 (g_194 769 1831504 (g_194 769 316189 (g_194 769 208022 d))) = D) : st_205_13 769 r x d = r 0 D := by
  unfold st_205_13
  rw [if_neg hx, if_pos h3, if_pos h4, if_pos h5, if_pos h6, hD, ma01, ma00]
  split <;> rfl
/-! ===== the loop of the deeds ===== -/
def TKE (E : mO × tW) : Prop := W55 E ∧ tokV E.2 (.inr (2, 576)) ∧ tokV E.2 (.inr (5, 577)) ∧ tokV E.2 (.inr (6, 580))
def LSt (E : mO × tW) (d : mD) : Prop := Safe d ∧ tSh E.2 d ∧ d 580 2 ≤ 999
theorem e580 : (576 : Int) + 4 = 580 := by decide
theorem st580 : stB 580 := Or.inr (Or.inr (Or.inl rfl))
theorem LSt.w {E : mO × tW} {d : mD} (hT : TKE E) (h : LSt E d) : LSt E (g_52 577 d) := by
  obtain ⟨q1, q2, q3⟩ := p_52 (E := E) (x0 := 577) h.1 rfl ⟨hT.2.2.1, trivial⟩ h.2.1
  exact ⟨q3, q1, by rw [q2 580 (by decide)]; exact h.2.2⟩
theorem LSt.F68 {E : mO × tW} {d : mD} (hT : TKE E) (h0 : LSt E d) (hv : v_25 576 1 99 (g_52 577 d) = 1) : ∀ b, (b < 580 ∨ 642 < b) → g_68 580 (g_25 576 1 99 (g_52 577 d) 576 4) (g_25 576 1 99 (g_52 577 d)) b = g_25 576 1 99 (g_52 577 d) b := fun b hb => by
  have h := h0.w hT
  generalize g_52 577 d = u at *
  obtain ⟨q1, q2, q3, q4, q5, q6, q7, q8⟩ := p_25 (E := E) (x0 := 576) (x1 := 1) (x2 := 99) h.1 rfl (by decide) (by decide) ⟨hT.2.1, trivial, trivial, trivial⟩ h.2.1
  have ht : g_25 576 1 99 u 580 2 ≤ 999 := by rw [q3 580 (by decide)]; exact h.2.2
  rcases q7 with q7 | q7
  · omega
  · exact (p_68 (E := E) (x0 := 580) (x1 := g_25 576 1 99 u 576 4) q8 st580 ⟨by omega, by omega⟩ (by omega) (Or.inl rfl) ⟨hT.2.2.2, trivial, trivial⟩ q1).2.2.1 b (by omega)
theorem LSt.F74 {E : mO × tW} {d : mD} (hT : TKE E) (h0 : LSt E d) (hv : v_29 576 (g_52 577 d) = 1) : ∀ b, (b < 580 ∨ 642 < b) → g_74 580 (g_29 576 (g_52 577 d) 576 6) (g_29 576 (g_52 577 d)) b = g_29 576 (g_52 577 d) b := fun b hb => by
  have h := h0.w hT
  generalize g_52 577 d = u at *
  obtain ⟨q1, q2, q3, q4, q5, q6, q7⟩ := p_29 (E := E) (x0 := 576) h.1 rfl ⟨hT.2.1, trivial⟩ h.2.1
  rcases q6 with q6 | q6
  · omega
  · exact (p_74 (E := E) (x0 := 580) (x1 := g_29 576 u 576 6) q7 st580 q6 ⟨hT.2.2.2, trivial, trivial⟩ q1).2.2.1 b (by omega)
theorem LSt.F75 {E : mO × tW} {d : mD} (hT : TKE E) (h0 : LSt E d) (hv : v_27 576 (g_52 577 d) = 1) (hv2 : v_29 576 (g_27 576 (g_52 577 d)) = 1) (hv3 : v_77 580 (g_29 576 (g_27 576 (g_52 577 d)) 576 6) (g_27 576 (g_52 577 d) 576 6) (g_29 576 (g_27 576 (g_52 577 d))) = 0) : ∀ b, (b < 580 ∨ 642 < b) → g_75 580 (g_29 576 (g_27 576 (g_52 577 d)) 576 6) (g_27 576 (g_52 577 d) 576 6) (g_29 576 (g_27 576 (g_52 577 d))) b = g_29 576 (g_27 576 (g_52 577 d)) b := fun b hb => by
  have h := h0.w hT
  generalize g_52 577 d = u at *
  obtain ⟨r1, r2, r3, r4, r5, r6, r7⟩ := p_27 (E := E) (x0 := 576) h.1 rfl ⟨hT.2.1, trivial⟩ h.2.1
  obtain ⟨q1, q2, q3, q4, q5, q6, q7⟩ := p_29 (E := E) (d := g_27 576 u) (x0 := 576) r7 rfl ⟨hT.2.1, trivial⟩ r1
  rcases q6 with q6 | q6
  · omega
  · rcases r6 with r6 | r6
    · omega
    · have w := (p_77 (E := E) (x0 := 580) (x1 := g_29 576 (g_27 576 u) 576 6) (x2 := g_27 576 u 576 6) q7 st580 q6 r6 ⟨hT.2.2.2, trivial, trivial, trivial⟩ q1).2.2
      have w : g_29 576 (g_27 576 u) (580 + 10 + 4) (g_27 576 u 576 6) ≤ 2 := by
        rcases w with w | w
        · exact absurd hv3 w
        · exact w
      exact (p_75 (E := E) (x0 := 580) (x1 := g_29 576 (g_27 576 u) 576 6) (x2 := g_27 576 u 576 6) q7 st580 q6 r6 w ⟨hT.2.2.2, trivial, trivial, trivial⟩ q1).2.2.1 b (by omega)
theorem LSt.g20 {E : mO × tW} {d : mD} (hT : TKE E) (h : LSt E d) : LSt E (g_20 576 d) := by
  obtain ⟨q1, q2, q3, q4, q5⟩ := p_20 (E := E) (x0 := 576) h.1 rfl (by rw [e580]; exact h.2.2) ⟨hT.2.1, trivial⟩ h.2.1
  exact ⟨q5, q1, by rw [e580] at q4; exact q4⟩
theorem LSt.g21 {E : mO × tW} {d : mD} (hT : TKE E) (h : LSt E d) : LSt E (g_21 576 d) := by
  obtain ⟨q1, q2, q3, q4, q5⟩ := p_21 (E := E) (x0 := 576) h.1 rfl (by rw [e580]; exact h.2.2) ⟨hT.2.1, trivial⟩ h.2.1
  exact ⟨q5, q1, by rw [e580] at q4; exact q4⟩
theorem LSt.g22 {E : mO × tW} {d : mD} (hT : TKE E) (h : LSt E d) : LSt E (g_22 576 d) := by
  obtain ⟨q1, q2, q3, q4, q5⟩ := p_22 (E := E) (x0 := 576) h.1 rfl (by rw [e580]; exact h.2.2) ⟨hT.2.1, trivial⟩ h.2.1
  exact ⟨q5, q1, by rw [e580] at q4; exact q4⟩
theorem LSt.g23 {E : mO × tW} {d : mD} (hT : TKE E) (h : LSt E d) : LSt E (g_23 576 d) := by
  obtain ⟨q1, q2, q3, q4, q5⟩ := p_23 (E := E) (x0 := 576) h.1 rfl (by rw [e580]; exact h.2.2) ⟨hT.2.1, trivial⟩ h.2.1
  exact ⟨q5, q1, by rw [e580] at q4; exact q4⟩
theorem r19 (n : Nat) : ∃ r, lp_19_4 576 n = st_19_4 576 r ∧ (∀ k d, r 0 k d = (0, d)) ∧ ∀ n', n = n' + 1 → r = lp_19_4 576 n' := by
  have z : ∀ (r : Int → Int → mD → Int × mD) k d, st_19_4 576 r 0 k d = (0, d) := fun r k d => by
    unfold st_19_4
    by_cases c : k < 1000
    · rw [if_pos c, if_pos rfl]
    · rw [if_neg c]
  cases n with
  | zero => exact ⟨fun _ _ d => (0, d), rfl, fun _ _ => rfl, fun n' h => absurd h (by omega)⟩
  | succ n =>
    refine ⟨lp_19_4 576 n, rfl, fun k d => ?_, fun n' h => by rw [show n = n' by omega]⟩
    cases n with
    | zero => exact z _ k d
    | succ n => exact z _ k d
theorem r205 (m : Nat) : ∃ r, lp_205_13 769 m = st_205_13 769 r ∧ (∀ e, r 0 e = e) ∧ ∀ m', m = m' + 1 → r = lp_205_13 769 m' := by
  have z : ∀ (r : Int → mD → mD) d, st_205_13 769 r 0 d = d := fun r d => by
    unfold st_205_13
    rw [if_pos rfl]
  cases m with
  | zero => exact ⟨fun _ d => d, rfl, fun _ => rfl, fun m' h => absurd h (by omega)⟩
  | succ m =>
    refine ⟨lp_205_13 769 m, rfl, fun e => ?_, fun m' h => by rw [show m = m' by omega]⟩
    cases m with
    | zero => exact z _ e
    | succ m => exact z _ e
def DE (d e d' e' : mD) (c : Int) : Prop := LdFr d d' e e' ∧ ((c = 1 ∧ Syn d' e' ∧ d' 577 1 = 3 ∧ OKR 580 d' (e' 770)) ∨ (c = 0 ∧ Fail d' e') ∨ (c = 0 ∧ ∃ D, Syn D e' ∧ ¬ D 577 1 = 3 ∧ d' = g_32 576 1 D))
theorem stepD {E : mO × tW} (hT : TKE E) {r : Int → Int → mD → Int × mD} {r' : Int → mD → mD} (z1 : ∀ k d, r 0 k d = (0, d)) (z2 : ∀ e, r' 0 e = e) {k : Int} {d e : mD} (hs : Syn d e) (hk : OKR 580 d (e 770)) (hl : LSt E d) (k1 : k ≤ d 577 2) (hn : k < 1000 → d 577 2 < d 578 1 → ∀ D rd, Syn D rd → OKR 580 D (rd 770) → LSt E D → d 577 2 < D 577 2 → LdFr d D e rd → DE D rd (r 1 (k + 1) D).2 (r' 1 rd) (r 1 (k + 1) D).1) : DE d e (st_19_4 576 r 1 k d).2 (st_205_13 769 r' 1 e) (st_19_4 576 r 1 k d).1 := by
  have x1 : ¬ (1 : Int) = 0 := by decide
  have ct := hs.ct
  obtain ⟨a1, a2⟩ := isWord (w := 3) (code := 208022) hs word3
  generalize hA : g_194 769 208022 e = A at *
  by_cases c3 : d 577 1 = 3
  · have ec : st_19_4 576 r 1 k d = (1, d) := by
      unfold st_19_4
      rw [if_neg x1, show (576 : Int) + 1 = 577 by decide, if_pos c3]
      split <;> rfl
    have nv : ∀ w, ¬ v_55 577 w d = 1 := fun w hw => by
      have := v55k (w := w) (d := d) (by omega)
      omega
    rcases a2 with ⟨v, -, -, -⟩ | ⟨-, w3, sA⟩
    · exact absurd v (nv _)
    · obtain ⟨b1, b2⟩ := isWord (w := 4) (code := 316189) sA word4
      rcases b2 with ⟨v, -, -, -⟩ | ⟨-, w4, sB⟩
      · exact absurd v (nv _)
      · obtain ⟨e1, e2⟩ := isWord (w := 5) (code := 1831504) sB word5
        rcases e2 with ⟨v, -, -, -⟩ | ⟨-, w5, sC⟩
        · exact absurd v (nv _)
        · obtain ⟨f1, f2⟩ := isWord (w := 6) (code := 9050719969) sC word6
          rcases f2 with ⟨v, -, -, -⟩ | ⟨-, w6, sD⟩
          · exact absurd v (nv _)
          · rw [← hA] at w4 w5 w6 a1 b1 e1 f1 sD
            rw [ec, st205u x1 w3 w4 w5 w6 rfl, z2]
            have fr := ((a1.trans b1).trans e1).trans f1
            exact ⟨LdFr.of FrC.refl fr, Or.inl ⟨rfl, sD, c3, by rw [fr.1 770 (by decide)]; exact hk⟩⟩
  · have tl : d 577 2 < d 578 1 := by
      have tk := ct.2
      rcases tk with ⟨a1, a2, a3⟩ | ⟨a1, a2, a3, a4⟩ | ⟨a1, a2, a3, a4⟩ | ⟨a1, a2, a3, a4⟩ | ⟨a1, a2, a3, a4, a5, a6⟩
      · exact absurd a2 c3
      · exact a1
      · exact a1
      · exact a1
      · exact a1
    have ck : k < 1000 := by
      have := ct.1
      omega
    have go : ∀ (D rd : mD) (v : Int), LdFr d D e rd → ((v = 1 ∧ Syn D rd ∧ OKR 580 D (rd 770)) ∨ (v = 0 ∧ Fail D rd)) → LSt E D → d 577 2 < D 577 2 → DE d e (r v (k + 1) D).2 (nx r' 1 rd) (r v (k + 1) D).1 := fun D rd v f1 f2 f3 f4 => by
      unfold nx
      rcases f2 with ⟨g1, g2, g3⟩ | ⟨g1, g2⟩
      · obtain ⟨h1, h2⟩ := hn ck tl D rd g2 g3 f3 f4 f1
        rw [if_pos g2.2.1, ma11, g1]
        exact ⟨f1.trans h1, h2⟩
      · rw [if_neg g2.ne, ma10, g1, z1, z2]
        exact ⟨f1, Or.inr (Or.inl ⟨rfl, g2⟩)⟩
    rcases a2 with ⟨v, w3, sA, fA⟩ | ⟨v3, w3, sA⟩
    · have n0 : ¬ v_55 577 3 d = 0 := by omega
      have wA : A 770 = e 770 := a1.1 770 (by decide)
      obtain ⟨j1, j2⟩ := readJoin sA fA (by rw [wA]; exact hk)
      have ec : st_19_4 576 r 1 k d = r (v_20 576 d) (k + 1) (g_20 576 d) := by
        unfold st_19_4
        rw [if_pos ck, if_neg x1, show (576 : Int) + 1 = 577 by decide, if_neg c3, if_neg n0]
      rw [ec, st205j x1 (by omega), hA]
      exact go _ _ _ ((LdFr.of FrC.refl a1).trans j1) j2 (hl.g20 hT) (pg20 ct (v55k n0))
    · obtain ⟨b1, b2⟩ := isWord (w := 4) (code := 316189) sA word4
      have b1 := a1.trans b1
      generalize hB : g_194 769 316189 A = B at *
      rcases b2 with ⟨v, w4, sB, fB⟩ | ⟨v4, w4, sB⟩
      · have n0 : ¬ v_55 577 4 d = 0 := by omega
        have wB : B 770 = e 770 := b1.1 770 (by decide)
        have hF := hl.F68 hT
        obtain ⟨j1, j2⟩ := readPass sB fB (by rw [wB]; exact hk) hF
        have ec : st_19_4 576 r 1 k d = r (v_21 576 d) (k + 1) (g_21 576 d) := by
          unfold st_19_4
          rw [if_pos ck, if_neg x1, show (576 : Int) + 1 = 577 by decide, if_neg c3, if_pos v3, if_neg n0]
        obtain ⟨-, t2, t3⟩ := takeNum (lo := 1) (hi := 99) sB
        rw [ec, st205p (B := B) x1 (by omega) (by rw [hA]; omega) (by rw [hA]; exact hB) (by rw [t2.1 770 (by decide), wB]) (by
          rcases t3 with t3 | t3
          · omega
          · omega)]
        exact go _ _ _ ((LdFr.of FrC.refl b1).trans j1) j2 (hl.g21 hT) (pg21 hF ct (v55k n0))
      · obtain ⟨e1, e2⟩ := isWord (w := 5) (code := 1831504) sB word5
        have e1 := b1.trans e1
        generalize hC : g_194 769 1831504 B = C at *
        rcases e2 with ⟨v, w5, sC, fC⟩ | ⟨v5, w5, sC⟩
        · have n0 : ¬ v_55 577 5 d = 0 := by omega
          have wC : C 770 = e 770 := e1.1 770 (by decide)
          have hF := hl.F74 hT
          obtain ⟨j1, j2⟩ := readClaim sC fC (by rw [wC]; exact hk) hF
          have ec : st_19_4 576 r 1 k d = r (v_22 576 d) (k + 1) (g_22 576 d) := by
            unfold st_19_4
            rw [if_pos ck, if_neg x1, show (576 : Int) + 1 = 577 by decide, if_neg c3, if_pos v3, if_pos v4, if_neg n0]
          rw [ec, st205c (C := C) x1 (by omega) (by rw [hA]; omega) (by rw [hA, hB]; omega) (by rw [hA, hB]; exact hC)]
          exact go _ _ _ ((LdFr.of FrC.refl e1).trans j1) j2 (hl.g22 hT) (pg22 hF ct (v55k n0))
        · obtain ⟨f1, f2⟩ := isWord (w := 6) (code := 9050719969) sC word6
          have f1 := e1.trans f1
          generalize hD : g_194 769 9050719969 C = D at *
          rcases f2 with ⟨v, w6, sD, fD⟩ | ⟨v6, w6, sD⟩
          · have n0 : ¬ v_55 577 6 d = 0 := by omega
            have wD : D 770 = e 770 := f1.1 770 (by decide)
            have hF := hl.F75 hT
            obtain ⟨j1, j2⟩ := readWit sD fD (by rw [wD]; exact hk) hF
            have ec : st_19_4 576 r 1 k d = r (v_23 576 d) (k + 1) (g_23 576 d) := by
              unfold st_19_4
              rw [if_pos ck, if_neg x1, show (576 : Int) + 1 = 577 by decide, if_neg c3, if_pos v3, if_pos v4, if_pos v5, if_neg n0]
            rw [ec, st205w (D := D) x1 (by omega) (by rw [hA]; omega) (by rw [hA, hB]; omega) (by rw [hA, hB, hC]; omega) (by rw [hA, hB, hC]; exact hD)]
            exact go _ _ _ ((LdFr.of FrC.refl f1).trans j1) j2 (hl.g23 hT) (pg23 hF ct (v55k n0))
          · have ec : st_19_4 576 r 1 k d = (0, g_32 576 1 d) := by
              unfold st_19_4
              rw [if_pos ck, if_neg x1, show (576 : Int) + 1 = 577 by decide, if_neg c3, if_pos v3, if_pos v4, if_pos v5, if_pos v6]
              exact z1 _ _
            rw [ec, st205u (D := D) x1 (by omega) (by rw [hA]; omega) (by rw [hA, hB]; omega) (by rw [hA, hB, hC]; omega) (by rw [hA, hB, hC]; exact hD), z2]
            exact ⟨LdFr.of (fail32 (c := 1) (d := d)).2.2 f1, Or.inr (Or.inr ⟨rfl, d, sD, c3, rfl⟩)⟩
theorem loopD {E : mO × tW} (hT : TKE E) : ∀ (n m : Nat) (k : Int) (d e : mD), Syn d e → OKR 580 d (e 770) → LSt E d → k ≤ d 577 2 → 1000 - k ≤ (n : Int) → d 578 1 - d 577 2 + 1 ≤ (m : Int) → DE d e (lp_19_4 576 n 1 k d).2 (lp_205_13 769 m 1 e) (lp_19_4 576 n 1 k d).1 := by
  intro n
  induction n with
  | zero =>
    intro m k d e hs hk hl k1 hn hm
    obtain ⟨r, er, rz, rs⟩ := r19 0
    obtain ⟨r', er', rz', rs'⟩ := r205 m
    rw [er, er']
    exact stepD hT rz rz' hs hk hl k1 (fun x => by omega)
  | succ n ih =>
    intro m k d e hs hk hl k1 hn hm
    obtain ⟨r, er, rz, rs⟩ := r19 (n + 1)
    obtain ⟨r', er', rz', rs'⟩ := r205 m
    rw [er, er']
    refine stepD hT rz rz' hs hk hl k1 (fun x y D rd u1 u2 u3 u4 u5 => ?_)
    have e8 : D 578 = d 578 := u5.1 578 (Or.inr (Or.inr (Or.inl rfl)))
    rw [rs n rfl, rs' (m - 1) (by omega)]
    exact ih (m - 1) (k + 1) D rd u1 u2 u3 (by omega) (by omega) (by rw [e8]; omega)
theorem loadD {E : mO × tW} (hT : TKE E) {d e : mD} (hs : Syn d e) (hk : OKR 580 d (e 770)) (hl : LSt E d) : DE d e (g_19 576 d) (g_205 769 e) (v_19 576 d) := by
  have ct := hs.ct.1
  have b1 := hs.2.2.1
  have b2 := hs.2.2.2.1.1
  have rt : g_205 769 e = lp_205_13 769 (1000 - e 769 10 + 1 : Int).toNat 1 e := by
    unfold g_205
    rw [if_pos hs.2.1]
  unfold v_19 g_19 f_19
  rw [rt]
  exact loopD hT _ _ 0 d e hs hk hl (by omega) (by omega) (by omega)
/-! ===== the head of a text ===== -/
theorem OKR.empty {s : Int} {d : mD} {w : Row} (h0 : w 0 = 0) (h1 : 0 ≤ w 1 ∧ w 1 ≤ 99999) (h2 : 0 ≤ w 2 ∧ w 2 ≤ 9) (h3 : 0 ≤ w 3 ∧ w 3 ≤ 3) (h4 : 1 ≤ w 4 ∧ w 4 ≤ 9) (h5 : 1 ≤ w 5 ∧ w 5 ≤ 20) (h6 : 1 ≤ w 6 ∧ w 6 ≤ 99) (h7 : w 7 = 0) (h8 : w 8 = 0) (h9 : w 9 = 0) (h10 : w 10 = 0) (h11 : w 11 = 0) (hA : RelA s d w) (z2 : d (s + 2) 0 = 0) (z10 : d (s + 10) 0 = 0) (z49 : d (s + 49) 0 = 0) (z57 : d (s + 57) 0 = 0) (z5 : d (s + 57) 5 = 0) : OKR s d w := by
  refine ⟨⟨⟨by omega, by omega, by omega, by omega, by omega, by omega, by omega, by omega, by omega, by omega, by omega, by omega⟩, fun o a b => by omega, fun o a b => by omega, fun o a b => by omega, fun o a b => by omega, fun o a b => by omega, ?_, fun k a b => by omega⟩, fun t a b => by omega, fun p a b => by omega, by omega, hA, ⟨by omega, fun o a b => by omega⟩, fun o a b => by omega, ⟨by omega, fun o a b => by omega⟩, ⟨by omega, fun o a b => by omega⟩, fun o a b => by omega, ⟨by omega, fun o a b => by omega⟩, ⟨by omega, fun o a b => by omega⟩, fun o a b => by omega, fun o a b => by omega⟩
  rw [h10, h11]
  rfl
def rEnd (L : Int) (X : mD) : mD := if X 769 13 = 0 then (if g_189 769 X 769 10 < L then g_188 769 1 (g_189 769 X 769 10) (g_189 769 X) else g_189 769 X) else X
def rBody (X : mD) : mD := g_205 769 (g_204 769 0 (g_204 769 1 X))
theorem bad204 {x : Int} {e : mD} (h : ¬ e 769 13 = 0) : g_204 769 x e = e := by
  unfold g_204
  rw [if_neg h]
  obtain ⟨r, er, -, -⟩ := r204 x (1000 - e 769 10 + 0 : Int).toNat
  rw [er]
  unfold st_204_13
  rw [if_pos rfl]
theorem bad205 {e : mD} (h : ¬ e 769 13 = 0) : g_205 769 e = e := by
  unfold g_205
  rw [if_neg h]
  obtain ⟨r, er, -, -⟩ := r205 (1000 - e 769 10 + 0 : Int).toNat
  rw [er]
  unfold st_205_13
  rw [if_pos rfl]
theorem badBody {e : mD} (h : ¬ e 769 13 = 0) : rBody e = e := by
  unfold rBody
  rw [bad204 h, bad204 h, bad205 h]
theorem badEnd {L : Int} {e : mD} (h : ¬ e 769 13 = 0) : rEnd L e = e := by
  unfold rEnd
  rw [if_neg h]
def rLast (e : mD) : mD := g_195 769 (mset (g_197 769 0 99999 e) 770 1 (v_197 769 0 99999 e))
theorem st206l {r : Int → mD → mD} {x : Int} {e : mD} (hx : ¬ x < 5) : st_206_53 769 r x e = rEnd (e 769 9) (rBody (rLast e)) := by
  unfold st_206_53 rEnd rBody rLast
  rw [if_neg hx, show (769 : Int) + 1 = 770 by decide]
theorem badHead : ∀ (n : Nat) (x : Int) (e : mD), ¬ e 769 13 = 0 → ∀ b, ¬ b = 770 → lp_206_53 769 n x e b = e b := by
  have last : ∀ (r : Int → mD → mD) (x : Int) (e : mD), ¬ x < 5 → ¬ e 769 13 = 0 → ∀ b, ¬ b = 770 → st_206_53 769 r x e b = e b := fun r x e hx h b hb => by
    have h1 : ∀ v, ¬ mset e 770 1 v 769 13 = 0 := fun v => by rw [ms_a (by decide)]; exact h
    rw [st206l hx]
    unfold rLast
    rw [bad197 h, bad195 (h1 _), badBody (h1 _), badEnd (h1 _)]
    funext j
    exact ms_a hb
  intro n
  induction n with
  | zero =>
    intro x e h b hb
    show st_206_53 769 _ x e b = e b
    by_cases c : x < 5
    · unfold st_206_53
      rw [if_pos c, bad197 h]
      funext j
      exact ms_a hb
    · exact last _ x e c h b hb
  | succ n ih =>
    intro x e h b hb
    show st_206_53 769 _ x e b = e b
    by_cases c : x < 5
    · unfold st_206_53
      rw [if_pos c, bad197 h, ih _ _ (by rw [ms_a (by decide)]; exact h) b hb]
      funext j
      exact ms_a hb
    · exact last _ x e c h b hb
theorem old0 {x : Int} {e : mD} (h : 0 ≤ x ∧ x < 5) : v_291 x e = olds 0 x := by
  have : x = 0 ∨ x = 1 ∨ x = 2 ∨ x = 3 ∨ x = 4 := by omega
  rcases this with h | h | h | h | h <;> subst h <;> rfl
theorem old1 {x : Int} {e : mD} (h : 0 ≤ x ∧ x < 5) : v_292 x e = olds 1 x := by
  have : x = 0 ∨ x = 1 ∨ x = 2 ∨ x = 3 ∨ x = 4 := by omega
  rcases this with h | h | h | h | h <;> subst h <;> rfl
def HD (x : Int) (d e : mD) : Prop := (∀ j, 0 ≤ j → j < x → d 581 j = e 770 (2 + j) ∧ olds 0 j ≤ e 770 (2 + j) ∧ e 770 (2 + j) ≤ olds 1 j) ∧ (∀ j, j = 0 ∨ (7 ≤ j ∧ j < 3116) → e 770 j = 0) ∧ d 580 2 = 0 ∧ d 582 0 = 0 ∧ d 590 0 = 0 ∧ d 629 0 = 0 ∧ d 637 0 = 0 ∧ d 637 5 = 0
theorem loopN : ∀ (n : Nat) (x : Int) (d e : mD), Syn d e → 0 ≤ x → x ≤ 5 → 5 - x ≤ (n : Int) → HD x d e → ((lp_14_13 576 n x d).1 = 1 ∧ ∃ X, LdFr d (lp_14_13 576 n x d).2 e X ∧ lp_206_53 769 n x e = rEnd (e 769 9) (rBody X) ∧ LO (lp_14_13 576 n x d).2 X 0) ∨ ((lp_14_13 576 n x d).1 = 0 ∧ LdFr d (lp_14_13 576 n x d).2 e (lp_206_53 769 n x e) ∧ Fail (lp_14_13 576 n x d).2 (lp_206_53 769 n x e)) := by
  have f8 : ∀ (d : mD) (a i v : Int), (a = 580 ∨ a = 581) → ∀ b, (b < 580 ∨ 581 < b) → mset d a i v b = d b := fun d a i v ha b hb => by
    funext j
    exact ms_a (by omega)
  have last : ∀ (r : Int → mD → Int × mD) (r' : Int → mD → mD) (x : Int) (d e : mD), Syn d e → x = 5 → HD x d e → ((st_14_13 576 r x d).1 = 1 ∧ ∃ X, LdFr d (st_14_13 576 r x d).2 e X ∧ st_206_53 769 r' x e = rEnd (e 769 9) (rBody X) ∧ LO (st_14_13 576 r x d).2 X 0) ∨ ((st_14_13 576 r x d).1 = 0 ∧ LdFr d (st_14_13 576 r x d).2 e (st_206_53 769 r' x e) ∧ Fail (st_14_13 576 r x d).2 (st_206_53 769 r' x e)) := fun r r' x d e hs hx ⟨h1, h2, h3, h4, h5, h6, h7, h8⟩ => by
    rw [st206l (by omega)]
    have ec : st_14_13 576 r x d = if v_25 576 0 99999 d = 0 then (0, g_25 576 0 99999 d) else (v_31 576 (mset (g_25 576 0 99999 d) 580 1 (g_25 576 0 99999 d 576 4)), g_31 576 (mset (g_25 576 0 99999 d) 580 1 (g_25 576 0 99999 d 576 4))) := by
      unfold st_14_13
      rw [if_neg (by omega), e580]
    rw [ec]
    obtain ⟨a1, a2, a3⟩ := takeNum (lo := 0) (hi := 99999) hs
    have fm : ∀ u : mD, ∀ b, ¬ b = 770 → mset u 770 1 (v_197 769 0 99999 e) b = u b := fun u b hb => by
      funext j
      exact ms_a hb
    rcases a3 with ⟨q1, q2, q3, q4, q5⟩ | ⟨q1, q2, q3⟩
    · rw [if_neg (by omega)]
      unfold rLast
      rw [q3]
      generalize hv : v_197 769 0 99999 e = v at *
      generalize g_197 769 0 99999 e = E1 at *
      generalize g_25 576 0 99999 d = D1 at *
      have fd : ∀ b, (b < 580 ∨ 581 < b) → mset D1 580 1 v b = D1 b := f8 D1 580 1 v (Or.inl rfl)
      have s2 : Syn (mset D1 580 1 v) (mset E1 770 1 v) := (q2.c (fd 577 (by decide)) (fd 578 (by decide)) (fd 579 (by decide))).r (fm _ 769 (by decide)) (fm _ 776 (by decide))
      obtain ⟨-, -, t1, t2, t3, -⟩ := takeSemi s2
      have fr : LdFr d (g_31 576 (mset D1 580 1 v)) e (g_195 769 (mset E1 770 1 v)) := ⟨fun b hb => by rw [t1 b (by omega) (by omega), fd b (by omega), a1 b (by omega) (by omega)], fun k y z => by rw [t2.1 k y, fm _ k z, a2.1 k y], fun j hj => by rw [t2.2 j hj, fm _ 769 (by decide), a2.2 j hj]⟩
      rcases t3 with ⟨t4, t5⟩ | ⟨t4, t5⟩
      · refine Or.inl ⟨t4, _, fr, rfl, t5, ?_⟩
        have wX : ∀ j, ¬ j = 1 → g_195 769 (mset E1 770 1 v) 770 j = e 770 j := fun j hj => by rw [t2.1 770 (by decide), ms_i hj, a2.1 770 (by decide)]
        have wX1 : g_195 769 (mset E1 770 1 v) 770 1 = v := by rw [t2.1 770 (by decide), ms_e rfl rfl]
        have dX : ∀ b, 581 < b → g_31 576 (mset D1 580 1 v) b = d b := fun b hb => by rw [t1 b (by omega) (by omega), fd b (by omega), a1 b (by omega) (by omega)]
        have d81 : g_31 576 (mset D1 580 1 v) 581 = d 581 := by
          rw [t1 581 (by decide) (by decide), ← a1 581 (by decide) (by decide)]
          funext j
          exact ms_a (by decide)
        have d802 : g_31 576 (mset D1 580 1 v) 580 2 = 0 := by rw [t1 580 (by decide) (by decide), ms_i (by decide), a1 580 (by decide) (by decide)]; exact h3
        have d801 : g_31 576 (mset D1 580 1 v) 580 1 = v := by rw [t1 580 (by decide) (by decide), ms_e rfl rfl]
        have wj : ∀ j, 0 ≤ j → j < 5 → olds 0 j ≤ g_195 769 (mset E1 770 1 v) 770 (2 + j) ∧ g_195 769 (mset E1 770 1 v) 770 (2 + j) ≤ olds 1 j := fun j u1 u2 => by
          rw [wX _ (by omega)]
          exact (h1 j u1 (by omega)).2
        have z : ∀ j, j = 0 ∨ (7 ≤ j ∧ j < 3116) → g_195 769 (mset E1 770 1 v) 770 j = 0 := fun j hj => by
          rw [wX _ (by omega)]
          exact h2 j hj
        show OKR 580 (g_31 576 (mset D1 580 1 v)) (g_195 769 (mset E1 770 1 v) 770) ∧ GZ (g_195 769 (mset E1 770 1 v) 770) ∧ g_195 769 (mset E1 770 1 v) 770 9 = 0 ∧ g_195 769 (mset E1 770 1 v) 770 10 = 0 ∧ g_195 769 (mset E1 770 1 v) 770 7 = 0 ∧ g_195 769 (mset E1 770 1 v) 770 8 = 0
        refine ⟨OKR.empty (z 0 (by decide)) (by rw [wX1]; omega) (wj 0 (by decide) (by decide)) (wj 1 (by decide) (by decide)) (wj 2 (by decide) (by decide)) (wj 3 (by decide) (by decide)) (wj 4 (by decide) (by decide)) (z 7 (by decide)) (z 8 (by decide)) (z 9 (by decide)) (z 10 (by decide)) (z 11 (by decide)) ⟨by rw [d801, wX1], by rw [d802, z 0 (by decide)], fun k u1 u2 => ?_⟩ ?_ ?_ ?_ ?_ ?_, fun o u1 u2 => by
          have := z 7 (by decide)
          exact ⟨z _ (by omega), z _ (by omega)⟩, z 9 (by decide), z 10 (by decide), z 7 (by decide), z 8 (by decide)⟩
        · rw [show (580 : Int) + 1 = 581 by decide, d81, wX _ (by omega)]
          exact (h1 k u1 (by omega)).1
        · rw [show (580 : Int) + 2 = 582 by decide, dX 582 (by decide)]; exact h4
        · rw [show (580 : Int) + 10 = 590 by decide, dX 590 (by decide)]; exact h5
        · rw [show (580 : Int) + 49 = 629 by decide, dX 629 (by decide)]; exact h6
        · rw [show (580 : Int) + 57 = 637 by decide, dX 637 (by decide)]; exact h7
        · rw [show (580 : Int) + 57 = 637 by decide, dX 637 (by decide)]; exact h8
      · rw [badBody t5.ne, badEnd t5.ne]
        exact Or.inr ⟨t4, fr, t5⟩
    · rw [if_pos q1]
      have n1 : ¬ mset (g_197 769 0 99999 e) 770 1 (v_197 769 0 99999 e) 769 13 = 0 := by rw [fm _ 769 (by decide)]; exact q2.ne
      unfold rLast
      rw [bad195 n1, badBody n1, badEnd n1]
      refine Or.inr ⟨rfl, ⟨fun b hb => a1 b (by omega) (by omega), fun k y z => by rw [fm _ k z, a2.1 k y], fun j hj => by rw [fm _ 769 (by decide), a2.2 j hj]⟩, ?_⟩
      obtain ⟨c, p, k1, k2, k3⟩ := q2
      refine ⟨c, p, k1, k2, ?_⟩
      unfold BadR
      rw [fm _ 769 (by decide)]
      exact k3
  intro n
  induction n with
  | zero =>
    intro x d e hs h0 h1 hn hh
    exact last _ _ x d e hs (by omega) hh
  | succ n ih =>
    intro x d e hs h0 h1 hn hh
    by_cases c : x < 5
    · have ec : lp_14_13 576 (n + 1) x d = if v_25 576 (olds 0 x) (olds 1 x) d = 0 then (0, g_25 576 (olds 0 x) (olds 1 x) d) else lp_14_13 576 n (x + 1) (mset (g_25 576 (olds 0 x) (olds 1 x) d) 581 x (g_25 576 (olds 0 x) (olds 1 x) d 576 4)) := by
        show st_14_13 576 _ x d = _
        unfold st_14_13
        rw [if_pos c, show (576 : Int) + 4 + 1 = 581 by decide]
      have er : lp_206_53 769 (n + 1) x e = lp_206_53 769 n (x + 1) (mset (g_197 769 (olds 0 x) (olds 1 x) e) 770 (2 + x) (v_197 769 (olds 0 x) (olds 1 x) e)) := by
        show st_206_53 769 _ x e = _
        unfold st_206_53
        rw [if_pos c, show (769 : Int) + 1 = 770 by decide, old0 ⟨h0, c⟩, old1 ⟨h0, c⟩]
      rw [ec, er]
      obtain ⟨a1, a2, a3⟩ := takeNum (lo := olds 0 x) (hi := olds 1 x) hs
      have fm : ∀ u : mD, ∀ b, ¬ b = 770 → mset u 770 (2 + x) (v_197 769 (olds 0 x) (olds 1 x) e) b = u b := fun u b hb => by
        funext j
        exact ms_a hb
      rcases a3 with ⟨q1, q2, q3, q4, q5⟩ | ⟨q1, q2, q3⟩
      · rw [if_neg (by omega), q3]
        generalize hv : v_197 769 (olds 0 x) (olds 1 x) e = v at *
        generalize g_197 769 (olds 0 x) (olds 1 x) e = E1 at *
        generalize g_25 576 (olds 0 x) (olds 1 x) d = D1 at *
        have fd : ∀ b, (b < 580 ∨ 581 < b) → mset D1 581 x v b = D1 b := f8 D1 581 x v (Or.inr rfl)
        have s2 : Syn (mset D1 581 x v) (mset E1 770 (2 + x) v) := (q2.c (fd 577 (by decide)) (fd 578 (by decide)) (fd 579 (by decide))).r (fm _ 769 (by decide)) (fm _ 776 (by decide))
        have fr : LdFr d (mset D1 581 x v) e (mset E1 770 (2 + x) v) := ⟨fun b hb => by rw [fd b (by omega), a1 b (by omega) (by omega)], fun k y z => by rw [fm _ k z, a2.1 k y], fun j hj => by rw [fm _ 769 (by decide), a2.2 j hj]⟩
        obtain ⟨g1, g2, g3, g4, g5, g6, g7, g8⟩ := hh
        have dX : ∀ b, 581 < b → mset D1 581 x v b = d b := fun b hb => by rw [fd b (by omega), a1 b (by omega) (by omega)]
        have hd : HD (x + 1) (mset D1 581 x v) (mset E1 770 (2 + x) v) := by
          refine ⟨fun j u1 u2 => ?_, fun j hj => ?_, ?_, by rw [dX 582 (by decide)]; exact g4, by rw [dX 590 (by decide)]; exact g5, by rw [dX 629 (by decide)]; exact g6, by rw [dX 637 (by decide)]; exact g7, by rw [dX 637 (by decide)]; exact g8⟩
          · by_cases y : j = x
            · subst y
              rw [ms_e rfl rfl, ms_e rfl rfl]
              exact ⟨rfl, q4, q5⟩
            · rw [ms_i y, ms_i (by omega), a1 581 (by decide) (by decide), a2.1 770 (by decide)]
              exact g1 j u1 (by omega)
          · rw [ms_i (by omega), a2.1 770 (by decide)]
            exact g2 j hj
          · rw [ms_a (by decide), a1 580 (by decide) (by decide)]
            exact g3
        have e9 : mset E1 770 (2 + x) v 769 9 = e 769 9 := fr.2.2 9 (by decide)
        rcases ih (x + 1) (mset D1 581 x v) (mset E1 770 (2 + x) v) s2 (by omega) (by omega) (by omega) hd with ⟨k1, X, k2, k3, k4⟩ | ⟨k1, k2, k3⟩
        · rw [e9] at k3
          exact Or.inl ⟨k1, X, fr.trans k2, k3, k4⟩
        · exact Or.inr ⟨k1, fr.trans k2, k3⟩
      · rw [if_pos q1]
        have n1 : ¬ mset (g_197 769 (olds 0 x) (olds 1 x) e) 770 (2 + x) (v_197 769 (olds 0 x) (olds 1 x) e) 769 13 = 0 := by rw [fm _ 769 (by decide)]; exact q2.ne
        have bh := badHead n (x + 1) _ n1
        refine Or.inr ⟨rfl, ⟨fun b hb => a1 b (by omega) (by omega), fun k y z => by rw [bh k z, fm _ k z, a2.1 k y], fun j hj => by rw [bh 769 (by decide), fm _ 769 (by decide), a2.2 j hj]⟩, ?_⟩
        obtain ⟨c, p, k1, k2, k3⟩ := q2
        refine ⟨c, p, k1, k2, ?_⟩
        unfold BadR
        rw [bh 769 (by decide), fm _ 769 (by decide)]
        exact k3
    · exact last _ _ x d e hs (by omega) hh
/-! ===== a text is read: class and reference ===== -/
theorem zrow : ∀ (n : Nat) (x : Int) (e : mD), 0 ≤ x → x ≤ 3116 → 3116 - x ≤ (n : Int) → ∃ e1, lp_206_12 769 n x e = (if v_194 769 40216062 e1 = 0 then lp_206_53 769 5 0 (g_188 769 1 (g_194 769 40216062 e1 769 10) (g_194 769 40216062 e1)) else lp_206_53 769 5 0 (g_194 769 40216062 e1)) ∧ (∀ b, ¬ b = 770 → e1 b = e b) ∧ (∀ j, x ≤ j → j < 3116 → e1 770 j = 0) ∧ ∀ j, j < x → e1 770 j = e 770 j := by
  intro n
  induction n with
  | zero =>
    intro x e h0 h1 hn
    refine ⟨e, ?_, fun _ _ => rfl, fun j a b => by omega, fun _ _ => rfl⟩
    show st_206_12 769 _ x e = _
    unfold st_206_12
    rw [if_neg (by omega)]
    rfl
  | succ n ih =>
    intro x e h0 h1 hn
    by_cases c : x < 3116
    · obtain ⟨e1, q1, q2, q3, q4⟩ := ih (x + 1) (mset e 770 x 0) (by omega) (by omega) (by omega)
      refine ⟨e1, ?_, fun b hb => ?_, fun j a b => ?_, fun j a => ?_⟩
      · rw [← q1]
        show st_206_12 769 _ x e = _
        unfold st_206_12
        rw [if_pos c, show (769 : Int) + 1 = 770 by decide]
      · rw [q2 b hb]
        funext j
        exact ms_a hb
      · by_cases z : j = x
        · rw [q4 j (by omega), ms_e rfl z]
        · exact q3 j (by omega) b
      · rw [q4 j (by omega), ms_i (by omega)]
    · refine ⟨e, ?_, fun _ _ => rfl, fun j a b => by omega, fun _ _ => rfl⟩
      show st_206_12 769 _ x e = _
      unfold st_206_12
      rw [if_neg c]
      rfl
theorem at194 {c : Int} {e : mD} (h : v_194 769 c e = 0) : g_194 769 c e 769 10 = g_189 769 e 769 10 := by
  unfold v_194 at h
  unfold g_194
  by_cases c1 : g_189 769 e 769 13 = 0
  · rw [if_pos c1] at h ⊢
    by_cases c2 : mcmp (v_193 769 8 (g_189 769 e)) c = 0
    · rw [if_pos c2] at h
      omega
    · rw [if_neg c2]
      exact ms_e rfl rfl
  · rw [if_neg c1]
    exact ms_e rfl rfl
theorem loadHead {d e : mD} (ht : TextR d e) : (v_14 576 (g_13 576 d) = 1 ∧ ∃ X, LdFr d (g_14 576 (g_13 576 d)) e X ∧ g_206 769 e = rEnd (e 769 9) (rBody X) ∧ LO (g_14 576 (g_13 576 d)) X 0) ∨ (v_14 576 (g_13 576 d) = 0 ∧ LdFr d (g_14 576 (g_13 576 d)) e (g_206 769 e) ∧ Fail (g_14 576 (g_13 576 d)) (g_206 769 e)) := by
  obtain ⟨t1, t2, t3⟩ := ht
  obtain ⟨e1, p1, p2, p3, -⟩ := zrow 3116 0 (mset (mset e 769 10 0) 769 13 0) (by decide) (by decide) (by decide)
  have er : g_206 769 e = if v_194 769 40216062 e1 = 0 then lp_206_53 769 5 0 (g_188 769 1 (g_194 769 40216062 e1 769 10) (g_194 769 40216062 e1)) else lp_206_53 769 5 0 (g_194 769 40216062 e1) := by
    rw [← p1]
    rfl
  have q9 : e1 769 = mset (mset e 769 10 0) 769 13 0 769 := p2 769 (by decide)
  have q10 : e1 769 10 = 0 := by rw [q9, ms_i (by decide), ms_e rfl rfl]
  have q13 : e1 769 13 = 0 := by rw [q9, ms_e rfl rfl]
  have qj : ∀ j, j < 10 ∨ 16 < j → e1 769 j = e 769 j := fun j hj => by rw [q9, ms_i (by omega), ms_i (by omega)]
  have qk : ∀ k, ¬ k = 769 → ¬ k = 770 → e1 k = e k := fun k a b => by
    rw [p2 k b]
    funext j
    rw [ms_a a, ms_a a]
  generalize hD : mset (g_58 580 (mset (mset d 576 2 0) 576 3 (-1))) 577 3 0 = D
  have eg : g_13 576 d = g_52 577 D := by
    rw [← hD]
    rfl
  have D3 : D 577 3 = 0 := by rw [← hD]; exact ms_e rfl rfl
  have Df : ∀ b, (b < 576 ∨ 642 < b ∨ b = 578 ∨ b = 579) → D b = d b := fun b hb => by
    rw [← hD]
    unfold g_58
    funext j
    simp (disch := omega) only [ms_a]
  have D0 : D 580 2 = 0 ∧ D 582 0 = 0 ∧ D 590 0 = 0 ∧ D 629 0 = 0 ∧ D 637 0 = 0 ∧ D 637 5 = 0 := by
    rw [← hD]
    unfold g_58
    refine ⟨?_, ?_, ?_, ?_, ?_, ?_⟩ <;> simp (disch := omega) only [ms_a, ms_i, ms_e]
  clear hD
  have D8 : D 578 = d 578 := Df 578 (by decide)
  have D9 : D 579 = d 579 := Df 579 (by decide)
  obtain ⟨a1, a2, a3⟩ := adv (L := d 578 1) (d := D) (by rw [D8]) t1.2 (by omega) (by omega)
  rw [← eg] at a1 a2 a3
  rw [D3, D9] at a2
  rw [D9] at a3
  generalize g_13 576 d = d1 at *
  have d8 : d1 578 = d 578 := by rw [a1 578 (by decide), D8]
  have d9 : d1 579 = d 579 := by rw [a1 579 (by decide), D9]
  have hs : Syn d1 e1 := by
    refine ⟨?_, q13, ?_, ?_, ?_⟩
    · rw [d8, d9]
      refine ⟨t1, by rw [qj 9 (by decide)]; exact t2, fun i x y => ?_⟩
      rw [qk 776 (by decide) (by decide)]
      exact t3 i x y
    · rw [q10, d8]
      omega
    · rw [d8, d9, q10]
      exact a2
    · rw [d8, d9]
      exact a3
  have hd : HD 0 d1 e1 := ⟨fun j a b => by omega, fun j hj => p3 j (by omega) (by omega), by rw [a1 580 (by decide)]; exact D0.1, by rw [a1 582 (by decide)]; exact D0.2.1, by rw [a1 590 (by decide)]; exact D0.2.2.1, by rw [a1 629 (by decide)]; exact D0.2.2.2.1, by rw [a1 637 (by decide)]; exact D0.2.2.2.2.1, by rw [a1 637 (by decide)]; exact D0.2.2.2.2.2⟩
  have f0 : LdFr d d1 e e1 := ⟨fun b hb => by
    by_cases z : b = 577
    · omega
    · rw [a1 b z, Df b hb], qk, qj⟩
  have ec : ∀ v g, v_24 576 0 d1 = v → g_24 576 0 d1 = g → f_14 576 d1 = if v = 0 then (0, g) else lp_14_13 576 5 0 g := fun v g hv hg => by
    unfold f_14
    rw [hv, hg]
    rfl
  obtain ⟨i1, i2⟩ := isWord (w := 0) (code := 40216062) hs word0
  rw [er]
  unfold v_14 g_14
  rcases i2 with ⟨w1, w2, w3, w4⟩ | ⟨w1, w2, w3⟩
  · rw [ec 1 (g_52 577 d1) (by unfold v_24; rw [show (576 : Int) + 1 = 577 by decide, if_neg (by omega)]) (by unfold g_24; rw [show (576 : Int) + 1 = 577 by decide, if_neg (by omega)]), if_neg (by decide), if_neg (by omega)]
    generalize g_194 769 40216062 e1 = H at *
    have f1 : LdFr d (g_52 577 d1) e H := f0.trans (LdFr.of w4 i1)
    have hd2 : HD 0 (g_52 577 d1) H := by
      obtain ⟨h1, h2, h3, h4, h5, h6, h7, h8⟩ := hd
      exact ⟨fun j a b => by omega, fun j hj => by rw [i1.1 770 (by decide)]; exact h2 j hj, by rw [w4 580 (by decide) (by decide)]; exact h3, by rw [w4 582 (by decide) (by decide)]; exact h4, by rw [w4 590 (by decide) (by decide)]; exact h5, by rw [w4 629 (by decide) (by decide)]; exact h6, by rw [w4 637 (by decide) (by decide)]; exact h7, by rw [w4 637 (by decide) (by decide)]; exact h8⟩
    have e9 : H 769 9 = e 769 9 := f1.2.2 9 (by decide)
    rcases loopN 5 0 (g_52 577 d1) H w3 (by decide) (by decide) (by decide) hd2 with ⟨k1, X, k2, k3, k4⟩ | ⟨k1, k2, k3⟩
    · rw [e9] at k3
      exact Or.inl ⟨k1, X, f1.trans k2, k3, k4⟩
    · exact Or.inr ⟨k1, f1.trans k2, k3⟩
  · rw [ec 0 (g_32 576 1 d1) (by unfold v_24; rw [show (576 : Int) + 1 = 577 by decide, if_pos w1]; rfl) (by unfold g_24; rw [show (576 : Int) + 1 = 577 by decide, if_pos w1]), if_pos rfl, if_pos w2, at194 w2, hs.bl.2.2]
    obtain ⟨b1, b2⟩ := flt188 (c := 1) (p := d1 577 2) w3.2.1
    obtain ⟨c1, c2, c3⟩ := fail32 (c := 1) (d := d1)
    have bh := badHead 5 0 _ b1.ne
    have i1 := i1.trans b2
    generalize g_188 769 1 (d1 577 2) (g_194 769 40216062 e1) = H at *
    refine Or.inr ⟨rfl, f0.trans ⟨fun b hb => c3 b (by omega) (by omega), fun k y z => by rw [bh k z, i1.1 k y], fun j hj => by rw [bh 769 (by decide), i1.2 j hj]⟩, 1, d1 577 2, c1, c2, ?_⟩
    unfold BadR
    rw [bh 769 (by decide)]
    exact b1
theorem LdFr.end {d d' e e' : mD} {L : Int} (h : LdFr d d' e e') (hs : Syn d' e') (h3 : d' 577 1 = 3) (hL : L = d' 578 1) : LdFr d d' e (rEnd L e') ∧ rEnd L e' 769 13 = 0 ∧ rEnd L e' 770 = e' 770 := by
  obtain ⟨s1, s2, s3⟩ := hs.bl
  have tk := hs.2.2.2.2
  have hl := hs.2.2.2.1.2.1
  have hT : d' 577 2 = d' 578 1 := by
    rcases tk with ⟨a1, a2, a3⟩ | ⟨a1, a2, a3, a4⟩ | ⟨a1, a2, a3, a4⟩ | ⟨a1, a2, a3, a4⟩ | ⟨a1, a2, a3, a4, a5, a6⟩
    · exact a1
    · omega
    · omega
    · omega
    · omega
  have er : rEnd L e' = g_189 769 e' := by
    unfold rEnd
    rw [if_pos hs.2.1, s3, if_neg (by omega)]
  rw [er]
  exact ⟨h.trans (LdFr.of FrC.refl s2), s1.2.1, s2.1 770 (by decide)⟩
theorem endFail {D e' : mD} {L : Int} (hs : Syn D e') (h3 : ¬ D 577 1 = 3) (hL : L = D 578 1) : FrR e' (rEnd L e') ∧ Fail (g_32 576 1 D) (rEnd L e') := by
  obtain ⟨s1, s2, s3⟩ := hs.bl
  have tk := hs.2.2.2.2
  have hT : D 577 2 < D 578 1 := by
    rcases tk with ⟨a1, a2, a3⟩ | ⟨a1, a2, a3, a4⟩ | ⟨a1, a2, a3, a4⟩ | ⟨a1, a2, a3, a4⟩ | ⟨a1, a2, a3, a4, a5, a6⟩
    · exact absurd a2 h3
    · exact a1
    · exact a1
    · exact a1
    · exact a1
  have er : rEnd L e' = g_188 769 1 (D 577 2) (g_189 769 e') := by
    unfold rEnd
    rw [if_pos hs.2.1, s3, if_pos (by omega)]
  obtain ⟨b1, b2⟩ := flt188 (c := 1) (p := D 577 2) s1.2.1
  obtain ⟨c1, c2, c3⟩ := fail32 (c := 1) (d := D)
  rw [er]
  exact ⟨s2.trans b2, 1, D 577 2, c1, c2, b1⟩
