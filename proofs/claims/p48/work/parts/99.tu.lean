/-! ===== both readers side by side: an office by its name, the latest ticket of a person ===== -/
theorem takeOff {d e : mD} {w : Row} (h : Syn d e) (hr : RelO 580 d w) (hw : e 770 = w) (h7 : 0 ≤ w 7 ∧ w 7 ≤ 6) : FrC d (g_28 576 d) ∧ FrR e (g_200 769 e) ∧ ((v_28 576 d = 1 ∧ Syn (g_28 576 d) (g_200 769 e) ∧ g_28 576 d 576 6 = v_200 769 e ∧ 0 ≤ v_200 769 e ∧ v_200 769 e < w 7) ∨ (v_28 576 d = 0 ∧ Fail (g_28 576 d) (g_200 769 e))) := by
  generalize hf : v_36 582 (v_56 577 d) d = f
  have ev : v_28 576 d = if v_56 577 d = -1 then v_26 576 (mset d 576 6 f) else if f = -1 then 0 else v_26 576 (mset d 576 6 f) := by
    unfold v_28
    rw [show (576 : Int) + 1 = 577 by decide, show (576 : Int) + 4 + 2 = 582 by decide, hf, v56_c]
    rfl
  have eg : g_28 576 d = if v_56 577 d = -1 then g_26 576 (mset d 576 6 f) else if f = -1 then g_32 576 4 (mset d 576 6 f) else g_26 576 (mset d 576 6 f) := by
    unfold g_28
    rw [show (576 : Int) + 1 = 577 by decide, show (576 : Int) + 4 + 2 = 582 by decide, hf, v56_c]
  have h6 : Syn (mset d 576 6 f) e := h.c (by funext j; exact ms_a (by decide)) (by funext j; exact ms_a (by decide)) (by funext j; exact ms_a (by decide))
  have c6 : FrC d (mset d 576 6 f) := fun b x y => by funext j; exact ms_a x
  obtain ⟨n1, n2, n3, n4⟩ := takeName h6
  rw [v56_c] at n4
  have s2 : mset d 576 6 f 577 2 = d 577 2 := ms_a (by decide)
  rw [s2] at n3
  have w1 : g_198 769 e 770 = w := by rw [n2.1 770 (by decide)]; exact hw
  have er : v_184 769 (v_198 769 e) (g_198 769 e) = V_184 (v_198 769 e) w := by rw [m_v_184, w1]
  have gr : g_200 769 e = if V_184 (v_198 769 e) w = -1 then g_188 769 4 (d 577 2) (g_198 769 e) else g_198 769 e := by
    unfold g_200
    rw [er, n3]
  rcases n4 with ⟨o1, o2, o3, o4, o5⟩ | ⟨o1, o2, o3, o4⟩
  · have hne : ¬ v_56 577 d = -1 := by
      have := o1.1
      omega
    have ff : f = V_184 (v_198 769 e) w := by
      rw [← hf, o5]
      exact findO (s := 580) hr o1
    rw [if_neg hne] at ev eg
    by_cases c : f = -1
    · rw [if_pos c] at ev eg
      rw [if_pos (by rw [← ff]; exact c)] at gr
      obtain ⟨b1, b2⟩ := flt188 (c := 4) (p := d 577 2) o3.2.1
      obtain ⟨c1, c2, c3⟩ := fail32 (c := 4) (d := mset d 576 6 f)
      rw [s2] at c2
      rw [eg, gr]
      exact ⟨fun b x y => by rw [c3 b x y, c6 b x y], n2.trans b2, Or.inr ⟨ev, 4, d 577 2, c1, c2, b1⟩⟩
    · rw [if_neg c] at ev eg
      rw [if_neg (by rw [← ff]; exact c)] at gr
      have vr : v_200 769 e = f := by
        unfold v_200
        rw [er, ← ff, if_neg c, if_pos o3.2.1]
      have rg := V184_rng (m := v_198 769 e) (w := w) h7
      rw [← ff] at rg
      rw [eg, gr, vr]
      exact ⟨fun b x y => by rw [n1 b x y, c6 b x y], n2, Or.inl ⟨by rw [ev]; exact o2, o3, by rw [g26_6 h6 (by rw [v56_c]; exact hne), ms_e rfl rfl], by omega, by omega⟩⟩
  · rw [if_pos o1] at ev eg
    obtain ⟨c, p, q1, q2, q3⟩ := o3
    have stay : ∀ x, g_188 769 4 x (g_198 769 e) = g_198 769 e := fun x => by
      unfold g_188
      rw [if_neg (by rw [q3.1]; decide)]
    have gr2 : g_200 769 e = g_198 769 e := by
      rw [gr, stay]
      split <;> rfl
    rw [eg, gr2]
    exact ⟨fun b x y => by rw [n1 b x y, c6 b x y], n2, Or.inr ⟨by rw [ev]; exact o2, c, p, q1, q2, q3⟩⟩
-- the latest ticket
theorem lp100 {s p : Int} {d : mD} {w : Row} (hr : RelT s d w) : ∀ (n : Nat) (x : Int), x < w 9 → lp_100_7 (s + 49) p n x d = LP_201_10 p n x w := by
  have st : ∀ (r : Int → mD → Int) (R : Int → Row → Int) (x : Int), x < w 9 → (0 ≤ x → r (x + -1) d = R (x + -1) w) → st_100_7 (s + 49) p r x d = ST_201_10 p R x w := fun r R x a hr2 => by
    unfold st_100_7 ST_201_10
    by_cases c : x < 0
    · rw [if_pos c, if_pos c]
    · rw [if_neg c, if_neg c, show s + 49 + 1 = s + 50 by omega, (hr.2 x (by omega) a).1]
      by_cases z : w (452 + 24 * x + 0) = p
      · rw [if_pos z, if_pos z]
      · rw [if_neg z, if_neg z]
        exact hr2 (by omega)
  intro n
  induction n with
  | zero => intro x a; exact st _ _ x a (fun _ => rfl)
  | succ n ih => intro x a; exact st _ _ x a (fun _ => ih (x + -1) (by omega))
theorem latest {s p : Int} {d : mD} {w : Row} (hr : RelT s d w) : v_100 (s + 49) p d = V_201 p w := by
  unfold v_100 V_201
  rw [hr.1]
  exact lp100 hr _ _ (by omega)
theorem V201_rng {p : Int} {w : Row} : V_201 p w = -1 ∨ (0 ≤ V_201 p w ∧ V_201 p w < w 9 ∧ w (452 + 24 * V_201 p w + 0) = p) := by
  have st : ∀ (n : Nat) (x : Int), x < w 9 → x + 1 ≤ (n : Int) → LP_201_10 p n x w = -1 ∨ (0 ≤ LP_201_10 p n x w ∧ LP_201_10 p n x w < w 9 ∧ w (452 + 24 * LP_201_10 p n x w + 0) = p) := by
    intro n
    induction n with
    | zero =>
      intro x a b
      have e : LP_201_10 p 0 x w = -1 := by
        show ST_201_10 p _ x w = _
        unfold ST_201_10
        rw [if_pos (by omega)]
      exact Or.inl e
    | succ n ih =>
      intro x a b
      have e : LP_201_10 p (n + 1) x w = if x < 0 then -1 else if w (452 + 24 * x + 0) = p then x else LP_201_10 p n (x + -1) w := rfl
      by_cases c : x < 0
      · rw [if_pos c] at e
        exact Or.inl e
      · rw [if_neg c] at e
        by_cases z : w (452 + 24 * x + 0) = p
        · rw [if_pos z] at e
          rw [e]
          exact Or.inr ⟨by omega, a, z⟩
        · rw [if_neg z] at e
          rw [e]
          exact ih (x + -1) (by omega) (by omega)
  unfold V_201
  by_cases c : 0 ≤ w 9
  · exact st _ _ (by omega) (by omega)
  · have e : ∀ n, LP_201_10 p n (w 9 - 1) w = -1 := fun n => by
      have s : ∀ R, ST_201_10 p R (w 9 - 1) w = -1 := fun R => by
        unfold ST_201_10
        rw [if_pos (by omega)]
      cases n with
      | zero => exact s _
      | succ n => exact s _
    exact Or.inl (e _)
theorem takeTick {d e : mD} {w : Row} (h : Syn d e) (hr : RelP 580 d w) (ht : RelT 580 d w) (hw : e 770 = w) (h8 : 0 ≤ w 8 ∧ w 8 ≤ 16) : FrC d (g_29 576 d) ∧ FrR e (g_199 769 1 e) ∧ ((v_29 576 d = 1 ∧ Syn (g_29 576 d) (g_199 769 1 e) ∧ g_29 576 d 576 6 = V_201 (v_199 769 1 e) w ∧ (0 ≤ v_199 769 1 e ∧ v_199 769 1 e < w 8) ∧ 0 ≤ V_201 (v_199 769 1 e) w ∧ V_201 (v_199 769 1 e) w < w 9) ∨ (v_29 576 d = 0 ∧ Fail (g_29 576 d) (g_199 769 1 e))) := by
  generalize hp : v_48 590 (v_56 577 d) d = p
  generalize hf : (if p = -1 then -1 else v_100 629 p d) = f
  have ev : v_29 576 d = if v_56 577 d = -1 then v_26 576 (mset d 576 6 f) else if f = -1 then 0 else v_26 576 (mset d 576 6 f) := by
    unfold v_29
    rw [show (576 : Int) + 1 = 577 by decide, show (576 : Int) + 4 + 10 = 590 by decide, show (576 : Int) + 4 + 49 = 629 by decide, hp, v56_c, v56_c]
    by_cases c : p = -1
    · rw [if_pos c] at hf
      rw [if_pos c, ← hf]
      rfl
    · rw [if_neg c] at hf
      rw [if_neg c, hf]
      rfl
  have eg : g_29 576 d = if v_56 577 d = -1 then g_26 576 (mset d 576 6 f) else if f = -1 then g_32 576 4 (mset d 576 6 f) else g_26 576 (mset d 576 6 f) := by
    unfold g_29
    rw [show (576 : Int) + 1 = 577 by decide, show (576 : Int) + 4 + 10 = 590 by decide, show (576 : Int) + 4 + 49 = 629 by decide, hp, v56_c, v56_c]
    by_cases c : p = -1
    · rw [if_pos c] at hf
      rw [if_pos c, ← hf]
      rfl
    · rw [if_neg c] at hf
      rw [if_neg c, hf]
  have h6 : Syn (mset d 576 6 f) e := h.c (by funext j; exact ms_a (by decide)) (by funext j; exact ms_a (by decide)) (by funext j; exact ms_a (by decide))
  have c6 : FrC d (mset d 576 6 f) := fun b x y => by funext j; exact ms_a x
  obtain ⟨n1, n2, n3, n4⟩ := takeName h6
  rw [v56_c] at n4
  have s2 : mset d 576 6 f 577 2 = d 577 2 := ms_a (by decide)
  rw [s2] at n3
  have w1 : g_198 769 e 770 = w := by rw [n2.1 770 (by decide)]; exact hw
  have er : v_183 769 (v_198 769 e) (g_198 769 e) = V_183 (v_198 769 e) w := by rw [m_v_183, w1]
  have el : ∀ x, v_201 769 x (g_198 769 e) = V_201 x w := fun x => by rw [m_v_201, w1]
  have gr : g_199 769 1 e = if V_183 (v_198 769 e) w = -1 then g_188 769 4 (d 577 2) (g_198 769 e) else if V_201 (V_183 (v_198 769 e) w) w = -1 then g_188 769 4 (d 577 2) (g_198 769 e) else g_198 769 e := by
    unfold g_199
    rw [er, n3, if_neg (by decide : ¬ (1 : Int) = 0), el]
  rcases n4 with ⟨o1, o2, o3, o4, o5⟩ | ⟨o1, o2, o3, o4⟩
  · have hne : ¬ v_56 577 d = -1 := by
      have := o1.1
      omega
    have pp : p = V_183 (v_198 769 e) w := by
      rw [← hp, o5]
      exact findP (s := 580) hr o1
    have lt : v_100 629 p d = V_201 p w := latest (s := 580) ht
    rw [← pp] at gr
    rw [if_neg hne] at ev eg
    have gr2 : g_199 769 1 e = if f = -1 then g_188 769 4 (d 577 2) (g_198 769 e) else g_198 769 e := by
      rw [gr, ← hf, lt]
      by_cases c : p = -1
      · rw [if_pos c, if_pos c, if_pos rfl]
      · rw [if_neg c, if_neg c]
    by_cases c : f = -1
    · rw [if_pos c] at ev eg gr2
      obtain ⟨b1, b2⟩ := flt188 (c := 4) (p := d 577 2) o3.2.1
      obtain ⟨c1, c2, c3⟩ := fail32 (c := 4) (d := mset d 576 6 f)
      rw [s2] at c2
      rw [eg, gr2]
      exact ⟨fun b x y => by rw [c3 b x y, c6 b x y], n2.trans b2, Or.inr ⟨ev, 4, d 577 2, c1, c2, b1⟩⟩
    · rw [if_neg c] at ev eg gr2
      have pne : ¬ p = -1 := fun y => c (by rw [← hf, if_pos y])
      rw [if_neg pne, lt] at hf
      have vr : v_199 769 1 e = p := by
        unfold v_199
        rw [er, ← pp, if_neg pne, if_neg (by decide : ¬ (1 : Int) = 0), el, hf, if_neg c, if_pos o3.2.1]
      have rg := V183_rng (m := v_198 769 e) (w := w) h8
      rw [← pp] at rg
      have rl := V201_rng (p := p) (w := w)
      rw [hf] at rl
      rw [eg, gr2, vr, hf]
      exact ⟨fun b x y => by rw [n1 b x y, c6 b x y], n2, Or.inl ⟨by rw [ev]; exact o2, o3, by rw [g26_6 h6 (by rw [v56_c]; exact hne), ms_e rfl rfl], by omega, by omega, by omega⟩⟩
  · rw [if_pos o1] at ev eg
    obtain ⟨c, p2, q1, q2, q3⟩ := o3
    have stay : ∀ x, g_188 769 4 x (g_198 769 e) = g_198 769 e := fun x => by
      unfold g_188
      rw [if_neg (by rw [q3.1]; decide)]
    have gr2 : g_199 769 1 e = g_198 769 e := by
      rw [gr, stay]
      split
      · rfl
      · split <;> rfl
    rw [eg, gr2]
    exact ⟨fun b x y => by rw [n1 b x y, c6 b x y], n2, Or.inr ⟨by rw [ev]; exact o2, c, p2, q1, q2, q3⟩⟩
/-! ===== both readers side by side: the rest of an office, the rest of a person ===== -/
theorem bad197 {lo hi : Int} {e : mD} (h : ¬ e 769 13 = 0) : g_197 769 lo hi e = e := by
  unfold g_197 f_197
  rw [if_neg h]
theorem bad195 {e : mD} (h : ¬ e 769 13 = 0) : g_195 769 e = e := by
  unfold g_195
  rw [if_neg h]
theorem BadR.ne {c p : Int} {e : mD} (h : BadR c p e) : ¬ e 769 13 = 0 := by
  rw [h.1]
  decide
theorem Fail.ne {d e : mD} (h : Fail d e) : ¬ e 769 13 = 0 := by
  obtain ⟨c, p, -, -, h⟩ := h
  exact h.ne
theorem FrC.refl {d : mD} : FrC d d := fun _ _ _ => rfl
theorem FrC.trans {a b c : mD} (h : FrC a b) (g : FrC b c) : FrC a c := fun k x y => (g k x y).trans (h k x y)
theorem v2501 {lo hi : Int} {d : mD} : v_25 576 lo hi d = 0 ∨ v_25 576 lo hi d = 1 := by
  unfold v_25
  split
  · split
    · exact Or.inl rfl
    · split
      · exact Or.inl rfl
      · exact Or.inr rfl
  · exact Or.inl rfl
theorem officeTail {d e : mD} (h : Syn d e) (X : mD) : ∃ F, (if v_25 576 1 4 d = 0 then g_25 576 1 4 d else if v_25 576 1 6 (g_25 576 1 4 d) = 0 then g_25 576 1 6 (g_25 576 1 4 d) else if v_25 576 1 20 (g_25 576 1 6 (g_25 576 1 4 d)) = 0 then g_25 576 1 20 (g_25 576 1 6 (g_25 576 1 4 d)) else if v_31 576 (g_25 576 1 20 (g_25 576 1 6 (g_25 576 1 4 d))) = 0 then g_31 576 (g_25 576 1 20 (g_25 576 1 6 (g_25 576 1 4 d))) else X) = F ∧ FrR e (g_195 769 (g_197 769 1 20 (g_197 769 1 6 (g_197 769 1 4 e)))) ∧
    ((F = X ∧ (if v_25 576 1 4 d = 0 then 0 else if v_25 576 1 6 (g_25 576 1 4 d) = 0 then 0 else if v_25 576 1 20 (g_25 576 1 6 (g_25 576 1 4 d)) = 0 then 0 else if v_31 576 (g_25 576 1 20 (g_25 576 1 6 (g_25 576 1 4 d))) = 0 then 0 else 1) = (1 : Int) ∧ Syn (g_31 576 (g_25 576 1 20 (g_25 576 1 6 (g_25 576 1 4 d)))) (g_195 769 (g_197 769 1 20 (g_197 769 1 6 (g_197 769 1 4 e)))) ∧ FrC d (g_31 576 (g_25 576 1 20 (g_25 576 1 6 (g_25 576 1 4 d)))) ∧ (g_25 576 1 4 d 576 4 = v_197 769 1 4 e ∧ 1 ≤ v_197 769 1 4 e ∧ v_197 769 1 4 e ≤ 4) ∧ (g_25 576 1 6 (g_25 576 1 4 d) 576 4 = v_197 769 1 6 (g_197 769 1 4 e) ∧ 1 ≤ v_197 769 1 6 (g_197 769 1 4 e) ∧ v_197 769 1 6 (g_197 769 1 4 e) ≤ 6) ∧ (g_25 576 1 20 (g_25 576 1 6 (g_25 576 1 4 d)) 576 4 = v_197 769 1 20 (g_197 769 1 6 (g_197 769 1 4 e)) ∧ 1 ≤ v_197 769 1 20 (g_197 769 1 6 (g_197 769 1 4 e)) ∧ v_197 769 1 20 (g_197 769 1 6 (g_197 769 1 4 e)) ≤ 20))
    ∨ ((if v_25 576 1 4 d = 0 then 0 else if v_25 576 1 6 (g_25 576 1 4 d) = 0 then 0 else if v_25 576 1 20 (g_25 576 1 6 (g_25 576 1 4 d)) = 0 then 0 else if v_31 576 (g_25 576 1 20 (g_25 576 1 6 (g_25 576 1 4 d))) = 0 then 0 else 1) = (0 : Int) ∧ FrC d F ∧ Fail F (g_195 769 (g_197 769 1 20 (g_197 769 1 6 (g_197 769 1 4 e)))))) := by
  refine ⟨_, rfl, ?_⟩
  obtain ⟨c1, r1, o1⟩ := takeNum (lo := 1) (hi := 4) h
  rcases o1 with ⟨v1, s1, m1, l1, u1⟩ | ⟨v1, f1, -⟩
  · obtain ⟨c2, r2, o2⟩ := takeNum (lo := 1) (hi := 6) s1
    rcases o2 with ⟨v2, s2, m2, l2, u2⟩ | ⟨v2, f2, -⟩
    · obtain ⟨c3, r3, o3⟩ := takeNum (lo := 1) (hi := 20) s2
      rcases o3 with ⟨v3, s3, m3, l3, u3⟩ | ⟨v3, f3, -⟩
      · obtain ⟨-, -, c4, r4, o4, -⟩ := takeSemi s3
        have fr := ((r1.trans r2).trans r3).trans r4
        have fc := ((c1.trans c2).trans c3).trans c4
        rcases o4 with ⟨v4, s4⟩ | ⟨v4, f4⟩
        · simp only [v1, v2, v3, v4, if_neg (by decide : ¬ (1 : Int) = 0)]
          exact ⟨fr, Or.inl ⟨trivial, trivial, s4, fc, ⟨m1, l1, u1⟩, ⟨m2, l2, u2⟩, m3, l3, u3⟩⟩
        · simp only [v1, v2, v3, v4, if_neg (by decide : ¬ (1 : Int) = 0), if_true]
          exact ⟨fr, Or.inr ⟨trivial, fc, f4⟩⟩
      · have b := bad195 f3.ne
        rw [b]
        simp only [v1, v2, v3, if_neg (by decide : ¬ (1 : Int) = 0), if_true]
        exact ⟨(r1.trans r2).trans r3, Or.inr ⟨trivial, (c1.trans c2).trans c3, f3⟩⟩
    · have b := bad197 (lo := 1) (hi := 20) f2.ne
      rw [b, bad195 f2.ne]
      simp only [v1, v2, if_neg (by decide : ¬ (1 : Int) = 0), if_true]
      exact ⟨r1.trans r2, Or.inr ⟨trivial, c1.trans c2, f2⟩⟩
  · rw [bad197 (lo := 1) (hi := 6) f1.ne, bad197 (lo := 1) (hi := 20) f1.ne, bad195 f1.ne]
    simp only [v1, if_true]
    exact ⟨r1, Or.inr ⟨trivial, c1, f1⟩⟩
/-! ===== an office is read ===== -/
theorem f35 {c x y z : Int} {d : mD} : ∀ b, ¬ (582 ≤ b ∧ b ≤ 588) → g_35 582 c x y z d b = d b := fun b hb => by
  unfold g_35
  split
  · funext j
    simp (disch := omega) only [ms_a]
  · rfl
theorem Syn.r {d e e' : mD} (h : Syn d e) (e1 : e' 769 = e 769) (e2 : e' 776 = e 776) : Syn d e' := by
  unfold Syn TX
  rw [e1, e2]
  exact h
theorem OKR.frc {d d' : mD} {w : Row} (h : OKR 580 d w) (hc : FrC d d') : OKR 580 d' w := h.fr (fun b x y => hc b (by omega) (by omega))
def LdFr (d0 d e0 e : mD) : Prop := (∀ b, (b < 576 ∨ 642 < b ∨ b = 578 ∨ b = 579) → d b = d0 b) ∧ (∀ k, ¬ k = 769 → ¬ k = 770 → e k = e0 k) ∧ ∀ j, j < 10 ∨ 16 < j → e 769 j = e0 769 j
theorem LdFr.of {d0 d e0 e : mD} (h : FrC d0 d) (g : FrR e0 e) : LdFr d0 d e0 e := ⟨fun b hb => h b (by omega) (by omega), fun k x _ => g.1 k x, g.2⟩
theorem readOff {d0 e : mD} (h : Syn (g_52 577 d0) e) (hc : FrC d0 (g_52 577 d0)) (hk : OKR 580 d0 (e 770)) (hz : GZ (e 770)) (h9 : e 770 9 = 0) (h10 : e 770 10 = 0) (h7 : e 770 7 < 6) : LdFr d0 (g_16 576 d0) e (g_202 769 e) ∧ ((v_16 576 d0 = 1 ∧ Syn (g_16 576 d0) (g_202 769 e) ∧ OKR 580 (g_16 576 d0) (g_202 769 e 770) ∧ GZ (g_202 769 e 770) ∧ g_202 769 e 770 7 = e 770 7 + 1 ∧ g_202 769 e 770 8 = e 770 8 ∧ g_202 769 e 770 9 = 0 ∧ g_202 769 e 770 10 = 0) ∨ (v_16 576 d0 = 0 ∧ Fail (g_16 576 d0) (g_202 769 e))) := by
  have o7 : d0 582 0 = e 770 7 := hk.2.2.2.2.2.1.1
  have hk1 := hk.frc hc
  have rO := hk1.2.2.2.2.2.1
  generalize hw : e 770 = w at *
  unfold v_16 g_16
  rw [show (576 : Int) + 1 = 577 by decide, show (576 : Int) + 4 + 2 = 582 by decide, o7, if_pos h7, if_pos h7]
  generalize g_52 577 d0 = d at *
  obtain ⟨n1, n2, n3, n4⟩ := takeName h
  have w1 : g_198 769 e 770 = w := by rw [n2.1 770 (by decide)]; exact hw
  have er : v_184 769 (v_198 769 e) (g_198 769 e) = V_184 (v_198 769 e) w := by rw [m_v_184, w1]
  rcases n4 with ⟨o1, o2, o3, o4, o5⟩ | ⟨o1, o2, o3, o4⟩
  · have hne : ¬ v_56 577 d = -1 := by
      have := o1.1
      omega
    have ff : v_36 582 (v_56 577 d) d = V_184 (v_198 769 e) w := by
      rw [o5]
      exact findO (s := 580) rO o1
    have n26 : ¬ v_26 576 d = 0 := by rw [o2]; decide
    rw [if_neg hne, if_neg hne, ff]
    by_cases c : V_184 (v_198 769 e) w = -1
    · rw [if_pos c, if_pos c, if_neg n26, if_neg n26]
      obtain ⟨F, t1, t2, t3⟩ := officeTail o3 (g_35 582 (g_26 576 d 576 5) (g_25 576 1 4 (g_26 576 d) 576 4) (g_25 576 1 6 (g_25 576 1 4 (g_26 576 d)) 576 4) (g_25 576 1 20 (g_25 576 1 6 (g_25 576 1 4 (g_26 576 d))) 576 4) (g_31 576 (g_25 576 1 20 (g_25 576 1 6 (g_25 576 1 4 (g_26 576 d))))))
      rw [t1]
      have gr : g_202 769 e = if g_195 769 (g_197 769 1 20 (g_197 769 1 6 (g_197 769 1 4 (g_198 769 e)))) 769 13 = 0 then g_181 769 (v_198 769 e) (v_197 769 1 4 (g_198 769 e)) (v_197 769 1 6 (g_197 769 1 4 (g_198 769 e))) (v_197 769 1 20 (g_197 769 1 6 (g_197 769 1 4 (g_198 769 e)))) (g_195 769 (g_197 769 1 20 (g_197 769 1 6 (g_197 769 1 4 (g_198 769 e))))) else g_195 769 (g_197 769 1 20 (g_197 769 1 6 (g_197 769 1 4 (g_198 769 e)))) := by
        unfold g_202
        rw [if_pos o3.2.1, er, if_pos c]
      rw [gr]
      rcases t3 with ⟨f1, f2, f3, f4, ⟨m1, m2, m3⟩, ⟨m4, m5, m6⟩, m7, m8, m9⟩ | ⟨f1, f2, f3⟩
      · rw [if_pos f3.2.1, f2, f1, m1, m4, m7, o4]
        generalize v_197 769 1 4 (g_198 769 e) = x1 at *
        generalize v_197 769 1 6 (g_197 769 1 4 (g_198 769 e)) = x2 at *
        generalize v_197 769 1 20 (g_197 769 1 6 (g_197 769 1 4 (g_198 769 e))) = x3 at *
        generalize g_195 769 (g_197 769 1 20 (g_197 769 1 6 (g_197 769 1 4 (g_198 769 e)))) = E at *
        generalize g_31 576 (g_25 576 1 20 (g_25 576 1 6 (g_25 576 1 4 (g_26 576 d)))) = D at *
        have hD := (hk1.frc n1).frc f4
        have wE : E 770 = w := by rw [t2.1 770 (by decide)]; exact w1
        obtain ⟨a1, a2, a3, a4, a5⟩ := addO (c := v_56 577 d) (a1 := x1) (a2 := x2) (a3 := x3) hD.1 hz hD.2.2.2.2 h7 h9 h10 o1 ⟨m2, m3⟩ ⟨m5, m6⟩ ⟨m8, m9⟩
        have xr := addOX hD.1 a5
        obtain ⟨x4, x5⟩ := xr.1 hD.2.1 hD.2.2.1
        rw [m_g_181, wE, o5]
        have r7 : ∀ u, rset E u 770 = u := fun u => by unfold rset; simp
        have rn : ∀ u b, ¬ b = 770 → rset E u b = E b := fun u b hb => by unfold rset; simp [hb]
        refine ⟨⟨fun b hb => ?_, fun k x y => ?_, fun j hj => ?_⟩, Or.inl ⟨rfl, ?_, ?_, ?_, ?_, ?_, ?_, ?_⟩⟩
        · rw [f35 b (by omega), f4 b (by omega) (by omega), n1 b (by omega) (by omega), hc b (by omega) (by omega)]
        · rw [rn _ k y, t2.1 k x, n2.1 k x]
        · rw [rn _ 769 (by decide), t2.2 j hj, n2.2 j hj]
        · exact (f3.c (f35 577 (by decide)) (f35 578 (by decide)) (f35 579 (by decide))).r (rn _ 769 (by decide)) (rn _ 776 (by decide))
        · rw [r7]
          exact ⟨a1, x4, x5, by rw [xr.2]; exact hD.2.2.2.1, a3⟩
        · rw [r7]; exact a2
        · rw [r7]; exact a4
        · rw [r7]; exact a5 8 (by decide) (by decide)
        · rw [r7, a5 9 (by decide) (by decide)]; exact h9
        · rw [r7, a5 10 (by decide) (by decide)]; exact h10
      · rw [if_neg f3.ne, f1]
        exact ⟨LdFr.of ((hc.trans n1).trans f2) (n2.trans t2), Or.inr ⟨rfl, f3⟩⟩
    · rw [if_neg c, if_neg c]
      obtain ⟨b1, b2⟩ := flt188 (c := 3) (p := d 577 2) o3.2.1
      obtain ⟨c1, c2, c3⟩ := fail32 (c := 3) (d := d)
      have gr : g_202 769 e = g_188 769 3 (d 577 2) (g_198 769 e) := by
        unfold g_202
        rw [if_pos o3.2.1, er, if_neg c, n3, bad197 b1.ne, bad197 b1.ne, bad197 b1.ne, bad195 b1.ne, if_neg b1.ne]
      rw [gr]
      exact ⟨LdFr.of (hc.trans c3) (n2.trans b2), Or.inr ⟨rfl, 3, d 577 2, c1, c2, b1⟩⟩
  · rw [if_pos o1, if_pos o1, if_pos o2, if_pos o2]
    have gr : g_202 769 e = g_198 769 e := by
      unfold g_202
      rw [if_neg o3.ne, bad197 o3.ne, bad197 o3.ne, bad197 o3.ne, bad195 o3.ne, if_neg o3.ne]
    rw [gr]
    exact ⟨LdFr.of (hc.trans n1) n2, Or.inr ⟨rfl, o3⟩⟩
/-! ===== a person is read ===== -/
theorem f47 {c : Int} {d : mD} (h0 : 0 ≤ d 590 0) : ∀ b, (b < 590 ∨ 642 < b) → g_47 590 c d b = d b := fun b hb => by
  unfold g_47
  split
  · have eh : g_8 (590 + 6 + (1 + 2 * d 590 0)) = fun e => mfl e (598 + 2 * d 590 0) 0 16 := by
      funext e
      unfold g_8 g_300
      rw [show 590 + 6 + (1 + 2 * d 590 0) + 1 = 598 + 2 * d 590 0 by omega]
    rw [eh]
    funext j
    simp (disch := omega) only [ms_a, fl_n]
  · rfl
theorem personTail {d e : mD} (h : Syn d e) : FrR e (g_195 769 e) ∧ ((v_31 576 d = 1 ∧ Syn (g_31 576 d) (g_195 769 e) ∧ FrC d (g_31 576 d)) ∨ (v_31 576 d = 0 ∧ FrC d (g_31 576 d) ∧ Fail (g_31 576 d) (g_195 769 e))) := by
  obtain ⟨-, -, c4, r4, o4, -⟩ := takeSemi h
  rcases o4 with ⟨v4, s4⟩ | ⟨v4, f4⟩
  · exact ⟨r4, Or.inl ⟨v4, s4, c4⟩⟩
  · exact ⟨r4, Or.inr ⟨v4, c4, f4⟩⟩
theorem readPer {d0 e : mD} (h : Syn (g_52 577 d0) e) (hc : FrC d0 (g_52 577 d0)) (hk : OKR 580 d0 (e 770)) (h8 : e 770 8 < 16) : LdFr d0 (g_18 576 d0) e (g_203 769 e) ∧ ((v_18 576 d0 = 1 ∧ Syn (g_18 576 d0) (g_203 769 e) ∧ OKR 580 (g_18 576 d0) (g_203 769 e 770) ∧ g_203 769 e 770 8 = e 770 8 + 1 ∧ ∀ i, ¬ i = 8 → ¬ (420 ≤ i ∧ i < 452) → g_203 769 e 770 i = e 770 i) ∨ (v_18 576 d0 = 0 ∧ Fail (g_18 576 d0) (g_203 769 e))) := by
  have o8 : d0 590 0 = e 770 8 := hk.2.2.2.2.2.2.2.1.1
  have hk1 := hk.frc hc
  have rP := hk1.2.2.2.2.2.2.2.1
  have n8 := hk.1.1.2.1
  generalize hw : e 770 = w at *
  unfold v_18 g_18
  rw [show (576 : Int) + 1 = 577 by decide, show (576 : Int) + 4 + 10 = 590 by decide, o8, if_pos h8, if_pos h8]
  generalize g_52 577 d0 = d at *
  obtain ⟨n1, n2, n3, n4⟩ := takeName h
  have w1 : g_198 769 e 770 = w := by rw [n2.1 770 (by decide)]; exact hw
  have er : v_183 769 (v_198 769 e) (g_198 769 e) = V_183 (v_198 769 e) w := by rw [m_v_183, w1]
  rcases n4 with ⟨o1, o2, o3, o4, o5⟩ | ⟨o1, o2, o3, o4⟩
  · have hne : ¬ v_56 577 d = -1 := by
      have := o1.1
      omega
    have ff : v_48 590 (v_56 577 d) d = V_183 (v_198 769 e) w := by
      rw [o5]
      exact findP (s := 580) rP o1
    have n26 : ¬ v_26 576 d = 0 := by rw [o2]; decide
    rw [if_neg hne, if_neg hne, ff]
    by_cases c : V_183 (v_198 769 e) w = -1
    · rw [if_pos c, if_pos c, if_neg n26, if_neg n26]
      obtain ⟨t2, t3⟩ := personTail o3
      have gr : g_203 769 e = if g_195 769 (g_198 769 e) 769 13 = 0 then g_182 769 (v_198 769 e) (g_195 769 (g_198 769 e)) else g_195 769 (g_198 769 e) := by
        unfold g_203
        rw [if_pos o3.2.1, er, if_pos c]
      rw [gr]
      rcases t3 with ⟨f1, f3, f4⟩ | ⟨f1, f4, f3⟩
      · have n31 : ¬ v_31 576 (g_26 576 d) = 0 := by rw [f1]; decide
        rw [if_pos f3.2.1, if_neg n31, if_neg n31, o4]
        generalize g_195 769 (g_198 769 e) = E at *
        generalize g_31 576 (g_26 576 d) = D at *
        have hD := (hk1.frc n1).frc f4
        have wE : E 770 = w := by rw [t2.1 770 (by decide)]; exact w1
        have D0 : D 590 0 = w 8 := hD.2.2.2.2.2.2.2.1.1
        obtain ⟨a1, a2, a3, a4, a5⟩ := addP (c := v_56 577 d) hD.1 hD.2.1 hD.2.2.2.2 h8 o1
        have gp := addPX (c := nm (v_56 577 d)) hD.1 h8 hD.2.2.1
        have fr := f47 (c := v_56 577 d) (d := D) (by omega)
        rw [m_g_182, wE, o5]
        have r7 : ∀ u, rset E u 770 = u := fun u => rset_at E u
        have rn : ∀ u b, ¬ b = 770 → rset E u b = E b := fun u b hb => rset_ne hb
        refine ⟨⟨fun b hb => ?_, fun k x y => ?_, fun j hj => ?_⟩, Or.inl ⟨rfl, ?_, ?_, ?_, ?_⟩⟩
        · rw [fr b (by omega), f4 b (by omega) (by omega), n1 b (by omega) (by omega), hc b (by omega) (by omega)]
        · rw [rn _ k y, t2.1 k x, n2.1 k x]
        · rw [rn _ 769 (by decide), t2.2 j hj, n2.2 j hj]
        · exact (f3.c (fr 577 (by decide)) (fr 578 (by decide)) (fr 579 (by decide))).r (rn _ 769 (by decide)) (rn _ 776 (by decide))
        · rw [r7]
          exact ⟨a1, a2, gp, by rw [a5 0 (by decide) (by decide)]; exact hD.2.2.2.1, a3⟩
        · rw [r7]; exact a4
        · intro i x y
          rw [r7]
          exact a5 i x y
      · rw [if_neg f3.ne, if_pos f1, if_pos f1]
        exact ⟨LdFr.of ((hc.trans n1).trans f4) (n2.trans t2), Or.inr ⟨rfl, f3⟩⟩
    · rw [if_neg c, if_neg c]
      obtain ⟨b1, b2⟩ := flt188 (c := 3) (p := d 577 2) o3.2.1
      obtain ⟨c1, c2, c3⟩ := fail32 (c := 3) (d := d)
      have gr : g_203 769 e = g_188 769 3 (d 577 2) (g_198 769 e) := by
        unfold g_203
        rw [if_pos o3.2.1, er, if_neg c, n3, bad195 b1.ne, if_neg b1.ne]
      rw [gr]
      exact ⟨LdFr.of (hc.trans c3) (n2.trans b2), Or.inr ⟨rfl, 3, d 577 2, c1, c2, b1⟩⟩
  · rw [if_pos o1, if_pos o1, if_pos o2, if_pos o2]
    have gr : g_203 769 e = g_198 769 e := by
      unfold g_203
      rw [if_neg o3.ne, bad195 o3.ne, if_neg o3.ne]
    rw [gr]
    exact ⟨LdFr.of (hc.trans n1) n2, Or.inr ⟨rfl, o3⟩⟩
/-! ===== both readers side by side: the end of a deed ===== -/
theorem Syn.bl {d e : mD} (h : Syn d e) : Syn d (g_189 769 e) ∧ FrR e (g_189 769 e) ∧ g_189 769 e 769 10 = d 577 2 := by
  obtain ⟨tx, b13, bt, bl, tk⟩ := h
  obtain ⟨a, e1, p1, p2, p3, p4, p5⟩ := bl189 tx bt.1 bt.2
  have ea : a = d 577 2 := p2.uni bl
  rw [ea] at p5
  have f1 : FrR e e1 := ⟨p3, fun j hj => p4 j (by omega)⟩
  have b0 := bl.1
  rw [p1]
  refine ⟨⟨tx.fr (p4 9 (by decide)) (p3 776 (by decide)), by rw [p4 13 (by decide)]; exact b13, ?_, ?_, tk⟩, f1, p5⟩
  · rw [p5]
    exact ⟨by omega, bl.2.1⟩
  · rw [p5]
    exact bl.self
theorem semi192 {d e : mD} (h : Syn d e) : v_192 769 59 e = v_30 576 d := by
  obtain ⟨tx, b13, bt, bl, tk⟩ := id h
  obtain ⟨-, f1, f2⟩ := h.bl
  have b0 := bl.1
  have vr : v_192 769 59 e = if d 577 2 < d 578 1 then (if e 776 (d 577 2) = 59 then 1 else 0) else 0 := by
    unfold v_192
    rw [f2, tx.2.1, show (769 : Int) + 7 = 776 by decide]
  have ev : v_30 576 d = if d 577 1 = 2 then 1 else 0 := by
    unfold v_30 v_32
    rw [show (576 : Int) + 1 = 577 by decide, if_pos rfl]
  rw [vr, ev]
  rcases tk with ⟨a1, a2, a3⟩ | ⟨a1, a2, a3, a4⟩ | ⟨a1, a2, a3, a4⟩ | ⟨a1, a2, a3, a4⟩ | ⟨a1, a2, a3, a4, a5, a6⟩
  · rw [if_neg (by omega), if_neg (by omega)]
  · have g := tx.2.2 (d 577 2) (by omega) a1
    unfold isLe at a2
    rw [if_pos a1, if_neg (by omega), if_neg (by omega)]
  · have g := tx.2.2 (d 577 2) (by omega) a1
    unfold isDi at a2
    rw [if_pos a1, if_neg (by omega), if_neg (by omega)]
  · have g := tx.2.2 (d 577 2) (by omega) a1
    rw [if_pos a1, if_pos (by omega), if_pos a3]
  · have g := tx.2.2 (d 577 2) (by omega) a1
    rw [if_pos a1, if_neg (by omega), if_neg (by omega)]
theorem deedEnd {d e : mD} {x : Int} (h : Syn d e) : FrR e (g_196 769 x e) ∧ ((v_30 576 d = 0 ∧ v_196 769 x e = 0 ∧ FrC d (g_30 576 d) ∧ Fail (g_30 576 d) (g_196 769 x e)) ∨ (v_30 576 d = 1 ∧ g_30 576 d = d ∧ x = 0 ∧ v_196 769 x e = 0 ∧ FrC d (g_32 576 6 d) ∧ Fail (g_32 576 6 d) (g_196 769 x e)) ∨ (v_30 576 d = 1 ∧ g_30 576 d = d ∧ ¬ x = 0 ∧ v_196 769 x e = 1 ∧ g_196 769 x e = g_195 769 (g_189 769 e) ∧ Syn d (g_189 769 e) ∧ (g_195 769 (g_189 769 e)) 769 13 = 0)) := by
  obtain ⟨s1, s2, s3⟩ := h.bl
  obtain ⟨z1, -, z3, z4, z5, z6, z7, z8⟩ := takeSemi s1
  have h13 := h.2.1
  have e192 : g_192 769 59 e = g_189 769 e := rfl
  have vs := semi192 h
  have gr : g_196 769 x e = if v_30 576 d = 0 then g_195 769 (g_189 769 e) else if x = 0 then g_195 769 (g_188 769 6 (d 577 2) (g_189 769 e)) else g_195 769 (g_189 769 e) := by
    unfold g_196
    rw [if_pos h13, vs, e192, s3]
  have vr : v_196 769 x e = if v_30 576 d = 0 then (if g_195 769 (g_189 769 e) 769 13 = 0 then 1 else 0) else if x = 0 then (if g_195 769 (g_188 769 6 (d 577 2) (g_189 769 e)) 769 13 = 0 then 1 else 0) else if g_195 769 (g_189 769 e) 769 13 = 0 then 1 else 0 := by
    unfold v_196
    rw [if_pos h13, vs, e192, s3]
  rcases z1 with c | c
  · rw [if_pos c] at gr vr
    rcases z5 with ⟨y1, -⟩ | ⟨y1, y2⟩
    · omega
    · rw [if_neg y2.ne] at vr
      rw [gr]
      refine ⟨s2.trans z4, Or.inl ⟨c, vr, ?_, ?_⟩⟩
      · rw [← z8 c]; exact z3
      · rw [← z8 c]; exact y2
  · have c1 : ¬ v_30 576 d = 0 := by omega
    rw [if_neg c1] at gr vr
    by_cases q : x = 0
    · rw [if_pos q] at gr vr
      obtain ⟨b1, b2⟩ := flt188 (c := 6) (p := d 577 2) s1.2.1
      obtain ⟨k1, k2, k3⟩ := fail32 (c := 6) (d := d)
      rw [bad195 b1.ne] at gr vr
      rw [if_neg b1.ne] at vr
      rw [gr]
      exact ⟨s2.trans b2, Or.inr (Or.inl ⟨c, z7 c, q, vr, k3, 6, d 577 2, k1, k2, b1⟩)⟩
    · rw [if_neg q] at gr vr
      rcases z5 with ⟨y1, y2⟩ | ⟨y1, -⟩
      · rw [if_pos y2.2.1] at vr
        rw [gr]
        exact ⟨s2.trans z4, Or.inr (Or.inr ⟨c, z7 c, q, vr, rfl, s1, y2.2.1⟩)⟩
      · omega
/-! ===== a join is read ===== -/
theorem f61 {p o : Int} {d : mD} : ∀ b, (b < 580 ∨ 642 < b) → g_61 580 p o d b = d b := fun b hb => by
  have f96 : ∀ b, (b < 580 ∨ 642 < b) → g_96 629 p o (d 580 2) d b = d b := fun b hb => by
    unfold g_96
    split
    · funext j
      simp (disch := omega) only [ms_a]
    · rfl
  have e588 : g_96 629 p o (d 580 2) d 588 o = d 588 o := by
    unfold g_96
    split
    · simp (disch := omega) only [ms_a]
    · rfl
  unfold g_61
  rw [show (580 : Int) + 49 = 629 by decide, show (580 : Int) + 2 = 582 by decide, show (582 : Int) + 6 = 588 by decide, ← f96 b hb]
  unfold g_40
  rw [show (582 : Int) + 6 = 588 by decide, e588]
  split
  · rfl
  · split
    · rfl
    · split
      · exact (lp40 (x0 := 582) (o := o) (p := d 588 o) (t := d 629 0) (d 588 o).toNat (d 588 o) (g_96 629 p o (d 580 2) d) (by omega) (by omega)).1 b (by omega) (by omega)
      · rfl
def rJoinX (e : mD) : Int := if g_200 769 (g_199 769 0 e) 769 13 = 0 then (if v_225 769 (v_199 769 0 e) (v_200 769 (g_199 769 0 e)) (g_200 769 (g_199 769 0 e)) = 0 then 0 else 1) else 0
def rJoin (e : mD) : mD := if v_196 769 (rJoinX e) (g_200 769 (g_199 769 0 e)) = 0 then g_196 769 (rJoinX e) (g_200 769 (g_199 769 0 e)) else g_226 769 (v_199 769 0 e) (v_200 769 (g_199 769 0 e)) (g_196 769 (rJoinX e) (g_200 769 (g_199 769 0 e)))
theorem bad198 {e : mD} (h : ¬ e 769 13 = 0) : g_198 769 e = e := by
  unfold g_198
  rw [if_neg h]
theorem bad188 {c p : Int} {e : mD} (h : ¬ e 769 13 = 0) : g_188 769 c p e = e := by
  unfold g_188
  rw [if_neg h]
theorem bad200 {e : mD} (h : ¬ e 769 13 = 0) : g_200 769 e = e := by
  unfold g_200
  rw [bad198 h, bad188 h]
  split <;> rfl
theorem bad199 {x : Int} {e : mD} (h : ¬ e 769 13 = 0) : g_199 769 x e = e := by
  unfold g_199
  rw [bad198 h, bad188 h]
  split
  · rfl
  · split
    · rfl
    · split <;> rfl
theorem bad196 {x : Int} {e : mD} (h : ¬ e 769 13 = 0) : g_196 769 x e = e ∧ v_196 769 x e = 0 := by
  unfold g_196 v_196
  rw [if_neg h, if_neg h, bad195 h, if_neg h]
  exact ⟨rfl, rfl⟩
theorem readJoin {d0 e : mD} (h : Syn (g_52 577 d0) e) (hc : FrC d0 (g_52 577 d0)) (hk : OKR 580 d0 (e 770)) : LdFr d0 (g_20 576 d0) e (rJoin e) ∧ ((v_20 576 d0 = 1 ∧ Syn (g_20 576 d0) (rJoin e) ∧ OKR 580 (g_20 576 d0) (rJoin e 770)) ∨ (v_20 576 d0 = 0 ∧ Fail (g_20 576 d0) (rJoin e))) := by
  have hk1 := hk.frc hc
  have hG := hk.1
  generalize hw : e 770 = w at *
  unfold v_20 g_20 rJoin
  rw [show (576 : Int) + 1 = 577 by decide, show (576 : Int) + 4 = 580 by decide]
  generalize g_52 577 d0 = d at *
  obtain ⟨a1, a2, a3⟩ := takePer h hk1.2.2.2.2.2.2.2.1 hw hG.1.2.1
  rcases a3 with ⟨v1, s1, m1, l1, u1⟩ | ⟨v1, f1⟩
  · have hk2 := hk1.frc a1
    have w1 : g_199 769 0 e 770 = w := by rw [a2.1 770 (by decide)]; exact hw
    obtain ⟨b1, b2, b3⟩ := takeOff s1 hk2.2.2.2.2.2.1 w1 hG.1.1
    have n1 : ¬ v_27 576 d = 0 := by rw [v1]; decide
    rw [if_neg n1, if_neg n1]
    rcases b3 with ⟨v2, s2, m2, l2, u2⟩ | ⟨v2, f2⟩
    · have hk3 := hk2.frc b1
      have w2 : g_200 769 (g_199 769 0 e) 770 = w := by rw [b2.1 770 (by decide)]; exact w1
      have n2 : ¬ v_28 576 (g_27 576 d) = 0 := by rw [v2]; decide
      rw [if_neg n2, if_neg n2, m1, m2]
      have hx : rJoinX e = if V_225 (v_199 769 0 e) (v_200 769 (g_199 769 0 e)) w = 0 then 0 else 1 := by
        unfold rJoinX
        rw [if_pos s2.2.1, m_v_225, w2]
      obtain ⟨q1, q2, q3⟩ := canQ (p := v_199 769 0 e) (o := v_200 769 (g_199 769 0 e)) hG hk3.2.2.2.2 ⟨l2, u2⟩
      obtain ⟨r1, r2⟩ := deedEnd (x := rJoinX e) s2
      generalize rJoinX e = x at *
      generalize v_199 769 0 e = p at *
      generalize v_200 769 (g_199 769 0 e) = o at *
      generalize g_200 769 (g_199 769 0 e) = E at *
      have fcD := (hc.trans a1).trans b1
      generalize g_28 576 (g_27 576 d) = D at *
      have frE := a2.trans b2
      rcases r2 with ⟨y1, y2, y3, y4⟩ | ⟨y1, y2, y3, y4, y5, y6⟩ | ⟨y1, y2, y3, y4, y5, y6, y7⟩
      · rw [if_pos y1, if_pos y1, if_pos y2]
        exact ⟨LdFr.of (fcD.trans y3) (frE.trans r1), Or.inr ⟨rfl, y4⟩⟩
      · have ny : ¬ v_30 576 D = 0 := by omega
        have vz : v_60 580 p o D = 0 := by
          rw [q1]
          by_cases z : V_225 p o w = 0
          · exact z
          · rw [if_neg z] at hx
            omega
        rw [if_neg ny, if_neg ny, y2, if_pos vz, if_pos vz, if_pos y4]
        exact ⟨LdFr.of (fcD.trans y5) (frE.trans r1), Or.inr ⟨rfl, y6⟩⟩
      · have ny : ¬ v_30 576 D = 0 := by omega
        have vz : ¬ V_225 p o w = 0 := fun z => by
          rw [if_pos z] at hx
          exact y3 hx
        have vn : ¬ v_60 580 p o D = 0 := by rw [q1]; exact vz
        have nx : ¬ v_196 769 x E = 0 := by omega
        rw [if_neg ny, if_neg ny, y2, if_neg vn, if_neg vn, if_neg nx]
        have cj := q3.1 (by omega)
        obtain ⟨-, j1, j2⟩ := join hG hk3.2.2.2.2 ⟨l2, u2⟩ ⟨l1, u1⟩ cj
        have xr := joinX (p := p) hG ⟨l2, u2⟩ cj.1
        obtain ⟨x1, x2⟩ := xr.1 hk3.2.1 hk3.2.2.1
        have fr := f61 (p := p) (o := o) (d := D)
        have sD : Syn (g_61 580 p o D) (g_189 769 E) := y6.c (fr 577 (by decide)) (fr 578 (by decide)) (fr 579 (by decide))
        obtain ⟨-, -, t1, t2, t3, -⟩ := takeSemi sD
        rw [← y5] at t2 t3 y7
        have wE : g_196 769 x E 770 = w := by rw [r1.1 770 (by decide)]; exact w2
        rcases t3 with ⟨t4, t5⟩ | ⟨-, t5⟩
        · rw [m_g_226, wE]
          have rn : ∀ u b, ¬ b = 770 → rset (g_196 769 x E) u b = g_196 769 x E b := fun u b hb => rset_ne hb
          refine ⟨⟨fun b hb => ?_, fun k y z => ?_, fun j hj => ?_⟩, Or.inl ⟨t4, ?_, ?_⟩⟩
          · rw [t1 b (by omega) (by omega), fr b (by omega), fcD b (by omega) (by omega)]
          · rw [rn _ k z, r1.1 k y, frE.1 k y]
          · rw [rn _ 769 (by decide), r1.2 j hj, frE.2 j hj]
          · exact t5.r (rn _ 769 (by decide)) (rn _ 776 (by decide))
          · rw [rset_at]
            exact OKR.frc ⟨j1, x1, x2, by rw [xr.2]; exact hk3.2.2.2.1, j2⟩ t1
        · exact absurd y7 t5.ne
    · rw [if_pos v2, if_pos v2]
      have nx : rJoinX e = 0 := by
        unfold rJoinX
        rw [if_neg f2.ne]
      obtain ⟨z1, z2⟩ := bad196 (x := rJoinX e) f2.ne
      rw [z1, if_pos z2]
      exact ⟨LdFr.of ((hc.trans a1).trans b1) (a2.trans b2), Or.inr ⟨rfl, f2⟩⟩
  · rw [if_pos v1, if_pos v1, bad200 f1.ne]
    obtain ⟨z1, z2⟩ := bad196 (x := rJoinX e) f1.ne
    rw [z1, if_pos z2]
    exact ⟨LdFr.of (hc.trans a1) a2, Or.inr ⟨rfl, f1⟩⟩
/-! ===== a pass is read ===== -/
def rPassX (e : mD) : Int := if (999 : Int) < g_197 769 1 99 e 770 0 + v_197 769 1 99 e then 0 else 1
def rPass (e : mD) : mD := if v_196 769 (rPassX e) (g_197 769 1 99 e) = 0 then g_196 769 (rPassX e) (g_197 769 1 99 e) else rset (g_196 769 (rPassX e) (g_197 769 1 99 e)) (hoursW (v_197 769 1 99 e).toNat (g_196 769 (rPassX e) (g_197 769 1 99 e) 770))
theorem readPass {d0 e : mD} (h : Syn (g_52 577 d0) e) (hc : FrC d0 (g_52 577 d0)) (hk : OKR 580 d0 (e 770)) (hF : v_25 576 1 99 (g_52 577 d0) = 1 → ∀ b, (b < 580 ∨ 642 < b) → g_68 580 (g_25 576 1 99 (g_52 577 d0) 576 4) (g_25 576 1 99 (g_52 577 d0)) b = g_25 576 1 99 (g_52 577 d0) b) : LdFr d0 (g_21 576 d0) e (rPass e) ∧ ((v_21 576 d0 = 1 ∧ Syn (g_21 576 d0) (rPass e) ∧ OKR 580 (g_21 576 d0) (rPass e 770)) ∨ (v_21 576 d0 = 0 ∧ Fail (g_21 576 d0) (rPass e))) := by
  have hk1 := hk.frc hc
  have hG := hk.1
  generalize hw : e 770 = w at *
  unfold v_21 g_21 rPass
  rw [show (576 : Int) + 1 = 577 by decide, show (576 : Int) + 4 = 580 by decide]
  generalize g_52 577 d0 = d at *
  obtain ⟨a1, a2, a3⟩ := takeNum (lo := 1) (hi := 99) h
  rcases a3 with ⟨v1, s1, m1, l1, u1⟩ | ⟨v1, f1, -⟩
  · have hk2 := hk1.frc a1
    have w1 : g_197 769 1 99 e 770 = w := by rw [a2.1 770 (by decide)]; exact hw
    have n1 : ¬ v_25 576 1 99 d = 0 := by rw [v1]; decide
    have hF := hF v1
    rw [if_neg n1, if_neg n1]
    rw [m1] at hF ⊢
    have hx : rPassX e = if (999 : Int) < w 0 + v_197 769 1 99 e then 0 else 1 := by
      unfold rPassX
      rw [w1]
    obtain ⟨r1, r2⟩ := deedEnd (x := rPassX e) s1
    generalize rPassX e = x at *
    generalize v_197 769 1 99 e = n at *
    generalize g_197 769 1 99 e = E at *
    have fcD := hc.trans a1
    generalize g_25 576 1 99 d = D at *
    have t0 : D 580 2 = w 0 := hk2.2.2.2.2.1.2.1
    have vc : v_67 580 n D = if (999 : Int) < w 0 + n then 0 else 1 := by
      unfold v_67
      rw [t0]
    rcases r2 with ⟨y1, y2, y3, y4⟩ | ⟨y1, y2, y3, y4, y5, y6⟩ | ⟨y1, y2, y3, y4, y5, y6, y7⟩
    · rw [if_pos y1, if_pos y1, if_pos y2]
      exact ⟨LdFr.of (fcD.trans y3) (a2.trans r1), Or.inr ⟨rfl, y4⟩⟩
    · have ny : ¬ v_30 576 D = 0 := by omega
      have vz : v_67 580 n D = 0 := by
        rw [vc, ← hx]
        exact y3
      rw [if_neg ny, if_neg ny, y2, if_pos vz, if_pos vz, if_pos y4]
      exact ⟨LdFr.of (fcD.trans y5) (a2.trans r1), Or.inr ⟨rfl, y6⟩⟩
    · have ny : ¬ v_30 576 D = 0 := by omega
      have vn : ¬ v_67 580 n D = 0 := by rw [vc, ← hx]; exact y3
      have tl : w 0 + n ≤ 999 := by
        by_cases z : (999 : Int) < w 0 + n
        · rw [if_pos z] at hx
          exact absurd hx y3
        · omega
      have nx : ¬ v_196 769 x E = 0 := by omega
      rw [if_neg ny, if_neg ny, y2, if_neg vn, if_neg vn, if_neg nx]
      obtain ⟨-, j1, j2, j3, -, j5⟩ := passHours (s := 580) (N := n) (d := D) (by omega) hG hk2.2.2.2.2 (by omega)
      obtain ⟨x1, x2⟩ := j5 hk2.2.1 hk2.2.2.1
      have sD : Syn (g_68 580 n D) (g_189 769 E) := y6.c (hF 577 (by decide)) (hF 578 (by decide)) (hF 579 (by decide))
      obtain ⟨-, -, t1, t2, t3, -⟩ := takeSemi sD
      rw [← y5] at t2 t3 y7
      have wE : g_196 769 x E 770 = w := by rw [r1.1 770 (by decide)]; exact w1
      rcases t3 with ⟨t4, t5⟩ | ⟨-, t5⟩
      · rw [wE]
        have rn : ∀ u b, ¬ b = 770 → rset (g_196 769 x E) u b = g_196 769 x E b := fun u b hb => rset_ne hb
        refine ⟨⟨fun b hb => ?_, fun k y z => ?_, fun j hj => ?_⟩, Or.inl ⟨t4, ?_, ?_⟩⟩
        · rw [t1 b (by omega) (by omega), hF b (by omega), fcD b (by omega) (by omega)]
        · rw [rn _ k z, r1.1 k y, a2.1 k y]
        · rw [rn _ 769 (by decide), r1.2 j hj, a2.2 j hj]
        · exact t5.r (rn _ 769 (by decide)) (rn _ 776 (by decide))
        · rw [rset_at]
          exact OKR.frc ⟨j1, x1, x2, by rw [j3]; exact tl, j2⟩ t1
      · exact absurd y7 t5.ne
  · rw [if_pos v1, if_pos v1]
    obtain ⟨z1, z2⟩ := bad196 (x := rPassX e) f1.ne
    rw [z1, if_pos z2]
    exact ⟨LdFr.of (hc.trans a1) a2, Or.inr ⟨rfl, f1⟩⟩
/-! ===== a claim, a witness are read ===== -/
def rClaimX (e : mD) : Int := if g_199 769 1 e 769 13 = 0 then (if v_227 769 (v_201 769 (v_199 769 1 e) (g_199 769 1 e)) (g_199 769 1 e) = 0 then 0 else 1) else 0
def rClaim (e : mD) : mD := if v_196 769 (rClaimX e) (g_199 769 1 e) = 0 then g_196 769 (rClaimX e) (g_199 769 1 e) else g_228 769 (v_201 769 (v_199 769 1 e) (g_199 769 1 e)) (g_196 769 (rClaimX e) (g_199 769 1 e))
theorem readClaim {d0 e : mD} (h : Syn (g_52 577 d0) e) (hc : FrC d0 (g_52 577 d0)) (hk : OKR 580 d0 (e 770)) (hF : v_29 576 (g_52 577 d0) = 1 → ∀ b, (b < 580 ∨ 642 < b) → g_74 580 (g_29 576 (g_52 577 d0) 576 6) (g_29 576 (g_52 577 d0)) b = g_29 576 (g_52 577 d0) b) : LdFr d0 (g_22 576 d0) e (rClaim e) ∧ ((v_22 576 d0 = 1 ∧ Syn (g_22 576 d0) (rClaim e) ∧ OKR 580 (g_22 576 d0) (rClaim e 770)) ∨ (v_22 576 d0 = 0 ∧ Fail (g_22 576 d0) (rClaim e))) := by
  have hk1 := hk.frc hc
  have hG := hk.1
  generalize hw : e 770 = w at *
  unfold v_22 g_22 rClaim
  rw [show (576 : Int) + 1 = 577 by decide, show (576 : Int) + 4 = 580 by decide]
  generalize g_52 577 d0 = d at *
  obtain ⟨a1, a2, a3⟩ := takeTick h hk1.2.2.2.2.2.2.2.1 hk1.2.2.2.2.2.2.2.2.1 hw hG.1.2.1
  rcases a3 with ⟨v1, s1, m1, l0, l1, u1⟩ | ⟨v1, f1⟩
  · have hk2 := hk1.frc a1
    have w1 : g_199 769 1 e 770 = w := by rw [a2.1 770 (by decide)]; exact hw
    have n1 : ¬ v_29 576 d = 0 := by rw [v1]; decide
    have hF := hF v1
    have el : v_201 769 (v_199 769 1 e) (g_199 769 1 e) = V_201 (v_199 769 1 e) w := by rw [m_v_201, w1]
    have hx : rClaimX e = if V_227 (V_201 (v_199 769 1 e) w) w = 0 then 0 else 1 := by
      unfold rClaimX
      rw [if_pos s1.2.1, el, m_v_227, w1]
    rw [if_neg n1, if_neg n1, el]
    rw [m1] at hF ⊢
    obtain ⟨r1, r2⟩ := deedEnd (x := rClaimX e) s1
    generalize rClaimX e = x at *
    generalize V_201 (v_199 769 1 e) w = n at *
    generalize g_199 769 1 e = E at *
    have fcD := hc.trans a1
    generalize g_29 576 d = D at *
    obtain ⟨q1, q2, q3⟩ := canClaim hG hk2.2.2.2.2 ⟨l1, u1⟩
    rcases r2 with ⟨y1, y2, y3, y4⟩ | ⟨y1, y2, y3, y4, y5, y6⟩ | ⟨y1, y2, y3, y4, y5, y6, y7⟩
    · rw [if_pos y1, if_pos y1, if_pos y2]
      exact ⟨LdFr.of (fcD.trans y3) (a2.trans r1), Or.inr ⟨rfl, y4⟩⟩
    · have ny : ¬ v_30 576 D = 0 := by omega
      have vz : v_73 580 n D = 0 := by
        rw [q1]
        by_cases z : V_227 n w = 0
        · exact z
        · rw [if_neg z] at hx
          omega
      rw [if_neg ny, if_neg ny, y2, if_pos vz, if_pos vz, if_pos y4]
      exact ⟨LdFr.of (fcD.trans y5) (a2.trans r1), Or.inr ⟨rfl, y6⟩⟩
    · have ny : ¬ v_30 576 D = 0 := by omega
      have vz : ¬ V_227 n w = 0 := fun z => by
        rw [if_pos z] at hx
        exact y3 hx
      have vn : ¬ v_73 580 n D = 0 := by rw [q1]; exact vz
      have nx : ¬ v_196 769 x E = 0 := by omega
      rw [if_neg ny, if_neg ny, y2, if_neg vn, if_neg vn, if_neg nx]
      have cj := q3.1 (by omega)
      obtain ⟨-, j1, j2, -⟩ := claim hG hk2.2.2.2.2 ⟨l1, u1⟩ cj.1 cj.2 hk2.2.2.2.1
      have xr := claimX hG ⟨l1, u1⟩
      obtain ⟨x1, x2⟩ := xr.1 hk2.2.1 hk2.2.2.1
      have sD : Syn (g_74 580 n D) (g_189 769 E) := y6.c (hF 577 (by decide)) (hF 578 (by decide)) (hF 579 (by decide))
      obtain ⟨-, -, t1, t2, t3, -⟩ := takeSemi sD
      rw [← y5] at t2 t3 y7
      have wE : g_196 769 x E 770 = w := by rw [r1.1 770 (by decide)]; exact w1
      rcases t3 with ⟨t4, t5⟩ | ⟨-, t5⟩
      · rw [m_g_228, wE]
        have rn : ∀ u b, ¬ b = 770 → rset (g_196 769 x E) u b = g_196 769 x E b := fun u b hb => rset_ne hb
        refine ⟨⟨fun b hb => ?_, fun k y z => ?_, fun j hj => ?_⟩, Or.inl ⟨t4, ?_, ?_⟩⟩
        · rw [t1 b (by omega) (by omega), hF b (by omega), fcD b (by omega) (by omega)]
        · rw [rn _ k z, r1.1 k y, a2.1 k y]
        · rw [rn _ 769 (by decide), r1.2 j hj, a2.2 j hj]
        · exact t5.r (rn _ 769 (by decide)) (rn _ 776 (by decide))
        · rw [rset_at]
          exact OKR.frc ⟨j1, x1, x2, by rw [xr.2]; exact hk2.2.2.2.1, j2⟩ t1
      · exact absurd y7 t5.ne
  · rw [if_pos v1, if_pos v1]
    obtain ⟨z1, z2⟩ := bad196 (x := rClaimX e) f1.ne
    rw [z1, if_pos z2]
    exact ⟨LdFr.of (hc.trans a1) a2, Or.inr ⟨rfl, f1⟩⟩
def rWitE (e : mD) : mD := g_199 769 1 (g_199 769 0 e)
def rWitX (e : mD) : Int := if rWitE e 769 13 = 0 then (if v_234 769 (v_201 769 (v_199 769 1 (g_199 769 0 e)) (rWitE e)) (v_199 769 0 e) (rWitE e) = 0 then 1 else 0) else 0
def rWit (e : mD) : mD := if v_196 769 (rWitX e) (rWitE e) = 0 then g_196 769 (rWitX e) (rWitE e) else g_235 769 (v_201 769 (v_199 769 1 (g_199 769 0 e)) (rWitE e)) (v_199 769 0 e) (g_196 769 (rWitX e) (rWitE e))
theorem readWit {d0 e : mD} (h : Syn (g_52 577 d0) e) (hc : FrC d0 (g_52 577 d0)) (hk : OKR 580 d0 (e 770)) (hF : v_27 576 (g_52 577 d0) = 1 → v_29 576 (g_27 576 (g_52 577 d0)) = 1 → v_77 580 (g_29 576 (g_27 576 (g_52 577 d0)) 576 6) (g_27 576 (g_52 577 d0) 576 6) (g_29 576 (g_27 576 (g_52 577 d0))) = 0 → ∀ b, (b < 580 ∨ 642 < b) → g_75 580 (g_29 576 (g_27 576 (g_52 577 d0)) 576 6) (g_27 576 (g_52 577 d0) 576 6) (g_29 576 (g_27 576 (g_52 577 d0))) b = g_29 576 (g_27 576 (g_52 577 d0)) b) : LdFr d0 (g_23 576 d0) e (rWit e) ∧ ((v_23 576 d0 = 1 ∧ Syn (g_23 576 d0) (rWit e) ∧ OKR 580 (g_23 576 d0) (rWit e 770)) ∨ (v_23 576 d0 = 0 ∧ Fail (g_23 576 d0) (rWit e))) := by
  have hk1 := hk.frc hc
  have hG := hk.1
  generalize hw : e 770 = w at *
  unfold v_23 g_23 rWit
  rw [show (576 : Int) + 1 = 577 by decide, show (576 : Int) + 4 = 580 by decide]
  generalize g_52 577 d0 = d at *
  obtain ⟨b1, b2, b3⟩ := takePer h hk1.2.2.2.2.2.2.2.1 hw hG.1.2.1
  rcases b3 with ⟨v0, s0, m0, l0, u0⟩ | ⟨v0, f0⟩
  · have hk1' := hk1.frc b1
    have w0 : g_199 769 0 e 770 = w := by rw [b2.1 770 (by decide)]; exact hw
    obtain ⟨a1, a2, a3⟩ := takeTick s0 hk1'.2.2.2.2.2.2.2.1 hk1'.2.2.2.2.2.2.2.2.1 w0 hG.1.2.1
    have n0 : ¬ v_27 576 d = 0 := by rw [v0]; decide
    have hF := hF v0
    rw [if_neg n0, if_neg n0]
    rw [m0] at hF ⊢
    rcases a3 with ⟨v1, s1, m1, -, l1, u1⟩ | ⟨v1, f1⟩
    · have hk2 := hk1'.frc a1
      have w1 : rWitE e 770 = w := by
        show g_199 769 1 (g_199 769 0 e) 770 = w
        rw [a2.1 770 (by decide)]; exact w0
      have n1 : ¬ v_29 576 (g_27 576 d) = 0 := by rw [v1]; decide
      have hF := hF v1
      have el : v_201 769 (v_199 769 1 (g_199 769 0 e)) (rWitE e) = V_201 (v_199 769 1 (g_199 769 0 e)) w := by rw [m_v_201, w1]
      have s1 : Syn (g_29 576 (g_27 576 d)) (rWitE e) := s1
      have a2 : FrR (g_199 769 0 e) (rWitE e) := a2
      have hx : rWitX e = if V_234 (V_201 (v_199 769 1 (g_199 769 0 e)) w) (v_199 769 0 e) w = 0 then 1 else 0 := by
        unfold rWitX
        rw [if_pos s1.2.1, el, m_v_234, w1]
      rw [if_neg n1, if_neg n1, el]
      rw [m1] at hF ⊢
      obtain ⟨r1, r2⟩ := deedEnd (x := rWitX e) s1
      generalize rWitX e = x at *
      generalize V_201 (v_199 769 1 (g_199 769 0 e)) w = n at *
      generalize rWitE e = E at *
      generalize v_199 769 0 e = p at *
      have frE := b2.trans a2
      have fcD := (hc.trans b1).trans a1
      generalize g_29 576 (g_27 576 d) = D at *
      obtain ⟨q1, q2⟩ := hinder hG hk2.2.2.2.2 ⟨l1, u1⟩ ⟨l0, u0⟩
      rcases r2 with ⟨y1, y2, y3, y4⟩ | ⟨y1, y2, y3, y4, y5, y6⟩ | ⟨y1, y2, y3, y4, y5, y6, y7⟩
      · rw [if_pos y1, if_pos y1, if_pos y2]
        exact ⟨LdFr.of (fcD.trans y3) (frE.trans r1), Or.inr ⟨rfl, y4⟩⟩
      · have ny : ¬ v_30 576 D = 0 := by omega
        have vz : ¬ v_77 580 n p D = 0 := by
          rw [q1]
          intro z
          rw [if_pos z] at hx
          omega
        rw [if_neg ny, if_neg ny, y2, if_neg vz, if_neg vz, if_pos y4]
        exact ⟨LdFr.of (fcD.trans y5) (frE.trans r1), Or.inr ⟨rfl, y6⟩⟩
      · have ny : ¬ v_30 576 D = 0 := by omega
        have vz : V_234 n p w = 0 := by
          by_cases z : V_234 n p w = 0
          · exact z
          · rw [if_neg z] at hx
            exact absurd hx y3
        have vn : v_77 580 n p D = 0 := by rw [q1]; exact vz
        have hF := hF vn
        have nx : ¬ v_196 769 x E = 0 := by omega
        rw [if_neg ny, if_neg ny, y2, if_pos vn, if_pos vn, if_neg nx]
        obtain ⟨-, j1, j2, -⟩ := attest hG hk2.2.2.2.2 ⟨l1, u1⟩ ⟨l0, u0⟩ vz hk2.2.2.2.1
        have xr := attestX (p := p) hG ⟨l1, u1⟩ ⟨l0, u0⟩
        obtain ⟨x1, x2⟩ := xr.1 hk2.2.1 hk2.2.2.1
        have sD : Syn (g_75 580 n p D) (g_189 769 E) := y6.c (hF 577 (by decide)) (hF 578 (by decide)) (hF 579 (by decide))
        obtain ⟨-, -, t1, t2, t3, -⟩ := takeSemi sD
        rw [← y5] at t2 t3 y7
        have wE : g_196 769 x E 770 = w := by rw [r1.1 770 (by decide)]; exact w1
        rcases t3 with ⟨t4, t5⟩ | ⟨-, t5⟩
        · rw [m_g_235, wE]
          have rn : ∀ u b, ¬ b = 770 → rset (g_196 769 x E) u b = g_196 769 x E b := fun u b hb => rset_ne hb
          refine ⟨⟨fun b hb => ?_, fun k y z => ?_, fun j hj => ?_⟩, Or.inl ⟨t4, ?_, ?_⟩⟩
          · rw [t1 b (by omega) (by omega), hF b (by omega), fcD b (by omega) (by omega)]
          · rw [rn _ k z, r1.1 k y, frE.1 k y]
          · rw [rn _ 769 (by decide), r1.2 j hj, frE.2 j hj]
          · exact t5.r (rn _ 769 (by decide)) (rn _ 776 (by decide))
          · rw [rset_at]
            exact OKR.frc ⟨j1, x1, x2, by rw [xr.2]; exact hk2.2.2.2.1, j2⟩ t1
        · exact absurd y7 t5.ne
    · have f1 : Fail (g_29 576 (g_27 576 d)) (rWitE e) := f1
      rw [if_pos v1, if_pos v1]
      obtain ⟨z1, z2⟩ := bad196 (x := rWitX e) f1.ne
      rw [z1, if_pos z2]
      exact ⟨LdFr.of ((hc.trans b1).trans a1) (b2.trans a2), Or.inr ⟨rfl, f1⟩⟩
  · have eE : rWitE e = g_199 769 0 e := bad199 f0.ne
    rw [if_pos v0, if_pos v0, eE]
    obtain ⟨z1, z2⟩ := bad196 (x := rWitX e) f0.ne
    rw [z1, if_pos z2]
    exact ⟨LdFr.of (hc.trans b1) b2, Or.inr ⟨rfl, f0⟩⟩
/-! ===== the class's reader never goes back ===== -/
def CT (d : mD) : Prop := (0 ≤ d 577 2 ∧ d 577 2 ≤ d 578 1 ∧ d 578 1 ≤ 1000) ∧ TokAt (d 579) (d 578 1) (d 577 2) (d 577 1) (d 577 3) (d 577 4)
def PG (d d' : mD) : Prop := CT d → CT d' ∧ d 577 2 ≤ d' 577 2 ∧ FrC d d'
theorem Syn.ct {d e : mD} (h : Syn d e) : CT d := by
  obtain ⟨tx, b13, bt, bl, tk⟩ := h
  exact ⟨⟨by have := bl.1; omega, bl.2.1, tx.1.2⟩, tk⟩
def PW (d d' : mD) : Prop := CT d → CT d' ∧ d 577 2 ≤ d' 577 2
theorem PG.w {d d' : mD} (h : PG d d') : PW d d' := fun z => ⟨(h z).1, (h z).2.1⟩
theorem PW.fr {d d' : mD} (h7 : d' 577 = d 577) (h8 : d' 578 = d 578) (h9 : d' 579 = d 579) : PW d d' := fun h => by
  unfold CT at h ⊢
  rw [h7, h8, h9]
  exact ⟨h, Int.le_refl _⟩
theorem PW.trans {a b c : mD} (h : PW a b) (g : PW b c) : PW a c := fun z => by
  obtain ⟨q1, q2⟩ := h z
  obtain ⟨q3, q4⟩ := g q1
  exact ⟨q3, by omega⟩
theorem PG.trans {a b c : mD} (h : PG a b) (g : PG b c) : PG a c := fun z => by
  obtain ⟨q1, q2, q5⟩ := h z
  obtain ⟨q3, q4, q6⟩ := g q1
  exact ⟨q3, by omega, q5.trans q6⟩
theorem PG.refl {d : mD} : PG d d := fun z => ⟨z, Int.le_refl _, FrC.refl⟩
theorem PG.s6 {d : mD} {j v : Int} : PG d (mset d 576 j v) := fun z => by
  obtain ⟨q1, q2⟩ := PW.fr (d := d) (d' := mset d 576 j v) (by funext i; exact ms_a (by decide)) (by funext i; exact ms_a (by decide)) (by funext i; exact ms_a (by decide)) z
  exact ⟨q1, q2, fun b x _ => by funext i; exact ms_a x⟩
theorem pg52' {d : mD} (h : CT d) : CT (g_52 577 d) ∧ d 577 3 ≤ g_52 577 d 577 2 ∧ FrC d (g_52 577 d) := by
  obtain ⟨⟨h0, h1, h2⟩, tk⟩ := h
  have hz := tk.z h1
  obtain ⟨a1, a2, a3⟩ := adv (L := d 578 1) (d := d) rfl h2 (by omega) hz.2
  have e8 : g_52 577 d 578 = d 578 := a1 578 (by decide)
  have e9 : g_52 577 d 579 = d 579 := a1 579 (by decide)
  have := a2.1
  refine ⟨⟨⟨by omega, ?_, ?_⟩, ?_⟩, a2.1, fun b _ y => a1 b y⟩
  · rw [e8]; exact a2.2.1
  · rw [e8]; exact h2
  · rw [e8, e9]; exact a3
theorem pg52 {d : mD} : PG d (g_52 577 d) := fun h => by
  obtain ⟨q1, q2, q3⟩ := pg52' h
  have := (h.2.z h.1.2.1).1
  exact ⟨q1, by omega, q3⟩
theorem pg52s {d : mD} (h : CT d) (k : d 577 1 = 0) : CT (g_52 577 d) ∧ d 577 2 < g_52 577 d 577 2 := by
  obtain ⟨q1, q2, -⟩ := pg52' h
  obtain ⟨⟨h0, h1, h2⟩, tk⟩ := h
  refine ⟨q1, ?_⟩
  rcases tk with ⟨a1, a2, a3⟩ | ⟨a1, a2, a3, a4⟩ | ⟨a1, a2, a3, a4⟩ | ⟨a1, a2, a3, a4⟩ | ⟨a1, a2, a3, a4, a5, a6⟩
  · omega
  · by_cases c : d 577 2 < d 577 3
    · omega
    · have e3 : d 577 3 = d 577 2 := by have := a4.1; omega
      have := a4.2.2.2
      rw [e3] at this
      exact absurd a2 (this a1)
  · omega
  · omega
  · omega
theorem pg32 {c : Int} {d : mD} : PG d (g_32 576 c d) := PG.s6.trans PG.s6
theorem pg25 {lo hi : Int} {d : mD} : PG d (g_25 576 lo hi d) := by
  unfold g_25
  rw [show (576 : Int) + 1 = 577 by decide]
  repeat' split
  · exact pg32
  · exact pg32
  · exact PG.s6.trans pg52
  · exact pg32
theorem pg26 {d : mD} : PG d (g_26 576 d) := by
  unfold g_26
  rw [show (576 : Int) + 1 = 577 by decide]
  repeat' split
  · exact PG.s6.trans pg32
  · exact PG.s6.trans pg52
theorem pg27 {d : mD} : PG d (g_27 576 d) := by
  unfold g_27
  repeat' split
  · exact PG.s6.trans pg26
  · exact PG.s6.trans pg32
  · exact PG.s6.trans pg26
theorem pg28 {d : mD} : PG d (g_28 576 d) := by
  unfold g_28
  repeat' split
  · exact PG.s6.trans pg26
  · exact PG.s6.trans pg32
  · exact PG.s6.trans pg26
theorem pg29 {d : mD} : PG d (g_29 576 d) := by
  unfold g_29
  repeat' split
  · exact PG.s6.trans pg26
  · exact PG.s6.trans pg32
  · exact PG.s6.trans pg26
  · exact PG.s6.trans pg32
  · exact PG.s6.trans pg26
theorem pg30 {d : mD} : PG d (g_30 576 d) := by
  unfold g_30
  split
  · exact PG.refl
  · exact pg32
theorem pg31 {d : mD} : PG d (g_31 576 d) := by
  unfold g_31
  rw [show (576 : Int) + 1 = 577 by decide]
  split
  · exact pg30
  · exact pg30.trans pg52
-- behind a word: strictly on
def SPG (d d' : mD) : Prop := CT d → d 577 1 = 0 → d 577 2 < d' 577 2
theorem SPG.of {d d' : mD} (h : PW (g_52 577 d) d') : SPG d d' := fun c k => by
  obtain ⟨q1, q2⟩ := pg52s c k
  have := (h q1).2
  omega
theorem pg16 {d : mD} (h6 : d 582 0 < 6) : SPG d (g_16 576 d) := by
  refine SPG.of ?_
  have f : ∀ c x y z D, PW D (g_35 582 c x y z D) := fun c x y z D => PW.fr (f35 577 (by decide)) (f35 578 (by decide)) (f35 579 (by decide))
  have t : ∀ c x y z (D : mD), PW D (g_35 582 c x y z (g_31 576 (g_25 576 1 20 (g_25 576 1 6 (g_25 576 1 4 (g_26 576 D)))))) := fun c x y z D => ((((pg26.trans pg25).trans pg25).trans pg25).trans pg31).w.trans (f c x y z _)
  unfold g_16
  rw [show (576 : Int) + 1 = 577 by decide, show (576 : Int) + 4 + 2 = 582 by decide, if_pos h6]
  repeat' split
  all_goals first
    | exact t _ _ _ _ _
    | exact ((((pg26.trans pg25).trans pg25).trans pg25).trans pg31).w
    | exact (((pg26.trans pg25).trans pg25).trans pg25).w
    | exact ((pg26.trans pg25).trans pg25).w
    | exact (pg26.trans pg25).w
    | exact pg26.w
    | exact pg32.w
theorem pg18 {d : mD} (h6 : d 590 0 < 16) (h0 : 0 ≤ d 590 0) : SPG d (g_18 576 d) := by
  intro c k
  have e1 : g_52 577 d 590 = d 590 := (pg52 c).2.2 590 (by decide) (by decide)
  refine SPG.of (fun z => ?_) c k
  have f : ∀ c, PW (g_52 577 d) (g_47 590 c (g_31 576 (g_26 576 (g_52 577 d)))) := fun c z => by
    obtain ⟨q1, q2, q3⟩ := (pg26.trans pg31) z
    have hD : 0 ≤ g_31 576 (g_26 576 (g_52 577 d)) 590 0 := by rw [q3 590 (by decide) (by decide), e1]; exact h0
    obtain ⟨q4, q5⟩ := PW.fr (f47 (c := c) hD 577 (by decide)) (f47 (c := c) hD 578 (by decide)) (f47 (c := c) hD 579 (by decide)) q1
    exact ⟨q4, by omega⟩
  unfold g_18
  rw [show (576 : Int) + 1 = 577 by decide, show (576 : Int) + 4 + 10 = 590 by decide, if_pos h6]
  repeat' split
  all_goals first
    | exact f _ z
    | exact (pg26.trans pg31).w z
    | exact pg26.w z
    | exact pg32.w z
theorem pg20 {d : mD} : SPG d (g_20 576 d) := by
  refine SPG.of ?_
  have f : ∀ p o (D : mD), PW D (g_61 580 p o D) := fun p o D => PW.fr (f61 577 (by decide)) (f61 578 (by decide)) (f61 579 (by decide))
  have t : ∀ p o (D : mD), PW D (g_31 576 (g_61 580 p o (g_30 576 (g_28 576 (g_27 576 D))))) := fun p o D => (((pg27.trans pg28).trans pg30).w.trans (f p o _)).trans pg31.w
  unfold g_20
  rw [show (576 : Int) + 1 = 577 by decide, show (576 : Int) + 4 = 580 by decide]
  repeat' split
  all_goals first
    | exact t _ _ _
    | exact (((pg27.trans pg28).trans pg30).trans pg32).w
    | exact ((pg27.trans pg28).trans pg30).w
    | exact (pg27.trans pg28).w
    | exact pg27.w
theorem PW.fs {d d' : mD} (h : ∀ b, (b < 580 ∨ 642 < b) → d' b = d b) : PW d d' := PW.fr (h 577 (by decide)) (h 578 (by decide)) (h 579 (by decide))
theorem pg30e {d : mD} (h : ¬ v_30 576 d = 0) : g_30 576 d = d := by
  unfold v_30 at h
  unfold g_30
  split
  · rfl
  · rename_i c
    rw [if_neg c] at h
    exact absurd rfl h
theorem v25_1 {lo hi : Int} {d : mD} (h : ¬ v_25 576 lo hi d = 0) : v_25 576 lo hi d = 1 := by
  have : v_25 576 lo hi d = 0 ∨ v_25 576 lo hi d = 1 := by
    unfold v_25 v_32
    repeat' split
    all_goals first
      | exact Or.inl rfl
      | exact Or.inr rfl
  omega
theorem v29_1 {d : mD} (h : ¬ v_29 576 d = 0) : v_29 576 d = 1 := by
  have : v_29 576 d = 0 ∨ v_29 576 d = 1 := by
    unfold v_29 v_26 v_32
    repeat' split
    all_goals first
      | exact Or.inl rfl
      | exact Or.inr rfl
  omega
theorem v27_1 {d : mD} (h : ¬ v_27 576 d = 0) : v_27 576 d = 1 := by
  have : v_27 576 d = 0 ∨ v_27 576 d = 1 := by
    unfold v_27 v_26 v_32
    repeat' split
    all_goals first
      | exact Or.inl rfl
      | exact Or.inr rfl
  omega
theorem pg21 {d : mD} (hF : v_25 576 1 99 (g_52 577 d) = 1 → ∀ b, (b < 580 ∨ 642 < b) → g_68 580 (g_25 576 1 99 (g_52 577 d) 576 4) (g_25 576 1 99 (g_52 577 d)) b = g_25 576 1 99 (g_52 577 d) b) : SPG d (g_21 576 d) := by
  refine SPG.of ?_
  unfold g_21
  rw [show (576 : Int) + 1 = 577 by decide, show (576 : Int) + 4 = 580 by decide]
  by_cases c1 : v_25 576 1 99 (g_52 577 d) = 0
  · rw [if_pos c1]
    exact pg25.w
  · rw [if_neg c1]
    have v1 : v_25 576 1 99 (g_52 577 d) = 1 := v25_1 c1
    by_cases c2 : v_30 576 (g_25 576 1 99 (g_52 577 d)) = 0
    · rw [if_pos c2]
      exact (pg25.trans pg30).w
    · rw [if_neg c2]
      by_cases c3 : v_67 580 (g_25 576 1 99 (g_52 577 d) 576 4) (g_30 576 (g_25 576 1 99 (g_52 577 d))) = 0
      · rw [if_pos c3]
        exact ((pg25.trans pg30).trans pg32).w
      · rw [if_neg c3, pg30e c2]
        exact (pg25.w.trans (PW.fs (hF v1))).trans pg31.w
theorem pg22 {d : mD} (hF : v_29 576 (g_52 577 d) = 1 → ∀ b, (b < 580 ∨ 642 < b) → g_74 580 (g_29 576 (g_52 577 d) 576 6) (g_29 576 (g_52 577 d)) b = g_29 576 (g_52 577 d) b) : SPG d (g_22 576 d) := by
  refine SPG.of ?_
  unfold g_22
  rw [show (576 : Int) + 1 = 577 by decide, show (576 : Int) + 4 = 580 by decide]
  by_cases c1 : v_29 576 (g_52 577 d) = 0
  · rw [if_pos c1]
    exact pg29.w
  · rw [if_neg c1]
    by_cases c2 : v_30 576 (g_29 576 (g_52 577 d)) = 0
    · rw [if_pos c2]
      exact (pg29.trans pg30).w
    · rw [if_neg c2]
      by_cases c3 : v_73 580 (g_29 576 (g_52 577 d) 576 6) (g_30 576 (g_29 576 (g_52 577 d))) = 0
      · rw [if_pos c3]
        exact ((pg29.trans pg30).trans pg32).w
      · rw [if_neg c3, pg30e c2]
        exact (pg29.w.trans (PW.fs (hF (v29_1 c1)))).trans pg31.w
theorem pg23 {d : mD} (hF : v_27 576 (g_52 577 d) = 1 → v_29 576 (g_27 576 (g_52 577 d)) = 1 → v_77 580 (g_29 576 (g_27 576 (g_52 577 d)) 576 6) (g_27 576 (g_52 577 d) 576 6) (g_29 576 (g_27 576 (g_52 577 d))) = 0 → ∀ b, (b < 580 ∨ 642 < b) → g_75 580 (g_29 576 (g_27 576 (g_52 577 d)) 576 6) (g_27 576 (g_52 577 d) 576 6) (g_29 576 (g_27 576 (g_52 577 d))) b = g_29 576 (g_27 576 (g_52 577 d)) b) : SPG d (g_23 576 d) := by
  refine SPG.of ?_
  unfold g_23
  rw [show (576 : Int) + 1 = 577 by decide, show (576 : Int) + 4 = 580 by decide]
  by_cases c0 : v_27 576 (g_52 577 d) = 0
  · rw [if_pos c0]
    exact pg27.w
  · rw [if_neg c0]
    by_cases c1 : v_29 576 (g_27 576 (g_52 577 d)) = 0
    · rw [if_pos c1]
      exact (pg27.trans pg29).w
    · rw [if_neg c1]
      by_cases c2 : v_30 576 (g_29 576 (g_27 576 (g_52 577 d))) = 0
      · rw [if_pos c2]
        exact ((pg27.trans pg29).trans pg30).w
      · rw [if_neg c2]
        by_cases c3 : v_77 580 (g_29 576 (g_27 576 (g_52 577 d)) 576 6) (g_27 576 (g_52 577 d) 576 6) (g_30 576 (g_29 576 (g_27 576 (g_52 577 d)))) = 0
        · rw [if_pos c3, pg30e c2]
          rw [pg30e c2] at c3
          exact ((pg27.trans pg29).w.trans (PW.fs (hF (v27_1 c0) (v29_1 c1) c3))).trans pg31.w
        · rw [if_neg c3]
          exact (((pg27.trans pg29).trans pg30).trans pg32).w
theorem v55k {w : Int} {d : mD} (h : ¬ v_55 577 w d = 0) : d 577 1 = 0 := by
  unfold v_55 at h
  by_cases c : d 577 1 = 0
  · exact c
  · rw [if_neg c] at h
    exact absurd rfl h
/-! ===== offices and persons are read ===== -/
theorem LdFr.trans {a b c e f g : mD} (h : LdFr a b e f) (k : LdFr b c f g) : LdFr a c e g := ⟨fun x y => (k.1 x y).trans (h.1 x y), fun x y z => (k.2.1 x y z).trans (h.2.1 x y z), fun x y => (k.2.2 x y).trans (h.2.2 x y)⟩
theorem LdFr.refl {a e : mD} : LdFr a a e e := LdFr.of FrC.refl FrR.refl
theorem r204 (x1 : Int) (m : Nat) : ∃ r, lp_204_13 769 x1 m = st_204_13 769 x1 r ∧ (∀ e, r 0 e = e) ∧ ∀ m', m = m' + 1 → r = lp_204_13 769 x1 m' := by
  cases m with
  | zero => exact ⟨fun _ d => d, rfl, fun _ => rfl, fun m' h => absurd h (by omega)⟩
  | succ m =>
    refine ⟨lp_204_13 769 x1 m, rfl, fun e => ?_, fun m' h => by rw [show m = m' by omega]⟩
    cases m with
    | zero =>
      show st_204_13 769 x1 _ 0 e = e
      unfold st_204_13
      rw [if_pos rfl]
    | succ m =>
      show st_204_13 769 x1 _ 0 e = e
      unfold st_204_13
      rw [if_pos rfl]
theorem ma11 : miand 1 1 = 1 := by decide
theorem ma10 : miand 1 0 = 0 := by decide
theorem ma01 : miand 0 1 = 0 := by decide
theorem ma00 : miand 0 0 = 0 := by decide
def LO (d e : mD) (x : Int) : Prop := Syn d e ∧ OKR 580 d (e 770) ∧ GZ (e 770) ∧ e 770 9 = 0 ∧ e 770 10 = 0 ∧ e 770 7 = x ∧ e 770 8 = 0
theorem loopO : ∀ (n m : Nat) (x : Int) (d e : mD), LO d e x → 0 ≤ x → x ≤ 6 → 7 - x ≤ (n : Int) → d 578 1 - d 577 2 + 1 ≤ (m : Int) → (x = 0 → ¬ v_55 577 1 d = 0) → LdFr d (lp_15_20 576 n x d).2 e (lp_204_13 769 1 m 1 e) ∧ (((lp_15_20 576 n x d).1 = 1 ∧ Syn (lp_15_20 576 n x d).2 (lp_204_13 769 1 m 1 e) ∧ OKR 580 (lp_15_20 576 n x d).2 (lp_204_13 769 1 m 1 e 770) ∧ lp_204_13 769 1 m 1 e 770 8 = 0) ∨ ((lp_15_20 576 n x d).1 = 0 ∧ Fail (lp_15_20 576 n x d).2 (lp_204_13 769 1 m 1 e))) := by
  intro n
  induction n with
  | zero => intro m x d e h h0 h1 hn; omega
  | succ n ih =>
    intro m x d e ⟨hs, hk, hz, h9, h10, h7, h8⟩ h0 h1 hn hm hf
    obtain ⟨r, er, rz, rs⟩ := r204 1 m
    have st : lp_15_20 576 (n + 1) x d = if v_55 577 1 d = 0 then (1, d) else if v_16 576 d = 0 then (0, g_16 576 d) else lp_15_20 576 n (x + 1) (g_16 576 d) := by
      show st_15_20 576 _ x d = _
      unfold st_15_20
      rw [if_neg (by omega), show (576 : Int) + 1 = 577 by decide]
    obtain ⟨s1, s2, s3⟩ := hs.bl
    obtain ⟨i1, i2⟩ := isWord (w := 1) (code := 218546996) s1 word1
    have rt : lp_204_13 769 1 m 1 e = st_204_13 769 1 r 1 e := by rw [er]
    unfold st_204_13 at rt
    have z1 : ¬ (1 : Int) = 0 := by decide
    rw [if_neg z1, if_neg z1, show (769 : Int) + 1 = 770 by decide, h7, s3] at rt
    have f0 := s2.trans i1
    have w0 : g_194 769 218546996 (g_189 769 e) 770 = e 770 := f0.1 770 (by decide)
    rcases i2 with ⟨v1, v2, v3, v4⟩ | ⟨v1, v2, v3⟩
    · have n1 : ¬ v_55 577 1 d = 0 := by omega
      have n2 : ¬ v_194 769 218546996 (g_189 769 e) = 0 := by omega
      rw [if_neg n1] at st
      rw [if_neg n2] at rt
      rw [v2] at rt
      generalize g_194 769 218546996 (g_189 769 e) = H at *
      by_cases c : x = 6
      · obtain ⟨b1, b2⟩ := flt188 (c := 5) (p := d 577 2) v3.2.1
        obtain ⟨c1, c2, c3⟩ := fail32 (c := 5) (d := d)
        have o7 : d 582 0 = e 770 7 := hk.2.2.2.2.2.1.1
        have ev : v_16 576 d = 0 ∧ g_16 576 d = g_32 576 5 d := by
          unfold v_16 g_16
          rw [show (576 : Int) + 4 + 2 = 582 by decide, if_neg (by omega), if_neg (by omega)]
          exact ⟨rfl, rfl⟩
        rw [if_pos ev.1, ev.2] at st
        rw [if_pos c, if_neg b1.ne, ma10, rz] at rt
        rw [st, rt]
        exact ⟨LdFr.of c3 (f0.trans b2), Or.inr ⟨rfl, 5, d 577 2, c1, c2, b1⟩⟩
      · rw [if_neg c] at rt
        have o7 : d 582 0 = e 770 7 := hk.2.2.2.2.2.1.1
        have pg := pg16 (d := d) (by omega) hs.ct (v55k n1)
        obtain ⟨j1, j2⟩ := readOff v3 v4 (by rw [w0]; exact hk) (by rw [w0]; exact hz) (by rw [w0]; exact h9) (by rw [w0]; exact h10) (by rw [w0]; omega)
        have j1 : LdFr d (g_16 576 d) e (g_202 769 H) := (LdFr.of FrC.refl f0).trans j1
        rcases j2 with ⟨u1, u2, u3, u4, u5, u6, u7, u8⟩ | ⟨u1, u2⟩
        · rw [if_neg (by omega)] at st
          have ct := hs.ct.1
          rw [if_pos u2.2.1, ma11, rs (m - 1) (by omega)] at rt
          have e8 : g_16 576 d 578 = d 578 := j1.1 578 (Or.inr (Or.inr (Or.inl rfl)))
          obtain ⟨k1, k2⟩ := ih (m - 1) (x + 1) (g_16 576 d) (g_202 769 H) ⟨u2, u3, u4, u7, u8, by rw [u5, w0]; omega, by rw [u6, w0]; exact h8⟩ (by omega) (by omega) (by omega) (by rw [e8]; omega) (by omega)
          rw [st, rt]
          exact ⟨j1.trans k1, k2⟩
        · rw [if_pos u1] at st
          rw [if_neg u2.ne, ma10, rz] at rt
          rw [st, rt]
          exact ⟨j1, Or.inr ⟨rfl, u2⟩⟩
    · have x0 : ¬ x = 0 := fun z => hf z v1
      rw [if_pos v1] at st
      rw [if_pos v2, if_neg x0, if_pos v3.2.1, v2, ma01, rz] at rt
      rw [st, rt]
      exact ⟨LdFr.of FrC.refl f0, Or.inl ⟨rfl, v3, by rw [w0]; exact hk, by rw [w0]; exact h8⟩⟩
theorem loadO {d e : mD} (h : LO d e 0) : LdFr d (g_15 576 d) e (g_204 769 1 e) ∧ ((v_15 576 d = 1 ∧ Syn (g_15 576 d) (g_204 769 1 e) ∧ OKR 580 (g_15 576 d) (g_204 769 1 e 770) ∧ g_204 769 1 e 770 8 = 0) ∨ (v_15 576 d = 0 ∧ Fail (g_15 576 d) (g_204 769 1 e))) := by
  obtain ⟨hs, hk, hz, h9, h10, h7, h8⟩ := id h
  have ct := hs.ct.1
  have b1 := hs.2.2.1
  have b2 := hs.2.2.2.1.1
  have rt : g_204 769 1 e = lp_204_13 769 1 (1000 - e 769 10 + 1 : Int).toNat 1 e := by
    unfold g_204
    rw [if_pos hs.2.1]
  unfold v_15 g_15 f_15
  rw [show (576 : Int) + 1 = 577 by decide]
  by_cases c : v_55 577 1 d = 0
  · rw [if_pos c]
    generalize (1000 - e 769 10 + 1 : Int).toNat = m at rt
    obtain ⟨r, er, rz, rs⟩ := r204 1 m
    obtain ⟨s1, s2, s3⟩ := hs.bl
    obtain ⟨i1, i2⟩ := isWord (w := 1) (code := 218546996) s1 word1
    rw [er] at rt
    unfold st_204_13 at rt
    have z1 : ¬ (1 : Int) = 0 := by decide
    rw [if_neg z1, if_neg z1, show (769 : Int) + 1 = 770 by decide, h7, s3] at rt
    rcases i2 with ⟨v1, v2, v3, v4⟩ | ⟨v1, v2, v3⟩
    · omega
    · obtain ⟨b1, b2⟩ := flt188 (c := 1) (p := d 577 2) v3.2.1
      obtain ⟨c1, c2, c3⟩ := fail32 (c := 1) (d := d)
      rw [if_pos v2, if_pos rfl, if_neg b1.ne, v2, ma00, rz] at rt
      rw [rt]
      exact ⟨LdFr.of c3 ((s2.trans i1).trans b2), Or.inr ⟨rfl, 1, d 577 2, c1, c2, b1⟩⟩
  · rw [if_neg c, rt]
    exact loopO _ _ 0 d e h (by decide) (by decide) (by omega) (by omega) (fun _ => c)
theorem loopP : ∀ (n m : Nat) (x : Int) (d e : mD), Syn d e → OKR 580 d (e 770) → e 770 8 = x → 0 ≤ x → x ≤ 16 → 17 - x ≤ (n : Int) → d 578 1 - d 577 2 + 1 ≤ (m : Int) → LdFr d (lp_17_2 576 n x d).2 e (lp_204_13 769 0 m 1 e) ∧ (((lp_17_2 576 n x d).1 = 1 ∧ Syn (lp_17_2 576 n x d).2 (lp_204_13 769 0 m 1 e) ∧ OKR 580 (lp_17_2 576 n x d).2 (lp_204_13 769 0 m 1 e 770)) ∨ ((lp_17_2 576 n x d).1 = 0 ∧ Fail (lp_17_2 576 n x d).2 (lp_204_13 769 0 m 1 e))) := by
  intro n
  induction n with
  | zero => intro m x d e hs hk h8 h0 h1 hn; omega
  | succ n ih =>
    intro m x d e hs hk h8 h0 h1 hn hm
    obtain ⟨r, er, rz, rs⟩ := r204 0 m
    have st : lp_17_2 576 (n + 1) x d = if v_55 577 2 d = 0 then (1, d) else if v_18 576 d = 0 then (0, g_18 576 d) else lp_17_2 576 n (x + 1) (g_18 576 d) := by
      show st_17_2 576 _ x d = _
      unfold st_17_2
      rw [if_neg (by omega), show (576 : Int) + 1 = 577 by decide]
    obtain ⟨s1, s2, s3⟩ := hs.bl
    obtain ⟨i1, i2⟩ := isWord (w := 2) (code := 232608281) s1 word2
    have rt : lp_204_13 769 0 m 1 e = st_204_13 769 0 r 1 e := by rw [er]
    unfold st_204_13 at rt
    have z1 : ¬ (1 : Int) = 0 := by decide
    rw [if_neg z1, if_pos rfl, show (769 : Int) + 1 = 770 by decide, h8, s3] at rt
    have f0 := s2.trans i1
    have w0 : g_194 769 232608281 (g_189 769 e) 770 = e 770 := f0.1 770 (by decide)
    have o8 : d 590 0 = e 770 8 := hk.2.2.2.2.2.2.2.1.1
    rcases i2 with ⟨v1, v2, v3, v4⟩ | ⟨v1, v2, v3⟩
    · have n1 : ¬ v_55 577 2 d = 0 := by omega
      have n2 : ¬ v_194 769 232608281 (g_189 769 e) = 0 := by omega
      rw [if_neg n1] at st
      rw [if_neg n2] at rt
      rw [v2] at rt
      generalize g_194 769 232608281 (g_189 769 e) = H at *
      by_cases c : x = 16
      · obtain ⟨b1, b2⟩ := flt188 (c := 5) (p := d 577 2) v3.2.1
        obtain ⟨c1, c2, c3⟩ := fail32 (c := 5) (d := d)
        have ev : v_18 576 d = 0 ∧ g_18 576 d = g_32 576 5 d := by
          unfold v_18 g_18
          rw [show (576 : Int) + 4 + 10 = 590 by decide, if_neg (by omega), if_neg (by omega)]
          exact ⟨rfl, rfl⟩
        rw [if_pos ev.1, ev.2] at st
        rw [if_pos c, if_neg b1.ne, ma10, rz] at rt
        rw [st, rt]
        exact ⟨LdFr.of c3 (f0.trans b2), Or.inr ⟨rfl, 5, d 577 2, c1, c2, b1⟩⟩
      · rw [if_neg c] at rt
        have pg := pg18 (d := d) (by omega) (by omega) hs.ct (v55k n1)
        obtain ⟨j1, j2⟩ := readPer v3 v4 (by rw [w0]; exact hk) (by rw [w0]; omega)
        have j1 : LdFr d (g_18 576 d) e (g_203 769 H) := (LdFr.of FrC.refl f0).trans j1
        rcases j2 with ⟨u1, u2, u3, u4, u5⟩ | ⟨u1, u2⟩
        · rw [if_neg (by omega)] at st
          have ct := hs.ct.1
          rw [if_pos u2.2.1, ma11, rs (m - 1) (by omega)] at rt
          have e8 : g_18 576 d 578 = d 578 := j1.1 578 (Or.inr (Or.inr (Or.inl rfl)))
          obtain ⟨k1, k2⟩ := ih (m - 1) (x + 1) (g_18 576 d) (g_203 769 H) u2 u3 (by rw [u4, w0]; omega) (by omega) (by omega) (by omega) (by rw [e8]; omega)
          rw [st, rt]
          exact ⟨j1.trans k1, k2⟩
        · rw [if_pos u1] at st
          rw [if_neg u2.ne, ma10, rz] at rt
          rw [st, rt]
          exact ⟨j1, Or.inr ⟨rfl, u2⟩⟩
    · rw [if_pos v1] at st
      rw [if_pos v2, if_pos v3.2.1, v2, ma01, rz] at rt
      rw [st, rt]
      exact ⟨LdFr.of FrC.refl f0, Or.inl ⟨rfl, v3, by rw [w0]; exact hk⟩⟩
theorem loadP {d e : mD} (hs : Syn d e) (hk : OKR 580 d (e 770)) (h8 : e 770 8 = 0) : LdFr d (g_17 576 d) e (g_204 769 0 e) ∧ ((v_17 576 d = 1 ∧ Syn (g_17 576 d) (g_204 769 0 e) ∧ OKR 580 (g_17 576 d) (g_204 769 0 e 770)) ∨ (v_17 576 d = 0 ∧ Fail (g_17 576 d) (g_204 769 0 e))) := by
  have ct := hs.ct.1
  have b1 := hs.2.2.1
  have b2 := hs.2.2.2.1.1
  have rt : g_204 769 0 e = lp_204_13 769 0 (1000 - e 769 10 + 1 : Int).toNat 1 e := by
    unfold g_204
    rw [if_pos hs.2.1]
  unfold v_17 g_17 f_17
  rw [rt]
  exact loopP _ _ 0 d e hs hk h8 (by decide) (by decide) (by omega) (by omega)
/-! ===== a deed of the reference's text ===== -/
def nx (r : Int → mD → mD) (x : Int) (E : mD) : mD := if E 769 13 = 0 then r (miand x 1) E else r (miand x 0) E
theorem nxI {P : Prop} [Decidable P] {r : Int → mD → mD} {x : Int} {E F : mD} (h : F 769 13 = E 769 13) : (if P then (if E 769 13 = 0 then r (miand x 1) E else r (miand x 0) E) else if E 769 13 = 0 then r (miand x 1) F else r (miand x 0) F) = nx r x (if P then E else F) := by
  unfold nx
  by_cases c : P
  · rw [if_pos c, if_pos c]
  · rw [if_neg c, if_neg c, h]
theorem nxH {P : Prop} [Decidable P] {r : Int → mD → mD} {x : Int} {E F G : mD} (h : G = nx r x F) : (if P then (if E 769 13 = 0 then r (miand x 1) E else r (miand x 0) E) else G) = nx r x (if P then E else F) := by
  rw [h]
  by_cases c : P
  · rw [if_pos c, if_pos c]
    rfl
  · rw [if_neg c, if_neg c]
theorem lp205h {r : Int → mD → mD} {x N : Int} : ∀ (n : Nat) (k : Int) (E : mD), 0 ≤ N - k → N - k ≤ (n : Int) → lp_205_123 769 r n x N k E = nx r x (rset E (hoursW (N - k).toNat (E 770))) := by
  have stop : ∀ (k : Int) (E : mD), N - k = 0 → nx r x E = nx r x (rset E (hoursW (N - k).toNat (E 770))) := fun k E h => by
    rw [show (N - k).toNat = 0 by omega]
    show _ = nx r x (rset E (E 770))
    rw [rset_self]
  intro n
  induction n with
  | zero =>
    intro k E h0 h1
    rw [← stop k E (by omega)]
    show st_205_123 769 r _ x N k E = _
    unfold st_205_123
    rw [if_neg (by omega)]
    rfl
  | succ n ih =>
    intro k E h0 h1
    by_cases c : k < N
    · have e : lp_205_123 769 r (n + 1) x N k E = lp_205_123 769 r n x N (k + 1) (g_223 769 E) := by
        show st_205_123 769 r _ x N k E = _
        unfold st_205_123
        rw [if_pos c]
      rw [e, ih (k + 1) _ (by omega) (by omega), m_g_223, rset_rset, rset_at, show (N - k).toNat = (N - (k + 1)).toNat + 1 by omega]
      rfl
    · rw [← stop k E (by omega)]
      show st_205_123 769 r _ x N k E = _
      unfold st_205_123
      rw [if_neg c]
      rfl
theorem k13 {E : mD} {u : Row} : rset E u 769 13 = E 769 13 := by rw [rset_ne (by decide)]
theorem st205j {r : Int → mD → mD} {x : Int} {d : mD} (hx : ¬ x = 0) (h3 : ¬ v_194 769 208022 d = 0) : st_205_13 769 r x d = nx r x (rJoin (g_194 769 208022 d)) := by
  unfold st_205_13
  rw [if_neg hx, if_neg h3]
  generalize g_194 769 208022 d = A
  have k : ∀ p o (E : mD), g_226 769 p o E 769 13 = E 769 13 := fun p o E => by rw [m_g_226, k13]
  unfold rJoin rJoinX
  by_cases c1 : g_200 769 (g_199 769 0 A) 769 13 = 0
  · simp only [if_pos c1]
    by_cases c2 : v_225 769 (v_199 769 0 A) (v_200 769 (g_199 769 0 A)) (g_200 769 (g_199 769 0 A)) = 0
    · simp only [if_pos c2]
      exact nxI (k _ _ _)
    · simp only [if_neg c2]
      exact nxI (k _ _ _)
  · simp only [if_neg c1]
    exact nxI (k _ _ _)
theorem st205p {r : Int → mD → mD} {x : Int} {d B : mD} (hx : ¬ x = 0) (h3 : v_194 769 208022 d = 0) (h4 : ¬ v_194 769 316189 (g_194 769 208022 d) = 0) (hB : g_194 769 316189 (g_194 769 208022 d) = B) (hp : g_197 769 1 99 B 770 0 = d 770 0) (hv : 0 ≤ v_197 769 1 99 B) : st_205_13 769 r x d = nx r x (rPass B) := by
  unfold st_205_13
  rw [if_neg hx, if_pos h3, if_neg h4, hB, show (769 : Int) + 1 = 770 by decide, ← hp]
  unfold rPass rPassX
  have k : ∀ (D : mD), lp_205_123 769 r (v_197 769 1 99 B - 0 : Int).toNat x (v_197 769 1 99 B) 0 D = nx r x (rset D (hoursW (v_197 769 1 99 B).toNat (D 770))) := fun D => by
    rw [lp205h _ _ _ (by omega) (by omega), show v_197 769 1 99 B - 0 = v_197 769 1 99 B by omega]
  by_cases c1 : (999 : Int) < g_197 769 1 99 B 770 0 + v_197 769 1 99 B
  · simp only [if_pos c1]
    exact nxH (k _)
  · simp only [if_neg c1]
    exact nxH (k _)
theorem st205c {r : Int → mD → mD} {x : Int} {d C : mD} (hx : ¬ x = 0) (h3 : v_194 769 208022 d = 0) (h4 : v_194 769 316189 (g_194 769 208022 d) = 0) (h5 : ¬ v_194 769 1831504 (g_194 769 316189 (g_194 769 208022 d)) = 0) (hC : g_194 769 1831504 (g_194 769 316189 (g_194 769 208022 d)) = C) : st_205_13 769 r x d = nx r x (rClaim C) := by
  unfold st_205_13
  rw [if_neg hx, if_pos h3, if_pos h4, if_neg h5, hC]
  have k : ∀ p (E : mD), g_228 769 p E 769 13 = E 769 13 := fun p E => by rw [m_g_228, k13]
  unfold rClaim rClaimX
  by_cases c1 : g_199 769 1 C 769 13 = 0
  · simp only [if_pos c1]
    by_cases c2 : v_227 769 (v_201 769 (v_199 769 1 C) (g_199 769 1 C)) (g_199 769 1 C) = 0
    · simp only [if_pos c2]
      exact nxI (k _ _)
    · simp only [if_neg c2]
      exact nxI (k _ _)
  · simp only [if_neg c1]
    exact nxI (k _ _)
theorem st205w {r : Int → mD → mD} {x : Int} {d D : mD} (hx : ¬ x = 0) (h3 : v_194 769 208022 d = 0) (h4 : v_194 769 316189 (g_194 769 208022 d) = 0) (h5 : v_194 769 1831504 (g_194 769 316189 (g_194 769 208022 d)) = 0) (h6 : ¬ v_194 769 9050719969 (g_194 769 1831504 (g_194 769 316189 (g_194 769 208022 d))) = 0) (hD : g_194 769 9050719969 (g_194 769 1831504 (g_194 769 316189 (g_194 769 208022 d))) = D) : st_205_13 769 r x d = nx r x (rWit D) := by
  unfold st_205_13
  rw [if_neg hx, if_pos h3, if_pos h4, if_pos h5, if_neg h6, hD]
  have k : ∀ p q (E : mD), g_235 769 p q E 769 13 = E 769 13 := fun p q E => by rw [m_g_235, k13]
  unfold rWit rWitX rWitE
  by_cases c1 : g_199 769 1 (g_199 769 0 D) 769 13 = 0
  · simp only [if_pos c1]
    by_cases c2 : v_234 769 (v_201 769 (v_199 769 1 (g_199 769 0 D)) (g_199 769 1 (g_199 769 0 D))) (v_199 769 0 D) (g_199 769 1 (g_199 769 0 D)) = 0
    · simp only [if_pos c2]
      exact nxI (k _ _ _)
    · simp only [if_neg c2]
      exact nxI (k _ _ _)
  · simp only [if_neg c1]
    exact nxI (k _ _ _)
theorem st205u {r : Int → mD → mD} {x : Int} {d D : mD} (hx : ¬ x = 0) (h3 : v_194 769 208022 d = 0) (h4 : v_194 769 316189 (g_194 769 208022 d) = 0) (h5 : v_194 769 1831504 (g_194 769 316189 (g_194 769 208022 d)) = 0) (h6 : v_194 769 9050719969 (g_194 769 1831504 (g_194 769 316189 (g_194 769 208022 d))) = 0) (hD : g_194 769 9050719969 (g_194 769 1831504 (g_194 769 316189 (g_194 769 208022 d))) = D) : st_205_13 769 r x d = r 0 D := by
  unfold st_205_13
  rw [if_neg hx, if_pos h3, if_pos h4, if_pos h5, if_pos h6, hD, ma01, ma00]
  split <;> rfl
/-! ===== the loop of the deeds ===== -/
def TKE (E : mO × tW) : Prop := W55 E ∧ tokV E.2 (.inr (2, 576)) ∧ tokV E.2 (.inr (5, 577)) ∧ tokV E.2 (.inr (6, 580))
def LSt (E : mO × tW) (d : mD) : Prop := Safe d ∧ tSh E.2 d ∧ d 580 2 ≤ 999
theorem e580 : (576 : Int) + 4 = 580 := by decide
theorem st580 : stB 580 := Or.inr (Or.inr (Or.inl rfl))
theorem LSt.w {E : mO × tW} {d : mD} (hT : TKE E) (h : LSt E d) : LSt E (g_52 577 d) := by
  obtain ⟨q1, q2, q3⟩ := p_52 (E := E) (x0 := 577) h.1 rfl ⟨hT.2.2.1, trivial⟩ h.2.1
  exact ⟨q3, q1, by rw [q2 580 (by decide)]; exact h.2.2⟩
theorem LSt.F68 {E : mO × tW} {d : mD} (hT : TKE E) (h0 : LSt E d) (hv : v_25 576 1 99 (g_52 577 d) = 1) : ∀ b, (b < 580 ∨ 642 < b) → g_68 580 (g_25 576 1 99 (g_52 577 d) 576 4) (g_25 576 1 99 (g_52 577 d)) b = g_25 576 1 99 (g_52 577 d) b := fun b hb => by
  have h := h0.w hT
  generalize g_52 577 d = u at *
  obtain ⟨q1, q2, q3, q4, q5, q6, q7, q8⟩ := p_25 (E := E) (x0 := 576) (x1 := 1) (x2 := 99) h.1 rfl (by decide) (by decide) ⟨hT.2.1, trivial, trivial, trivial⟩ h.2.1
  have ht : g_25 576 1 99 u 580 2 ≤ 999 := by rw [q3 580 (by decide)]; exact h.2.2
  rcases q7 with q7 | q7
  · omega
  · exact (p_68 (E := E) (x0 := 580) (x1 := g_25 576 1 99 u 576 4) q8 st580 ⟨by omega, by omega⟩ (by omega) (Or.inl rfl) ⟨hT.2.2.2, trivial, trivial⟩ q1).2.2.1 b (by omega)
theorem LSt.F74 {E : mO × tW} {d : mD} (hT : TKE E) (h0 : LSt E d) (hv : v_29 576 (g_52 577 d) = 1) : ∀ b, (b < 580 ∨ 642 < b) → g_74 580 (g_29 576 (g_52 577 d) 576 6) (g_29 576 (g_52 577 d)) b = g_29 576 (g_52 577 d) b := fun b hb => by
  have h := h0.w hT
  generalize g_52 577 d = u at *
  obtain ⟨q1, q2, q3, q4, q5, q6, q7⟩ := p_29 (E := E) (x0 := 576) h.1 rfl ⟨hT.2.1, trivial⟩ h.2.1
  rcases q6 with q6 | q6
  · omega
  · exact (p_74 (E := E) (x0 := 580) (x1 := g_29 576 u 576 6) q7 st580 q6 ⟨hT.2.2.2, trivial, trivial⟩ q1).2.2.1 b (by omega)
theorem LSt.F75 {E : mO × tW} {d : mD} (hT : TKE E) (h0 : LSt E d) (hv : v_27 576 (g_52 577 d) = 1) (hv2 : v_29 576 (g_27 576 (g_52 577 d)) = 1) (hv3 : v_77 580 (g_29 576 (g_27 576 (g_52 577 d)) 576 6) (g_27 576 (g_52 577 d) 576 6) (g_29 576 (g_27 576 (g_52 577 d))) = 0) : ∀ b, (b < 580 ∨ 642 < b) → g_75 580 (g_29 576 (g_27 576 (g_52 577 d)) 576 6) (g_27 576 (g_52 577 d) 576 6) (g_29 576 (g_27 576 (g_52 577 d))) b = g_29 576 (g_27 576 (g_52 577 d)) b := fun b hb => by
  have h := h0.w hT
  generalize g_52 577 d = u at *
  obtain ⟨r1, r2, r3, r4, r5, r6, r7⟩ := p_27 (E := E) (x0 := 576) h.1 rfl ⟨hT.2.1, trivial⟩ h.2.1
  obtain ⟨q1, q2, q3, q4, q5, q6, q7⟩ := p_29 (E := E) (d := g_27 576 u) (x0 := 576) r7 rfl ⟨hT.2.1, trivial⟩ r1
  rcases q6 with q6 | q6
  · omega
  · rcases r6 with r6 | r6
    · omega
    · have w := (p_77 (E := E) (x0 := 580) (x1 := g_29 576 (g_27 576 u) 576 6) (x2 := g_27 576 u 576 6) q7 st580 q6 r6 ⟨hT.2.2.2, trivial, trivial, trivial⟩ q1).2.2
      have w : g_29 576 (g_27 576 u) (580 + 10 + 4) (g_27 576 u 576 6) ≤ 2 := by
        rcases w with w | w
        · exact absurd hv3 w
        · exact w
      exact (p_75 (E := E) (x0 := 580) (x1 := g_29 576 (g_27 576 u) 576 6) (x2 := g_27 576 u 576 6) q7 st580 q6 r6 w ⟨hT.2.2.2, trivial, trivial, trivial⟩ q1).2.2.1 b (by omega)
theorem LSt.g20 {E : mO × tW} {d : mD} (hT : TKE E) (h : LSt E d) : LSt E (g_20 576 d) := by
  obtain ⟨q1, q2, q3, q4, q5⟩ := p_20 (E := E) (x0 := 576) h.1 rfl (by rw [e580]; exact h.2.2) ⟨hT.2.1, trivial⟩ h.2.1
  exact ⟨q5, q1, by rw [e580] at q4; exact q4⟩
theorem LSt.g21 {E : mO × tW} {d : mD} (hT : TKE E) (h : LSt E d) : LSt E (g_21 576 d) := by
  obtain ⟨q1, q2, q3, q4, q5⟩ := p_21 (E := E) (x0 := 576) h.1 rfl (by rw [e580]; exact h.2.2) ⟨hT.2.1, trivial⟩ h.2.1
  exact ⟨q5, q1, by rw [e580] at q4; exact q4⟩
theorem LSt.g22 {E : mO × tW} {d : mD} (hT : TKE E) (h : LSt E d) : LSt E (g_22 576 d) := by
  obtain ⟨q1, q2, q3, q4, q5⟩ := p_22 (E := E) (x0 := 576) h.1 rfl (by rw [e580]; exact h.2.2) ⟨hT.2.1, trivial⟩ h.2.1
  exact ⟨q5, q1, by rw [e580] at q4; exact q4⟩
theorem LSt.g23 {E : mO × tW} {d : mD} (hT : TKE E) (h : LSt E d) : LSt E (g_23 576 d) := by
  obtain ⟨q1, q2, q3, q4, q5⟩ := p_23 (E := E) (x0 := 576) h.1 rfl (by rw [e580]; exact h.2.2) ⟨hT.2.1, trivial⟩ h.2.1
  exact ⟨q5, q1, by rw [e580] at q4; exact q4⟩
theorem r19 (n : Nat) : ∃ r, lp_19_4 576 n = st_19_4 576 r ∧ (∀ k d, r 0 k d = (0, d)) ∧ ∀ n', n = n' + 1 → r = lp_19_4 576 n' := by
  have z : ∀ (r : Int → Int → mD → Int × mD) k d, st_19_4 576 r 0 k d = (0, d) := fun r k d => by
    unfold st_19_4
    by_cases c : k < 1000
    · rw [if_pos c, if_pos rfl]
    · rw [if_neg c]
  cases n with
  | zero => exact ⟨fun _ _ d => (0, d), rfl, fun _ _ => rfl, fun n' h => absurd h (by omega)⟩
  | succ n =>
    refine ⟨lp_19_4 576 n, rfl, fun k d => ?_, fun n' h => by rw [show n = n' by omega]⟩
    cases n with
    | zero => exact z _ k d
    | succ n => exact z _ k d
theorem r205 (m : Nat) : ∃ r, lp_205_13 769 m = st_205_13 769 r ∧ (∀ e, r 0 e = e) ∧ ∀ m', m = m' + 1 → r = lp_205_13 769 m' := by
  have z : ∀ (r : Int → mD → mD) d, st_205_13 769 r 0 d = d := fun r d => by
    unfold st_205_13
    rw [if_pos rfl]
  cases m with
  | zero => exact ⟨fun _ d => d, rfl, fun _ => rfl, fun m' h => absurd h (by omega)⟩
  | succ m =>
    refine ⟨lp_205_13 769 m, rfl, fun e => ?_, fun m' h => by rw [show m = m' by omega]⟩
    cases m with
    | zero => exact z _ e
    | succ m => exact z _ e
def DE (d e d' e' : mD) (c : Int) : Prop := LdFr d d' e e' ∧ ((c = 1 ∧ Syn d' e' ∧ d' 577 1 = 3 ∧ OKR 580 d' (e' 770)) ∨ (c = 0 ∧ Fail d' e') ∨ (c = 0 ∧ ∃ D, Syn D e' ∧ ¬ D 577 1 = 3 ∧ d' = g_32 576 1 D))
theorem stepD {E : mO × tW} (hT : TKE E) {r : Int → Int → mD → Int × mD} {r' : Int → mD → mD} (z1 : ∀ k d, r 0 k d = (0, d)) (z2 : ∀ e, r' 0 e = e) {k : Int} {d e : mD} (hs : Syn d e) (hk : OKR 580 d (e 770)) (hl : LSt E d) (k1 : k ≤ d 577 2) (hn : k < 1000 → d 577 2 < d 578 1 → ∀ D rd, Syn D rd → OKR 580 D (rd 770) → LSt E D → d 577 2 < D 577 2 → LdFr d D e rd → DE D rd (r 1 (k + 1) D).2 (r' 1 rd) (r 1 (k + 1) D).1) : DE d e (st_19_4 576 r 1 k d).2 (st_205_13 769 r' 1 e) (st_19_4 576 r 1 k d).1 := by
  have x1 : ¬ (1 : Int) = 0 := by decide
  have ct := hs.ct
  obtain ⟨a1, a2⟩ := isWord (w := 3) (code := 208022) hs word3
  generalize hA : g_194 769 208022 e = A at *
  by_cases c3 : d 577 1 = 3
  · have ec : st_19_4 576 r 1 k d = (1, d) := by
      unfold st_19_4
      rw [if_neg x1, show (576 : Int) + 1 = 577 by decide, if_pos c3]
      split <;> rfl
    have nv : ∀ w, ¬ v_55 577 w d = 1 := fun w hw => by
      have := v55k (w := w) (d := d) (by omega)
      omega
    rcases a2 with ⟨v, -, -, -⟩ | ⟨-, w3, sA⟩
    · exact absurd v (nv _)
    · obtain ⟨b1, b2⟩ := isWord (w := 4) (code := 316189) sA word4
      rcases b2 with ⟨v, -, -, -⟩ | ⟨-, w4, sB⟩
      · exact absurd v (nv _)
      · obtain ⟨e1, e2⟩ := isWord (w := 5) (code := 1831504) sB word5
        rcases e2 with ⟨v, -, -, -⟩ | ⟨-, w5, sC⟩
        · exact absurd v (nv _)
        · obtain ⟨f1, f2⟩ := isWord (w := 6) (code := 9050719969) sC word6
          rcases f2 with ⟨v, -, -, -⟩ | ⟨-, w6, sD⟩
          · exact absurd v (nv _)
          · rw [← hA] at w4 w5 w6 a1 b1 e1 f1 sD
            rw [ec, st205u x1 w3 w4 w5 w6 rfl, z2]
            have fr := ((a1.trans b1).trans e1).trans f1
            exact ⟨LdFr.of FrC.refl fr, Or.inl ⟨rfl, sD, c3, by rw [fr.1 770 (by decide)]; exact hk⟩⟩
  · have tl : d 577 2 < d 578 1 := by
      have tk := ct.2
      rcases tk with ⟨a1, a2, a3⟩ | ⟨a1, a2, a3, a4⟩ | ⟨a1, a2, a3, a4⟩ | ⟨a1, a2, a3, a4⟩ | ⟨a1, a2, a3, a4, a5, a6⟩
      · exact absurd a2 c3
      · exact a1
      · exact a1
      · exact a1
      · exact a1
    have ck : k < 1000 := by
      have := ct.1
      omega
    have go : ∀ (D rd : mD) (v : Int), LdFr d D e rd → ((v = 1 ∧ Syn D rd ∧ OKR 580 D (rd 770)) ∨ (v = 0 ∧ Fail D rd)) → LSt E D → d 577 2 < D 577 2 → DE d e (r v (k + 1) D).2 (nx r' 1 rd) (r v (k + 1) D).1 := fun D rd v f1 f2 f3 f4 => by
      unfold nx
      rcases f2 with ⟨g1, g2, g3⟩ | ⟨g1, g2⟩
      · obtain ⟨h1, h2⟩ := hn ck tl D rd g2 g3 f3 f4 f1
        rw [if_pos g2.2.1, ma11, g1]
        exact ⟨f1.trans h1, h2⟩
      · rw [if_neg g2.ne, ma10, g1, z1, z2]
        exact ⟨f1, Or.inr (Or.inl ⟨rfl, g2⟩)⟩
    rcases a2 with ⟨v, w3, sA, fA⟩ | ⟨v3, w3, sA⟩
    · have n0 : ¬ v_55 577 3 d = 0 := by omega
      have wA : A 770 = e 770 := a1.1 770 (by decide)
      obtain ⟨j1, j2⟩ := readJoin sA fA (by rw [wA]; exact hk)
      have ec : st_19_4 576 r 1 k d = r (v_20 576 d) (k + 1) (g_20 576 d) := by
        unfold st_19_4
        rw [if_pos ck, if_neg x1, show (576 : Int) + 1 = 577 by decide, if_neg c3, if_neg n0]
      rw [ec, st205j x1 (by omega), hA]
      exact go _ _ _ ((LdFr.of FrC.refl a1).trans j1) j2 (hl.g20 hT) (pg20 ct (v55k n0))
    · obtain ⟨b1, b2⟩ := isWord (w := 4) (code := 316189) sA word4
      have b1 := a1.trans b1
      generalize hB : g_194 769 316189 A = B at *
      rcases b2 with ⟨v, w4, sB, fB⟩ | ⟨v4, w4, sB⟩
      · have n0 : ¬ v_55 577 4 d = 0 := by omega
        have wB : B 770 = e 770 := b1.1 770 (by decide)
        have hF := hl.F68 hT
        obtain ⟨j1, j2⟩ := readPass sB fB (by rw [wB]; exact hk) hF
        have ec : st_19_4 576 r 1 k d = r (v_21 576 d) (k + 1) (g_21 576 d) := by
          unfold st_19_4
          rw [if_pos ck, if_neg x1, show (576 : Int) + 1 = 577 by decide, if_neg c3, if_pos v3, if_neg n0]
        obtain ⟨-, t2, t3⟩ := takeNum (lo := 1) (hi := 99) sB
        rw [ec, st205p (B := B) x1 (by omega) (by rw [hA]; omega) (by rw [hA]; exact hB) (by rw [t2.1 770 (by decide), wB]) (by
          rcases t3 with t3 | t3
          · omega
          · omega)]
        exact go _ _ _ ((LdFr.of FrC.refl b1).trans j1) j2 (hl.g21 hT) (pg21 hF ct (v55k n0))
      · obtain ⟨e1, e2⟩ := isWord (w := 5) (code := 1831504) sB word5
        have e1 := b1.trans e1
        generalize hC : g_194 769 1831504 B = C at *
        rcases e2 with ⟨v, w5, sC, fC⟩ | ⟨v5, w5, sC⟩
        · have n0 : ¬ v_55 577 5 d = 0 := by omega
          have wC : C 770 = e 770 := e1.1 770 (by decide)
          have hF := hl.F74 hT
          obtain ⟨j1, j2⟩ := readClaim sC fC (by rw [wC]; exact hk) hF
          have ec : st_19_4 576 r 1 k d = r (v_22 576 d) (k + 1) (g_22 576 d) := by
            unfold st_19_4
            rw [if_pos ck, if_neg x1, show (576 : Int) + 1 = 577 by decide, if_neg c3, if_pos v3, if_pos v4, if_neg n0]
          rw [ec, st205c (C := C) x1 (by omega) (by rw [hA]; omega) (by rw [hA, hB]; omega) (by rw [hA, hB]; exact hC)]
          exact go _ _ _ ((LdFr.of FrC.refl e1).trans j1) j2 (hl.g22 hT) (pg22 hF ct (v55k n0))
        · obtain ⟨f1, f2⟩ := isWord (w := 6) (code := 9050719969) sC word6
          have f1 := e1.trans f1
          generalize hD : g_194 769 9050719969 C = D at *
          rcases f2 with ⟨v, w6, sD, fD⟩ | ⟨v6, w6, sD⟩
          · have n0 : ¬ v_55 577 6 d = 0 := by omega
            have wD : D 770 = e 770 := f1.1 770 (by decide)
            have hF := hl.F75 hT
            obtain ⟨j1, j2⟩ := readWit sD fD (by rw [wD]; exact hk) hF
            have ec : st_19_4 576 r 1 k d = r (v_23 576 d) (k + 1) (g_23 576 d) := by
              unfold st_19_4
              rw [if_pos ck, if_neg x1, show (576 : Int) + 1 = 577 by decide, if_neg c3, if_pos v3, if_pos v4, if_pos v5, if_neg n0]
            rw [ec, st205w (D := D) x1 (by omega) (by rw [hA]; omega) (by rw [hA, hB]; omega) (by rw [hA, hB, hC]; omega) (by rw [hA, hB, hC]; exact hD)]
            exact go _ _ _ ((LdFr.of FrC.refl f1).trans j1) j2 (hl.g23 hT) (pg23 hF ct (v55k n0))
          · have ec : st_19_4 576 r 1 k d = (0, g_32 576 1 d) := by
              unfold st_19_4
              rw [if_pos ck, if_neg x1, show (576 : Int) + 1 = 577 by decide, if_neg c3, if_pos v3, if_pos v4, if_pos v5, if_pos v6]
              exact z1 _ _
            rw [ec, st205u (D := D) x1 (by omega) (by rw [hA]; omega) (by rw [hA, hB]; omega) (by rw [hA, hB, hC]; omega) (by rw [hA, hB, hC]; exact hD), z2]
            exact ⟨LdFr.of (fail32 (c := 1) (d := d)).2.2 f1, Or.inr (Or.inr ⟨rfl, d, sD, c3, rfl⟩)⟩
theorem loopD {E : mO × tW} (hT : TKE E) : ∀ (n m : Nat) (k : Int) (d e : mD), Syn d e → OKR 580 d (e 770) → LSt E d → k ≤ d 577 2 → 1000 - k ≤ (n : Int) → d 578 1 - d 577 2 + 1 ≤ (m : Int) → DE d e (lp_19_4 576 n 1 k d).2 (lp_205_13 769 m 1 e) (lp_19_4 576 n 1 k d).1 := by
  intro n
  induction n with
  | zero =>
    intro m k d e hs hk hl k1 hn hm
    obtain ⟨r, er, rz, rs⟩ := r19 0
    obtain ⟨r', er', rz', rs'⟩ := r205 m
    rw [er, er']
    exact stepD hT rz rz' hs hk hl k1 (fun x => by omega)
  | succ n ih =>
    intro m k d e hs hk hl k1 hn hm
    obtain ⟨r, er, rz, rs⟩ := r19 (n + 1)
    obtain ⟨r', er', rz', rs'⟩ := r205 m
    rw [er, er']
    refine stepD hT rz rz' hs hk hl k1 (fun x y D rd u1 u2 u3 u4 u5 => ?_)
    have e8 : D 578 = d 578 := u5.1 578 (Or.inr (Or.inr (Or.inl rfl)))
    rw [rs n rfl, rs' (m - 1) (by omega)]
    exact ih (m - 1) (k + 1) D rd u1 u2 u3 (by omega) (by omega) (by rw [e8]; omega)
theorem loadD {E : mO × tW} (hT : TKE E) {d e : mD} (hs : Syn d e) (hk : OKR 580 d (e 770)) (hl : LSt E d) : DE d e (g_19 576 d) (g_205 769 e) (v_19 576 d) := by
  have ct := hs.ct.1
  have b1 := hs.2.2.1
  have b2 := hs.2.2.2.1.1
  have rt : g_205 769 e = lp_205_13 769 (1000 - e 769 10 + 1 : Int).toNat 1 e := by
    unfold g_205
    rw [if_pos hs.2.1]
  unfold v_19 g_19 f_19
  rw [rt]
  exact loopD hT _ _ 0 d e hs hk hl (by omega) (by omega) (by omega)
/-! ===== the head of a text ===== -/
theorem OKR.empty {s : Int} {d : mD} {w : Row} (h0 : w 0 = 0) (h1 : 0 ≤ w 1 ∧ w 1 ≤ 99999) (h2 : 0 ≤ w 2 ∧ w 2 ≤ 9) (h3 : 0 ≤ w 3 ∧ w 3 ≤ 3) (h4 : 1 ≤ w 4 ∧ w 4 ≤ 9) (h5 : 1 ≤ w 5 ∧ w 5 ≤ 20) (h6 : 1 ≤ w 6 ∧ w 6 ≤ 99) (h7 : w 7 = 0) (h8 : w 8 = 0) (h9 : w 9 = 0) (h10 : w 10 = 0) (h11 : w 11 = 0) (hA : RelA s d w) (z2 : d (s + 2) 0 = 0) (z10 : d (s + 10) 0 = 0) (z49 : d (s + 49) 0 = 0) (z57 : d (s + 57) 0 = 0) (z5 : d (s + 57) 5 = 0) : OKR s d w := by
  refine ⟨⟨⟨by omega, by omega, by omega, by omega, by omega, by omega, by omega, by omega, by omega, by omega, by omega, by omega⟩, fun o a b => by omega, fun o a b => by omega, fun o a b => by omega, fun o a b => by omega, fun o a b => by omega, ?_, fun k a b => by omega⟩, fun t a b => by omega, fun p a b => by omega, by omega, hA, ⟨by omega, fun o a b => by omega⟩, fun o a b => by omega, ⟨by omega, fun o a b => by omega⟩, ⟨by omega, fun o a b => by omega⟩, fun o a b => by omega, ⟨by omega, fun o a b => by omega⟩, ⟨by omega, fun o a b => by omega⟩, fun o a b => by omega, fun o a b => by omega⟩
  rw [h10, h11]
  rfl
def rEnd (L : Int) (X : mD) : mD := if X 769 13 = 0 then (if g_189 769 X 769 10 < L then g_188 769 1 (g_189 769 X 769 10) (g_189 769 X) else g_189 769 X) else X
def rBody (X : mD) : mD := g_205 769 (g_204 769 0 (g_204 769 1 X))
theorem bad204 {x : Int} {e : mD} (h : ¬ e 769 13 = 0) : g_204 769 x e = e := by
  unfold g_204
  rw [if_neg h]
  obtain ⟨r, er, -, -⟩ := r204 x (1000 - e 769 10 + 0 : Int).toNat
  rw [er]
  unfold st_204_13
  rw [if_pos rfl]
theorem bad205 {e : mD} (h : ¬ e 769 13 = 0) : g_205 769 e = e := by
  unfold g_205
  rw [if_neg h]
  obtain ⟨r, er, -, -⟩ := r205 (1000 - e 769 10 + 0 : Int).toNat
  rw [er]
  unfold st_205_13
  rw [if_pos rfl]
theorem badBody {e : mD} (h : ¬ e 769 13 = 0) : rBody e = e := by
  unfold rBody
  rw [bad204 h, bad204 h, bad205 h]
theorem badEnd {L : Int} {e : mD} (h : ¬ e 769 13 = 0) : rEnd L e = e := by
  unfold rEnd
  rw [if_neg h]
def rLast (e : mD) : mD := g_195 769 (mset (g_197 769 0 99999 e) 770 1 (v_197 769 0 99999 e))
theorem st206l {r : Int → mD → mD} {x : Int} {e : mD} (hx : ¬ x < 5) : st_206_53 769 r x e = rEnd (e 769 9) (rBody (rLast e)) := by
  unfold st_206_53 rEnd rBody rLast
  rw [if_neg hx, show (769 : Int) + 1 = 770 by decide]
theorem badHead : ∀ (n : Nat) (x : Int) (e : mD), ¬ e 769 13 = 0 → ∀ b, ¬ b = 770 → lp_206_53 769 n x e b = e b := by
  have last : ∀ (r : Int → mD → mD) (x : Int) (e : mD), ¬ x < 5 → ¬ e 769 13 = 0 → ∀ b, ¬ b = 770 → st_206_53 769 r x e b = e b := fun r x e hx h b hb => by
    have h1 : ∀ v, ¬ mset e 770 1 v 769 13 = 0 := fun v => by rw [ms_a (by decide)]; exact h
    rw [st206l hx]
    unfold rLast
    rw [bad197 h, bad195 (h1 _), badBody (h1 _), badEnd (h1 _)]
    funext j
    exact ms_a hb
  intro n
  induction n with
  | zero =>
    intro x e h b hb
    show st_206_53 769 _ x e b = e b
    by_cases c : x < 5
    · unfold st_206_53
      rw [if_pos c, bad197 h]
      funext j
      exact ms_a hb
    · exact last _ x e c h b hb
  | succ n ih =>
    intro x e h b hb
    show st_206_53 769 _ x e b = e b
    by_cases c : x < 5
    · unfold st_206_53
      rw [if_pos c, bad197 h, ih _ _ (by rw [ms_a (by decide)]; exact h) b hb]
      funext j
      exact ms_a hb
    · exact last _ x e c h b hb
theorem old0 {x : Int} {e : mD} (h : 0 ≤ x ∧ x < 5) : v_291 x e = olds 0 x := by
  have : x = 0 ∨ x = 1 ∨ x = 2 ∨ x = 3 ∨ x = 4 := by omega
  rcases this with h | h | h | h | h <;> subst h <;> rfl
theorem old1 {x : Int} {e : mD} (h : 0 ≤ x ∧ x < 5) : v_292 x e = olds 1 x := by
  have : x = 0 ∨ x = 1 ∨ x = 2 ∨ x = 3 ∨ x = 4 := by omega
  rcases this with h | h | h | h | h <;> subst h <;> rfl
def HD (x : Int) (d e : mD) : Prop := (∀ j, 0 ≤ j → j < x → d 581 j = e 770 (2 + j) ∧ olds 0 j ≤ e 770 (2 + j) ∧ e 770 (2 + j) ≤ olds 1 j) ∧ (∀ j, j = 0 ∨ (7 ≤ j ∧ j < 3116) → e 770 j = 0) ∧ d 580 2 = 0 ∧ d 582 0 = 0 ∧ d 590 0 = 0 ∧ d 629 0 = 0 ∧ d 637 0 = 0 ∧ d 637 5 = 0
theorem loopN : ∀ (n : Nat) (x : Int) (d e : mD), Syn d e → 0 ≤ x → x ≤ 5 → 5 - x ≤ (n : Int) → HD x d e → ((lp_14_13 576 n x d).1 = 1 ∧ ∃ X, LdFr d (lp_14_13 576 n x d).2 e X ∧ lp_206_53 769 n x e = rEnd (e 769 9) (rBody X) ∧ LO (lp_14_13 576 n x d).2 X 0) ∨ ((lp_14_13 576 n x d).1 = 0 ∧ LdFr d (lp_14_13 576 n x d).2 e (lp_206_53 769 n x e) ∧ Fail (lp_14_13 576 n x d).2 (lp_206_53 769 n x e)) := by
  have f8 : ∀ (d : mD) (a i v : Int), (a = 580 ∨ a = 581) → ∀ b, (b < 580 ∨ 581 < b) → mset d a i v b = d b := fun d a i v ha b hb => by
    funext j
    exact ms_a (by omega)
  have last : ∀ (r : Int → mD → Int × mD) (r' : Int → mD → mD) (x : Int) (d e : mD), Syn d e → x = 5 → HD x d e → ((st_14_13 576 r x d).1 = 1 ∧ ∃ X, LdFr d (st_14_13 576 r x d).2 e X ∧ st_206_53 769 r' x e = rEnd (e 769 9) (rBody X) ∧ LO (st_14_13 576 r x d).2 X 0) ∨ ((st_14_13 576 r x d).1 = 0 ∧ LdFr d (st_14_13 576 r x d).2 e (st_206_53 769 r' x e) ∧ Fail (st_14_13 576 r x d).2 (st_206_53 769 r' x e)) := fun r r' x d e hs hx ⟨h1, h2, h3, h4, h5, h6, h7, h8⟩ => by
    rw [st206l (by omega)]
    have ec : st_14_13 576 r x d = if v_25 576 0 99999 d = 0 then (0, g_25 576 0 99999 d) else (v_31 576 (mset (g_25 576 0 99999 d) 580 1 (g_25 576 0 99999 d 576 4)), g_31 576 (mset (g_25 576 0 99999 d) 580 1 (g_25 576 0 99999 d 576 4))) := by
      unfold st_14_13
      rw [if_neg (by omega), e580]
    rw [ec]
    obtain ⟨a1, a2, a3⟩ := takeNum (lo := 0) (hi := 99999) hs
    have fm : ∀ u : mD, ∀ b, ¬ b = 770 → mset u 770 1 (v_197 769 0 99999 e) b = u b := fun u b hb => by
      funext j
      exact ms_a hb
    rcases a3 with ⟨q1, q2, q3, q4, q5⟩ | ⟨q1, q2, q3⟩
    · rw [if_neg (by omega)]
      unfold rLast
      rw [q3]
      generalize hv : v_197 769 0 99999 e = v at *
      generalize g_197 769 0 99999 e = E1 at *
      generalize g_25 576 0 99999 d = D1 at *
      have fd : ∀ b, (b < 580 ∨ 581 < b) → mset D1 580 1 v b = D1 b := f8 D1 580 1 v (Or.inl rfl)
      have s2 : Syn (mset D1 580 1 v) (mset E1 770 1 v) := (q2.c (fd 577 (by decide)) (fd 578 (by decide)) (fd 579 (by decide))).r (fm _ 769 (by decide)) (fm _ 776 (by decide))
      obtain ⟨-, -, t1, t2, t3, -⟩ := takeSemi s2
      have fr : LdFr d (g_31 576 (mset D1 580 1 v)) e (g_195 769 (mset E1 770 1 v)) := ⟨fun b hb => by rw [t1 b (by omega) (by omega), fd b (by omega), a1 b (by omega) (by omega)], fun k y z => by rw [t2.1 k y, fm _ k z, a2.1 k y], fun j hj => by rw [t2.2 j hj, fm _ 769 (by decide), a2.2 j hj]⟩
      rcases t3 with ⟨t4, t5⟩ | ⟨t4, t5⟩
      · refine Or.inl ⟨t4, _, fr, rfl, t5, ?_⟩
        have wX : ∀ j, ¬ j = 1 → g_195 769 (mset E1 770 1 v) 770 j = e 770 j := fun j hj => by rw [t2.1 770 (by decide), ms_i hj, a2.1 770 (by decide)]
        have wX1 : g_195 769 (mset E1 770 1 v) 770 1 = v := by rw [t2.1 770 (by decide), ms_e rfl rfl]
        have dX : ∀ b, 581 < b → g_31 576 (mset D1 580 1 v) b = d b := fun b hb => by rw [t1 b (by omega) (by omega), fd b (by omega), a1 b (by omega) (by omega)]
        have d81 : g_31 576 (mset D1 580 1 v) 581 = d 581 := by
          rw [t1 581 (by decide) (by decide), ← a1 581 (by decide) (by decide)]
          funext j
          exact ms_a (by decide)
        have d802 : g_31 576 (mset D1 580 1 v) 580 2 = 0 := by rw [t1 580 (by decide) (by decide), ms_i (by decide), a1 580 (by decide) (by decide)]; exact h3
        have d801 : g_31 576 (mset D1 580 1 v) 580 1 = v := by rw [t1 580 (by decide) (by decide), ms_e rfl rfl]
        have wj : ∀ j, 0 ≤ j → j < 5 → olds 0 j ≤ g_195 769 (mset E1 770 1 v) 770 (2 + j) ∧ g_195 769 (mset E1 770 1 v) 770 (2 + j) ≤ olds 1 j := fun j u1 u2 => by
          rw [wX _ (by omega)]
          exact (h1 j u1 (by omega)).2
        have z : ∀ j, j = 0 ∨ (7 ≤ j ∧ j < 3116) → g_195 769 (mset E1 770 1 v) 770 j = 0 := fun j hj => by
          rw [wX _ (by omega)]
          exact h2 j hj
        show OKR 580 (g_31 576 (mset D1 580 1 v)) (g_195 769 (mset E1 770 1 v) 770) ∧ GZ (g_195 769 (mset E1 770 1 v) 770) ∧ g_195 769 (mset E1 770 1 v) 770 9 = 0 ∧ g_195 769 (mset E1 770 1 v) 770 10 = 0 ∧ g_195 769 (mset E1 770 1 v) 770 7 = 0 ∧ g_195 769 (mset E1 770 1 v) 770 8 = 0
        refine ⟨OKR.empty (z 0 (by decide)) (by rw [wX1]; omega) (wj 0 (by decide) (by decide)) (wj 1 (by decide) (by decide)) (wj 2 (by decide) (by decide)) (wj 3 (by decide) (by decide)) (wj 4 (by decide) (by decide)) (z 7 (by decide)) (z 8 (by decide)) (z 9 (by decide)) (z 10 (by decide)) (z 11 (by decide)) ⟨by rw [d801, wX1], by rw [d802, z 0 (by decide)], fun k u1 u2 => ?_⟩ ?_ ?_ ?_ ?_ ?_, fun o u1 u2 => by
          have := z 7 (by decide)
          exact ⟨z _ (by omega), z _ (by omega)⟩, z 9 (by decide), z 10 (by decide), z 7 (by decide), z 8 (by decide)⟩
        · rw [show (580 : Int) + 1 = 581 by decide, d81, wX _ (by omega)]
          exact (h1 k u1 (by omega)).1
        · rw [show (580 : Int) + 2 = 582 by decide, dX 582 (by decide)]; exact h4
        · rw [show (580 : Int) + 10 = 590 by decide, dX 590 (by decide)]; exact h5
        · rw [show (580 : Int) + 49 = 629 by decide, dX 629 (by decide)]; exact h6
        · rw [show (580 : Int) + 57 = 637 by decide, dX 637 (by decide)]; exact h7
        · rw [show (580 : Int) + 57 = 637 by decide, dX 637 (by decide)]; exact h8
      · rw [badBody t5.ne, badEnd t5.ne]
        exact Or.inr ⟨t4, fr, t5⟩
    · rw [if_pos q1]
      have n1 : ¬ mset (g_197 769 0 99999 e) 770 1 (v_197 769 0 99999 e) 769 13 = 0 := by rw [fm _ 769 (by decide)]; exact q2.ne
      unfold rLast
      rw [bad195 n1, badBody n1, badEnd n1]
      refine Or.inr ⟨rfl, ⟨fun b hb => a1 b (by omega) (by omega), fun k y z => by rw [fm _ k z, a2.1 k y], fun j hj => by rw [fm _ 769 (by decide), a2.2 j hj]⟩, ?_⟩
      obtain ⟨c, p, k1, k2, k3⟩ := q2
      refine ⟨c, p, k1, k2, ?_⟩
      unfold BadR
      rw [fm _ 769 (by decide)]
      exact k3
  intro n
  induction n with
  | zero =>
    intro x d e hs h0 h1 hn hh
    exact last _ _ x d e hs (by omega) hh
  | succ n ih =>
    intro x d e hs h0 h1 hn hh
    by_cases c : x < 5
    · have ec : lp_14_13 576 (n + 1) x d = if v_25 576 (olds 0 x) (olds 1 x) d = 0 then (0, g_25 576 (olds 0 x) (olds 1 x) d) else lp_14_13 576 n (x + 1) (mset (g_25 576 (olds 0 x) (olds 1 x) d) 581 x (g_25 576 (olds 0 x) (olds 1 x) d 576 4)) := by
        show st_14_13 576 _ x d = _
        unfold st_14_13
        rw [if_pos c, show (576 : Int) + 4 + 1 = 581 by decide]
      have er : lp_206_53 769 (n + 1) x e = lp_206_53 769 n (x + 1) (mset (g_197 769 (olds 0 x) (olds 1 x) e) 770 (2 + x) (v_197 769 (olds 0 x) (olds 1 x) e)) := by
        show st_206_53 769 _ x e = _
        unfold st_206_53
        rw [if_pos c, show (769 : Int) + 1 = 770 by decide, old0 ⟨h0, c⟩, old1 ⟨h0, c⟩]
      rw [ec, er]
      obtain ⟨a1, a2, a3⟩ := takeNum (lo := olds 0 x) (hi := olds 1 x) hs
      have fm : ∀ u : mD, ∀ b, ¬ b = 770 → mset u 770 (2 + x) (v_197 769 (olds 0 x) (olds 1 x) e) b = u b := fun u b hb => by
        funext j
        exact ms_a hb
      rcases a3 with ⟨q1, q2, q3, q4, q5⟩ | ⟨q1, q2, q3⟩
      · rw [if_neg (by omega), q3]
        generalize hv : v_197 769 (olds 0 x) (olds 1 x) e = v at *
        generalize g_197 769 (olds 0 x) (olds 1 x) e = E1 at *
        generalize g_25 576 (olds 0 x) (olds 1 x) d = D1 at *
        have fd : ∀ b, (b < 580 ∨ 581 < b) → mset D1 581 x v b = D1 b := f8 D1 581 x v (Or.inr rfl)
        have s2 : Syn (mset D1 581 x v) (mset E1 770 (2 + x) v) := (q2.c (fd 577 (by decide)) (fd 578 (by decide)) (fd 579 (by decide))).r (fm _ 769 (by decide)) (fm _ 776 (by decide))
        have fr : LdFr d (mset D1 581 x v) e (mset E1 770 (2 + x) v) := ⟨fun b hb => by rw [fd b (by omega), a1 b (by omega) (by omega)], fun k y z => by rw [fm _ k z, a2.1 k y], fun j hj => by rw [fm _ 769 (by decide), a2.2 j hj]⟩
        obtain ⟨g1, g2, g3, g4, g5, g6, g7, g8⟩ := hh
        have dX : ∀ b, 581 < b → mset D1 581 x v b = d b := fun b hb => by rw [fd b (by omega), a1 b (by omega) (by omega)]
        have hd : HD (x + 1) (mset D1 581 x v) (mset E1 770 (2 + x) v) := by
          refine ⟨fun j u1 u2 => ?_, fun j hj => ?_, ?_, by rw [dX 582 (by decide)]; exact g4, by rw [dX 590 (by decide)]; exact g5, by rw [dX 629 (by decide)]; exact g6, by rw [dX 637 (by decide)]; exact g7, by rw [dX 637 (by decide)]; exact g8⟩
          · by_cases y : j = x
            · subst y
              rw [ms_e rfl rfl, ms_e rfl rfl]
              exact ⟨rfl, q4, q5⟩
            · rw [ms_i y, ms_i (by omega), a1 581 (by decide) (by decide), a2.1 770 (by decide)]
              exact g1 j u1 (by omega)
          · rw [ms_i (by omega), a2.1 770 (by decide)]
            exact g2 j hj
          · rw [ms_a (by decide), a1 580 (by decide) (by decide)]
            exact g3
        have e9 : mset E1 770 (2 + x) v 769 9 = e 769 9 := fr.2.2 9 (by decide)
        rcases ih (x + 1) (mset D1 581 x v) (mset E1 770 (2 + x) v) s2 (by omega) (by omega) (by omega) hd with ⟨k1, X, k2, k3, k4⟩ | ⟨k1, k2, k3⟩
        · rw [e9] at k3
          exact Or.inl ⟨k1, X, fr.trans k2, k3, k4⟩
        · exact Or.inr ⟨k1, fr.trans k2, k3⟩
      · rw [if_pos q1]
        have n1 : ¬ mset (g_197 769 (olds 0 x) (olds 1 x) e) 770 (2 + x) (v_197 769 (olds 0 x) (olds 1 x) e) 769 13 = 0 := by rw [fm _ 769 (by decide)]; exact q2.ne
        have bh := badHead n (x + 1) _ n1
        refine Or.inr ⟨rfl, ⟨fun b hb => a1 b (by omega) (by omega), fun k y z => by rw [bh k z, fm _ k z, a2.1 k y], fun j hj => by rw [bh 769 (by decide), fm _ 769 (by decide), a2.2 j hj]⟩, ?_⟩
        obtain ⟨c, p, k1, k2, k3⟩ := q2
        refine ⟨c, p, k1, k2, ?_⟩
        unfold BadR
        rw [bh 769 (by decide), fm _ 769 (by decide)]
        exact k3
    · exact last _ _ x d e hs (by omega) hh
/-! ===== a text is read: class and reference ===== -/
theorem zrow : ∀ (n : Nat) (x : Int) (e : mD), 0 ≤ x → x ≤ 3116 → 3116 - x ≤ (n : Int) → ∃ e1, lp_206_12 769 n x e = (if v_194 769 40216062 e1 = 0 then lp_206_53 769 5 0 (g_188 769 1 (g_194 769 40216062 e1 769 10) (g_194 769 40216062 e1)) else lp_206_53 769 5 0 (g_194 769 40216062 e1)) ∧ (∀ b, ¬ b = 770 → e1 b = e b) ∧ (∀ j, x ≤ j → j < 3116 → e1 770 j = 0) ∧ ∀ j, j < x → e1 770 j = e 770 j := by
  intro n
  induction n with
  | zero =>
    intro x e h0 h1 hn
    refine ⟨e, ?_, fun _ _ => rfl, fun j a b => by omega, fun _ _ => rfl⟩
    show st_206_12 769 _ x e = _
    unfold st_206_12
    rw [if_neg (by omega)]
    rfl
  | succ n ih =>
    intro x e h0 h1 hn
    by_cases c : x < 3116
    · obtain ⟨e1, q1, q2, q3, q4⟩ := ih (x + 1) (mset e 770 x 0) (by omega) (by omega) (by omega)
      refine ⟨e1, ?_, fun b hb => ?_, fun j a b => ?_, fun j a => ?_⟩
      · rw [← q1]
        show st_206_12 769 _ x e = _
        unfold st_206_12
        rw [if_pos c, show (769 : Int) + 1 = 770 by decide]
      · rw [q2 b hb]
        funext j
        exact ms_a hb
      · by_cases z : j = x
        · rw [q4 j (by omega), ms_e rfl z]
        · exact q3 j (by omega) b
      · rw [q4 j (by omega), ms_i (by omega)]
    · refine ⟨e, ?_, fun _ _ => rfl, fun j a b => by omega, fun _ _ => rfl⟩
      show st_206_12 769 _ x e = _
      unfold st_206_12
      rw [if_neg c]
      rfl
theorem at194 {c : Int} {e : mD} (h : v_194 769 c e = 0) : g_194 769 c e 769 10 = g_189 769 e 769 10 := by
  unfold v_194 at h
  unfold g_194
  by_cases c1 : g_189 769 e 769 13 = 0
  · rw [if_pos c1] at h ⊢
    by_cases c2 : mcmp (v_193 769 8 (g_189 769 e)) c = 0
    · rw [if_pos c2] at h
      omega
    · rw [if_neg c2]
      exact ms_e rfl rfl
  · rw [if_neg c1]
    exact ms_e rfl rfl
theorem loadHead {d e : mD} (ht : TextR d e) : (v_14 576 (g_13 576 d) = 1 ∧ ∃ X, LdFr d (g_14 576 (g_13 576 d)) e X ∧ g_206 769 e = rEnd (e 769 9) (rBody X) ∧ LO (g_14 576 (g_13 576 d)) X 0) ∨ (v_14 576 (g_13 576 d) = 0 ∧ LdFr d (g_14 576 (g_13 576 d)) e (g_206 769 e) ∧ Fail (g_14 576 (g_13 576 d)) (g_206 769 e)) := by
  obtain ⟨t1, t2, t3⟩ := ht
  obtain ⟨e1, p1, p2, p3, -⟩ := zrow 3116 0 (mset (mset e 769 10 0) 769 13 0) (by decide) (by decide) (by decide)
  have er : g_206 769 e = if v_194 769 40216062 e1 = 0 then lp_206_53 769 5 0 (g_188 769 1 (g_194 769 40216062 e1 769 10) (g_194 769 40216062 e1)) else lp_206_53 769 5 0 (g_194 769 40216062 e1) := by
    rw [← p1]
    rfl
  have q9 : e1 769 = mset (mset e 769 10 0) 769 13 0 769 := p2 769 (by decide)
  have q10 : e1 769 10 = 0 := by rw [q9, ms_i (by decide), ms_e rfl rfl]
  have q13 : e1 769 13 = 0 := by rw [q9, ms_e rfl rfl]
  have qj : ∀ j, j < 10 ∨ 16 < j → e1 769 j = e 769 j := fun j hj => by rw [q9, ms_i (by omega), ms_i (by omega)]
  have qk : ∀ k, ¬ k = 769 → ¬ k = 770 → e1 k = e k := fun k a b => by
    rw [p2 k b]
    funext j
    rw [ms_a a, ms_a a]
  generalize hD : mset (g_58 580 (mset (mset d 576 2 0) 576 3 (-1))) 577 3 0 = D
  have eg : g_13 576 d = g_52 577 D := by
    rw [← hD]
    rfl
  have D3 : D 577 3 = 0 := by rw [← hD]; exact ms_e rfl rfl
  have Df : ∀ b, (b < 576 ∨ 642 < b ∨ b = 578 ∨ b = 579) → D b = d b := fun b hb => by
    rw [← hD]
    unfold g_58
    funext j
    simp (disch := omega) only [ms_a]
  have D0 : D 580 2 = 0 ∧ D 582 0 = 0 ∧ D 590 0 = 0 ∧ D 629 0 = 0 ∧ D 637 0 = 0 ∧ D 637 5 = 0 := by
    rw [← hD]
    unfold g_58
    refine ⟨?_, ?_, ?_, ?_, ?_, ?_⟩ <;> simp (disch := omega) only [ms_a, ms_i, ms_e]
  clear hD
  have D8 : D 578 = d 578 := Df 578 (by decide)
  have D9 : D 579 = d 579 := Df 579 (by decide)
  obtain ⟨a1, a2, a3⟩ := adv (L := d 578 1) (d := D) (by rw [D8]) t1.2 (by omega) (by omega)
  rw [← eg] at a1 a2 a3
  rw [D3, D9] at a2
  rw [D9] at a3
  generalize g_13 576 d = d1 at *
  have d8 : d1 578 = d 578 := by rw [a1 578 (by decide), D8]
  have d9 : d1 579 = d 579 := by rw [a1 579 (by decide), D9]
  have hs : Syn d1 e1 := by
    refine ⟨?_, q13, ?_, ?_, ?_⟩
    · rw [d8, d9]
      refine ⟨t1, by rw [qj 9 (by decide)]; exact t2, fun i x y => ?_⟩
      rw [qk 776 (by decide) (by decide)]
      exact t3 i x y
    · rw [q10, d8]
      omega
    · rw [d8, d9, q10]
      exact a2
    · rw [d8, d9]
      exact a3
  have hd : HD 0 d1 e1 := ⟨fun j a b => by omega, fun j hj => p3 j (by omega) (by omega), by rw [a1 580 (by decide)]; exact D0.1, by rw [a1 582 (by decide)]; exact D0.2.1, by rw [a1 590 (by decide)]; exact D0.2.2.1, by rw [a1 629 (by decide)]; exact D0.2.2.2.1, by rw [a1 637 (by decide)]; exact D0.2.2.2.2.1, by rw [a1 637 (by decide)]; exact D0.2.2.2.2.2⟩
  have f0 : LdFr d d1 e e1 := ⟨fun b hb => by
    by_cases z : b = 577
    · omega
    · rw [a1 b z, Df b hb], qk, qj⟩
  have ec : ∀ v g, v_24 576 0 d1 = v → g_24 576 0 d1 = g → f_14 576 d1 = if v = 0 then (0, g) else lp_14_13 576 5 0 g := fun v g hv hg => by
    unfold f_14
    rw [hv, hg]
    rfl
  obtain ⟨i1, i2⟩ := isWord (w := 0) (code := 40216062) hs word0
  rw [er]
  unfold v_14 g_14
  rcases i2 with ⟨w1, w2, w3, w4⟩ | ⟨w1, w2, w3⟩
  · rw [ec 1 (g_52 577 d1) (by unfold v_24; rw [show (576 : Int) + 1 = 577 by decide, if_neg (by omega)]) (by unfold g_24; rw [show (576 : Int) + 1 = 577 by decide, if_neg (by omega)]), if_neg (by decide), if_neg (by omega)]
    generalize g_194 769 40216062 e1 = H at *
    have f1 : LdFr d (g_52 577 d1) e H := f0.trans (LdFr.of w4 i1)
    have hd2 : HD 0 (g_52 577 d1) H := by
      obtain ⟨h1, h2, h3, h4, h5, h6, h7, h8⟩ := hd
      exact ⟨fun j a b => by omega, fun j hj => by rw [i1.1 770 (by decide)]; exact h2 j hj, by rw [w4 580 (by decide) (by decide)]; exact h3, by rw [w4 582 (by decide) (by decide)]; exact h4, by rw [w4 590 (by decide) (by decide)]; exact h5, by rw [w4 629 (by decide) (by decide)]; exact h6, by rw [w4 637 (by decide) (by decide)]; exact h7, by rw [w4 637 (by decide) (by decide)]; exact h8⟩
    have e9 : H 769 9 = e 769 9 := f1.2.2 9 (by decide)
    rcases loopN 5 0 (g_52 577 d1) H w3 (by decide) (by decide) (by decide) hd2 with ⟨k1, X, k2, k3, k4⟩ | ⟨k1, k2, k3⟩
    · rw [e9] at k3
      exact Or.inl ⟨k1, X, f1.trans k2, k3, k4⟩
    · exact Or.inr ⟨k1, f1.trans k2, k3⟩
  · rw [ec 0 (g_32 576 1 d1) (by unfold v_24; rw [show (576 : Int) + 1 = 577 by decide, if_pos w1]; rfl) (by unfold g_24; rw [show (576 : Int) + 1 = 577 by decide, if_pos w1]), if_pos rfl, if_pos w2, at194 w2, hs.bl.2.2]
    obtain ⟨b1, b2⟩ := flt188 (c := 1) (p := d1 577 2) w3.2.1
    obtain ⟨c1, c2, c3⟩ := fail32 (c := 1) (d := d1)
    have bh := badHead 5 0 _ b1.ne
    have i1 := i1.trans b2
    generalize g_188 769 1 (d1 577 2) (g_194 769 40216062 e1) = H at *
    refine Or.inr ⟨rfl, f0.trans ⟨fun b hb => c3 b (by omega) (by omega), fun k y z => by rw [bh k z, i1.1 k y], fun j hj => by rw [bh 769 (by decide), i1.2 j hj]⟩, 1, d1 577 2, c1, c2, ?_⟩
    unfold BadR
    rw [bh 769 (by decide)]
    exact b1
theorem LdFr.end {d d' e e' : mD} {L : Int} (h : LdFr d d' e e') (hs : Syn d' e') (h3 : d' 577 1 = 3) (hL : L = d' 578 1) : LdFr d d' e (rEnd L e') ∧ rEnd L e' 769 13 = 0 ∧ rEnd L e' 770 = e' 770 := by
  obtain ⟨s1, s2, s3⟩ := hs.bl
  have tk := hs.2.2.2.2
  have hl := hs.2.2.2.1.2.1
  have hT : d' 577 2 = d' 578 1 := by
    rcases tk with ⟨a1, a2, a3⟩ | ⟨a1, a2, a3, a4⟩ | ⟨a1, a2, a3, a4⟩ | ⟨a1, a2, a3, a4⟩ | ⟨a1, a2, a3, a4, a5, a6⟩
    · exact a1
    · omega
    · omega
    · omega
    · omega
  have er : rEnd L e' = g_189 769 e' := by
    unfold rEnd
    rw [if_pos hs.2.1, s3, if_neg (by omega)]
  rw [er]
  exact ⟨h.trans (LdFr.of FrC.refl s2), s1.2.1, s2.1 770 (by decide)⟩
theorem endFail {D e' : mD} {L : Int} (hs : Syn D e') (h3 : ¬ D 577 1 = 3) (hL : L = D 578 1) : FrR e' (rEnd L e') ∧ Fail (g_32 576 1 D) (rEnd L e') := by
  obtain ⟨s1, s2, s3⟩ := hs.bl
  have tk := hs.2.2.2.2
  have hT : D 577 2 < D 578 1 := by
    rcases tk with ⟨a1, a2, a3⟩ | ⟨a1, a2, a3, a4⟩ | ⟨a1, a2, a3, a4⟩ | ⟨a1, a2, a3, a4⟩ | ⟨a1, a2, a3, a4, a5, a6⟩
    · exact absurd a2 h3
    · exact a1
    · exact a1
    · exact a1
    · exact a1
  have er : rEnd L e' = g_188 769 1 (D 577 2) (g_189 769 e') := by
    unfold rEnd
    rw [if_pos hs.2.1, s3, if_pos (by omega)]
  obtain ⟨b1, b2⟩ := flt188 (c := 1) (p := D 577 2) s1.2.1
  obtain ⟨c1, c2, c3⟩ := fail32 (c := 1) (d := D)
  rw [er]
  exact ⟨s2.trans b2, 1, D 577 2, c1, c2, b1⟩
/-! ===== the reference's error stays where nothing was found wrong ===== -/
def EF (e X : mD) : Prop := X 769 13 = 0 → e 769 13 = 0 ∧ X 769 11 = e 769 11 ∧ X 769 12 = e 769 12
theorem EF.refl {e : mD} : EF e e := fun h => ⟨h, rfl, rfl⟩
theorem EF.trans {a b c : mD} (h : EF a b) (g : EF b c) : EF a c := fun z => by
  obtain ⟨q1, q2, q3⟩ := g z
  obtain ⟨q4, q5, q6⟩ := h q1
  exact ⟨q4, q2.trans q5, q3.trans q6⟩
theorem efI {P : Prop} [Decidable P] {e a b : mD} (h : EF e a) (g : EF e b) : EF e (if P then a else b) := by
  by_cases c : P
  · rw [if_pos c]; exact h
  · rw [if_neg c]; exact g
theorem efM {e X : mD} {b j v : Int} (hb : ¬ b = 769) (h : EF e X) : EF e (mset X b j v) := h.trans (fun z => by
  have f : ∀ i, mset X b j v 769 i = X 769 i := fun i => ms_a (fun y => hb y.symm)
  rw [f] at z
  exact ⟨z, f 11, f 12⟩)
theorem efJ {e X : mD} {j v : Int} (hj : ¬ j = 11 ∧ ¬ j = 12 ∧ ¬ j = 13) (h : EF e X) : EF e (mset X 769 j v) := h.trans (fun z => by
  rw [ms_i (by omega)] at z
  exact ⟨z, ms_i (by omega), ms_i (by omega)⟩)
theorem efR {e X : mD} {W : Row} (h : EF e X) : EF e (rset X W) := h.trans (fun z => by
  rw [rset_ne (by decide)] at z ⊢
  exact ⟨z, rfl, rfl⟩)
-- the same of a pair's second
def EP (e : mD) (r : Int × mD) : Prop := EF e r.2
theorem epI {P : Prop} [Decidable P] {e : mD} {a b : Int × mD} (h : EP e a) (g : EP e b) : EP e (if P then a else b) := by
  by_cases c : P
  · rw [if_pos c]; exact h
  · rw [if_neg c]; exact g
theorem epM {e X : mD} {v : Int} (h : EF e X) : EP e (v, X) := h
theorem ef188 {e X : mD} {c p : Int} (h : EF e X) : EF e (g_188 769 c p X) := h.trans (by
  unfold g_188
  refine efI (fun z => ?_) EF.refl
  rw [ms_i (by decide), ms_i (by decide), ms_e rfl rfl] at z
  exact absurd z (by decide))
theorem ef189l {e : mD} : ∀ (n : Nat) (X : mD), EF e X → EF e (lp_189_0 769 n X) := by
  have st : ∀ (r : mD → mD) (X : mD), (∀ Y, EF e Y → EF e (r Y)) → EF e X → EF e (st_189_0 769 r X) := fun r X hr h => by
    unfold st_189_0
    repeat' with_reducible first | exact h | apply efI | apply hr | apply efJ (by decide)
  intro n
  induction n with
  | zero => exact fun X h => st _ X (fun _ z => z) h
  | succ n ih => exact fun X h => st _ X ih h
theorem ef189 {e X : mD} (h : EF e X) : EF e (g_189 769 X) := ef189l _ _ h
theorem ef192 {e X : mD} {c : Int} (h : EF e X) : EF e (g_192 769 c X) := ef189 h
theorem ef193l {e : mD} {c : Int} : ∀ (n : Nat) (x y : Int) (X : mD), EF e X → EP e (lp_193_17 769 c n x y X) := by
  have st : ∀ (r : Int → Int → mD → Int × mD) (x y : Int) (X : mD), (∀ x y Y, EF e Y → EP e (r x y Y)) → EF e X → EP e (st_193_17 769 c r x y X) := fun r x y X hr h => by
    unfold st_193_17
    repeat' with_reducible first | exact h | apply epI | apply hr | apply epM | apply efJ (by decide)
  intro n
  induction n with
  | zero => exact fun x y X h => st _ x y X (fun _ _ _ z => z) h
  | succ n ih => exact fun x y X h => st _ x y X ih h
theorem ef193 {e X : mD} {c : Int} (h : EF e X) : EF e (g_193 769 c X) := ef193l _ _ _ _ (efJ (by decide) (ef189 h))
theorem ef194 {e X : mD} {c : Int} (h : EF e X) : EF e (g_194 769 c X) := by
  unfold g_194
  repeat' with_reducible first | exact h | apply efI | apply efJ (by decide) | apply ef193 | apply ef189
theorem ef195 {e X : mD} (h : EF e X) : EF e (g_195 769 X) := by
  unfold g_195
  repeat' with_reducible first | exact h | apply efI | apply efJ (by decide) | apply ef188 | apply ef192
theorem ef196 {e X : mD} {c : Int} (h : EF e X) : EF e (g_196 769 c X) := by
  unfold g_196
  repeat' with_reducible first | exact h | apply efI | apply ef195 | apply ef188 | apply ef192
theorem ef197l {e : mD} {c p : Int} : ∀ (n : Nat) (x : Int) (X : mD), EF e X → EP e (lp_197_28 769 c p n x X) := by
  have st : ∀ (r : Int → mD → Int × mD) (x : Int) (X : mD), (∀ x Y, EF e Y → EP e (r x Y)) → EF e X → EP e (st_197_28 769 c p r x X) := fun r x X hr h => by
    unfold st_197_28
    repeat' with_reducible first | exact h | apply epI | apply hr | apply epM | apply efJ (by decide) | apply ef188
  intro n
  induction n with
  | zero => exact fun x X h => st _ x X (fun _ _ z => z) h
  | succ n ih => exact fun x X h => st _ x X ih h
theorem ef197 {e X : mD} {c p : Int} (h : EF e X) : EF e (g_197 769 c p X) := by
  unfold g_197
  refine epI (e := e) (ef197l _ _ _ (efJ (by decide) (efJ (by decide) (ef189 h)))) (epM h)
theorem ef198 {e X : mD} (h : EF e X) : EF e (g_198 769 X) := by
  unfold g_198
  repeat' with_reducible first | exact h | apply efI | apply ef188 | apply ef193
theorem ef199 {e X : mD} {c : Int} (h : EF e X) : EF e (g_199 769 c X) := by
  unfold g_199
  repeat' with_reducible first | exact h | apply efI | apply ef188 | apply ef198
theorem ef200 {e X : mD} (h : EF e X) : EF e (g_200 769 X) := by
  unfold g_200
  repeat' with_reducible first | exact h | apply efI | apply ef188 | apply ef198
theorem ef181 {e X : mD} {a b c d : Int} (h : EF e X) : EF e (g_181 769 a b c d X) := by
  unfold g_181
  repeat' with_reducible first | exact h | apply efM (by decide)
theorem ef182 {e X : mD} {a : Int} (h : EF e X) : EF e (g_182 769 a X) := by
  unfold g_182
  repeat' with_reducible first | exact h | apply efM (by decide)
theorem ef202 {e X : mD} (h : EF e X) : EF e (g_202 769 X) := by
  unfold g_202
  repeat' with_reducible first | exact h | apply efI | apply ef181 | apply ef195 | apply ef197 | apply ef188 | apply ef198
theorem ef203 {e X : mD} (h : EF e X) : EF e (g_203 769 X) := by
  unfold g_203
  repeat' with_reducible first | exact h | apply efI | apply ef182 | apply ef195 | apply ef188 | apply ef198
theorem ef204l {e : mD} {c : Int} : ∀ (n : Nat) (x : Int) (X : mD), EF e X → EF e (lp_204_13 769 c n x X) := by
  have st : ∀ (r : Int → mD → mD) (x : Int) (X : mD), (∀ x Y, EF e Y → EF e (r x Y)) → EF e X → EF e (st_204_13 769 c r x X) := fun r x X hr h => by
    unfold st_204_13
    repeat' with_reducible first | exact h | apply efI | apply hr | apply ef203 | apply ef202 | apply ef188 | apply ef194 | apply ef189
  intro n
  induction n with
  | zero => exact fun x X h => st _ x X (fun _ _ z => z) h
  | succ n ih => exact fun x X h => st _ x X ih h
theorem ef204 {e X : mD} {c : Int} (h : EF e X) : EF e (g_204 769 c X) := by
  unfold g_204
  exact efI (ef204l _ _ _ h) (ef204l _ _ _ h)
theorem ef223 {e X : mD} (h : EF e X) : EF e (g_223 769 X) := by
  rw [m_g_223]
  exact efR h
theorem ef226 {e X : mD} {a b : Int} (h : EF e X) : EF e (g_226 769 a b X) := by
  rw [m_g_226]
  exact efR h
theorem ef228 {e X : mD} {a : Int} (h : EF e X) : EF e (g_228 769 a X) := by
  rw [m_g_228]
  exact efR h
theorem ef235 {e X : mD} {a b : Int} (h : EF e X) : EF e (g_235 769 a b X) := by
  rw [m_g_235]
  exact efR h
theorem ef205h {e : mD} {q : Int → mD → mD} (hq : ∀ x Y, EF e Y → EF e (q x Y)) : ∀ (n : Nat) (x y z : Int) (X : mD), EF e X → EF e (lp_205_123 769 q n x y z X) := by
  have st : ∀ (r : Int → Int → Int → mD → mD) (x y z : Int) (X : mD), (∀ x y z Y, EF e Y → EF e (r x y z Y)) → EF e X → EF e (st_205_123 769 q r x y z X) := fun r x y z X hr h => by
    unfold st_205_123
    repeat' with_reducible first | exact h | apply efI | apply hr | apply hq | apply ef223
  intro n
  induction n with
  | zero => exact fun x y z X h => st _ x y z X (fun _ _ _ _ z => z) h
  | succ n ih => exact fun x y z X h => st _ x y z X ih h
set_option maxRecDepth 4000 in
theorem ef205l {e : mD} : ∀ (n : Nat) (x : Int) (X : mD), EF e X → EF e (lp_205_13 769 n x X) := by
  have st : ∀ (r : Int → mD → mD) (x : Int) (X : mD), (∀ x Y, EF e Y → EF e (r x Y)) → EF e X → EF e (st_205_13 769 r x X) := fun r x X hr h => by
    unfold st_205_13
    repeat' with_reducible first | exact h | apply efI | apply hr | apply ef205h hr | apply ef196 | apply ef199 | apply ef200 | apply ef197 | apply ef226 | apply ef228 | apply ef235 | apply ef194
  intro n
  induction n with
  | zero => exact fun x X h => st _ x X (fun _ _ z => z) h
  | succ n ih => exact fun x X h => st _ x X ih h
theorem ef205 {e X : mD} (h : EF e X) : EF e (g_205 769 X) := by
  unfold g_205
  exact efI (ef205l _ _ _ h) (ef205l _ _ _ h)
theorem ef206l {e : mD} : ∀ (n : Nat) (x : Int) (X : mD), EF e X → EF e (lp_206_53 769 n x X) := by
  have st : ∀ (r : Int → mD → mD) (x : Int) (X : mD), (∀ x Y, EF e Y → EF e (r x Y)) → EF e X → EF e (st_206_53 769 r x X) := fun r x X hr h => by
    unfold st_206_53
    repeat' with_reducible first | exact h | apply efI | apply hr | apply ef188 | apply ef189 | apply ef205 | apply ef204 | apply ef195 | apply efM (by decide) | apply ef197
  intro n
  induction n with
  | zero => exact fun x X h => st _ x X (fun _ _ z => z) h
  | succ n ih => exact fun x X h => st _ x X ih h
theorem ef206z {e : mD} : ∀ (n : Nat) (x : Int) (X : mD), EF e X → EF e (lp_206_12 769 n x X) := by
  have st : ∀ (r : Int → mD → mD) (x : Int) (X : mD), (∀ x Y, EF e Y → EF e (r x Y)) → EF e X → EF e (st_206_12 769 r x X) := fun r x X hr h => by
    unfold st_206_12
    repeat' with_reducible first | exact h | apply efI | apply hr | apply ef206l | apply ef188 | apply efM (by decide) | apply ef194
  intro n
  induction n with
  | zero => exact fun x X h => st _ x X (fun _ _ z => z) h
  | succ n ih => exact fun x X h => st _ x X ih h
theorem err206 {e : mD} (h : g_206 769 e 769 13 = 0) : g_206 769 e 769 11 = e 769 11 ∧ g_206 769 e 769 12 = e 769 12 := by
  obtain ⟨-, q1, q2⟩ := ef206z (e := mset (mset e 769 10 0) 769 13 0) (3116 - 0 : Int).toNat 0 _ EF.refl h
  refine ⟨Eq.trans q1 ?_, Eq.trans q2 ?_⟩
  · rw [ms_i (by decide), ms_i (by decide)]
  · rw [ms_i (by decide), ms_i (by decide)]
/-! ===== the class's error stays where nothing was found wrong ===== -/
def K2 (d X : mD) : Prop := X 576 2 = d 576 2 ∧ X 576 3 = d 576 3
theorem K2.refl {d : mD} : K2 d d := ⟨rfl, rfl⟩
theorem K2.trans {a b c : mD} (h : K2 a b) (g : K2 b c) : K2 a c := ⟨g.1.trans h.1, g.2.trans h.2⟩
theorem kI {P : Prop} [Decidable P] {e a b : mD} (h : K2 e a) (g : K2 e b) : K2 e (if P then a else b) := by
  by_cases c : P
  · rw [if_pos c]; exact h
  · rw [if_neg c]; exact g
theorem kM {e X : mD} {b j v : Int} (hb : ¬ b = 576) (h : K2 e X) : K2 e (mset X b j v) := h.trans ⟨ms_a (fun y => hb y.symm), ms_a (fun y => hb y.symm)⟩
theorem kJ {e X : mD} {j v : Int} (hj : ¬ j = 2 ∧ ¬ j = 3) (h : K2 e X) : K2 e (mset X 576 j v) := h.trans ⟨ms_i (by omega), ms_i (by omega)⟩
theorem kF {e X Y : mD} (f : Y 576 = X 576) (h : K2 e X) : K2 e Y := h.trans ⟨by rw [f], by rw [f]⟩
-- how many persons are read: never below none
def P9 (X : mD) : Prop := 0 ≤ X 590 0
theorem y9I {P : Prop} [Decidable P] {a b : mD} (h : P9 a) (g : P9 b) : P9 (if P then a else b) := by
  by_cases c : P
  · rw [if_pos c]; exact h
  · rw [if_neg c]; exact g
theorem y9M {X : mD} {b j v : Int} (hb : ¬ b = 590) (h : P9 X) : P9 (mset X b j v) := by
  unfold P9
  rw [ms_a (fun y => hb y.symm)]
  exact h
theorem k53l {e : mD} : ∀ (n : Nat) (X : mD), K2 e X → K2 e (lp_53_0 577 n X) := by
  have st : ∀ (r : mD → mD) (X : mD), (∀ Y, K2 e Y → K2 e (r Y)) → K2 e X → K2 e (st_53_0 577 r X) := fun r X hr h => by
    unfold st_53_0
    repeat' with_reducible first | exact h | apply kI | apply hr | apply kM (by decide)
  intro n
  induction n with
  | zero => exact fun X h => st _ X (fun _ z => z) h
  | succ n ih => exact fun X h => st _ X ih h
theorem k53 {e X : mD} (h : K2 e X) : K2 e (g_53 577 X) := k53l _ _ h
theorem k54l {e : mD} : ∀ (n : Nat) (X : mD), K2 e X → K2 e (lp_54_5 577 n X) := by
  have st : ∀ (r : mD → mD) (X : mD), (∀ Y, K2 e Y → K2 e (r Y)) → K2 e X → K2 e (st_54_5 577 r X) := fun r X hr h => by
    unfold st_54_5
    repeat' with_reducible first | exact h | apply kI | apply hr | apply kM (by decide)
  intro n
  induction n with
  | zero => exact fun X h => st _ X (fun _ z => z) h
  | succ n ih => exact fun X h => st _ X ih h
theorem k54 {e X : mD} (h : K2 e X) : K2 e (g_54 577 X) := k54l _ _ (kM (by decide) h)
theorem k52l {e : mD} : ∀ (n : Nat) (X : mD), K2 e X → K2 e (lp_52_8 577 n X) := by
  have st : ∀ (r : mD → mD) (X : mD), (∀ Y, K2 e Y → K2 e (r Y)) → K2 e X → K2 e (st_52_8 577 r X) := fun r X hr h => by
    unfold st_52_8
    repeat' with_reducible first | exact h | apply kI | apply hr | apply k54 | apply k53 | apply kM (by decide)
  intro n
  induction n with
  | zero => exact fun X h => st _ X (fun _ z => z) h
  | succ n ih => exact fun X h => st _ X ih h
theorem k52 {e X : mD} (h : K2 e X) : K2 e (g_52 577 X) := k52l _ _ (kM (by decide) h)
theorem y953l : ∀ (n : Nat) (X : mD), P9 X → P9 (lp_53_0 577 n X) := by
  have st : ∀ (r : mD → mD) (X : mD), (∀ Y, P9 Y → P9 (r Y)) → P9 X → P9 (st_53_0 577 r X) := fun r X hr h => by
    unfold st_53_0
    repeat' with_reducible first | exact h | apply y9I | apply hr | apply y9M (by decide)
  intro n
  induction n with
  | zero => exact fun X h => st _ X (fun _ z => z) h
  | succ n ih => exact fun X h => st _ X ih h
theorem y953 {X : mD} (h : P9 X) : P9 (g_53 577 X) := y953l _ _ h
theorem y954l : ∀ (n : Nat) (X : mD), P9 X → P9 (lp_54_5 577 n X) := by
  have st : ∀ (r : mD → mD) (X : mD), (∀ Y, P9 Y → P9 (r Y)) → P9 X → P9 (st_54_5 577 r X) := fun r X hr h => by
    unfold st_54_5
    repeat' with_reducible first | exact h | apply y9I | apply hr | apply y9M (by decide)
  intro n
  induction n with
  | zero => exact fun X h => st _ X (fun _ z => z) h
  | succ n ih => exact fun X h => st _ X ih h
theorem y954 {X : mD} (h : P9 X) : P9 (g_54 577 X) := y954l _ _ (y9M (by decide) h)
theorem y952l : ∀ (n : Nat) (X : mD), P9 X → P9 (lp_52_8 577 n X) := by
  have st : ∀ (r : mD → mD) (X : mD), (∀ Y, P9 Y → P9 (r Y)) → P9 X → P9 (st_52_8 577 r X) := fun r X hr h => by
    unfold st_52_8
    repeat' with_reducible first | exact h | apply y9I | apply hr | apply y954 | apply y953 | apply y9M (by decide)
  intro n
  induction n with
  | zero => exact fun X h => st _ X (fun _ z => z) h
  | succ n ih => exact fun X h => st _ X ih h
theorem y952 {X : mD} (h : P9 X) : P9 (g_52 577 X) := y952l _ _ (y9M (by decide) h)
-- a step that may fail
def EG (d : mD) (v : Int) (X : mD) : Prop := ¬ v = 0 → K2 d X
theorem eI {P : Prop} [Decidable P] {d a b : mD} {v w : Int} (h : P → EG d v a) (g : ¬ P → EG d w b) : EG d (if P then v else w) (if P then a else b) := by
  by_cases c : P
  · rw [if_pos c, if_pos c]; exact h c
  · rw [if_neg c, if_neg c]; exact g c
theorem e0 {d X : mD} : EG d 0 X := fun h => absurd rfl h
theorem e1 {d X : mD} {v : Int} (h : K2 d X) : EG d v X := fun _ => h
theorem e32 {d X Y : mD} {c : Int} : EG d (v_32 576 c Y) X := fun h => absurd rfl h
theorem y932 {X : mD} {c : Int} (h : P9 X) : P9 (g_32 576 c X) := by
  unfold g_32
  exact y9M (by decide) (y9M (by decide) h)
theorem e577 : (576 : Int) + 1 = 577 := by decide
theorem e25 {d X : mD} {lo hi : Int} (h : K2 d X) : EG d (v_25 576 lo hi X) (g_25 576 lo hi X) := by
  unfold v_25 g_25
  rw [e577]
  repeat' with_reducible first | exact e32 | refine eI (fun _ => ?_) (fun _ => ?_) | exact h | apply e1 | apply k52 | apply kJ (by decide)
theorem e26 {d X : mD} (h : K2 d X) : EG d (v_26 576 X) (g_26 576 X) := by
  unfold v_26 g_26
  rw [e577]
  repeat' with_reducible first | exact e32 | refine eI (fun _ => ?_) (fun _ => ?_) | exact h | apply e1 | apply k52 | apply kJ (by decide)
theorem e27 {d X : mD} (h : K2 d X) : EG d (v_27 576 X) (g_27 576 X) := by
  unfold v_27 g_27
  repeat' with_reducible first | exact e32 | refine eI (fun _ => ?_) (fun _ => ?_) | exact h | apply e26 | apply kJ (by decide)
theorem e28 {d X : mD} (h : K2 d X) : EG d (v_28 576 X) (g_28 576 X) := by
  unfold v_28 g_28
  repeat' with_reducible first | exact e32 | refine eI (fun _ => ?_) (fun _ => ?_) | exact h | apply e26 | apply kJ (by decide)
theorem e29 {d X : mD} (h : K2 d X) : EG d (v_29 576 X) (g_29 576 X) := by
  unfold v_29 g_29
  repeat' with_reducible first | exact e32 | refine eI (fun _ => ?_) (fun _ => ?_) | exact h | apply e26 | apply kJ (by decide)
theorem e30 {d X : mD} (h : K2 d X) : EG d (v_30 576 X) (g_30 576 X) := by
  unfold v_30 g_30
  refine eI (fun _ => e1 h) (fun _ => ?_)
  rw [if_pos (show v_32 576 1 X = 0 from rfl)]
  exact e0
theorem e31 {d X : mD} (h : K2 d X) : EG d (v_31 576 X) (g_31 576 X) := by
  unfold v_31 g_31
  rw [e577]
  exact eI (fun _ => e0) (fun c => e1 (k52 (e30 h c)))
theorem e24 {d X : mD} {c : Int} (h : K2 d X) : EG d (v_24 576 c X) (g_24 576 c X) := by
  unfold v_24 g_24
  rw [e577]
  exact eI (fun _ => e32) (fun c => e1 (k52 h))
theorem y926 {X : mD} (h : P9 X) : P9 (g_26 576 X) := by
  unfold g_26
  rw [e577]
  repeat' with_reducible first | exact h | apply y9I | apply y952 | apply y932 | apply y9M (by decide)
theorem y930 {X : mD} (h : P9 X) : P9 (g_30 576 X) := by
  unfold g_30
  exact y9I h (y932 h)
theorem y931 {X : mD} (h : P9 X) : P9 (g_31 576 X) := by
  unfold g_31
  rw [e577]
  exact y9I (y930 h) (y952 (y930 h))
theorem k35 {d X : mD} {a b c e : Int} (h : K2 d X) : K2 d (g_35 582 a b c e X) := kF (f35 576 (by decide)) h
theorem k47 {d X : mD} {a : Int} (hn : P9 X) (h : K2 d X) : K2 d (g_47 590 a X) := kF (f47 hn 576 (by decide)) h
theorem y947 {X : mD} {a : Int} (h : P9 X) : P9 (g_47 590 a X) := by
  unfold g_47
  refine y9I ?_ h
  unfold P9
  rw [ms_e rfl rfl]
  exact Int.add_nonneg h (by decide)
theorem k25 {d X : mD} {lo hi : Int} (c : ¬ v_25 576 lo hi X = 0) (h : K2 d X) : K2 d (g_25 576 lo hi X) := e25 h c
theorem k26 {d X : mD} (c : ¬ v_26 576 X = 0) (h : K2 d X) : K2 d (g_26 576 X) := e26 h c
theorem k27 {d X : mD} (c : ¬ v_27 576 X = 0) (h : K2 d X) : K2 d (g_27 576 X) := e27 h c
theorem k28 {d X : mD} (c : ¬ v_28 576 X = 0) (h : K2 d X) : K2 d (g_28 576 X) := e28 h c
theorem k29 {d X : mD} (c : ¬ v_29 576 X = 0) (h : K2 d X) : K2 d (g_29 576 X) := e29 h c
theorem k30 {d X : mD} (c : ¬ v_30 576 X = 0) (h : K2 d X) : K2 d (g_30 576 X) := e30 h c
theorem k31 {d X : mD} (c : ¬ v_31 576 X = 0) (h : K2 d X) : K2 d (g_31 576 X) := e31 h c
theorem e16 {d X : mD} (h : K2 d X) : EG d (v_16 576 X) (g_16 576 X) := by
  unfold v_16 g_16
  rw [e577, show (576 : Int) + 4 + 2 = 582 by decide]
  repeat' with_reducible first | exact e32 | exact e0 | refine eI (fun _ => ?_) (fun _ => ?_) | exact h | apply e1 | apply k35 | apply k31 (by assumption) | apply k25 (by assumption) | apply k26 (by assumption) | apply k52
theorem e18 {d X : mD} (hn : P9 X) (h : K2 d X) : EG d (v_18 576 X) (g_18 576 X) := by
  unfold v_18 g_18
  rw [e577, show (576 : Int) + 4 + 10 = 590 by decide]
  repeat' with_reducible first | exact e32 | exact e0 | refine eI (fun _ => ?_) (fun _ => ?_) | exact h | apply e1 | exact k47 (y931 (y926 (y952 hn))) (k31 (by assumption) (k26 (by assumption) (k52 h)))
theorem y918 {X : mD} (h : P9 X) : P9 (g_18 576 X) := by
  unfold g_18
  rw [e577, show (576 : Int) + 4 + 10 = 590 by decide]
  repeat' with_reducible first | exact h | apply y9I | apply y947 | apply y931 | apply y926 | apply y952 | apply y932
def EQ2 (d : mD) (r : Int × mD) : Prop := EG d r.1 r.2
theorem qI {P : Prop} [Decidable P] {e : mD} {a b : Int × mD} (h : P → EQ2 e a) (g : ¬ P → EQ2 e b) : EQ2 e (if P then a else b) := by
  by_cases c : P
  · rw [if_pos c]; exact h c
  · rw [if_neg c]; exact g c
theorem qP {e X : mD} {v : Int} (h : EG e v X) : EQ2 e (v, X) := h
theorem e14l {d : mD} : ∀ (n : Nat) (x : Int) (X : mD), K2 d X → EQ2 d (lp_14_13 576 n x X) := by
  have st : ∀ (r : Int → mD → Int × mD) (x : Int) (X : mD), (∀ x Y, K2 d Y → EQ2 d (r x Y)) → K2 d X → EQ2 d (st_14_13 576 r x X) := fun r x X hr h => by
    unfold st_14_13
    rw [show (576 : Int) + 4 = 580 by decide, show (580 : Int) + 1 = 581 by decide]
    repeat' with_reducible first | refine qI (fun _ => ?_) (fun _ => ?_) | apply hr | apply qP | exact e0 | apply e31 | exact h | apply kM (by decide) | apply k25 (by assumption)
  intro n
  induction n with
  | zero => exact fun x X h => st _ x X (fun _ _ _ => e0) h
  | succ n ih => exact fun x X h => st _ x X ih h
theorem e14 {d X : mD} (h : K2 d X) : EG d (v_14 576 X) (g_14 576 X) := by
  show EQ2 d (f_14 576 X)
  unfold f_14
  exact qI (fun _ => e0) (fun c => e14l _ _ _ (e24 h c))
theorem e15l {d : mD} : ∀ (n : Nat) (x : Int) (X : mD), K2 d X → EQ2 d (lp_15_20 576 n x X) := by
  have st : ∀ (r : Int → mD → Int × mD) (x : Int) (X : mD), (∀ x Y, K2 d Y → EQ2 d (r x Y)) → K2 d X → EQ2 d (st_15_20 576 r x X) := fun r x X hr h => by
    unfold st_15_20
    exact qI (fun _ => e1 h) (fun _ => qI (fun _ => e1 h) (fun _ => qI (fun _ => e0) (fun c => hr _ _ (e16 h c))))
  intro n
  induction n with
  | zero => exact fun x X h => st _ x X (fun _ _ _ => e0) h
  | succ n ih => exact fun x X h => st _ x X ih h
theorem e15 {d X : mD} (h : K2 d X) : EG d (v_15 576 X) (g_15 576 X) := by
  show EQ2 d (f_15 576 X)
  unfold f_15
  exact qI (fun _ => fun y => absurd rfl y) (fun c => e15l _ _ _ h)
theorem e17l {d : mD} : ∀ (n : Nat) (x : Int) (X : mD), P9 X → K2 d X → EQ2 d (lp_17_2 576 n x X) := by
  have st : ∀ (r : Int → mD → Int × mD) (x : Int) (X : mD), (∀ x Y, P9 Y → K2 d Y → EQ2 d (r x Y)) → P9 X → K2 d X → EQ2 d (st_17_2 576 r x X) := fun r x X hr hn h => by
    unfold st_17_2
    exact qI (fun _ => e1 h) (fun _ => qI (fun _ => e1 h) (fun _ => qI (fun _ => e0) (fun c => hr _ _ (y918 hn) (e18 hn h c))))
  intro n
  induction n with
  | zero => exact fun x X hn h => st _ x X (fun _ _ _ _ => e0) hn h
  | succ n ih => exact fun x X hn h => st _ x X ih hn h
theorem e17 {d X : mD} (hn : P9 X) (h : K2 d X) : EG d (v_17 576 X) (g_17 576 X) := e17l _ _ _ hn h
theorem e20 {d X : mD} (h : K2 d X) : EG d (v_20 576 X) (g_20 576 X) := by
  unfold v_20 g_20
  rw [e577, show (576 : Int) + 4 = 580 by decide]
  refine eI (fun _ => e0) (fun c1 => eI (fun _ => e0) (fun c2 => eI (fun _ => e0) (fun c3 => eI (fun _ => e32) (fun _ => e31 (kF (f61 576 (by decide)) (k30 c3 (k28 c2 (k27 c1 (k52 h)))))))))
theorem e21 {E : mO × tW} {d X : mD} (hT : TKE E) (hl : LSt E X) (h : K2 d X) : EG d (v_21 576 X) (g_21 576 X) := by
  unfold v_21 g_21
  rw [e577, show (576 : Int) + 4 = 580 by decide]
  refine eI (fun _ => e0) (fun c1 => eI (fun _ => e0) (fun c2 => eI (fun _ => e32) (fun _ => e31 ?_)))
  rw [pg30e c2]
  exact kF (hl.F68 hT (v25_1 c1) 576 (by decide)) (k25 c1 (k52 h))
theorem e22 {E : mO × tW} {d X : mD} (hT : TKE E) (hl : LSt E X) (h : K2 d X) : EG d (v_22 576 X) (g_22 576 X) := by
  unfold v_22 g_22
  rw [e577, show (576 : Int) + 4 = 580 by decide]
  refine eI (fun _ => e0) (fun c1 => eI (fun _ => e0) (fun c2 => eI (fun _ => e32) (fun _ => e31 ?_)))
  rw [pg30e c2]
  exact kF (hl.F74 hT (v29_1 c1) 576 (by decide)) (k29 c1 (k52 h))
theorem e23 {E : mO × tW} {d X : mD} (hT : TKE E) (hl : LSt E X) (h : K2 d X) : EG d (v_23 576 X) (g_23 576 X) := by
  unfold v_23 g_23
  rw [e577, show (576 : Int) + 4 = 580 by decide]
  refine eI (fun _ => e0) (fun c0 => eI (fun _ => e0) (fun c1 => eI (fun _ => e0) (fun c2 => eI (fun c3 => e31 ?_) (fun _ => e32))))
  rw [pg30e c2]
  rw [pg30e c2] at c3
  exact kF (hl.F75 hT (v27_1 c0) (v29_1 c1) c3 576 (by decide)) (k29 c1 (k27 c0 (k52 h)))
theorem e19l {E : mO × tW} {d : mD} (hT : TKE E) : ∀ (n : Nat) (x k : Int) (X : mD), (¬ x = 0 → LSt E X ∧ K2 d X) → EQ2 d (lp_19_4 576 n x k X) := by
  have st : ∀ (r : Int → Int → mD → Int × mD) (x k : Int) (X : mD), (∀ x k Y, (¬ x = 0 → LSt E Y ∧ K2 d Y) → EQ2 d (r x k Y)) → (¬ x = 0 → LSt E X ∧ K2 d X) → EQ2 d (st_19_4 576 r x k X) := fun r x k X hr h => by
    unfold st_19_4
    have hh : EQ2 d (x, X) := fun c => (h c).2
    refine qI (fun _ => qI (fun _ => hh) (fun c => qI (fun _ => hh) (fun _ => qI (fun _ => qI (fun _ => qI (fun _ => qI (fun _ => ?_) (fun _ => ?_)) (fun _ => ?_)) (fun _ => ?_)) (fun _ => ?_)))) (fun _ => hh)
    · exact hr _ _ _ (fun y => absurd rfl y)
    · exact hr _ _ _ (fun y => ⟨(h c).1.g23 hT, e23 hT (h c).1 (h c).2 y⟩)
    · exact hr _ _ _ (fun y => ⟨(h c).1.g22 hT, e22 hT (h c).1 (h c).2 y⟩)
    · exact hr _ _ _ (fun y => ⟨(h c).1.g21 hT, e21 hT (h c).1 (h c).2 y⟩)
    · exact hr _ _ _ (fun y => ⟨(h c).1.g20 hT, e20 (h c).2 y⟩)
  intro n
  induction n with
  | zero => exact fun x k X h => st _ x k X (fun _ _ _ _ => e0) h
  | succ n ih => exact fun x k X h => st _ x k X ih h
theorem e19 {E : mO × tW} {d X : mD} (hT : TKE E) (hl : LSt E X) (h : K2 d X) : EG d (v_19 576 X) (g_19 576 X) := e19l hT _ _ _ _ (fun _ => ⟨hl, h⟩)
theorem errAll {E : mO × tW} {d : mD} (hT : TKE E) (h15 : Safe (g_15 576 (g_14 576 (g_13 576 d)))) (hl : LSt E (g_17 576 (g_15 576 (g_14 576 (g_13 576 d))))) (n1 : ¬ v_14 576 (g_13 576 d) = 0) (n2 : ¬ v_15 576 (g_14 576 (g_13 576 d)) = 0) (n3 : ¬ v_17 576 (g_15 576 (g_14 576 (g_13 576 d))) = 0) (n4 : ¬ v_19 576 (g_17 576 (g_15 576 (g_14 576 (g_13 576 d)))) = 0) : g_19 576 (g_17 576 (g_15 576 (g_14 576 (g_13 576 d)))) 576 2 = 0 ∧ g_19 576 (g_17 576 (g_15 576 (g_14 576 (g_13 576 d)))) 576 3 = -1 := by
  have k0 : K2 (mset (mset d 576 2 0) 576 3 (-1)) (g_13 576 d) := by
    unfold g_13 g_51 g_58
    rw [e577, show (576 : Int) + 4 = 580 by decide]
    repeat' with_reducible first | exact K2.refl | apply k52 | apply kM (by decide)
  have k := k0.trans (e19 hT hl (e17 (r_4_f0 (x := 590) h15 (show stB 580 from st580)).1 (e15 (e14 K2.refl n1) n2) n3) n4)
  exact ⟨k.1.trans (by rw [ms_i (by decide), ms_e rfl rfl]), k.2.trans (ms_e rfl rfl)⟩
def ER (d : mD) : Prop := d 576 2 = d 769 11 ∧ d 576 3 = d 769 12
/-! ===== load: the class against the reference ===== -/
theorem loadAll {E : mO × tW} (hE : EOK E) (hT : TKE E) {d e : mD} {y : Int} (ht : TextR d e) (hS : Safe d) (hh : tSh E.2 d) : ∃ D', LdFr d D' e (g_206 769 e) ∧ ((v_303 0 y d = 0 ∧ g_206 769 e 769 13 = 0 ∧ OKR 580 D' (g_206 769 e 770) ∧ (D' 576 2 = 0 ∧ D' 576 3 = -1) ∧ g_303 0 y d = mset (lp_120_95 0 2 1 0 (g_4 64 (g_59 1 580 (mset D' 578 1 0)))).2 y 0 (lp_120_95 0 2 1 0 (g_4 64 (g_59 1 580 (mset D' 578 1 0)))).1) ∨ (v_303 0 y d = 1 ∧ Fail D' (g_206 769 e) ∧ g_303 0 y d = mset D' 578 1 0)) := by
  obtain ⟨p1, p2, p3, p4⟩ := p_13 (E := E) (x0 := 576) hS rfl ⟨hT.2.1, trivial⟩ hh
  obtain ⟨q1, q2, q3, q4, q5⟩ := p_14 (E := E) (x0 := 576) hE hT.1 p4 rfl (by rw [p3]; decide) ⟨hT.2.1, trivial⟩ p1
  obtain ⟨r1, r2, r3, r4, r5⟩ := p_15 (E := E) (x0 := 576) hT.1 q5 rfl q4 ⟨hT.2.1, trivial⟩ q1
  obtain ⟨s1, s2, s3, s4, s5⟩ := p_17 (E := E) (x0 := 576) hT.1 r5 rfl r4 ⟨hT.2.1, trivial⟩ r1
  rw [e580] at s4
  have hl : LSt E (g_17 576 (g_15 576 (g_14 576 (g_13 576 d)))) := ⟨s5, s1, s4⟩
  have er := errAll hT r5 hl
  clear p1 p2 p3 p4 q1 q2 q3 q4 q5 r1 r2 r3 r4 r5 s1 s2 s3 s4 s5
  have t2 := ht.2.1
  have ev : v_303 0 y d = if v_14 576 (g_13 576 d) = 0 then 1 else if v_15 576 (g_14 576 (g_13 576 d)) = 0 then 1 else if v_17 576 (g_15 576 (g_14 576 (g_13 576 d))) = 0 then 1 else if v_19 576 (g_17 576 (g_15 576 (g_14 576 (g_13 576 d)))) = 0 then 1 else 0 := by
    unfold v_303
    rw [show (0 : Int) + 576 = 576 by decide]
  have eg : g_303 0 y d = if v_14 576 (g_13 576 d) = 0 then mset (g_14 576 (g_13 576 d)) 578 1 0 else if v_15 576 (g_14 576 (g_13 576 d)) = 0 then mset (g_15 576 (g_14 576 (g_13 576 d))) 578 1 0 else if v_17 576 (g_15 576 (g_14 576 (g_13 576 d))) = 0 then mset (g_17 576 (g_15 576 (g_14 576 (g_13 576 d)))) 578 1 0 else if v_19 576 (g_17 576 (g_15 576 (g_14 576 (g_13 576 d)))) = 0 then mset (g_19 576 (g_17 576 (g_15 576 (g_14 576 (g_13 576 d))))) 578 1 0 else mset (lp_120_95 0 2 1 0 (g_4 64 (g_59 1 580 (mset (g_19 576 (g_17 576 (g_15 576 (g_14 576 (g_13 576 d))))) 578 1 0)))).2 y 0 (lp_120_95 0 2 1 0 (g_4 64 (g_59 1 580 (mset (g_19 576 (g_17 576 (g_15 576 (g_14 576 (g_13 576 d))))) 578 1 0)))).1 := by
    unfold g_303
    rw [show (0 : Int) + 576 = 576 by decide, show (0 : Int) + 578 = 578 by decide, show (0 : Int) + 64 = 64 by decide, show (0 : Int) + 1 = 1 by decide, show (0 : Int) + 580 = 580 by decide]
    rfl
  rw [ev, eg]
  rcases loadHead ht with ⟨v1, X, f1, r1, lo⟩ | ⟨v1, f1, x1⟩
  · have n1 : ¬ v_14 576 (g_13 576 d) = 0 := by omega
    rw [if_neg n1, if_neg n1, r1]
    unfold rBody
    generalize g_14 576 (g_13 576 d) = D1 at *
    obtain ⟨f2, o2⟩ := loadO lo
    have f2 := f1.trans f2
    rcases o2 with ⟨v2, sy2, k2, h8⟩ | ⟨v2, x2⟩
    · have n2 : ¬ v_15 576 D1 = 0 := by omega
      rw [if_neg n2, if_neg n2]
      generalize g_15 576 D1 = D2 at *
      generalize g_204 769 1 X = X2 at *
      obtain ⟨f3, o3⟩ := loadP sy2 k2 h8
      have f3 := f2.trans f3
      rcases o3 with ⟨v3, sy3, k3⟩ | ⟨v3, x3⟩
      · have n3 : ¬ v_17 576 D2 = 0 := by omega
        rw [if_neg n3, if_neg n3]
        generalize g_17 576 D2 = D3 at *
        generalize g_204 769 0 X2 = X3 at *
        obtain ⟨f4, o4⟩ := loadD hT sy3 k3 hl
        have f4 := f3.trans f4
        generalize v_19 576 D3 = c at *
        generalize g_19 576 D3 = D4 at *
        generalize g_205 769 X3 = X4 at *
        have e8 : ∀ D, LdFr d D e X4 → e 769 9 = D 578 1 := fun D h => by
          rw [h.1 578 (by decide)]
          exact t2
        rcases o4 with ⟨w1, w2, w3, w4⟩ | ⟨w1, w2⟩ | ⟨w1, D, w2, w3, w4⟩
        · obtain ⟨z1, z2, z3⟩ := f4.end w2 w3 (e8 D4 f4)
          have n4 : ¬ c = 0 := by omega
          rw [if_neg n4, if_neg n4]
          exact ⟨D4, z1, Or.inl ⟨rfl, z2, by rw [z3]; exact w4, er n1 n2 n3 n4, rfl⟩⟩
        · rw [if_pos w1, if_pos w1, badEnd w2.ne]
          exact ⟨D4, f4, Or.inr ⟨rfl, w2, rfl⟩⟩
        · have e9 : e 769 9 = D 578 1 := by
            rw [t2, ← f4.1 578 (by decide), w4]
            unfold g_32
            rw [ms_a (by decide), ms_a (by decide)]
          obtain ⟨z1, z2⟩ := endFail w2 w3 e9
          rw [if_pos w1, if_pos w1]
          exact ⟨D4, f4.trans (LdFr.of FrC.refl z1), Or.inr ⟨rfl, by rw [w4]; exact z2, rfl⟩⟩
      · rw [if_pos v3, if_pos v3, bad205 x3.ne, badEnd x3.ne]
        exact ⟨_, f3, Or.inr ⟨rfl, x3, rfl⟩⟩
    · rw [if_pos v2, if_pos v2, bad204 x2.ne, bad205 x2.ne, badEnd x2.ne]
      exact ⟨_, f2, Or.inr ⟨rfl, x2, rfl⟩⟩
  · rw [if_pos v1, if_pos v1]
    exact ⟨_, f1, Or.inr ⟨rfl, x1, rfl⟩⟩
theorem f207 {d : mD} : ∃ e2, (∀ b, ¬ b = 769 → ¬ b = 774 → e2 b = d b) ∧ (∀ j, ¬ j = 11 → ¬ j = 12 → e2 769 j = d 769 j) ∧ (e2 769 11 = 0 ∧ e2 769 12 = -1) ∧ (∀ i, 0 ≤ i → i < 3116 → e2 774 i = d 770 i) ∧ (∀ i, 3116 ≤ i → e2 774 i = d 774 i) ∧ f_207 769 d = (if g_206 769 e2 769 13 = 0 then (g_206 769 e2 770 8, mset (mset (mset (mset (mset (g_206 769 e2) 769 9 0) 769 0 0) 769 7 0) 775 0 0) 775 1 0) else lp_207_71 769 (3116 - 0 : Int).toNat 0 (mset (mset (g_206 769 e2) 769 9 0) 769 0 1)) := by
  obtain ⟨e2, q1, q2, q3, q4⟩ := copyLoop (α := Int × mD) (L := lp_207_12 769) (F := fun d => if g_206 769 d 769 13 = 0 then (g_206 769 d 770 8, mset (mset (mset (mset (mset (g_206 769 d) 769 9 0) 769 0 0) 769 7 0) 775 0 0) 775 1 0) else lp_207_71 769 (3116 - 0 : Int).toNat 0 (mset (mset (g_206 769 d) 769 9 0) 769 0 1)) (I := fun _ => True) (A := 774) (B := 0) (C := 770) (D := 0) (N := 3116) (by decide) (fun _ _ _ _ => trivial) (fun n x d _ hx => by
    cases n with
    | zero =>
      show st_207_12 769 _ x d = _
      unfold st_207_12
      rw [if_neg (by omega)]
      rfl
    | succ n =>
      show st_207_12 769 _ x d = _
      unfold st_207_12
      rw [if_neg (by omega)]
      rfl) (fun n x d _ hx => by
    show st_207_12 769 _ x d = _
    unfold st_207_12
    rw [if_pos hx, Int.zero_add]
    rfl) (3116 - 0 : Int).toNat 0 (mset (mset d 769 11 0) 769 12 (-1)) trivial (by decide) (by decide)
  have e9 : e2 769 = mset (mset d 769 11 0) 769 12 (-1) 769 := q2 769 (by decide)
  refine ⟨e2, fun b x y => ?_, fun j x y => ?_, ⟨?_, ?_⟩, fun i x y => ?_, fun i x => ?_, q1⟩
  · rw [q2 b y]
    funext j
    rw [ms_a x, ms_a x]
  · rw [e9, ms_i y, ms_i x]
  · rw [e9, ms_i (by decide), ms_e rfl rfl]
  · rw [e9, ms_e rfl rfl]
  · have := q3 i x y
    rw [Int.zero_add] at this
    rw [this, ms_a (by decide), ms_a (by decide)]
  · rw [q4 i (by omega), ms_a (by decide), ms_a (by decide)]
theorem back207 {d : mD} : ∃ d', lp_207_71 769 (3116 - 0 : Int).toNat 0 d = (0, d') ∧ (∀ b, ¬ b = 770 → d' b = d b) ∧ ∀ i, 0 ≤ i → i < 3116 → d' 770 i = d 774 i := by
  obtain ⟨d', q1, q2, q3, q4⟩ := copyLoop (α := Int × mD) (L := lp_207_71 769) (F := fun d => (0, d)) (I := fun _ => True) (A := 770) (B := 0) (C := 774) (D := 0) (N := 3116) (by decide) (fun _ _ _ _ => trivial) (fun n x d _ hx => by
    cases n with
    | zero =>
      show st_207_71 769 _ x d = _
      unfold st_207_71
      rw [if_neg (by omega)]
    | succ n =>
      show st_207_71 769 _ x d = _
      unfold st_207_71
      rw [if_neg (by omega)]) (fun n x d _ hx => by
    show st_207_71 769 _ x d = _
    unfold st_207_71
    rw [if_pos hx, Int.zero_add]
    rfl) (3116 - 0 : Int).toNat 0 d trivial (by decide) (by decide)
  refine ⟨d', q1, q2, fun i x y => ?_⟩
  have := q3 i x y
  rw [Int.zero_add] at this
  exact this
-- what class and reference have in common between two calls
def CI (d : mD) : Prop := OKR 1 d (d 770) ∧ HistRel d ∧ SaveRel d ∧ TextR d d
theorem lp120 {u : mD} : (lp_120_95 0 2 1 0 u).1 = u 11 0 ∧ (∀ b, ¬ b = 571 → ¬ b = 572 → (lp_120_95 0 2 1 0 u).2 b = u b) ∧ (lp_120_95 0 2 1 0 u).2 571 0 = 0 ∧ (lp_120_95 0 2 1 0 u).2 571 1 = 0 := by
  have e : lp_120_95 0 2 1 0 u = (mset (mset u 571 0 0) 571 1 0 11 0, mset (mset (mset u 571 0 0) 571 1 0) 572 1 0) := by
    show st_120_95 0 _ 1 0 u = _
    unfold st_120_95
    rw [if_pos (by decide)]
    show st_120_95 0 _ 1 1 (mset u 571 0 0) = _
    unfold st_120_95
    rw [if_pos (by decide)]
    show st_120_95 0 _ 1 2 (mset (mset u 571 0 0) 571 1 0) = _
    unfold st_120_95
    rw [if_neg (by decide)]
    rfl
  rw [e]
  dsimp only
  refine ⟨?_, fun b x y => ?_, ?_, ?_⟩
  · rw [ms_a (by decide), ms_a (by decide)]
  · funext j
    rw [ms_a y, ms_a x, ms_a x]
  · rw [ms_a (by decide), ms_i (by decide), ms_e rfl rfl]
  · rw [ms_a (by decide), ms_e rfl rfl]
theorem load303 {E : mO × tW} (hE : EOK E) (hT : TKE E) {d : mD} (hi : CI d) (hS : Safe d) (hh : tSh E.2 d) (hf : ∀ b, 642 < b → ¬ b = 778 → g_303 0 778 d b = d b) (h64 : 0 ≤ d 64 1 ∧ d 64 1 < 8) : ((v_303 0 778 d = 0 ∧ v_207 769 (g_303 0 778 d) = g_303 0 778 d 778 0 ∧ g_207 769 (g_303 0 778 d) 769 0 = 0 ∧ 0 ≤ v_207 769 (g_303 0 778 d) ∧ v_207 769 (g_303 0 778 d) ≤ 16) ∨ (v_303 0 778 d = 1 ∧ g_207 769 (g_303 0 778 d) 769 0 = 1)) ∧ CI (g_207 769 (g_303 0 778 d)) ∧ (∀ b, b < 769 → g_207 769 (g_303 0 778 d) b = g_303 0 778 d b) ∧ ER (g_207 769 (g_303 0 778 d)) := by
  obtain ⟨i1, i2, i3, i4⟩ := hi
  obtain ⟨e2, a1, a2, a3, a4, -, a5⟩ := f207 (d := g_303 0 778 d)
  have ht : TextR d e2 := i4.fr rfl rfl (by rw [a2 9 (by decide) (by decide), hf 769 (by decide) (by decide)]) (by rw [a1 776 (by decide) (by decide), hf 776 (by decide) (by decide)])
  obtain ⟨D', l1, l2⟩ := loadAll hE hT (y := 778) ht hS hh
  unfold v_207 g_207
  rw [a5]
  have er6 := err206 (e := e2)
  generalize g_206 769 e2 = R at *
  have R7 : ∀ k, 769 < k → ¬ k = 770 → ¬ k = 774 → ¬ k = 778 → R k = d k := fun k x y z u => by rw [l1.2.1 k (by omega) y, a1 k (by omega) z, hf k (by omega) u]
  have RC : ∀ k, k < 769 → R k = g_303 0 778 d k := fun k x => by rw [l1.2.1 k (by omega) (by omega), a1 k (by omega) (by omega)]
  have R9 : ∀ j, j < 10 ∨ 16 < j → R 769 j = d 769 j := fun j hj => by rw [l1.2.2 j hj, a2 j (by omega) (by omega), hf 769 (by decide) (by decide)]
  have G9 : ∀ k, 769 ≤ k → ¬ k = 778 → g_303 0 778 d k = d k := fun k x y => hf k (by omega) y
  rcases l2 with ⟨v1, v2, v3, v5, v4⟩ | ⟨v1, v2, v3⟩
  · rw [if_pos v2]
    dsimp only
    have M1 : OKR 580 (mset D' 578 1 0) (R 770) := v3.fr (fun b x y => by funext j; exact ms_a (by omega))
    have cp := M1.copy (a := 1) (s := 580) (by decide)
    generalize hU : g_4 64 (g_59 1 580 (mset D' 578 1 0)) = U at *
    have U4 : ∀ b, ¬ b = 64 → U b = g_59 1 580 (mset D' 578 1 0) b := fun b hb => by
      rw [← hU]
      unfold g_4
      funext j
      exact ms_a hb
    have okU : OKR 1 U (R 770) := cp.1.fr (fun b x y => U4 b (by omega))
    have Uf : ∀ b, (b < 1 ∨ 63 < b) → ¬ b = 64 → U b = mset D' 578 1 0 b := fun b x y => by rw [U4 b y, cp.2 b (by omega)]
    obtain ⟨c1, c2, c3, c4⟩ := lp120 (u := U)
    have u11 : U 11 0 = R 770 8 := okU.2.2.2.2.2.2.2.1.1
    generalize hP : lp_120_95 0 2 1 0 U = P at *
    have D1 : ∀ b, ¬ b = 778 → ¬ b = 571 → ¬ b = 572 → g_303 0 778 d b = U b := fun b x y z => by
      rw [v4, ← c2 b y z]
      funext j
      exact ms_a x
    have D571 : ∀ j, g_303 0 778 d 571 j = P.2 571 j := fun j => by
      rw [v4]
      exact ms_a (by decide)
    have fin : ∀ b, b < 769 → (mset (mset (mset (mset (mset R 769 9 0) 769 0 0) 769 7 0) 775 0 0) 775 1 0) b = g_303 0 778 d b := fun b hb => by
      rw [← RC b hb]
      funext j
      rw [ms_a (by omega), ms_a (by omega), ms_a (by omega), ms_a (by omega), ms_a (by omega)]
    generalize hZ : mset (mset (mset (mset (mset R 769 9 0) 769 0 0) 769 7 0) 775 0 0) 775 1 0 = Z at *
    have Z9 : ∀ j, Z 769 j = if j = 7 then 0 else if j = 0 then 0 else if j = 9 then 0 else R 769 j := fun j => by
      rw [← hZ, ms_a (by decide), ms_a (by decide)]
      by_cases h7 : j = 7
      · rw [if_pos h7, ms_e rfl h7]
      · rw [if_neg h7, ms_i h7]
        by_cases h0 : j = 0
        · rw [if_pos h0, ms_e rfl h0]
        · rw [if_neg h0, ms_i h0]
          by_cases h9 : j = 9
          · rw [if_pos h9, ms_e rfl h9]
          · rw [if_neg h9, ms_i h9]
    have Z70 : Z 770 = R 770 := by
      rw [← hZ]
      funext j
      rw [ms_a (by decide), ms_a (by decide), ms_a (by decide), ms_a (by decide), ms_a (by decide)]
    have Z75 : Z 775 0 = 0 ∧ Z 775 1 = 0 := by
      rw [← hZ]
      exact ⟨by rw [ms_i (by decide), ms_e rfl rfl], ms_e rfl rfl⟩
    have erz : ER Z := by
      have z6 : ∀ j, Z 576 j = D' 576 j := fun j => by
        rw [fin 576 (by decide), D1 576 (by decide) (by decide) (by decide), Uf 576 (by decide) (by decide)]
        exact ms_a (by decide)
      obtain ⟨q1, q2⟩ := er6 v2
      have z11 : Z 769 11 = 0 := by rw [Z9, if_neg (by decide), if_neg (by decide), if_neg (by decide), q1, a3.1]
      have z12 : Z 769 12 = -1 := by rw [Z9, if_neg (by decide), if_neg (by decide), if_neg (by decide), q2, a3.2]
      exact ⟨by rw [z6, z11]; exact v5.1, by rw [z6, z12]; exact v5.2⟩
    refine ⟨Or.inl ⟨v1, ?_, ?_, v3.1.1.2.1⟩, ⟨?_, ?_, ?_, ?_⟩, fin, erz⟩
    · show R 770 8 = _
      rw [v4, ms_e rfl rfl, c1, u11]
    · show Z 769 0 = 0
      rw [Z9]
      rfl
    · show OKR 1 Z (Z 770)
      rw [Z70]
      exact okU.fr (fun b x y => by rw [fin b (by omega), D1 b (by omega) (by omega) (by omega)])
    · have z64 : ∀ j, Z 64 j = U 64 j := fun j => by rw [fin 64 (by decide), D1 64 (by decide) (by decide) (by decide)]
      have u1 : U 64 1 = d 64 1 := by
        rw [← hU]
        unfold g_4
        rw [ms_i (by decide), cp.2 64 (by decide), ms_a (by decide), l1.1 64 (by decide)]
      have u2 : U 64 2 = 0 := by
        rw [← hU]
        unfold g_4
        exact ms_e rfl rfl
      exact noneH (by rw [z64, u1]; exact h64) (by rw [z64, u2]) (by rw [Z9]; rfl)
    · intro j hj
      have e1 : Z 571 j = 0 := by
        rw [fin 571 (by decide), D571]
        rcases hj with hj | hj
        · rw [hj]; exact c3
        · rw [hj]; exact c4
      have e2 : Z 775 j = 0 := by
        rcases hj with hj | hj
        · rw [hj]; exact Z75.1
        · rw [hj]; exact Z75.2
      exact ⟨by rw [e1, e2], fun h => absurd e2 h⟩
    · have z1 : Z 578 1 = 0 := by
        rw [fin 578 (by decide), D1 578 (by decide) (by decide) (by decide), Uf 578 (by decide) (by decide)]
        exact ms_e rfl rfl
      exact ⟨by omega, by rw [Z9, z1]; rfl, fun i x y => by omega⟩
  · rw [if_neg v2.ne]
    obtain ⟨Z, b1, b2, b3⟩ := back207 (d := mset (mset R 769 9 0) 769 0 1)
    rw [b1]
    dsimp only
    have ZF : ∀ b, ¬ b = 769 → ¬ b = 770 → Z b = R b := fun b x y => by
      rw [b2 b y]
      funext j
      rw [ms_a x, ms_a x]
    have Z9 : ∀ j, ¬ j = 0 → ¬ j = 9 → Z 769 j = R 769 j := fun j x y => by rw [b2 769 (by decide), ms_i x, ms_i y]
    have G : ∀ b, b < 769 → (b < 576 ∨ 642 < b ∨ b = 579) → g_303 0 778 d b = d b := fun b x y => by
      rw [v3, ← l1.1 b (by omega)]
      funext j
      exact ms_a (by omega)
    have G8 : g_303 0 778 d 578 1 = 0 := by
      rw [v3]
      exact ms_e rfl rfl
    have ZC : ∀ b, b < 769 → Z b = g_303 0 778 d b := fun b x => by rw [ZF b (by omega) (by omega), RC b x]
    have erz : ER Z := by
      have z6 : ∀ j, Z 576 j = D' 576 j := fun j => by
        rw [ZC 576 (by decide), v3]
        exact ms_a (by decide)
      obtain ⟨c, p, y1, y2, y3, y4, y5⟩ := v2
      exact ⟨by rw [z6, Z9 11 (by decide) (by decide), y1, y4], by rw [z6, Z9 12 (by decide) (by decide), y2, y5]⟩
    refine ⟨Or.inr ⟨v1, ?_⟩, ⟨?_, ?_, ?_, ?_⟩, ZC, erz⟩
    · show Z 769 0 = 1
      rw [b2 769 (by decide), ms_e rfl rfl]
    · show OKR 1 Z (Z 770)
      have rw' : REq (d 770) (Z 770) := fun i x y => by
        rw [b3 i x y, ms_a (by decide), ms_a (by decide), l1.2.1 774 (by decide) (by decide), a4 i x y, G9 770 (by decide) (by decide)]
      exact (i1.row rw').fr (fun b x y => by rw [ZC b (by omega), G b (by omega) (by omega)])
    · exact i2.fr (fun b x y => by rw [ZC b (by omega), G b (by omega) (by omega)]) (by rw [Z9 7 (by decide) (by decide), R9 7 (by decide)]) (fun j x y => by rw [ZF 771 (by decide) (by decide), R7 771 (by decide) (by decide) (by decide) (by decide)])
    · exact i3.fr (fun b hb => by
        rcases hb with hb | hb | hb | hb
        · rw [ZC b (by omega), G b (by omega) (by omega)]
        · rw [ZC b (by omega), G b (by omega) (by omega)]
        · rw [ZF b (by omega) (by omega), R7 b (by omega) (by omega) (by omega) (by omega)]
        · rw [ZF b (by omega) (by omega), R7 b (by omega) (by omega) (by omega) (by omega)])
    · have z1 : Z 578 1 = 0 := by rw [ZC 578 (by decide), G8]
      have z9 : Z 769 9 = 0 := by rw [b2 769 (by decide), ms_i (by decide), ms_e rfl rfl]
      exact ⟨by omega, by rw [z9, z1], fun i x y => by omega⟩
/-! ===== what the reference's queries leave alone: printed by a program of mine ===== -/
def QF (d d' : mD) : Prop := (∀ b, ¬ b = 769 → ¬ b = 777 → d' b = d b) ∧ ∀ j, ¬ j = 0 → ¬ j = 18 → d' 769 j = d 769 j
theorem QF.refl {d : mD} : QF d d := ⟨fun _ _ _ => rfl, fun _ _ _ => rfl⟩
theorem QF.trans {a b c : mD} (h : QF a b) (g : QF b c) : QF a c := ⟨fun k x y => (g.1 k x y).trans (h.1 k x y), fun k x y => (g.2 k x y).trans (h.2 k x y)⟩
theorem QF.s0 {d : mD} {v : Int} : QF d (mset d 769 0 v) := ⟨fun b x _ => by funext j; exact ms_a x, fun j x _ => ms_i x⟩
theorem QF.ite {d : mD} {c : Prop} [Decidable c] {a b : Int × mD} (h1 : QF d a.2) (h2 : QF d b.2) : QF d (if c then a else b).2 := by split <;> assumption
theorem QF.ite1 {d : mD} {c : Prop} [Decidable c] {a b : mD} (h1 : QF d a) (h2 : QF d b) : QF d (if c then a else b) := by split <;> assumption
theorem QF.s18 {d : mD} {v : Int} : QF d (mset d 769 18 v) := ⟨fun b x _ => by funext j; exact ms_a x, fun j _ x => ms_i x⟩
theorem QF.s77 {d : mD} {i v : Int} : QF d (mset d 777 i v) := ⟨fun b _ x => by funext j; exact ms_a x, fun j _ _ => ms_a (by decide)⟩
theorem ql_239_139 {x1 : Int} : ∀ (n : Nat) (a0 a1 a2 a3 a4 : Int) (d : mD), QF d (lp_239_139 769 x1  n a0 a1 a2 a3 a4 d).2 := by
  intro n
  induction n with
  | zero =>
    intro a0 a1 a2 a3 a4 d
    show QF d (st_239_139 769 x1  _ a0 a1 a2 a3 a4 d).2
    unfold st_239_139
    repeat' apply QF.ite
    all_goals first
      | exact QF.refl
      | exact QF.s0
  | succ n ih =>
    intro a0 a1 a2 a3 a4 d
    show QF d (st_239_139 769 x1  _ a0 a1 a2 a3 a4 d).2
    unfold st_239_139
    repeat' apply QF.ite
    all_goals first
      | exact ih _ _ _ _ _ _
      | exact QF.refl
      | exact QF.s0
theorem ql_239_40 {x1 : Int} : ∀ (n : Nat) (a0 a1 a2 a3 : Int) (d : mD), QF d (lp_239_40 769 x1  n a0 a1 a2 a3 d).2 := by
  intro n
  induction n with
  | zero =>
    intro a0 a1 a2 a3 d
    show QF d (st_239_40 769 x1  _ a0 a1 a2 a3 d).2
    unfold st_239_40
    repeat' split
    all_goals first
      | exact QF.refl
      | exact QF.s0
      | exact ql_239_139 _ _ _ _ _ _ _
  | succ n ih =>
    intro a0 a1 a2 a3 d
    show QF d (st_239_40 769 x1  _ a0 a1 a2 a3 d).2
    unfold st_239_40
    repeat' split
    all_goals first
      | exact ih _ _ _ _ _
      | exact QF.refl
      | exact QF.s0
      | exact ql_239_139 _ _ _ _ _ _ _
theorem q_239 {x1 : Int} {d : mD} : QF d (g_239 769 x1 d) := by
  unfold g_239 f_239
  repeat' split
  all_goals first
    | exact QF.refl
    | exact QF.s0
    | exact QF.s0.trans (ql_239_40 _ _ _ _ _ _)
theorem ql_246_140 {x1 : Int} {x2 : Int} : ∀ (n : Nat) (a0 a1 a2 a3 : Int) (d : mD), QF d (lp_246_140 769 x1 x2  n a0 a1 a2 a3 d).2 := by
  intro n
  induction n with
  | zero =>
    intro a0 a1 a2 a3 d
    show QF d (st_246_140 769 x1 x2  _ a0 a1 a2 a3 d).2
    unfold st_246_140
    repeat' apply QF.ite
    all_goals first
      | exact QF.refl
      | exact QF.s0
  | succ n ih =>
    intro a0 a1 a2 a3 d
    show QF d (st_246_140 769 x1 x2  _ a0 a1 a2 a3 d).2
    unfold st_246_140
    repeat' apply QF.ite
    all_goals first
      | exact ih _ _ _ _ _
      | exact QF.refl
      | exact QF.s0
theorem ql_246_50 {x1 : Int} {x2 : Int} : ∀ (n : Nat) (a0 a1 a2 : Int) (d : mD), QF d (lp_246_50 769 x1 x2  n a0 a1 a2 d).2 := by
  intro n
  induction n with
  | zero =>
    intro a0 a1 a2 d
    show QF d (st_246_50 769 x1 x2  _ a0 a1 a2 d).2
    unfold st_246_50
    repeat' split
    all_goals first
      | exact QF.refl
      | exact QF.s0
      | exact ql_246_140 _ _ _ _ _ _
  | succ n ih =>
    intro a0 a1 a2 d
    show QF d (st_246_50 769 x1 x2  _ a0 a1 a2 d).2
    unfold st_246_50
    repeat' split
    all_goals first
      | exact ih _ _ _ _
      | exact QF.refl
      | exact QF.s0
      | exact ql_246_140 _ _ _ _ _ _
theorem q_246 {x1 : Int} {x2 : Int} {d : mD} : QF d (g_246 769 x1 x2 d) := by
  unfold g_246 f_246
  repeat' split
  all_goals first
    | exact QF.refl
    | exact QF.s0
    | exact QF.s0.trans (ql_246_50 _ _ _ _ _)
theorem ql_247_65 {x1 : Int} {x2 : Int} : ∀ (n : Nat) (a0 a1 : Int) (d : mD), QF d (lp_247_65 769 x1 x2  n a0 a1 d).2 := by
  intro n
  induction n with
  | zero =>
    intro a0 a1 d
    show QF d (st_247_65 769 x1 x2  _ a0 a1 d).2
    unfold st_247_65
    repeat' apply QF.ite
    all_goals first
      | exact QF.refl
      | exact QF.s0
  | succ n ih =>
    intro a0 a1 d
    show QF d (st_247_65 769 x1 x2  _ a0 a1 d).2
    unfold st_247_65
    repeat' apply QF.ite
    all_goals first
      | exact ih _ _ _
      | exact QF.refl
      | exact QF.s0
theorem q_247 {x1 : Int} {x2 : Int} {d : mD} : QF d (g_247 769 x1 x2 d) := by
  unfold g_247 f_247
  repeat' split
  all_goals first
    | exact QF.refl
    | exact QF.s0
    | exact QF.s0.trans (ql_247_65 _ _ _ _)
theorem ql_248_75 {x1 : Int} {x2 : Int} : ∀ (n : Nat) (a0 a1 : Int) (d : mD), QF d (lp_248_75 769 x1 x2  n a0 a1 d).2 := by
  intro n
  induction n with
  | zero =>
    intro a0 a1 d
    show QF d (st_248_75 769 x1 x2  _ a0 a1 d).2
    unfold st_248_75
    repeat' apply QF.ite
    all_goals first
      | exact QF.refl
      | exact QF.s0
  | succ n ih =>
    intro a0 a1 d
    show QF d (st_248_75 769 x1 x2  _ a0 a1 d).2
    unfold st_248_75
    repeat' apply QF.ite
    all_goals first
      | exact ih _ _ _
      | exact QF.refl
      | exact QF.s0
theorem q_248 {x1 : Int} {x2 : Int} {d : mD} : QF d (g_248 769 x1 x2 d) := by
  unfold g_248 f_248
  repeat' split
  all_goals first
    | exact QF.refl
    | exact QF.s0
    | exact QF.s0.trans (ql_248_75 _ _ _ _)
theorem ql_253_31 {x1 : Int} {x2 : Int} : ∀ (n : Nat) (a0 a1 : Int) (d : mD), QF d (lp_253_31 769 x1 x2  n a0 a1 d).2 := by
  intro n
  induction n with
  | zero =>
    intro a0 a1 d
    show QF d (st_253_31 769 x1 x2  _ a0 a1 d).2
    unfold st_253_31
    repeat' apply QF.ite
    all_goals first
      | exact QF.refl
      | exact QF.s0
  | succ n ih =>
    intro a0 a1 d
    show QF d (st_253_31 769 x1 x2  _ a0 a1 d).2
    unfold st_253_31
    repeat' apply QF.ite
    all_goals first
      | exact ih _ _ _
      | exact QF.refl
      | exact QF.s0
theorem q_253 {x1 : Int} {x2 : Int} {d : mD} : QF d (g_253 769 x1 x2 d) := by
  unfold g_253 f_253
  repeat' split
  all_goals first
    | exact QF.refl
    | exact QF.s0
    | exact QF.s0.trans (ql_253_31 _ _ _ _)
theorem ql_258_9 : ∀ (n : Nat) (a0 a1 : Int) (d : mD), QF d (lp_258_9 769   n a0 a1 d).2 := by
  intro n
  induction n with
  | zero =>
    intro a0 a1 d
    show QF d (st_258_9 769   _ a0 a1 d).2
    unfold st_258_9
    repeat' apply QF.ite
    all_goals first
      | exact QF.refl
      | exact QF.s0
  | succ n ih =>
    intro a0 a1 d
    show QF d (st_258_9 769   _ a0 a1 d).2
    unfold st_258_9
    repeat' apply QF.ite
    all_goals first
      | exact ih _ _ _
      | exact QF.refl
      | exact QF.s0
theorem q_258 {d : mD} : QF d (g_258 769 d) := by
  unfold g_258 f_258
  repeat' split
  all_goals first
    | exact QF.refl
    | exact QF.s0
    | exact QF.s0.trans (ql_258_9 _ _ _ _)
theorem ql_259_11 : ∀ (n : Nat) (a0 a1 a2 : Int) (d : mD), QF d (lp_259_11 769   n a0 a1 a2 d).2 := by
  intro n
  induction n with
  | zero =>
    intro a0 a1 a2 d
    show QF d (st_259_11 769   _ a0 a1 a2 d).2
    unfold st_259_11
    repeat' apply QF.ite
    all_goals first
      | exact QF.refl
      | exact QF.s0
  | succ n ih =>
    intro a0 a1 a2 d
    show QF d (st_259_11 769   _ a0 a1 a2 d).2
    unfold st_259_11
    repeat' apply QF.ite
    all_goals first
      | exact ih _ _ _ _
      | exact QF.refl
      | exact QF.s0
theorem q_259 {d : mD} : QF d (g_259 769 d) := by
  unfold g_259 f_259
  repeat' split
  all_goals first
    | exact QF.refl
    | exact QF.s0
    | exact QF.s0.trans (ql_259_11 _ _ _ _ _)
theorem ql_260_9 : ∀ (n : Nat) (a0 a1 : Int) (d : mD), QF d (lp_260_9 769   n a0 a1 d).2 := by
  intro n
  induction n with
  | zero =>
    intro a0 a1 d
    show QF d (st_260_9 769   _ a0 a1 d).2
    unfold st_260_9
    repeat' apply QF.ite
    all_goals first
      | exact QF.refl
      | exact QF.s0
  | succ n ih =>
    intro a0 a1 d
    show QF d (st_260_9 769   _ a0 a1 d).2
    unfold st_260_9
    repeat' apply QF.ite
    all_goals first
      | exact ih _ _ _
      | exact QF.refl
      | exact QF.s0
theorem q_260 {d : mD} : QF d (g_260 769 d) := by
  unfold g_260 f_260
  repeat' split
  all_goals first
    | exact QF.refl
    | exact QF.s0
    | exact QF.s0.trans (ql_260_9 _ _ _ _)
theorem ql_261_11 : ∀ (n : Nat) (a0 a1 a2 : Int) (d : mD), QF d (lp_261_11 769   n a0 a1 a2 d).2 := by
  intro n
  induction n with
  | zero =>
    intro a0 a1 a2 d
    show QF d (st_261_11 769   _ a0 a1 a2 d).2
    unfold st_261_11
    repeat' apply QF.ite
    all_goals first
      | exact QF.refl
      | exact QF.s0
  | succ n ih =>
    intro a0 a1 a2 d
    show QF d (st_261_11 769   _ a0 a1 a2 d).2
    unfold st_261_11
    repeat' apply QF.ite
    all_goals first
      | exact ih _ _ _ _
      | exact QF.refl
      | exact QF.s0
theorem q_261 {d : mD} : QF d (g_261 769 d) := by
  unfold g_261 f_261
  repeat' split
  all_goals first
    | exact QF.refl
    | exact QF.s0
    | exact QF.s0.trans (ql_261_11 _ _ _ _ _)
theorem ql_262_58 {r15 : Int → Int → mD → Int × mD} (hr15 : ∀ (b0 b1 : Int) (d : mD), QF d (r15 b0 b1 d).2) : ∀ (n : Nat) (a0 a1 a2 : Int) (d : mD), QF d (lp_262_58 769  r15 n a0 a1 a2 d).2 := by
  intro n
  induction n with
  | zero =>
    intro a0 a1 a2 d
    show QF d (st_262_58 769  r15 _ a0 a1 a2 d).2
    unfold st_262_58
    repeat' apply QF.ite
    all_goals first
      | exact QF.refl
      | exact QF.s0
      | exact hr15 _ _ _
  | succ n ih =>
    intro a0 a1 a2 d
    show QF d (st_262_58 769  r15 _ a0 a1 a2 d).2
    unfold st_262_58
    repeat' apply QF.ite
    all_goals first
      | exact ih _ _ _ _
      | exact QF.refl
      | exact QF.s0
      | exact hr15 _ _ _
theorem ql_262_15 : ∀ (n : Nat) (a0 a1 : Int) (d : mD), QF d (lp_262_15 769   n a0 a1 d).2 := by
  intro n
  induction n with
  | zero =>
    intro a0 a1 d
    show QF d (st_262_15 769   _ a0 a1 d).2
    unfold st_262_15
    repeat' apply QF.ite
    all_goals first
      | exact QF.refl
      | exact QF.s0
      | exact ql_262_58 (fun _ _ _ => QF.refl) _ _ _ _ _
  | succ n ih =>
    intro a0 a1 d
    show QF d (st_262_15 769   _ a0 a1 d).2
    unfold st_262_15
    repeat' apply QF.ite
    all_goals first
      | exact ih _ _ _
      | exact QF.refl
      | exact QF.s0
      | exact ql_262_58 ih _ _ _ _ _
theorem q_262 {d : mD} : QF d (g_262 769 d) := by
  unfold g_262 f_262
  repeat' split
  all_goals first
    | exact QF.refl
    | exact QF.s0
    | exact QF.s0.trans (ql_262_15 _ _ _ _)
theorem q_208 {d : mD} : QF d (g_208 769 d) := by
  unfold g_208
  repeat' split
  all_goals first
    | exact QF.refl
    | exact QF.s0
theorem q_209 {d : mD} : QF d (g_209 769 d) := by
  unfold g_209
  repeat' split
  all_goals first
    | exact QF.refl
    | exact QF.s0
theorem q_240 {x1 : Int} {d : mD} : QF d (g_240 769 x1 d) := by
  unfold g_240
  repeat' split
  all_goals first
    | exact QF.refl
    | exact QF.s0
theorem q_241 {x1 : Int} {x2 : Int} {d : mD} : QF d (g_241 769 x1 x2 d) := by
  unfold g_241
  repeat' split
  all_goals first
    | exact QF.refl
    | exact QF.s0
theorem q_242 {x1 : Int} {x2 : Int} {d : mD} : QF d (g_242 769 x1 x2 d) := by
  unfold g_242
  repeat' split
  all_goals first
    | exact QF.refl
    | exact QF.s0
theorem q_249 {x1 : Int} {x2 : Int} {d : mD} : QF d (g_249 769 x1 x2 d) := by
  unfold g_249
  repeat' split
  all_goals first
    | exact QF.refl
    | exact QF.s0
theorem q_277 {x1 : Int} {d : mD} : QF d (g_277 769 x1 d) := by
  unfold g_277
  repeat' split
  all_goals first
    | exact QF.refl
    | exact QF.s0
theorem q_250 {x1 : Int} {x2 : Int} {d : mD} : QF d (g_250 769 x1 x2 d) := by
  unfold g_250
  repeat' split
  all_goals first
    | exact QF.refl
    | exact QF.s0
theorem q_251 {x1 x2 : Int} {d : mD} : QF d (g_251 769 x1 x2 d) := q_250
theorem q_252 {x1 x2 : Int} {d : mD} : QF d (g_252 769 x1 x2 d) := q_250
theorem q_254 {x1 x2 : Int} {d : mD} : QF d (g_254 769 x1 x2 d) := q_250
theorem q_273 {x1 : Int} {d : mD} : QF d (g_273 769 x1 d) := by
  unfold g_273
  rw [show (769 : Int) + 8 = 777 by decide]
  exact QF.s77.trans QF.s18
theorem ql_274_18 {x1 : Int} : ∀ (n : Nat) (a0 : Int) (d : mD), QF d (lp_274_18 769 x1  n a0 d) := by
  intro n
  induction n with
  | zero =>
    intro a0 d
    show QF d (st_274_18 769 x1  _ a0 d)
    unfold st_274_18
    repeat' apply QF.ite1
    all_goals first
      | exact QF.refl
      | exact QF.s0
      | exact (q_273 (d := d)).trans QF.refl
  | succ n ih =>
    intro a0 d
    show QF d (st_274_18 769 x1  _ a0 d)
    unfold st_274_18
    repeat' apply QF.ite1
    all_goals first
      | exact ih _ _
      | exact QF.refl
      | exact QF.s0
      | exact (q_273 (d := d)).trans (ih _ _)
theorem ql_274_2 {x1 : Int} : ∀ (n : Nat) (a0 : Int) (d : mD), QF d (lp_274_2 769 x1  n a0 d) := by
  intro n
  induction n with
  | zero =>
    intro a0 d
    show QF d (st_274_2 769 x1  _ a0 d)
    unfold st_274_2
    repeat' apply QF.ite1
    all_goals first
      | exact QF.refl
      | exact QF.s0
      | exact ql_274_18 _ _ _
  | succ n ih =>
    intro a0 d
    show QF d (st_274_2 769 x1  _ a0 d)
    unfold st_274_2
    repeat' apply QF.ite1
    all_goals first
      | exact ih _ _
      | exact QF.refl
      | exact QF.s0
      | exact ql_274_18 _ _ _
theorem q_274 {x1 : Int} {d : mD} : QF d (g_274 769 x1 d) := by
  unfold g_274
  repeat' split
  all_goals first
    | exact QF.refl
    | exact QF.s0
    | exact ql_274_2 _ _ _
theorem ql_275_18 {x1 : Int} : ∀ (n : Nat) (a0 : Int) (d : mD), QF d (lp_275_18 769 x1  n a0 d) := by
  intro n
  induction n with
  | zero =>
    intro a0 d
    show QF d (st_275_18 769 x1  _ a0 d)
    unfold st_275_18
    repeat' apply QF.ite1
    all_goals first
      | exact QF.refl
      | exact QF.s0
      | exact (q_273 (d := d)).trans QF.refl
  | succ n ih =>
    intro a0 d
    show QF d (st_275_18 769 x1  _ a0 d)
    unfold st_275_18
    repeat' apply QF.ite1
    all_goals first
      | exact ih _ _
      | exact QF.refl
      | exact QF.s0
      | exact (q_273 (d := d)).trans (ih _ _)
theorem ql_275_2 {x1 : Int} : ∀ (n : Nat) (a0 : Int) (d : mD), QF d (lp_275_2 769 x1  n a0 d) := by
  intro n
  induction n with
  | zero =>
    intro a0 d
    show QF d (st_275_2 769 x1  _ a0 d)
    unfold st_275_2
    repeat' apply QF.ite1
    all_goals first
      | exact QF.refl
      | exact QF.s0
      | exact ql_275_18 _ _ _
  | succ n ih =>
    intro a0 d
    show QF d (st_275_2 769 x1  _ a0 d)
    unfold st_275_2
    repeat' apply QF.ite1
    all_goals first
      | exact ih _ _
      | exact QF.refl
      | exact QF.s0
      | exact ql_275_18 _ _ _
theorem q_275 {x1 : Int} {d : mD} : QF d (g_275 769 x1 d) := by
  unfold g_275
  repeat' split
  all_goals first
    | exact QF.refl
    | exact QF.s0
    | exact ql_275_2 _ _ _
theorem st276q {x1 x2 x3 : Int} {r : Int → Int → mD → Int × mD} {d : mD} (hr : ∀ a b D, QF D (r a b D).2) : QF d (st_276_38 769 x1 r x2 x3 d).2 := by
  unfold st_276_38
  apply QF.ite
  · apply QF.ite
    · exact (((q_273 (x1 := 32)).trans q_275).trans (q_273.trans q_274)).trans (hr _ _ _)
    · exact (q_275.trans (q_273.trans q_274)).trans (hr _ _ _)
  · apply QF.ite
    · exact q_273
    · exact QF.refl
theorem ql_276_38 {x1 : Int} : ∀ (n : Nat) (a0 a1 : Int) (d : mD), QF d (lp_276_38 769 x1 n a0 a1 d).2 := by
  intro n
  induction n with
  | zero =>
    intro a0 a1 d
    exact st276q (r := fun _ _ d => (0, d)) (fun _ _ _ => QF.refl)
  | succ n ih =>
    intro a0 a1 d
    exact st276q (r := lp_276_38 769 x1 n) ih
theorem q_276 {x1 : Int} {d : mD} : QF d (g_276 769 x1 d) := by
  unfold g_276 f_276
  repeat' split
  all_goals first
    | exact QF.refl
    | exact QF.s0
    | exact (QF.s0.trans QF.s18).trans (ql_276_38 _ _ _ _)
/-! ===== queries of the reference that look ahead put the row back ===== -/
def RO (d d' : mD) : Prop := ∀ b, ¬ b = 770 → d' b = d b
theorem RO.refl {d : mD} : RO d d := fun _ _ => rfl
theorem RO.trans {a b c : mD} (h : RO a b) (g : RO b c) : RO a c := fun k x => (g k x).trans (h k x)
theorem RO.rs {d : mD} {w : Row} : RO d (rset d w) := fun _ hb => rset_ne hb
theorem ro223 {d : mD} : RO d (g_223 769 d) := by rw [m_g_223]; exact RO.rs
def QR (d d' : mD) : Prop := (∀ b, ¬ b = 769 → ¬ b = 770 → ¬ b = 773 → ¬ b = 777 → d' b = d b) ∧ (∀ j, ¬ j = 0 → ¬ j = 18 → d' 769 j = d 769 j) ∧ REq (d 770) (d' 770)
theorem QF.qr {d d' : mD} (h : QF d d') : QR d d' := ⟨fun b x _ _ y => h.1 b x y, h.2, fun i _ _ => by rw [h.1 770 (by decide) (by decide)]⟩
theorem QR.refl {d : mD} : QR d d := QF.refl.qr
theorem QR.trans {a b c : mD} (h : QR a b) (g : QR b c) : QR a c := ⟨fun k x y z u => (g.1 k x y z u).trans (h.1 k x y z u), fun k x y => (g.2.1 k x y).trans (h.2.1 k x y), fun i x y => (g.2.2 i x y).trans (h.2.2 i x y)⟩
theorem QR.s0 {d : mD} {v : Int} : QR d (mset d 769 0 v) := QF.s0.qr
theorem c255 {u : mD} : (∀ b, ¬ b = 773 → g_255 769 u b = u b) ∧ ∀ i, 0 ≤ i → i < 3116 → g_255 769 u 773 i = u 770 i := by
  unfold g_255 mcopy
  refine ⟨fun b hb => ?_, fun i x y => ?_⟩
  · funext j
    rw [if_neg (by omega)]
  · rw [if_pos (by omega)]
    rw [show (769 : Int) + 1 = 770 by decide, show (0 : Int) + (i - 0) = i by omega]
theorem c256 {u : mD} : (∀ b, ¬ b = 770 → g_256 769 u b = u b) ∧ ∀ i, 0 ≤ i → i < 3116 → g_256 769 u 770 i = u 773 i := by
  unfold g_256 mcopy
  refine ⟨fun b hb => ?_, fun i x y => ?_⟩
  · funext j
    rw [if_neg (by omega)]
  · rw [if_pos (by omega)]
    rw [show (769 : Int) + 4 = 773 by decide, show (0 : Int) + (i - 0) = i by omega]
theorem back {u D : mD} (h : ∀ b, ¬ b = 769 → ¬ b = 770 → D b = g_255 769 u b) (h9 : ∀ j, ¬ j = 0 → ¬ j = 18 → D 769 j = u 769 j) : QR u (g_256 769 D) := by
  obtain ⟨a1, a2⟩ := c255 (u := u)
  obtain ⟨b1, b2⟩ := c256 (u := D)
  refine ⟨fun b x y z _ => by rw [b1 b y, h b x y, a1 b z], fun j x y => by rw [b1 769 (by decide)]; exact h9 j x y, fun i x y => ?_⟩
  rw [b2 i x y, h 773 (by decide) (by decide), a2 i x y]
theorem backR {u D : mD} (h : RO (g_255 769 u) D) : QR u (g_256 769 D) := back (fun b _ y => h b y) (fun j _ _ => by rw [h 769 (by decide), (c255 (u := u)).1 769 (by decide)])
theorem l263 {x1 : Int} : ∀ (n : Nat) (x : Int) (d : mD), RO d (lp_263_2 769 x1 n x d).2 := by
  intro n
  induction n with
  | zero =>
    intro x d
    show RO d (st_263_2 769 x1 _ x d).2
    unfold st_263_2
    split
    · exact RO.refl
    · split
      · exact RO.refl
      · exact ro223
  | succ n ih =>
    intro x d
    show RO d (st_263_2 769 x1 _ x d).2
    unfold st_263_2
    split
    · exact RO.refl
    · split
      · exact RO.refl
      · exact ro223.trans (ih _ _)
theorem ro263 {x1 : Int} {d : mD} : RO d (g_263 769 x1 d) := by
  unfold g_263 f_263
  exact l263 _ _ _
theorem q_257 {x1 : Int} {d : mD} : QR d (g_257 769 x1 d) := by
  unfold g_257
  split
  · exact QR.s0
  · split
    · have h : RO (g_255 769 (mset d 769 0 0)) (g_218 769 x1 (g_255 769 (mset d 769 0 0))) := by
        rw [m_g_218]
        exact RO.rs
      exact QR.s0.trans (backR h)
    · exact QR.s0
theorem q_264 {x1 : Int} {d : mD} : QR d (g_264 769 x1 d) := by
  unfold g_264
  split
  · exact QR.s0
  · split
    · exact (QR.s0.trans (backR ro263)).trans QR.s0
    · exact (QR.s0.trans (backR ro263)).trans QR.s0
theorem l265 {x1 x2 : Int} {u : mD} : ∀ (n : Nat) (x : Int) (d : mD), x2 - x ≤ (n : Int) → RO (g_255 769 u) d → QR u (lp_265_48 769 x1 x2 n x d).2 := by
  intro n
  induction n with
  | zero =>
    intro x d hn h
    show QR u (st_265_48 769 x1 x2 _ x d).2
    unfold st_265_48
    rw [if_neg (by omega)]
    exact backR h
  | succ n ih =>
    intro x d hn h
    show QR u (st_265_48 769 x1 x2 _ x d).2
    unfold st_265_48
    split
    · exact ih _ _ (by omega) (h.trans ro223)
    · exact backR h
theorem q_265 {x1 x2 : Int} {d : mD} : QR d (g_265 769 x1 x2 d) := by
  unfold g_265 f_265
  split
  · exact QR.s0
  · split
    · exact QR.s0
    · exact QR.s0.trans (l265 _ _ _ (by omega) RO.refl)
theorem l266 {x1 : Int} {u : mD} : ∀ (n : Nat) (x : Int) (d : mD), x1 - x ≤ (n : Int) → RO (g_255 769 u) d → QR u (lp_266_36 769 x1 n x d).2 := by
  intro n
  induction n with
  | zero =>
    intro x d hn h
    show QR u (st_266_36 769 x1 _ x d).2
    unfold st_266_36
    rw [if_neg (by omega)]
    exact backR h
  | succ n ih =>
    intro x d hn h
    show QR u (st_266_36 769 x1 _ x d).2
    unfold st_266_36
    split
    · exact ih _ _ (by omega) (h.trans ro223)
    · exact backR h
theorem q_266 {x1 : Int} {d : mD} : QR d (g_266 769 x1 d) := by
  unfold g_266 f_266
  split
  · exact QR.s0
  · exact QR.s0.trans (l266 _ _ _ (by omega) RO.refl)
theorem q_267 {x1 : Int} {d : mD} : QR d (g_267 769 x1 d) := by
  unfold g_267
  split
  · exact QR.refl
  · refine backR (RO.trans ?_ ro263)
    rw [m_g_224]
    exact RO.rs
theorem q_268 {x1 : Int} {d : mD} : QR d (g_268 769 x1 d) := by
  unfold g_268
  split
  · exact QR.s0
  · split
    · exact (QR.s0.trans q_267).trans QR.s0
    · exact (QR.s0.trans q_267).trans QR.s0
theorem l269 : ∀ (n : Nat) (a b x : Int) (d : mD), QR d (lp_269_8 769 n a b x d).2 := by
  intro n
  induction n with
  | zero =>
    intro a b x d
    show QR d (st_269_8 769 _ a b x d).2
    unfold st_269_8
    repeat' split
    all_goals first
      | exact q_267
      | exact QR.s0
  | succ n ih =>
    intro a b x d
    show QR d (st_269_8 769 _ a b x d).2
    unfold st_269_8
    repeat' split
    all_goals first
      | exact q_267.trans (ih _ _ _ _)
      | exact QR.s0
theorem q_269 {d : mD} : QR d (g_269 769 d) := by
  unfold g_269 f_269
  exact l269 _ _ _ _ _
theorem back0 {u D : mD} {c : Int} (h : RO (g_255 769 u) D) : QR u (g_256 769 (mset D 769 0 c)) := back (fun b x y => by rw [← h b y]; funext j; exact ms_a x) (fun j x _ => by rw [ms_i x, h 769 (by decide), (c255 (u := u)).1 769 (by decide)])
theorem l272a {x1 x2 : Int} {u : mD} : ∀ (n : Nat) (a b x : Int) (d : mD), d 770 9 - x ≤ (n : Int) → RO (g_255 769 u) d → QR u (lp_272_89 769 x1 x2 n a b x d).2 := by
  intro n
  induction n with
  | zero =>
    intro a b x d hn h
    show QR u (st_272_89 769 x1 x2 _ a b x d).2
    unfold st_272_89
    rw [show (769 : Int) + 1 = 770 by decide, if_neg (by omega)]
    split
    · exact back0 h
    · exact back0 h
  | succ n ih =>
    intro a b x d hn h
    show QR u (st_272_89 769 x1 x2 _ a b x d).2
    unfold st_272_89
    repeat' split
    all_goals first
      | exact ih _ _ _ _ (by omega) h
      | exact back0 h
theorem l272 {x1 x2 : Int} {u : mD} : ∀ (n : Nat) (x : Int) (d cm : mD), 200 - x ≤ (n : Int) → x ≤ 200 → GG (d 770) → Rel 1 cm (d 770) → d 770 0 + (200 - x) ≤ 1199 → RO (g_255 769 u) d → QR u (lp_272_59 769 x1 x2 n x d).2 := by
  have last : ∀ (x : Int) (d : mD), GG (d 770) → RO (g_255 769 u) d → QR u (lp_272_89 769 x1 x2 (61 - 0 : Int).toNat x 0 0 d).2 := fun x d hg h => by
    have := hg.1.2.2.1
    exact l272a _ _ _ _ _ (by omega) h
  intro n
  induction n with
  | zero =>
    intro x d cm hn hx hg hr ht h
    show QR u (st_272_59 769 x1 x2 _ x d).2
    unfold st_272_59
    rw [if_neg (by omega)]
    exact last _ _ hg h
  | succ n ih =>
    intro x d cm hn hx hg hr ht h
    show QR u (st_272_59 769 x1 x2 _ x d).2
    unfold st_272_59
    by_cases c : x < 200
    · rw [if_pos c]
      split
      · obtain ⟨-, p2, p3, p4, -⟩ := passLoop (s := 1) (N := 1) 1 0 0 cm (d 770) hg hr (by decide) (by omega)
        have e : g_223 769 d 770 = hoursW 1 (d 770) := by
          rw [m_g_223, rset_at]
          rfl
        refine ih (x + 1) (g_223 769 d) _ (by omega) (by omega) (by rw [e]; exact p2) (by rw [e]; exact p3) ?_ (h.trans ro223)
        rw [e, p4]
        omega
      · exact last _ _ hg h
    · rw [if_neg c]
      exact last _ _ hg h
theorem q_272 {x1 x2 : Int} {d cm : mD} (hk : OKR 1 cm (d 770)) : QR d (g_272 769 x1 x2 d) := by
  unfold g_272 f_272
  by_cases c1 : v_236 769 x1 d = 0
  · rw [if_pos c1]; exact QR.s0
  · rw [if_neg c1]
    by_cases c2 : v_236 769 x2 d = 0
    · rw [if_pos c2]; exact QR.s0
    · rw [if_neg c2]
      by_cases c3 : v_270 769 x1 x2 d = 0
      · rw [if_pos c3]; exact QR.s0
      · rw [if_neg c3]
        unfold v_236 at c1 c2
        rw [v176, show (769 : Int) + 1 = 770 by decide] at c1 c2
        have h1 : 0 ≤ x1 ∧ x1 < d 770 7 := by
          by_cases z : 0 ≤ x1 ∧ x1 ≤ d 770 7 - 1
          · omega
          · rw [if_neg z] at c1
            exact absurd rfl c1
        have h2 : 0 ≤ x2 ∧ x2 < d 770 7 := by
          by_cases z : 0 ≤ x2 ∧ x2 ≤ d 770 7 - 1
          · omega
          · rw [if_neg z] at c2
            exact absurd rfl c2
        unfold v_270 at c3
        rw [show (769 : Int) + 1 = 770 by decide] at c3
        have h3 : ¬ x1 = x2 := fun z => by rw [if_pos z] at c3; exact absurd rfl c3
        rw [if_neg h3] at c3
        have h4 : ¬ d 770 (12 + 68 * x1 + 4) = 0 := fun z => by rw [if_pos z] at c3; exact absurd rfl c3
        rw [if_neg h4] at c3
        have h5 : ¬ d 770 (12 + 68 * x2 + 4) = 0 := fun z => by rw [if_pos z] at c3; exact absurd rfl c3
        have hg := hk.1
        have o1 : d 770 (12 + 68 * x2 + 4) = 1 := by
          rcases (hg.2.1 x2 h2.1 h2.2).2.2.2.1 with z | z
          · exact absurd z h5
          · exact z
        obtain ⟨m1, m2, m3⟩ := merge hg hk.2.2.2.2 h1 h2 h3 o1
        generalize hu : mset d 769 0 0 = u
        have e0 : g_255 769 u 770 = d 770 := by
          rw [(c255 (u := u)).1 770 (by decide), ← hu]
          funext j
          exact ms_a (by decide)
        have e1 : g_229 769 x1 x2 (g_255 769 u) 770 = W_229 x1 x2 (d 770) := by rw [m_g_229, rset_at, e0]
        have tm : d 770 0 ≤ 999 := hk.2.2.2.1
        have q : QR u (lp_272_59 769 x1 x2 (200 - 0 : Int).toNat 0 (g_229 769 x1 x2 (g_255 769 u))).2 := by
          refine l272 _ 0 _ _ (by omega) (by decide) (by rw [e1]; exact m1) (by rw [e1]; exact m2) ?_ (by rw [m_g_229]; exact RO.rs)
          rw [e1, m3 0 (by decide) (by decide)]
          omega
        have q0 : QR d u := by rw [← hu]; exact QR.s0
        exact q0.trans q
/-! ===== what the reference's rows keep: two witnesses at most where none is valid ===== -/
def RW (d : mD) : Prop := mwP (d 770) ∧ (∀ k, 0 ≤ k → k < d 769 7 → mwP (fun i => d 771 (3116 * k + i))) ∧ ∀ j, (j = 0 ∨ j = 1) → ¬ d 775 j = 0 → mwP (fun i => d 772 (3116 * j + i))
theorem mwP.row {w w' : Row} (e : REq w w') (h : mwP w) : mwP w' := fun t t0 t1 => by
  rw [e (452 + 24 * t + 6) (by omega) (by omega), e (452 + 24 * t + 7) (by omega) (by omega)]
  exact h t t0 t1
theorem mwP.fr {w w' : Row} (e : ∀ t, 0 ≤ t → t ≤ 60 → w' (452 + 24 * t + 6) = w (452 + 24 * t + 6) ∧ w' (452 + 24 * t + 7) = w (452 + 24 * t + 7)) (h : mwP w) : mwP w' := fun t t0 t1 => by
  rw [(e t t0 t1).1, (e t t0 t1).2]
  exact h t t0 t1
theorem RW.q {d d2 : mD} (h : RW d) (hr : REq (d 770) (d2 770)) (h7 : d2 769 7 = d 769 7) (hx : ∀ b, (b = 771 ∨ b = 772 ∨ b = 775) → d2 b = d b) : RW d2 := by
  obtain ⟨h1, h2, h3⟩ := h
  refine ⟨h1.row hr, fun k a b => ?_, fun j hj hn => ?_⟩
  · rw [hx 771 (by decide)]
    exact h2 k a (by omega)
  · rw [hx 775 (by decide)] at hn
    rw [hx 772 (by decide)]
    exact h3 j hj hn
theorem RW.keep {d d2 r r' : mD} (h : RW d) (b7 : 0 ≤ d 769 7 ∧ d 769 7 ≤ 8) (hr : KeepW r r') (r7 : r 769 7 = d 769 7) (r0 : r 770 = d 770) (r1 : r 771 = d 771) (e7 : d2 769 7 = r' 769 7) (e1 : d2 771 = r' 771) (e2 : d2 772 = d 772) (e5 : d2 775 = d 775) (hw : mwP (d2 770)) : RW d2 := by
  obtain ⟨h1, h2, h3⟩ := h
  obtain ⟨-, -, k3⟩ := hr
  refine ⟨hw, fun k a b => ?_, fun j hj hn => ?_⟩
  · rw [e1]
    rw [e7] at b
    rw [r7, r0, r1] at k3
    rcases k3 with ⟨q1, q2, q3, q4⟩ | ⟨q1, q2, q3, q4⟩
    · by_cases c : k = d 769 7
      · refine h1.row (fun i x y => ?_)
        rw [c]
        exact q3 i x y
      · refine (h2 k a (by omega)).row (fun i x y => ?_)
        exact q4 _ (by omega)
    · by_cases c : k = 7
      · refine h1.row (fun i x y => ?_)
        rw [c]
        exact q3 i x y
      · refine (h2 (k + 1) (by omega) (by omega)).row (fun i x y => ?_)
        have := q4 (3116 * k + i) (by omega) (by omega)
        rw [this, show 3116 * k + i + 3116 = 3116 * (k + 1) + i by omega]
  · rw [e5] at hn
    rw [e2]
    exact h3 j hj hn
theorem RW.undo {d d2 r r' : mD} (h : RW d) (b7 : 0 < d 769 7) (hr : UndoW r r') (r7 : r 769 7 = d 769 7) (r1 : r 771 = d 771) (e7 : d2 769 7 = r' 769 7) (e0 : d2 770 = r' 770) (e1 : d2 771 = d 771) (e2 : d2 772 = d 772) (e5 : d2 775 = d 775) : RW d2 := by
  obtain ⟨h1, h2, h3⟩ := h
  obtain ⟨-, -, -, k4, k5⟩ := hr
  refine ⟨?_, fun k a b => ?_, fun j hj hn => ?_⟩
  · rw [e0]
    refine (h2 (d 769 7 - 1) (by omega) (by omega)).row (fun i x y => ?_)
    rw [k5 i x y, r7, r1]
  · rw [e1]
    exact h2 k a (by omega)
  · rw [e5] at hn
    rw [e2]
    exact h3 j hj hn
theorem RW.save {a : Int} {d d2 r r' : mD} (h : RW d) (ha : a = 0 ∨ a = 1) (hr : SaveW a r r') (r0 : r 770 = d 770) (r2 : r 772 = d 772) (r5 : r 775 = d 775) (e0 : d2 770 = d 770) (e7 : d2 769 7 = d 769 7) (e1 : d2 771 = d 771) (e2 : d2 772 = r' 772) (e5 : d2 775 = r' 775) : RW d2 := by
  obtain ⟨h1, h2, h3⟩ := h
  obtain ⟨-, k2, k3, k4, k5⟩ := hr
  refine ⟨by rw [e0]; exact h1, fun k x y => ?_, fun j hj hn => ?_⟩
  · rw [e1]
    exact h2 k x (by omega)
  · rw [e2]
    by_cases c : j = a
    · refine h1.row (fun i x y => ?_)
      rw [c, ← r0]
      exact k4 i x y
    · rw [e5, k3 j c, r5] at hn
      refine (h3 j hj hn).row (fun i x y => ?_)
      rw [k5 _ (by omega), r2]
theorem RW.rest {a : Int} {d d2 r r' : mD} (h : RW d) (ha : a = 0 ∨ a = 1) (hv : ¬ d 775 a = 0) (hr : RestW a r r') (r2 : r 772 = d 772) (e7 : d2 769 7 = r' 769 7) (e0 : d2 770 = r' 770) (e2 : d2 772 = d 772) (e5 : d2 775 = d 775) : RW d2 := by
  obtain ⟨h1, h2, h3⟩ := h
  obtain ⟨-, k2, -, k4⟩ := hr
  refine ⟨?_, fun k x y => by omega, fun j hj hn => ?_⟩
  · rw [e0]
    refine (h3 a ha hv).row (fun i x y => ?_)
    rw [k4 i x y, r2]
  · rw [e5] at hn
    rw [e2]
    exact h3 j hj hn
theorem RW.new {d2 : mD} (hw : mwP (d2 770)) (h7 : d2 769 7 = 0) (h0 : d2 775 0 = 0) (h1 : d2 775 1 = 0) : RW d2 := by
  refine ⟨hw, fun k x y => by omega, fun j hj hn => ?_⟩
  rcases hj with hj | hj
  · rw [hj] at hn
    exact absurd h0 hn
  · rw [hj] at hn
    exact absurd h1 hn
def RP (d : mD) : Prop := RW d ∧ ER d
theorem ER.of {d d2 : mD} (h : ER d) (e6 : d2 576 = d 576) (e1 : d2 769 11 = d 769 11) (e2 : d2 769 12 = d 769 12) : ER d2 := by
  unfold ER
  rw [e6, e1, e2]
  exact h
theorem QR.rp {d d1 d2 : mD} (h : RP d) (h70 : d1 770 = d 770) (h69 : d1 769 = d 769) (hx : ∀ b, (b = 576 ∨ b = 771 ∨ b = 772 ∨ b = 775) → d1 b = d b) (q : QR d1 d2) : RP d2 := by
  refine ⟨h.1.q (fun i x y => ?_) ?_ (fun b hb => ?_), h.2.of ?_ ?_ ?_⟩
  · rw [q.2.2 i x y, h70]
  · rw [q.2.1 7 (by decide) (by decide), h69]
  · rw [q.1 b (by omega) (by omega) (by omega) (by omega), hx b (Or.inr hb)]
  · rw [q.1 576 (by decide) (by decide) (by decide) (by decide), hx 576 (Or.inl rfl)]
  · rw [q.2.1 11 (by decide) (by decide), h69]
  · rw [q.2.1 12 (by decide) (by decide), h69]
/-! ===== one call: class and reference ===== -/
theorem CI.q {d d2 : mD} (h : CI d) (hc : ∀ b, b < 769 → ¬ (572 ≤ b ∧ b ≤ 577) → ¬ (580 ≤ b ∧ b ≤ 642) → d2 b = d b) (h7 : ∀ j, j = 7 ∨ j = 9 → d2 769 j = d 769 j) (hr : REq (d 770) (d2 770)) (hx : ∀ b, (b = 771 ∨ b = 772 ∨ b = 775 ∨ b = 776) → d2 b = d b) : CI d2 := by
  obtain ⟨i1, i2, i3, i4⟩ := h
  refine ⟨(i1.row hr).fr (fun b x y => hc b (by omega) (by omega) (by omega)), i2.fr (fun b x y => hc b (by omega) (by omega) (by omega)) (h7 7 (Or.inl rfl)) (fun j _ _ => by rw [hx 771 (Or.inl rfl)]), i3.fr (fun b hb => ?_), i4.fr (by rw [hc 578 (by decide) (by decide) (by decide)]) (hc 579 (by decide) (by decide) (by decide)) (h7 9 (Or.inr rfl)) (hx 776 (by decide))⟩
  rcases hb with hb | hb | hb | hb
  · exact hc b (by omega) (by omega) (by omega)
  · exact hc b (by omega) (by omega) (by omega)
  · exact hx b (by omega)
  · exact hx b (by omega)
def QC (d d1 : mD) : Prop := ∀ b, ¬ (572 ≤ b ∧ b ≤ 577) → ¬ (580 ≤ b ∧ b ≤ 642) → ¬ b = 778 → d1 b = d b
theorem CI.qr {d d1 d2 : mD} (h : CI d) (hc : QC d d1) (hq : QR d1 d2) : CI d2 := by
  refine h.q (fun b x y z => ?_) (fun j hj => ?_) (fun i x y => ?_) (fun b hb => ?_)
  · rw [hq.1 b (by omega) (by omega) (by omega) (by omega), hc b y z (by omega)]
  · rw [hq.2.1 j (by omega) (by omega), hc 769 (by decide) (by decide) (by decide)]
  · rw [hq.2.2 i x y, hc 770 (by decide) (by decide) (by decide)]
  · rw [hq.1 b (by omega) (by omega) (by omega) (by omega), hc b (by omega) (by omega) (by omega)]
theorem CI.change {d c2 D r' d2 : mD} (h : CI d) (hc : ∀ b, (b < 1 ∨ 63 < b) → c2 b = g_2 64 1 d b) (hD : ∀ b, ¬ b = 778 → D b = c2 b) (hk : KeepW (mset D 769 0 0) r') (hd : ∀ b, ¬ b = 770 → d2 b = r' b) (ok : OKR 1 c2 (d2 770)) : CI d2 ∧ d2 769 0 = 0 := by
  obtain ⟨i1, i2, i3, i4⟩ := h
  obtain ⟨k1, k2, -, -⟩ := keepC i2.1 i1
  obtain ⟨w1, w2, w3⟩ := id hk
  have hn := i2.1
  have G : ∀ b, 569 < b → g_2 64 1 d b = d b := fun b hb => k2 b (by omega) (by omega)
  have Db : ∀ b, 63 < b → ¬ b = 778 → D b = g_2 64 1 d b := fun b x y => by rw [hD b y, hc b (by omega)]
  have Dc : ∀ b, 569 < b → ¬ b = 778 → D b = d b := fun b x y => by rw [Db b (by omega) y, G b x]
  have rb : ∀ b, ¬ b = 769 → ¬ b = 770 → ¬ b = 771 → d2 b = D b := fun b x y z => by
    rw [hd b y, w1 b x z]
    funext j
    exact ms_a x
  have r9 : ∀ j, ¬ j = 7 → ¬ j = 0 → d2 769 j = d 769 j := fun j x y => by rw [hd 769 (by decide), w2 j x, ms_i y, Dc 769 (by decide) (by decide)]
  refine ⟨⟨ok.fr (fun b x y => by rw [rb b (by omega) (by omega) (by omega), hD b (by omega)]), ?_, ?_, ?_⟩, ?_⟩
  · refine keepH i2 i1 (fun b x y => by rw [rb b (by omega) (by omega) (by omega), Db b (by omega) (by omega)]) hk ?_ ?_ ?_ ?_ (hd 771 (by decide))
    · rw [ms_i (by decide), Dc 769 (by decide) (by decide)]
    · rw [← Dc 770 (by decide) (by decide)]
      funext j
      exact ms_a (by decide)
    · rw [← Dc 771 (by decide) (by decide)]
      funext j
      exact ms_a (by decide)
    · rw [hd 769 (by decide)]
  · refine i3.fr (fun b hb => ?_)
    rw [rb b (by omega) (by omega) (by omega), Dc b (by omega) (by omega)]
  · refine i4.fr ?_ ?_ (r9 9 (by decide) (by decide)) ?_
    · rw [rb 578 (by decide) (by decide) (by decide), Dc 578 (by decide) (by decide)]
    · rw [rb 579 (by decide) (by decide) (by decide), Dc 579 (by decide) (by decide)]
    · rw [rb 776 (by decide) (by decide) (by decide), Dc 776 (by decide) (by decide)]
  · rw [hd 769 (by decide), w2 0 (by decide), ms_e rfl rfl]
def toks : List (Nat × Int) := [(0, 64), (2, 576), (3, 3), (4, 11), (5, 577), (6, 1), (6, 580), (7, 578), (8, 50), (9, 58), (10, 0), (11, 769), (30, 778)]
def TKL (E : mO × tW) : Prop := EOK E ∧ W55 E ∧ ∀ p, p ∈ toks → tokV E.2 (.inr p)
theorem TKL.t {E : mO × tW} (h : TKL E) (k : Nat) (a : Int) (hm : (k, a) ∈ toks) : tokV E.2 (.inr (k, a)) := h.2.2 _ hm
theorem TKL.k {E : mO × tW} (h : TKL E) : TKE E := ⟨h.2.1, h.t 2 576 (by decide), h.t 5 577 (by decide), h.t 6 580 (by decide)⟩
def Inv (E : mO × tW) (d : mD) : Prop := Safe d ∧ tSh E.2 d ∧ CI d
def inI (x : Int) : Prop := -2147483648 ≤ x ∧ x ≤ 2147483647
theorem inI.of {x : Int} (h : -100000 ≤ x ∧ x ≤ 100000) : inI x := ⟨by omega, by omega⟩
def OPR (d d1 d2 : mD) (v vr : Int) : Prop := CI d2 ∧ d2 769 0 = v ∧ (v = 0 → d1 778 0 = vr ∧ inI vr) ∧ (RP d → RP d2)
theorem OPR.fail {d : mD} {c vr : Int} (h : CI d) (hc : ¬ c = 0) : OPR d d (mset d 769 0 c) c vr := ⟨h.qr (d1 := d) (fun _ _ _ _ => rfl) QR.s0, ms_e rfl rfl, fun z => absurd z hc, fun r => QR.s0.rp r rfl rfl (fun _ _ => rfl)⟩
theorem v236 {x : Int} {d : mD} : v_236 769 x d = if 0 ≤ x ∧ x < d 770 7 then 1 else 0 := by
  unfold v_236
  rw [v176, show (769 : Int) + 1 = 770 by decide]
  by_cases c : 0 ≤ x ∧ x < d 770 7
  · rw [if_pos c, if_pos (by omega)]
  · rw [if_neg c, if_neg (by omega)]
theorem v237 {x : Int} {d : mD} : v_237 769 x d = if 0 ≤ x ∧ x < d 770 8 then 1 else 0 := by
  unfold v_237
  rw [v176, show (769 : Int) + 1 = 770 by decide]
  by_cases c : 0 ≤ x ∧ x < d 770 8
  · rw [if_pos c, if_pos (by omega)]
  · rw [if_neg c, if_neg (by omega)]
theorem v238 {x : Int} {d : mD} : v_238 769 x d = if 0 ≤ x ∧ x < d 770 9 then 1 else 0 := by
  unfold v_238
  rw [v176, show (769 : Int) + 1 = 770 by decide]
  by_cases c : 0 ≤ x ∧ x < d 770 9
  · rw [if_pos c, if_pos (by omega)]
  · rw [if_neg c, if_neg (by omega)]
-- the history's copy on the class's side
theorem Inv.keep {E : mO × tW} {d : mD} (hT : TKL E) (h : Inv E d) : Safe (g_2 64 1 d) ∧ tSh E.2 (g_2 64 1 d) ∧ OKR 1 (g_2 64 1 d) (d 770) ∧ ∀ b, (b < 64 ∨ 569 < b) → g_2 64 1 d b = d b := by
  obtain ⟨hS, hh, hi⟩ := h
  have t : d 1 2 ≤ 999 := by
    have := hi.1.2.2.2.2.1.2.1
    have := hi.1.2.2.2.1
    omega
  obtain ⟨q1, q2, q3⟩ := p_2 (E := E) (x0 := 64) (x1 := 1) hS rfl (Or.inl rfl) t ⟨hT.t 0 64 (by decide), hT.t 6 1 (by decide), trivial⟩ hh
  have f : ∀ b, (b < 64 ∨ 569 < b) → g_2 64 1 d b = d b := fun b hb => q2 b (by omega)
  exact ⟨q3, q1, hi.1.fr (fun b x y => f b (by omega)), f⟩
theorem n641 : (0 : Int) + 64 = 64 := by decide
theorem n01 : (0 : Int) + 1 = 1 := by decide
theorem s1B : stB 1 := Or.inl rfl
theorem ifR {α : Type} {a n : Int} {x y : α} : (if a < 0 then y else if a < n then x else y) = if 0 ≤ a ∧ a < n then x else y := by
  by_cases c : 0 ≤ a ∧ a < n
  · rw [if_pos c, if_neg (by omega), if_pos c.2]
  · rw [if_neg c]
    by_cases z : a < 0
    · rw [if_pos z]
    · rw [if_neg z, if_neg (by omega)]
theorem rowK {E : mO × tW} {d U : mD} (hT : TKL E) (hI : Inv E d) (hU : ∀ b, (b < 1 ∨ 63 < b) → U b = g_2 64 1 d b) (v : Int) : mset U 778 0 v 770 = d 770 ∧ g_278 769 (mset (mset U 778 0 v) 769 0 0) 770 = d 770 := by
  obtain ⟨-, -, -, kf⟩ := hI.keep hT
  have r0 : mset U 778 0 v 770 = d 770 := by
    rw [← kf 770 (by decide), ← hU 770 (by decide)]
    funext j
    exact ms_a (by decide)
  refine ⟨r0, ?_⟩
  rw [(keep278 (d := mset (mset U 778 0 v) 769 0 0)).1 770 (by decide) (by decide), ← r0]
  funext j
  exact ms_a (by decide)
theorem OPR.ok {E : mO × tW} {d U d2 : mD} {W : Row} {v vr : Int} (hI : Inv E d) (hU : ∀ b, (b < 1 ∨ 63 < b) → U b = g_2 64 1 d b) (ok : OKR 1 U W) (hm : mwP (d 770) → mwP W) (h2 : d2 = rset (g_278 769 (mset (mset U 778 0 v) 769 0 0)) W) (hv : v = vr) (hr : -100000 ≤ v ∧ v ≤ 100000) : OPR d (mset U 778 0 v) d2 0 vr := by
  have ch := hI.2.2.change (c2 := U) (D := mset U 778 0 v) (r' := g_278 769 (mset (mset U 778 0 v) 769 0 0)) (d2 := d2) hU (fun b hb => by funext j; exact ms_a hb) keep278 (fun b hb => by rw [h2]; exact rset_ne hb) (by rw [h2, rset_at]; exact ok)
  refine ⟨ch.1, ch.2, fun _ => ⟨by rw [ms_e rfl rfl]; exact hv, by rw [← hv]; exact inI.of hr⟩, fun r => ?_⟩
  obtain ⟨i1, i2, -, -⟩ := hI.2.2
  obtain ⟨-, k2, -, -⟩ := keepC i2.1 i1
  have hn := i2.1
  have hc := i2.2.1
  have hc7 := i2.2.2.1
  have Dd : ∀ b, 569 < b → ¬ b = 769 → ¬ b = 778 → mset (mset U 778 0 v) 769 0 0 b = d b := fun b x y z => by
    rw [← k2 b (by omega) (by omega), ← hU b (by omega)]
    funext j
    rw [ms_a y, ms_a z]
  have kw := keep278 (d := mset (mset U 778 0 v) 769 0 0)
  have d9 : mset (mset U 778 0 v) 769 0 0 769 7 = d 769 7 := by rw [ms_i (by decide), ms_a (by decide), hU 769 (by decide), k2 769 (by decide) (by omega)]
  have rn : ∀ b, ¬ b = 770 → d2 b = g_278 769 (mset (mset U 778 0 v) 769 0 0) b := fun b hb => by rw [h2]; exact rset_ne hb
  have e9 : ∀ j, ¬ j = 0 → ¬ j = 7 → d2 769 j = d 769 j := fun j x y => by rw [rn 769 (by decide), kw.2.1 j y, ms_i x, ms_a (by decide), hU 769 (by decide), k2 769 (by decide) (by omega)]
  refine ⟨r.1.keep (by omega) kw d9 (Dd 770 (by decide) (by decide) (by decide)) (Dd 771 (by decide) (by decide) (by decide)) (by rw [rn 769 (by decide)]) (rn 771 (by decide)) ?_ ?_ (by rw [h2, rset_at]; exact hm r.1.1), r.2.of ?_ (e9 11 (by decide) (by decide)) (e9 12 (by decide) (by decide))⟩
  · rw [rn 772 (by decide), kw.1 772 (by decide) (by decide), Dd 772 (by decide) (by decide) (by decide)]
  · rw [rn 775 (by decide), kw.1 775 (by decide) (by decide), Dd 775 (by decide) (by decide) (by decide)]
  · rw [rn 576 (by decide), kw.1 576 (by decide) (by decide), Dd 576 (by decide) (by decide) (by decide)]
/-! ===== join ===== -/
theorem opJoin {E : mO × tW} {d : mD} {a b : Int} (hT : TKL E) (hI : Inv E d) : OPR d (g_326 0 a b 778 d) (g_279 769 a b (g_326 0 a b 778 d)) (v_326 0 a b 778 d) (v_279 769 a b (g_326 0 a b 778 d)) := by
  obtain ⟨hS, hh, hi⟩ := id hI
  have hk := hi.1
  obtain ⟨hg, hw, hp, ht, hr⟩ := id hk
  have o7 : d 3 0 = d 770 7 := hr.2.1.1
  have o8 : d 11 0 = d 770 8 := hr.2.2.2.1.1
  have n7 := hg.1.1
  have n8 := hg.1.2.1
  unfold v_326 g_326
  rw [n641, n01, show (1 : Int) + 10 = 11 by decide, show (1 : Int) + 2 = 3 by decide, o7, o8, ifR, ifR, ifR, ifR]
  by_cases c1 : 0 ≤ a ∧ a < d 770 8
  · rw [if_pos c1, if_pos c1]
    by_cases c2 : 0 ≤ b ∧ b < d 770 7
    · rw [if_pos c2, if_pos c2]
      obtain ⟨q1, q2, q3⟩ := canQ (p := a) hg hr c2
      rw [q1]
      by_cases c3 : V_225 a b (d 770) = 0
      · rw [if_pos c3, if_pos c3]
        have e : g_279 769 a b d = mset d 769 0 2 := by
          unfold g_279
          rw [v237, if_pos c1, if_neg (by decide), v236, if_pos c2, if_neg (by decide), m_v_225, if_pos c3]
        rw [e]
        exact OPR.fail hi (by decide)
      · rw [if_neg c3, if_neg c3]
        obtain ⟨kS, kh, kk, kf⟩ := hI.keep hT
        have cj := q3.1 (by omega)
        obtain ⟨j0, j1, j2⟩ := join hg kk.2.2.2.2 c2 c1 cj
        have xr := joinX (p := a) hg c2 cj.1
        obtain ⟨x1, x2⟩ := xr.1 hw hp
        have e49 : g_2 64 1 d (1 + 49) 0 ≤ 59 := by
          rw [kf (1 + 49) (by decide), show (1 : Int) + 49 = 50 by decide]
          have : d 50 0 = d 770 9 := hr.2.2.2.2.1.1
          have := cj.1
          omega
        have e2 : g_2 64 1 d 1 2 ≤ 999 := by
          rw [kf 1 (by decide)]
          have := hr.1.2.1
          omega
        obtain ⟨-, fv, f1, -⟩ := p_61 (E := E) (x0 := 1) (x1 := a) (x2 := b) kS s1B (by omega) (by omega) e49 e2 ⟨hT.t 6 1 (by decide), trivial, trivial, trivial⟩ kh
        have hU : ∀ k, (k < 1 ∨ 63 < k) → g_61 1 a b (g_2 64 1 d) k = g_2 64 1 d k := fun k hk => f1 k (by omega)
        obtain ⟨r0, r1⟩ := rowK hT hI hU (v_61 1 a b (g_2 64 1 d))
        refine OPR.ok hI hU (W := W_226 a b (d 770)) ⟨j1, x1, x2, by rw [xr.2]; exact ht, j2⟩ (fun m => ?_) ?_ ?_ (by omega)
        · have n9 := hg.1.2.2.1
          have go := (hg.2.1 b c2.1 c2.2).2.2.2.2.1
          have e := mw_226 (x0 := 769) (x1 := a) (x2 := b) hS rfl (by omega) n9.2 (Int.le_trans go.2 (by decide)) m
          rw [show (769 : Int) + 1 = 770 by decide] at e
          rw [m_g_226, rset_at] at e
          exact e
        · unfold g_279
          rw [v237, v236, m_v_225, r0, if_pos c1, if_neg (by decide), if_pos c2, if_neg (by decide), if_neg c3, m_g_226, r1]
        · unfold v_279
          rw [v237, v236, m_v_225, r0, if_pos c1, if_neg (by decide), if_pos c2, if_neg (by decide), if_neg c3, m_v_226, r1]
          exact j0
    · rw [if_neg c2, if_neg c2]
      have e : g_279 769 a b d = mset d 769 0 1 := by
        unfold g_279
        rw [v237, if_pos c1, if_neg (by decide), v236, if_neg c2, if_pos rfl]
      rw [e]
      exact OPR.fail hi (by decide)
  · rw [if_neg c1, if_neg c1]
    have e : g_279 769 a b d = mset d 769 0 1 := by
      unfold g_279
      rw [v237, if_neg c1, if_pos rfl]
    rw [e]
    exact OPR.fail hi (by decide)
/-! ===== leave ===== -/
theorem mpI {w : Row} (hg : GG w) : mpP w := fun o a b => (hg.2.1 o a b).2.1.1
theorem n49 : (1 : Int) + 49 = 50 := by decide
theorem opLeave {E : mO × tW} {d : mD} {t : Int} (hT : TKL E) (hI : Inv E d) : OPR d (g_327 0 t 778 d) (g_280 769 t (g_327 0 t 778 d)) (v_327 0 t 778 d) (v_280 769 t (g_327 0 t 778 d)) := by
  obtain ⟨hS, hh, hi⟩ := id hI
  have hk := hi.1
  obtain ⟨hg, hw, hp, ht, hr⟩ := id hk
  have o9 : d 50 0 = d 770 9 := hr.2.2.2.2.1.1
  have n9 := hg.1.2.2.1
  unfold v_327 g_327
  rw [n641, n01, n49, show (50 : Int) + 5 = 55 by decide, show (1 : Int) + 2 = 3 by decide, show (50 : Int) + 2 = 52 by decide, show (50 : Int) + 3 = 53 by decide, o9, ifR, ifR]
  by_cases c1 : 0 ≤ t ∧ t < d 770 9
  · rw [if_pos c1, if_pos c1]
    obtain ⟨u1, u2, u3, u4, u5⟩ := hr.2.2.2.2.1.2 t c1.1 c1.2
    have u5 : d 55 t = d 770 (452 + 24 * t + 4) := u5
    have u2 : d 52 t = d 770 (452 + 24 * t + 1) := u2
    have u3 : d 53 t = d 770 (452 + 24 * t + 2) := u3
    rw [u5, u2, u3]
    by_cases c2 : d 770 (452 + 24 * t + 4) = 0
    · rw [if_pos c2, if_pos c2]
      obtain ⟨kS, kh, kk, kf⟩ := hI.keep hT
      have gt := hg.2.2.2.1 t c1.1 c1.2
      obtain ⟨p1, p2, p3, p4⟩ := placeIn hg kk.2.2.2.2 c1 c2
      have p1 : v_39 3 (d 770 (452 + 24 * t + 1)) t (g_2 64 1 d) = V_221 t (d 770) := p1
      obtain ⟨j1, j2⟩ := leave hg kk.2.2.2.2 c1 c2
      have j2 : Rel 1 (mset (mset (g_41 3 (d 770 (452 + 24 * t + 1)) (V_221 t (d 770)) (g_2 64 1 d)) 55 t 2) 54 t (d 770 0)) _ := j2
      have go := hg.2.1 _ gt.2.1.1 gt.2.1.2
      have xr := leaveX (p := V_221 t (d 770)) hg c1 ⟨p2, by omega⟩
      obtain ⟨x1, x2⟩ := xr.1 hw hp
      have tm : d 1 2 = d 770 0 := hr.1.2.1
      have n7 := hg.1.1
      have tk := take220 (o := d 770 (452 + 24 * t + 1)) (w := d 770) p2 (by omega) (by omega)
      obtain ⟨-, f1, -⟩ := p_41 (E := E) (x0 := 3) (x1 := d 770 (452 + 24 * t + 1)) (x2 := V_221 t (d 770)) kS s1B (by omega) (by omega) ⟨hT.t 3 3 (by decide), trivial, trivial, trivial⟩ kh
      have eU : g_97 50 t 2 (d 1 2) (g_41 3 (d 770 (452 + 24 * t + 1)) (v_39 3 (d 770 (452 + 24 * t + 1)) t (g_2 64 1 d)) (g_2 64 1 d)) = mset (mset (g_41 3 (d 770 (452 + 24 * t + 1)) (V_221 t (d 770)) (g_2 64 1 d)) 55 t 2) 54 t (d 770 0) := by
        rw [p1, tm]
        rfl
      rw [eU]
      have hU : ∀ k, (k < 1 ∨ 63 < k) → mset (mset (g_41 3 (d 770 (452 + 24 * t + 1)) (V_221 t (d 770)) (g_2 64 1 d)) 55 t 2) 54 t (d 770 0) k = g_2 64 1 d k := fun k hk => by
        rw [← f1 k (by omega)]
        funext j
        rw [ms_a (by omega), ms_a (by omega)]
      obtain ⟨r0, r1⟩ := rowK hT hI hU (d 1 2 - d 770 (452 + 24 * t + 2))
      have n0 := hg.1.2.2.2.2.2.1
      refine OPR.ok hI hU ⟨j1, x1, x2, by rw [xr.2]; exact ht, j2⟩ (fun m => ?_) ?_ ?_ (by have := gt.2.2.1; omega)
      · refine m.fr (fun u u0 u1 => ?_)
        have t1 := tk.2.2 (452 + 24 * u + 6) (by omega) (by omega)
        have t2 := tk.2.2 (452 + 24 * u + 7) (by omega) (by omega)
        exact ⟨by rw [wsn (by omega), wsn (by omega), t1], by rw [wsn (by omega), wsn (by omega), t2]⟩
      · unfold g_280
        rw [v238, show (769 : Int) + 1 = 770 by decide, r0, if_pos c1, if_neg (by decide), if_pos c2, m_v_221, m_g_220, r1]
        simp only [mset_row, rset_at, rset_rset]
        rw [show W_220 (d 770 (452 + 24 * t + 1)) (V_221 t (d 770)) (d 770) 0 = d 770 0 from tk.2.2 0 (by omega) (by omega)]
      · unfold v_280
        rw [v238, show (769 : Int) + 1 = 770 by decide, r0, if_pos c1, if_neg (by decide), if_pos c2, m_v_221, m_g_220, r1]
        simp only [rset_at]
        rw [show W_220 (d 770 (452 + 24 * t + 1)) (V_221 t (d 770)) (d 770) 0 = d 770 0 from tk.2.2 0 (by omega) (by omega), show W_220 (d 770 (452 + 24 * t + 1)) (V_221 t (d 770)) (d 770) (452 + 24 * t + 2) = d 770 (452 + 24 * t + 2) from tk.2.2 _ (by omega) (by omega), tm]
    · rw [if_neg c2, if_neg c2]
      have e : g_280 769 t d = mset d 769 0 2 := by
        unfold g_280
        rw [v238, show (769 : Int) + 1 = 770 by decide, if_pos c1, if_neg (by decide), if_neg c2]
      rw [e]
      exact OPR.fail hi (by decide)
  · rw [if_neg c1, if_neg c1]
    have e : g_280 769 t d = mset d 769 0 1 := by
      unfold g_280
      rw [v238, if_neg c1, if_pos rfl]
    rw [e]
    exact OPR.fail hi (by decide)
/-! ===== claim ===== -/
theorem opClaim {E : mO × tW} {d : mD} {t : Int} (hT : TKL E) (hI : Inv E d) : OPR d (g_329 0 t 778 d) (g_283 769 t (g_329 0 t 778 d)) (v_329 0 t 778 d) (v_283 769 t (g_329 0 t 778 d)) := by
  obtain ⟨hS, hh, hi⟩ := id hI
  have hk := hi.1
  obtain ⟨hg, hw, hp, ht, hr⟩ := id hk
  have o9 : d 50 0 = d 770 9 := hr.2.2.2.2.1.1
  have n9 := hg.1.2.2.1
  unfold v_329 g_329
  rw [n641, n01, n49, o9, ifR, ifR]
  by_cases c1 : 0 ≤ t ∧ t < d 770 9
  · rw [if_pos c1, if_pos c1]
    obtain ⟨q1, q2, q3⟩ := canClaim hg hr c1
    rw [q1]
    by_cases c2 : V_227 t (d 770) = 0
    · rw [if_pos c2, if_pos c2]
      have e : g_283 769 t d = mset d 769 0 2 := by
        unfold g_283
        rw [v238, if_pos c1, if_neg (by decide), m_v_227, if_pos c2]
      rw [e]
      exact OPR.fail hi (by decide)
    · rw [if_neg c2, if_neg c2]
      obtain ⟨kS, kh, kk, kf⟩ := hI.keep hT
      have cj := q3.1 (by omega)
      obtain ⟨j0, j1, j2, -⟩ := claim hg kk.2.2.2.2 c1 cj.1 cj.2 ht
      have xr := claimX hg c1
      obtain ⟨x1, x2⟩ := xr.1 hw hp
      obtain ⟨-, fv, f1, -⟩ := p_74 (E := E) (x0 := 1) (x1 := t) kS s1B (by omega) ⟨hT.t 6 1 (by decide), trivial, trivial⟩ kh
      have hU : ∀ k, (k < 1 ∨ 63 < k) → g_74 1 t (g_2 64 1 d) k = g_2 64 1 d k := fun k hk => f1 k (by omega)
      obtain ⟨r0, r1⟩ := rowK hT hI hU (v_74 1 t (g_2 64 1 d))
      refine OPR.ok hI hU (W := W_228 t (d 770)) ⟨j1, x1, x2, by rw [xr.2]; exact ht, j2⟩ (fun m => ?_) ?_ ?_ (by omega)
      · have e := (p_228 (E := E) (x0 := 769) (x1 := t) hS rfl (by omega) (mpI hg) m ⟨hT.t 11 769 (by decide), trivial, trivial⟩ hh).2.2.2.2.2.1
        rw [m_g_228, show (769 : Int) + 1 = 770 by decide, rset_at] at e
        exact e
      · unfold g_283
        rw [v238, m_v_227, r0, if_pos c1, if_neg (by decide), if_neg c2, m_g_228, r1]
      · unfold v_283
        rw [v238, m_v_227, r0, if_pos c1, if_neg (by decide), if_neg c2, m_v_228, r1]
        exact j0
  · rw [if_neg c1, if_neg c1]
    have e : g_283 769 t d = mset d 769 0 1 := by
      unfold g_283
      rw [v238, if_neg c1, if_pos rfl]
    rw [e]
    exact OPR.fail hi (by decide)
/-! ===== witness ===== -/
theorem opWit {E : mO × tW} {d : mD} {t p : Int} (hT : TKL E) (hI : Inv E d) : OPR d (g_330 0 t p 778 d) (g_284 769 t p (g_330 0 t p 778 d)) (v_330 0 t p 778 d) (v_284 769 t p (g_330 0 t p 778 d)) := by
  obtain ⟨hS, hh, hi⟩ := id hI
  have hk := hi.1
  obtain ⟨hg, hw, hp, ht, hr⟩ := id hk
  have o9 : d 50 0 = d 770 9 := hr.2.2.2.2.1.1
  have o8 : d 11 0 = d 770 8 := hr.2.2.2.1.1
  have n9 := hg.1.2.2.1
  have n8 := hg.1.2.1
  unfold v_330 g_330
  rw [n641, n01, n49, show (1 : Int) + 10 = 11 by decide, o9, o8, ifR, ifR, ifR, ifR]
  by_cases c1 : 0 ≤ t ∧ t < d 770 9
  · rw [if_pos c1, if_pos c1]
    by_cases c2 : 0 ≤ p ∧ p < d 770 8
    · rw [if_pos c2, if_pos c2]
      obtain ⟨q1, q2⟩ := hinder hg hr c1 c2
      rw [q1]
      by_cases c3 : V_234 t p (d 770) = 0
      · rw [if_pos c3, if_pos c3]
        have q4 := q2 c3
        obtain ⟨kS, kh, kk, kf⟩ := hI.keep hT
        obtain ⟨j0, j1, j2, -⟩ := attest hg kk.2.2.2.2 c1 c2 c3 ht
        have xr := attestX (p := p) hg c1 c2
        obtain ⟨x1, x2⟩ := xr.1 hw hp
        have w2 : g_2 64 1 d (1 + 10 + 4) p ≤ 2 := by
          rw [kf (1 + 10 + 4) (by decide)]
          rcases (p_77 (E := E) (x0 := 1) (x1 := t) (x2 := p) hS s1B (by omega) (by omega) ⟨hT.t 6 1 (by decide), trivial, trivial, trivial⟩ hh).2.2 with z | z
          · exact absurd (q1.trans c3) z
          · exact z
        obtain ⟨-, fv, f1, -⟩ := p_75 (E := E) (x0 := 1) (x1 := t) (x2 := p) kS s1B (by omega) (by omega) w2 ⟨hT.t 6 1 (by decide), trivial, trivial, trivial⟩ kh
        have hU : ∀ k, (k < 1 ∨ 63 < k) → g_75 1 t p (g_2 64 1 d) k = g_2 64 1 d k := fun k hk => f1 k (by omega)
        obtain ⟨r0, r1⟩ := rowK hT hI hU (v_75 1 t p (g_2 64 1 d))
        refine OPR.ok hI hU (W := W_235 t p (d 770)) ⟨j1, x1, x2, by rw [xr.2]; exact ht, j2⟩ (fun m => ?_) ?_ ?_ (by omega)
        · have e := (p_235 (E := E) (x0 := 769) (x1 := t) (x2 := p) hS rfl (by omega) (by omega) (mpI hg) m q4.2.1 ⟨hT.t 11 769 (by decide), trivial, trivial, trivial⟩ hh).2.2.2.2.2.1
          rw [m_g_235, show (769 : Int) + 1 = 770 by decide, rset_at] at e
          exact e
        · unfold g_284
          rw [v238, v237, m_v_234, r0, if_pos c1, if_neg (by decide), if_pos c2, if_neg (by decide), if_pos c3, m_g_235, r1]
        · unfold v_284
          rw [v238, v237, m_v_234, r0, if_pos c1, if_neg (by decide), if_pos c2, if_neg (by decide), if_pos c3, m_v_235, r1]
          exact j0
      · rw [if_neg c3, if_neg c3]
        have e : g_284 769 t p d = mset d 769 0 2 := by
          unfold g_284
          rw [v238, v237, m_v_234, if_pos c1, if_neg (by decide), if_pos c2, if_neg (by decide), if_neg c3]
        rw [e]
        exact OPR.fail hi (by decide)
    · rw [if_neg c2, if_neg c2]
      have e : g_284 769 t p d = mset d 769 0 1 := by
        unfold g_284
        rw [v238, v237, if_pos c1, if_neg (by decide), if_neg c2, if_pos rfl]
      rw [e]
      exact OPR.fail hi (by decide)
  · rw [if_neg c1, if_neg c1]
    have e : g_284 769 t p d = mset d 769 0 1 := by
      unfold g_284
      rw [v238, if_neg c1, if_pos rfl]
    rw [e]
    exact OPR.fail hi (by decide)
/-! ===== pass ===== -/
theorem v281 {w : Row} (h9 : 0 ≤ w 9 ∧ w 9 ≤ 60) : V_281 w = srvN w := by
  unfold V_281 srvN
  refine cnt0 (L := fun n a k => LP_281_4 n a k w) h9.1 (by omega) (fun n a k h => ?_) (fun n a k x y => ?_)
  · cases n with
    | zero =>
      show ST_281_4 _ a k w = a
      unfold ST_281_4
      rw [if_neg (by omega)]
    | succ n =>
      show ST_281_4 _ a k w = a
      unfold ST_281_4
      rw [if_neg (by omega)]
  · show ST_281_4 _ a k w = _
    unfold ST_281_4
    rw [if_pos y]
    split
    · rfl
    · rfl
theorem lp282 {x a : Int} : ∀ (n : Nat) (k : Int) (w : Row), x - k = (n : Int) → LP_282_59 x n a k w = (V_281 (hoursW n w) - a, hoursW n w) := by
  intro n
  induction n with
  | zero =>
    intro k w h
    show ST_282_59 x _ a k w = _
    unfold ST_282_59
    rw [if_neg (by omega)]
    rfl
  | succ n ih =>
    intro k w h
    show ST_282_59 x _ a k w = _
    unfold ST_282_59
    rw [if_pos (by omega), ih (k + 1) _ (by omega)]
    rfl
theorem if12 {α : Type} {n N : Int} {x y : α} : (if n < 1 then y else if N < n then y else x) = if 1 ≤ n ∧ n ≤ N then x else y := by
  by_cases c : 1 ≤ n ∧ n ≤ N
  · rw [if_pos c, if_neg (by omega), if_neg (by omega)]
  · rw [if_neg c]
    by_cases z : n < 1
    · rw [if_pos z]
    · rw [if_neg z, if_pos (by omega)]
theorem opPass {E : mO × tW} {d : mD} {n : Int} (hT : TKL E) (hI : Inv E d) : OPR d (g_328 0 n 778 d) (g_282 769 n (g_328 0 n 778 d)) (v_328 0 n 778 d) (v_282 769 n (g_328 0 n 778 d)) := by
  obtain ⟨hS, hh, hi⟩ := id hI
  have hk := hi.1
  obtain ⟨hg, hw, hp, ht, hr⟩ := id hk
  have tm : d 1 2 = d 770 0 := hr.1.2.1
  have n0 := hg.1.2.2.2.2.2.1
  unfold v_328 g_328
  rw [n641, n01, if12, if12]
  by_cases c1 : 1 ≤ n ∧ n ≤ 99
  · rw [if_pos c1, if_pos c1]
    have vc : v_67 1 n d = if (999 : Int) < d 770 0 + n then 0 else 1 := by
      unfold v_67
      rw [tm]
    by_cases c2 : (999 : Int) < d 770 0 + n
    · rw [if_pos c2] at vc
      rw [if_pos vc, if_pos vc]
      have e : g_282 769 n d = mset d 769 0 2 := by
        unfold g_282 f_282
        rw [v176, if_pos c1, if_neg (by decide), show (769 : Int) + 1 = 770 by decide, if_pos c2]
      rw [e]
      exact OPR.fail hi (by decide)
    · rw [if_neg c2] at vc
      have vc : ¬ v_67 1 n d = 0 := by omega
      rw [if_neg vc, if_neg vc]
      obtain ⟨kS, kh, kk, kf⟩ := hI.keep hT
      obtain ⟨j0, j1, j2, j3, j4, j5⟩ := passHours (s := 1) (N := n) (by omega) hg kk.2.2.2.2 (by omega)
      obtain ⟨x1, x2⟩ := j5 hw hp
      have tk : g_2 64 1 d 1 2 = d 770 0 := by rw [kf 1 (by decide), tm]
      obtain ⟨-, fv, f1, -⟩ := p_68 (E := E) (x0 := 1) (x1 := n) kS s1B (by omega) (by omega) (Or.inr (by omega)) ⟨hT.t 6 1 (by decide), trivial, trivial⟩ kh
      have hU : ∀ k, (k < 1 ∨ 63 < k) → g_68 1 n (g_2 64 1 d) k = g_2 64 1 d k := fun k hk => f1 k (by omega)
      obtain ⟨r0, r1⟩ := rowK hT hI hU (v_68 1 n (g_2 64 1 d))
      have e : f_282 769 n (mset (g_68 1 n (g_2 64 1 d)) 778 0 (v_68 1 n (g_2 64 1 d))) = (srvN (hoursW n.toNat (d 770)) - srvN (d 770), rset (g_278 769 (mset (mset (g_68 1 n (g_2 64 1 d)) 778 0 (v_68 1 n (g_2 64 1 d))) 769 0 0)) (hoursW n.toNat (d 770))) := by
        unfold f_282
        rw [v176, if_pos c1, if_neg (by decide), show (769 : Int) + 1 = 770 by decide, r0, if_neg c2, m_lp_282_59, m_v_281, r1, show n - 0 = n by omega, lp282 n.toNat 0 _ (by omega), v281 j1.1.2.2.1, v281 hg.1.2.2.1]
        rfl
      refine OPR.ok hI hU (W := hoursW n.toNat (d 770)) ⟨j1, x1, x2, by omega, j2⟩ (fun m => m.fr (fun u u0 u1 => ⟨j4 _ (Or.inr ⟨by omega, by omega, by omega⟩), j4 _ (Or.inr ⟨by omega, by omega, by omega⟩)⟩)) ?_ ?_ (by omega)
      · unfold g_282
        rw [e]
      · unfold v_282
        rw [e]
        exact j0
  · rw [if_neg c1, if_neg c1]
    have e : g_282 769 n d = mset d 769 0 1 := by
      unfold g_282 f_282
      rw [v176, if_neg c1, if_pos rfl]
    rw [e]
    exact OPR.fail hi (by decide)
/-! ===== give, offer ===== -/
theorem n57 : (1 : Int) + 57 = 58 := by decide
theorem lp285f {p o m0 : Int} : ∀ (n : Nat) (m k : Int) (w : Row), 0 ≤ k → ∀ i, i < 1916 → (LP_285_79 p o m0 n m k w).2 i = w i := by
  intro n
  induction n with
  | zero =>
    intro m k w h0 i hi
    show (ST_285_79 p o m0 _ m k w).2 i = w i
    unfold ST_285_79
    repeat' split
    all_goals first
      | rfl
      | exact wsn (by omega)
  | succ n ih =>
    intro m k w h0 i hi
    show (ST_285_79 p o m0 _ m k w).2 i = w i
    unfold ST_285_79
    repeat' split
    all_goals first
      | rfl
      | exact ih _ _ _ (by omega) i hi
      | exact (ih _ _ _ (by omega) i hi).trans (wsn (by omega))
theorem opGive {E : mO × tW} {d : mD} {a b n : Int} (hT : TKL E) (hI : Inv E d) : OPR d (g_331 0 a b n 778 d) (g_285 769 a b n (g_331 0 a b n 778 d)) (v_331 0 a b n 778 d) (v_285 769 a b n (g_331 0 a b n 778 d)) := by
  obtain ⟨hS, hh, hi⟩ := id hI
  have hk := hi.1
  obtain ⟨hg, hw, hp, ht, hr⟩ := id hk
  have o8 : d 11 0 = d 770 8 := hr.2.2.2.1.1
  have n8 := hg.1.2.1
  have n10 := hg.1.2.2.2.1
  unfold v_331 g_331
  rw [n641, n01, n57, show (1 : Int) + 10 = 11 by decide, o8, ifR, ifR, ifR, ifR, if12, if12]
  by_cases c1 : 0 ≤ a ∧ a < d 770 8
  · rw [if_pos c1, if_pos c1]
    by_cases c2 : 0 ≤ b ∧ b < d 770 8
    · rw [if_pos c2, if_pos c2]
      by_cases c3 : 1 ≤ n ∧ n ≤ 200
      · rw [if_pos c3, if_pos c3]
        by_cases c4 : a = b
        · rw [if_pos c4, if_pos c4]
          have e : g_285 769 a b n d = mset d 769 0 3 := by
            unfold g_285 f_285
            rw [v237, v237, v176, if_pos c1, if_neg (by decide), if_pos c2, if_neg (by decide), if_pos c3, if_neg (by decide), if_pos c4]
          rw [e]
          exact OPR.fail hi (by decide)
        · rw [if_neg c4, if_neg c4]
          have ow : v_111 58 a 0 d = V_245 a 0 (d 770) := owned hg hr
          rw [ow]
          by_cases c5 : V_245 a 0 (d 770) < n
          · rw [if_pos c5, if_pos c5]
            have e : g_285 769 a b n d = mset d 769 0 3 := by
              unfold g_285 f_285
              rw [v237, v237, v176, if_pos c1, if_neg (by decide), if_pos c2, if_neg (by decide), if_pos c3, if_neg (by decide), if_neg c4, m_v_245, if_pos c5]
            rw [e]
            exact OPR.fail hi (by decide)
          · rw [if_neg c5, if_neg c5]
            obtain ⟨kS, kh, kk, kf⟩ := hI.keep hT
            obtain ⟨w', j0, j1, j2, xr⟩ := giveLoop (s := 1) (p := a) (o := b) (m0 := n) (200 - 0 : Int).toNat (200 - 0 : Int).toNat n 0 (g_2 64 1 d) (d 770) (by decide) hg kk.2.2.2.2 c2 (by omega) (by omega)
            rw [n57] at j2
            have j2 : Rel 1 (g_114 58 a b n (g_2 64 1 d)) w' := j2
            obtain ⟨x1, x2⟩ := xr.1 hw hp
            obtain ⟨fh, f1, fS⟩ := p_114 (E := E) (x0 := 58) (x1 := a) (x2 := b) (x3 := n) kS s1B (by omega) (by omega) (by omega) ⟨hT.t 9 58 (by decide), trivial, trivial, trivial, trivial⟩ kh
            have hU : ∀ k, (k < 1 ∨ 63 < k) → g_114 58 a b n (g_2 64 1 d) k = g_2 64 1 d k := fun k hk => f1 k (by omega)
            obtain ⟨r0, r1⟩ := rowK hT hI hU (v_111 58 b 0 (g_114 58 a b n (g_2 64 1 d)))
            have ow2 : v_111 58 b 0 (g_114 58 a b n (g_2 64 1 d)) = V_245 b 0 w' := owned j1 j2
            have e : f_285 769 a b n (mset (g_114 58 a b n (g_2 64 1 d)) 778 0 (v_111 58 b 0 (g_114 58 a b n (g_2 64 1 d)))) = (V_245 b 0 w', rset (g_278 769 (mset (mset (g_114 58 a b n (g_2 64 1 d)) 778 0 (v_111 58 b 0 (g_114 58 a b n (g_2 64 1 d)))) 769 0 0)) w') := by
              unfold f_285
              rw [v237, v237, v176, r0, if_pos c1, if_neg (by decide), if_pos c2, if_neg (by decide), if_pos c3, if_neg (by decide), if_neg c4, m_v_245, r0, if_neg c5, m_lp_285_79, r1, j0]
              rfl
            refine OPR.ok hI hU (W := w') ⟨j1, x1, x2, by rw [xr.2]; exact ht, j2⟩ (fun m => m.fr (fun u u0 u1 => ?_)) ?_ ?_ (by have := (p_111 (E := E) (x0 := 58) (x1 := b) (x2 := 0) fS s1B ⟨by omega, by omega⟩ (by decide) ⟨hT.t 9 58 (by decide), trivial, trivial, trivial⟩ fh).2; omega)
            · have e := lp285f (p := a) (o := b) (m0 := n) (200 - 0 : Int).toNat n 0 (d 770) (by decide)
              rw [j0] at e
              exact ⟨e _ (by omega), e _ (by omega)⟩
            · unfold g_285
              rw [e]
            · unfold v_285
              rw [e]
              exact ow2
      · rw [if_neg c3, if_neg c3]
        have e : g_285 769 a b n d = mset d 769 0 2 := by
          unfold g_285 f_285
          rw [v237, v237, v176, if_pos c1, if_neg (by decide), if_pos c2, if_neg (by decide), if_neg c3, if_pos rfl]
        rw [e]
        exact OPR.fail hi (by decide)
    · rw [if_neg c2, if_neg c2]
      have e : g_285 769 a b n d = mset d 769 0 1 := by
        unfold g_285 f_285
        rw [v237, v237, if_pos c1, if_neg (by decide), if_neg c2, if_pos rfl]
      rw [e]
      exact OPR.fail hi (by decide)
  · rw [if_neg c1, if_neg c1]
    have e : g_285 769 a b n d = mset d 769 0 1 := by
      unfold g_285 f_285
      rw [v237, if_neg c1, if_pos rfl]
    rw [e]
    exact OPR.fail hi (by decide)
theorem offLoop2 {s p m0 : Int} : ∀ (nc nr : Nat) (m k : Int) (d : mD) (w : Row), 0 ≤ k → GG w → Rel s d w → w 10 - k ≤ (nc : Int) → w 10 - k ≤ (nr : Int) →
    ∃ w', LP_286_65 p m0 nr m k w = (V_219 w', W_219 w') ∧ GG w' ∧ Rel s (lp_115_5 (s + 57) p m0 nc m k d) w' ∧ XR w w' ∧ ∀ i, ¬ i = 11 → i < 1916 → w' i = w i := by
  intro nc
  induction nc with
  | zero =>
    intro nr m k d w h0 hg h h1 h2
    have k1 := h.2.2.2.2.2.2.1.1
    have e : lp_115_5 (s + 57) p m0 0 m k d = d := by
      show st_115_5 (s + 57) p m0 _ m k d = d
      unfold st_115_5
      rw [if_neg (by omega)]
    refine ⟨w, ?_, hg, by rw [e]; exact h, XR.refl, fun _ _ _ => rfl⟩
    cases nr with
    | zero =>
      show ST_286_65 p m0 _ m k w = _
      unfold ST_286_65
      rw [if_neg (by omega)]
    | succ nr =>
      show ST_286_65 p m0 _ m k w = _
      unfold ST_286_65
      rw [if_neg (by omega)]
  | succ nc ih =>
    intro nr m k d w h0 hg h h1 h2
    obtain ⟨k1, k2⟩ := h.2.2.2.2.2.2.1
    have r1 := h.2.2.2.2.2.2.2.1.1
    by_cases c1 : k < w 10
    · cases nr with
      | zero => omega
      | succ nr =>
        have g := k2 k h0 c1
        by_cases c2 : 0 < m
        · by_cases c5 : w 11 < 200
          · by_cases c3 : w (1916 + 5 * k + 0) = p
            · by_cases c4 : w (1916 + 5 * k + 3) = 0
              · obtain ⟨-, g', r'⟩ := offStep hg h ⟨h0, c1⟩ c4
                have e : lp_115_5 (s + 57) p m0 (nc + 1) m k d = lp_115_5 (s + 57) p m0 nc (m + -1) (k + 1) (mset (mset (mset d (s + 61) k 1) (s + 62) (w 11) k) (s + 57) 5 (w 11 + 1)) := by
                  show st_115_5 (s + 57) p m0 _ m k d = _
                  unfold st_115_5
                  rw [if_pos (by omega), if_pos c2, if_pos (by rw [r1]; exact c5), show s + 57 + 1 = s + 58 by omega, show s + 57 + 4 = s + 61 by omega, show s + 57 + 5 = s + 62 by omega, if_pos (by rw [g.1]; exact c3), if_pos (by rw [g.2.2.2]; exact c4), r1]
                have e2 : LP_286_65 p m0 (nr + 1) m k w = LP_286_65 p m0 nr (m + -1) (k + 1) (ws (ws (ws w ((1916 + (5 * k)) + 3) 1) (2916 + (w 11)) k) 11 ((w 11) + 1)) := by
                  show ST_286_65 p m0 _ m k w = _
                  unfold ST_286_65
                  rw [if_pos c1, if_pos c2, if_pos c3, if_pos c4]
                rw [e, e2]
                have n11 := hg.1.2.2.2.2.1
                have e10 : (ws (ws (ws w ((1916 + (5 * k)) + 3) 1) (2916 + (w 11)) k) 11 ((w 11) + 1)) 10 = w 10 := by
                  simp (disch := omega) only [wsn]
                obtain ⟨w', q1, q2, q3, q4, q5⟩ := ih nr (m + -1) (k + 1) _ _ (by omega) g' r' (by rw [e10]; omega) (by rw [e10]; omega)
                refine ⟨w', q1, q2, q3, XR.trans ?_ q4, fun i a b => (q5 i a b).trans (by simp (disch := omega) only [wsn])⟩
                have n8 := hg.1.2.1
                have n9 := hg.1.2.2.1
                have n10 := hg.1.2.2.2.1
                generalize hu : (ws (ws (ws w ((1916 + (5 * k)) + 3) 1) (2916 + (w 11)) k) 11 ((w 11) + 1)) = u at *
                have ue : ∀ i, ¬ i = 11 → ¬ i = 1916 + 5 * k + 3 → ¬ i = 2916 + w 11 → u i = w i := fun i a b c => by
                  rw [← hu]
                  simp (disch := omega) only [wsn]
                have u3 : u (1916 + 5 * k + 3) = 1 := by
                  rw [← hu]
                  simp (disch := omega) only [wsn, wse]
                refine ⟨GXI.keep hg.1.2.1 (ue 8 (by omega) (by omega) (by omega)) (ue 9 (by omega) (by omega) (by omega)) (fun t q a b x y => ue _ (by omega) (by omega) (by omega)) (fun p a b => ue _ (by omega) (by omega) (by omega)) (Int.le_of_eq (C2_of e10 (fun j a b => ?_)).symm), ue 0 (by omega) (by omega) (by omega)⟩
                by_cases z : j = k
                · rw [z, u3, c4]
                  exact ⟨fun y => absurd y (by decide), fun y => absurd y (by decide)⟩
                · rw [ue _ (by omega) (by omega) (by omega)]
              · have e : lp_115_5 (s + 57) p m0 (nc + 1) m k d = lp_115_5 (s + 57) p m0 nc m (k + 1) d := by
                  show st_115_5 (s + 57) p m0 _ m k d = _
                  unfold st_115_5
                  rw [if_pos (by omega), if_pos c2, if_pos (by rw [r1]; exact c5), show s + 57 + 1 = s + 58 by omega, show s + 57 + 4 = s + 61 by omega, if_pos (by rw [g.1]; exact c3), if_neg (by rw [g.2.2.2]; exact c4)]
                have e2 : LP_286_65 p m0 (nr + 1) m k w = LP_286_65 p m0 nr m (k + 1) w := by
                  show ST_286_65 p m0 _ m k w = _
                  unfold ST_286_65
                  rw [if_pos c1, if_pos c2, if_pos c3, if_neg c4]
                rw [e, e2]
                exact ih nr m (k + 1) d w (by omega) hg h (by omega) (by omega)
            · have e : lp_115_5 (s + 57) p m0 (nc + 1) m k d = lp_115_5 (s + 57) p m0 nc m (k + 1) d := by
                show st_115_5 (s + 57) p m0 _ m k d = _
                unfold st_115_5
                rw [if_pos (by omega), if_pos c2, if_pos (by rw [r1]; exact c5), show s + 57 + 1 = s + 58 by omega, if_neg (by rw [g.1]; exact c3)]
              have e2 : LP_286_65 p m0 (nr + 1) m k w = LP_286_65 p m0 nr m (k + 1) w := by
                show ST_286_65 p m0 _ m k w = _
                unfold ST_286_65
                rw [if_pos c1, if_pos c2, if_neg c3]
              rw [e, e2]
              exact ih nr m (k + 1) d w (by omega) hg h (by omega) (by omega)
          · have e : lp_115_5 (s + 57) p m0 (nc + 1) m k d = d := by
              show st_115_5 (s + 57) p m0 _ m k d = d
              unfold st_115_5
              rw [if_pos (by omega), if_pos c2, if_neg (by rw [r1]; exact c5)]
            refine ⟨w, offIdle (nr + 1) m k w (by omega) h0 (fun j a b z => ?_), hg, by rw [e]; exact h, XR.refl, fun _ _ _ => rfl⟩
            exact absurd (offStep hg h ⟨a, b⟩ z).1 c5
        · have e : lp_115_5 (s + 57) p m0 (nc + 1) m k d = d := by
            show st_115_5 (s + 57) p m0 _ m k d = d
            unfold st_115_5
            rw [if_pos (by omega), if_neg c2]
          refine ⟨w, ?_, hg, by rw [e]; exact h, XR.refl, fun _ _ _ => rfl⟩
          show ST_286_65 p m0 _ m k w = _
          unfold ST_286_65
          rw [if_pos c1, if_neg c2]
    · have e : lp_115_5 (s + 57) p m0 (nc + 1) m k d = d := by
        show st_115_5 (s + 57) p m0 _ m k d = d
        unfold st_115_5
        rw [if_neg (by omega)]
      refine ⟨w, ?_, hg, by rw [e]; exact h, XR.refl, fun _ _ _ => rfl⟩
      cases nr with
      | zero =>
        show ST_286_65 p m0 _ m k w = _
        unfold ST_286_65
        rw [if_neg (by omega)]
      | succ nr =>
        show ST_286_65 p m0 _ m k w = _
        unfold ST_286_65
        rw [if_neg (by omega)]
theorem opOffer {E : mO × tW} {d : mD} {a n : Int} (hT : TKL E) (hI : Inv E d) : OPR d (g_332 0 a n 778 d) (g_286 769 a n (g_332 0 a n 778 d)) (v_332 0 a n 778 d) (v_286 769 a n (g_332 0 a n 778 d)) := by
  obtain ⟨hS, hh, hi⟩ := id hI
  have hk := hi.1
  obtain ⟨hg, hw, hp, ht, hr⟩ := id hk
  have o8 : d 11 0 = d 770 8 := hr.2.2.2.1.1
  have n8 := hg.1.2.1
  have n10 := hg.1.2.2.2.1
  unfold v_332 g_332
  rw [n641, n01, n57, show (1 : Int) + 10 = 11 by decide, o8, ifR, ifR, if12, if12]
  by_cases c1 : 0 ≤ a ∧ a < d 770 8
  · rw [if_pos c1, if_pos c1]
    by_cases c3 : 1 ≤ n ∧ n ≤ 200
    · rw [if_pos c3, if_pos c3]
      have ow : v_111 58 a 0 d = V_245 a 0 (d 770) := owned hg hr
      rw [ow]
      by_cases c5 : V_245 a 0 (d 770) < n
      · rw [if_pos c5, if_pos c5]
        have e : g_286 769 a n d = mset d 769 0 3 := by
          unfold g_286 f_286
          rw [v237, v176, if_pos c1, if_neg (by decide), if_pos c3, if_neg (by decide), m_v_245, if_pos c5]
        rw [e]
        exact OPR.fail hi (by decide)
      · rw [if_neg c5, if_neg c5]
        obtain ⟨kS, kh, kk, kf⟩ := hI.keep hT
        obtain ⟨w', j0, j1, j2, xr, j6⟩ := offLoop2 (s := 1) (p := a) (m0 := n) (200 - 0 : Int).toNat (200 - 0 : Int).toNat n 0 (g_2 64 1 d) (d 770) (by decide) hg kk.2.2.2.2 (by omega) (by omega)
        rw [n57] at j2
        have j2 : Rel 1 (g_115 58 a n (g_2 64 1 d)) w' := j2
        obtain ⟨x1, x2⟩ := xr.1 hw hp
        obtain ⟨s0, s1, s2, s3⟩ := settle j1 j2
        have xr2 := settleX j1 j2
        obtain ⟨y1, y2⟩ := xr2.1 x1 x2
        obtain ⟨fh, f1, fS⟩ := p_115 (E := E) (x0 := 58) (x1 := a) (x2 := n) kS s1B (by omega) (by omega) ⟨hT.t 9 58 (by decide), trivial, trivial, trivial⟩ kh
        obtain ⟨-, fv, f2, -⟩ := p_82 (E := E) (x0 := 1) fS s1B ⟨hT.t 6 1 (by decide), trivial⟩ fh
        have hU : ∀ k, (k < 1 ∨ 63 < k) → g_82 1 (g_115 58 a n (g_2 64 1 d)) k = g_2 64 1 d k := fun k hk => by rw [f2 k (by omega), f1 k (by omega)]
        obtain ⟨r0, r1⟩ := rowK hT hI hU (v_82 1 (g_115 58 a n (g_2 64 1 d)))
        have e : f_286 769 a n (mset (g_82 1 (g_115 58 a n (g_2 64 1 d))) 778 0 (v_82 1 (g_115 58 a n (g_2 64 1 d)))) = (V_219 w', rset (g_278 769 (mset (mset (g_82 1 (g_115 58 a n (g_2 64 1 d))) 778 0 (v_82 1 (g_115 58 a n (g_2 64 1 d)))) 769 0 0)) (W_219 w')) := by
          unfold f_286
          rw [v237, v176, r0, if_pos c1, if_neg (by decide), if_pos c3, if_neg (by decide), m_v_245, r0, if_neg c5, m_lp_286_65, r1, j0]
          rfl
        refine OPR.ok hI hU (W := W_219 w') ⟨s1, y1, y2, by rw [xr2.2, xr.2]; exact ht, s2⟩ (fun m => ?_) ?_ ?_ (by omega)
        · exact m.fr (fun u u0 u1 => ⟨by rw [s3 _ (by omega) (by omega) (by omega) (by omega), j6 _ (by omega) (by omega)], by rw [s3 _ (by omega) (by omega) (by omega) (by omega), j6 _ (by omega) (by omega)]⟩)
        · unfold g_286
          rw [e]
        · unfold v_286
          rw [e]
          exact s0
    · rw [if_neg c3, if_neg c3]
      have e : g_286 769 a n d = mset d 769 0 2 := by
        unfold g_286 f_286
        rw [v237, v176, if_pos c1, if_neg (by decide), if_neg c3, if_pos rfl]
      rw [e]
      exact OPR.fail hi (by decide)
  · rw [if_neg c1, if_neg c1]
    have e : g_286 769 a n d = mset d 769 0 1 := by
      unfold g_286 f_286
      rw [v237, if_neg c1, if_pos rfl]
    rw [e]
    exact OPR.fail hi (by decide)
/-! ===== deposit ===== -/
theorem fr116 {m : Int} : ∀ (n : Nat) (x : Int) (d : mD) (b : Int), ¬ b = 58 → ¬ b = 63 → lp_116_2 58 m n x d b = d b := by
  intro n
  induction n with
  | zero =>
    intro x d b h1 h2
    show st_116_2 58 m _ x d b = d b
    unfold st_116_2
    split
    · funext j
      exact ms_a (by omega)
    · funext j
      exact ms_a h1
  | succ n ih =>
    intro x d b h1 h2
    show st_116_2 58 m _ x d b = d b
    unfold st_116_2
    split
    · rw [ih _ _ b h1 h2]
      funext j
      exact ms_a (by omega)
    · funext j
      exact ms_a h1
theorem fr82l : ∀ (n : Nat) (m y : Int) (d : mD) (b : Int), (b < 1 ∨ 63 < b) → (lp_82_9 1 n m y d).2 b = d b := by
  have g116 : ∀ (m : Int) (d : mD) (b : Int), (b < 1 ∨ 63 < b) → g_116 (1 + 57) m d b = d b := fun m d b hb => by
    rw [n57]
    exact fr116 _ _ _ b (by omega) (by omega)
  intro n
  induction n with
  | zero =>
    intro m y d b hb
    show (st_82_9 1 _ m y d).2 b = d b
    unfold st_82_9
    split
    · split
      · exact g116 _ _ b hb
      · funext j
        show mset _ _ _ _ b j = d b j
        rw [ms_a (by omega), ms_a (by omega), ms_a (by omega)]
    · exact g116 _ _ b hb
  | succ n ih =>
    intro m y d b hb
    show (st_82_9 1 _ m y d).2 b = d b
    unfold st_82_9
    split
    · split
      · exact g116 _ _ b hb
      · rw [ih _ _ _ b hb]
        funext j
        rw [ms_a (by omega), ms_a (by omega), ms_a (by omega)]
    · exact g116 _ _ b hb
theorem fr82 {d : mD} : ∀ b, (b < 1 ∨ 63 < b) → g_82 1 d b = d b := fun b hb => by
  unfold g_82 f_82
  exact fr82l _ _ _ _ b hb
theorem opDep {E : mO × tW} {d : mD} {n : Int} (hT : TKL E) (hI : Inv E d) : OPR d (g_333 0 n 778 d) (g_287 769 n (g_333 0 n 778 d)) (v_333 0 n 778 d) (v_287 769 n (g_333 0 n 778 d)) := by
  obtain ⟨hS, hh, hi⟩ := id hI
  have hk := hi.1
  obtain ⟨hg, hw, hp, ht, hr⟩ := id hk
  have fu : d 1 1 = d 770 1 := hr.1.1
  have n1 := hg.1.2.2.2.2.2.2.1
  unfold v_333 g_333
  rw [n641, n01, if12, if12, fu]
  by_cases c1 : 1 ≤ n ∧ n ≤ 9999
  · rw [if_pos c1, if_pos c1]
    by_cases c2 : (99999 : Int) < d 770 1 + n
    · rw [if_pos c2, if_pos c2]
      have e : g_287 769 n d = mset d 769 0 2 := by
        unfold g_287
        rw [v176, if_pos c1, if_neg (by decide), show (769 : Int) + 1 = 770 by decide, if_pos c2]
      rw [e]
      exact OPR.fail hi (by decide)
    · rw [if_neg c2, if_neg c2]
      obtain ⟨kS, kh, kk, kf⟩ := hI.keep hT
      obtain ⟨a1, a2⟩ := setFund (v := d 770 1 + n) hg kk.2.2.2.2 (by omega)
      have xa := wsX (i := 1) (v := d 770 1 + n) hg.1 (Or.inl (by decide))
      obtain ⟨w1, w2⟩ := xa.1 hw hp
      obtain ⟨s0, s1, s2, s3⟩ := settle a1 a2
      have xr := settleX a1 a2
      obtain ⟨y1, y2⟩ := xr.1 w1 w2
      have f2 : ∀ b, (b < 1 ∨ 63 < b) → g_82 1 (mset (g_2 64 1 d) 1 1 (d 770 1 + n)) b = mset (g_2 64 1 d) 1 1 (d 770 1 + n) b := fr82
      have hU : ∀ k, (k < 1 ∨ 63 < k) → g_82 1 (mset (g_2 64 1 d) 1 1 (d 770 1 + n)) k = g_2 64 1 d k := fun k hk => by
        rw [f2 k hk]
        funext j
        exact ms_a (by omega)
      obtain ⟨r0, r1⟩ := rowK hT hI hU (g_82 1 (mset (g_2 64 1 d) 1 1 (d 770 1 + n)) 1 1)
      refine OPR.ok hI hU (W := W_219 (ws (d 770) 1 (d 770 1 + n))) ⟨s1, y1, y2, by rw [xr.2, xa.2]; exact ht, s2⟩ (fun m => m.fr (fun u u0 u1 => ⟨by rw [s3 _ (by omega) (by omega) (by omega) (by omega), wsn (by omega)], by rw [s3 _ (by omega) (by omega) (by omega) (by omega), wsn (by omega)]⟩)) ?_ ?_ (by have a := s2.1.1; have b := s1.1.2.2.2.2.2.2.1; rw [a]; omega)
      · unfold g_287
        rw [v176, if_pos c1, if_neg (by decide), show (769 : Int) + 1 = 770 by decide, r0, if_neg c2, mset_row, r1, m_g_219, rset_rset, rset_at]
      · unfold v_287
        rw [v176, if_pos c1, if_neg (by decide), show (769 : Int) + 1 = 770 by decide, r0, if_neg c2, mset_row, r1, m_g_219, rset_at, rset_at]
        exact s2.1.1
  · rw [if_neg c1, if_neg c1]
    have e : g_287 769 n d = mset d 769 0 1 := by
      unfold g_287
      rw [v176, if_neg c1, if_pos rfl]
    rw [e]
    exact OPR.fail hi (by decide)
/-! ===== merge ===== -/
theorem pairLe {x y : Int} (a : x = y) (e : 0 ≤ y ∧ y ≤ 16) : -100000 ≤ x ∧ x ≤ 100000 := by omega
theorem opMerge {E : mO × tW} {d : mD} {a b : Int} (hT : TKL E) (hI : Inv E d) : OPR d (g_334 0 a b 778 d) (g_288 769 a b (g_334 0 a b 778 d)) (v_334 0 a b 778 d) (v_288 769 a b (g_334 0 a b 778 d)) := by
  obtain ⟨hS, hh, hi⟩ := id hI
  have hk := hi.1
  obtain ⟨hg, hw, hp, ht, hr⟩ := id hk
  have o7 : d 3 0 = d 770 7 := hr.2.1.1
  have n7 := hg.1.1
  unfold v_334 g_334
  rw [n641, n01, show (1 : Int) + 2 = 3 by decide, show (3 : Int) + 5 = 8 by decide, show (3 : Int) + 6 = 9 by decide, o7, ifR, ifR, ifR, ifR]
  by_cases c1 : 0 ≤ a ∧ a < d 770 7
  · rw [if_pos c1, if_pos c1]
    by_cases c2 : 0 ≤ b ∧ b < d 770 7
    · rw [if_pos c2, if_pos c2]
      have oa : d 8 a = d 770 (12 + 68 * a + 4) := (hr.2.1.2 a c1.1 c1.2).2.2.2.2.1
      have ob : d 8 b = d 770 (12 + 68 * b + 4) := (hr.2.1.2 b c2.1 c2.2).2.2.2.2.1
      rw [oa, ob]
      have v270 : ∀ D : mD, D 770 = d 770 → v_270 769 a b D = if a = b then 0 else if d 770 (12 + 68 * a + 4) = 0 then 0 else if d 770 (12 + 68 * b + 4) = 0 then 0 else 1 := fun D hD => by
        unfold v_270
        rw [show (769 : Int) + 1 = 770 by decide, hD]
      by_cases c3 : ¬ a = b ∧ ¬ d 770 (12 + 68 * a + 4) = 0 ∧ ¬ d 770 (12 + 68 * b + 4) = 0
      · obtain ⟨c3, c4, c5⟩ := c3
        rw [if_neg c3, if_neg c4, if_neg c5, if_neg c3, if_neg c4, if_neg c5]
        obtain ⟨kS, kh, kk, kf⟩ := hI.keep hT
        have oo : d 770 (12 + 68 * b + 4) = 1 := by
          rcases (hg.2.1 b c2.1 c2.2).2.2.2.1 with z | z
          · exact absurd z c5
          · exact z
        obtain ⟨j1, j2, j3⟩ := merge hg kk.2.2.2.2 c1 c2 c3 oo
        have xr := mergeX hg j3
        obtain ⟨x1, x2⟩ := xr.1 hw hp
        obtain ⟨-, f1, -⟩ := p_63 (E := E) (x0 := 1) (x1 := a) (x2 := b) kS s1B (by omega) (by omega) ⟨hT.t 6 1 (by decide), trivial, trivial, trivial⟩ kh
        have hU : ∀ k, (k < 1 ∨ 63 < k) → g_63 1 a b (g_2 64 1 d) k = g_2 64 1 d k := fun k hk => f1 k (by omega)
        obtain ⟨r0, r1⟩ := rowK hT hI hU (g_63 1 a b (g_2 64 1 d) 9 b)
        have w7 : W_229 a b (d 770) 7 = d 770 7 := j3 7 (by decide) (by decide)
        refine OPR.ok hI hU (W := W_229 a b (d 770)) ⟨j1, x1, x2, by rw [xr.2]; exact ht, j2⟩ (fun m => m.fr (fun u u0 u1 => ⟨j3 _ (by omega) (by omega), j3 _ (by omega) (by omega)⟩)) ?_ ?_ (by have a := (j2.2.1.2 b c2.1 (by omega)).2.2.2.2.2; have e := (j1.2.1 b c2.1 (by omega)).2.2.2.2.1; exact pairLe a e)
        · unfold g_288
          rw [v236, v236, v270 _ r0, r0, if_pos c1, if_neg (by decide), if_pos c2, if_neg (by decide), if_neg c3, if_neg c4, if_neg c5, if_neg (by decide), m_g_229, r1]
        · unfold v_288
          rw [v236, v236, v270 _ r0, r0, if_pos c1, if_neg (by decide), if_pos c2, if_neg (by decide), if_neg c3, if_neg c4, if_neg c5, if_neg (by decide), m_g_229, r1, show (769 : Int) + 1 = 770 by decide, rset_at]
          exact (j2.2.1.2 b c2.1 (by omega)).2.2.2.2.2
      · have ev : (if a = b then (2 : Int) else if d 770 (12 + 68 * a + 4) = 0 then 2 else if d 770 (12 + 68 * b + 4) = 0 then 2 else 0) = 2 := by
          by_cases z : a = b
          · rw [if_pos z]
          · rw [if_neg z]
            by_cases z2 : d 770 (12 + 68 * a + 4) = 0
            · rw [if_pos z2]
            · rw [if_neg z2]
              by_cases z3 : d 770 (12 + 68 * b + 4) = 0
              · rw [if_pos z3]
              · exact absurd ⟨z, z2, z3⟩ c3
        have eg : ∀ u : mD, (if a = b then d else if d 770 (12 + 68 * a + 4) = 0 then d else if d 770 (12 + 68 * b + 4) = 0 then d else u) = d := fun u => by
          by_cases z : a = b
          · rw [if_pos z]
          · rw [if_neg z]
            by_cases z2 : d 770 (12 + 68 * a + 4) = 0
            · rw [if_pos z2]
            · rw [if_neg z2]
              by_cases z3 : d 770 (12 + 68 * b + 4) = 0
              · rw [if_pos z3]
              · exact absurd ⟨z, z2, z3⟩ c3
        have er : (if a = b then (0 : Int) else if d 770 (12 + 68 * a + 4) = 0 then 0 else if d 770 (12 + 68 * b + 4) = 0 then 0 else 1) = 0 := by
          by_cases z : a = b
          · rw [if_pos z]
          · rw [if_neg z]
            by_cases z2 : d 770 (12 + 68 * a + 4) = 0
            · rw [if_pos z2]
            · rw [if_neg z2]
              by_cases z3 : d 770 (12 + 68 * b + 4) = 0
              · rw [if_pos z3]
              · exact absurd ⟨z, z2, z3⟩ c3
        rw [ev, eg]
        have e : g_288 769 a b d = mset d 769 0 2 := by
          unfold g_288
          rw [v236, v236, v270 d rfl, if_pos c1, if_neg (by decide), if_pos c2, if_neg (by decide), er, if_pos rfl]
        rw [e]
        exact OPR.fail hi (by decide)
    · rw [if_neg c2, if_neg c2]
      have e : g_288 769 a b d = mset d 769 0 1 := by
        unfold g_288
        rw [v236, v236, if_pos c1, if_neg (by decide), if_neg c2, if_pos rfl]
      rw [e]
      exact OPR.fail hi (by decide)
  · rw [if_neg c1, if_neg c1]
    have e : g_288 769 a b d = mset d 769 0 1 := by
      unfold g_288
      rw [v236, if_neg c1, if_pos rfl]
    rw [e]
    exact OPR.fail hi (by decide)
/-! ===== reopen ===== -/
theorem openCnt {d : mD} {w : Row} {x1 : Int} (hg : GG w) (h : Rel 1 d w) : ∀ (n : Nat) (a x : Int), 0 ≤ x → w 7 - x ≤ (n : Int) → (LP_289_64 x1 n a x w) = (lp_37_4 3 n a x d, w) := by
  have o7 : d 3 0 = w 7 := h.2.1.1
  intro n
  induction n with
  | zero =>
    intro a x h0 hn
    show ST_289_64 x1 _ a x w = (st_37_4 3 _ a x d, w)
    unfold ST_289_64 st_37_4
    rw [o7, if_neg (by omega), if_neg (by omega)]
  | succ n ih =>
    intro a x h0 hn
    show ST_289_64 x1 _ a x w = (st_37_4 3 _ a x d, w)
    unfold ST_289_64 st_37_4
    rw [o7, show (3 : Int) + 5 = 8 by decide]
    by_cases c : x < w 7
    · rw [if_pos c, if_pos c]
      have oa : d 8 x = w (12 + 68 * x + 4) := (h.2.1.2 x h0 c).2.2.2.2.1
      rw [oa]
      rcases (hg.2.1 x h0 c).2.2.2.1 with z | z
      · rw [z, if_pos rfl]
        exact ih _ _ (by omega) (by omega)
      · rw [z, if_neg (by decide)]
        exact ih _ _ (by omega) (by omega)
    · rw [if_neg c, if_neg c]
theorem b37 {d : mD} : ∀ (n : Nat) (a x : Int), 0 ≤ a → 0 ≤ lp_37_4 3 n a x d ∧ lp_37_4 3 n a x d ≤ a + n := by
  intro n
  induction n with
  | zero =>
    intro a x h
    show 0 ≤ st_37_4 3 _ a x d ∧ st_37_4 3 _ a x d ≤ _
    unfold st_37_4
    repeat' split
    · show 0 ≤ (0 : Int) ∧ (0 : Int) ≤ _
      omega
    · show 0 ≤ (0 : Int) ∧ (0 : Int) ≤ _
      omega
    · omega
  | succ n ih =>
    intro a x h
    show 0 ≤ st_37_4 3 _ a x d ∧ st_37_4 3 _ a x d ≤ _
    unfold st_37_4
    split
    · split
      · have := ih (a + 0) (x + 1) (by omega)
        omega
      · have := ih (a + 1) (x + 1) (by omega)
        omega
    · omega
theorem opOpen {E : mO × tW} {d : mD} {o : Int} (hT : TKL E) (hI : Inv E d) : OPR d (g_335 0 o 778 d) (g_289 769 o (g_335 0 o 778 d)) (v_335 0 o 778 d) (v_289 769 o (g_335 0 o 778 d)) := by
  obtain ⟨hS, hh, hi⟩ := id hI
  have hk := hi.1
  obtain ⟨hg, hw, hp, ht, hr⟩ := id hk
  have o7 : d 3 0 = d 770 7 := hr.2.1.1
  have n7 := hg.1.1
  unfold v_335 g_335
  rw [n641, n01, show (1 : Int) + 2 = 3 by decide, show (3 : Int) + 5 = 8 by decide, o7, ifR, ifR]
  by_cases c1 : 0 ≤ o ∧ o < d 770 7
  · rw [if_pos c1, if_pos c1]
    have oa : d 8 o = d 770 (12 + 68 * o + 4) := (hr.2.1.2 o c1.1 c1.2).2.2.2.2.1
    rw [oa]
    by_cases c2 : d 770 (12 + 68 * o + 4) = 0
    · rw [if_pos c2, if_pos c2]
      obtain ⟨kS, kh, kk, kf⟩ := hI.keep hT
      obtain ⟨j1, j2⟩ := setOpen hg kk.2.2.2.2 c1
      have j2 : Rel 1 (mset (g_2 64 1 d) 8 o 1) (ws (d 770) (12 + 68 * o + 4) 1) := j2
      have xr := wsX (i := 12 + 68 * o + 4) (v := 1) hg.1 (Or.inr (Or.inl (by omega)))
      obtain ⟨x1, x2⟩ := xr.1 hw hp
      have hU : ∀ k, (k < 1 ∨ 63 < k) → mset (g_2 64 1 d) 8 o 1 k = g_2 64 1 d k := fun k hk => by
        funext j
        exact ms_a (by omega)
      obtain ⟨r0, r1⟩ := rowK hT hI hU (v_37 3 (mset (g_2 64 1 d) 8 o 1))
      have n7' := j1.1.1
      have oc := openCnt (x1 := o) j1 j2 (6 - 0 : Int).toNat 0 0 (by decide) (by omega)
      have e : f_289 769 o (mset (mset (g_2 64 1 d) 8 o 1) 778 0 (v_37 3 (mset (g_2 64 1 d) 8 o 1))) = (v_37 3 (mset (g_2 64 1 d) 8 o 1), rset (g_278 769 (mset (mset (mset (g_2 64 1 d) 8 o 1) 778 0 (v_37 3 (mset (g_2 64 1 d) 8 o 1))) 769 0 0)) (ws (d 770) (12 + 68 * o + 4) 1)) := by
        unfold f_289
        rw [v236, show (769 : Int) + 1 = 770 by decide, r0, if_pos c1, if_neg (by decide), if_pos c2, mset_row, r1, m_lp_289_64, rset_at, oc]
        unfold pr
        rw [rset_rset]
        rfl
      refine OPR.ok hI hU (W := ws (d 770) (12 + 68 * o + 4) 1) ⟨j1, x1, x2, by rw [xr.2]; exact ht, j2⟩ (fun m => m.fr (fun u u0 u1 => ⟨wsn (by omega), wsn (by omega)⟩)) ?_ ?_ (by have := b37 (d := mset (g_2 64 1 d) 8 o 1) (6 - 0 : Int).toNat 0 0 (by decide); unfold v_37; omega)
      · unfold g_289
        rw [e]
      · unfold v_289
        rw [e]
    · rw [if_neg c2, if_neg c2]
      have e : g_289 769 o d = mset d 769 0 2 := by
        unfold g_289 f_289
        rw [v236, show (769 : Int) + 1 = 770 by decide, if_pos c1, if_neg (by decide), if_neg c2]
      rw [e]
      exact OPR.fail hi (by decide)
  · rw [if_neg c1, if_neg c1]
    have e : g_289 769 o d = mset d 769 0 1 := by
      unfold g_289 f_289
      rw [v236, if_neg c1, if_pos rfl]
    rw [e]
    exact OPR.fail hi (by decide)
/-! ===== set ===== -/
theorem olds_r {k : Int} (h : 0 ≤ k ∧ k < 5) : (k = 0 ∧ olds 0 k = 0 ∧ olds 1 k = 9) ∨ (k = 1 ∧ olds 0 k = 0 ∧ olds 1 k = 3) ∨ (k = 2 ∧ olds 0 k = 1 ∧ olds 1 k = 9) ∨ (k = 3 ∧ olds 0 k = 1 ∧ olds 1 k = 20) ∨ (k = 4 ∧ olds 0 k = 1 ∧ olds 1 k = 99) := by
  have : k = 0 ∨ k = 1 ∨ k = 2 ∨ k = 3 ∨ k = 4 := by omega
  rcases this with h | h | h | h | h <;> subst h <;> decide
theorem GN.set {w : Row} {k v : Int} (hg : GN w) (hk : 0 ≤ k ∧ k < 5) (hv : olds 0 k ≤ v ∧ v ≤ olds 1 k) : GN (ws w (2 + k) v) := by
  unfold GN at hg ⊢
  obtain ⟨h1, h2, h3, h4, h5, h6, h7, h8, h9, h10, h11, h12, h13⟩ := hg
  unfold ws
  rcases olds_r hk with ⟨z, a, b⟩ | ⟨z, a, b⟩ | ⟨z, a, b⟩ | ⟨z, a, b⟩ | ⟨z, a, b⟩ <;> subst z <;> rw [a, b] at hv <;> simp <;> omega
theorem oldB {d : mD} {w : Row} {k : Int} (hg : GG w) (h : Rel 1 d w) (hk : 0 ≤ k ∧ k < 5) : -100000 ≤ d 2 k ∧ d 2 k ≤ 100000 := by
  have e : d 2 k = w (2 + k) := h.1.2.2 k hk.1 hk.2
  obtain ⟨-, -, -, -, -, -, -, g2, g3, g4, g5, g6, g7⟩ := hg.1
  have : k = 0 ∨ k = 1 ∨ k = 2 ∨ k = 3 ∨ k = 4 := by omega
  rcases this with z | z | z | z | z
  · subst z
    have e : d 2 0 = w 2 := e
    omega
  · subst z
    have e : d 2 1 = w 3 := e
    omega
  · subst z
    have e : d 2 2 = w 4 := e
    omega
  · subst z
    have e : d 2 3 = w 5 := e
    omega
  · subst z
    have e : d 2 4 = w 6 := e
    omega
theorem opSet {E : mO × tW} {d : mD} {k v : Int} (hT : TKL E) (hI : Inv E d) : OPR d (g_337 0 k v 778 d) (g_293 769 k v (g_337 0 k v 778 d)) (v_337 0 k v 778 d) (v_293 769 k v (g_337 0 k v 778 d)) := by
  obtain ⟨hS, hh, hi⟩ := id hI
  have hk := hi.1
  obtain ⟨hg, hw, hp, ht, hr⟩ := id hk
  unfold v_337 g_337
  rw [n641, n01, show (1 : Int) + 1 = 2 by decide, ifR, ifR]
  have v04 : ∀ D, v_176 k 0 4 D = if 0 ≤ k ∧ k < 5 then 1 else 0 := fun D => by
    rw [v176]
    by_cases c : 0 ≤ k ∧ k < 5
    · rw [if_pos c, if_pos (by omega)]
    · rw [if_neg c, if_neg (by omega)]
  by_cases c1 : 0 ≤ k ∧ k < 5
  · rw [if_pos c1, if_pos c1]
    by_cases c2 : olds 0 k ≤ v ∧ v ≤ olds 1 k
    · rw [if_neg (by omega), if_neg (by omega), if_neg (by omega), if_neg (by omega)]
      obtain ⟨kS, kh, kk, kf⟩ := hI.keep hT
      obtain ⟨j1, j2⟩ := setSet hg kk.2.2.2.2 c1 (hg.1.set c1 c2)
      have j2 : Rel 1 (mset (g_2 64 1 d) 2 k v) (ws (d 770) (2 + k) v) := j2
      have xr := wsX (i := 2 + k) (v := v) hg.1 (Or.inl (by omega))
      obtain ⟨x1, x2⟩ := xr.1 hw hp
      have hU : ∀ i, (i < 1 ∨ 63 < i) → mset (g_2 64 1 d) 2 k v i = g_2 64 1 d i := fun i hi => by
        funext j
        exact ms_a (by omega)
      obtain ⟨r0, r1⟩ := rowK hT hI hU (d 2 k)
      refine OPR.ok hI hU (W := ws (d 770) (2 + k) v) ⟨j1, x1, x2, by rw [xr.2]; exact ht, j2⟩ (fun m => m.fr (fun u u0 u1 => ⟨wsn (by omega), wsn (by omega)⟩)) ?_ ?_ (oldB hg hr c1)
      · unfold g_293
        rw [v04, if_pos c1, if_neg (by decide), old0 c1, old1 c1, v176, if_pos c2, if_neg (by decide), show (769 : Int) + 1 = 770 by decide, mset_row, r1]
      · unfold v_293
        rw [v04, if_pos c1, if_neg (by decide), old0 c1, old1 c1, v176, if_pos c2, if_neg (by decide), show (769 : Int) + 1 = 770 by decide, r0]
        exact hr.1.2.2 k c1.1 c1.2
    · have ev : (if v < olds 0 k then (1 : Int) else if olds 1 k < v then 1 else 0) = 1 := by
        by_cases z : v < olds 0 k
        · rw [if_pos z]
        · rw [if_neg z, if_pos (by omega)]
      have eg : ∀ u : mD, (if v < olds 0 k then d else if olds 1 k < v then d else u) = d := fun u => by
        by_cases z : v < olds 0 k
        · rw [if_pos z]
        · rw [if_neg z, if_pos (by omega)]
      rw [ev, eg]
      have e : g_293 769 k v d = mset d 769 0 1 := by
        unfold g_293
        rw [v04, if_pos c1, if_neg (by decide), old0 c1, old1 c1, v176, if_neg c2, if_pos rfl]
      rw [e]
      exact OPR.fail hi (by decide)
  · rw [if_neg c1, if_neg c1]
    have e : g_293 769 k v d = mset d 769 0 1 := by
      unfold g_293
      rw [v04, if_neg c1, if_pos rfl]
    rw [e]
    exact OPR.fail hi (by decide)
/-! ===== undo, save, restore ===== -/
def OPV (d d2 : mD) (v : Int) : Prop := CI d2 ∧ d2 769 0 = v ∧ (RP d → RP d2)
theorem opUndo {d : mD} (hi : CI d) : OPR d (g_338 0 778 d) (g_294 769 (g_338 0 778 d)) (v_338 0 778 d) (v_294 769 (g_338 0 778 d)) := by
  obtain ⟨i1, i2, i3, i4⟩ := id hi
  have h7 := i2.2.2.1
  have hn := i2.1
  have hc := i2.2.1
  unfold v_338 g_338
  rw [n641, n01]
  by_cases c : d 64 2 = 0
  · rw [if_pos c, if_pos c]
    have e : g_294 769 d = mset d 769 0 1 := by
      unfold g_294 f_294
      rw [if_neg (by omega)]
    rw [e]
    exact OPR.fail hi (by decide)
  · rw [if_neg c, if_neg c]
    have hk := i2.2.2.2 (d 64 2 - 1) (by omega) (by omega)
    have ek : ksl (d 64 1) (d 64 2) (d 64 2 - 1) = 66 + 63 * ((d 64 1 + 8 - 1) % 8) := by
      unfold ksl
      rw [show d 64 1 + 8 - d 64 2 + (d 64 2 - 1) = d 64 1 + 8 - 1 by omega]
    rw [ek] at hk
    obtain ⟨u1, u2, u3, u4⟩ := undoC hn hk
    generalize hD : mset (g_3 64 1 d) 778 0 (g_3 64 1 d 64 2) = D
    have Db : ∀ b, ¬ b = 778 → D b = g_3 64 1 d b := fun b hb => by
      rw [← hD]
      funext j
      exact ms_a hb
    have Dd : ∀ b, 64 < b → ¬ b = 778 → D b = d b := fun b x y => by rw [Db b y, u2 b (by omega) (by omega)]
    have D0 : D 778 0 = d 64 2 - 1 := by rw [← hD, ms_e rfl rfl, u4]
    have D7 : D 769 7 = d 64 2 := by rw [Dd 769 (by decide) (by decide), h7]
    obtain ⟨v1, v2⟩ := undo294 (d := D) (by omega)
    obtain ⟨w1, w2, w3, w4, w5⟩ := id v2
    obtain ⟨x1, x2⟩ := undoH (d' := g_294 769 D) i2 (by omega) (fun b x y => by rw [w1 b (by omega) (by omega), Db b (by omega)]) v2 (by rw [D7, h7]) (Dd 771 (by decide) (by decide)) rfl rfl rfl
    refine ⟨⟨x2, x1, i3.fr (fun b hb => by rw [w1 b (by omega) (by omega), Dd b (by omega) (by omega)]), i4.fr ?_ ?_ ?_ ?_⟩, w3, fun _ => ⟨by rw [v1, D0, D7], by rw [v1, D7]; exact inI.of (by omega)⟩, fun r => ⟨r.1.undo (by omega) v2 (by rw [D7, h7]) (Dd 771 (by decide) (by decide)) rfl rfl (by rw [w1 771 (by decide) (by decide), Dd 771 (by decide) (by decide)]) (by rw [w1 772 (by decide) (by decide), Dd 772 (by decide) (by decide)]) (by rw [w1 775 (by decide) (by decide), Dd 775 (by decide) (by decide)]), r.2.of (by rw [w1 576 (by decide) (by decide), Dd 576 (by decide) (by decide)]) (by rw [w2 11 (by decide) (by decide), Dd 769 (by decide) (by decide)]) (by rw [w2 12 (by decide) (by decide), Dd 769 (by decide) (by decide)])⟩⟩
    · rw [w1 578 (by decide) (by decide), Dd 578 (by decide) (by decide)]
    · rw [w1 579 (by decide) (by decide), Dd 579 (by decide) (by decide)]
    · rw [w2 9 (by decide) (by decide), Dd 769 (by decide) (by decide)]
    · rw [w1 776 (by decide) (by decide), Dd 776 (by decide) (by decide)]
theorem opSave {d : mD} {a : Int} (hi : CI d) : OPV d (g_295 769 a (g_339 0 a d)) (v_339 0 a d) := by
  obtain ⟨i1, i2, i3, i4⟩ := id hi
  unfold v_339 g_339
  rw [n01, show (0 : Int) + 570 = 570 by decide, show (0 : Int) + 571 = 571 by decide, ifR, ifR]
  have v01 : ∀ D, v_176 a 0 1 D = if 0 ≤ a ∧ a < 2 then 1 else 0 := fun D => by
    rw [v176]
    by_cases c : 0 ≤ a ∧ a < 2
    · rw [if_pos c, if_pos (by omega)]
    · rw [if_neg c, if_neg (by omega)]
  by_cases c : 0 ≤ a ∧ a < 2
  · rw [if_pos c, if_pos c, show 570 + (73 + 63 * a) = 643 + 63 * a by omega]
    obtain ⟨-, cf⟩ := i1.copy (a := 643 + 63 * a) (by omega)
    generalize hD : mset (g_59 (643 + 63 * a) 1 d) 571 a 1 = D
    have Dd : ∀ b, ¬ b = 571 → ¬ (643 ≤ b ∧ b ≤ 768) → D b = d b := fun b x y => by
      rw [← hD, ← cf b (by omega)]
      funext j
      exact ms_a x
    have er : g_295 769 a D = lp_295_29 769 a (3116 - 0 : Int).toNat 0 (mset D 769 0 0) := by
      unfold g_295
      rw [v01, if_pos c, if_neg (by decide)]
    have sw := save295 (a := a) (d := mset D 769 0 0)
    rw [← er] at sw
    obtain ⟨w1, w2, w3, w4, w5⟩ := id sw
    have m9 : ∀ b, ¬ b = 769 → mset D 769 0 0 b = D b := fun b hb => by
      funext j
      exact ms_a hb
    have sr := saveH (a := a) (d' := g_295 769 a D) (by omega) i3 i1 (fun b x y => by rw [w1 b (by omega) (by omega), m9 b (by omega), hD]) sw (by rw [m9 770 (by decide), Dd 770 (by decide) (by decide)]) (by rw [m9 772 (by decide), Dd 772 (by decide) (by decide)]) (by rw [m9 775 (by decide), Dd 775 (by decide) (by decide)]) rfl rfl
    have gd : ∀ b, ¬ b = 571 → ¬ (643 ≤ b ∧ b ≤ 768) → ¬ b = 769 → ¬ b = 772 → ¬ b = 775 → g_295 769 a D b = d b := fun b x y z u t => by rw [w1 b u t, m9 b z, Dd b x y]
    have g9 : ∀ j, ¬ j = 0 → g_295 769 a D 769 j = d 769 j := fun j hj => by rw [w1 769 (by decide) (by decide), ms_i hj, Dd 769 (by decide) (by decide)]
    have g70 : g_295 769 a D 770 = d 770 := gd 770 (by decide) (by decide) (by decide) (by decide) (by decide)
    refine ⟨⟨?_, i2.fr (fun b x y => gd b (by omega) (by omega) (by omega) (by omega) (by omega)) (g9 7 (by decide)) (fun j _ _ => by rw [gd 771 (by decide) (by decide) (by decide) (by decide) (by decide)]), sr, i4.fr ?_ ?_ (g9 9 (by decide)) ?_⟩, ?_, fun r => ⟨r.1.save (a := a) (by omega) sw (by rw [m9 770 (by decide), Dd 770 (by decide) (by decide)]) (by rw [m9 772 (by decide), Dd 772 (by decide) (by decide)]) (by rw [m9 775 (by decide), Dd 775 (by decide) (by decide)]) g70 (g9 7 (by decide)) (gd 771 (by decide) (by decide) (by decide) (by decide) (by decide)) rfl rfl, r.2.of (gd 576 (by decide) (by decide) (by decide) (by decide) (by decide)) (g9 11 (by decide)) (g9 12 (by decide))⟩⟩
    · rw [g70]
      exact i1.fr (fun b x y => gd b (by omega) (by omega) (by omega) (by omega) (by omega))
    · rw [gd 578 (by decide) (by decide) (by decide) (by decide) (by decide)]
    · rw [gd 579 (by decide) (by decide) (by decide) (by decide) (by decide)]
    · rw [gd 776 (by decide) (by decide) (by decide) (by decide) (by decide)]
    · rw [w1 769 (by decide) (by decide), ms_e rfl rfl]
  · rw [if_neg c, if_neg c]
    have e : g_295 769 a d = mset d 769 0 1 := by
      unfold g_295
      rw [v01, if_neg c, if_pos rfl]
    rw [e]
    exact ⟨hi.qr (d1 := d) (fun _ _ _ _ => rfl) QR.s0, ms_e rfl rfl, fun r => QR.s0.rp r rfl rfl (fun _ _ => rfl)⟩
theorem opRest {d : mD} {a : Int} (hi : CI d) : OPV d (g_296 769 a (g_340 0 a d)) (v_340 0 a d) := by
  obtain ⟨i1, i2, i3, i4⟩ := id hi
  unfold v_340 g_340
  rw [n641, n01, show (0 : Int) + 570 = 570 by decide, show (0 : Int) + 571 = 571 by decide, ifR, ifR]
  have v01 : ∀ D, v_176 a 0 1 D = if 0 ≤ a ∧ a < 2 then 1 else 0 := fun D => by
    rw [v176]
    by_cases c : 0 ≤ a ∧ a < 2
    · rw [if_pos c, if_pos (by omega)]
    · rw [if_neg c, if_neg (by omega)]
  by_cases c : 0 ≤ a ∧ a < 2
  · rw [if_pos c, if_pos c, show 570 + (73 + 63 * a) = 643 + 63 * a by omega]
    obtain ⟨s1, s2⟩ := i3 a (by omega)
    rw [s1]
    by_cases c2 : d 775 a = 0
    · rw [if_pos c2, if_pos c2]
      have e : g_296 769 a d = mset d 769 0 2 := by
        unfold g_296
        rw [v01, if_pos c, if_neg (by decide), show (769 : Int) + 6 = 775 by decide, if_pos c2]
      rw [e]
      exact ⟨hi.qr (d1 := d) (fun _ _ _ _ => rfl) QR.s0, ms_e rfl rfl, fun r => QR.s0.rp r rfl rfl (fun _ _ => rfl)⟩
    · rw [if_neg c2, if_neg c2]
      obtain ⟨-, cf⟩ := (s2 c2).copy (a := 1) (by omega)
      generalize hD : g_4 64 (g_59 1 (643 + 63 * a) d) = D
      have Dd : ∀ b, 64 < b → D b = d b := fun b x => by
        rw [← hD, ← cf b (by omega)]
        unfold g_4
        funext j
        exact ms_a (by omega)
      have er : g_296 769 a D = lp_296_42 769 a (3116 - 0 : Int).toNat 0 (mset D 769 0 0) := by
        unfold g_296
        rw [v01, if_pos c, if_neg (by decide), show (769 : Int) + 6 = 775 by decide, Dd 775 (by decide), if_neg c2]
      have sw := rest296 (a := a) (d := mset D 769 0 0)
      rw [← er] at sw
      obtain ⟨w1, w2, w3, w4⟩ := id sw
      have m9 : ∀ b, ¬ b = 769 → mset D 769 0 0 b = D b := fun b hb => by
        funext j
        exact ms_a hb
      obtain ⟨x1, x2⟩ := restH (a := a) (d' := g_296 769 a D) (by omega) i3 c2 i2.1 (fun b x y => by rw [w1 b (by omega) (by omega), m9 b (by omega), hD]) sw (by rw [m9 772 (by decide), Dd 772 (by decide)]) rfl rfl
      have gd : ∀ b, 64 < b → ¬ b = 769 → ¬ b = 770 → g_296 769 a D b = d b := fun b x y z => by rw [w1 b y z, m9 b y, Dd b x]
      refine ⟨⟨x2, x1, i3.fr (fun b hb => gd b (by omega) (by omega) (by omega)), i4.fr ?_ ?_ ?_ ?_⟩, ?_, fun r => ⟨r.1.rest (a := a) (by omega) c2 sw (by rw [m9 772 (by decide), Dd 772 (by decide)]) rfl rfl (gd 772 (by decide) (by decide) (by decide)) (gd 775 (by decide) (by decide) (by decide)), r.2.of (gd 576 (by decide) (by decide) (by decide)) (by rw [w3 11 (by decide), ms_i (by decide), Dd 769 (by decide)]) (by rw [w3 12 (by decide), ms_i (by decide), Dd 769 (by decide)])⟩⟩
      · rw [gd 578 (by decide) (by decide) (by decide)]
      · rw [gd 579 (by decide) (by decide) (by decide)]
      · rw [w3 9 (by decide), ms_i (by decide), Dd 769 (by decide)]
      · rw [gd 776 (by decide) (by decide) (by decide)]
      · rw [w3 0 (by decide), ms_e rfl rfl]
  · rw [if_neg c, if_neg c]
    have e : g_296 769 a d = mset d 769 0 1 := by
      unfold g_296
      rw [v01, if_neg c, if_pos rfl]
    rw [e]
    exact ⟨hi.qr (d1 := d) (fun _ _ _ _ => rfl) QR.s0, ms_e rfl rfl, fun r => QR.s0.rp r rfl rfl (fun _ _ => rfl)⟩
/-! ===== append, truncate, find, addPerson ===== -/
theorem f185n {x1 x2 x3 x4 x5 : Int} {e : mD} : (∀ b, ¬ b = 769 → ¬ b = 776 → g_185 769 x5 (g_185 769 x4 (g_185 769 x3 (g_185 769 x2 (g_185 769 x1 e)))) b = e b) ∧ ∀ j, ¬ j = 9 → g_185 769 x5 (g_185 769 x4 (g_185 769 x3 (g_185 769 x2 (g_185 769 x1 e)))) 769 j = e 769 j := ⟨fun b x y => by rw [f185.1 b x y, f185.1 b x y, f185.1 b x y, f185.1 b x y, f185.1 b x y], fun j x => by rw [f185.2 j x, f185.2 j x, f185.2 j x, f185.2 j x, f185.2 j x]⟩
theorem opApp {d : mD} {x1 x2 x3 x4 x5 : Int} (hi : CI d) : OPR d (g_301 0 x1 x2 x3 x4 x5 778 d) (g_186 769 x1 x2 x3 x4 x5 (g_301 0 x1 x2 x3 x4 x5 778 d)) (v_301 0 x1 x2 x3 x4 x5 778 d) (v_186 769 x1 x2 x3 x4 x5 (g_301 0 x1 x2 x3 x4 x5 778 d)) := by
  obtain ⟨i1, i2, i3, i4⟩ := id hi
  have e9 := i4.2.1
  unfold v_301 g_301
  rw [show (0 : Int) + 578 = 578 by decide]
  by_cases c : (1000 : Int) < d 578 1 + 20
  · rw [if_pos c, if_pos c]
    have e : g_186 769 x1 x2 x3 x4 x5 d = mset d 769 0 1 := by
      unfold g_186
      rw [e9, if_pos c]
    rw [e]
    exact OPR.fail hi (by decide)
  · rw [if_neg c, if_neg c]
    have f87 := (i4.app (a := x1) (b := x2) (c := x3) (x := x4) (y := x5) (by omega)).2.2
    have a2 := (i4.app (a := x1) (b := x2) (c := x3) (x := x4) (y := x5) (by omega)).2.1
    generalize hT : g_87 578 x5 (g_87 578 x4 (g_87 578 x3 (g_87 578 x2 (g_87 578 x1 d)))) = T at *
    generalize hD : mset T 778 0 (T 578 1) = D
    have Db : ∀ b, ¬ b = 778 → D b = T b := fun b hb => by
      rw [← hD]
      funext j
      exact ms_a hb
    have Dd : ∀ b, ¬ b = 578 → ¬ b = 579 → ¬ b = 778 → D b = d b := fun b x y z => by rw [Db b z, f87 b x y]
    have D0 : D 778 0 = T 578 1 := by rw [← hD, ms_e rfl rfl]
    have m9 : ∀ b, ¬ b = 769 → mset D 769 0 0 b = D b := fun b hb => by
      funext j
      exact ms_a hb
    have ht : TextR d (mset D 769 0 0) := i4.fr rfl rfl (by rw [ms_i (by decide), Dd 769 (by decide) (by decide) (by decide)]) (by rw [m9 776 (by decide), Dd 776 (by decide) (by decide) (by decide)])
    have ap := (ht.app (a := x1) (b := x2) (c := x3) (x := x4) (y := x5) (by omega)).1
    rw [hT] at ap
    obtain ⟨f1, f2⟩ := f185n (x1 := x1) (x2 := x2) (x3 := x3) (x4 := x4) (x5 := x5) (e := mset D 769 0 0)
    have D9 : D 769 9 = d 578 1 := by rw [Dd 769 (by decide) (by decide) (by decide), e9]
    have eg : g_186 769 x1 x2 x3 x4 x5 D = g_185 769 x5 (g_185 769 x4 (g_185 769 x3 (g_185 769 x2 (g_185 769 x1 (mset D 769 0 0))))) := by
      unfold g_186
      rw [D9, if_neg c]
    have ev : v_186 769 x1 x2 x3 x4 x5 D = g_185 769 x5 (g_185 769 x4 (g_185 769 x3 (g_185 769 x2 (g_185 769 x1 (mset D 769 0 0))))) 769 9 := by
      unfold v_186
      rw [D9, if_neg c]
    rw [eg, ev]
    generalize g_185 769 x5 (g_185 769 x4 (g_185 769 x3 (g_185 769 x2 (g_185 769 x1 (mset D 769 0 0))))) = Z at *
    have Zd : ∀ b, ¬ b = 578 → ¬ b = 579 → ¬ b = 778 → ¬ b = 769 → ¬ b = 776 → Z b = d b := fun b x y z u t => by rw [f1 b u t, m9 b u, Dd b x y z]
    have ZT : ∀ b, ¬ b = 769 → ¬ b = 776 → ¬ b = 778 → Z b = T b := fun b x y z => by rw [f1 b x y, m9 b x, Db b z]
    refine ⟨⟨?_, i2.fr (fun b x y => Zd b (by omega) (by omega) (by omega) (by omega) (by omega)) ?_ (fun j _ _ => by rw [Zd 771 (by decide) (by decide) (by decide) (by decide) (by decide)]), i3.fr (fun b hb => Zd b (by omega) (by omega) (by omega) (by omega) (by omega)), ap.fr ?_ ?_ rfl rfl⟩, ?_, fun _ => ⟨?_, inI.of (by have := ap.2.1; have := ap.1; omega)⟩, fun r => ⟨r.1.q (fun i _ _ => by rw [Zd 770 (by decide) (by decide) (by decide) (by decide) (by decide)]) (by rw [f2 7 (by decide), ms_i (by decide), Dd 769 (by decide) (by decide) (by decide)]) (fun b hb => Zd b (by omega) (by omega) (by omega) (by omega) (by omega)), r.2.of (Zd 576 (by decide) (by decide) (by decide) (by decide) (by decide)) (by rw [f2 11 (by decide), ms_i (by decide), Dd 769 (by decide) (by decide) (by decide)]) (by rw [f2 12 (by decide), ms_i (by decide), Dd 769 (by decide) (by decide) (by decide)])⟩⟩
    · rw [Zd 770 (by decide) (by decide) (by decide) (by decide) (by decide)]
      exact i1.fr (fun b x y => Zd b (by omega) (by omega) (by omega) (by omega) (by omega))
    · rw [f2 7 (by decide), ms_i (by decide), Dd 769 (by decide) (by decide) (by decide)]
    · rw [ZT 578 (by decide) (by decide) (by decide)]
    · rw [ZT 579 (by decide) (by decide) (by decide)]
    · rw [f2 0 (by decide), ms_e rfl rfl]
    · rw [D0]
      exact ap.2.1.symm
theorem opTrunc {d : mD} {n : Int} (hi : CI d) : OPR d (g_302 0 n 778 d) (g_187 769 n (g_302 0 n 778 d)) (v_302 0 n 778 d) (v_187 769 n (g_302 0 n 778 d)) := by
  obtain ⟨i1, i2, i3, i4⟩ := id hi
  have e9 := i4.2.1
  have hl := i4.1
  unfold v_302 g_302
  rw [show (0 : Int) + 578 = 578 by decide]
  by_cases c : 0 ≤ n ∧ n ≤ d 578 1
  · rw [if_neg (show ¬ n < 0 by omega), if_neg (show ¬ n < 0 by omega), if_neg (show ¬ d 578 1 < n by omega), if_neg (show ¬ d 578 1 < n by omega)]
    generalize hD : mset (mset d 578 1 n) 778 0 n = D
    have Dd : ∀ b, ¬ b = 578 → ¬ b = 778 → D b = d b := fun b x y => by
      rw [← hD]
      funext j
      rw [ms_a y, ms_a x]
    have D0 : D 778 0 = n := by rw [← hD, ms_e rfl rfl]
    have D8 : D 578 1 = n := by rw [← hD, ms_a (by decide), ms_e rfl rfl]
    have D9 : D 769 9 = d 578 1 := by rw [Dd 769 (by decide) (by decide), e9]
    have eg : g_187 769 n D = mset (mset D 769 0 0) 769 9 n := by
      unfold g_187
      rw [v176, D9, if_pos c, if_neg (by decide)]
    have ev : v_187 769 n D = n := by
      unfold v_187
      rw [v176, D9, if_pos c, if_neg (by decide)]
    rw [eg, ev]
    have Zd : ∀ b, ¬ b = 578 → ¬ b = 778 → ¬ b = 769 → mset (mset D 769 0 0) 769 9 n b = d b := fun b x y z => by
      rw [← Dd b x y]
      funext j
      rw [ms_a z, ms_a z]
    refine ⟨⟨?_, i2.fr (fun b x y => Zd b (by omega) (by omega) (by omega)) ?_ (fun j _ _ => by rw [Zd 771 (by decide) (by decide) (by decide)]), i3.fr (fun b hb => Zd b (by omega) (by omega) (by omega)), ?_⟩, ?_, fun _ => ⟨D0, inI.of (by omega)⟩, fun r => ⟨r.1.q (fun i _ _ => by rw [Zd 770 (by decide) (by decide) (by decide)]) (by rw [ms_i (by decide), ms_i (by decide), Dd 769 (by decide) (by decide)]) (fun b hb => Zd b (by omega) (by omega) (by omega)), r.2.of (Zd 576 (by decide) (by decide) (by decide)) (by rw [ms_i (by decide), ms_i (by decide), Dd 769 (by decide) (by decide)]) (by rw [ms_i (by decide), ms_i (by decide), Dd 769 (by decide) (by decide)])⟩⟩
    · rw [Zd 770 (by decide) (by decide) (by decide)]
      exact i1.fr (fun b x y => Zd b (by omega) (by omega) (by omega))
    · rw [ms_i (by decide), ms_i (by decide), Dd 769 (by decide) (by decide)]
    · have z8 : mset (mset D 769 0 0) 769 9 n 578 1 = n := by rw [ms_a (by decide), ms_a (by decide), D8]
      refine ⟨by omega, by rw [z8, ms_e rfl rfl], fun i x y => ?_⟩
      rw [Zd 579 (by decide) (by decide) (by decide), Zd 776 (by decide) (by decide) (by decide)]
      exact i4.2.2 i x (by omega)
    · rw [ms_i (by decide), ms_e rfl rfl]
  · have ev : (if n < 0 then (1 : Int) else if d 578 1 < n then 1 else 0) = 1 := by
      by_cases z : n < 0
      · rw [if_pos z]
      · rw [if_neg z, if_pos (by omega)]
    have eg : ∀ u : mD, (if n < 0 then d else if d 578 1 < n then d else u) = d := fun u => by
      by_cases z : n < 0
      · rw [if_pos z]
      · rw [if_neg z, if_pos (by omega)]
    rw [ev, eg]
    have e : g_187 769 n d = mset d 769 0 1 := by
      unfold g_187
      rw [v176, e9, if_neg c, if_pos rfl]
    rw [e]
    exact OPR.fail hi (by decide)
-- the text goes
theorem CI.noText {d D d2 : mD} (h : CI d) (hD : ∀ b, ¬ b = 578 → ¬ b = 769 → ¬ b = 778 → d2 b = d b) (h8 : d2 578 1 = 0) (h9 : d2 769 9 = 0) (h7 : d2 769 7 = d 769 7) : CI d2 := by
  obtain ⟨i1, i2, i3, i4⟩ := h
  refine ⟨?_, i2.fr (fun b x y => hD b (by omega) (by omega) (by omega)) h7 (fun j _ _ => by rw [hD 771 (by decide) (by decide) (by decide)]), i3.fr (fun b hb => hD b (by omega) (by omega) (by omega)), by omega, by omega, fun i x y => by omega⟩
  rw [hD 770 (by decide) (by decide) (by decide)]
  exact i1.fr (fun b x y => hD b (by omega) (by omega) (by omega))
theorem nameEq {d D : mD} (hi : CI d) (hD : ∀ b, ¬ b = 578 → ¬ b = 778 → D b = d b) : ((v_93 578 0 (d 578 1) d ≤ 0 ∧ v_210 769 D = 0) ∨ (okN (v_93 578 0 (d 578 1) d) ∧ v_210 769 D = nm (v_93 578 0 (d 578 1) d))) ∧ (v_93 578 0 (d 578 1) d ≤ 0 → v_93 578 0 (d 578 1) d = -1) ∧ g_210 769 D = mset D 769 9 0 ∧ v_48 11 (v_93 578 0 (d 578 1) d) (mset d 578 1 0) = V_183 (v_210 769 D) (d 770) ∧ v_36 3 (v_93 578 0 (d 578 1) d) (mset d 578 1 0) = V_184 (v_210 769 D) (d 770) := by
  obtain ⟨i1, i2, i3, i4⟩ := hi
  have ht : TextR d D := i4.fr rfl rfl (by rw [hD 769 (by decide) (by decide)]) (by rw [hD 776 (by decide) (by decide)])
  obtain ⟨c1, c2⟩ := content ht
  have hr : Rel 1 (mset d 578 1 0) (d 770) := (i1.fr (fun b x y => by funext j; exact ms_a (by omega))).2.2.2.2
  have hP := hr.2.2.2.1
  have hO := hr.2.1
  rcases c1 with ⟨c1, c3⟩ | ⟨c1, c3⟩
  · refine ⟨Or.inl ⟨by omega, c3⟩, fun _ => c1, c2, ?_, ?_⟩
    · exact noP (s := 1) hP (by omega) (by omega)
    · exact noO (s := 1) hO (by omega) (by omega)
  · refine ⟨Or.inr ⟨c1, c3⟩, fun z => absurd c1.1 (by omega), c2, ?_, ?_⟩
    · rw [c3]
      exact findP (s := 1) hP c1
    · rw [c3]
      exact findO (s := 1) hO c1
theorem opFind {d : mD} {k : Int} (hi : CI d) : OPR d (g_304 0 k 778 d) (g_211 769 k (g_304 0 k 778 d)) (v_304 0 k 778 d) (v_211 769 k (g_304 0 k 778 d)) := by
  have fin : ∀ (D : mD) (c v vr : Int), (∀ b, ¬ b = 578 → ¬ b = 778 → D b = d b) → D 578 1 = 0 → (c = 0 → D 778 0 = vr ∧ inI vr) → OPR d D (mset (mset D 769 9 0) 769 0 c) c vr := fun D c v vr h1 h2 h3 => by
    refine ⟨hi.noText (D := D) (fun b x y z => ?_) ?_ ?_ ?_, ms_e rfl rfl, h3, fun r => ⟨r.1.q (fun i _ _ => ?_) ?_ (fun b hb => ?_), r.2.of ?_ ?_ ?_⟩⟩
    · rw [← h1 b x z]
      funext j
      rw [ms_a y, ms_a y]
    · rw [ms_a (by decide), ms_a (by decide), h2]
    · rw [ms_i (by decide), ms_e rfl rfl]
    · rw [ms_i (by decide), ms_i (by decide), h1 769 (by decide) (by decide)]
    · rw [ms_a (by decide), ms_a (by decide), h1 770 (by decide) (by decide)]
    · rw [ms_i (by decide), ms_i (by decide), h1 769 (by decide) (by decide)]
    · rw [← h1 b (by omega) (by omega)]
      funext j
      rw [ms_a (by omega), ms_a (by omega)]
    · rw [← h1 576 (by decide) (by decide)]
      funext j
      rw [ms_a (by decide), ms_a (by decide)]
    · rw [ms_i (by decide), ms_i (by decide), h1 769 (by decide) (by decide)]
    · rw [ms_i (by decide), ms_i (by decide), h1 769 (by decide) (by decide)]
  unfold v_304 g_304
  rw [show (0 : Int) + 578 = 578 by decide, n01, show (1 : Int) + 10 = 11 by decide, show (1 : Int) + 2 = 3 by decide]
  have d0 : ∀ b, ¬ b = 578 → ¬ b = 778 → mset d 578 1 0 b = d b := fun b x _ => by
    funext j
    exact ms_a x
  have d1 : ∀ v b, ¬ b = 578 → ¬ b = 778 → mset (mset d 578 1 0) 778 0 v b = d b := fun v b x y => by
    funext j
    rw [ms_a y, ms_a x]
  have key : ∀ D, (∀ b, ¬ b = 578 → ¬ b = 778 → D b = d b) → v_48 11 (v_93 578 0 (d 578 1) d) (mset d 578 1 0) = v_183 769 (v_210 769 D) (g_210 769 D) ∧ v_36 3 (v_93 578 0 (d 578 1) d) (mset d 578 1 0) = v_184 769 (v_210 769 D) (g_210 769 D) ∧ g_210 769 D = mset D 769 9 0 := fun D hD => by
    obtain ⟨-, -, n3, n4, n5⟩ := nameEq hi hD
    have r : g_210 769 D 770 = d 770 := by
      rw [n3, ← hD 770 (by decide) (by decide)]
      funext j
      exact ms_a (by decide)
    rw [m_v_183, m_v_184, r]
    exact ⟨n4, n5, n3⟩
  by_cases ck : k = 0
  · rw [if_pos ck, if_pos ck]
    by_cases c : v_48 11 (v_93 578 0 (d 578 1) d) (mset d 578 1 0) = -1
    · rw [if_pos c, if_pos c]
      obtain ⟨k1, -, k3⟩ := key _ d0
      have e : g_211 769 k (mset d 578 1 0) = mset (mset (mset d 578 1 0) 769 9 0) 769 0 1 := by
        unfold g_211
        rw [if_pos ck, ← k1, if_pos c, k3]
      rw [e]
      exact fin _ 1 0 _ d0 (ms_e rfl rfl) (fun z => absurd z (by decide))
    · rw [if_neg c, if_neg c]
      obtain ⟨k1, -, k3⟩ := key _ (d1 (v_48 11 (v_93 578 0 (d 578 1) d) (mset d 578 1 0)))
      have rg : -100000 ≤ v_48 11 (v_93 578 0 (d 578 1) d) (mset d 578 1 0) ∧ v_48 11 (v_93 578 0 (d 578 1) d) (mset d 578 1 0) ≤ 100000 := by
        have n8 := hi.1.1.1.2.1
        rcases V183_rng (m := v_210 769 (mset d 578 1 0)) n8 with z | z
        · rw [(nameEq hi d0).2.2.2.1, z]; decide
        · rw [(nameEq hi d0).2.2.2.1]; omega
      generalize hv : v_48 11 (v_93 578 0 (d 578 1) d) (mset d 578 1 0) = v at *
      have e : g_211 769 k (mset (mset d 578 1 0) 778 0 v) = mset (mset (mset (mset d 578 1 0) 778 0 v) 769 9 0) 769 0 0 ∧ v_211 769 k (mset (mset d 578 1 0) 778 0 v) = v := by
        unfold g_211 v_211
        rw [if_pos ck, if_pos ck, ← k1, if_neg c, if_neg c, k3]
        exact ⟨rfl, rfl⟩
      rw [e.1, e.2]
      exact fin _ 0 0 _ (d1 v) (by rw [ms_a (by decide), ms_e rfl rfl]) (fun _ => ⟨ms_e rfl rfl, inI.of rg⟩)
  · rw [if_neg ck, if_neg ck]
    by_cases c : v_36 3 (v_93 578 0 (d 578 1) d) (mset d 578 1 0) = -1
    · rw [if_pos c, if_pos c]
      obtain ⟨-, k1, k3⟩ := key _ d0
      have e : g_211 769 k (mset d 578 1 0) = mset (mset (mset d 578 1 0) 769 9 0) 769 0 1 := by
        unfold g_211
        rw [if_neg ck, ← k1, if_pos c, k3]
      rw [e]
      exact fin _ 1 0 _ d0 (ms_e rfl rfl) (fun z => absurd z (by decide))
    · rw [if_neg c, if_neg c]
      obtain ⟨-, k1, k3⟩ := key _ (d1 (v_36 3 (v_93 578 0 (d 578 1) d) (mset d 578 1 0)))
      have rg : -100000 ≤ v_36 3 (v_93 578 0 (d 578 1) d) (mset d 578 1 0) ∧ v_36 3 (v_93 578 0 (d 578 1) d) (mset d 578 1 0) ≤ 100000 := by
        have n7 := hi.1.1.1.1
        rcases V184_rng (m := v_210 769 (mset d 578 1 0)) n7 with z | z
        · rw [(nameEq hi d0).2.2.2.2, z]; decide
        · rw [(nameEq hi d0).2.2.2.2]; omega
      generalize hv : v_36 3 (v_93 578 0 (d 578 1) d) (mset d 578 1 0) = v at *
      have e : g_211 769 k (mset (mset d 578 1 0) 778 0 v) = mset (mset (mset (mset d 578 1 0) 778 0 v) 769 9 0) 769 0 0 ∧ v_211 769 k (mset (mset d 578 1 0) 778 0 v) = v := by
        unfold g_211 v_211
        rw [if_neg ck, if_neg ck, ← k1, if_neg c, if_neg c, k3]
        exact ⟨rfl, rfl⟩
      rw [e.1, e.2]
      exact fin _ 0 0 _ (d1 v) (by rw [ms_a (by decide), ms_e rfl rfl]) (fun _ => ⟨ms_e rfl rfl, inI.of rg⟩)
/-! ===== addPerson ===== -/
theorem f47a {c : Int} {d : mD} (h0 : 0 ≤ d 11 0) : ∀ b, (b < 11 ∨ 63 < b) → g_47 11 c d b = d b := fun b hb => by
  unfold g_47
  split
  · have eh : g_8 (11 + 6 + (1 + 2 * d 11 0)) = fun e => mfl e (19 + 2 * d 11 0) 0 16 := by
      funext e
      unfold g_8 g_300
      rw [show 11 + 6 + (1 + 2 * d 11 0) + 1 = 19 + 2 * d 11 0 by omega]
    rw [eh]
    funext j
    simp (disch := omega) only [ms_a, fl_n]
  · rfl
theorem f47n {c : Int} {d : mD} (h0 : 0 ≤ d 11 0 ∧ d 11 0 < 16) : g_47 11 c d 11 0 = d 11 0 + 1 := by
  unfold g_47
  rw [if_pos h0.2]
  exact ms_e rfl rfl
theorem opAddP {d : mD} (hi : CI d) : OPR d (g_336 0 778 d) (g_290 769 (g_336 0 778 d)) (v_336 0 778 d) (v_290 769 (g_336 0 778 d)) := by
  obtain ⟨i1, i2, i3, i4⟩ := id hi
  obtain ⟨hg, hw, hp, ht, hr⟩ := id i1
  have o8 : d 11 0 = d 770 8 := hr.2.2.2.1.1
  have n8 := hg.1.2.1
  have fin : ∀ (D : mD) (c vr : Int), (∀ b, ¬ b = 578 → ¬ b = 778 → D b = d b) → D 578 1 = 0 → ¬ c = 0 → OPR d D (mset (mset D 769 9 0) 769 0 c) c vr := fun D c vr h1 h2 h3 => by
    refine ⟨hi.noText (D := D) (fun b x y z => ?_) ?_ ?_ ?_, ms_e rfl rfl, fun z => absurd z h3, fun r => ⟨r.1.q (fun i _ _ => ?_) ?_ (fun b hb => ?_), r.2.of ?_ ?_ ?_⟩⟩
    · rw [← h1 b x z]
      funext j
      rw [ms_a y, ms_a y]
    · rw [ms_a (by decide), ms_a (by decide), h2]
    · rw [ms_i (by decide), ms_e rfl rfl]
    · rw [ms_i (by decide), ms_i (by decide), h1 769 (by decide) (by decide)]
    · rw [ms_a (by decide), ms_a (by decide), h1 770 (by decide) (by decide)]
    · rw [ms_i (by decide), ms_i (by decide), h1 769 (by decide) (by decide)]
    · rw [← h1 b (by omega) (by omega)]
      funext j
      rw [ms_a (by omega), ms_a (by omega)]
    · rw [← h1 576 (by decide) (by decide)]
      funext j
      rw [ms_a (by decide), ms_a (by decide)]
    · rw [ms_i (by decide), ms_i (by decide), h1 769 (by decide) (by decide)]
    · rw [ms_i (by decide), ms_i (by decide), h1 769 (by decide) (by decide)]
  have d0 : ∀ b, ¬ b = 578 → ¬ b = 778 → mset d 578 1 0 b = d b := fun b x _ => by
    funext j
    exact ms_a x
  have key : ∀ D : mD, (∀ b, ¬ b = 578 → ¬ b = 778 → D b = d b) → v_183 769 (v_210 769 D) (g_210 769 D) = v_48 11 (v_93 578 0 (d 578 1) d) (mset d 578 1 0) ∧ g_210 769 D = mset D 769 9 0 ∧ ((v_93 578 0 (d 578 1) d = -1 ∧ v_210 769 D = 0) ∨ (okN (v_93 578 0 (d 578 1) d) ∧ v_210 769 D = nm (v_93 578 0 (d 578 1) d) ∧ ¬ v_210 769 D = 0)) := fun D hD => by
    obtain ⟨n1, n2, n3, n4, -⟩ := nameEq hi hD
    have r : g_210 769 D 770 = d 770 := by
      rw [n3, ← hD 770 (by decide) (by decide)]
      funext j
      exact ms_a (by decide)
    refine ⟨by rw [m_v_183, r, n4], n3, ?_⟩
    rcases n1 with ⟨a, b⟩ | ⟨a, b⟩
    · exact Or.inl ⟨n2 a, b⟩
    · refine Or.inr ⟨a, b, ?_⟩
      rw [b]
      obtain ⟨q1, q2, q3, q4, q5, q6, q7, q8⟩ := a
      unfold nm
      omega
  unfold v_336 g_336
  rw [show (0 : Int) + 578 = 578 by decide, n01, n641, show (1 : Int) + 10 = 11 by decide, o8]
  obtain ⟨k1, k2, k3⟩ := key _ d0
  by_cases c1 : v_93 578 0 (d 578 1) d = -1
  · rw [if_pos c1, if_pos c1]
    have z : v_210 769 (mset d 578 1 0) = 0 := by
      rcases k3 with k3 | k3
      · exact k3.2
      · exact absurd k3.1.1 (by omega)
    have e : g_290 769 (mset d 578 1 0) = mset (mset (mset d 578 1 0) 769 9 0) 769 0 1 := by
      unfold g_290
      rw [if_pos z, k2]
    rw [e]
    exact fin _ 1 _ d0 (ms_e rfl rfl) (by decide)
  · rw [if_neg c1, if_neg c1]
    have z : ¬ v_210 769 (mset d 578 1 0) = 0 := by
      rcases k3 with k3 | k3
      · exact absurd k3.1 c1
      · exact k3.2.2
    have e8 : mset d 578 1 0 770 8 = d 770 8 := ms_a (by decide)
    by_cases c2 : d 770 8 < 16
    · rw [if_pos c2, if_pos c2]
      by_cases c3 : v_48 11 (v_93 578 0 (d 578 1) d) (mset d 578 1 0) = -1
      · rw [if_pos c3, if_pos c3]
        clear k1 k2 k3 z e8
        generalize hc : v_93 578 0 (d 578 1) d = c at *
        generalize hdc : mset d 578 1 0 = dc at *
        have ok : OKR 1 dc (d 770) := i1.fr (fun b x y => d0 b (by omega) (by omega))
        have hn : 0 ≤ dc 64 1 ∧ dc 64 1 < 8 := by
          rw [d0 64 (by decide) (by decide)]
          exact i2.1
        obtain ⟨kk, kf, -, -⟩ := keepC hn ok
        have kO : OKR 1 (g_2 64 1 dc) (d 770) := ok.fr (fun b x y => kf b (by omega) (by omega))
        have k11 : g_2 64 1 dc 11 0 = d 770 8 := by rw [kf 11 (by decide) (by omega), d0 11 (by decide) (by decide), o8]
        have f47 := f47a (c := c) (d := g_2 64 1 dc) (by omega)
        have f47v := f47n (c := c) (d := g_2 64 1 dc) (by omega)
        rw [f47v, k11]
        generalize hU : g_47 11 c (g_2 64 1 dc) = U at *
        generalize hDD : mset U 778 0 (d 770 8 + 1 - 1) = D
        have DU : ∀ b, ¬ b = 778 → D b = U b := fun b hb => by
          rw [← hDD]
          funext j
          exact ms_a hb
        have D0 : D 778 0 = d 770 8 := by
          rw [← hDD, ms_e rfl rfl]
          omega
        have Dc : ∀ b, 63 < b → ¬ b = 778 → D b = g_2 64 1 dc b := fun b x y => by rw [DU b y, f47 b (by omega)]
        have Dd : ∀ b, 569 < b → ¬ b = 578 → ¬ b = 778 → D b = d b := fun b x y z => by rw [Dc b (by omega) z, kf b (by omega) (by omega), d0 b y z]
        have D8 : D 578 1 = 0 := by rw [Dc 578 (by decide) (by decide), kf 578 (by decide) (by omega), ← hdc, ms_e rfl rfl]
        -- the reference's text is that of d
        have ht' : TextR d D := i4.fr rfl rfl (by rw [Dd 769 (by decide) (by decide) (by decide)]) (by rw [Dd 776 (by decide) (by decide) (by decide)])
        obtain ⟨t1, t2⟩ := content ht'
        rw [hc] at t1
        have t1 : okN c ∧ v_210 769 D = nm c := by
          rcases t1 with t1 | t1
          · exact absurd t1.1 c1
          · exact t1
        have nz : ¬ nm c = 0 := by
          obtain ⟨q1, q2, q3, q4, q5, q6, q7, q8⟩ := t1.1
          unfold nm
          omega
        have g70 : mset D 769 9 0 770 = d 770 := by
          rw [← Dd 770 (by decide) (by decide) (by decide)]
          funext j
          exact ms_a (by decide)
        have v83 : V_183 (nm c) (d 770) = -1 := by
          rw [← findP (s := 1) ok.2.2.2.2.2.2.2.1 t1.1]
          exact c3
        have kw := keep278 (d := mset (mset D 769 9 0) 769 0 0)
        obtain ⟨w1, w2, w3⟩ := id kw
        have m9 : ∀ b, ¬ b = 769 → mset (mset D 769 9 0) 769 0 0 b = D b := fun b hb => by
          funext j
          rw [ms_a hb, ms_a hb]
        have r70 : g_278 769 (mset (mset D 769 9 0) 769 0 0) 770 = d 770 := by rw [w1 770 (by decide) (by decide), m9 770 (by decide), Dd 770 (by decide) (by decide) (by decide)]
        obtain ⟨a1, a2, a3, a4, a5⟩ := addP (s := 1) (c := c) hg hw kO.2.2.2.2 c2 t1.1
        have gp := addPX (c := nm c) hg c2 hp
        have a3 : Rel 1 U (W_182 (nm c) (d 770)) := by rw [← hU]; exact a3
        have n16 : ¬ d 770 8 = 16 := by omega
        have e : g_290 769 D = rset (g_278 769 (mset (mset D 769 9 0) 769 0 0)) (W_182 (nm c) (d 770)) ∧ v_290 769 D = d 770 8 := by
          unfold g_290 v_290
          rw [t1.2, if_neg nz, if_neg nz, show (769 : Int) + 1 = 770 by decide, Dd 770 (by decide) (by decide) (by decide), if_neg n16, if_neg n16, t2, m_v_183, g70, if_pos v83, if_pos v83, m_g_182, r70, rset_at, a4]
          exact ⟨rfl, by omega⟩
        rw [e.1, e.2]
        generalize hR : g_278 769 (mset (mset D 769 9 0) 769 0 0) = R at *
        have rn : ∀ b, ¬ b = 770 → rset R (W_182 (nm c) (d 770)) b = R b := fun b hb => rset_ne hb
        have rb : ∀ b, ¬ b = 769 → ¬ b = 770 → ¬ b = 771 → rset R (W_182 (nm c) (d 770)) b = D b := fun b x y z => by rw [rn b y, w1 b x z, m9 b x]
        have hHd : HistRel dc := i2.fr (fun b x y => d0 b (by omega) (by omega)) (by rw [d0 769 (by decide) (by decide)]) (fun j _ _ => by rw [d0 771 (by decide) (by decide)])
        have h70 : dc 770 = d 770 := d0 770 (by decide) (by decide)
        refine ⟨⟨?_, ?_, i3.fr (fun b hb => by rw [rb b (by omega) (by omega) (by omega), Dd b (by omega) (by omega) (by omega)]), ?_⟩, ?_, fun _ => ⟨D0, inI.of (by omega)⟩, fun r => ⟨r.1.keep (by have := i2.2.1; have := i2.2.2.1; omega) kw (by rw [ms_i (by decide), ms_i (by decide), Dd 769 (by decide) (by decide) (by decide)]) (by rw [m9 770 (by decide), Dd 770 (by decide) (by decide) (by decide)]) (by rw [m9 771 (by decide), Dd 771 (by decide) (by decide) (by decide)]) (by rw [rn 769 (by decide)]) (rn 771 (by decide)) (by rw [rb 772 (by decide) (by decide) (by decide), Dd 772 (by decide) (by decide) (by decide)]) (by rw [rb 775 (by decide) (by decide) (by decide), Dd 775 (by decide) (by decide) (by decide)]) (by rw [rset_at]; exact r.1.1.fr (fun u u0 u1 => ⟨a5 _ (by omega) (by omega), a5 _ (by omega) (by omega)⟩)), r.2.of (by rw [rb 576 (by decide) (by decide) (by decide), Dd 576 (by decide) (by decide) (by decide)]) (by rw [rn 769 (by decide), w2 11 (by decide), ms_i (by decide), ms_i (by decide), Dd 769 (by decide) (by decide) (by decide)]) (by rw [rn 769 (by decide), w2 12 (by decide), ms_i (by decide), ms_i (by decide), Dd 769 (by decide) (by decide) (by decide)])⟩⟩
        · rw [rset_at]
          have : OKR 1 U (W_182 (nm c) (d 770)) := ⟨a1, a2, gp, by rw [a5 0 (by decide) (by decide)]; exact ht, a3⟩
          exact this.fr (fun b x y => by rw [rb b (by omega) (by omega) (by omega), DU b (by omega)])
        · refine keepH hHd (by rw [h70]; exact ok) (fun b x y => by rw [rb b (by omega) (by omega) (by omega), Dc b (by omega) (by omega)]) kw ?_ ?_ ?_ ?_ ?_
          · rw [ms_i (by decide), ms_i (by decide), Dd 769 (by decide) (by decide) (by decide), d0 769 (by decide) (by decide)]
          · rw [m9 770 (by decide), Dd 770 (by decide) (by decide) (by decide), h70]
          · rw [m9 771 (by decide), Dd 771 (by decide) (by decide) (by decide), d0 771 (by decide) (by decide)]
          · rw [rn 769 (by decide)]
          · rw [rn 771 (by decide)]
        · have z1 : rset R (W_182 (nm c) (d 770)) 578 1 = 0 := by rw [rb 578 (by decide) (by decide) (by decide), D8]
          have z2 : rset R (W_182 (nm c) (d 770)) 769 9 = 0 := by rw [rn 769 (by decide), w2 9 (by decide), ms_i (by decide), ms_e rfl rfl]
          exact ⟨by omega, by omega, fun i x y => by omega⟩
        · rw [rn 769 (by decide), w2 0 (by decide), ms_e rfl rfl]
      · rw [if_neg c3, if_neg c3]
        have e : g_290 769 (mset d 578 1 0) = mset (mset (mset d 578 1 0) 769 9 0) 769 0 2 := by
          unfold g_290
          rw [if_neg z, show (769 : Int) + 1 = 770 by decide, e8, if_neg (by omega), k1, if_neg c3, k2]
        rw [e]
        exact fin _ 2 _ d0 (ms_e rfl rfl) (by decide)
    · rw [if_neg c2, if_neg c2]
      have e : g_290 769 (mset d 578 1 0) = mset (mset (mset d 578 1 0) 769 9 0) 769 0 2 := by
        unfold g_290
        rw [if_neg z, show (769 : Int) + 1 = 770 by decide, e8, if_pos (by omega), k2]
      rw [e]
      exact fin _ 2 _ d0 (ms_e rfl rfl) (by decide)
