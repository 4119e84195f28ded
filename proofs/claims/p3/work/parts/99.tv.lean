/-! ===== both readers side by side: the rest of an office, the rest of a person ===== -/
theorem bad197 {lo hi : Int} {e : mD} (h : ¬ e 769 13 = 0) : g_197 769 lo hi e = e := by
  unfold g_197 f_197
  rw [if_neg h]
theorem bad195 {e : mD} (h : ¬ e 769 13 = 0) : g_195 769 e = e := by
  unfold g_195
  rw [if_neg h]
theorem BadR.ne {c p : Int} {e : mD} (h : BadR c p e) : ¬ e 769 13 = 0 := by
  rw [h.1]
  decide
theorem Fail.ne {d e : mD} (h : Fail d e) : ¬ e 769 13 = 0 := by
  obtain ⟨c, p, -, -, h⟩ := h
  exact h.ne
theorem FrC.refl {d : mD} : FrC d d := fun _ _ _ => rfl
theorem FrC.trans {a b c : mD} (h : FrC a b) (g : FrC b c) : FrC a c := fun k x y => (g k x y).trans (h k x y)
theorem v2501 {lo hi : Int} {d : mD} : v_25 576 lo hi d = 0 ∨ v_25 576 lo hi d = 1 := by
  unfold v_25
  split
  · split
    · exact Or.inl rfl
    · split
      · exact Or.inl rfl
      · exact Or.inr rfl
  · exact Or.inl rfl
theorem officeTail {d e : mD} (h : Syn d e) (X : mD) : ∃ F, (if v_25 576 1 4 d = 0 then g_25 576 1 4 d else if v_25 576 1 6 (g_25 576 1 4 d) = 0 then g_25 576 1 6 (g_25 576 1 4 d) else if v_25 576 1 20 (g_25 576 1 6 (g_25 576 1 4 d)) = 0 then g_25 576 1 20 (g_25 576 1 6 (g_25 576 1 4 d)) else if v_31 576 (g_25 576 1 20 (g_25 576 1 6 (g_25 576 1 4 d))) = 0 then g_31 576 (g_25 576 1 20 (g_25 576 1 6 (g_25 576 1 4 d))) else X) = F ∧ FrR e (g_195 769 (g_197 769 1 20 (g_197 769 1 6 (g_197 769 1 4 e)))) ∧
    ((F = X ∧ (if v_25 576 1 4 d = 0 then 0 else if v_25 576 1 6 (g_25 576 1 4 d) = 0 then 0 else if v_25 576 1 20 (g_25 576 1 6 (g_25 576 1 4 d)) = 0 then 0 else if v_31 576 (g_25 576 1 20 (g_25 576 1 6 (g_25 576 1 4 d))) = 0 then 0 else 1) = (1 : Int) ∧ Syn (g_31 576 (g_25 576 1 20 (g_25 576 1 6 (g_25 576 1 4 d)))) (g_195 769 (g_197 769 1 20 (g_197 769 1 6 (g_197 769 1 4 e)))) ∧ FrC d (g_31 576 (g_25 576 1 20 (g_25 576 1 6 (g_25 576 1 4 d)))) ∧ (g_25 576 1 4 d 576 4 = v_197 769 1 4 e ∧ 1 ≤ v_197 769 1 4 e ∧ v_197 769 1 4 e ≤ 4) ∧ (g_25 576 1 6 (g_25 576 1 4 d) 576 4 = v_197 769 1 6 (g_197 769 1 4 e) ∧ 1 ≤ v_197 769 1 6 (g_197 769 1 4 e) ∧ v_197 769 1 6 (g_197 769 1 4 e) ≤ 6) ∧ (g_25 576 1 20 (g_25 576 1 6 (g_25 576 1 4 d)) 576 4 = v_197 769 1 20 (g_197 769 1 6 (g_197 769 1 4 e)) ∧ 1 ≤ v_197 769 1 20 (g_197 769 1 6 (g_197 769 1 4 e)) ∧ v_197 769 1 20 (g_197 769 1 6 (g_197 769 1 4 e)) ≤ 20))
    ∨ ((if v_25 576 1 4 d = 0 then 0 else if v_25 576 1 6 (g_25 576 1 4 d) = 0 then 0 else if v_25 576 1 20 (g_25 576 1 6 (g_25 576 1 4 d)) = 0 then 0 else if v_31 576 (g_25 576 1 20 (g_25 576 1 6 (g_25 576 1 4 d))) = 0 then 0 else 1) = (0 : Int) ∧ FrC d F ∧ Fail F (g_195 769 (g_197 769 1 20 (g_197 769 1 6 (g_197 769 1 4 e)))))) := by
  refine ⟨_, rfl, ?_⟩
  obtain ⟨c1, r1, o1⟩ := takeNum (lo := 1) (hi := 4) h
  rcases o1 with ⟨v1, s1, m1, l1, u1⟩ | ⟨v1, f1, -⟩
  · obtain ⟨c2, r2, o2⟩ := takeNum (lo := 1) (hi := 6) s1
    rcases o2 with ⟨v2, s2, m2, l2, u2⟩ | ⟨v2, f2, -⟩
    · obtain ⟨c3, r3, o3⟩ := takeNum (lo := 1) (hi := 20) s2
      rcases o3 with ⟨v3, s3, m3, l3, u3⟩ | ⟨v3, f3, -⟩
      · obtain ⟨-, -, c4, r4, o4, -⟩ := takeSemi s3
        have fr := ((r1.trans r2).trans r3).trans r4
        have fc := ((c1.trans c2).trans c3).trans c4
        rcases o4 with ⟨v4, s4⟩ | ⟨v4, f4⟩
        · simp only [v1, v2, v3, v4, if_neg (by decide : ¬ (1 : Int) = 0)]
          exact ⟨fr, Or.inl ⟨trivial, trivial, s4, fc, ⟨m1, l1, u1⟩, ⟨m2, l2, u2⟩, m3, l3, u3⟩⟩
        · simp only [v1, v2, v3, v4, if_neg (by decide : ¬ (1 : Int) = 0), if_true]
          exact ⟨fr, Or.inr ⟨trivial, fc, f4⟩⟩
      · have b := bad195 f3.ne
        rw [b]
        simp only [v1, v2, v3, if_neg (by decide : ¬ (1 : Int) = 0), if_true]
        exact ⟨(r1.trans r2).trans r3, Or.inr ⟨trivial, (c1.trans c2).trans c3, f3⟩⟩
    · have b := bad197 (lo := 1) (hi := 20) f2.ne
      rw [b, bad195 f2.ne]
      simp only [v1, v2, if_neg (by decide : ¬ (1 : Int) = 0), if_true]
      exact ⟨r1.trans r2, Or.inr ⟨trivial, c1.trans c2, f2⟩⟩
  · rw [bad197 (lo := 1) (hi := 6) f1.ne, bad197 (lo := 1) (hi := 20) f1.ne, bad195 f1.ne]
    simp only [v1, if_true]
    exact ⟨r1, Or.inr ⟨trivial, c1, f1⟩⟩
