/-! ===== contracts of the reference's methods: printed by a program of mine ===== -/
def st_197_28 (x0 x1 x2 : Int) (r28 : Int → mD → Int × mD) (x3 : Int) (d : mD) : Int × mD := if v_191 x0 (d x0 10) d = 0 then (if x3 = 0 then (if (g_188 x0 1 (d x0 15) d) x0 13 = 0 then ((g_188 x0 1 (d x0 15) d) x0 14, g_188 x0 1 (d x0 15) d) else (0, g_188 x0 1 (d x0 15) d)) else if (5 : Int) < x3 then (if (g_188 x0 1 (d x0 15) d) x0 13 = 0 then ((g_188 x0 1 (d x0 15) d) x0 14, g_188 x0 1 (d x0 15) d) else (0, g_188 x0 1 (d x0 15) d)) else if v_176 (d x0 14) x1 x2 d = 0 then (if (g_188 x0 2 (d x0 15) d) x0 13 = 0 then ((g_188 x0 2 (d x0 15) d) x0 14, g_188 x0 2 (d x0 15) d) else (0, g_188 x0 2 (d x0 15) d)) else if d x0 13 = 0 then (d x0 14, d) else (0, d)) else if x3 < 5 then r28 (x3 + 1) (mset (mset d x0 14 (((10 * (d x0 14)) + (d (x0 + 7) (d x0 10))) - 48)) x0 10 ((d x0 10) + 1)) else r28 (x3 + 1) (mset (mset d x0 14 (d x0 14)) x0 10 ((d x0 10) + 1))
def lp_197_28 (x0 x1 x2 : Int) : Nat → Int → mD → Int × mD
  | 0 => st_197_28 x0 x1 x2 (fun _ d => (0, d))
  | n + 1 => st_197_28 x0 x1 x2 (lp_197_28 x0 x1 x2 n)
theorem ls_197_28 {E : mO × tW} {K : tK} {x0 x1 x2 : Int} (hx0 : mdB x0) (p1 : 0 ≤ x1 ∧ x1 ≤ 99999) (p2 : 0 ≤ x2 ∧ x2 ≤ 99999) (N28 : Int) (r28 : Int → mD → Int × mD) (ih28 : ∀ (x3 : Int) (d : mD), Safe d → (0 ≤ x3 ∧ x3 ≤ d x0 10) → (0 ≤ d x0 14 ∧ ((x3 = 0 ∧ d x0 14 ≤ 0) ∨ (x3 = 1 ∧ d x0 14 ≤ 9) ∨ (x3 = 2 ∧ d x0 14 ≤ 99) ∨ (x3 = 3 ∧ d x0 14 ≤ 999) ∨ (x3 = 4 ∧ d x0 14 ≤ 9999) ∨ (5 ≤ x3 ∧ d x0 14 ≤ 99999))) → 0 ≤ 1000 - d x0 10 → 1000 - d x0 10 < N28 → (((0 ≤ (r28 x3 d).1 ∧ (r28 x3 d).1 ≤ x2) ∧ ((r28 x3 d).1 = 0 ∨ x1 ≤ (r28 x3 d).1)) → (∀ b : Int, (b < x0 ∨ x0 < b) → (r28 x3 d).2 b = d b) → (r28 x3 d).2 x0 9 = d x0 9 → (d x0 10 ≤ (r28 x3 d).2 x0 10) → (d x0 13 = 0 ∨ ¬ (r28 x3 d).2 x0 13 = 0) → (¬ (r28 x3 d).2 x0 13 = 0 ∨ (x1 ≤ (r28 x3 d).1 ∧ (r28 x3 d).1 ≤ x2)) → Safe (r28 x3 d).2 → K (.inl (some (0, (r28 x3 d).1))) (r28 x3 d).2) → tRun E 197 (28, [.inr (11, x0), .inl (0, x1), .inl (0, x2), .inl (0, x3)], [], 0, 0, d) K) (x3 : Int) (d : mD) (hS : Safe d) (i0 : 0 ≤ x3 ∧ x3 ≤ d x0 10) (i1 : 0 ≤ d x0 14 ∧ ((x3 = 0 ∧ d x0 14 ≤ 0) ∨ (x3 = 1 ∧ d x0 14 ≤ 9) ∨ (x3 = 2 ∧ d x0 14 ≤ 99) ∨ (x3 = 3 ∧ d x0 14 ≤ 999) ∨ (x3 = 4 ∧ d x0 14 ≤ 9999) ∨ (5 ≤ x3 ∧ d x0 14 ≤ 99999))) (hm : 1000 - d x0 10 ≤ N28) (h : ((0 ≤ (st_197_28 x0 x1 x2 r28 x3 d).1 ∧ (st_197_28 x0 x1 x2 r28 x3 d).1 ≤ x2) ∧ ((st_197_28 x0 x1 x2 r28 x3 d).1 = 0 ∨ x1 ≤ (st_197_28 x0 x1 x2 r28 x3 d).1)) → (∀ b : Int, (b < x0 ∨ x0 < b) → (st_197_28 x0 x1 x2 r28 x3 d).2 b = d b) → (st_197_28 x0 x1 x2 r28 x3 d).2 x0 9 = d x0 9 → (d x0 10 ≤ (st_197_28 x0 x1 x2 r28 x3 d).2 x0 10) → (d x0 13 = 0 ∨ ¬ (st_197_28 x0 x1 x2 r28 x3 d).2 x0 13 = 0) → (¬ (st_197_28 x0 x1 x2 r28 x3 d).2 x0 13 = 0 ∨ (x1 ≤ (st_197_28 x0 x1 x2 r28 x3 d).1 ∧ (st_197_28 x0 x1 x2 r28 x3 d).1 ≤ x2)) → Safe (st_197_28 x0 x1 x2 r28 x3 d).2 → K (.inl (some (0, (st_197_28 x0 x1 x2 r28 x3 d).1))) (st_197_28 x0 x1 x2 r28 x3 d).2) : tRun E 197 (28, [.inr (11, x0), .inl (0, x1), .inl (0, x2), .inl (0, x3)], [], 0, 0, d) K := by
  refine t_197_28 ?_
  have w8 := r_11_f9 hS hx0
  have w9 := r_11_f10 hS hx0
  have q1 := r_11_f10 hS hx0
  refine k_191 hS hx0 (by omega) (fun e1 => ?_)
  refine t_197_36 ?_
  have w8 := r_11_f9 hS hx0
  have w9 := r_11_f10 hS hx0
  refine ⟨m_inR (by omega) (by omega), fun c0 => ?_, fun c0 => ?_⟩
  · refine ⟨m_inR (by omega) (by omega), fun c1 => ?_, fun c1 => ?_⟩
    · have q2 := r_11_f15 hS hx0
      refine k_188 hS hx0 (by omega) (by omega) (fun F1 k1_0 n1_0 n1_1 n1_2 hS1 => ?_)
      refine t_197_109 ?_
      have w8 := r_11_f9 hS1 hx0
      have w9 := r_11_f10 hS1 hx0
      refine t_197_136 ?_
      have w8 := r_11_f9 hS1 hx0
      have w9 := r_11_f10 hS1 hx0
      have q3 := r_11_f13 hS1 hx0
      refine ⟨m_inR (by omega) (by omega), fun c2 => ?_, fun c2 => ?_⟩
      · have q4 := r_11_f14 hS1 hx0
        have y0 : st_197_28 x0 x1 x2 r28 x3 d = ((g_188 x0 1 (d x0 15) d) x0 14, g_188 x0 1 (d x0 15) d) := by simp only [st_197_28, if_pos (show v_191 x0 (d x0 10) d = 0 from c0), if_pos (show x3 = 0 from c1), if_pos (show (g_188 x0 1 (d x0 15) d) x0 13 = 0 from c2)]
        rw [y0] at h
        exact h (show (0 ≤ ((g_188 x0 1 (d x0 15) d) x0 14) ∧ ((g_188 x0 1 (d x0 15) d) x0 14) ≤ x2) ∧ (((g_188 x0 1 (d x0 15) d) x0 14) = 0 ∨ x1 ≤ ((g_188 x0 1 (d x0 15) d) x0 14)) from (by omega)) (show ∀ b : Int, (b < x0 ∨ x0 < b) → (g_188 x0 1 (d x0 15) d) b = d b from fun b hb => F1 b (by omega)) (show (g_188 x0 1 (d x0 15) d) x0 9 = d x0 9 from k1_0) (show d x0 10 ≤ (g_188 x0 1 (d x0 15) d) x0 10 by omega) (show d x0 13 = 0 ∨ ¬ (g_188 x0 1 (d x0 15) d) x0 13 = 0 by omega) (show ¬ (g_188 x0 1 (d x0 15) d) x0 13 = 0 ∨ (x1 ≤ ((g_188 x0 1 (d x0 15) d) x0 14) ∧ ((g_188 x0 1 (d x0 15) d) x0 14) ≤ x2) by omega) hS1
      · have y0 : st_197_28 x0 x1 x2 r28 x3 d = (0, g_188 x0 1 (d x0 15) d) := by simp only [st_197_28, if_pos (show v_191 x0 (d x0 10) d = 0 from c0), if_pos (show x3 = 0 from c1), if_neg (show ¬ (g_188 x0 1 (d x0 15) d) x0 13 = 0 from c2)]
        rw [y0] at h
        exact h (show (0 ≤ ((0 : Int)) ∧ ((0 : Int)) ≤ x2) ∧ (((0 : Int)) = 0 ∨ x1 ≤ ((0 : Int))) from (by omega)) (show ∀ b : Int, (b < x0 ∨ x0 < b) → (g_188 x0 1 (d x0 15) d) b = d b from fun b hb => F1 b (by omega)) (show (g_188 x0 1 (d x0 15) d) x0 9 = d x0 9 from k1_0) (show d x0 10 ≤ (g_188 x0 1 (d x0 15) d) x0 10 by omega) (show d x0 13 = 0 ∨ ¬ (g_188 x0 1 (d x0 15) d) x0 13 = 0 by omega) (show ¬ (g_188 x0 1 (d x0 15) d) x0 13 = 0 ∨ (x1 ≤ ((0 : Int)) ∧ ((0 : Int)) ≤ x2) by omega) hS1
    · refine ⟨⟨m_inR (by omega) (by omega), m_inR (by omega) (by omega)⟩, fun c2 => ?_, fun c2 => ?_⟩
      · have q5 := r_11_f14 hS hx0
        refine ⟨m_inR (by omega) (by omega), m_inR (by omega) (by omega), m_inR (by omega) (by omega), ?_⟩
        refine k_176 hS (m_inR (by omega) (by omega)) (m_inR (by omega) (by omega)) (m_inR (by omega) (by omega)) (fun e2 => ?_)
        refine t_197_124 ?_
        have w8 := r_11_f9 hS hx0
        have w9 := r_11_f10 hS hx0
        refine ⟨m_inR (by omega) (by omega), fun c3 => ?_, fun c3 => ?_⟩
        · refine t_197_136 ?_
          have w8 := r_11_f9 hS hx0
          have w9 := r_11_f10 hS hx0
          have q6 := r_11_f13 hS hx0
          refine ⟨m_inR (by omega) (by omega), fun c4 => ?_, fun c4 => ?_⟩
          · have y0 : st_197_28 x0 x1 x2 r28 x3 d = (d x0 14, d) := by simp only [st_197_28, if_pos (show v_191 x0 (d x0 10) d = 0 from c0), if_neg (show ¬ x3 = 0 from c1), if_neg (show ¬ (5 : Int) < x3 from Int.not_lt.mpr c2), if_neg (show ¬ v_176 (d x0 14) x1 x2 d = 0 from c3), if_pos (show d x0 13 = 0 from c4)]
            rw [y0] at h
            exact h (show (0 ≤ (d x0 14) ∧ (d x0 14) ≤ x2) ∧ ((d x0 14) = 0 ∨ x1 ≤ (d x0 14)) from (by omega)) (show ∀ b : Int, (b < x0 ∨ x0 < b) → d b = d b from fun _ _ => rfl) (show d x0 9 = d x0 9 from rfl) (show d x0 10 ≤ d x0 10 by omega) (show d x0 13 = 0 ∨ ¬ d x0 13 = 0 by omega) (show ¬ d x0 13 = 0 ∨ (x1 ≤ (d x0 14) ∧ (d x0 14) ≤ x2) by omega) hS
          · have y0 : st_197_28 x0 x1 x2 r28 x3 d = (0, d) := by simp only [st_197_28, if_pos (show v_191 x0 (d x0 10) d = 0 from c0), if_neg (show ¬ x3 = 0 from c1), if_neg (show ¬ (5 : Int) < x3 from Int.not_lt.mpr c2), if_neg (show ¬ v_176 (d x0 14) x1 x2 d = 0 from c3), if_neg (show ¬ d x0 13 = 0 from c4)]
            rw [y0] at h
            exact h (show (0 ≤ ((0 : Int)) ∧ ((0 : Int)) ≤ x2) ∧ (((0 : Int)) = 0 ∨ x1 ≤ ((0 : Int))) from (by omega)) (show ∀ b : Int, (b < x0 ∨ x0 < b) → d b = d b from fun _ _ => rfl) (show d x0 9 = d x0 9 from rfl) (show d x0 10 ≤ d x0 10 by omega) (show d x0 13 = 0 ∨ ¬ d x0 13 = 0 by omega) (show ¬ d x0 13 = 0 ∨ (x1 ≤ ((0 : Int)) ∧ ((0 : Int)) ≤ x2) by omega) hS
        · have q7 := r_11_f15 hS hx0
          refine k_188 hS hx0 (by omega) (by omega) (fun F2 k2_0 n2_0 n2_1 n2_2 hS2 => ?_)
          refine t_197_136 ?_
          have w8 := r_11_f9 hS2 hx0
          have w9 := r_11_f10 hS2 hx0
          have q8 := r_11_f13 hS2 hx0
          refine ⟨m_inR (by omega) (by omega), fun c4 => ?_, fun c4 => ?_⟩
          · have q9 := r_11_f14 hS2 hx0
            have y0 : st_197_28 x0 x1 x2 r28 x3 d = ((g_188 x0 2 (d x0 15) d) x0 14, g_188 x0 2 (d x0 15) d) := by simp only [st_197_28, if_pos (show v_191 x0 (d x0 10) d = 0 from c0), if_neg (show ¬ x3 = 0 from c1), if_neg (show ¬ (5 : Int) < x3 from Int.not_lt.mpr c2), if_pos (show v_176 (d x0 14) x1 x2 d = 0 from c3), if_pos (show (g_188 x0 2 (d x0 15) d) x0 13 = 0 from c4)]
            rw [y0] at h
            exact h (show (0 ≤ ((g_188 x0 2 (d x0 15) d) x0 14) ∧ ((g_188 x0 2 (d x0 15) d) x0 14) ≤ x2) ∧ (((g_188 x0 2 (d x0 15) d) x0 14) = 0 ∨ x1 ≤ ((g_188 x0 2 (d x0 15) d) x0 14)) from (by omega)) (show ∀ b : Int, (b < x0 ∨ x0 < b) → (g_188 x0 2 (d x0 15) d) b = d b from fun b hb => F2 b (by omega)) (show (g_188 x0 2 (d x0 15) d) x0 9 = d x0 9 from k2_0) (show d x0 10 ≤ (g_188 x0 2 (d x0 15) d) x0 10 by omega) (show d x0 13 = 0 ∨ ¬ (g_188 x0 2 (d x0 15) d) x0 13 = 0 by omega) (show ¬ (g_188 x0 2 (d x0 15) d) x0 13 = 0 ∨ (x1 ≤ ((g_188 x0 2 (d x0 15) d) x0 14) ∧ ((g_188 x0 2 (d x0 15) d) x0 14) ≤ x2) by omega) hS2
          · have y0 : st_197_28 x0 x1 x2 r28 x3 d = (0, g_188 x0 2 (d x0 15) d) := by simp only [st_197_28, if_pos (show v_191 x0 (d x0 10) d = 0 from c0), if_neg (show ¬ x3 = 0 from c1), if_neg (show ¬ (5 : Int) < x3 from Int.not_lt.mpr c2), if_pos (show v_176 (d x0 14) x1 x2 d = 0 from c3), if_neg (show ¬ (g_188 x0 2 (d x0 15) d) x0 13 = 0 from c4)]
            rw [y0] at h
            exact h (show (0 ≤ ((0 : Int)) ∧ ((0 : Int)) ≤ x2) ∧ (((0 : Int)) = 0 ∨ x1 ≤ ((0 : Int))) from (by omega)) (show ∀ b : Int, (b < x0 ∨ x0 < b) → (g_188 x0 2 (d x0 15) d) b = d b from fun b hb => F2 b (by omega)) (show (g_188 x0 2 (d x0 15) d) x0 9 = d x0 9 from k2_0) (show d x0 10 ≤ (g_188 x0 2 (d x0 15) d) x0 10 by omega) (show d x0 13 = 0 ∨ ¬ (g_188 x0 2 (d x0 15) d) x0 13 = 0 by omega) (show ¬ (g_188 x0 2 (d x0 15) d) x0 13 = 0 ∨ (x1 ≤ ((0 : Int)) ∧ ((0 : Int)) ≤ x2) by omega) hS2
      · have q10 := r_11_f15 hS hx0
        refine k_188 hS hx0 (by omega) (by omega) (fun F3 k3_0 n3_0 n3_1 n3_2 hS3 => ?_)
        refine t_197_109 ?_
        have w8 := r_11_f9 hS3 hx0
        have w9 := r_11_f10 hS3 hx0
        refine t_197_136 ?_
        have w8 := r_11_f9 hS3 hx0
        have w9 := r_11_f10 hS3 hx0
        have q11 := r_11_f13 hS3 hx0
        refine ⟨m_inR (by omega) (by omega), fun c3 => ?_, fun c3 => ?_⟩
        · have q12 := r_11_f14 hS3 hx0
          have y0 : st_197_28 x0 x1 x2 r28 x3 d = ((g_188 x0 1 (d x0 15) d) x0 14, g_188 x0 1 (d x0 15) d) := by simp only [st_197_28, if_pos (show v_191 x0 (d x0 10) d = 0 from c0), if_neg (show ¬ x3 = 0 from c1), if_pos (show (5 : Int) < x3 from c2), if_pos (show (g_188 x0 1 (d x0 15) d) x0 13 = 0 from c3)]
          rw [y0] at h
          exact h (show (0 ≤ ((g_188 x0 1 (d x0 15) d) x0 14) ∧ ((g_188 x0 1 (d x0 15) d) x0 14) ≤ x2) ∧ (((g_188 x0 1 (d x0 15) d) x0 14) = 0 ∨ x1 ≤ ((g_188 x0 1 (d x0 15) d) x0 14)) from (by omega)) (show ∀ b : Int, (b < x0 ∨ x0 < b) → (g_188 x0 1 (d x0 15) d) b = d b from fun b hb => F3 b (by omega)) (show (g_188 x0 1 (d x0 15) d) x0 9 = d x0 9 from k3_0) (show d x0 10 ≤ (g_188 x0 1 (d x0 15) d) x0 10 by omega) (show d x0 13 = 0 ∨ ¬ (g_188 x0 1 (d x0 15) d) x0 13 = 0 by omega) (show ¬ (g_188 x0 1 (d x0 15) d) x0 13 = 0 ∨ (x1 ≤ ((g_188 x0 1 (d x0 15) d) x0 14) ∧ ((g_188 x0 1 (d x0 15) d) x0 14) ≤ x2) by omega) hS3
        · have y0 : st_197_28 x0 x1 x2 r28 x3 d = (0, g_188 x0 1 (d x0 15) d) := by simp only [st_197_28, if_pos (show v_191 x0 (d x0 10) d = 0 from c0), if_neg (show ¬ x3 = 0 from c1), if_pos (show (5 : Int) < x3 from c2), if_neg (show ¬ (g_188 x0 1 (d x0 15) d) x0 13 = 0 from c3)]
          rw [y0] at h
          exact h (show (0 ≤ ((0 : Int)) ∧ ((0 : Int)) ≤ x2) ∧ (((0 : Int)) = 0 ∨ x1 ≤ ((0 : Int))) from (by omega)) (show ∀ b : Int, (b < x0 ∨ x0 < b) → (g_188 x0 1 (d x0 15) d) b = d b from fun b hb => F3 b (by omega)) (show (g_188 x0 1 (d x0 15) d) x0 9 = d x0 9 from k3_0) (show d x0 10 ≤ (g_188 x0 1 (d x0 15) d) x0 10 by omega) (show d x0 13 = 0 ∨ ¬ (g_188 x0 1 (d x0 15) d) x0 13 = 0 by omega) (show ¬ (g_188 x0 1 (d x0 15) d) x0 13 = 0 ∨ (x1 ≤ ((0 : Int)) ∧ ((0 : Int)) ≤ x2) by omega) hS3
  · refine ⟨⟨m_inR (by omega) (by omega), m_inR (by omega) (by omega)⟩, fun c1 => ?_, fun c1 => ?_⟩
    · have q13 := r_11_f14 hS hx0
      have hS4 : Safe (mset d x0 14 (d x0 14)) := s_11_f14 hS hx0 (by omega)
      rw [mset_ni (d := d) (a := x0) (i := (14 : Int)) (v := d x0 14) (b := x0) (j := (10 : Int)) (by omega)]
      have hS5 : Safe (mset (mset d x0 14 (d x0 14)) x0 10 ((d x0 10) + 1)) := s_11_f10 hS4 hx0 (by omega)
      have q14 : (mset (mset d x0 14 (d x0 14)) x0 10 ((d x0 10) + 1)) x0 10 = (d x0 10) + 1 := mset_eq
      have q15 : (mset (mset d x0 14 (d x0 14)) x0 10 ((d x0 10) + 1)) x0 14 = d x0 14 := (mset_ni (by omega)).trans (mset_eq)
      refine ih28 (x3 + 1)  (mset (mset d x0 14 (d x0 14)) x0 10 ((d x0 10) + 1)) hS5 (by omega) (by omega) (by omega) (by omega) ?_
      intro e F k0 n0 n1 n2 hS_
      have q16 : (mset (mset d x0 14 (d x0 14)) x0 10 ((d x0 10) + 1)) x0 13 = d x0 13 := (mset_ni (by omega)).trans (mset_ni (by omega))
      have y0 : st_197_28 x0 x1 x2 r28 x3 d = r28 (x3 + 1) (mset (mset d x0 14 (d x0 14)) x0 10 ((d x0 10) + 1)) := by simp only [st_197_28, if_neg (show ¬ v_191 x0 (d x0 10) d = 0 from c0), if_neg (show ¬ x3 < 5 from Int.not_lt.mpr c1)]
      rw [y0] at h
      exact h e (fun b hb => (F b hb).trans ((show ∀ b : Int, (b < x0 ∨ x0 < b) → (mset (mset d x0 14 (d x0 14)) x0 10 ((d x0 10) + 1)) b = d b from fun b hb => (mset_ne (by omega)).trans (mset_ne (by omega))) b hb)) (k0.trans ((mset_ni (by omega)).trans (mset_ni (by omega)))) (by omega) (by omega) (by omega) hS_
    · have q17 := r_11_f14 hS hx0
      have q18 := r_11_7 hS hx0 (d x0 10)
      refine ⟨by omega, ?_⟩
      have hS6 : Safe (mset d x0 14 (((10 * (d x0 14)) + (d (x0 + 7) (d x0 10))) - 48)) := s_11_f14 hS hx0 (by omega)
      rw [mset_ni (d := d) (a := x0) (i := (14 : Int)) (v := ((10 * (d x0 14)) + (d (x0 + 7) (d x0 10))) - 48) (b := x0) (j := (10 : Int)) (by omega)]
      have hS7 : Safe (mset (mset d x0 14 (((10 * (d x0 14)) + (d (x0 + 7) (d x0 10))) - 48)) x0 10 ((d x0 10) + 1)) := s_11_f10 hS6 hx0 (by omega)
      have q19 : (mset (mset d x0 14 (((10 * (d x0 14)) + (d (x0 + 7) (d x0 10))) - 48)) x0 10 ((d x0 10) + 1)) x0 10 = (d x0 10) + 1 := mset_eq
      have q20 : (mset (mset d x0 14 (((10 * (d x0 14)) + (d (x0 + 7) (d x0 10))) - 48)) x0 10 ((d x0 10) + 1)) x0 14 = ((10 * (d x0 14)) + (d (x0 + 7) (d x0 10))) - 48 := (mset_ni (by omega)).trans (mset_eq)
      refine ih28 (x3 + 1)  (mset (mset d x0 14 (((10 * (d x0 14)) + (d (x0 + 7) (d x0 10))) - 48)) x0 10 ((d x0 10) + 1)) hS7 (by omega) (by omega) (by omega) (by omega) ?_
      intro e F k0 n0 n1 n2 hS_
      have q21 : (mset (mset d x0 14 (((10 * (d x0 14)) + (d (x0 + 7) (d x0 10))) - 48)) x0 10 ((d x0 10) + 1)) x0 13 = d x0 13 := (mset_ni (by omega)).trans (mset_ni (by omega))
      have y0 : st_197_28 x0 x1 x2 r28 x3 d = r28 (x3 + 1) (mset (mset d x0 14 (((10 * (d x0 14)) + (d (x0 + 7) (d x0 10))) - 48)) x0 10 ((d x0 10) + 1)) := by simp only [st_197_28, if_neg (show ¬ v_191 x0 (d x0 10) d = 0 from c0), if_pos (show x3 < 5 from c1)]
      rw [y0] at h
      exact h e (fun b hb => (F b hb).trans ((show ∀ b : Int, (b < x0 ∨ x0 < b) → (mset (mset d x0 14 (((10 * (d x0 14)) + (d (x0 + 7) (d x0 10))) - 48)) x0 10 ((d x0 10) + 1)) b = d b from fun b hb => (mset_ne (by omega)).trans (mset_ne (by omega))) b hb)) (k0.trans ((mset_ni (by omega)).trans (mset_ni (by omega)))) (by omega) (by omega) (by omega) hS_
theorem l_197_28 {E : mO × tW} {K : tK} {x0 x1 x2 : Int} (hx0 : mdB x0) (p1 : 0 ≤ x1 ∧ x1 ≤ 99999) (p2 : 0 ≤ x2 ∧ x2 ≤ 99999) : ∀ (n : Nat) (x3 : Int) (d : mD), Safe d → (0 ≤ x3 ∧ x3 ≤ d x0 10) → (0 ≤ d x0 14 ∧ ((x3 = 0 ∧ d x0 14 ≤ 0) ∨ (x3 = 1 ∧ d x0 14 ≤ 9) ∨ (x3 = 2 ∧ d x0 14 ≤ 99) ∨ (x3 = 3 ∧ d x0 14 ≤ 999) ∨ (x3 = 4 ∧ d x0 14 ≤ 9999) ∨ (5 ≤ x3 ∧ d x0 14 ≤ 99999))) → 1000 - d x0 10 ≤ (n : Int) → (((0 ≤ (lp_197_28 x0 x1 x2 n x3 d).1 ∧ (lp_197_28 x0 x1 x2 n x3 d).1 ≤ x2) ∧ ((lp_197_28 x0 x1 x2 n x3 d).1 = 0 ∨ x1 ≤ (lp_197_28 x0 x1 x2 n x3 d).1)) → (∀ b : Int, (b < x0 ∨ x0 < b) → (lp_197_28 x0 x1 x2 n x3 d).2 b = d b) → (lp_197_28 x0 x1 x2 n x3 d).2 x0 9 = d x0 9 → (d x0 10 ≤ (lp_197_28 x0 x1 x2 n x3 d).2 x0 10) → (d x0 13 = 0 ∨ ¬ (lp_197_28 x0 x1 x2 n x3 d).2 x0 13 = 0) → (¬ (lp_197_28 x0 x1 x2 n x3 d).2 x0 13 = 0 ∨ (x1 ≤ (lp_197_28 x0 x1 x2 n x3 d).1 ∧ (lp_197_28 x0 x1 x2 n x3 d).1 ≤ x2)) → Safe (lp_197_28 x0 x1 x2 n x3 d).2 → K (.inl (some (0, (lp_197_28 x0 x1 x2 n x3 d).1))) (lp_197_28 x0 x1 x2 n x3 d).2) → tRun E 197 (28, [.inr (11, x0), .inl (0, x1), .inl (0, x2), .inl (0, x3)], [], 0, 0, d) K := by
  intro n
  induction n with
  | zero =>
    intro x3  d hS i0 i1 hm  h
    exact ls_197_28 hx0 p1 p2 0 _ (fun _  _ _ _ _ m0 m1 _ => absurd m1 (by omega)) x3  d hS i0 i1 hm  h
  | succ n ih =>
    intro x3  d hS i0 i1 hm  h
    exact ls_197_28 hx0 p1 p2 ((n + 1 : Nat) : Int) _ (fun x3  d hS i0 i1  m0 m1 h => ih x3  d hS i0 i1 (by omega)  h) x3  d hS i0 i1 hm  h
def f_197 (x0 x1 x2 : Int) (d : mD) : Int × mD := if d x0 13 = 0 then lp_197_28 x0 x1 x2 (1000 - (mset (mset (g_189 x0 d) x0 15 ((g_189 x0 d) x0 10)) x0 14 0) x0 10 : Int).toNat 0 (mset (mset (g_189 x0 d) x0 15 ((g_189 x0 d) x0 10)) x0 14 0) else (0, d)
def v_197 (x0 x1 x2 : Int) (d : mD) : Int := (f_197 x0 x1 x2 d).1
def g_197 (x0 x1 x2 : Int) (d : mD) : mD := (f_197 x0 x1 x2 d).2
theorem k_197 {E : mO × tW} {K : tK} {d : mD} {x0 x1 x2 : Int} (hS : Safe d) (hx0 : mdB x0) (p1 : 0 ≤ x1 ∧ x1 ≤ 99999) (p2 : 0 ≤ x2 ∧ x2 ≤ 99999) (h : ((0 ≤ (v_197 x0 x1 x2 d) ∧ (v_197 x0 x1 x2 d) ≤ x2) ∧ ((v_197 x0 x1 x2 d) = 0 ∨ x1 ≤ (v_197 x0 x1 x2 d))) → (∀ b : Int, (b < x0 ∨ x0 < b) → (g_197 x0 x1 x2 d) b = d b) → (g_197 x0 x1 x2 d) x0 9 = d x0 9 → (d x0 10 ≤ (g_197 x0 x1 x2 d) x0 10) → (d x0 13 = 0 ∨ ¬ (g_197 x0 x1 x2 d) x0 13 = 0) → (¬ (g_197 x0 x1 x2 d) x0 13 = 0 ∨ (x1 ≤ (v_197 x0 x1 x2 d) ∧ (v_197 x0 x1 x2 d) ≤ x2)) → Safe (g_197 x0 x1 x2 d) → K (.inl (some (0, (v_197 x0 x1 x2 d)))) (g_197 x0 x1 x2 d)) : tCall E 197 [.inr (11, x0), .inl (0, x1), .inl (0, x2)] d K := by
  simp only [v_197, g_197] at h
  refine t_197_0 ?_
  have w8 := r_11_f9 hS hx0
  have w9 := r_11_f10 hS hx0
  have q22 := r_11_f13 hS hx0
  refine ⟨m_inR (by omega) (by omega), fun c0 => ?_, fun c0 => ?_⟩
  · refine k_189 hS hx0 (fun F4 k4_0 n4_0 n4_1 hS8 => ?_)
    refine t_197_13 ?_
    have w8 := r_11_f9 hS8 hx0
    have w9 := r_11_f10 hS8 hx0
    have q23 := r_11_f10 hS8 hx0
    have hS9 : Safe (mset (g_189 x0 d) x0 15 ((g_189 x0 d) x0 10)) := s_11_f15 hS8 hx0 (by omega)
    have hS10 : Safe (mset (mset (g_189 x0 d) x0 15 ((g_189 x0 d) x0 10)) x0 14 0) := s_11_f14 hS9 hx0 (by omega)
    have q24 : (mset (mset (g_189 x0 d) x0 15 ((g_189 x0 d) x0 10)) x0 14 0) x0 10 = (g_189 x0 d) x0 10 := (mset_ni (by omega)).trans (mset_ni (by omega))
    have q25 : (mset (mset (g_189 x0 d) x0 15 ((g_189 x0 d) x0 10)) x0 14 0) x0 14 = 0 := mset_eq
    refine l_197_28 hx0 p1 p2 (1000 - (mset (mset (g_189 x0 d) x0 15 ((g_189 x0 d) x0 10)) x0 14 0) x0 10 : Int).toNat 0  (mset (mset (g_189 x0 d) x0 15 ((g_189 x0 d) x0 10)) x0 14 0) hS10 (by omega) (by omega) (by omega) ?_
    intro e F k0 n0 n1 n2 hS_
    have q26 : (mset (mset (g_189 x0 d) x0 15 ((g_189 x0 d) x0 10)) x0 14 0) x0 13 = (g_189 x0 d) x0 13 := (mset_ni (by omega)).trans (mset_ni (by omega))
    have y0 : f_197 x0 x1 x2 d = lp_197_28 x0 x1 x2 (1000 - (mset (mset (g_189 x0 d) x0 15 ((g_189 x0 d) x0 10)) x0 14 0) x0 10 : Int).toNat 0 (mset (mset (g_189 x0 d) x0 15 ((g_189 x0 d) x0 10)) x0 14 0) := by simp only [f_197, if_pos (show d x0 13 = 0 from c0)]
    rw [y0] at h
    exact h e (fun b hb => (F b hb).trans ((show ∀ b : Int, (b < x0 ∨ x0 < b) → (mset (mset (g_189 x0 d) x0 15 ((g_189 x0 d) x0 10)) x0 14 0) b = d b from fun b hb => (mset_ne (by omega)).trans ((mset_ne (by omega)).trans (F4 b (by omega)))) b hb)) (k0.trans (((mset_ni (by omega)).trans (mset_ni (by omega))).trans (k4_0))) (by omega) (by omega) (by omega) hS_
  · have y0 : f_197 x0 x1 x2 d = (0, d) := by simp only [f_197, if_neg (show ¬ d x0 13 = 0 from c0)]
    rw [y0] at h
    exact h (show (0 ≤ ((0 : Int)) ∧ ((0 : Int)) ≤ x2) ∧ (((0 : Int)) = 0 ∨ x1 ≤ ((0 : Int))) from (by omega)) (show ∀ b : Int, (b < x0 ∨ x0 < b) → d b = d b from fun _ _ => rfl) (show d x0 9 = d x0 9 from rfl) (show d x0 10 ≤ d x0 10 by omega) (show d x0 13 = 0 ∨ ¬ d x0 13 = 0 by omega) (show ¬ d x0 13 = 0 ∨ (x1 ≤ ((0 : Int)) ∧ ((0 : Int)) ≤ x2) by omega) hS
