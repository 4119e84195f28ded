/-! ===== contracts of the methods: printed by a program of mine ===== -/
def g_58 (x0 : Int) (d : mD) : mD := mset (mset (mset (mset (mset (mset (mset d x0 1 0) x0 2 0) (x0 + 2) 0 0) (x0 + 10) 0 0) (x0 + 49) 0 0) (x0 + 57) 0 0) (x0 + 57) 5 0
theorem k_58 {E : mO × tW} {K : tK} {d : mD} {x0 : Int} (hS : Safe d) (hx0 : stB x0) (h : (∀ b : Int, (b < x0 ∨ x0 < b) ∧ (b < x0 + 2 ∨ x0 + 2 < b) ∧ (b < x0 + 10 ∨ x0 + 10 < b) ∧ (b < x0 + 49 ∨ x0 + 49 < b) ∧ (b < x0 + 57 ∨ x0 + 57 < b) → (g_58 x0 d) b = d b) → ((g_58 x0 d) x0 2 = 0) → Safe (g_58 x0 d) → K (.inl none) (g_58 x0 d)) : tCall E 58 [.inr (6, x0)] d K := by
  refine t_58_0 ?_
  have hS1 : Safe (mset d x0 1 0) := s_6_f1 hS hx0 (by omega)
  have hS2 : Safe (mset (mset d x0 1 0) x0 2 0) := s_6_f2 hS1 hx0 (by omega)
  have hS3 : Safe (mset (mset (mset d x0 1 0) x0 2 0) (x0 + 2) 0 0) := s_3_f0 hS2 (stB.of hx0) (by omega)
  have hS4 : Safe (mset (mset (mset (mset d x0 1 0) x0 2 0) (x0 + 2) 0 0) (x0 + 10) 0 0) := s_4_f0 hS3 (stB.pe hx0) (by omega)
  have hS5 : Safe (mset (mset (mset (mset (mset d x0 1 0) x0 2 0) (x0 + 2) 0 0) (x0 + 10) 0 0) (x0 + 49) 0 0) := s_8_f0 hS4 (stB.ti hx0) (by omega)
  have hS6 : Safe (mset (mset (mset (mset (mset (mset d x0 1 0) x0 2 0) (x0 + 2) 0 0) (x0 + 10) 0 0) (x0 + 49) 0 0) (x0 + 57) 0 0) := s_9_f0 hS5 (stB.to hx0) (by omega)
  have hS7 : Safe (mset (mset (mset (mset (mset (mset (mset d x0 1 0) x0 2 0) (x0 + 2) 0 0) (x0 + 10) 0 0) (x0 + 49) 0 0) (x0 + 57) 0 0) (x0 + 57) 5 0) := s_9_f5 hS6 (stB.to hx0) (by omega)
  have q1 : (mset (mset (mset (mset (mset (mset (mset d x0 1 0) x0 2 0) (x0 + 2) 0 0) (x0 + 10) 0 0) (x0 + 49) 0 0) (x0 + 57) 0 0) (x0 + 57) 5 0) x0 2 = 0 := (((((congrFun (mset_ne (by omega)) 2).trans (congrFun (mset_ne (by omega)) 2)).trans (congrFun (mset_ne (by omega)) 2)).trans (congrFun (mset_ne (by omega)) 2)).trans (congrFun (mset_ne (by omega)) 2)).trans (mset_eq)
  have y0 : g_58 x0 d = mset (mset (mset (mset (mset (mset (mset d x0 1 0) x0 2 0) (x0 + 2) 0 0) (x0 + 10) 0 0) (x0 + 49) 0 0) (x0 + 57) 0 0) (x0 + 57) 5 0 := by simp only [g_58]
  rw [y0] at h
  exact h (show ∀ b : Int, (b < x0 ∨ x0 < b) ∧ (b < x0 + 2 ∨ x0 + 2 < b) ∧ (b < x0 + 10 ∨ x0 + 10 < b) ∧ (b < x0 + 49 ∨ x0 + 49 < b) ∧ (b < x0 + 57 ∨ x0 + 57 < b) → (mset (mset (mset (mset (mset (mset (mset d x0 1 0) x0 2 0) (x0 + 2) 0 0) (x0 + 10) 0 0) (x0 + 49) 0 0) (x0 + 57) 0 0) (x0 + 57) 5 0) b = d b from fun b hb => (mset_ne (by omega)).trans ((mset_ne (by omega)).trans ((mset_ne (by omega)).trans ((mset_ne (by omega)).trans ((mset_ne (by omega)).trans ((mset_ne (by omega)).trans (mset_ne (by omega)))))))) (show (mset (mset (mset (mset (mset (mset (mset d x0 1 0) x0 2 0) (x0 + 2) 0 0) (x0 + 10) 0 0) (x0 + 49) 0 0) (x0 + 57) 0 0) (x0 + 57) 5 0) x0 2 = 0 by omega) hS7
def g_59 (x0 x1 : Int) (d : mD) : mD := g_108 (x0 + 57) (x1 + 57) (g_95 (x0 + 49) (x1 + 49) (g_46 (x0 + 10) (x1 + 10) (g_34 (x0 + 2) (x1 + 2) (mset (mset (mcopy d (x1 + 1) 0 (x0 + 1) 0 5) x0 1 (d x1 1)) x0 2 (d x1 2)))))
theorem k_59 {E : mO × tW} {K : tK} {d : mD} {x0 x1 : Int} (hS : Safe d) (hx0 : stB x0) (hx1 : stB x1) (ht : x0 = 580 ∨ d x1 2 ≤ 999) (h : (∀ b : Int, (b < x0 ∨ x0 + 15 < b) ∧ (b < x0 + 18 ∨ x0 + 62 < b) → (g_59 x0 x1 d) b = d b) → (g_59 x0 x1 d) x0 2 = d x1 2 → Safe (g_59 x0 x1 d) → K (.inl none) (g_59 x0 x1 d)) : tCall E 59 [.inr (6, x0), .inr (6, x1)] d K := by
  refine t_59_0 ?_
  have w0 := stB.far hx0 hx1
  have w1 := r_6_f2 hS hx1
  refine ⟨by omega, ?_⟩
  have hS1 : Safe (mcopy d (x1 + 1) 0 (x0 + 1) 0 5) := c_6_1 hS hx1 hx0
  rw [mcopy_ne (show x1 ≠ x0 + 1 by omega)]
  have q1 := r_6_f1 hS hx1
  have hS2 : Safe (mset (mcopy d (x1 + 1) 0 (x0 + 1) 0 5) x0 1 (d x1 1)) := s_6_f1 hS1 hx0 (by omega)
  rw [mset_ni (d := mcopy d (x1 + 1) 0 (x0 + 1) 0 5) (a := x0) (i := (1 : Int)) (v := d x1 1) (b := x1) (j := (2 : Int)) (by omega)]
  rw [mcopy_ne (show x1 ≠ x0 + 1 by omega)]
  have q2 := r_6_f2 hS hx1
  have hS3 : Safe (mset (mset (mcopy d (x1 + 1) 0 (x0 + 1) 0 5) x0 1 (d x1 1)) x0 2 (d x1 2)) := s_6_f2 hS2 hx0 (by omega)
  refine k_34 hS3 (stB.of hx0) (stB.of hx1) (fun F1 hS4 => ?_)
  refine t_59_41 ?_
  refine k_46 hS4 (stB.pe hx0) (stB.pe hx1) (fun F2 hS5 => ?_)
  refine t_59_52 ?_
  refine k_95 hS5 (stB.ti hx0) (stB.ti hx1) (fun F3 hS6 => ?_)
  refine t_59_63 ?_
  refine k_108 hS6 (stB.to hx0) (stB.to hx1) (fun F4 hS7 => ?_)
  refine t_59_74 ?_
  have y0 : g_59 x0 x1 d = g_108 (x0 + 57) (x1 + 57) (g_95 (x0 + 49) (x1 + 49) (g_46 (x0 + 10) (x1 + 10) (g_34 (x0 + 2) (x1 + 2) (mset (mset (mcopy d (x1 + 1) 0 (x0 + 1) 0 5) x0 1 (d x1 1)) x0 2 (d x1 2))))) := by simp only [g_59]
  rw [y0] at h
  exact h (show ∀ b : Int, (b < x0 ∨ x0 + 15 < b) ∧ (b < x0 + 18 ∨ x0 + 62 < b) → (g_108 (x0 + 57) (x1 + 57) (g_95 (x0 + 49) (x1 + 49) (g_46 (x0 + 10) (x1 + 10) (g_34 (x0 + 2) (x1 + 2) (mset (mset (mcopy d (x1 + 1) 0 (x0 + 1) 0 5) x0 1 (d x1 1)) x0 2 (d x1 2)))))) b = d b from fun b hb => (F4 b (by omega)).trans ((F3 b (by omega)).trans ((F2 b (by omega)).trans ((F1 b (by omega)).trans ((mset_ne (by omega)).trans ((mset_ne (by omega)).trans (mcopy_ne (by omega)))))))) (show (g_108 (x0 + 57) (x1 + 57) (g_95 (x0 + 49) (x1 + 49) (g_46 (x0 + 10) (x1 + 10) (g_34 (x0 + 2) (x1 + 2) (mset (mset (mcopy d (x1 + 1) 0 (x0 + 1) 0 5) x0 1 (d x1 1)) x0 2 (d x1 2)))))) x0 2 = d x1 2 from ((((congrFun (F4 x0 (by omega)) 2).trans (congrFun (F3 x0 (by omega)) 2)).trans (congrFun (F2 x0 (by omega)) 2)).trans (congrFun (F1 x0 (by omega)) 2)).trans (mset_eq)) hS7
def st_62_2 (x0 x1 x2 : Int) (r2 : Int → mD → Int) (x3 : Int) (d : mD) : Int := if x3 < d (x0 + 2 + 6) x1 then (if d (x0 + 49 + 1) (v_38 (x0 + 2) x1 x3 d) = x2 then x3 else r2 (x3 + 1) d) else (-1)
def lp_62_2 (x0 x1 x2 : Int) : Nat → Int → mD → Int
  | 0 => st_62_2 x0 x1 x2 (fun _ d => 0)
  | n + 1 => st_62_2 x0 x1 x2 (lp_62_2 x0 x1 x2 n)
theorem ls_62_2 {E : mO × tW} {K : tK} {x0 x1 x2 : Int} (hx0 : stB x0) (p1 : 0 ≤ x1 ∧ x1 ≤ 5) (p2 : -2147483648 ≤ x2 ∧ x2 ≤ 2147483647) (N2 : Int) (r2 : Int → mD → Int) (ih2 : ∀ (x3 : Int) (d : mD), Safe d → (0 ≤ x3 ∧ x3 ≤ 16) → 0 ≤ 16 - x3 → 16 - x3 < N2 → (((-1 ≤ (r2 x3 d) ∧ (r2 x3 d) ≤ 15) ∧ (r2 x3 d) < d (x0 + 2 + 6) x1) → K (.inl (some (0, (r2 x3 d)))) d) → tRun E 62 (2, [.inr (6, x0), .inl (0, x1), .inl (0, x2), .inl (0, x3)], [], 0, 0, d) K) (x3 : Int) (d : mD) (hS : Safe d) (i0 : 0 ≤ x3 ∧ x3 ≤ 16) (hm : 16 - x3 ≤ N2) (h : ((-1 ≤ (st_62_2 x0 x1 x2 r2 x3 d) ∧ (st_62_2 x0 x1 x2 r2 x3 d) ≤ 15) ∧ (st_62_2 x0 x1 x2 r2 x3 d) < d (x0 + 2 + 6) x1) → K (.inl (some (0, (st_62_2 x0 x1 x2 r2 x3 d)))) d) : tRun E 62 (2, [.inr (6, x0), .inl (0, x1), .inl (0, x2), .inl (0, x3)], [], 0, 0, d) K := by
  refine t_62_2 ?_
  have w1 := r_3_6 hS (stB.of hx0) x1
  have q1 := r_3_6 hS (stB.of hx0) x1
  refine ⟨by omega, ⟨m_inR (by omega) (by omega), m_inR (by omega) (by omega)⟩, fun c0 => ?_, fun c0 => ?_⟩
  · have y0 : st_62_2 x0 x1 x2 r2 x3 d = (-1) := by simp only [st_62_2, if_neg (show ¬ x3 < d (x0 + 2 + 6) x1 from Int.not_lt.mpr c0)]
    rw [y0] at h
    exact h (show (-1 ≤ ((-1 : Int)) ∧ ((-1 : Int)) ≤ 15) ∧ ((-1 : Int)) < d (x0 + 2 + 6) x1 from (by omega))
  · refine k_38 hS (stB.of hx0) (by omega) (by omega) (fun e1 => ?_)
    refine t_62_31 ?_
    have q2 := r_8_1 hS (stB.ti hx0) (v_38 (x0 + 2) x1 x3 d)
    refine ⟨by omega, ⟨m_inR (by omega) (by omega), m_inR (by omega) (by omega)⟩, fun c1 => ?_, fun c1 => ?_⟩
    · refine ih2 (x3 + 1)  d hS (by omega) (by omega) (by omega) ?_
      intro e
      have y0 : st_62_2 x0 x1 x2 r2 x3 d = r2 (x3 + 1) d := by simp only [st_62_2, if_pos (show x3 < d (x0 + 2 + 6) x1 from c0), if_neg (show ¬ d (x0 + 49 + 1) (v_38 (x0 + 2) x1 x3 d) = x2 from c1)]
      rw [y0] at h
      exact h e
    · have y0 : st_62_2 x0 x1 x2 r2 x3 d = x3 := by simp only [st_62_2, if_pos (show x3 < d (x0 + 2 + 6) x1 from c0), if_pos (show d (x0 + 49 + 1) (v_38 (x0 + 2) x1 x3 d) = x2 from c1)]
      rw [y0] at h
      exact h (show (-1 ≤ x3 ∧ x3 ≤ 15) ∧ x3 < d (x0 + 2 + 6) x1 from (by omega))
theorem l_62_2 {E : mO × tW} {K : tK} {x0 x1 x2 : Int} (hx0 : stB x0) (p1 : 0 ≤ x1 ∧ x1 ≤ 5) (p2 : -2147483648 ≤ x2 ∧ x2 ≤ 2147483647) : ∀ (n : Nat) (x3 : Int) (d : mD), Safe d → (0 ≤ x3 ∧ x3 ≤ 16) → 16 - x3 ≤ (n : Int) → (((-1 ≤ (lp_62_2 x0 x1 x2 n x3 d) ∧ (lp_62_2 x0 x1 x2 n x3 d) ≤ 15) ∧ (lp_62_2 x0 x1 x2 n x3 d) < d (x0 + 2 + 6) x1) → K (.inl (some (0, (lp_62_2 x0 x1 x2 n x3 d)))) d) → tRun E 62 (2, [.inr (6, x0), .inl (0, x1), .inl (0, x2), .inl (0, x3)], [], 0, 0, d) K := by
  intro n
  induction n with
  | zero =>
    intro x3  d hS i0 hm  h
    exact ls_62_2 hx0 p1 p2 0 _ (fun _  _ _ _ m0 m1 _ => absurd m1 (by omega)) x3  d hS i0 hm  h
  | succ n ih =>
    intro x3  d hS i0 hm  h
    exact ls_62_2 hx0 p1 p2 ((n + 1 : Nat) : Int) _ (fun x3  d hS i0  m0 m1 h => ih x3  d hS i0 (by omega)  h) x3  d hS i0 hm  h
def v_62 (x0 x1 x2 : Int) (d : mD) : Int := lp_62_2 x0 x1 x2 (16 - 0 : Int).toNat 0 d
theorem k_62 {E : mO × tW} {K : tK} {d : mD} {x0 x1 x2 : Int} (hS : Safe d) (hx0 : stB x0) (p1 : 0 ≤ x1 ∧ x1 ≤ 5) (p2 : -2147483648 ≤ x2 ∧ x2 ≤ 2147483647) (h : ((-1 ≤ (v_62 x0 x1 x2 d) ∧ (v_62 x0 x1 x2 d) ≤ 15) ∧ (v_62 x0 x1 x2 d) < d (x0 + 2 + 6) x1) → K (.inl (some (0, (v_62 x0 x1 x2 d)))) d) : tCall E 62 [.inr (6, x0), .inl (0, x1), .inl (0, x2)] d K := by
  refine t_62_0 ?_
  have w1 := r_3_6 hS (stB.of hx0) x1
  refine l_62_2 hx0 p1 p2 (16 - 0 : Int).toNat 0  d hS (by omega) (by omega) ?_
  intro e
  have y0 : v_62 x0 x1 x2 d = lp_62_2 x0 x1 x2 (16 - 0 : Int).toNat 0 d := by simp only [v_62]
  rw [y0] at h
  exact h e
def v_60 (x0 x1 x2 : Int) (d : mD) : Int := if d (x0 + 49) 0 < 60 then (if d (x0 + 2 + 5) x2 = 0 then 0 else if d (x0 + 2 + 6) x2 < d (x0 + 2 + 4) x2 then (if v_62 x0 x2 x1 d = (-1) then 1 else 0) else 0) else 0
theorem k_60 {E : mO × tW} {K : tK} {d : mD} {x0 x1 x2 : Int} (hS : Safe d) (hx0 : stB x0) (p1 : -2147483648 ≤ x1 ∧ x1 ≤ 2147483647) (p2 : 0 ≤ x2 ∧ x2 ≤ 5) (h : ((0 ≤ (v_60 x0 x1 x2 d) ∧ (v_60 x0 x1 x2 d) ≤ 1) ∧ ((v_60 x0 x1 x2 d) = 0 ∨ d (x0 + 49) 0 ≤ 59)) → K (.inl (some (0, (v_60 x0 x1 x2 d)))) d) : tCall E 60 [.inr (6, x0), .inl (0, x1), .inl (0, x2)] d K := by
  refine t_60_0 ?_
  have q1 := r_8_f0 hS (stB.ti hx0)
  refine ⟨⟨m_inR (by omega) (by omega), m_inR (by omega) (by omega)⟩, fun c0 => ?_, fun c0 => ?_⟩
  · refine ⟨by omega, ?_⟩
    have y0 : v_60 x0 x1 x2 d = 0 := by simp only [v_60, if_neg (show ¬ d (x0 + 49) 0 < 60 from Int.not_lt.mpr c0)]
    rw [y0] at h
    exact h (show (0 ≤ ((0 : Int)) ∧ ((0 : Int)) ≤ 1) ∧ (((0 : Int)) = 0 ∨ d (x0 + 49) 0 ≤ 59) from (by omega))
  · have q2 := r_3_5 hS (stB.of hx0) x2
    refine ⟨by omega, m_inR (by omega) (by omega), fun c1 => ?_, fun c1 => ?_⟩
    · refine ⟨by omega, ?_⟩
      have y0 : v_60 x0 x1 x2 d = 0 := by simp only [v_60, if_pos (show d (x0 + 49) 0 < 60 from c0), if_pos (show d (x0 + 2 + 5) x2 = 0 from c1)]
      rw [y0] at h
      exact h (show (0 ≤ ((0 : Int)) ∧ ((0 : Int)) ≤ 1) ∧ (((0 : Int)) = 0 ∨ d (x0 + 49) 0 ≤ 59) from (by omega))
    · have q3 := r_3_6 hS (stB.of hx0) x2
      have q4 := r_3_4 hS (stB.of hx0) x2
      refine ⟨by omega, by omega, ⟨m_inR (by omega) (by omega), m_inR (by omega) (by omega)⟩, fun c2 => ?_, fun c2 => ?_⟩
      · refine ⟨by omega, ?_⟩
        have y0 : v_60 x0 x1 x2 d = 0 := by simp only [v_60, if_pos (show d (x0 + 49) 0 < 60 from c0), if_neg (show ¬ d (x0 + 2 + 5) x2 = 0 from c1), if_neg (show ¬ d (x0 + 2 + 6) x2 < d (x0 + 2 + 4) x2 from Int.not_lt.mpr c2)]
        rw [y0] at h
        exact h (show (0 ≤ ((0 : Int)) ∧ ((0 : Int)) ≤ 1) ∧ (((0 : Int)) = 0 ∨ d (x0 + 49) 0 ≤ 59) from (by omega))
      · refine k_62 hS hx0 (by omega) (m_inR (by omega) (by omega)) (fun e1 => ?_)
        refine t_60_51 ?_
        refine ⟨⟨m_inR (by omega) (by omega), m_inR (by omega) (by omega)⟩, fun c3 => ?_, fun c3 => ?_⟩
        · refine ⟨by omega, ?_⟩
          have y0 : v_60 x0 x1 x2 d = 0 := by simp only [v_60, if_pos (show d (x0 + 49) 0 < 60 from c0), if_neg (show ¬ d (x0 + 2 + 5) x2 = 0 from c1), if_pos (show d (x0 + 2 + 6) x2 < d (x0 + 2 + 4) x2 from c2), if_neg (show ¬ v_62 x0 x2 x1 d = (-1) from c3)]
          rw [y0] at h
          exact h (show (0 ≤ ((0 : Int)) ∧ ((0 : Int)) ≤ 1) ∧ (((0 : Int)) = 0 ∨ d (x0 + 49) 0 ≤ 59) from (by omega))
        · refine ⟨by omega, ?_⟩
          have y0 : v_60 x0 x1 x2 d = 1 := by simp only [v_60, if_pos (show d (x0 + 49) 0 < 60 from c0), if_neg (show ¬ d (x0 + 2 + 5) x2 = 0 from c1), if_pos (show d (x0 + 2 + 6) x2 < d (x0 + 2 + 4) x2 from c2), if_pos (show v_62 x0 x2 x1 d = (-1) from c3)]
          rw [y0] at h
          exact h (show (0 ≤ ((1 : Int)) ∧ ((1 : Int)) ≤ 1) ∧ (((1 : Int)) = 0 ∨ d (x0 + 49) 0 ≤ 59) from (by omega))
def v_61 (x0 x1 x2 : Int) (d : mD) : Int := d (x0 + 49) 0
def g_61 (x0 x1 x2 : Int) (d : mD) : mD := g_40 (x0 + 2) x2 (d (x0 + 2 + 6) x2) (d (x0 + 49) 0) (g_96 (x0 + 49) x1 x2 (d x0 2) d)
theorem k_61 {E : mO × tW} {K : tK} {d : mD} {x0 x1 x2 : Int} (hS : Safe d) (hx0 : stB x0) (p1 : 0 ≤ x1 ∧ x1 ≤ 15) (p2 : 0 ≤ x2 ∧ x2 ≤ 5) (hc : d (x0 + 49) 0 ≤ 59) (ht : d x0 2 ≤ 999) (h : (0 ≤ (v_61 x0 x1 x2 d) ∧ (v_61 x0 x1 x2 d) ≤ 59) → (∀ b : Int, (b < x0 + 8 ∨ x0 + 9 < b) ∧ (b < x0 + 49 ∨ x0 + 56 < b) → (g_61 x0 x1 x2 d) b = d b) → Safe (g_61 x0 x1 x2 d) → K (.inl (some (0, (v_61 x0 x1 x2 d)))) (g_61 x0 x1 x2 d)) : tCall E 61 [.inr (6, x0), .inl (0, x1), .inl (0, x2)] d K := by
  refine t_61_0 ?_
  have q1 := r_6_f2 hS hx0
  refine k_96 hS (stB.ti hx0) (by omega) (by omega) (by omega) (fun F1 hS1 => ?_)
  refine t_61_21 ?_
  rw [F1 (x0 + 2 + 6) (by omega)]
  refine ⟨by omega, ?_⟩
  have q2 := r_3_6 hS (stB.of hx0) x2
  have q3 := r_8_f0 hS (stB.ti hx0)
  refine k_40 hS1 (stB.of hx0) (by omega) (m_inR (by omega) (by omega)) (by omega) (fun F2 hS2 => ?_)
  refine t_61_39 ?_
  have y0 : v_61 x0 x1 x2 d = d (x0 + 49) 0 := by simp only [v_61]
  have y1 : g_61 x0 x1 x2 d = g_40 (x0 + 2) x2 (d (x0 + 2 + 6) x2) (d (x0 + 49) 0) (g_96 (x0 + 49) x1 x2 (d x0 2) d) := by simp only [g_61]
  rw [y0] at h
  rw [y1] at h
  exact h (show 0 ≤ (d (x0 + 49) 0) ∧ (d (x0 + 49) 0) ≤ 59 from (by omega)) (show ∀ b : Int, (b < x0 + 8 ∨ x0 + 9 < b) ∧ (b < x0 + 49 ∨ x0 + 56 < b) → (g_40 (x0 + 2) x2 (d (x0 + 2 + 6) x2) (d (x0 + 49) 0) (g_96 (x0 + 49) x1 x2 (d x0 2) d)) b = d b from fun b hb => (F2 b (by omega)).trans (F1 b (by omega))) hS2
def st_65_2 (x0 x1 x2 : Int) (r2 : Int → mD → Int) (x3 : Int) (d : mD) : Int := if x3 < d (x0 + 2 + 6) x1 then (if x2 < d (x0 + 49 + 3) (v_38 (x0 + 2) x1 x3 d) then x3 else r2 (x3 + 1) d) else x3
def lp_65_2 (x0 x1 x2 : Int) : Nat → Int → mD → Int
  | 0 => st_65_2 x0 x1 x2 (fun _ d => 0)
  | n + 1 => st_65_2 x0 x1 x2 (lp_65_2 x0 x1 x2 n)
theorem ls_65_2 {E : mO × tW} {K : tK} {x0 x1 x2 : Int} (hx0 : stB x0) (p1 : 0 ≤ x1 ∧ x1 ≤ 5) (p2 : -2147483648 ≤ x2 ∧ x2 ≤ 2147483647) (N2 : Int) (r2 : Int → mD → Int) (ih2 : ∀ (x3 : Int) (d : mD), Safe d → (0 ≤ x3 ∧ x3 ≤ 16) → 0 ≤ 16 - x3 → 16 - x3 < N2 → ((0 ≤ (r2 x3 d) ∧ (r2 x3 d) ≤ 16) → K (.inl (some (0, (r2 x3 d)))) d) → tRun E 65 (2, [.inr (6, x0), .inl (0, x1), .inl (0, x2), .inl (0, x3)], [], 0, 0, d) K) (x3 : Int) (d : mD) (hS : Safe d) (i0 : 0 ≤ x3 ∧ x3 ≤ 16) (hm : 16 - x3 ≤ N2) (h : (0 ≤ (st_65_2 x0 x1 x2 r2 x3 d) ∧ (st_65_2 x0 x1 x2 r2 x3 d) ≤ 16) → K (.inl (some (0, (st_65_2 x0 x1 x2 r2 x3 d)))) d) : tRun E 65 (2, [.inr (6, x0), .inl (0, x1), .inl (0, x2), .inl (0, x3)], [], 0, 0, d) K := by
  refine t_65_2 ?_
  have q1 := r_3_6 hS (stB.of hx0) x1
  refine ⟨by omega, ⟨m_inR (by omega) (by omega), m_inR (by omega) (by omega)⟩, fun c0 => ?_, fun c0 => ?_⟩
  · have y0 : st_65_2 x0 x1 x2 r2 x3 d = x3 := by simp only [st_65_2, if_neg (show ¬ x3 < d (x0 + 2 + 6) x1 from Int.not_lt.mpr c0)]
    rw [y0] at h
    exact h (show 0 ≤ x3 ∧ x3 ≤ 16 from (by omega))
  · refine k_38 hS (stB.of hx0) (by omega) (by omega) (fun e1 => ?_)
    refine t_65_31 ?_
    have q2 := r_8_3 hS (stB.ti hx0) (v_38 (x0 + 2) x1 x3 d)
    refine ⟨by omega, ⟨m_inR (by omega) (by omega), m_inR (by omega) (by omega)⟩, fun c1 => ?_, fun c1 => ?_⟩
    · have y0 : st_65_2 x0 x1 x2 r2 x3 d = x3 := by simp only [st_65_2, if_pos (show x3 < d (x0 + 2 + 6) x1 from c0), if_pos (show x2 < d (x0 + 49 + 3) (v_38 (x0 + 2) x1 x3 d) from c1)]
      rw [y0] at h
      exact h (show 0 ≤ x3 ∧ x3 ≤ 16 from (by omega))
    · refine ih2 (x3 + 1)  d hS (by omega) (by omega) (by omega) ?_
      intro e
      have y0 : st_65_2 x0 x1 x2 r2 x3 d = r2 (x3 + 1) d := by simp only [st_65_2, if_pos (show x3 < d (x0 + 2 + 6) x1 from c0), if_neg (show ¬ x2 < d (x0 + 49 + 3) (v_38 (x0 + 2) x1 x3 d) from Int.not_lt.mpr c1)]
      rw [y0] at h
      exact h e
theorem l_65_2 {E : mO × tW} {K : tK} {x0 x1 x2 : Int} (hx0 : stB x0) (p1 : 0 ≤ x1 ∧ x1 ≤ 5) (p2 : -2147483648 ≤ x2 ∧ x2 ≤ 2147483647) : ∀ (n : Nat) (x3 : Int) (d : mD), Safe d → (0 ≤ x3 ∧ x3 ≤ 16) → 16 - x3 ≤ (n : Int) → ((0 ≤ (lp_65_2 x0 x1 x2 n x3 d) ∧ (lp_65_2 x0 x1 x2 n x3 d) ≤ 16) → K (.inl (some (0, (lp_65_2 x0 x1 x2 n x3 d)))) d) → tRun E 65 (2, [.inr (6, x0), .inl (0, x1), .inl (0, x2), .inl (0, x3)], [], 0, 0, d) K := by
  intro n
  induction n with
  | zero =>
    intro x3  d hS i0 hm  h
    exact ls_65_2 hx0 p1 p2 0 _ (fun _  _ _ _ m0 m1 _ => absurd m1 (by omega)) x3  d hS i0 hm  h
  | succ n ih =>
    intro x3  d hS i0 hm  h
    exact ls_65_2 hx0 p1 p2 ((n + 1 : Nat) : Int) _ (fun x3  d hS i0  m0 m1 h => ih x3  d hS i0 (by omega)  h) x3  d hS i0 hm  h
def v_65 (x0 x1 x2 : Int) (d : mD) : Int := lp_65_2 x0 x1 x2 (16 - 0 : Int).toNat 0 d
theorem k_65 {E : mO × tW} {K : tK} {d : mD} {x0 x1 x2 : Int} (hS : Safe d) (hx0 : stB x0) (p1 : 0 ≤ x1 ∧ x1 ≤ 5) (p2 : -2147483648 ≤ x2 ∧ x2 ≤ 2147483647) (h : (0 ≤ (v_65 x0 x1 x2 d) ∧ (v_65 x0 x1 x2 d) ≤ 16) → K (.inl (some (0, (v_65 x0 x1 x2 d)))) d) : tCall E 65 [.inr (6, x0), .inl (0, x1), .inl (0, x2)] d K := by
  refine t_65_0 ?_
  refine l_65_2 hx0 p1 p2 (16 - 0 : Int).toNat 0  d hS (by omega) (by omega) ?_
  intro e
  have y0 : v_65 x0 x1 x2 d = lp_65_2 x0 x1 x2 (16 - 0 : Int).toNat 0 d := by simp only [v_65]
  rw [y0] at h
  exact h e
def g_64 (x0 x1 x2 : Int) (d : mD) : mD := if v_62 x0 x1 (d (x0 + 49 + 1) x2) d = (-1) then g_40 (x0 + 2) x1 (v_65 x0 x1 (d (x0 + 49 + 3) x2) d) x2 (mset d (x0 + 49 + 2) x2 x1) else if v_62 x0 x1 (d (x0 + 49 + 1) x2) d < v_65 x0 x1 (d (x0 + 49 + 3) x2) d then g_97 (x0 + 49) x2 2 (d x0 2) (mset d (x0 + 49 + 2) x2 x1) else g_40 (x0 + 2) x1 (v_65 x0 x1 (d (x0 + 49 + 3) x2) d) x2 (g_41 (x0 + 2) x1 (v_62 x0 x1 (d (x0 + 49 + 1) x2) d) (g_97 (x0 + 49) (v_38 (x0 + 2) x1 (v_62 x0 x1 (d (x0 + 49 + 1) x2) d) (mset d (x0 + 49 + 2) x2 x1)) 2 (d x0 2) (mset d (x0 + 49 + 2) x2 x1)))
theorem k_64 {E : mO × tW} {K : tK} {d : mD} {x0 x1 x2 : Int} (hS : Safe d) (hx0 : stB x0) (p1 : 0 ≤ x1 ∧ x1 ≤ 5) (p2 : 0 ≤ x2 ∧ x2 ≤ 59) (h : (∀ b : Int, (b < x0 + 8 ∨ x0 + 9 < b) ∧ (b < x0 + 51 ∨ x0 + 51 < b) ∧ (b < x0 + 53 ∨ x0 + 54 < b) → (g_64 x0 x1 x2 d) b = d b) → Safe (g_64 x0 x1 x2 d) → K (.inl none) (g_64 x0 x1 x2 d)) : tCall E 64 [.inr (6, x0), .inl (0, x1), .inl (0, x2)] d K := by
  refine t_64_0 ?_
  refine ⟨by omega, ?_⟩
  have q1 := r_8_3 hS (stB.ti hx0) x2
  refine k_65 hS hx0 (by omega) (m_inR (by omega) (by omega)) (fun e1 => ?_)
  refine t_64_14 ?_
  refine ⟨by omega, ?_⟩
  have q2 := r_8_1 hS (stB.ti hx0) x2
  refine k_62 hS hx0 (by omega) (m_inR (by omega) (by omega)) (fun e2 => ?_)
  refine t_64_29 ?_
  refine ⟨by omega, ?_⟩
  have hS1 : Safe (mset d (x0 + 49 + 2) x2 x1) := s_8_2 hS (stB.ti hx0) (by omega)
  refine ⟨⟨m_inR (by omega) (by omega), m_inR (by omega) (by omega)⟩, fun c0 => ?_, fun c0 => ?_⟩
  · refine ⟨⟨m_inR (by omega) (by omega), m_inR (by omega) (by omega)⟩, fun c1 => ?_, fun c1 => ?_⟩
    · refine t_64_105 ?_
      refine k_40 hS1 (stB.of hx0) (by omega) (m_inR (by omega) (by omega)) (by omega) (fun F1 hS2 => ?_)
      refine t_64_115 ?_
      have y0 : g_64 x0 x1 x2 d = g_40 (x0 + 2) x1 (v_65 x0 x1 (d (x0 + 49 + 3) x2) d) x2 (mset d (x0 + 49 + 2) x2 x1) := by simp only [g_64, if_pos (show v_62 x0 x1 (d (x0 + 49 + 1) x2) d = (-1) from c0), if_pos (show v_62 x0 x1 (d (x0 + 49 + 1) x2) d = (-1) from c1)]
      rw [y0] at h
      exact h (show ∀ b : Int, (b < x0 + 8 ∨ x0 + 9 < b) ∧ (b < x0 + 51 ∨ x0 + 51 < b) ∧ (b < x0 + 53 ∨ x0 + 54 < b) → (g_40 (x0 + 2) x1 (v_65 x0 x1 (d (x0 + 49 + 3) x2) d) x2 (mset d (x0 + 49 + 2) x2 x1)) b = d b from fun b hb => (F1 b (by omega)).trans (mset_ne (by omega))) hS2
    · exact (show False by omega).elim
  · refine ⟨⟨m_inR (by omega) (by omega), m_inR (by omega) (by omega)⟩, fun c1 => ?_, fun c1 => ?_⟩
    · refine ⟨⟨m_inR (by omega) (by omega), m_inR (by omega) (by omega)⟩, fun c2 => ?_, fun c2 => ?_⟩
      · exact (show False by omega).elim
      · refine k_38 hS1 (stB.of hx0) (by omega) (by omega) (fun e3 => ?_)
        refine t_64_87 ?_
        rw [mset_ne (d := d) (a := x0 + 49 + 2) (i := x2) (v := x1) (b := x0) (by omega)]
        have q3 := r_6_f2 hS hx0
        refine k_97 hS1 (stB.ti hx0) (by omega) (by omega) (by omega) (fun F2 hS3 => ?_)
        refine t_64_95 ?_
        refine k_41 hS3 (stB.of hx0) (by omega) (m_inR (by omega) (by omega)) (fun F3 hS4 => ?_)
        refine t_64_105 ?_
        refine k_40 hS4 (stB.of hx0) (by omega) (m_inR (by omega) (by omega)) (by omega) (fun F4 hS5 => ?_)
        refine t_64_115 ?_
        have y0 : g_64 x0 x1 x2 d = g_40 (x0 + 2) x1 (v_65 x0 x1 (d (x0 + 49 + 3) x2) d) x2 (g_41 (x0 + 2) x1 (v_62 x0 x1 (d (x0 + 49 + 1) x2) d) (g_97 (x0 + 49) (v_38 (x0 + 2) x1 (v_62 x0 x1 (d (x0 + 49 + 1) x2) d) (mset d (x0 + 49 + 2) x2 x1)) 2 (d x0 2) (mset d (x0 + 49 + 2) x2 x1))) := by simp only [g_64, if_neg (show ¬ v_62 x0 x1 (d (x0 + 49 + 1) x2) d = (-1) from c0), if_neg (show ¬ v_62 x0 x1 (d (x0 + 49 + 1) x2) d < v_65 x0 x1 (d (x0 + 49 + 3) x2) d from Int.not_lt.mpr c1), if_neg (show ¬ v_62 x0 x1 (d (x0 + 49 + 1) x2) d = (-1) from c2)]
        rw [y0] at h
        exact h (show ∀ b : Int, (b < x0 + 8 ∨ x0 + 9 < b) ∧ (b < x0 + 51 ∨ x0 + 51 < b) ∧ (b < x0 + 53 ∨ x0 + 54 < b) → (g_40 (x0 + 2) x1 (v_65 x0 x1 (d (x0 + 49 + 3) x2) d) x2 (g_41 (x0 + 2) x1 (v_62 x0 x1 (d (x0 + 49 + 1) x2) d) (g_97 (x0 + 49) (v_38 (x0 + 2) x1 (v_62 x0 x1 (d (x0 + 49 + 1) x2) d) (mset d (x0 + 49 + 2) x2 x1)) 2 (d x0 2) (mset d (x0 + 49 + 2) x2 x1)))) b = d b from fun b hb => (F4 b (by omega)).trans ((F3 b (by omega)).trans ((F2 b (by omega)).trans (mset_ne (by omega))))) hS5
    · rw [mset_ne (d := d) (a := x0 + 49 + 2) (i := x2) (v := x1) (b := x0) (by omega)]
      have q4 := r_6_f2 hS hx0
      refine k_97 hS1 (stB.ti hx0) (by omega) (by omega) (by omega) (fun F5 hS6 => ?_)
      refine t_64_66 ?_
      have y0 : g_64 x0 x1 x2 d = g_97 (x0 + 49) x2 2 (d x0 2) (mset d (x0 + 49 + 2) x2 x1) := by simp only [g_64, if_neg (show ¬ v_62 x0 x1 (d (x0 + 49 + 1) x2) d = (-1) from c0), if_pos (show v_62 x0 x1 (d (x0 + 49 + 1) x2) d < v_65 x0 x1 (d (x0 + 49 + 3) x2) d from c1)]
      rw [y0] at h
      exact h (show ∀ b : Int, (b < x0 + 8 ∨ x0 + 9 < b) ∧ (b < x0 + 51 ∨ x0 + 51 < b) ∧ (b < x0 + 53 ∨ x0 + 54 < b) → (g_97 (x0 + 49) x2 2 (d x0 2) (mset d (x0 + 49 + 2) x2 x1)) b = d b from fun b hb => (F5 b (by omega)).trans (mset_ne (by omega))) hS6
def st_63_2 (x0 x1 x2 : Int) (r2 : Int → mD → mD) (x3 : Int) (d : mD) : mD := if x3 < d (x0 + 2 + 6) x1 then r2 (x3 + 1) (g_64 x0 x2 (v_38 (x0 + 2) x1 x3 d) d) else mset (mset d (x0 + 2 + 6) x1 0) (x0 + 2 + 5) x1 0
def lp_63_2 (x0 x1 x2 : Int) : Nat → Int → mD → mD
  | 0 => st_63_2 x0 x1 x2 (fun _ d => d)
  | n + 1 => st_63_2 x0 x1 x2 (lp_63_2 x0 x1 x2 n)
theorem ls_63_2 {E : mO × tW} {K : tK} {x0 x1 x2 : Int} (hx0 : stB x0) (p1 : 0 ≤ x1 ∧ x1 ≤ 5) (p2 : 0 ≤ x2 ∧ x2 ≤ 5) (N2 : Int) (r2 : Int → mD → mD) (ih2 : ∀ (x3 : Int) (d : mD), Safe d → (0 ≤ x3 ∧ x3 ≤ 16) → 0 ≤ 16 - x3 → 16 - x3 < N2 → ((∀ b : Int, (b < x0 + 7 ∨ x0 + 9 < b) ∧ (b < x0 + 51 ∨ x0 + 51 < b) ∧ (b < x0 + 53 ∨ x0 + 54 < b) → (r2 x3 d) b = d b) → Safe (r2 x3 d) → K (.inl none) (r2 x3 d)) → tRun E 63 (2, [.inr (6, x0), .inl (0, x1), .inl (0, x2), .inl (0, x3)], [], 0, 0, d) K) (x3 : Int) (d : mD) (hS : Safe d) (i0 : 0 ≤ x3 ∧ x3 ≤ 16) (hm : 16 - x3 ≤ N2) (h : (∀ b : Int, (b < x0 + 7 ∨ x0 + 9 < b) ∧ (b < x0 + 51 ∨ x0 + 51 < b) ∧ (b < x0 + 53 ∨ x0 + 54 < b) → (st_63_2 x0 x1 x2 r2 x3 d) b = d b) → Safe (st_63_2 x0 x1 x2 r2 x3 d) → K (.inl none) (st_63_2 x0 x1 x2 r2 x3 d)) : tRun E 63 (2, [.inr (6, x0), .inl (0, x1), .inl (0, x2), .inl (0, x3)], [], 0, 0, d) K := by
  refine t_63_2 ?_
  have q1 := r_3_6 hS (stB.of hx0) x1
  refine ⟨by omega, ⟨m_inR (by omega) (by omega), m_inR (by omega) (by omega)⟩, fun c0 => ?_, fun c0 => ?_⟩
  · refine ⟨by omega, ?_⟩
    have hS1 : Safe (mset d (x0 + 2 + 6) x1 0) := s_3_6 hS (stB.of hx0) (by omega)
    refine ⟨by omega, ?_⟩
    have hS2 : Safe (mset (mset d (x0 + 2 + 6) x1 0) (x0 + 2 + 5) x1 0) := s_3_5 hS1 (stB.of hx0) (by omega)
    have y0 : st_63_2 x0 x1 x2 r2 x3 d = mset (mset d (x0 + 2 + 6) x1 0) (x0 + 2 + 5) x1 0 := by simp only [st_63_2, if_neg (show ¬ x3 < d (x0 + 2 + 6) x1 from Int.not_lt.mpr c0)]
    rw [y0] at h
    exact h (show ∀ b : Int, (b < x0 + 7 ∨ x0 + 9 < b) ∧ (b < x0 + 51 ∨ x0 + 51 < b) ∧ (b < x0 + 53 ∨ x0 + 54 < b) → (mset (mset d (x0 + 2 + 6) x1 0) (x0 + 2 + 5) x1 0) b = d b from fun b hb => (mset_ne (by omega)).trans (mset_ne (by omega))) hS2
  · refine k_38 hS (stB.of hx0) (by omega) (by omega) (fun e1 => ?_)
    refine t_63_26 ?_
    refine k_64 hS hx0 (by omega) (by omega) (fun F1 hS3 => ?_)
    refine t_63_29 ?_
    refine ih2 (x3 + 1)  (g_64 x0 x2 (v_38 (x0 + 2) x1 x3 d) d) hS3 (by omega) (by omega) (by omega) ?_
    intro F hS_
    have y0 : st_63_2 x0 x1 x2 r2 x3 d = r2 (x3 + 1) (g_64 x0 x2 (v_38 (x0 + 2) x1 x3 d) d) := by simp only [st_63_2, if_pos (show x3 < d (x0 + 2 + 6) x1 from c0)]
    rw [y0] at h
    exact h (fun b hb => (F b hb).trans ((show ∀ b : Int, (b < x0 + 7 ∨ x0 + 9 < b) ∧ (b < x0 + 51 ∨ x0 + 51 < b) ∧ (b < x0 + 53 ∨ x0 + 54 < b) → (g_64 x0 x2 (v_38 (x0 + 2) x1 x3 d) d) b = d b from fun b hb => F1 b (by omega)) b hb)) hS_
theorem l_63_2 {E : mO × tW} {K : tK} {x0 x1 x2 : Int} (hx0 : stB x0) (p1 : 0 ≤ x1 ∧ x1 ≤ 5) (p2 : 0 ≤ x2 ∧ x2 ≤ 5) : ∀ (n : Nat) (x3 : Int) (d : mD), Safe d → (0 ≤ x3 ∧ x3 ≤ 16) → 16 - x3 ≤ (n : Int) → ((∀ b : Int, (b < x0 + 7 ∨ x0 + 9 < b) ∧ (b < x0 + 51 ∨ x0 + 51 < b) ∧ (b < x0 + 53 ∨ x0 + 54 < b) → (lp_63_2 x0 x1 x2 n x3 d) b = d b) → Safe (lp_63_2 x0 x1 x2 n x3 d) → K (.inl none) (lp_63_2 x0 x1 x2 n x3 d)) → tRun E 63 (2, [.inr (6, x0), .inl (0, x1), .inl (0, x2), .inl (0, x3)], [], 0, 0, d) K := by
  intro n
  induction n with
  | zero =>
    intro x3  d hS i0 hm  h
    exact ls_63_2 hx0 p1 p2 0 _ (fun _  _ _ _ m0 m1 _ => absurd m1 (by omega)) x3  d hS i0 hm  h
  | succ n ih =>
    intro x3  d hS i0 hm  h
    exact ls_63_2 hx0 p1 p2 ((n + 1 : Nat) : Int) _ (fun x3  d hS i0  m0 m1 h => ih x3  d hS i0 (by omega)  h) x3  d hS i0 hm  h
def g_63 (x0 x1 x2 : Int) (d : mD) : mD := lp_63_2 x0 x1 x2 (16 - 0 : Int).toNat 0 d
theorem k_63 {E : mO × tW} {K : tK} {d : mD} {x0 x1 x2 : Int} (hS : Safe d) (hx0 : stB x0) (p1 : 0 ≤ x1 ∧ x1 ≤ 5) (p2 : 0 ≤ x2 ∧ x2 ≤ 5) (h : (∀ b : Int, (b < x0 + 7 ∨ x0 + 9 < b) ∧ (b < x0 + 51 ∨ x0 + 51 < b) ∧ (b < x0 + 53 ∨ x0 + 54 < b) → (g_63 x0 x1 x2 d) b = d b) → Safe (g_63 x0 x1 x2 d) → K (.inl none) (g_63 x0 x1 x2 d)) : tCall E 63 [.inr (6, x0), .inl (0, x1), .inl (0, x2)] d K := by
  refine t_63_0 ?_
  refine l_63_2 hx0 p1 p2 (16 - 0 : Int).toNat 0  d hS (by omega) (by omega) ?_
  intro F hS_
  have y0 : g_63 x0 x1 x2 d = lp_63_2 x0 x1 x2 (16 - 0 : Int).toNat 0 d := by simp only [g_63]
  rw [y0] at h
  exact h F hS_
def st_66_17 (x0 : Int) (r4 : Int → Int → mD → Int) (r17 : Int → Int → Int → mD → Int) (x1 x2 x3 : Int) (d : mD) : Int := if x3 < d (x0 + 2 + 6) x2 then (if (200 : Int) < v_43 (x0 + 2) x2 x3 (d x0 2) d then (-1) else r17 (mmax x1 (((d x0 2) + (v_43 (x0 + 2) x2 x3 (d x0 2) d)) - (d (x0 + 49 + 3) (v_38 (x0 + 2) x2 x3 d)))) x2 (x3 + 1) d) else r4 x1 (x2 + 1) d
def lp_66_17 (x0 : Int) (r4 : Int → Int → mD → Int) : Nat → Int → Int → Int → mD → Int
  | 0 => st_66_17 x0 r4 (fun _ _ _ d => 0)
  | n + 1 => st_66_17 x0 r4 (lp_66_17 x0 r4 n)
theorem ls_66_17 {E : mO × tW} {K : tK} {x0 : Int} (hx0 : stB x0) (N4 : Int) (r4 : Int → Int → mD → Int) (ih4 : ∀ (x1 x2 : Int) (v3 v4 v5 : tV) (d : mD), Safe d → (0 ≤ x2 ∧ x2 ≤ 6) → (0 ≤ x1 ∧ x1 ≤ 2000) → 0 ≤ 6 - x2 → 6 - x2 < N4 → ((-1 ≤ (r4 x1 x2 d) ∧ (r4 x1 x2 d) ≤ 2000) → K (.inl (some (0, (r4 x1 x2 d)))) d) → tRun E 66 (4, [.inr (6, x0), .inl (0, x1), .inl (0, x2), v3, v4, v5], [], 0, 0, d) K) (N17 : Int) (r17 : Int → Int → Int → mD → Int) (ih17 : ∀ (x1 x2 x3 : Int) (v4 v5 : tV) (d : mD), Safe d → (0 ≤ x2 ∧ x2 ≤ 5) → (0 ≤ x1 ∧ x1 ≤ 2000) → (0 ≤ x3 ∧ x3 ≤ 16) → 6 - x2 ≤ N4 → 0 ≤ 16 - x3 → 16 - x3 < N17 → ((-1 ≤ (r17 x1 x2 x3 d) ∧ (r17 x1 x2 x3 d) ≤ 2000) → K (.inl (some (0, (r17 x1 x2 x3 d)))) d) → tRun E 66 (17, [.inr (6, x0), .inl (0, x1), .inl (0, x2), .inl (0, x3), v4, v5], [], 0, 0, d) K) (x1 x2 x3 : Int) (v4 v5 : tV) (d : mD) (hS : Safe d) (i0 : 0 ≤ x2 ∧ x2 ≤ 5) (i1 : 0 ≤ x1 ∧ x1 ≤ 2000) (i2 : 0 ≤ x3 ∧ x3 ≤ 16) (hm : 16 - x3 ≤ N17) (m4 : 6 - x2 ≤ N4) (h : (-1 ≤ (st_66_17 x0 r4 r17 x1 x2 x3 d) ∧ (st_66_17 x0 r4 r17 x1 x2 x3 d) ≤ 2000) → K (.inl (some (0, (st_66_17 x0 r4 r17 x1 x2 x3 d)))) d) : tRun E 66 (17, [.inr (6, x0), .inl (0, x1), .inl (0, x2), .inl (0, x3), v4, v5], [], 0, 0, d) K := by
  refine t_66_17 ?_
  have q1 := r_3_6 hS (stB.of hx0) x2
  refine ⟨by omega, ⟨m_inR (by omega) (by omega), m_inR (by omega) (by omega)⟩, fun c0 => ?_, fun c0 => ?_⟩
  · refine ih4 x1 (x2 + 1) (.inl (0, x3)) v4 v5 d hS (by omega) (by omega) (by omega) (by omega) ?_
    intro e
    have y0 : st_66_17 x0 r4 r17 x1 x2 x3 d = r4 x1 (x2 + 1) d := by simp only [st_66_17, if_neg (show ¬ x3 < d (x0 + 2 + 6) x2 from Int.not_lt.mpr c0)]
    rw [y0] at h
    exact h e
  · have q2 := r_6_f2 hS hx0
    refine k_43 hS (stB.of hx0) (by omega) (by omega) (by omega) (fun e1 => ?_)
    refine t_66_43 ?_
    refine ⟨⟨m_inR (by omega) (by omega), m_inR (by omega) (by omega)⟩, fun c1 => ?_, fun c1 => ?_⟩
    · refine k_38 hS (stB.of hx0) (by omega) (by omega) (fun e2 => ?_)
      refine t_66_71 ?_
      have q3 := r_8_3 hS (stB.ti hx0) (v_38 (x0 + 2) x2 x3 d)
      refine ⟨by omega, ⟨m_inR (by omega) (by omega), m_inR (by omega) (by omega)⟩, ?_⟩
      have q4 := mmax_r x1 (((d x0 2) + (v_43 (x0 + 2) x2 x3 (d x0 2) d)) - (d (x0 + 49 + 3) (v_38 (x0 + 2) x2 x3 d)))
      refine ih17 (mmax x1 (((d x0 2) + (v_43 (x0 + 2) x2 x3 (d x0 2) d)) - (d (x0 + 49 + 3) (v_38 (x0 + 2) x2 x3 d)))) x2 (x3 + 1) (.inl (0, v_43 (x0 + 2) x2 x3 (d x0 2) d)) (.inl (0, d (x0 + 49 + 3) (v_38 (x0 + 2) x2 x3 d))) d hS (by omega) (by omega) (by omega) (by omega) (by omega) (by omega) ?_
      intro e
      have y0 : st_66_17 x0 r4 r17 x1 x2 x3 d = r17 (mmax x1 (((d x0 2) + (v_43 (x0 + 2) x2 x3 (d x0 2) d)) - (d (x0 + 49 + 3) (v_38 (x0 + 2) x2 x3 d)))) x2 (x3 + 1) d := by simp only [st_66_17, if_pos (show x3 < d (x0 + 2 + 6) x2 from c0), if_neg (show ¬ (200 : Int) < v_43 (x0 + 2) x2 x3 (d x0 2) d from Int.not_lt.mpr c1)]
      rw [y0] at h
      exact h e
    · have y0 : st_66_17 x0 r4 r17 x1 x2 x3 d = (-1) := by simp only [st_66_17, if_pos (show x3 < d (x0 + 2 + 6) x2 from c0), if_pos (show (200 : Int) < v_43 (x0 + 2) x2 x3 (d x0 2) d from c1)]
      rw [y0] at h
      exact h (show -1 ≤ ((-1 : Int)) ∧ ((-1 : Int)) ≤ 2000 from (by omega))
theorem l_66_17 {E : mO × tW} {K : tK} {x0 : Int} (hx0 : stB x0) (N4 : Int) (r4 : Int → Int → mD → Int) (ih4 : ∀ (x1 x2 : Int) (v3 v4 v5 : tV) (d : mD), Safe d → (0 ≤ x2 ∧ x2 ≤ 6) → (0 ≤ x1 ∧ x1 ≤ 2000) → 0 ≤ 6 - x2 → 6 - x2 < N4 → ((-1 ≤ (r4 x1 x2 d) ∧ (r4 x1 x2 d) ≤ 2000) → K (.inl (some (0, (r4 x1 x2 d)))) d) → tRun E 66 (4, [.inr (6, x0), .inl (0, x1), .inl (0, x2), v3, v4, v5], [], 0, 0, d) K) : ∀ (n : Nat) (x1 x2 x3 : Int) (v4 v5 : tV) (d : mD), Safe d → (0 ≤ x2 ∧ x2 ≤ 5) → (0 ≤ x1 ∧ x1 ≤ 2000) → (0 ≤ x3 ∧ x3 ≤ 16) → 16 - x3 ≤ (n : Int) → 6 - x2 ≤ N4 → ((-1 ≤ (lp_66_17 x0 r4 n x1 x2 x3 d) ∧ (lp_66_17 x0 r4 n x1 x2 x3 d) ≤ 2000) → K (.inl (some (0, (lp_66_17 x0 r4 n x1 x2 x3 d)))) d) → tRun E 66 (17, [.inr (6, x0), .inl (0, x1), .inl (0, x2), .inl (0, x3), v4, v5], [], 0, 0, d) K := by
  intro n
  induction n with
  | zero =>
    intro x1 x2 x3 v4 v5 d hS i0 i1 i2 hm m4 h
    exact ls_66_17 hx0 N4 r4 ih4 0 _ (fun _ _ _ _ _ _ _ _ _ _ _ m0 m1 _ => absurd m1 (by omega)) x1 x2 x3 v4 v5 d hS i0 i1 i2 hm m4 h
  | succ n ih =>
    intro x1 x2 x3 v4 v5 d hS i0 i1 i2 hm m4 h
    exact ls_66_17 hx0 N4 r4 ih4 ((n + 1 : Nat) : Int) _ (fun x1 x2 x3 v4 v5 d hS i0 i1 i2 m4 m0 m1 h => ih x1 x2 x3 v4 v5 d hS i0 i1 i2 (by omega) m4 h) x1 x2 x3 v4 v5 d hS i0 i1 i2 hm m4 h
def st_66_4 (x0 : Int) (r4 : Int → Int → mD → Int) (x1 x2 : Int) (d : mD) : Int := if x2 < d (x0 + 2) 0 then lp_66_17 x0 r4 (16 - 0 : Int).toNat x1 x2 0 d else x1
def lp_66_4 (x0 : Int) : Nat → Int → Int → mD → Int
  | 0 => st_66_4 x0 (fun _ _ d => 0)
  | n + 1 => st_66_4 x0 (lp_66_4 x0 n)
theorem ls_66_4 {E : mO × tW} {K : tK} {x0 : Int} (hx0 : stB x0) (N4 : Int) (r4 : Int → Int → mD → Int) (ih4 : ∀ (x1 x2 : Int) (v3 v4 v5 : tV) (d : mD), Safe d → (0 ≤ x2 ∧ x2 ≤ 6) → (0 ≤ x1 ∧ x1 ≤ 2000) → 0 ≤ 6 - x2 → 6 - x2 < N4 → ((-1 ≤ (r4 x1 x2 d) ∧ (r4 x1 x2 d) ≤ 2000) → K (.inl (some (0, (r4 x1 x2 d)))) d) → tRun E 66 (4, [.inr (6, x0), .inl (0, x1), .inl (0, x2), v3, v4, v5], [], 0, 0, d) K) (x1 x2 : Int) (v3 v4 v5 : tV) (d : mD) (hS : Safe d) (i0 : 0 ≤ x2 ∧ x2 ≤ 6) (i1 : 0 ≤ x1 ∧ x1 ≤ 2000) (hm : 6 - x2 ≤ N4) (h : (-1 ≤ (st_66_4 x0 r4 x1 x2 d) ∧ (st_66_4 x0 r4 x1 x2 d) ≤ 2000) → K (.inl (some (0, (st_66_4 x0 r4 x1 x2 d)))) d) : tRun E 66 (4, [.inr (6, x0), .inl (0, x1), .inl (0, x2), v3, v4, v5], [], 0, 0, d) K := by
  refine t_66_4 ?_
  have q5 := r_3_f0 hS (stB.of hx0)
  refine ⟨⟨m_inR (by omega) (by omega), m_inR (by omega) (by omega)⟩, fun c0 => ?_, fun c0 => ?_⟩
  · have y0 : st_66_4 x0 r4 x1 x2 d = x1 := by simp only [st_66_4, if_neg (show ¬ x2 < d (x0 + 2) 0 from Int.not_lt.mpr c0)]
    rw [y0] at h
    exact h (show -1 ≤ x1 ∧ x1 ≤ 2000 from (by omega))
  · refine l_66_17 hx0 N4 r4 ih4 (16 - 0 : Int).toNat x1 x2 0 v4 v5 d hS (by omega) (by omega) (by omega) (by omega) (by omega) ?_
    intro e
    have y0 : st_66_4 x0 r4 x1 x2 d = lp_66_17 x0 r4 (16 - 0 : Int).toNat x1 x2 0 d := by simp only [st_66_4, if_pos (show x2 < d (x0 + 2) 0 from c0)]
    rw [y0] at h
    exact h e
theorem l_66_4 {E : mO × tW} {K : tK} {x0 : Int} (hx0 : stB x0) : ∀ (n : Nat) (x1 x2 : Int) (v3 v4 v5 : tV) (d : mD), Safe d → (0 ≤ x2 ∧ x2 ≤ 6) → (0 ≤ x1 ∧ x1 ≤ 2000) → 6 - x2 ≤ (n : Int) → ((-1 ≤ (lp_66_4 x0 n x1 x2 d) ∧ (lp_66_4 x0 n x1 x2 d) ≤ 2000) → K (.inl (some (0, (lp_66_4 x0 n x1 x2 d)))) d) → tRun E 66 (4, [.inr (6, x0), .inl (0, x1), .inl (0, x2), v3, v4, v5], [], 0, 0, d) K := by
  intro n
  induction n with
  | zero =>
    intro x1 x2 v3 v4 v5 d hS i0 i1 hm  h
    exact ls_66_4 hx0 0 _ (fun _ _ _ _ _ _ _ _ _ m0 m1 _ => absurd m1 (by omega)) x1 x2 v3 v4 v5 d hS i0 i1 hm  h
  | succ n ih =>
    intro x1 x2 v3 v4 v5 d hS i0 i1 hm  h
    exact ls_66_4 hx0 ((n + 1 : Nat) : Int) _ (fun x1 x2 v3 v4 v5 d hS i0 i1  m0 m1 h => ih x1 x2 v3 v4 v5 d hS i0 i1 (by omega)  h) x1 x2 v3 v4 v5 d hS i0 i1 hm  h
def v_66 (x0 : Int) (d : mD) : Int := lp_66_4 x0 (6 - 0 : Int).toNat 0 0 d
theorem k_66 {E : mO × tW} {K : tK} {d : mD} {x0 : Int} (hS : Safe d) (hx0 : stB x0) (h : (-1 ≤ (v_66 x0 d) ∧ (v_66 x0 d) ≤ 2000) → K (.inl (some (0, (v_66 x0 d)))) d) : tCall E 66 [.inr (6, x0)] d K := by
  refine t_66_0 ?_
  refine l_66_4 hx0 (6 - 0 : Int).toNat 0 0 tu tu tu d hS (by omega) (by omega) (by omega) ?_
  intro e
  have y0 : v_66 x0 d = lp_66_4 x0 (6 - 0 : Int).toNat 0 0 d := by simp only [v_66]
  rw [y0] at h
  exact h e
def v_67 (x0 x1 : Int) (d : mD) : Int := if (999 : Int) < (d x0 2) + x1 then 0 else 1
theorem k_67 {E : mO × tW} {K : tK} {d : mD} {x0 x1 : Int} (hS : Safe d) (hx0 : stB x0) (p1 : 0 ≤ x1 ∧ x1 ≤ 200) (h : ((0 ≤ (v_67 x0 x1 d) ∧ (v_67 x0 x1 d) ≤ 1) ∧ ((v_67 x0 x1 d) = 0 ∨ d x0 2 + x1 ≤ 999)) → K (.inl (some (0, (v_67 x0 x1 d)))) d) : tCall E 67 [.inr (6, x0), .inl (0, x1)] d K := by
  refine t_67_0 ?_
  have q1 := r_6_f2 hS hx0
  refine ⟨⟨m_inR (by omega) (by omega), m_inR (by omega) (by omega)⟩, fun c0 => ?_, fun c0 => ?_⟩
  · refine ⟨by omega, ?_⟩
    have y0 : v_67 x0 x1 d = 0 := by simp only [v_67, if_pos (show (999 : Int) < (d x0 2) + x1 from c0)]
    rw [y0] at h
    exact h (show (0 ≤ ((0 : Int)) ∧ ((0 : Int)) ≤ 1) ∧ (((0 : Int)) = 0 ∨ d x0 2 + x1 ≤ 999) from (by omega))
  · refine ⟨by omega, ?_⟩
    have y0 : v_67 x0 x1 d = 1 := by simp only [v_67, if_neg (show ¬ (999 : Int) < (d x0 2) + x1 from Int.not_lt.mpr c0)]
    rw [y0] at h
    exact h (show (0 ≤ ((1 : Int)) ∧ ((1 : Int)) ≤ 1) ∧ (((1 : Int)) = 0 ∨ d x0 2 + x1 ≤ 999) from (by omega))
def v_71 (x0 x1 : Int) (d : mD) : Int := mmax 0 ((v_98 (x0 + 49) x1 (d x0 2) d) - ((d (x0 + 49 + 3) x1) + (d (x0 + 1) 0)))
theorem k_71 {E : mO × tW} {K : tK} {d : mD} {x0 x1 : Int} (hS : Safe d) (hx0 : stB x0) (p1 : 0 ≤ x1 ∧ x1 ≤ 59) (h : (0 ≤ (v_71 x0 x1 d) ∧ (v_71 x0 x1 d) ≤ 1199) → K (.inl (some (0, (v_71 x0 x1 d)))) d) : tCall E 71 [.inr (6, x0), .inl (0, x1)] d K := by
  refine t_71_0 ?_
  refine ⟨by omega, by omega, ?_⟩
  have q1 := r_6_f2 hS hx0
  refine k_98 hS (stB.ti hx0) (by omega) (by omega) (fun e1 => ?_)
  refine t_71_30 ?_
  have q2 := r_8_3 hS (stB.ti hx0) x1
  have q3 := r_6_1 hS hx0 ((0 : Int))
  have q4 := mmax_r 0 ((v_98 (x0 + 49) x1 (d x0 2) d) - ((d (x0 + 49 + 3) x1) + (d (x0 + 1) 0)))
  refine ⟨⟨m_inR (by omega) (by omega), m_inR (by omega) (by omega)⟩, ?_⟩
  have y0 : v_71 x0 x1 d = mmax 0 ((v_98 (x0 + 49) x1 (d x0 2) d) - ((d (x0 + 49 + 3) x1) + (d (x0 + 1) 0))) := by simp only [v_71]
  rw [y0] at h
  exact h (show 0 ≤ (mmax 0 ((v_98 (x0 + 49) x1 (d x0 2) d) - ((d (x0 + 49 + 3) x1) + (d (x0 + 1) 0)))) ∧ (mmax 0 ((v_98 (x0 + 49) x1 (d x0 2) d) - ((d (x0 + 49 + 3) x1) + (d (x0 + 1) 0)))) ≤ 1199 from (by omega))
def st_72_72 (x0 x1 x2 : Int) (r6 : Int → mD → mD) (r72 : Int → Int → Int → mD → mD) (x3 x4 x5 : Int) (d : mD) : mD := if x5 < x4 then r72 x3 x4 (x5 + 1) (g_7 x2 x5 d) else r6 (x3 + 1) d
def lp_72_72 (x0 x1 x2 : Int) (r6 : Int → mD → mD) : Nat → Int → Int → Int → mD → mD
  | 0 => st_72_72 x0 x1 x2 r6 (fun _ _ _ d => d)
  | n + 1 => st_72_72 x0 x1 x2 r6 (lp_72_72 x0 x1 x2 r6 n)
theorem ls_72_72 {E : mO × tW} {K : tK} {x0 x1 x2 : Int} (hx0 : stB x0) (hx2 : hsB x2) (p1 : -2147483648 ≤ x1 ∧ x1 ≤ 2147483647) (N6 : Int) (r6 : Int → mD → mD) (ih6 : ∀ (x3 : Int) (v4 v5 : tV) (d : mD), Safe d → (0 ≤ x3 ∧ x3 ≤ 60) → 0 ≤ 60 - x3 → 60 - x3 < N6 → ((∀ b : Int, (b < x2 + 1 ∨ x2 + 1 < b) → (r6 x3 d) b = d b) → Safe (r6 x3 d) → K (.inl none) (r6 x3 d)) → tRun E 72 (6, [.inr (6, x0), .inl (0, x1), .inr (1, x2), .inl (0, x3), v4, v5], [], 0, 0, d) K) (N72 : Int) (r72 : Int → Int → Int → mD → mD) (ih72 : ∀ (x3 x4 x5 : Int) (d : mD), Safe d → (0 ≤ x3 ∧ x3 ≤ 59) → (-1 ≤ x4 ∧ x4 ≤ 1199) → (0 ≤ x5 ∧ x5 ≤ 1300) → 60 - x3 ≤ N6 → 0 ≤ 1300 - x5 → 1300 - x5 < N72 → ((∀ b : Int, (b < x2 + 1 ∨ x2 + 1 < b) → (r72 x3 x4 x5 d) b = d b) → Safe (r72 x3 x4 x5 d) → K (.inl none) (r72 x3 x4 x5 d)) → tRun E 72 (72, [.inr (6, x0), .inl (0, x1), .inr (1, x2), .inl (0, x3), .inl (0, x4), .inl (0, x5)], [], 0, 0, d) K) (x3 x4 x5 : Int) (d : mD) (hS : Safe d) (i0 : 0 ≤ x3 ∧ x3 ≤ 59) (i1 : -1 ≤ x4 ∧ x4 ≤ 1199) (i2 : 0 ≤ x5 ∧ x5 ≤ 1300) (hm : 1300 - x5 ≤ N72) (m6 : 60 - x3 ≤ N6) (h : (∀ b : Int, (b < x2 + 1 ∨ x2 + 1 < b) → (st_72_72 x0 x1 x2 r6 r72 x3 x4 x5 d) b = d b) → Safe (st_72_72 x0 x1 x2 r6 r72 x3 x4 x5 d) → K (.inl none) (st_72_72 x0 x1 x2 r6 r72 x3 x4 x5 d)) : tRun E 72 (72, [.inr (6, x0), .inl (0, x1), .inr (1, x2), .inl (0, x3), .inl (0, x4), .inl (0, x5)], [], 0, 0, d) K := by
  refine t_72_72 ?_
  refine ⟨⟨m_inR (by omega) (by omega), m_inR (by omega) (by omega)⟩, fun c0 => ?_, fun c0 => ?_⟩
  · refine ih6 (x3 + 1) (.inl (0, x4)) (.inl (0, x5)) d hS (by omega) (by omega) (by omega) ?_
    intro F hS_
    have y0 : st_72_72 x0 x1 x2 r6 r72 x3 x4 x5 d = r6 (x3 + 1) d := by simp only [st_72_72, if_neg (show ¬ x5 < x4 from Int.not_lt.mpr c0)]
    rw [y0] at h
    exact h F hS_
  · refine k_7 hS hx2 (m_inR (by omega) (by omega)) (fun F1 hS1 => ?_)
    refine t_72_85 ?_
    refine ih72 x3 x4 (x5 + 1)  (g_7 x2 x5 d) hS1 (by omega) (by omega) (by omega) (by omega) (by omega) (by omega) ?_
    intro F hS_
    have y0 : st_72_72 x0 x1 x2 r6 r72 x3 x4 x5 d = r72 x3 x4 (x5 + 1) (g_7 x2 x5 d) := by simp only [st_72_72, if_pos (show x5 < x4 from c0)]
    rw [y0] at h
    exact h (fun b hb => (F b hb).trans ((show ∀ b : Int, (b < x2 + 1 ∨ x2 + 1 < b) → (g_7 x2 x5 d) b = d b from fun b hb => F1 b (by omega)) b hb)) hS_
theorem l_72_72 {E : mO × tW} {K : tK} {x0 x1 x2 : Int} (hx0 : stB x0) (hx2 : hsB x2) (p1 : -2147483648 ≤ x1 ∧ x1 ≤ 2147483647) (N6 : Int) (r6 : Int → mD → mD) (ih6 : ∀ (x3 : Int) (v4 v5 : tV) (d : mD), Safe d → (0 ≤ x3 ∧ x3 ≤ 60) → 0 ≤ 60 - x3 → 60 - x3 < N6 → ((∀ b : Int, (b < x2 + 1 ∨ x2 + 1 < b) → (r6 x3 d) b = d b) → Safe (r6 x3 d) → K (.inl none) (r6 x3 d)) → tRun E 72 (6, [.inr (6, x0), .inl (0, x1), .inr (1, x2), .inl (0, x3), v4, v5], [], 0, 0, d) K) : ∀ (n : Nat) (x3 x4 x5 : Int) (d : mD), Safe d → (0 ≤ x3 ∧ x3 ≤ 59) → (-1 ≤ x4 ∧ x4 ≤ 1199) → (0 ≤ x5 ∧ x5 ≤ 1300) → 1300 - x5 ≤ (n : Int) → 60 - x3 ≤ N6 → ((∀ b : Int, (b < x2 + 1 ∨ x2 + 1 < b) → (lp_72_72 x0 x1 x2 r6 n x3 x4 x5 d) b = d b) → Safe (lp_72_72 x0 x1 x2 r6 n x3 x4 x5 d) → K (.inl none) (lp_72_72 x0 x1 x2 r6 n x3 x4 x5 d)) → tRun E 72 (72, [.inr (6, x0), .inl (0, x1), .inr (1, x2), .inl (0, x3), .inl (0, x4), .inl (0, x5)], [], 0, 0, d) K := by
  intro n
  induction n with
  | zero =>
    intro x3 x4 x5  d hS i0 i1 i2 hm m6 h
    exact ls_72_72 hx0 hx2 p1 N6 r6 ih6 0 _ (fun _ _ _  _ _ _ _ _ _ m0 m1 _ => absurd m1 (by omega)) x3 x4 x5  d hS i0 i1 i2 hm m6 h
  | succ n ih =>
    intro x3 x4 x5  d hS i0 i1 i2 hm m6 h
    exact ls_72_72 hx0 hx2 p1 N6 r6 ih6 ((n + 1 : Nat) : Int) _ (fun x3 x4 x5  d hS i0 i1 i2 m6 m0 m1 h => ih x3 x4 x5  d hS i0 i1 i2 (by omega) m6 h) x3 x4 x5  d hS i0 i1 i2 hm m6 h
def st_72_6 (x0 x1 x2 : Int) (r6 : Int → mD → mD) (x3 : Int) (d : mD) : mD := if x3 < d (x0 + 49) 0 then (if d (x0 + 49 + 1) x3 = x1 then (if d (x0 + 49 + 5) x3 = 1 then lp_72_72 x0 x1 x2 r6 (1300 - ((d (x0 + 49 + 3) x3) + (d (x0 + 1) 0)) : Int).toNat x3 (d (x0 + 49 + 4) x3) ((d (x0 + 49 + 3) x3) + (d (x0 + 1) 0)) d else r6 (x3 + 1) d) else r6 (x3 + 1) d) else d
def lp_72_6 (x0 x1 x2 : Int) : Nat → Int → mD → mD
  | 0 => st_72_6 x0 x1 x2 (fun _ d => d)
  | n + 1 => st_72_6 x0 x1 x2 (lp_72_6 x0 x1 x2 n)
theorem ls_72_6 {E : mO × tW} {K : tK} {x0 x1 x2 : Int} (hx0 : stB x0) (hx2 : hsB x2) (p1 : -2147483648 ≤ x1 ∧ x1 ≤ 2147483647) (N6 : Int) (r6 : Int → mD → mD) (ih6 : ∀ (x3 : Int) (v4 v5 : tV) (d : mD), Safe d → (0 ≤ x3 ∧ x3 ≤ 60) → 0 ≤ 60 - x3 → 60 - x3 < N6 → ((∀ b : Int, (b < x2 + 1 ∨ x2 + 1 < b) → (r6 x3 d) b = d b) → Safe (r6 x3 d) → K (.inl none) (r6 x3 d)) → tRun E 72 (6, [.inr (6, x0), .inl (0, x1), .inr (1, x2), .inl (0, x3), v4, v5], [], 0, 0, d) K) (x3 : Int) (v4 v5 : tV) (d : mD) (hS : Safe d) (i0 : 0 ≤ x3 ∧ x3 ≤ 60) (hm : 60 - x3 ≤ N6) (h : (∀ b : Int, (b < x2 + 1 ∨ x2 + 1 < b) → (st_72_6 x0 x1 x2 r6 x3 d) b = d b) → Safe (st_72_6 x0 x1 x2 r6 x3 d) → K (.inl none) (st_72_6 x0 x1 x2 r6 x3 d)) : tRun E 72 (6, [.inr (6, x0), .inl (0, x1), .inr (1, x2), .inl (0, x3), v4, v5], [], 0, 0, d) K := by
  refine t_72_6 ?_
  have q1 := r_8_f0 hS (stB.ti hx0)
  refine ⟨⟨m_inR (by omega) (by omega), m_inR (by omega) (by omega)⟩, fun c0 => ?_, fun c0 => ?_⟩
  · have y0 : st_72_6 x0 x1 x2 r6 x3 d = d := by simp only [st_72_6, if_neg (show ¬ x3 < d (x0 + 49) 0 from Int.not_lt.mpr c0)]
    rw [y0] at h
    exact h (show ∀ b : Int, (b < x2 + 1 ∨ x2 + 1 < b) → d b = d b from fun _ _ => rfl) hS
  · have q2 := r_8_1 hS (stB.ti hx0) x3
    refine ⟨by omega, ⟨m_inR (by omega) (by omega), m_inR (by omega) (by omega)⟩, fun c1 => ?_, fun c1 => ?_⟩
    · refine ih6 (x3 + 1) v4 v5 d hS (by omega) (by omega) (by omega) ?_
      intro F hS_
      have y0 : st_72_6 x0 x1 x2 r6 x3 d = r6 (x3 + 1) d := by simp only [st_72_6, if_pos (show x3 < d (x0 + 49) 0 from c0), if_neg (show ¬ d (x0 + 49 + 1) x3 = x1 from c1)]
      rw [y0] at h
      exact h F hS_
    · have q3 := r_8_5 hS (stB.ti hx0) x3
      refine ⟨by omega, ⟨m_inR (by omega) (by omega), m_inR (by omega) (by omega)⟩, fun c2 => ?_, fun c2 => ?_⟩
      · refine ih6 (x3 + 1) v4 v5 d hS (by omega) (by omega) (by omega) ?_
        intro F hS_
        have y0 : st_72_6 x0 x1 x2 r6 x3 d = r6 (x3 + 1) d := by simp only [st_72_6, if_pos (show x3 < d (x0 + 49) 0 from c0), if_pos (show d (x0 + 49 + 1) x3 = x1 from c1), if_neg (show ¬ d (x0 + 49 + 5) x3 = 1 from c2)]
        rw [y0] at h
        exact h F hS_
      · refine ⟨by omega, by omega, by omega, ?_⟩
        have q4 := r_8_4 hS (stB.ti hx0) x3
        have q5 := r_8_3 hS (stB.ti hx0) x3
        have q6 := r_6_1 hS hx0 ((0 : Int))
        refine l_72_72 hx0 hx2 p1 N6 r6 ih6 (1300 - ((d (x0 + 49 + 3) x3) + (d (x0 + 1) 0)) : Int).toNat x3 (d (x0 + 49 + 4) x3) ((d (x0 + 49 + 3) x3) + (d (x0 + 1) 0))  d hS (by omega) (by omega) (by omega) (by omega) (by omega) ?_
        intro F hS_
        have y0 : st_72_6 x0 x1 x2 r6 x3 d = lp_72_72 x0 x1 x2 r6 (1300 - ((d (x0 + 49 + 3) x3) + (d (x0 + 1) 0)) : Int).toNat x3 (d (x0 + 49 + 4) x3) ((d (x0 + 49 + 3) x3) + (d (x0 + 1) 0)) d := by simp only [st_72_6, if_pos (show x3 < d (x0 + 49) 0 from c0), if_pos (show d (x0 + 49 + 1) x3 = x1 from c1), if_pos (show d (x0 + 49 + 5) x3 = 1 from c2)]
        rw [y0] at h
        exact h F hS_
theorem l_72_6 {E : mO × tW} {K : tK} {x0 x1 x2 : Int} (hx0 : stB x0) (hx2 : hsB x2) (p1 : -2147483648 ≤ x1 ∧ x1 ≤ 2147483647) : ∀ (n : Nat) (x3 : Int) (v4 v5 : tV) (d : mD), Safe d → (0 ≤ x3 ∧ x3 ≤ 60) → 60 - x3 ≤ (n : Int) → ((∀ b : Int, (b < x2 + 1 ∨ x2 + 1 < b) → (lp_72_6 x0 x1 x2 n x3 d) b = d b) → Safe (lp_72_6 x0 x1 x2 n x3 d) → K (.inl none) (lp_72_6 x0 x1 x2 n x3 d)) → tRun E 72 (6, [.inr (6, x0), .inl (0, x1), .inr (1, x2), .inl (0, x3), v4, v5], [], 0, 0, d) K := by
  intro n
  induction n with
  | zero =>
    intro x3 v4 v5 d hS i0 hm  h
    exact ls_72_6 hx0 hx2 p1 0 _ (fun _ _ _ _ _ _ m0 m1 _ => absurd m1 (by omega)) x3 v4 v5 d hS i0 hm  h
  | succ n ih =>
    intro x3 v4 v5 d hS i0 hm  h
    exact ls_72_6 hx0 hx2 p1 ((n + 1 : Nat) : Int) _ (fun x3 v4 v5 d hS i0  m0 m1 h => ih x3 v4 v5 d hS i0 (by omega)  h) x3 v4 v5 d hS i0 hm  h
def g_72 (x0 x1 x2 : Int) (d : mD) : mD := lp_72_6 x0 x1 x2 (60 - 0 : Int).toNat 0 (g_8 x2 d)
theorem k_72 {E : mO × tW} {K : tK} {d : mD} {x0 x1 x2 : Int} (hS : Safe d) (hx0 : stB x0) (hx2 : hsB x2) (p1 : -2147483648 ≤ x1 ∧ x1 ≤ 2147483647) (h : (∀ b : Int, (b < x2 + 1 ∨ x2 + 1 < b) → (g_72 x0 x1 x2 d) b = d b) → Safe (g_72 x0 x1 x2 d) → K (.inl none) (g_72 x0 x1 x2 d)) : tCall E 72 [.inr (6, x0), .inl (0, x1), .inr (1, x2)] d K := by
  refine t_72_0 ?_
  refine k_8 hS hx2 (fun F2 hS2 => ?_)
  refine t_72_4 ?_
  refine l_72_6 hx0 hx2 p1 (60 - 0 : Int).toNat 0 tu tu (g_8 x2 d) hS2 (by omega) (by omega) ?_
  intro F hS_
  have y0 : g_72 x0 x1 x2 d = lp_72_6 x0 x1 x2 (60 - 0 : Int).toNat 0 (g_8 x2 d) := by simp only [g_72]
  rw [y0] at h
  exact h (fun b hb => (F b hb).trans ((show ∀ b : Int, (b < x2 + 1 ∨ x2 + 1 < b) → (g_8 x2 d) b = d b from fun b hb => F2 b (by omega)) b hb)) hS_
def v_73 (x0 x1 : Int) (d : mD) : Int := if d (x0 + 49 + 5) x1 = 1 then (if d (x0 + 49 + 6) x1 = 0 then 1 else 0) else 0
theorem k_73 {E : mO × tW} {K : tK} {d : mD} {x0 x1 : Int} (hS : Safe d) (hx0 : stB x0) (p1 : 0 ≤ x1 ∧ x1 ≤ 59) (h : (0 ≤ (v_73 x0 x1 d) ∧ (v_73 x0 x1 d) ≤ 1) → K (.inl (some (0, (v_73 x0 x1 d)))) d) : tCall E 73 [.inr (6, x0), .inl (0, x1)] d K := by
  refine t_73_0 ?_
  have q1 := r_8_5 hS (stB.ti hx0) x1
  refine ⟨by omega, ⟨m_inR (by omega) (by omega), m_inR (by omega) (by omega)⟩, fun c0 => ?_, fun c0 => ?_⟩
  · refine ⟨by omega, ?_⟩
    have y0 : v_73 x0 x1 d = 0 := by simp only [v_73, if_neg (show ¬ d (x0 + 49 + 5) x1 = 1 from c0)]
    rw [y0] at h
    exact h (show 0 ≤ ((0 : Int)) ∧ ((0 : Int)) ≤ 1 from (by omega))
  · have q2 := r_8_6 hS (stB.ti hx0) x1
    refine ⟨by omega, m_inR (by omega) (by omega), fun c1 => ?_, fun c1 => ?_⟩
    · refine ⟨by omega, ?_⟩
      have y0 : v_73 x0 x1 d = 0 := by simp only [v_73, if_pos (show d (x0 + 49 + 5) x1 = 1 from c0), if_neg (show ¬ d (x0 + 49 + 6) x1 = 0 from c1)]
      rw [y0] at h
      exact h (show 0 ≤ ((0 : Int)) ∧ ((0 : Int)) ≤ 1 from (by omega))
    · refine ⟨by omega, ?_⟩
      have y0 : v_73 x0 x1 d = 1 := by simp only [v_73, if_pos (show d (x0 + 49 + 5) x1 = 1 from c0), if_pos (show d (x0 + 49 + 6) x1 = 0 from c1)]
      rw [y0] at h
      exact h (show 0 ≤ ((1 : Int)) ∧ ((1 : Int)) ≤ 1 from (by omega))
def v_79 (x0 x1 : Int) (d : mD) : Int := mmin ((d (x0 + 1) 3) - (d (x0 + 10 + 3) x1)) (200 - (d (x0 + 57) 0))
theorem k_79 {E : mO × tW} {K : tK} {d : mD} {x0 x1 : Int} (hS : Safe d) (hx0 : stB x0) (p1 : 0 ≤ x1 ∧ x1 ≤ 15) (h : ((-99 ≤ (v_79 x0 x1 d) ∧ (v_79 x0 x1 d) ≤ 200) ∧ d (x0 + 10 + 3) x1 + (v_79 x0 x1 d) ≤ 99) → K (.inl (some (0, (v_79 x0 x1 d)))) d) : tCall E 79 [.inr (6, x0), .inl (0, x1)] d K := by
  refine t_79_0 ?_
  have q1 := r_6_1 hS hx0 ((3 : Int))
  have q2 := r_4_3 hS (stB.pe hx0) x1
  have q3 := r_9_f0 hS (stB.to hx0)
  have q4 := mmin_r ((d (x0 + 1) 3) - (d (x0 + 10 + 3) x1)) (200 - (d (x0 + 57) 0))
  refine ⟨by omega, by omega, ⟨m_inR (by omega) (by omega), m_inR (by omega) (by omega)⟩, ?_⟩
  have y0 : v_79 x0 x1 d = mmin ((d (x0 + 1) 3) - (d (x0 + 10 + 3) x1)) (200 - (d (x0 + 57) 0)) := by simp only [v_79]
  rw [y0] at h
  exact h (show (-99 ≤ (mmin ((d (x0 + 1) 3) - (d (x0 + 10 + 3) x1)) (200 - (d (x0 + 57) 0))) ∧ (mmin ((d (x0 + 1) 3) - (d (x0 + 10 + 3) x1)) (200 - (d (x0 + 57) 0))) ≤ 200) ∧ d (x0 + 10 + 3) x1 + (mmin ((d (x0 + 1) 3) - (d (x0 + 10 + 3) x1)) (200 - (d (x0 + 57) 0))) ≤ 99 from (by omega))
def st_80_41 (x0 x1 : Int) (r41 : Int → Int → Int → Int → mD → Int) (x2 x3 x4 x5 : Int) (d : mD) : Int := if x5 < x3 then (if v_6 (x0 + 10 + 6 + (1 + 2 * x2)) x5 d = 0 then r41 x2 x3 (x4 + 1) (x5 + 1) d else r41 x2 x3 (x4 + 0) (x5 + 1) d) else mmax 0 (mmin x4 (v_79 x0 x2 d))
def lp_80_41 (x0 x1 : Int) : Nat → Int → Int → Int → Int → mD → Int
  | 0 => st_80_41 x0 x1 (fun _ _ _ _ d => 0)
  | n + 1 => st_80_41 x0 x1 (lp_80_41 x0 x1 n)
theorem ls_80_41 {E : mO × tW} {K : tK} {x0 x1 : Int} (hx0 : stB x0) (p1 : 0 ≤ x1 ∧ x1 ≤ 59) (N41 : Int) (r41 : Int → Int → Int → Int → mD → Int) (ih41 : ∀ (x2 x3 x4 x5 : Int) (d : mD), Safe d → (0 ≤ x2 ∧ x2 ≤ 15) → (-1 ≤ x3 ∧ x3 ≤ 1199) → (0 ≤ x4 ∧ x4 ≤ x5) → (0 ≤ x5 ∧ x5 ≤ 1300) → 0 ≤ 1300 - x5 → 1300 - x5 < N41 → ((0 ≤ (r41 x2 x3 x4 x5 d) ∧ (r41 x2 x3 x4 x5 d) ≤ 1300) → K (.inl (some (0, (r41 x2 x3 x4 x5 d)))) d) → tRun E 80 (41, [.inr (6, x0), .inl (0, x1), .inl (0, x2), .inl (0, x3), .inl (0, x4), .inl (0, x5)], [], 0, 0, d) K) (x2 x3 x4 x5 : Int) (d : mD) (hS : Safe d) (i0 : 0 ≤ x2 ∧ x2 ≤ 15) (i1 : -1 ≤ x3 ∧ x3 ≤ 1199) (i2 : 0 ≤ x4 ∧ x4 ≤ x5) (i3 : 0 ≤ x5 ∧ x5 ≤ 1300) (hm : 1300 - x5 ≤ N41) (h : (0 ≤ (st_80_41 x0 x1 r41 x2 x3 x4 x5 d) ∧ (st_80_41 x0 x1 r41 x2 x3 x4 x5 d) ≤ 1300) → K (.inl (some (0, (st_80_41 x0 x1 r41 x2 x3 x4 x5 d)))) d) : tRun E 80 (41, [.inr (6, x0), .inl (0, x1), .inl (0, x2), .inl (0, x3), .inl (0, x4), .inl (0, x5)], [], 0, 0, d) K := by
  refine t_80_41 ?_
  refine ⟨⟨m_inR (by omega) (by omega), m_inR (by omega) (by omega)⟩, fun c0 => ?_, fun c0 => ?_⟩
  · refine k_79 hS hx0 (by omega) (fun e1 => ?_)
    refine t_80_88 ?_
    have q1 := mmin_r x4 (v_79 x0 x2 d)
    have q2 := mmax_r 0 (mmin x4 (v_79 x0 x2 d))
    refine ⟨⟨m_inR (by omega) (by omega), m_inR (by omega) (by omega)⟩, ⟨m_inR (by omega) (by omega), m_inR (by omega) (by omega)⟩, ?_⟩
    have y0 : st_80_41 x0 x1 r41 x2 x3 x4 x5 d = mmax 0 (mmin x4 (v_79 x0 x2 d)) := by simp only [st_80_41, if_neg (show ¬ x5 < x3 from Int.not_lt.mpr c0)]
    rw [y0] at h
    exact h (show 0 ≤ (mmax 0 (mmin x4 (v_79 x0 x2 d))) ∧ (mmax 0 (mmin x4 (v_79 x0 x2 d))) ≤ 1300 from (by omega))
  · refine ⟨by omega, ?_⟩
    have hp1 : hsB (x0 + 10 + 6 + (1 + 2 * x2)) := peB.hs (stB.pe hx0) (by omega) (by omega)
    refine k_6 hS hp1 (m_inR (by omega) (by omega)) (fun e2 => ?_)
    refine t_80_63 ?_
    refine ⟨m_inR (by omega) (by omega), fun c1 => ?_, fun c1 => ?_⟩
    · refine ih41 x2 x3 (x4 + 1) (x5 + 1)  d hS (by omega) (by omega) (by omega) (by omega) (by omega) (by omega) ?_
      intro e
      have y0 : st_80_41 x0 x1 r41 x2 x3 x4 x5 d = r41 x2 x3 (x4 + 1) (x5 + 1) d := by simp only [st_80_41, if_pos (show x5 < x3 from c0), if_pos (show v_6 (x0 + 10 + 6 + (1 + 2 * x2)) x5 d = 0 from c1)]
      rw [y0] at h
      exact h e
    · refine ih41 x2 x3 (x4 + 0) (x5 + 1)  d hS (by omega) (by omega) (by omega) (by omega) (by omega) (by omega) ?_
      intro e
      have y0 : st_80_41 x0 x1 r41 x2 x3 x4 x5 d = r41 x2 x3 (x4 + 0) (x5 + 1) d := by simp only [st_80_41, if_pos (show x5 < x3 from c0), if_neg (show ¬ v_6 (x0 + 10 + 6 + (1 + 2 * x2)) x5 d = 0 from c1)]
      rw [y0] at h
      exact h e
theorem l_80_41 {E : mO × tW} {K : tK} {x0 x1 : Int} (hx0 : stB x0) (p1 : 0 ≤ x1 ∧ x1 ≤ 59) : ∀ (n : Nat) (x2 x3 x4 x5 : Int) (d : mD), Safe d → (0 ≤ x2 ∧ x2 ≤ 15) → (-1 ≤ x3 ∧ x3 ≤ 1199) → (0 ≤ x4 ∧ x4 ≤ x5) → (0 ≤ x5 ∧ x5 ≤ 1300) → 1300 - x5 ≤ (n : Int) → ((0 ≤ (lp_80_41 x0 x1 n x2 x3 x4 x5 d) ∧ (lp_80_41 x0 x1 n x2 x3 x4 x5 d) ≤ 1300) → K (.inl (some (0, (lp_80_41 x0 x1 n x2 x3 x4 x5 d)))) d) → tRun E 80 (41, [.inr (6, x0), .inl (0, x1), .inl (0, x2), .inl (0, x3), .inl (0, x4), .inl (0, x5)], [], 0, 0, d) K := by
  intro n
  induction n with
  | zero =>
    intro x2 x3 x4 x5  d hS i0 i1 i2 i3 hm  h
    exact ls_80_41 hx0 p1 0 _ (fun _ _ _ _  _ _ _ _ _ _ m0 m1 _ => absurd m1 (by omega)) x2 x3 x4 x5  d hS i0 i1 i2 i3 hm  h
  | succ n ih =>
    intro x2 x3 x4 x5  d hS i0 i1 i2 i3 hm  h
    exact ls_80_41 hx0 p1 ((n + 1 : Nat) : Int) _ (fun x2 x3 x4 x5  d hS i0 i1 i2 i3  m0 m1 h => ih x2 x3 x4 x5  d hS i0 i1 i2 i3 (by omega)  h) x2 x3 x4 x5  d hS i0 i1 i2 i3 hm  h
def v_80 (x0 x1 : Int) (d : mD) : Int := lp_80_41 x0 x1 (1300 - ((d (x0 + 49 + 3) x1) + (d (x0 + 1) 0)) : Int).toNat (d (x0 + 49 + 1) x1) (d (x0 + 49 + 4) x1) 0 ((d (x0 + 49 + 3) x1) + (d (x0 + 1) 0)) d
theorem k_80 {E : mO × tW} {K : tK} {d : mD} {x0 x1 : Int} (hS : Safe d) (hx0 : stB x0) (p1 : 0 ≤ x1 ∧ x1 ≤ 59) (h : (0 ≤ (v_80 x0 x1 d) ∧ (v_80 x0 x1 d) ≤ 1300) → K (.inl (some (0, (v_80 x0 x1 d)))) d) : tCall E 80 [.inr (6, x0), .inl (0, x1)] d K := by
  refine t_80_0 ?_
  refine ⟨by omega, by omega, by omega, by omega, ?_⟩
  have q3 := r_8_1 hS (stB.ti hx0) x1
  have q4 := r_8_4 hS (stB.ti hx0) x1
  have q5 := r_8_3 hS (stB.ti hx0) x1
  have q6 := r_6_1 hS hx0 ((0 : Int))
  refine l_80_41 hx0 p1 (1300 - ((d (x0 + 49 + 3) x1) + (d (x0 + 1) 0)) : Int).toNat (d (x0 + 49 + 1) x1) (d (x0 + 49 + 4) x1) 0 ((d (x0 + 49 + 3) x1) + (d (x0 + 1) 0))  d hS (by omega) (by omega) (by omega) (by omega) (by omega) ?_
  intro e
  have y0 : v_80 x0 x1 d = lp_80_41 x0 x1 (1300 - ((d (x0 + 49 + 3) x1) + (d (x0 + 1) 0)) : Int).toNat (d (x0 + 49 + 1) x1) (d (x0 + 49 + 4) x1) 0 ((d (x0 + 49 + 3) x1) + (d (x0 + 1) 0)) d := by simp only [v_80]
  rw [y0] at h
  exact h e
def st_81_48 (x0 x1 : Int) (r48 : Int → Int → Int → Int → Int → mD → Int × mD) (x2 x3 x4 x5 x6 : Int) (d : mD) : Int × mD := if x6 < x3 then (if x5 < x4 then (if v_6 (x0 + 10 + 6 + (1 + 2 * x2)) x6 d = 0 then r48 x2 x3 x4 (x5 + 1) (x6 + 1) (g_109 (x0 + 57) x2 x1 x6 (g_7 (x0 + 10 + 6 + (1 + 2 * x2)) x6 d)) else r48 x2 x3 x4 x5 (x6 + 1) d) else (x5, mset d (x0 + 10 + 3) x2 ((d (x0 + 10 + 3) x2) + x5))) else (x5, mset d (x0 + 10 + 3) x2 ((d (x0 + 10 + 3) x2) + x5))
def lp_81_48 (x0 x1 : Int) : Nat → Int → Int → Int → Int → Int → mD → Int × mD
  | 0 => st_81_48 x0 x1 (fun _ _ _ _ _ d => (0, d))
  | n + 1 => st_81_48 x0 x1 (lp_81_48 x0 x1 n)
theorem ls_81_48 {E : mO × tW} {K : tK} {x0 x1 : Int} (hx0 : stB x0) (p1 : 0 ≤ x1 ∧ x1 ≤ 59) (N48 : Int) (r48 : Int → Int → Int → Int → Int → mD → Int × mD) (ih48 : ∀ (x2 x3 x4 x5 x6 : Int) (d : mD), Safe d → (0 ≤ x2 ∧ x2 ≤ 15) → (-1 ≤ x3 ∧ x3 ≤ 1199) → (-99 ≤ x4 ∧ x4 ≤ 200) → (0 ≤ x5 ∧ (x5 ≤ x4 ∨ x5 = 0)) → (0 ≤ x6 ∧ x6 ≤ 1300) → (d (x0 + 10 + 3) x2 + x4 ≤ 99) → 0 ≤ 1300 - x6 → 1300 - x6 < N48 → ((0 ≤ (r48 x2 x3 x4 x5 x6 d).1 ∧ (r48 x2 x3 x4 x5 x6 d).1 ≤ 200) → (∀ b : Int, (b < x0 + 13 ∨ x0 + 13 < b) ∧ (b < x0 + 18 ∨ x0 + 48 < b) ∧ (b < x0 + 57 ∨ x0 + 61 < b) → (r48 x2 x3 x4 x5 x6 d).2 b = d b) → Safe (r48 x2 x3 x4 x5 x6 d).2 → K (.inl (some (0, (r48 x2 x3 x4 x5 x6 d).1))) (r48 x2 x3 x4 x5 x6 d).2) → tRun E 81 (48, [.inr (6, x0), .inl (0, x1), .inl (0, x2), .inl (0, x3), .inl (0, x4), .inl (0, x5), .inl (0, x6)], [], 0, 0, d) K) (x2 x3 x4 x5 x6 : Int) (d : mD) (hS : Safe d) (i0 : 0 ≤ x2 ∧ x2 ≤ 15) (i1 : -1 ≤ x3 ∧ x3 ≤ 1199) (i2 : -99 ≤ x4 ∧ x4 ≤ 200) (i3 : 0 ≤ x5 ∧ (x5 ≤ x4 ∨ x5 = 0)) (i4 : 0 ≤ x6 ∧ x6 ≤ 1300) (i5 : d (x0 + 10 + 3) x2 + x4 ≤ 99) (hm : 1300 - x6 ≤ N48) (h : (0 ≤ (st_81_48 x0 x1 r48 x2 x3 x4 x5 x6 d).1 ∧ (st_81_48 x0 x1 r48 x2 x3 x4 x5 x6 d).1 ≤ 200) → (∀ b : Int, (b < x0 + 13 ∨ x0 + 13 < b) ∧ (b < x0 + 18 ∨ x0 + 48 < b) ∧ (b < x0 + 57 ∨ x0 + 61 < b) → (st_81_48 x0 x1 r48 x2 x3 x4 x5 x6 d).2 b = d b) → Safe (st_81_48 x0 x1 r48 x2 x3 x4 x5 x6 d).2 → K (.inl (some (0, (st_81_48 x0 x1 r48 x2 x3 x4 x5 x6 d).1))) (st_81_48 x0 x1 r48 x2 x3 x4 x5 x6 d).2) : tRun E 81 (48, [.inr (6, x0), .inl (0, x1), .inl (0, x2), .inl (0, x3), .inl (0, x4), .inl (0, x5), .inl (0, x6)], [], 0, 0, d) K := by
  refine t_81_48 ?_
  refine ⟨⟨m_inR (by omega) (by omega), m_inR (by omega) (by omega)⟩, fun c0 => ?_, fun c0 => ?_⟩
  · have q1 := r_4_3 hS (stB.pe hx0) x2
    refine ⟨by omega, by omega, ?_⟩
    have hS1 : Safe (mset d (x0 + 10 + 3) x2 ((d (x0 + 10 + 3) x2) + x5)) := s_4_3 hS (stB.pe hx0) (by omega)
    have y0 : st_81_48 x0 x1 r48 x2 x3 x4 x5 x6 d = (x5, mset d (x0 + 10 + 3) x2 ((d (x0 + 10 + 3) x2) + x5)) := by simp only [st_81_48, if_neg (show ¬ x6 < x3 from Int.not_lt.mpr c0)]
    rw [y0] at h
    exact h (show 0 ≤ x5 ∧ x5 ≤ 200 from (by omega)) (show ∀ b : Int, (b < x0 + 13 ∨ x0 + 13 < b) ∧ (b < x0 + 18 ∨ x0 + 48 < b) ∧ (b < x0 + 57 ∨ x0 + 61 < b) → (mset d (x0 + 10 + 3) x2 ((d (x0 + 10 + 3) x2) + x5)) b = d b from fun b hb => mset_ne (by omega)) hS1
  · refine ⟨⟨m_inR (by omega) (by omega), m_inR (by omega) (by omega)⟩, fun c1 => ?_, fun c1 => ?_⟩
    · have q2 := r_4_3 hS (stB.pe hx0) x2
      refine ⟨by omega, by omega, ?_⟩
      have hS2 : Safe (mset d (x0 + 10 + 3) x2 ((d (x0 + 10 + 3) x2) + x5)) := s_4_3 hS (stB.pe hx0) (by omega)
      have y0 : st_81_48 x0 x1 r48 x2 x3 x4 x5 x6 d = (x5, mset d (x0 + 10 + 3) x2 ((d (x0 + 10 + 3) x2) + x5)) := by simp only [st_81_48, if_pos (show x6 < x3 from c0), if_neg (show ¬ x5 < x4 from Int.not_lt.mpr c1)]
      rw [y0] at h
      exact h (show 0 ≤ x5 ∧ x5 ≤ 200 from (by omega)) (show ∀ b : Int, (b < x0 + 13 ∨ x0 + 13 < b) ∧ (b < x0 + 18 ∨ x0 + 48 < b) ∧ (b < x0 + 57 ∨ x0 + 61 < b) → (mset d (x0 + 10 + 3) x2 ((d (x0 + 10 + 3) x2) + x5)) b = d b from fun b hb => mset_ne (by omega)) hS2
    · refine ⟨by omega, ?_⟩
      have hp3 : hsB (x0 + 10 + 6 + (1 + 2 * x2)) := peB.hs (stB.pe hx0) (by omega) (by omega)
      refine k_6 hS hp3 (m_inR (by omega) (by omega)) (fun e1 => ?_)
      refine t_81_75 ?_
      refine ⟨m_inR (by omega) (by omega), fun c2 => ?_, fun c2 => ?_⟩
      · refine ih48 x2 x3 x4 x5 (x6 + 1)  d hS (by omega) (by omega) (by omega) (by omega) (by omega) (by omega) (by omega) (by omega) ?_
        intro e F hS_
        have y0 : st_81_48 x0 x1 r48 x2 x3 x4 x5 x6 d = r48 x2 x3 x4 x5 (x6 + 1) d := by simp only [st_81_48, if_pos (show x6 < x3 from c0), if_pos (show x5 < x4 from c1), if_neg (show ¬ v_6 (x0 + 10 + 6 + (1 + 2 * x2)) x6 d = 0 from c2)]
        rw [y0] at h
        exact h e F hS_
      · refine ⟨by omega, ?_⟩
        have hp4 : hsB (x0 + 10 + 6 + (1 + 2 * x2)) := peB.hs (stB.pe hx0) (by omega) (by omega)
        refine k_7 hS hp4 (m_inR (by omega) (by omega)) (fun F1 hS5 => ?_)
        refine t_81_92 ?_
        refine k_109 hS5 (stB.to hx0) (by omega) (by omega) (by omega) (fun F2 hS6 => ?_)
        refine t_81_103 ?_
        have q3 : (g_109 (x0 + 57) x2 x1 x6 (g_7 (x0 + 10 + 6 + (1 + 2 * x2)) x6 d)) (x0 + 10 + 3) x2 = d (x0 + 10 + 3) x2 := (congrFun (F2 (x0 + 10 + 3) (by omega)) x2).trans (congrFun (F1 (x0 + 10 + 3) (by omega)) x2)
        refine ih48 x2 x3 x4 (x5 + 1) (x6 + 1)  (g_109 (x0 + 57) x2 x1 x6 (g_7 (x0 + 10 + 6 + (1 + 2 * x2)) x6 d)) hS6 (by omega) (by omega) (by omega) (by omega) (by omega) (by omega) (by omega) (by omega) ?_
        intro e F hS_
        have y0 : st_81_48 x0 x1 r48 x2 x3 x4 x5 x6 d = r48 x2 x3 x4 (x5 + 1) (x6 + 1) (g_109 (x0 + 57) x2 x1 x6 (g_7 (x0 + 10 + 6 + (1 + 2 * x2)) x6 d)) := by simp only [st_81_48, if_pos (show x6 < x3 from c0), if_pos (show x5 < x4 from c1), if_pos (show v_6 (x0 + 10 + 6 + (1 + 2 * x2)) x6 d = 0 from c2)]
        rw [y0] at h
        exact h e (fun b hb => (F b hb).trans ((show ∀ b : Int, (b < x0 + 13 ∨ x0 + 13 < b) ∧ (b < x0 + 18 ∨ x0 + 48 < b) ∧ (b < x0 + 57 ∨ x0 + 61 < b) → (g_109 (x0 + 57) x2 x1 x6 (g_7 (x0 + 10 + 6 + (1 + 2 * x2)) x6 d)) b = d b from fun b hb => (F2 b (by omega)).trans (F1 b (by omega))) b hb)) hS_
theorem l_81_48 {E : mO × tW} {K : tK} {x0 x1 : Int} (hx0 : stB x0) (p1 : 0 ≤ x1 ∧ x1 ≤ 59) : ∀ (n : Nat) (x2 x3 x4 x5 x6 : Int) (d : mD), Safe d → (0 ≤ x2 ∧ x2 ≤ 15) → (-1 ≤ x3 ∧ x3 ≤ 1199) → (-99 ≤ x4 ∧ x4 ≤ 200) → (0 ≤ x5 ∧ (x5 ≤ x4 ∨ x5 = 0)) → (0 ≤ x6 ∧ x6 ≤ 1300) → (d (x0 + 10 + 3) x2 + x4 ≤ 99) → 1300 - x6 ≤ (n : Int) → ((0 ≤ (lp_81_48 x0 x1 n x2 x3 x4 x5 x6 d).1 ∧ (lp_81_48 x0 x1 n x2 x3 x4 x5 x6 d).1 ≤ 200) → (∀ b : Int, (b < x0 + 13 ∨ x0 + 13 < b) ∧ (b < x0 + 18 ∨ x0 + 48 < b) ∧ (b < x0 + 57 ∨ x0 + 61 < b) → (lp_81_48 x0 x1 n x2 x3 x4 x5 x6 d).2 b = d b) → Safe (lp_81_48 x0 x1 n x2 x3 x4 x5 x6 d).2 → K (.inl (some (0, (lp_81_48 x0 x1 n x2 x3 x4 x5 x6 d).1))) (lp_81_48 x0 x1 n x2 x3 x4 x5 x6 d).2) → tRun E 81 (48, [.inr (6, x0), .inl (0, x1), .inl (0, x2), .inl (0, x3), .inl (0, x4), .inl (0, x5), .inl (0, x6)], [], 0, 0, d) K := by
  intro n
  induction n with
  | zero =>
    intro x2 x3 x4 x5 x6  d hS i0 i1 i2 i3 i4 i5 hm  h
    exact ls_81_48 hx0 p1 0 _ (fun _ _ _ _ _  _ _ _ _ _ _ _ _ m0 m1 _ => absurd m1 (by omega)) x2 x3 x4 x5 x6  d hS i0 i1 i2 i3 i4 i5 hm  h
  | succ n ih =>
    intro x2 x3 x4 x5 x6  d hS i0 i1 i2 i3 i4 i5 hm  h
    exact ls_81_48 hx0 p1 ((n + 1 : Nat) : Int) _ (fun x2 x3 x4 x5 x6  d hS i0 i1 i2 i3 i4 i5  m0 m1 h => ih x2 x3 x4 x5 x6  d hS i0 i1 i2 i3 i4 i5 (by omega)  h) x2 x3 x4 x5 x6  d hS i0 i1 i2 i3 i4 i5 hm  h
def f_81 (x0 x1 : Int) (d : mD) : Int × mD := lp_81_48 x0 x1 (1300 - ((d (x0 + 49 + 3) x1) + (d (x0 + 1) 0)) : Int).toNat (d (x0 + 49 + 1) x1) (d (x0 + 49 + 4) x1) (v_79 x0 (d (x0 + 49 + 1) x1) d) 0 ((d (x0 + 49 + 3) x1) + (d (x0 + 1) 0)) d
def v_81 (x0 x1 : Int) (d : mD) : Int := (f_81 x0 x1 d).1
def g_81 (x0 x1 : Int) (d : mD) : mD := (f_81 x0 x1 d).2
theorem k_81 {E : mO × tW} {K : tK} {d : mD} {x0 x1 : Int} (hS : Safe d) (hx0 : stB x0) (p1 : 0 ≤ x1 ∧ x1 ≤ 59) (h : (0 ≤ (v_81 x0 x1 d) ∧ (v_81 x0 x1 d) ≤ 200) → (∀ b : Int, (b < x0 + 13 ∨ x0 + 13 < b) ∧ (b < x0 + 18 ∨ x0 + 48 < b) ∧ (b < x0 + 57 ∨ x0 + 61 < b) → (g_81 x0 x1 d) b = d b) → Safe (g_81 x0 x1 d) → K (.inl (some (0, (v_81 x0 x1 d)))) (g_81 x0 x1 d)) : tCall E 81 [.inr (6, x0), .inl (0, x1)] d K := by
  simp only [v_81, g_81] at h
  refine t_81_0 ?_
  refine ⟨by omega, by omega, ?_⟩
  have q4 := r_8_1 hS (stB.ti hx0) x1
  refine k_79 hS hx0 (by omega) (fun e2 => ?_)
  refine t_81_25 ?_
  refine ⟨by omega, by omega, ?_⟩
  have q5 := r_8_4 hS (stB.ti hx0) x1
  have q6 := r_8_3 hS (stB.ti hx0) x1
  have q7 := r_6_1 hS hx0 ((0 : Int))
  refine l_81_48 hx0 p1 (1300 - ((d (x0 + 49 + 3) x1) + (d (x0 + 1) 0)) : Int).toNat (d (x0 + 49 + 1) x1) (d (x0 + 49 + 4) x1) (v_79 x0 (d (x0 + 49 + 1) x1) d) 0 ((d (x0 + 49 + 3) x1) + (d (x0 + 1) 0))  d hS (by omega) (by omega) (by omega) (by omega) (by omega) (by omega) (by omega) ?_
  intro e F hS_
  have y0 : f_81 x0 x1 d = lp_81_48 x0 x1 (1300 - ((d (x0 + 49 + 3) x1) + (d (x0 + 1) 0)) : Int).toNat (d (x0 + 49 + 1) x1) (d (x0 + 49 + 4) x1) (v_79 x0 (d (x0 + 49 + 1) x1) d) 0 ((d (x0 + 49 + 3) x1) + (d (x0 + 1) 0)) d := by simp only [f_81]
  rw [y0] at h
  exact h e F hS_
def st_82_9 (x0 : Int) (r9 : Int → Int → mD → Int × mD) (x1 x2 : Int) (d : mD) : Int × mD := if x1 < d (x0 + 57) 5 then (if d x0 1 < x2 then (x1, g_116 (x0 + 57) x1 d) else r9 (x1 + 1) x2 (mset (mset (mset d x0 1 ((d x0 1) - x2)) (x0 + 10 + 2) (d (x0 + 57 + 1) (d (x0 + 57 + 5) x1)) ((d (x0 + 10 + 2) (d (x0 + 57 + 1) (d (x0 + 57 + 5) x1))) + x2)) (x0 + 57 + 4) (d (x0 + 57 + 5) x1) 2)) else (x1, g_116 (x0 + 57) x1 d)
def lp_82_9 (x0 : Int) : Nat → Int → Int → mD → Int × mD
  | 0 => st_82_9 x0 (fun _ _ d => (0, d))
  | n + 1 => st_82_9 x0 (lp_82_9 x0 n)
theorem ls_82_9 {E : mO × tW} {K : tK} {x0 : Int} (hx0 : stB x0) (N9 : Int) (r9 : Int → Int → mD → Int × mD) (ih9 : ∀ (x1 x2 : Int) (v3 : tV) (d : mD), Safe d → (0 ≤ x1 ∧ x1 ≤ 200) → (0 ≤ x2 ∧ x2 ≤ 99) → (x1 ≤ d (x0 + 57) 5) → 0 ≤ 200 - x1 → 200 - x1 < N9 → ((0 ≤ (r9 x1 x2 d).1 ∧ (r9 x1 x2 d).1 ≤ 200) → (∀ b : Int, (b < x0 ∨ x0 < b) ∧ (b < x0 + 12 ∨ x0 + 12 < b) ∧ (b < x0 + 57 ∨ x0 + 57 < b) ∧ (b < x0 + 61 ∨ x0 + 62 < b) → (r9 x1 x2 d).2 b = d b) → (r9 x1 x2 d).2 x0 2 = d x0 2 → Safe (r9 x1 x2 d).2 → K (.inl (some (0, (r9 x1 x2 d).1))) (r9 x1 x2 d).2) → tRun E 82 (9, [.inr (6, x0), .inl (0, x1), .inl (0, x2), v3], [], 0, 0, d) K) (x1 x2 : Int) (v3 : tV) (d : mD) (hS : Safe d) (i0 : 0 ≤ x1 ∧ x1 ≤ 200) (i1 : 0 ≤ x2 ∧ x2 ≤ 99) (i2 : x1 ≤ d (x0 + 57) 5) (hm : 200 - x1 ≤ N9) (h : (0 ≤ (st_82_9 x0 r9 x1 x2 d).1 ∧ (st_82_9 x0 r9 x1 x2 d).1 ≤ 200) → (∀ b : Int, (b < x0 ∨ x0 < b) ∧ (b < x0 + 12 ∨ x0 + 12 < b) ∧ (b < x0 + 57 ∨ x0 + 57 < b) ∧ (b < x0 + 61 ∨ x0 + 62 < b) → (st_82_9 x0 r9 x1 x2 d).2 b = d b) → (st_82_9 x0 r9 x1 x2 d).2 x0 2 = d x0 2 → Safe (st_82_9 x0 r9 x1 x2 d).2 → K (.inl (some (0, (st_82_9 x0 r9 x1 x2 d).1))) (st_82_9 x0 r9 x1 x2 d).2) : tRun E 82 (9, [.inr (6, x0), .inl (0, x1), .inl (0, x2), v3], [], 0, 0, d) K := by
  refine t_82_9 ?_
  have q1 := r_9_f5 hS (stB.to hx0)
  refine ⟨⟨m_inR (by omega) (by omega), m_inR (by omega) (by omega)⟩, fun c0 => ?_, fun c0 => ?_⟩
  · refine k_116 hS (stB.to hx0) (by omega) (by omega) (fun F1 hS1 => ?_)
    refine t_82_93 ?_
    have y0 : st_82_9 x0 r9 x1 x2 d = (x1, g_116 (x0 + 57) x1 d) := by simp only [st_82_9, if_neg (show ¬ x1 < d (x0 + 57) 5 from Int.not_lt.mpr c0)]
    rw [y0] at h
    exact h (show 0 ≤ x1 ∧ x1 ≤ 200 from (by omega)) (show ∀ b : Int, (b < x0 ∨ x0 < b) ∧ (b < x0 + 12 ∨ x0 + 12 < b) ∧ (b < x0 + 57 ∨ x0 + 57 < b) ∧ (b < x0 + 61 ∨ x0 + 62 < b) → (g_116 (x0 + 57) x1 d) b = d b from fun b hb => F1 b (by omega)) (show (g_116 (x0 + 57) x1 d) x0 2 = d x0 2 from congrFun (F1 x0 (by omega)) 2) hS1
  · have q2 := r_6_f1 hS hx0
    refine ⟨⟨m_inR (by omega) (by omega), m_inR (by omega) (by omega)⟩, fun c1 => ?_, fun c1 => ?_⟩
    · refine k_116 hS (stB.to hx0) (by omega) (by omega) (fun F2 hS2 => ?_)
      refine t_82_93 ?_
      have y0 : st_82_9 x0 r9 x1 x2 d = (x1, g_116 (x0 + 57) x1 d) := by simp only [st_82_9, if_pos (show x1 < d (x0 + 57) 5 from c0), if_pos (show d x0 1 < x2 from c1)]
      rw [y0] at h
      exact h (show 0 ≤ x1 ∧ x1 ≤ 200 from (by omega)) (show ∀ b : Int, (b < x0 ∨ x0 < b) ∧ (b < x0 + 12 ∨ x0 + 12 < b) ∧ (b < x0 + 57 ∨ x0 + 57 < b) ∧ (b < x0 + 61 ∨ x0 + 62 < b) → (g_116 (x0 + 57) x1 d) b = d b from fun b hb => F2 b (by omega)) (show (g_116 (x0 + 57) x1 d) x0 2 = d x0 2 from congrFun (F2 x0 (by omega)) 2) hS2
    · refine ⟨by omega, ?_⟩
      have hS3 : Safe (mset d x0 1 ((d x0 1) - x2)) := s_6_f1 hS hx0 (by omega)
      have q3 := r_9_5 hS (stB.to hx0) x1
      rw [mset_ne (d := d) (a := x0) (i := (1 : Int)) (v := (d x0 1) - x2) (b := x0 + 57 + 1) (by omega)]
      have q4 := r_9_1 hS (stB.to hx0) (d (x0 + 57 + 5) x1)
      rw [mset_ne (d := d) (a := x0) (i := (1 : Int)) (v := (d x0 1) - x2) (b := x0 + 10 + 2) (by omega)]
      refine ⟨by omega, by omega, by omega, ?_⟩
      have hS4 : Safe (mset (mset d x0 1 ((d x0 1) - x2)) (x0 + 10 + 2) (d (x0 + 57 + 1) (d (x0 + 57 + 5) x1)) ((d (x0 + 10 + 2) (d (x0 + 57 + 1) (d (x0 + 57 + 5) x1))) + x2)) := s_4_2 hS3 (stB.pe hx0)
      refine ⟨by omega, ?_⟩
      have hS5 : Safe (mset (mset (mset d x0 1 ((d x0 1) - x2)) (x0 + 10 + 2) (d (x0 + 57 + 1) (d (x0 + 57 + 5) x1)) ((d (x0 + 10 + 2) (d (x0 + 57 + 1) (d (x0 + 57 + 5) x1))) + x2)) (x0 + 57 + 4) (d (x0 + 57 + 5) x1) 2) := s_9_4 hS4 (stB.to hx0) (by omega)
      have q5 := r_9_f5 hS5 (stB.to hx0)
      have q6 : (mset (mset (mset d x0 1 ((d x0 1) - x2)) (x0 + 10 + 2) (d (x0 + 57 + 1) (d (x0 + 57 + 5) x1)) ((d (x0 + 10 + 2) (d (x0 + 57 + 1) (d (x0 + 57 + 5) x1))) + x2)) (x0 + 57 + 4) (d (x0 + 57 + 5) x1) 2) (x0 + 57) 5 = d (x0 + 57) 5 := ((congrFun (mset_ne (by omega)) 5).trans (congrFun (mset_ne (by omega)) 5)).trans (congrFun (mset_ne (by omega)) 5)
      refine ih9 (x1 + 1) x2 (.inl (0, d (x0 + 57 + 5) x1)) (mset (mset (mset d x0 1 ((d x0 1) - x2)) (x0 + 10 + 2) (d (x0 + 57 + 1) (d (x0 + 57 + 5) x1)) ((d (x0 + 10 + 2) (d (x0 + 57 + 1) (d (x0 + 57 + 5) x1))) + x2)) (x0 + 57 + 4) (d (x0 + 57 + 5) x1) 2) hS5 (by omega) (by omega) (by omega) (by omega) (by omega) ?_
      intro e F k0 hS_
      have y0 : st_82_9 x0 r9 x1 x2 d = r9 (x1 + 1) x2 (mset (mset (mset d x0 1 ((d x0 1) - x2)) (x0 + 10 + 2) (d (x0 + 57 + 1) (d (x0 + 57 + 5) x1)) ((d (x0 + 10 + 2) (d (x0 + 57 + 1) (d (x0 + 57 + 5) x1))) + x2)) (x0 + 57 + 4) (d (x0 + 57 + 5) x1) 2) := by simp only [st_82_9, if_pos (show x1 < d (x0 + 57) 5 from c0), if_neg (show ¬ d x0 1 < x2 from Int.not_lt.mpr c1)]
      rw [y0] at h
      exact h e (fun b hb => (F b hb).trans ((show ∀ b : Int, (b < x0 ∨ x0 < b) ∧ (b < x0 + 12 ∨ x0 + 12 < b) ∧ (b < x0 + 57 ∨ x0 + 57 < b) ∧ (b < x0 + 61 ∨ x0 + 62 < b) → (mset (mset (mset d x0 1 ((d x0 1) - x2)) (x0 + 10 + 2) (d (x0 + 57 + 1) (d (x0 + 57 + 5) x1)) ((d (x0 + 10 + 2) (d (x0 + 57 + 1) (d (x0 + 57 + 5) x1))) + x2)) (x0 + 57 + 4) (d (x0 + 57 + 5) x1) 2) b = d b from fun b hb => (mset_ne (by omega)).trans ((mset_ne (by omega)).trans (mset_ne (by omega)))) b hb)) (k0.trans (((congrFun (mset_ne (by omega)) 2).trans (congrFun (mset_ne (by omega)) 2)).trans (mset_ni (by omega)))) hS_
theorem l_82_9 {E : mO × tW} {K : tK} {x0 : Int} (hx0 : stB x0) : ∀ (n : Nat) (x1 x2 : Int) (v3 : tV) (d : mD), Safe d → (0 ≤ x1 ∧ x1 ≤ 200) → (0 ≤ x2 ∧ x2 ≤ 99) → (x1 ≤ d (x0 + 57) 5) → 200 - x1 ≤ (n : Int) → ((0 ≤ (lp_82_9 x0 n x1 x2 d).1 ∧ (lp_82_9 x0 n x1 x2 d).1 ≤ 200) → (∀ b : Int, (b < x0 ∨ x0 < b) ∧ (b < x0 + 12 ∨ x0 + 12 < b) ∧ (b < x0 + 57 ∨ x0 + 57 < b) ∧ (b < x0 + 61 ∨ x0 + 62 < b) → (lp_82_9 x0 n x1 x2 d).2 b = d b) → (lp_82_9 x0 n x1 x2 d).2 x0 2 = d x0 2 → Safe (lp_82_9 x0 n x1 x2 d).2 → K (.inl (some (0, (lp_82_9 x0 n x1 x2 d).1))) (lp_82_9 x0 n x1 x2 d).2) → tRun E 82 (9, [.inr (6, x0), .inl (0, x1), .inl (0, x2), v3], [], 0, 0, d) K := by
  intro n
  induction n with
  | zero =>
    intro x1 x2 v3 d hS i0 i1 i2 hm  h
    exact ls_82_9 hx0 0 _ (fun _ _ _ _ _ _ _ _ m0 m1 _ => absurd m1 (by omega)) x1 x2 v3 d hS i0 i1 i2 hm  h
  | succ n ih =>
    intro x1 x2 v3 d hS i0 i1 i2 hm  h
    exact ls_82_9 hx0 ((n + 1 : Nat) : Int) _ (fun x1 x2 v3 d hS i0 i1 i2  m0 m1 h => ih x1 x2 v3 d hS i0 i1 i2 (by omega)  h) x1 x2 v3 d hS i0 i1 i2 hm  h
def f_82 (x0 : Int) (d : mD) : Int × mD := lp_82_9 x0 (200 - 0 : Int).toNat 0 (d (x0 + 1) 4) d
def v_82 (x0 : Int) (d : mD) : Int := (f_82 x0 d).1
def g_82 (x0 : Int) (d : mD) : mD := (f_82 x0 d).2
theorem k_82 {E : mO × tW} {K : tK} {d : mD} {x0 : Int} (hS : Safe d) (hx0 : stB x0) (h : (0 ≤ (v_82 x0 d) ∧ (v_82 x0 d) ≤ 200) → (∀ b : Int, (b < x0 ∨ x0 < b) ∧ (b < x0 + 12 ∨ x0 + 12 < b) ∧ (b < x0 + 57 ∨ x0 + 57 < b) ∧ (b < x0 + 61 ∨ x0 + 62 < b) → (g_82 x0 d) b = d b) → (g_82 x0 d) x0 2 = d x0 2 → Safe (g_82 x0 d) → K (.inl (some (0, (v_82 x0 d)))) (g_82 x0 d)) : tCall E 82 [.inr (6, x0)] d K := by
  simp only [v_82, g_82] at h
  refine t_82_0 ?_
  refine ⟨by omega, ?_⟩
  have q7 := r_6_1 hS hx0 ((4 : Int))
  have q8 := r_9_f5 hS (stB.to hx0)
  refine l_82_9 hx0 (200 - 0 : Int).toNat 0 (d (x0 + 1) 4) tu d hS (by omega) (by omega) (by omega) (by omega) ?_
  intro e F k0 hS_
  have y0 : f_82 x0 d = lp_82_9 x0 (200 - 0 : Int).toNat 0 (d (x0 + 1) 4) d := by simp only [f_82]
  rw [y0] at h
  exact h e F k0 hS_
def st_83_4 (x0 x1 : Int) (r4 : Int → Int → mD → Int) (x2 x3 : Int) (d : mD) : Int := if x3 < d (x0 + 57) 0 then (if d (x0 + 49 + 1) (d (x0 + 57 + 2) x3) = x1 then r4 (x2 + 1) (x3 + 1) d else r4 (x2 + 0) (x3 + 1) d) else x2
def lp_83_4 (x0 x1 : Int) : Nat → Int → Int → mD → Int
  | 0 => st_83_4 x0 x1 (fun _ _ d => 0)
  | n + 1 => st_83_4 x0 x1 (lp_83_4 x0 x1 n)
theorem ls_83_4 {E : mO × tW} {K : tK} {x0 x1 : Int} (hx0 : stB x0) (p1 : -2147483648 ≤ x1 ∧ x1 ≤ 2147483647) (N4 : Int) (r4 : Int → Int → mD → Int) (ih4 : ∀ (x2 x3 : Int) (d : mD), Safe d → (0 ≤ x3 ∧ x3 ≤ 200) → (0 ≤ x2 ∧ x2 ≤ x3) → 0 ≤ 200 - x3 → 200 - x3 < N4 → ((0 ≤ (r4 x2 x3 d) ∧ (r4 x2 x3 d) ≤ 200) → K (.inl (some (0, (r4 x2 x3 d)))) d) → tRun E 83 (4, [.inr (6, x0), .inl (0, x1), .inl (0, x2), .inl (0, x3)], [], 0, 0, d) K) (x2 x3 : Int) (d : mD) (hS : Safe d) (i0 : 0 ≤ x3 ∧ x3 ≤ 200) (i1 : 0 ≤ x2 ∧ x2 ≤ x3) (hm : 200 - x3 ≤ N4) (h : (0 ≤ (st_83_4 x0 x1 r4 x2 x3 d) ∧ (st_83_4 x0 x1 r4 x2 x3 d) ≤ 200) → K (.inl (some (0, (st_83_4 x0 x1 r4 x2 x3 d)))) d) : tRun E 83 (4, [.inr (6, x0), .inl (0, x1), .inl (0, x2), .inl (0, x3)], [], 0, 0, d) K := by
  refine t_83_4 ?_
  have q1 := r_9_f0 hS (stB.to hx0)
  refine ⟨⟨m_inR (by omega) (by omega), m_inR (by omega) (by omega)⟩, fun c0 => ?_, fun c0 => ?_⟩
  · have y0 : st_83_4 x0 x1 r4 x2 x3 d = x2 := by simp only [st_83_4, if_neg (show ¬ x3 < d (x0 + 57) 0 from Int.not_lt.mpr c0)]
    rw [y0] at h
    exact h (show 0 ≤ x2 ∧ x2 ≤ 200 from (by omega))
  · have q2 := r_9_2 hS (stB.to hx0) x3
    have q3 := r_8_1 hS (stB.ti hx0) (d (x0 + 57 + 2) x3)
    refine ⟨by omega, by omega, ⟨m_inR (by omega) (by omega), m_inR (by omega) (by omega)⟩, fun c1 => ?_, fun c1 => ?_⟩
    · refine ih4 (x2 + 0) (x3 + 1)  d hS (by omega) (by omega) (by omega) (by omega) ?_
      intro e
      have y0 : st_83_4 x0 x1 r4 x2 x3 d = r4 (x2 + 0) (x3 + 1) d := by simp only [st_83_4, if_pos (show x3 < d (x0 + 57) 0 from c0), if_neg (show ¬ d (x0 + 49 + 1) (d (x0 + 57 + 2) x3) = x1 from c1)]
      rw [y0] at h
      exact h e
    · refine ih4 (x2 + 1) (x3 + 1)  d hS (by omega) (by omega) (by omega) (by omega) ?_
      intro e
      have y0 : st_83_4 x0 x1 r4 x2 x3 d = r4 (x2 + 1) (x3 + 1) d := by simp only [st_83_4, if_pos (show x3 < d (x0 + 57) 0 from c0), if_pos (show d (x0 + 49 + 1) (d (x0 + 57 + 2) x3) = x1 from c1)]
      rw [y0] at h
      exact h e
theorem l_83_4 {E : mO × tW} {K : tK} {x0 x1 : Int} (hx0 : stB x0) (p1 : -2147483648 ≤ x1 ∧ x1 ≤ 2147483647) : ∀ (n : Nat) (x2 x3 : Int) (d : mD), Safe d → (0 ≤ x3 ∧ x3 ≤ 200) → (0 ≤ x2 ∧ x2 ≤ x3) → 200 - x3 ≤ (n : Int) → ((0 ≤ (lp_83_4 x0 x1 n x2 x3 d) ∧ (lp_83_4 x0 x1 n x2 x3 d) ≤ 200) → K (.inl (some (0, (lp_83_4 x0 x1 n x2 x3 d)))) d) → tRun E 83 (4, [.inr (6, x0), .inl (0, x1), .inl (0, x2), .inl (0, x3)], [], 0, 0, d) K := by
  intro n
  induction n with
  | zero =>
    intro x2 x3  d hS i0 i1 hm  h
    exact ls_83_4 hx0 p1 0 _ (fun _ _  _ _ _ _ m0 m1 _ => absurd m1 (by omega)) x2 x3  d hS i0 i1 hm  h
  | succ n ih =>
    intro x2 x3  d hS i0 i1 hm  h
    exact ls_83_4 hx0 p1 ((n + 1 : Nat) : Int) _ (fun x2 x3  d hS i0 i1  m0 m1 h => ih x2 x3  d hS i0 i1 (by omega)  h) x2 x3  d hS i0 i1 hm  h
def v_83 (x0 x1 : Int) (d : mD) : Int := lp_83_4 x0 x1 (200 - 0 : Int).toNat 0 0 d
theorem k_83 {E : mO × tW} {K : tK} {d : mD} {x0 x1 : Int} (hS : Safe d) (hx0 : stB x0) (p1 : -2147483648 ≤ x1 ∧ x1 ≤ 2147483647) (h : (0 ≤ (v_83 x0 x1 d) ∧ (v_83 x0 x1 d) ≤ 200) → K (.inl (some (0, (v_83 x0 x1 d)))) d) : tCall E 83 [.inr (6, x0), .inl (0, x1)] d K := by
  refine t_83_0 ?_
  refine l_83_4 hx0 p1 (200 - 0 : Int).toNat 0 0  d hS (by omega) (by omega) (by omega) ?_
  intro e
  have y0 : v_83 x0 x1 d = lp_83_4 x0 x1 (200 - 0 : Int).toNat 0 0 d := by simp only [v_83]
  rw [y0] at h
  exact h e
def st_84_36 (x0 : Int) (r4 : Int → Int → mD → Int) (r36 : Int → Int → Int → Int → mD → Int) (x1 x2 x3 x4 : Int) (d : mD) : Int := if x4 < x2 then (if d (x0 + 57 + 3) x4 = d (x0 + 57 + 3) x2 then (if d (x0 + 49 + 1) (d (x0 + 57 + 2) x4) = x3 then r36 (x1 + 1) x2 x3 (x4 + 1) d else r36 x1 x2 x3 (x4 + 1) d) else r36 x1 x2 x3 (x4 + 1) d) else r4 x1 (x2 + 1) d
def lp_84_36 (x0 : Int) (r4 : Int → Int → mD → Int) : Nat → Int → Int → Int → Int → mD → Int
  | 0 => st_84_36 x0 r4 (fun _ _ _ _ d => 0)
  | n + 1 => st_84_36 x0 r4 (lp_84_36 x0 r4 n)
theorem ls_84_36 {E : mO × tW} {K : tK} {x0 : Int} (hx0 : stB x0) (N4 : Int) (r4 : Int → Int → mD → Int) (ih4 : ∀ (x1 x2 : Int) (v3 v4 : tV) (d : mD), Safe d → (0 ≤ x2 ∧ x2 ≤ 200) → (0 ≤ x1 ∧ x1 ≤ 200 * x2) → 0 ≤ 200 - x2 → 200 - x2 < N4 → ((0 ≤ (r4 x1 x2 d) ∧ (r4 x1 x2 d) ≤ 40000) → K (.inl (some (0, (r4 x1 x2 d)))) d) → tRun E 84 (4, [.inr (6, x0), .inl (0, x1), .inl (0, x2), v3, v4], [], 0, 0, d) K) (N36 : Int) (r36 : Int → Int → Int → Int → mD → Int) (ih36 : ∀ (x1 x2 x3 x4 : Int) (d : mD), Safe d → (0 ≤ x2 ∧ x2 ≤ 199) → (0 ≤ x3 ∧ x3 ≤ 15) → (0 ≤ x4 ∧ x4 ≤ x2) → (0 ≤ x1 ∧ x1 ≤ 200 * x2 + x4) → 200 - x2 ≤ N4 → 0 ≤ 200 - x4 → 200 - x4 < N36 → ((0 ≤ (r36 x1 x2 x3 x4 d) ∧ (r36 x1 x2 x3 x4 d) ≤ 40000) → K (.inl (some (0, (r36 x1 x2 x3 x4 d)))) d) → tRun E 84 (36, [.inr (6, x0), .inl (0, x1), .inl (0, x2), .inl (0, x3), .inl (0, x4)], [], 0, 0, d) K) (x1 x2 x3 x4 : Int) (d : mD) (hS : Safe d) (i0 : 0 ≤ x2 ∧ x2 ≤ 199) (i1 : 0 ≤ x3 ∧ x3 ≤ 15) (i2 : 0 ≤ x4 ∧ x4 ≤ x2) (i3 : 0 ≤ x1 ∧ x1 ≤ 200 * x2 + x4) (hm : 200 - x4 ≤ N36) (m4 : 200 - x2 ≤ N4) (h : (0 ≤ (st_84_36 x0 r4 r36 x1 x2 x3 x4 d) ∧ (st_84_36 x0 r4 r36 x1 x2 x3 x4 d) ≤ 40000) → K (.inl (some (0, (st_84_36 x0 r4 r36 x1 x2 x3 x4 d)))) d) : tRun E 84 (36, [.inr (6, x0), .inl (0, x1), .inl (0, x2), .inl (0, x3), .inl (0, x4)], [], 0, 0, d) K := by
  refine t_84_36 ?_
  refine ⟨⟨m_inR (by omega) (by omega), m_inR (by omega) (by omega)⟩, fun c0 => ?_, fun c0 => ?_⟩
  · refine ih4 x1 (x2 + 1) (.inl (0, x3)) (.inl (0, x4)) d hS (by omega) (by omega) (by omega) (by omega) ?_
    intro e
    have y0 : st_84_36 x0 r4 r36 x1 x2 x3 x4 d = r4 x1 (x2 + 1) d := by simp only [st_84_36, if_neg (show ¬ x4 < x2 from Int.not_lt.mpr c0)]
    rw [y0] at h
    exact h e
  · have q1 := r_9_3 hS (stB.to hx0) x4
    have q2 := r_9_3 hS (stB.to hx0) x2
    refine ⟨by omega, by omega, ⟨m_inR (by omega) (by omega), m_inR (by omega) (by omega)⟩, fun c1 => ?_, fun c1 => ?_⟩
    · refine ih36 x1 x2 x3 (x4 + 1)  d hS (by omega) (by omega) (by omega) (by omega) (by omega) (by omega) (by omega) ?_
      intro e
      have y0 : st_84_36 x0 r4 r36 x1 x2 x3 x4 d = r36 x1 x2 x3 (x4 + 1) d := by simp only [st_84_36, if_pos (show x4 < x2 from c0), if_neg (show ¬ d (x0 + 57 + 3) x4 = d (x0 + 57 + 3) x2 from c1)]
      rw [y0] at h
      exact h e
    · have q3 := r_9_2 hS (stB.to hx0) x4
      have q4 := r_8_1 hS (stB.ti hx0) (d (x0 + 57 + 2) x4)
      refine ⟨by omega, by omega, ⟨m_inR (by omega) (by omega), m_inR (by omega) (by omega)⟩, fun c2 => ?_, fun c2 => ?_⟩
      · refine ih36 x1 x2 x3 (x4 + 1)  d hS (by omega) (by omega) (by omega) (by omega) (by omega) (by omega) (by omega) ?_
        intro e
        have y0 : st_84_36 x0 r4 r36 x1 x2 x3 x4 d = r36 x1 x2 x3 (x4 + 1) d := by simp only [st_84_36, if_pos (show x4 < x2 from c0), if_pos (show d (x0 + 57 + 3) x4 = d (x0 + 57 + 3) x2 from c1), if_neg (show ¬ d (x0 + 49 + 1) (d (x0 + 57 + 2) x4) = x3 from c2)]
        rw [y0] at h
        exact h e
      · refine ih36 (x1 + 1) x2 x3 (x4 + 1)  d hS (by omega) (by omega) (by omega) (by omega) (by omega) (by omega) (by omega) ?_
        intro e
        have y0 : st_84_36 x0 r4 r36 x1 x2 x3 x4 d = r36 (x1 + 1) x2 x3 (x4 + 1) d := by simp only [st_84_36, if_pos (show x4 < x2 from c0), if_pos (show d (x0 + 57 + 3) x4 = d (x0 + 57 + 3) x2 from c1), if_pos (show d (x0 + 49 + 1) (d (x0 + 57 + 2) x4) = x3 from c2)]
        rw [y0] at h
        exact h e
theorem l_84_36 {E : mO × tW} {K : tK} {x0 : Int} (hx0 : stB x0) (N4 : Int) (r4 : Int → Int → mD → Int) (ih4 : ∀ (x1 x2 : Int) (v3 v4 : tV) (d : mD), Safe d → (0 ≤ x2 ∧ x2 ≤ 200) → (0 ≤ x1 ∧ x1 ≤ 200 * x2) → 0 ≤ 200 - x2 → 200 - x2 < N4 → ((0 ≤ (r4 x1 x2 d) ∧ (r4 x1 x2 d) ≤ 40000) → K (.inl (some (0, (r4 x1 x2 d)))) d) → tRun E 84 (4, [.inr (6, x0), .inl (0, x1), .inl (0, x2), v3, v4], [], 0, 0, d) K) : ∀ (n : Nat) (x1 x2 x3 x4 : Int) (d : mD), Safe d → (0 ≤ x2 ∧ x2 ≤ 199) → (0 ≤ x3 ∧ x3 ≤ 15) → (0 ≤ x4 ∧ x4 ≤ x2) → (0 ≤ x1 ∧ x1 ≤ 200 * x2 + x4) → 200 - x4 ≤ (n : Int) → 200 - x2 ≤ N4 → ((0 ≤ (lp_84_36 x0 r4 n x1 x2 x3 x4 d) ∧ (lp_84_36 x0 r4 n x1 x2 x3 x4 d) ≤ 40000) → K (.inl (some (0, (lp_84_36 x0 r4 n x1 x2 x3 x4 d)))) d) → tRun E 84 (36, [.inr (6, x0), .inl (0, x1), .inl (0, x2), .inl (0, x3), .inl (0, x4)], [], 0, 0, d) K := by
  intro n
  induction n with
  | zero =>
    intro x1 x2 x3 x4  d hS i0 i1 i2 i3 hm m4 h
    exact ls_84_36 hx0 N4 r4 ih4 0 _ (fun _ _ _ _  _ _ _ _ _ _ _ m0 m1 _ => absurd m1 (by omega)) x1 x2 x3 x4  d hS i0 i1 i2 i3 hm m4 h
  | succ n ih =>
    intro x1 x2 x3 x4  d hS i0 i1 i2 i3 hm m4 h
    exact ls_84_36 hx0 N4 r4 ih4 ((n + 1 : Nat) : Int) _ (fun x1 x2 x3 x4  d hS i0 i1 i2 i3 m4 m0 m1 h => ih x1 x2 x3 x4  d hS i0 i1 i2 i3 (by omega) m4 h) x1 x2 x3 x4  d hS i0 i1 i2 i3 hm m4 h
def st_84_4 (x0 : Int) (r4 : Int → Int → mD → Int) (x1 x2 : Int) (d : mD) : Int := if x2 < d (x0 + 57) 0 then lp_84_36 x0 r4 (200 - 0 : Int).toNat x1 x2 (d (x0 + 49 + 1) (d (x0 + 57 + 2) x2)) 0 d else x1
def lp_84_4 (x0 : Int) : Nat → Int → Int → mD → Int
  | 0 => st_84_4 x0 (fun _ _ d => 0)
  | n + 1 => st_84_4 x0 (lp_84_4 x0 n)
theorem ls_84_4 {E : mO × tW} {K : tK} {x0 : Int} (hx0 : stB x0) (N4 : Int) (r4 : Int → Int → mD → Int) (ih4 : ∀ (x1 x2 : Int) (v3 v4 : tV) (d : mD), Safe d → (0 ≤ x2 ∧ x2 ≤ 200) → (0 ≤ x1 ∧ x1 ≤ 200 * x2) → 0 ≤ 200 - x2 → 200 - x2 < N4 → ((0 ≤ (r4 x1 x2 d) ∧ (r4 x1 x2 d) ≤ 40000) → K (.inl (some (0, (r4 x1 x2 d)))) d) → tRun E 84 (4, [.inr (6, x0), .inl (0, x1), .inl (0, x2), v3, v4], [], 0, 0, d) K) (x1 x2 : Int) (v3 v4 : tV) (d : mD) (hS : Safe d) (i0 : 0 ≤ x2 ∧ x2 ≤ 200) (i1 : 0 ≤ x1 ∧ x1 ≤ 200 * x2) (hm : 200 - x2 ≤ N4) (h : (0 ≤ (st_84_4 x0 r4 x1 x2 d) ∧ (st_84_4 x0 r4 x1 x2 d) ≤ 40000) → K (.inl (some (0, (st_84_4 x0 r4 x1 x2 d)))) d) : tRun E 84 (4, [.inr (6, x0), .inl (0, x1), .inl (0, x2), v3, v4], [], 0, 0, d) K := by
  refine t_84_4 ?_
  have q5 := r_9_f0 hS (stB.to hx0)
  refine ⟨⟨m_inR (by omega) (by omega), m_inR (by omega) (by omega)⟩, fun c0 => ?_, fun c0 => ?_⟩
  · have y0 : st_84_4 x0 r4 x1 x2 d = x1 := by simp only [st_84_4, if_neg (show ¬ x2 < d (x0 + 57) 0 from Int.not_lt.mpr c0)]
    rw [y0] at h
    exact h (show 0 ≤ x1 ∧ x1 ≤ 40000 from (by omega))
  · have q6 := r_9_2 hS (stB.to hx0) x2
    refine ⟨by omega, by omega, ?_⟩
    have q7 := r_8_1 hS (stB.ti hx0) (d (x0 + 57 + 2) x2)
    refine l_84_36 hx0 N4 r4 ih4 (200 - 0 : Int).toNat x1 x2 (d (x0 + 49 + 1) (d (x0 + 57 + 2) x2)) 0  d hS (by omega) (by omega) (by omega) (by omega) (by omega) (by omega) ?_
    intro e
    have y0 : st_84_4 x0 r4 x1 x2 d = lp_84_36 x0 r4 (200 - 0 : Int).toNat x1 x2 (d (x0 + 49 + 1) (d (x0 + 57 + 2) x2)) 0 d := by simp only [st_84_4, if_pos (show x2 < d (x0 + 57) 0 from c0)]
    rw [y0] at h
    exact h e
theorem l_84_4 {E : mO × tW} {K : tK} {x0 : Int} (hx0 : stB x0) : ∀ (n : Nat) (x1 x2 : Int) (v3 v4 : tV) (d : mD), Safe d → (0 ≤ x2 ∧ x2 ≤ 200) → (0 ≤ x1 ∧ x1 ≤ 200 * x2) → 200 - x2 ≤ (n : Int) → ((0 ≤ (lp_84_4 x0 n x1 x2 d) ∧ (lp_84_4 x0 n x1 x2 d) ≤ 40000) → K (.inl (some (0, (lp_84_4 x0 n x1 x2 d)))) d) → tRun E 84 (4, [.inr (6, x0), .inl (0, x1), .inl (0, x2), v3, v4], [], 0, 0, d) K := by
  intro n
  induction n with
  | zero =>
    intro x1 x2 v3 v4 d hS i0 i1 hm  h
    exact ls_84_4 hx0 0 _ (fun _ _ _ _ _ _ _ _ m0 m1 _ => absurd m1 (by omega)) x1 x2 v3 v4 d hS i0 i1 hm  h
  | succ n ih =>
    intro x1 x2 v3 v4 d hS i0 i1 hm  h
    exact ls_84_4 hx0 ((n + 1 : Nat) : Int) _ (fun x1 x2 v3 v4 d hS i0 i1  m0 m1 h => ih x1 x2 v3 v4 d hS i0 i1 (by omega)  h) x1 x2 v3 v4 d hS i0 i1 hm  h
def v_84 (x0 : Int) (d : mD) : Int := lp_84_4 x0 (200 - 0 : Int).toNat 0 0 d
theorem k_84 {E : mO × tW} {K : tK} {d : mD} {x0 : Int} (hS : Safe d) (hx0 : stB x0) (h : (0 ≤ (v_84 x0 d) ∧ (v_84 x0 d) ≤ 40000) → K (.inl (some (0, (v_84 x0 d)))) d) : tCall E 84 [.inr (6, x0)] d K := by
  refine t_84_0 ?_
  refine l_84_4 hx0 (200 - 0 : Int).toNat 0 0 tu tu d hS (by omega) (by omega) (by omega) ?_
  intro e
  have y0 : v_84 x0 d = lp_84_4 x0 (200 - 0 : Int).toNat 0 0 d := by simp only [v_84]
  rw [y0] at h
  exact h e
def v_76 (x0 x1 : Int) (d : mD) : Int := v_81 x0 x1 (mset d (x0 + 49 + 6) x1 2)
def g_76 (x0 x1 : Int) (d : mD) : mD := g_81 x0 x1 (mset d (x0 + 49 + 6) x1 2)
theorem k_76 {E : mO × tW} {K : tK} {d : mD} {x0 x1 : Int} (hS : Safe d) (hx0 : stB x0) (p1 : 0 ≤ x1 ∧ x1 ≤ 59) (h : (0 ≤ (v_76 x0 x1 d) ∧ (v_76 x0 x1 d) ≤ 200) → (∀ b : Int, (b < x0 + 13 ∨ x0 + 13 < b) ∧ (b < x0 + 18 ∨ x0 + 48 < b) ∧ (b < x0 + 55 ∨ x0 + 55 < b) ∧ (b < x0 + 57 ∨ x0 + 61 < b) → (g_76 x0 x1 d) b = d b) → Safe (g_76 x0 x1 d) → K (.inl (some (0, (v_76 x0 x1 d)))) (g_76 x0 x1 d)) : tCall E 76 [.inr (6, x0), .inl (0, x1)] d K := by
  refine t_76_0 ?_
  refine ⟨by omega, ?_⟩
  have hS1 : Safe (mset d (x0 + 49 + 6) x1 2) := s_8_6 hS (stB.ti hx0) (by omega)
  refine k_81 hS1 hx0 (by omega) (fun e1 F1 hS2 => ?_)
  refine t_76_15 ?_
  have y0 : v_76 x0 x1 d = v_81 x0 x1 (mset d (x0 + 49 + 6) x1 2) := by simp only [v_76]
  have y1 : g_76 x0 x1 d = g_81 x0 x1 (mset d (x0 + 49 + 6) x1 2) := by simp only [g_76]
  rw [y0] at h
  rw [y1] at h
  exact h (show 0 ≤ (v_81 x0 x1 (mset d (x0 + 49 + 6) x1 2)) ∧ (v_81 x0 x1 (mset d (x0 + 49 + 6) x1 2)) ≤ 200 from (by omega)) (show ∀ b : Int, (b < x0 + 13 ∨ x0 + 13 < b) ∧ (b < x0 + 18 ∨ x0 + 48 < b) ∧ (b < x0 + 55 ∨ x0 + 55 < b) ∧ (b < x0 + 57 ∨ x0 + 61 < b) → (g_81 x0 x1 (mset d (x0 + 49 + 6) x1 2)) b = d b from fun b hb => (F1 b (by omega)).trans (mset_ne (by omega))) hS2
def v_74 (x0 x1 : Int) (d : mD) : Int := if d (x0 + 1) 1 = 0 then v_76 x0 x1 (mset d (x0 + 49 + 6) x1 1) else 0
def g_74 (x0 x1 : Int) (d : mD) : mD := if d (x0 + 1) 1 = 0 then g_76 x0 x1 (mset d (x0 + 49 + 6) x1 1) else mset d (x0 + 49 + 6) x1 1
theorem k_74 {E : mO × tW} {K : tK} {d : mD} {x0 x1 : Int} (hS : Safe d) (hx0 : stB x0) (p1 : 0 ≤ x1 ∧ x1 ≤ 59) (h : (0 ≤ (v_74 x0 x1 d) ∧ (v_74 x0 x1 d) ≤ 200) → (∀ b : Int, (b < x0 + 13 ∨ x0 + 13 < b) ∧ (b < x0 + 18 ∨ x0 + 48 < b) ∧ (b < x0 + 55 ∨ x0 + 55 < b) ∧ (b < x0 + 57 ∨ x0 + 61 < b) → (g_74 x0 x1 d) b = d b) → Safe (g_74 x0 x1 d) → K (.inl (some (0, (v_74 x0 x1 d)))) (g_74 x0 x1 d)) : tCall E 74 [.inr (6, x0), .inl (0, x1)] d K := by
  refine t_74_0 ?_
  refine ⟨by omega, ?_⟩
  have hS1 : Safe (mset d (x0 + 49 + 6) x1 1) := s_8_6 hS (stB.ti hx0) (by omega)
  rw [mset_ne (d := d) (a := x0 + 49 + 6) (i := x1) (v := (1 : Int)) (b := x0 + 1) (by omega)]
  have q1 := r_6_1 hS hx0 ((1 : Int))
  refine ⟨by omega, m_inR (by omega) (by omega), fun c0 => ?_, fun c0 => ?_⟩
  · have y0 : v_74 x0 x1 d = 0 := by simp only [v_74, if_neg (show ¬ d (x0 + 1) 1 = 0 from c0)]
    have y1 : g_74 x0 x1 d = mset d (x0 + 49 + 6) x1 1 := by simp only [g_74, if_neg (show ¬ d (x0 + 1) 1 = 0 from c0)]
    rw [y0] at h
    rw [y1] at h
    exact h (show 0 ≤ ((0 : Int)) ∧ ((0 : Int)) ≤ 200 from (by omega)) (show ∀ b : Int, (b < x0 + 13 ∨ x0 + 13 < b) ∧ (b < x0 + 18 ∨ x0 + 48 < b) ∧ (b < x0 + 55 ∨ x0 + 55 < b) ∧ (b < x0 + 57 ∨ x0 + 61 < b) → (mset d (x0 + 49 + 6) x1 1) b = d b from fun b hb => mset_ne (by omega)) hS1
  · refine k_76 hS1 hx0 (by omega) (fun e1 F1 hS2 => ?_)
    refine t_74_24 ?_
    have y0 : v_74 x0 x1 d = v_76 x0 x1 (mset d (x0 + 49 + 6) x1 1) := by simp only [v_74, if_pos (show d (x0 + 1) 1 = 0 from c0)]
    have y1 : g_74 x0 x1 d = g_76 x0 x1 (mset d (x0 + 49 + 6) x1 1) := by simp only [g_74, if_pos (show d (x0 + 1) 1 = 0 from c0)]
    rw [y0] at h
    rw [y1] at h
    exact h (show 0 ≤ (v_76 x0 x1 (mset d (x0 + 49 + 6) x1 1)) ∧ (v_76 x0 x1 (mset d (x0 + 49 + 6) x1 1)) ≤ 200 from (by omega)) (show ∀ b : Int, (b < x0 + 13 ∨ x0 + 13 < b) ∧ (b < x0 + 18 ∨ x0 + 48 < b) ∧ (b < x0 + 55 ∨ x0 + 55 < b) ∧ (b < x0 + 57 ∨ x0 + 61 < b) → (g_76 x0 x1 (mset d (x0 + 49 + 6) x1 1)) b = d b from fun b hb => (F1 b (by omega)).trans (mset_ne (by omega))) hS2
def v_75 (x0 x1 x2 : Int) (d : mD) : Int := if v_298 (mior (d (x0 + 49 + 7) x1) (mishl 1 x2)) (mset (mset (mset d (x0 + 49 + 7) x1 (mior (d (x0 + 49 + 7) x1) (mishl 1 x2))) (x0 + 10 + 4) x2 ((d (x0 + 10 + 4) x2) + 1)) (x0 + 10 + 5) x2 (mior (d (x0 + 10 + 5) x2) (mishl 1 (d (x0 + 49 + 1) x1)))) < d (x0 + 1) 1 then 0 else v_76 x0 x1 (mset (mset (mset d (x0 + 49 + 7) x1 (mior (d (x0 + 49 + 7) x1) (mishl 1 x2))) (x0 + 10 + 4) x2 ((d (x0 + 10 + 4) x2) + 1)) (x0 + 10 + 5) x2 (mior (d (x0 + 10 + 5) x2) (mishl 1 (d (x0 + 49 + 1) x1))))
def g_75 (x0 x1 x2 : Int) (d : mD) : mD := if v_298 (mior (d (x0 + 49 + 7) x1) (mishl 1 x2)) (mset (mset (mset d (x0 + 49 + 7) x1 (mior (d (x0 + 49 + 7) x1) (mishl 1 x2))) (x0 + 10 + 4) x2 ((d (x0 + 10 + 4) x2) + 1)) (x0 + 10 + 5) x2 (mior (d (x0 + 10 + 5) x2) (mishl 1 (d (x0 + 49 + 1) x1)))) < d (x0 + 1) 1 then mset (mset (mset d (x0 + 49 + 7) x1 (mior (d (x0 + 49 + 7) x1) (mishl 1 x2))) (x0 + 10 + 4) x2 ((d (x0 + 10 + 4) x2) + 1)) (x0 + 10 + 5) x2 (mior (d (x0 + 10 + 5) x2) (mishl 1 (d (x0 + 49 + 1) x1))) else g_76 x0 x1 (mset (mset (mset d (x0 + 49 + 7) x1 (mior (d (x0 + 49 + 7) x1) (mishl 1 x2))) (x0 + 10 + 4) x2 ((d (x0 + 10 + 4) x2) + 1)) (x0 + 10 + 5) x2 (mior (d (x0 + 10 + 5) x2) (mishl 1 (d (x0 + 49 + 1) x1))))
theorem k_75 {E : mO × tW} {K : tK} {d : mD} {x0 x1 x2 : Int} (hS : Safe d) (hx0 : stB x0) (p1 : 0 ≤ x1 ∧ x1 ≤ 59) (p2 : 0 ≤ x2 ∧ x2 ≤ 15) (hw : d (x0 + 10 + 4) x2 ≤ 2) (h : (0 ≤ (v_75 x0 x1 x2 d) ∧ (v_75 x0 x1 x2 d) ≤ 200) → (∀ b : Int, (b < x0 + 13 ∨ x0 + 15 < b) ∧ (b < x0 + 18 ∨ x0 + 48 < b) ∧ (b < x0 + 55 ∨ x0 + 61 < b) → (g_75 x0 x1 x2 d) b = d b) → Safe (g_75 x0 x1 x2 d) → K (.inl (some (0, (v_75 x0 x1 x2 d)))) (g_75 x0 x1 x2 d)) : tCall E 75 [.inr (6, x0), .inl (0, x1), .inl (0, x2)] d K := by
  refine t_75_0 ?_
  refine ⟨by omega, by omega, ?_⟩
  have hS1 : Safe (mset d (x0 + 49 + 7) x1 (mior (d (x0 + 49 + 7) x1) (mishl 1 x2))) := s_8_7 hS (stB.ti hx0)
  rw [mset_ne (d := d) (a := x0 + 49 + 7) (i := x1) (v := mior (d (x0 + 49 + 7) x1) (mishl 1 x2)) (b := x0 + 10 + 4) (by omega)]
  have q1 := r_4_4 hS (stB.pe hx0) x2
  refine ⟨by omega, by omega, ?_⟩
  have hS2 : Safe (mset (mset d (x0 + 49 + 7) x1 (mior (d (x0 + 49 + 7) x1) (mishl 1 x2))) (x0 + 10 + 4) x2 ((d (x0 + 10 + 4) x2) + 1)) := s_4_4 hS1 (stB.pe hx0) (by omega)
  rw [mset_ne (d := mset d (x0 + 49 + 7) x1 (mior (d (x0 + 49 + 7) x1) (mishl 1 x2))) (a := x0 + 10 + 4) (i := x2) (v := (d (x0 + 10 + 4) x2) + 1) (b := x0 + 10 + 5) (by omega)]
  rw [mset_ne (d := d) (a := x0 + 49 + 7) (i := x1) (v := mior (d (x0 + 49 + 7) x1) (mishl 1 x2)) (b := x0 + 10 + 5) (by omega)]
  rw [mset_ne (d := mset d (x0 + 49 + 7) x1 (mior (d (x0 + 49 + 7) x1) (mishl 1 x2))) (a := x0 + 10 + 4) (i := x2) (v := (d (x0 + 10 + 4) x2) + 1) (b := x0 + 49 + 1) (by omega)]
  rw [mset_ne (d := d) (a := x0 + 49 + 7) (i := x1) (v := mior (d (x0 + 49 + 7) x1) (mishl 1 x2)) (b := x0 + 49 + 1) (by omega)]
  refine ⟨by omega, by omega, by omega, ?_⟩
  have hS3 : Safe (mset (mset (mset d (x0 + 49 + 7) x1 (mior (d (x0 + 49 + 7) x1) (mishl 1 x2))) (x0 + 10 + 4) x2 ((d (x0 + 10 + 4) x2) + 1)) (x0 + 10 + 5) x2 (mior (d (x0 + 10 + 5) x2) (mishl 1 (d (x0 + 49 + 1) x1)))) := s_4_5 hS2 (stB.pe hx0)
  rw [mset_ne (d := mset (mset d (x0 + 49 + 7) x1 (mior (d (x0 + 49 + 7) x1) (mishl 1 x2))) (x0 + 10 + 4) x2 ((d (x0 + 10 + 4) x2) + 1)) (a := x0 + 10 + 5) (i := x2) (v := mior (d (x0 + 10 + 5) x2) (mishl 1 (d (x0 + 49 + 1) x1))) (b := x0 + 49 + 7) (by omega)]
  rw [mset_ne (d := mset d (x0 + 49 + 7) x1 (mior (d (x0 + 49 + 7) x1) (mishl 1 x2))) (a := x0 + 10 + 4) (i := x2) (v := (d (x0 + 10 + 4) x2) + 1) (b := x0 + 49 + 7) (by omega)]
  rw [mset_eq (d := d) (a := x0 + 49 + 7) (i := x1) (v := mior (d (x0 + 49 + 7) x1) (mishl 1 x2))]
  refine ⟨by omega, ?_⟩
  refine k_298 hS3 (fun e1 => ?_)
  refine t_75_63 ?_
  rw [mset_ne (d := mset (mset d (x0 + 49 + 7) x1 (mior (d (x0 + 49 + 7) x1) (mishl 1 x2))) (x0 + 10 + 4) x2 ((d (x0 + 10 + 4) x2) + 1)) (a := x0 + 10 + 5) (i := x2) (v := mior (d (x0 + 10 + 5) x2) (mishl 1 (d (x0 + 49 + 1) x1))) (b := x0 + 1) (by omega)]
  rw [mset_ne (d := mset d (x0 + 49 + 7) x1 (mior (d (x0 + 49 + 7) x1) (mishl 1 x2))) (a := x0 + 10 + 4) (i := x2) (v := (d (x0 + 10 + 4) x2) + 1) (b := x0 + 1) (by omega)]
  rw [mset_ne (d := d) (a := x0 + 49 + 7) (i := x1) (v := mior (d (x0 + 49 + 7) x1) (mishl 1 x2)) (b := x0 + 1) (by omega)]
  have q2 := r_6_1 hS hx0 ((1 : Int))
  refine ⟨by omega, ⟨m_inR (by omega) (by omega), m_inR (by omega) (by omega)⟩, fun c0 => ?_, fun c0 => ?_⟩
  · have y0 : v_75 x0 x1 x2 d = 0 := by simp only [v_75, if_pos (show v_298 (mior (d (x0 + 49 + 7) x1) (mishl 1 x2)) (mset (mset (mset d (x0 + 49 + 7) x1 (mior (d (x0 + 49 + 7) x1) (mishl 1 x2))) (x0 + 10 + 4) x2 ((d (x0 + 10 + 4) x2) + 1)) (x0 + 10 + 5) x2 (mior (d (x0 + 10 + 5) x2) (mishl 1 (d (x0 + 49 + 1) x1)))) < d (x0 + 1) 1 from c0)]
    have y1 : g_75 x0 x1 x2 d = mset (mset (mset d (x0 + 49 + 7) x1 (mior (d (x0 + 49 + 7) x1) (mishl 1 x2))) (x0 + 10 + 4) x2 ((d (x0 + 10 + 4) x2) + 1)) (x0 + 10 + 5) x2 (mior (d (x0 + 10 + 5) x2) (mishl 1 (d (x0 + 49 + 1) x1))) := by simp only [g_75, if_pos (show v_298 (mior (d (x0 + 49 + 7) x1) (mishl 1 x2)) (mset (mset (mset d (x0 + 49 + 7) x1 (mior (d (x0 + 49 + 7) x1) (mishl 1 x2))) (x0 + 10 + 4) x2 ((d (x0 + 10 + 4) x2) + 1)) (x0 + 10 + 5) x2 (mior (d (x0 + 10 + 5) x2) (mishl 1 (d (x0 + 49 + 1) x1)))) < d (x0 + 1) 1 from c0)]
    rw [y0] at h
    rw [y1] at h
    exact h (show 0 ≤ ((0 : Int)) ∧ ((0 : Int)) ≤ 200 from (by omega)) (show ∀ b : Int, (b < x0 + 13 ∨ x0 + 15 < b) ∧ (b < x0 + 18 ∨ x0 + 48 < b) ∧ (b < x0 + 55 ∨ x0 + 61 < b) → (mset (mset (mset d (x0 + 49 + 7) x1 (mior (d (x0 + 49 + 7) x1) (mishl 1 x2))) (x0 + 10 + 4) x2 ((d (x0 + 10 + 4) x2) + 1)) (x0 + 10 + 5) x2 (mior (d (x0 + 10 + 5) x2) (mishl 1 (d (x0 + 49 + 1) x1)))) b = d b from fun b hb => (mset_ne (by omega)).trans ((mset_ne (by omega)).trans (mset_ne (by omega)))) hS3
  · refine k_76 hS3 hx0 (by omega) (fun e2 F1 hS4 => ?_)
    refine t_75_77 ?_
    have y0 : v_75 x0 x1 x2 d = v_76 x0 x1 (mset (mset (mset d (x0 + 49 + 7) x1 (mior (d (x0 + 49 + 7) x1) (mishl 1 x2))) (x0 + 10 + 4) x2 ((d (x0 + 10 + 4) x2) + 1)) (x0 + 10 + 5) x2 (mior (d (x0 + 10 + 5) x2) (mishl 1 (d (x0 + 49 + 1) x1)))) := by simp only [v_75, if_neg (show ¬ v_298 (mior (d (x0 + 49 + 7) x1) (mishl 1 x2)) (mset (mset (mset d (x0 + 49 + 7) x1 (mior (d (x0 + 49 + 7) x1) (mishl 1 x2))) (x0 + 10 + 4) x2 ((d (x0 + 10 + 4) x2) + 1)) (x0 + 10 + 5) x2 (mior (d (x0 + 10 + 5) x2) (mishl 1 (d (x0 + 49 + 1) x1)))) < d (x0 + 1) 1 from Int.not_lt.mpr c0)]
    have y1 : g_75 x0 x1 x2 d = g_76 x0 x1 (mset (mset (mset d (x0 + 49 + 7) x1 (mior (d (x0 + 49 + 7) x1) (mishl 1 x2))) (x0 + 10 + 4) x2 ((d (x0 + 10 + 4) x2) + 1)) (x0 + 10 + 5) x2 (mior (d (x0 + 10 + 5) x2) (mishl 1 (d (x0 + 49 + 1) x1)))) := by simp only [g_75, if_neg (show ¬ v_298 (mior (d (x0 + 49 + 7) x1) (mishl 1 x2)) (mset (mset (mset d (x0 + 49 + 7) x1 (mior (d (x0 + 49 + 7) x1) (mishl 1 x2))) (x0 + 10 + 4) x2 ((d (x0 + 10 + 4) x2) + 1)) (x0 + 10 + 5) x2 (mior (d (x0 + 10 + 5) x2) (mishl 1 (d (x0 + 49 + 1) x1)))) < d (x0 + 1) 1 from Int.not_lt.mpr c0)]
    rw [y0] at h
    rw [y1] at h
    exact h (show 0 ≤ (v_76 x0 x1 (mset (mset (mset d (x0 + 49 + 7) x1 (mior (d (x0 + 49 + 7) x1) (mishl 1 x2))) (x0 + 10 + 4) x2 ((d (x0 + 10 + 4) x2) + 1)) (x0 + 10 + 5) x2 (mior (d (x0 + 10 + 5) x2) (mishl 1 (d (x0 + 49 + 1) x1))))) ∧ (v_76 x0 x1 (mset (mset (mset d (x0 + 49 + 7) x1 (mior (d (x0 + 49 + 7) x1) (mishl 1 x2))) (x0 + 10 + 4) x2 ((d (x0 + 10 + 4) x2) + 1)) (x0 + 10 + 5) x2 (mior (d (x0 + 10 + 5) x2) (mishl 1 (d (x0 + 49 + 1) x1))))) ≤ 200 from (by omega)) (show ∀ b : Int, (b < x0 + 13 ∨ x0 + 15 < b) ∧ (b < x0 + 18 ∨ x0 + 48 < b) ∧ (b < x0 + 55 ∨ x0 + 61 < b) → (g_76 x0 x1 (mset (mset (mset d (x0 + 49 + 7) x1 (mior (d (x0 + 49 + 7) x1) (mishl 1 x2))) (x0 + 10 + 4) x2 ((d (x0 + 10 + 4) x2) + 1)) (x0 + 10 + 5) x2 (mior (d (x0 + 10 + 5) x2) (mishl 1 (d (x0 + 49 + 1) x1))))) b = d b from fun b hb => (F1 b (by omega)).trans ((mset_ne (by omega)).trans ((mset_ne (by omega)).trans (mset_ne (by omega))))) hS4
def st_78_5 (x0 x1 x2 : Int) (r5 : Int → Int → mD → Int) (x3 x4 : Int) (d : mD) : Int := if x4 < d (x0 + 49) 0 then (if x4 = x1 then r5 x3 (x4 + 1) d else if d (x0 + 49 + 1) x4 = x2 then (if d (x0 + 49 + 2) x4 = d (x0 + 49 + 2) x1 then r5 (mmax x3 ((mmin (v_98 (x0 + 49) x1 (d x0 2) d) (v_98 (x0 + 49) x4 (d x0 2) d)) - (mmax (d (x0 + 49 + 3) x1) (d (x0 + 49 + 3) x4)))) (x4 + 1) d else r5 x3 (x4 + 1) d) else r5 x3 (x4 + 1) d) else x3
def lp_78_5 (x0 x1 x2 : Int) : Nat → Int → Int → mD → Int
  | 0 => st_78_5 x0 x1 x2 (fun _ _ d => 0)
  | n + 1 => st_78_5 x0 x1 x2 (lp_78_5 x0 x1 x2 n)
theorem ls_78_5 {E : mO × tW} {K : tK} {x0 x1 x2 : Int} (hx0 : stB x0) (p1 : 0 ≤ x1 ∧ x1 ≤ 59) (p2 : -2147483648 ≤ x2 ∧ x2 ≤ 2147483647) (N5 : Int) (r5 : Int → Int → mD → Int) (ih5 : ∀ (x3 x4 : Int) (v5 v6 : tV) (d : mD), Safe d → (0 ≤ x4 ∧ x4 ≤ 60) → (0 ≤ x3 ∧ x3 ≤ 2000) → 0 ≤ 60 - x4 → 60 - x4 < N5 → ((0 ≤ (r5 x3 x4 d) ∧ (r5 x3 x4 d) ≤ 2000) → K (.inl (some (0, (r5 x3 x4 d)))) d) → tRun E 78 (5, [.inr (6, x0), .inl (0, x1), .inl (0, x2), .inl (0, x3), .inl (0, x4), v5, v6], [], 0, 0, d) K) (x3 x4 : Int) (v5 v6 : tV) (d : mD) (hS : Safe d) (i0 : 0 ≤ x4 ∧ x4 ≤ 60) (i1 : 0 ≤ x3 ∧ x3 ≤ 2000) (hm : 60 - x4 ≤ N5) (h : (0 ≤ (st_78_5 x0 x1 x2 r5 x3 x4 d) ∧ (st_78_5 x0 x1 x2 r5 x3 x4 d) ≤ 2000) → K (.inl (some (0, (st_78_5 x0 x1 x2 r5 x3 x4 d)))) d) : tRun E 78 (5, [.inr (6, x0), .inl (0, x1), .inl (0, x2), .inl (0, x3), .inl (0, x4), v5, v6], [], 0, 0, d) K := by
  refine t_78_5 ?_
  have q1 := r_8_f0 hS (stB.ti hx0)
  refine ⟨⟨m_inR (by omega) (by omega), m_inR (by omega) (by omega)⟩, fun c0 => ?_, fun c0 => ?_⟩
  · have y0 : st_78_5 x0 x1 x2 r5 x3 x4 d = x3 := by simp only [st_78_5, if_neg (show ¬ x4 < d (x0 + 49) 0 from Int.not_lt.mpr c0)]
    rw [y0] at h
    exact h (show 0 ≤ x3 ∧ x3 ≤ 2000 from (by omega))
  · refine ⟨⟨m_inR (by omega) (by omega), m_inR (by omega) (by omega)⟩, fun c1 => ?_, fun c1 => ?_⟩
    · refine ih5 x3 (x4 + 1) v5 v6 d hS (by omega) (by omega) (by omega) (by omega) ?_
      intro e
      have y0 : st_78_5 x0 x1 x2 r5 x3 x4 d = r5 x3 (x4 + 1) d := by simp only [st_78_5, if_pos (show x4 < d (x0 + 49) 0 from c0), if_pos (show x4 = x1 from c1)]
      rw [y0] at h
      exact h e
    · have q2 := r_8_1 hS (stB.ti hx0) x4
      refine ⟨by omega, ⟨m_inR (by omega) (by omega), m_inR (by omega) (by omega)⟩, fun c2 => ?_, fun c2 => ?_⟩
      · refine ih5 x3 (x4 + 1) v5 v6 d hS (by omega) (by omega) (by omega) (by omega) ?_
        intro e
        have y0 : st_78_5 x0 x1 x2 r5 x3 x4 d = r5 x3 (x4 + 1) d := by simp only [st_78_5, if_pos (show x4 < d (x0 + 49) 0 from c0), if_neg (show ¬ x4 = x1 from c1), if_neg (show ¬ d (x0 + 49 + 1) x4 = x2 from c2)]
        rw [y0] at h
        exact h e
      · have q3 := r_8_2 hS (stB.ti hx0) x4
        have q4 := r_8_2 hS (stB.ti hx0) x1
        refine ⟨by omega, by omega, ⟨m_inR (by omega) (by omega), m_inR (by omega) (by omega)⟩, fun c3 => ?_, fun c3 => ?_⟩
        · refine ih5 x3 (x4 + 1) v5 v6 d hS (by omega) (by omega) (by omega) (by omega) ?_
          intro e
          have y0 : st_78_5 x0 x1 x2 r5 x3 x4 d = r5 x3 (x4 + 1) d := by simp only [st_78_5, if_pos (show x4 < d (x0 + 49) 0 from c0), if_neg (show ¬ x4 = x1 from c1), if_pos (show d (x0 + 49 + 1) x4 = x2 from c2), if_neg (show ¬ d (x0 + 49 + 2) x4 = d (x0 + 49 + 2) x1 from c3)]
          rw [y0] at h
          exact h e
        · have q5 := r_8_3 hS (stB.ti hx0) x1
          have q6 := r_8_3 hS (stB.ti hx0) x4
          refine ⟨by omega, by omega, ⟨m_inR (by omega) (by omega), m_inR (by omega) (by omega)⟩, ?_⟩
          have q7 := r_6_f2 hS hx0
          refine k_98 hS (stB.ti hx0) (by omega) (by omega) (fun e1 => ?_)
          refine t_78_95 ?_
          refine k_98 hS (stB.ti hx0) (by omega) (by omega) (fun e2 => ?_)
          refine t_78_108 ?_
          have q8 := mmin_r (v_98 (x0 + 49) x1 (d x0 2) d) (v_98 (x0 + 49) x4 (d x0 2) d)
          have q9 := mmax_r (d (x0 + 49 + 3) x1) (d (x0 + 49 + 3) x4)
          refine ⟨⟨m_inR (by omega) (by omega), m_inR (by omega) (by omega)⟩, ⟨m_inR (by omega) (by omega), m_inR (by omega) (by omega)⟩, ?_⟩
          have q10 := mmax_r x3 ((mmin (v_98 (x0 + 49) x1 (d x0 2) d) (v_98 (x0 + 49) x4 (d x0 2) d)) - (mmax (d (x0 + 49 + 3) x1) (d (x0 + 49 + 3) x4)))
          refine ih5 (mmax x3 ((mmin (v_98 (x0 + 49) x1 (d x0 2) d) (v_98 (x0 + 49) x4 (d x0 2) d)) - (mmax (d (x0 + 49 + 3) x1) (d (x0 + 49 + 3) x4)))) (x4 + 1) (.inl (0, mmax (d (x0 + 49 + 3) x1) (d (x0 + 49 + 3) x4))) (.inl (0, mmin (v_98 (x0 + 49) x1 (d x0 2) d) (v_98 (x0 + 49) x4 (d x0 2) d))) d hS (by omega) (by omega) (by omega) (by omega) ?_
          intro e
          have y0 : st_78_5 x0 x1 x2 r5 x3 x4 d = r5 (mmax x3 ((mmin (v_98 (x0 + 49) x1 (d x0 2) d) (v_98 (x0 + 49) x4 (d x0 2) d)) - (mmax (d (x0 + 49 + 3) x1) (d (x0 + 49 + 3) x4)))) (x4 + 1) d := by simp only [st_78_5, if_pos (show x4 < d (x0 + 49) 0 from c0), if_neg (show ¬ x4 = x1 from c1), if_pos (show d (x0 + 49 + 1) x4 = x2 from c2), if_pos (show d (x0 + 49 + 2) x4 = d (x0 + 49 + 2) x1 from c3)]
          rw [y0] at h
          exact h e
theorem l_78_5 {E : mO × tW} {K : tK} {x0 x1 x2 : Int} (hx0 : stB x0) (p1 : 0 ≤ x1 ∧ x1 ≤ 59) (p2 : -2147483648 ≤ x2 ∧ x2 ≤ 2147483647) : ∀ (n : Nat) (x3 x4 : Int) (v5 v6 : tV) (d : mD), Safe d → (0 ≤ x4 ∧ x4 ≤ 60) → (0 ≤ x3 ∧ x3 ≤ 2000) → 60 - x4 ≤ (n : Int) → ((0 ≤ (lp_78_5 x0 x1 x2 n x3 x4 d) ∧ (lp_78_5 x0 x1 x2 n x3 x4 d) ≤ 2000) → K (.inl (some (0, (lp_78_5 x0 x1 x2 n x3 x4 d)))) d) → tRun E 78 (5, [.inr (6, x0), .inl (0, x1), .inl (0, x2), .inl (0, x3), .inl (0, x4), v5, v6], [], 0, 0, d) K := by
  intro n
  induction n with
  | zero =>
    intro x3 x4 v5 v6 d hS i0 i1 hm  h
    exact ls_78_5 hx0 p1 p2 0 _ (fun _ _ _ _ _ _ _ _ m0 m1 _ => absurd m1 (by omega)) x3 x4 v5 v6 d hS i0 i1 hm  h
  | succ n ih =>
    intro x3 x4 v5 v6 d hS i0 i1 hm  h
    exact ls_78_5 hx0 p1 p2 ((n + 1 : Nat) : Int) _ (fun x3 x4 v5 v6 d hS i0 i1  m0 m1 h => ih x3 x4 v5 v6 d hS i0 i1 (by omega)  h) x3 x4 v5 v6 d hS i0 i1 hm  h
def v_78 (x0 x1 x2 : Int) (d : mD) : Int := lp_78_5 x0 x1 x2 (60 - 0 : Int).toNat 0 0 d
theorem k_78 {E : mO × tW} {K : tK} {d : mD} {x0 x1 x2 : Int} (hS : Safe d) (hx0 : stB x0) (p1 : 0 ≤ x1 ∧ x1 ≤ 59) (p2 : -2147483648 ≤ x2 ∧ x2 ≤ 2147483647) (h : (0 ≤ (v_78 x0 x1 x2 d) ∧ (v_78 x0 x1 x2 d) ≤ 2000) → K (.inl (some (0, (v_78 x0 x1 x2 d)))) d) : tCall E 78 [.inr (6, x0), .inl (0, x1), .inl (0, x2)] d K := by
  refine t_78_0 ?_
  refine l_78_5 hx0 p1 p2 (60 - 0 : Int).toNat 0 0 tu tu d hS (by omega) (by omega) (by omega) ?_
  intro e
  have y0 : v_78 x0 x1 x2 d = lp_78_5 x0 x1 x2 (60 - 0 : Int).toNat 0 0 d := by simp only [v_78]
  rw [y0] at h
  exact h e
def v_77 (x0 x1 x2 : Int) (d : mD) : Int := if d (x0 + 49 + 6) x1 = 0 then 1 else if d (x0 + 49 + 6) x1 = 2 then 2 else if d (x0 + 49 + 1) x1 = x2 then 3 else if v_99 (x0 + 49) x1 x2 d = 0 then (if v_78 x0 x1 x2 d < d (x0 + 1) 2 then 5 else if d (x0 + 10 + 4) x2 < 3 then (if miand (mishr (d (x0 + 10 + 5) (d (x0 + 49 + 1) x1)) x2) 1 = 0 then 0 else 7) else 6) else 4
theorem k_77 {E : mO × tW} {K : tK} {d : mD} {x0 x1 x2 : Int} (hS : Safe d) (hx0 : stB x0) (p1 : 0 ≤ x1 ∧ x1 ≤ 59) (p2 : 0 ≤ x2 ∧ x2 ≤ 15) (h : ((0 ≤ (v_77 x0 x1 x2 d) ∧ (v_77 x0 x1 x2 d) ≤ 7) ∧ (¬ (v_77 x0 x1 x2 d) = 0 ∨ d (x0 + 10 + 4) x2 ≤ 2)) → K (.inl (some (0, (v_77 x0 x1 x2 d)))) d) : tCall E 77 [.inr (6, x0), .inl (0, x1), .inl (0, x2)] d K := by
  refine t_77_0 ?_
  have q1 := r_8_6 hS (stB.ti hx0) x1
  refine ⟨by omega, by omega, m_inR (by omega) (by omega), fun c0 => ?_, fun c0 => ?_⟩
  · refine ⟨by omega, ⟨m_inR (by omega) (by omega), m_inR (by omega) (by omega)⟩, fun c1 => ?_, fun c1 => ?_⟩
    · have q2 := r_8_1 hS (stB.ti hx0) x1
      refine ⟨⟨m_inR (by omega) (by omega), m_inR (by omega) (by omega)⟩, fun c2 => ?_, fun c2 => ?_⟩
      · refine k_99 hS (stB.ti hx0) (by omega) (m_inR (by omega) (by omega)) (fun e1 => ?_)
        refine t_77_55 ?_
        refine ⟨m_inR (by omega) (by omega), fun c3 => ?_, fun c3 => ?_⟩
        · refine k_78 hS hx0 (by omega) (m_inR (by omega) (by omega)) (fun e2 => ?_)
          refine t_77_66 ?_
          have q3 := r_6_1 hS hx0 ((2 : Int))
          refine ⟨by omega, ⟨m_inR (by omega) (by omega), m_inR (by omega) (by omega)⟩, fun c4 => ?_, fun c4 => ?_⟩
          · have q4 := r_4_4 hS (stB.pe hx0) x2
            refine ⟨by omega, ⟨m_inR (by omega) (by omega), m_inR (by omega) (by omega)⟩, fun c5 => ?_, fun c5 => ?_⟩
            · have q5 := miand_r (mishr (d (x0 + 10 + 5) (d (x0 + 49 + 1) x1)) x2) 1 (by decide) (by decide)
              have q6 := mbool (mishr (d (x0 + 10 + 5) (d (x0 + 49 + 1) x1)) x2)
              refine ⟨by omega, mI_inR _ _ _, fun c6 => ?_, fun c6 => ?_⟩
              · have y0 : v_77 x0 x1 x2 d = 0 := by simp only [v_77, if_neg (show ¬ d (x0 + 49 + 6) x1 = 0 from c0), if_neg (show ¬ d (x0 + 49 + 6) x1 = 2 from c1), if_neg (show ¬ d (x0 + 49 + 1) x1 = x2 from c2), if_pos (show v_99 (x0 + 49) x1 x2 d = 0 from c3), if_neg (show ¬ v_78 x0 x1 x2 d < d (x0 + 1) 2 from Int.not_lt.mpr c4), if_pos (show d (x0 + 10 + 4) x2 < 3 from c5), if_pos (show miand (mishr (d (x0 + 10 + 5) (d (x0 + 49 + 1) x1)) x2) 1 = 0 from c6)]
                rw [y0] at h
                exact h (show (0 ≤ ((0 : Int)) ∧ ((0 : Int)) ≤ 7) ∧ (¬ ((0 : Int)) = 0 ∨ d (x0 + 10 + 4) x2 ≤ 2) from (by omega))
              · have y0 : v_77 x0 x1 x2 d = 7 := by simp only [v_77, if_neg (show ¬ d (x0 + 49 + 6) x1 = 0 from c0), if_neg (show ¬ d (x0 + 49 + 6) x1 = 2 from c1), if_neg (show ¬ d (x0 + 49 + 1) x1 = x2 from c2), if_pos (show v_99 (x0 + 49) x1 x2 d = 0 from c3), if_neg (show ¬ v_78 x0 x1 x2 d < d (x0 + 1) 2 from Int.not_lt.mpr c4), if_pos (show d (x0 + 10 + 4) x2 < 3 from c5), if_neg (show ¬ miand (mishr (d (x0 + 10 + 5) (d (x0 + 49 + 1) x1)) x2) 1 = 0 from c6)]
                rw [y0] at h
                exact h (show (0 ≤ ((7 : Int)) ∧ ((7 : Int)) ≤ 7) ∧ (¬ ((7 : Int)) = 0 ∨ d (x0 + 10 + 4) x2 ≤ 2) from (by omega))
            · have y0 : v_77 x0 x1 x2 d = 6 := by simp only [v_77, if_neg (show ¬ d (x0 + 49 + 6) x1 = 0 from c0), if_neg (show ¬ d (x0 + 49 + 6) x1 = 2 from c1), if_neg (show ¬ d (x0 + 49 + 1) x1 = x2 from c2), if_pos (show v_99 (x0 + 49) x1 x2 d = 0 from c3), if_neg (show ¬ v_78 x0 x1 x2 d < d (x0 + 1) 2 from Int.not_lt.mpr c4), if_neg (show ¬ d (x0 + 10 + 4) x2 < 3 from Int.not_lt.mpr c5)]
              rw [y0] at h
              exact h (show (0 ≤ ((6 : Int)) ∧ ((6 : Int)) ≤ 7) ∧ (¬ ((6 : Int)) = 0 ∨ d (x0 + 10 + 4) x2 ≤ 2) from (by omega))
          · have y0 : v_77 x0 x1 x2 d = 5 := by simp only [v_77, if_neg (show ¬ d (x0 + 49 + 6) x1 = 0 from c0), if_neg (show ¬ d (x0 + 49 + 6) x1 = 2 from c1), if_neg (show ¬ d (x0 + 49 + 1) x1 = x2 from c2), if_pos (show v_99 (x0 + 49) x1 x2 d = 0 from c3), if_pos (show v_78 x0 x1 x2 d < d (x0 + 1) 2 from c4)]
            rw [y0] at h
            exact h (show (0 ≤ ((5 : Int)) ∧ ((5 : Int)) ≤ 7) ∧ (¬ ((5 : Int)) = 0 ∨ d (x0 + 10 + 4) x2 ≤ 2) from (by omega))
        · have y0 : v_77 x0 x1 x2 d = 4 := by simp only [v_77, if_neg (show ¬ d (x0 + 49 + 6) x1 = 0 from c0), if_neg (show ¬ d (x0 + 49 + 6) x1 = 2 from c1), if_neg (show ¬ d (x0 + 49 + 1) x1 = x2 from c2), if_neg (show ¬ v_99 (x0 + 49) x1 x2 d = 0 from c3)]
          rw [y0] at h
          exact h (show (0 ≤ ((4 : Int)) ∧ ((4 : Int)) ≤ 7) ∧ (¬ ((4 : Int)) = 0 ∨ d (x0 + 10 + 4) x2 ≤ 2) from (by omega))
      · have y0 : v_77 x0 x1 x2 d = 3 := by simp only [v_77, if_neg (show ¬ d (x0 + 49 + 6) x1 = 0 from c0), if_neg (show ¬ d (x0 + 49 + 6) x1 = 2 from c1), if_pos (show d (x0 + 49 + 1) x1 = x2 from c2)]
        rw [y0] at h
        exact h (show (0 ≤ ((3 : Int)) ∧ ((3 : Int)) ≤ 7) ∧ (¬ ((3 : Int)) = 0 ∨ d (x0 + 10 + 4) x2 ≤ 2) from (by omega))
    · have y0 : v_77 x0 x1 x2 d = 2 := by simp only [v_77, if_neg (show ¬ d (x0 + 49 + 6) x1 = 0 from c0), if_pos (show d (x0 + 49 + 6) x1 = 2 from c1)]
      rw [y0] at h
      exact h (show (0 ≤ ((2 : Int)) ∧ ((2 : Int)) ≤ 7) ∧ (¬ ((2 : Int)) = 0 ∨ d (x0 + 10 + 4) x2 ≤ 2) from (by omega))
  · have y0 : v_77 x0 x1 x2 d = 1 := by simp only [v_77, if_pos (show d (x0 + 49 + 6) x1 = 0 from c0)]
    rw [y0] at h
    exact h (show (0 ≤ ((1 : Int)) ∧ ((1 : Int)) ≤ 7) ∧ (¬ ((1 : Int)) = 0 ∨ d (x0 + 10 + 4) x2 ≤ 2) from (by omega))
def st_70_9 (x0 : Int) (r9 : Int → mD → mD) (x1 : Int) (d : mD) : mD := if x1 < d (x0 + 49) 0 then (if d (x0 + 49 + 6) x1 = 2 then r9 (x1 + 1) (g_81 x0 x1 d) else r9 (x1 + 1) d) else d
def lp_70_9 (x0 : Int) : Nat → Int → mD → mD
  | 0 => st_70_9 x0 (fun _ d => d)
  | n + 1 => st_70_9 x0 (lp_70_9 x0 n)
theorem ls_70_9 {E : mO × tW} {K : tK} {x0 : Int} (hx0 : stB x0) (N9 : Int) (r9 : Int → mD → mD) (ih9 : ∀ (x1 : Int) (d : mD), Safe d → (0 ≤ x1 ∧ x1 ≤ 60) → 0 ≤ 60 - x1 → 60 - x1 < N9 → ((∀ b : Int, (b < x0 + 13 ∨ x0 + 15 < b) ∧ (b < x0 + 18 ∨ x0 + 48 < b) ∧ (b < x0 + 57 ∨ x0 + 61 < b) → (r9 x1 d) b = d b) → Safe (r9 x1 d) → K (.inl none) (r9 x1 d)) → tRun E 70 (9, [.inr (6, x0), .inl (0, x1)], [], 0, 0, d) K) (x1 : Int) (d : mD) (hS : Safe d) (i0 : 0 ≤ x1 ∧ x1 ≤ 60) (hm : 60 - x1 ≤ N9) (h : (∀ b : Int, (b < x0 + 13 ∨ x0 + 15 < b) ∧ (b < x0 + 18 ∨ x0 + 48 < b) ∧ (b < x0 + 57 ∨ x0 + 61 < b) → (st_70_9 x0 r9 x1 d) b = d b) → Safe (st_70_9 x0 r9 x1 d) → K (.inl none) (st_70_9 x0 r9 x1 d)) : tRun E 70 (9, [.inr (6, x0), .inl (0, x1)], [], 0, 0, d) K := by
  refine t_70_9 ?_
  have q1 := r_8_f0 hS (stB.ti hx0)
  refine ⟨⟨m_inR (by omega) (by omega), m_inR (by omega) (by omega)⟩, fun c0 => ?_, fun c0 => ?_⟩
  · have y0 : st_70_9 x0 r9 x1 d = d := by simp only [st_70_9, if_neg (show ¬ x1 < d (x0 + 49) 0 from Int.not_lt.mpr c0)]
    rw [y0] at h
    exact h (show ∀ b : Int, (b < x0 + 13 ∨ x0 + 15 < b) ∧ (b < x0 + 18 ∨ x0 + 48 < b) ∧ (b < x0 + 57 ∨ x0 + 61 < b) → d b = d b from fun _ _ => rfl) hS
  · have q2 := r_8_6 hS (stB.ti hx0) x1
    refine ⟨by omega, ⟨m_inR (by omega) (by omega), m_inR (by omega) (by omega)⟩, fun c1 => ?_, fun c1 => ?_⟩
    · refine ih9 (x1 + 1)  d hS (by omega) (by omega) (by omega) ?_
      intro F hS_
      have y0 : st_70_9 x0 r9 x1 d = r9 (x1 + 1) d := by simp only [st_70_9, if_pos (show x1 < d (x0 + 49) 0 from c0), if_neg (show ¬ d (x0 + 49 + 6) x1 = 2 from c1)]
      rw [y0] at h
      exact h F hS_
    · refine k_81 hS hx0 (by omega) (fun e1 F1 hS1 => ?_)
      refine t_70_38 ?_
      refine ih9 (x1 + 1)  (g_81 x0 x1 d) hS1 (by omega) (by omega) (by omega) ?_
      intro F hS_
      have y0 : st_70_9 x0 r9 x1 d = r9 (x1 + 1) (g_81 x0 x1 d) := by simp only [st_70_9, if_pos (show x1 < d (x0 + 49) 0 from c0), if_pos (show d (x0 + 49 + 6) x1 = 2 from c1)]
      rw [y0] at h
      exact h (fun b hb => (F b hb).trans ((show ∀ b : Int, (b < x0 + 13 ∨ x0 + 15 < b) ∧ (b < x0 + 18 ∨ x0 + 48 < b) ∧ (b < x0 + 57 ∨ x0 + 61 < b) → (g_81 x0 x1 d) b = d b from fun b hb => F1 b (by omega)) b hb)) hS_
theorem l_70_9 {E : mO × tW} {K : tK} {x0 : Int} (hx0 : stB x0) : ∀ (n : Nat) (x1 : Int) (d : mD), Safe d → (0 ≤ x1 ∧ x1 ≤ 60) → 60 - x1 ≤ (n : Int) → ((∀ b : Int, (b < x0 + 13 ∨ x0 + 15 < b) ∧ (b < x0 + 18 ∨ x0 + 48 < b) ∧ (b < x0 + 57 ∨ x0 + 61 < b) → (lp_70_9 x0 n x1 d) b = d b) → Safe (lp_70_9 x0 n x1 d) → K (.inl none) (lp_70_9 x0 n x1 d)) → tRun E 70 (9, [.inr (6, x0), .inl (0, x1)], [], 0, 0, d) K := by
  intro n
  induction n with
  | zero =>
    intro x1  d hS i0 hm  h
    exact ls_70_9 hx0 0 _ (fun _  _ _ _ m0 m1 _ => absurd m1 (by omega)) x1  d hS i0 hm  h
  | succ n ih =>
    intro x1  d hS i0 hm  h
    exact ls_70_9 hx0 ((n + 1 : Nat) : Int) _ (fun x1  d hS i0  m0 m1 h => ih x1  d hS i0 (by omega)  h) x1  d hS i0 hm  h
def g_70 (x0 : Int) (d : mD) : mD := lp_70_9 x0 (60 - 0 : Int).toNat 0 (g_49 (x0 + 10) d)
theorem k_70 {E : mO × tW} {K : tK} {d : mD} {x0 : Int} (hS : Safe d) (hx0 : stB x0) (h : (∀ b : Int, (b < x0 + 13 ∨ x0 + 15 < b) ∧ (b < x0 + 18 ∨ x0 + 48 < b) ∧ (b < x0 + 57 ∨ x0 + 61 < b) → (g_70 x0 d) b = d b) → Safe (g_70 x0 d) → K (.inl none) (g_70 x0 d)) : tCall E 70 [.inr (6, x0)] d K := by
  refine t_70_0 ?_
  refine k_49 hS (stB.pe hx0) (fun F2 hS2 => ?_)
  refine t_70_7 ?_
  refine l_70_9 hx0 (60 - 0 : Int).toNat 0  (g_49 (x0 + 10) d) hS2 (by omega) (by omega) ?_
  intro F hS_
  have y0 : g_70 x0 d = lp_70_9 x0 (60 - 0 : Int).toNat 0 (g_49 (x0 + 10) d) := by simp only [g_70]
  rw [y0] at h
  exact h (fun b hb => (F b hb).trans ((show ∀ b : Int, (b < x0 + 13 ∨ x0 + 15 < b) ∧ (b < x0 + 18 ∨ x0 + 48 < b) ∧ (b < x0 + 57 ∨ x0 + 61 < b) → (g_49 (x0 + 10) d) b = d b from fun b hb => F2 b (by omega)) b hb)) hS_
def st_69_15 (x0 x1 : Int) (r15 : Int → Int → mD → Int × mD) (x2 x3 : Int) (d : mD) : Int × mD := if x3 < x2 then r15 x2 (x3 + 1) (g_41 (x0 + 2) x1 0 (g_97 (x0 + 49) (v_38 (x0 + 2) x1 0 d) 1 (d x0 2) d)) else (x2, d)
def lp_69_15 (x0 x1 : Int) : Nat → Int → Int → mD → Int × mD
  | 0 => st_69_15 x0 x1 (fun _ _ d => (0, d))
  | n + 1 => st_69_15 x0 x1 (lp_69_15 x0 x1 n)
theorem ls_69_15 {E : mO × tW} {K : tK} {x0 x1 : Int} (hx0 : stB x0) (p1 : 0 ≤ x1 ∧ x1 ≤ 5) (N15 : Int) (r15 : Int → Int → mD → Int × mD) (ih15 : ∀ (x2 x3 : Int) (d : mD), Safe d → (0 ≤ x3 ∧ x3 ≤ x2 ∧ x2 ≤ 4) → 0 ≤ x2 - x3 → x2 - x3 < N15 → ((0 ≤ (r15 x2 x3 d).1 ∧ (r15 x2 x3 d).1 ≤ 4) → (∀ b : Int, (b < x0 + 8 ∨ x0 + 9 < b) ∧ (b < x0 + 53 ∨ x0 + 54 < b) → (r15 x2 x3 d).2 b = d b) → Safe (r15 x2 x3 d).2 → K (.inl (some (0, (r15 x2 x3 d).1))) (r15 x2 x3 d).2) → tRun E 69 (15, [.inr (6, x0), .inl (0, x1), .inl (0, x2), .inl (0, x3)], [], 0, 0, d) K) (x2 x3 : Int) (d : mD) (hS : Safe d) (i0 : 0 ≤ x3 ∧ x3 ≤ x2 ∧ x2 ≤ 4) (hm : x2 - x3 ≤ N15) (h : (0 ≤ (st_69_15 x0 x1 r15 x2 x3 d).1 ∧ (st_69_15 x0 x1 r15 x2 x3 d).1 ≤ 4) → (∀ b : Int, (b < x0 + 8 ∨ x0 + 9 < b) ∧ (b < x0 + 53 ∨ x0 + 54 < b) → (st_69_15 x0 x1 r15 x2 x3 d).2 b = d b) → Safe (st_69_15 x0 x1 r15 x2 x3 d).2 → K (.inl (some (0, (st_69_15 x0 x1 r15 x2 x3 d).1))) (st_69_15 x0 x1 r15 x2 x3 d).2) : tRun E 69 (15, [.inr (6, x0), .inl (0, x1), .inl (0, x2), .inl (0, x3)], [], 0, 0, d) K := by
  refine t_69_15 ?_
  refine ⟨⟨m_inR (by omega) (by omega), m_inR (by omega) (by omega)⟩, fun c0 => ?_, fun c0 => ?_⟩
  · have y0 : st_69_15 x0 x1 r15 x2 x3 d = (x2, d) := by simp only [st_69_15, if_neg (show ¬ x3 < x2 from Int.not_lt.mpr c0)]
    rw [y0] at h
    exact h (show 0 ≤ x2 ∧ x2 ≤ 4 from (by omega)) (show ∀ b : Int, (b < x0 + 8 ∨ x0 + 9 < b) ∧ (b < x0 + 53 ∨ x0 + 54 < b) → d b = d b from fun _ _ => rfl) hS
  · refine k_38 hS (stB.of hx0) (by omega) (by omega) (fun e1 => ?_)
    refine t_69_33 ?_
    have q1 := r_6_f2 hS hx0
    refine k_97 hS (stB.ti hx0) (by omega) (by omega) (by omega) (fun F1 hS1 => ?_)
    refine t_69_41 ?_
    refine k_41 hS1 (stB.of hx0) (by omega) (m_inR (by omega) (by omega)) (fun F2 hS2 => ?_)
    refine t_69_50 ?_
    refine ih15 x2 (x3 + 1)  (g_41 (x0 + 2) x1 0 (g_97 (x0 + 49) (v_38 (x0 + 2) x1 0 d) 1 (d x0 2) d)) hS2 (by omega) (by omega) (by omega) ?_
    intro e F hS_
    have y0 : st_69_15 x0 x1 r15 x2 x3 d = r15 x2 (x3 + 1) (g_41 (x0 + 2) x1 0 (g_97 (x0 + 49) (v_38 (x0 + 2) x1 0 d) 1 (d x0 2) d)) := by simp only [st_69_15, if_pos (show x3 < x2 from c0)]
    rw [y0] at h
    exact h e (fun b hb => (F b hb).trans ((show ∀ b : Int, (b < x0 + 8 ∨ x0 + 9 < b) ∧ (b < x0 + 53 ∨ x0 + 54 < b) → (g_41 (x0 + 2) x1 0 (g_97 (x0 + 49) (v_38 (x0 + 2) x1 0 d) 1 (d x0 2) d)) b = d b from fun b hb => (F2 b (by omega)).trans (F1 b (by omega))) b hb)) hS_
theorem l_69_15 {E : mO × tW} {K : tK} {x0 x1 : Int} (hx0 : stB x0) (p1 : 0 ≤ x1 ∧ x1 ≤ 5) : ∀ (n : Nat) (x2 x3 : Int) (d : mD), Safe d → (0 ≤ x3 ∧ x3 ≤ x2 ∧ x2 ≤ 4) → x2 - x3 ≤ (n : Int) → ((0 ≤ (lp_69_15 x0 x1 n x2 x3 d).1 ∧ (lp_69_15 x0 x1 n x2 x3 d).1 ≤ 4) → (∀ b : Int, (b < x0 + 8 ∨ x0 + 9 < b) ∧ (b < x0 + 53 ∨ x0 + 54 < b) → (lp_69_15 x0 x1 n x2 x3 d).2 b = d b) → Safe (lp_69_15 x0 x1 n x2 x3 d).2 → K (.inl (some (0, (lp_69_15 x0 x1 n x2 x3 d).1))) (lp_69_15 x0 x1 n x2 x3 d).2) → tRun E 69 (15, [.inr (6, x0), .inl (0, x1), .inl (0, x2), .inl (0, x3)], [], 0, 0, d) K := by
  intro n
  induction n with
  | zero =>
    intro x2 x3  d hS i0 hm  h
    exact ls_69_15 hx0 p1 0 _ (fun _ _  _ _ _ m0 m1 _ => absurd m1 (by omega)) x2 x3  d hS i0 hm  h
  | succ n ih =>
    intro x2 x3  d hS i0 hm  h
    exact ls_69_15 hx0 p1 ((n + 1 : Nat) : Int) _ (fun x2 x3  d hS i0  m0 m1 h => ih x2 x3  d hS i0 (by omega)  h) x2 x3  d hS i0 hm  h
def f_69 (x0 x1 : Int) (d : mD) : Int × mD := lp_69_15 x0 x1 ((v_42 (x0 + 2) x1 (d x0 2) d) - 0 : Int).toNat (v_42 (x0 + 2) x1 (d x0 2) d) 0 d
def v_69 (x0 x1 : Int) (d : mD) : Int := (f_69 x0 x1 d).1
def g_69 (x0 x1 : Int) (d : mD) : mD := (f_69 x0 x1 d).2
theorem k_69 {E : mO × tW} {K : tK} {d : mD} {x0 x1 : Int} (hS : Safe d) (hx0 : stB x0) (p1 : 0 ≤ x1 ∧ x1 ≤ 5) (h : (0 ≤ (v_69 x0 x1 d) ∧ (v_69 x0 x1 d) ≤ 4) → (∀ b : Int, (b < x0 + 8 ∨ x0 + 9 < b) ∧ (b < x0 + 53 ∨ x0 + 54 < b) → (g_69 x0 x1 d) b = d b) → Safe (g_69 x0 x1 d) → K (.inl (some (0, (v_69 x0 x1 d)))) (g_69 x0 x1 d)) : tCall E 69 [.inr (6, x0), .inl (0, x1)] d K := by
  simp only [v_69, g_69] at h
  refine t_69_0 ?_
  have q2 := r_6_f2 hS hx0
  refine k_42 hS (stB.of hx0) (by omega) (by omega) (fun e2 => ?_)
  refine t_69_12 ?_
  refine l_69_15 hx0 p1 ((v_42 (x0 + 2) x1 (d x0 2) d) - 0 : Int).toNat (v_42 (x0 + 2) x1 (d x0 2) d) 0  d hS (by omega) (by omega) ?_
  intro e F hS_
  have y0 : f_69 x0 x1 d = lp_69_15 x0 x1 ((v_42 (x0 + 2) x1 (d x0 2) d) - 0 : Int).toNat (v_42 (x0 + 2) x1 (d x0 2) d) 0 d := by simp only [f_69]
  rw [y0] at h
  exact h e F hS_
def st_68_22 (x0 x1 : Int) (r4 : Int → Int → mD → Int × mD) (r22 : Int → Int → Int → mD → Int × mD) (x2 x3 x4 : Int) (d : mD) : Int × mD := if x4 < d (x0 + 2) 0 then r22 (x2 + (v_69 x0 x4 d)) x3 (x4 + 1) (g_69 x0 x4 d) else if (d x0 2) % 20 = 0 then r4 x2 (x3 + 1) (g_82 x0 (g_70 x0 d)) else r4 x2 (x3 + 1) (g_82 x0 d)
def lp_68_22 (x0 x1 : Int) (r4 : Int → Int → mD → Int × mD) : Nat → Int → Int → Int → mD → Int × mD
  | 0 => st_68_22 x0 x1 r4 (fun _ _ _ d => (0, d))
  | n + 1 => st_68_22 x0 x1 r4 (lp_68_22 x0 x1 r4 n)
theorem ls_68_22 {E : mO × tW} {K : tK} {x0 x1 : Int} (hx0 : stB x0) (p1 : 0 ≤ x1 ∧ x1 ≤ 200) (N4 : Int) (r4 : Int → Int → mD → Int × mD) (ih4 : ∀ (x2 x3 : Int) (v4 : tV) (d : mD), Safe d → (0 ≤ x3 ∧ x3 ≤ x1) → (0 ≤ x2 ∧ x2 ≤ 24 * x3) → (d x0 2 + (x1 - x3) ≤ 1199) → (x0 = 580 ∨ d x0 2 + (x1 - x3) ≤ 999) → 0 ≤ x1 - x3 → x1 - x3 < N4 → ((0 ≤ (r4 x2 x3 d).1 ∧ (r4 x2 x3 d).1 ≤ 4800) → (∀ b : Int, (b < x0 ∨ x0 < b) ∧ (b < x0 + 8 ∨ x0 + 9 < b) ∧ (b < x0 + 12 ∨ x0 + 15 < b) ∧ (b < x0 + 18 ∨ x0 + 48 < b) ∧ (b < x0 + 53 ∨ x0 + 54 < b) ∧ (b < x0 + 57 ∨ x0 + 62 < b) → (r4 x2 x3 d).2 b = d b) → ((r4 x2 x3 d).2 x0 2 = d x0 2 + (x1 - x3)) → Safe (r4 x2 x3 d).2 → K (.inl (some (0, (r4 x2 x3 d).1))) (r4 x2 x3 d).2) → tRun E 68 (4, [.inr (6, x0), .inl (0, x1), .inl (0, x2), .inl (0, x3), v4], [], 0, 0, d) K) (N22 : Int) (r22 : Int → Int → Int → mD → Int × mD) (ih22 : ∀ (x2 x3 x4 : Int) (d : mD), Safe d → (0 ≤ x3 ∧ x3 < x1) → (0 ≤ x4 ∧ x4 ≤ 6) → (0 ≤ x2 ∧ x2 ≤ 24 * x3 + 4 * x4) → (d x0 2 + (x1 - x3 - 1) ≤ 1199) → (x0 = 580 ∨ d x0 2 + (x1 - x3 - 1) ≤ 999) → x1 - x3 ≤ N4 → 0 ≤ 6 - x4 → 6 - x4 < N22 → ((0 ≤ (r22 x2 x3 x4 d).1 ∧ (r22 x2 x3 x4 d).1 ≤ 4800) → (∀ b : Int, (b < x0 ∨ x0 < b) ∧ (b < x0 + 8 ∨ x0 + 9 < b) ∧ (b < x0 + 12 ∨ x0 + 15 < b) ∧ (b < x0 + 18 ∨ x0 + 48 < b) ∧ (b < x0 + 53 ∨ x0 + 54 < b) ∧ (b < x0 + 57 ∨ x0 + 62 < b) → (r22 x2 x3 x4 d).2 b = d b) → ((r22 x2 x3 x4 d).2 x0 2 = d x0 2 + (x1 - x3 - 1)) → Safe (r22 x2 x3 x4 d).2 → K (.inl (some (0, (r22 x2 x3 x4 d).1))) (r22 x2 x3 x4 d).2) → tRun E 68 (22, [.inr (6, x0), .inl (0, x1), .inl (0, x2), .inl (0, x3), .inl (0, x4)], [], 0, 0, d) K) (x2 x3 x4 : Int) (d : mD) (hS : Safe d) (i0 : 0 ≤ x3 ∧ x3 < x1) (i1 : 0 ≤ x4 ∧ x4 ≤ 6) (i2 : 0 ≤ x2 ∧ x2 ≤ 24 * x3 + 4 * x4) (i3 : d x0 2 + (x1 - x3 - 1) ≤ 1199) (i4 : x0 = 580 ∨ d x0 2 + (x1 - x3 - 1) ≤ 999) (hm : 6 - x4 ≤ N22) (m4 : x1 - x3 ≤ N4) (h : (0 ≤ (st_68_22 x0 x1 r4 r22 x2 x3 x4 d).1 ∧ (st_68_22 x0 x1 r4 r22 x2 x3 x4 d).1 ≤ 4800) → (∀ b : Int, (b < x0 ∨ x0 < b) ∧ (b < x0 + 8 ∨ x0 + 9 < b) ∧ (b < x0 + 12 ∨ x0 + 15 < b) ∧ (b < x0 + 18 ∨ x0 + 48 < b) ∧ (b < x0 + 53 ∨ x0 + 54 < b) ∧ (b < x0 + 57 ∨ x0 + 62 < b) → (st_68_22 x0 x1 r4 r22 x2 x3 x4 d).2 b = d b) → ((st_68_22 x0 x1 r4 r22 x2 x3 x4 d).2 x0 2 = d x0 2 + (x1 - x3 - 1)) → Safe (st_68_22 x0 x1 r4 r22 x2 x3 x4 d).2 → K (.inl (some (0, (st_68_22 x0 x1 r4 r22 x2 x3 x4 d).1))) (st_68_22 x0 x1 r4 r22 x2 x3 x4 d).2) : tRun E 68 (22, [.inr (6, x0), .inl (0, x1), .inl (0, x2), .inl (0, x3), .inl (0, x4)], [], 0, 0, d) K := by
  refine t_68_22 ?_
  have q1 := r_3_f0 hS (stB.of hx0)
  refine ⟨⟨m_inR (by omega) (by omega), m_inR (by omega) (by omega)⟩, fun c0 => ?_, fun c0 => ?_⟩
  · have q2 := r_6_f2 hS hx0
    refine ⟨by omega, m_inR (by omega) (by omega), fun c1 => ?_, fun c1 => ?_⟩
    · refine t_68_63 ?_
      refine k_82 hS hx0 (fun e1 F1 k1_0 hS1 => ?_)
      refine t_68_67 ?_
      have q3 : (g_82 x0 d) x0 2 = d x0 2 := k1_0
      refine ih4 x2 (x3 + 1) (.inl (0, x4)) (g_82 x0 d) hS1 (by omega) (by omega) (by omega) (by omega) (by omega) (by omega) ?_
      intro e F n0 hS_
      have y0 : st_68_22 x0 x1 r4 r22 x2 x3 x4 d = r4 x2 (x3 + 1) (g_82 x0 d) := by simp only [st_68_22, if_neg (show ¬ x4 < d (x0 + 2) 0 from Int.not_lt.mpr c0), if_neg (show ¬ (d x0 2) % 20 = 0 from c1)]
      rw [y0] at h
      exact h e (fun b hb => (F b hb).trans ((show ∀ b : Int, (b < x0 ∨ x0 < b) ∧ (b < x0 + 8 ∨ x0 + 9 < b) ∧ (b < x0 + 12 ∨ x0 + 15 < b) ∧ (b < x0 + 18 ∨ x0 + 48 < b) ∧ (b < x0 + 53 ∨ x0 + 54 < b) ∧ (b < x0 + 57 ∨ x0 + 62 < b) → (g_82 x0 d) b = d b from fun b hb => F1 b (by omega)) b hb)) (by omega) hS_
    · refine k_70 hS hx0 (fun F2 hS2 => ?_)
      refine t_68_63 ?_
      refine k_82 hS2 hx0 (fun e2 F3 k3_0 hS3 => ?_)
      refine t_68_67 ?_
      have q4 : (g_82 x0 (g_70 x0 d)) x0 2 = d x0 2 := (k3_0).trans (congrFun (F2 x0 (by omega)) 2)
      refine ih4 x2 (x3 + 1) (.inl (0, x4)) (g_82 x0 (g_70 x0 d)) hS3 (by omega) (by omega) (by omega) (by omega) (by omega) (by omega) ?_
      intro e F n0 hS_
      have y0 : st_68_22 x0 x1 r4 r22 x2 x3 x4 d = r4 x2 (x3 + 1) (g_82 x0 (g_70 x0 d)) := by simp only [st_68_22, if_neg (show ¬ x4 < d (x0 + 2) 0 from Int.not_lt.mpr c0), if_pos (show (d x0 2) % 20 = 0 from c1)]
      rw [y0] at h
      exact h e (fun b hb => (F b hb).trans ((show ∀ b : Int, (b < x0 ∨ x0 < b) ∧ (b < x0 + 8 ∨ x0 + 9 < b) ∧ (b < x0 + 12 ∨ x0 + 15 < b) ∧ (b < x0 + 18 ∨ x0 + 48 < b) ∧ (b < x0 + 53 ∨ x0 + 54 < b) ∧ (b < x0 + 57 ∨ x0 + 62 < b) → (g_82 x0 (g_70 x0 d)) b = d b from fun b hb => (F3 b (by omega)).trans (F2 b (by omega))) b hb)) (by omega) hS_
  · refine k_69 hS hx0 (by omega) (fun e3 F4 hS4 => ?_)
    refine t_68_41 ?_
    have q5 : (g_69 x0 x4 d) x0 2 = d x0 2 := congrFun (F4 x0 (by omega)) 2
    refine ih22 (x2 + (v_69 x0 x4 d)) x3 (x4 + 1)  (g_69 x0 x4 d) hS4 (by omega) (by omega) (by omega) (by omega) (by omega) (by omega) (by omega) (by omega) ?_
    intro e F n0 hS_
    have y0 : st_68_22 x0 x1 r4 r22 x2 x3 x4 d = r22 (x2 + (v_69 x0 x4 d)) x3 (x4 + 1) (g_69 x0 x4 d) := by simp only [st_68_22, if_pos (show x4 < d (x0 + 2) 0 from c0)]
    rw [y0] at h
    exact h e (fun b hb => (F b hb).trans ((show ∀ b : Int, (b < x0 ∨ x0 < b) ∧ (b < x0 + 8 ∨ x0 + 9 < b) ∧ (b < x0 + 12 ∨ x0 + 15 < b) ∧ (b < x0 + 18 ∨ x0 + 48 < b) ∧ (b < x0 + 53 ∨ x0 + 54 < b) ∧ (b < x0 + 57 ∨ x0 + 62 < b) → (g_69 x0 x4 d) b = d b from fun b hb => F4 b (by omega)) b hb)) (by omega) hS_
theorem l_68_22 {E : mO × tW} {K : tK} {x0 x1 : Int} (hx0 : stB x0) (p1 : 0 ≤ x1 ∧ x1 ≤ 200) (N4 : Int) (r4 : Int → Int → mD → Int × mD) (ih4 : ∀ (x2 x3 : Int) (v4 : tV) (d : mD), Safe d → (0 ≤ x3 ∧ x3 ≤ x1) → (0 ≤ x2 ∧ x2 ≤ 24 * x3) → (d x0 2 + (x1 - x3) ≤ 1199) → (x0 = 580 ∨ d x0 2 + (x1 - x3) ≤ 999) → 0 ≤ x1 - x3 → x1 - x3 < N4 → ((0 ≤ (r4 x2 x3 d).1 ∧ (r4 x2 x3 d).1 ≤ 4800) → (∀ b : Int, (b < x0 ∨ x0 < b) ∧ (b < x0 + 8 ∨ x0 + 9 < b) ∧ (b < x0 + 12 ∨ x0 + 15 < b) ∧ (b < x0 + 18 ∨ x0 + 48 < b) ∧ (b < x0 + 53 ∨ x0 + 54 < b) ∧ (b < x0 + 57 ∨ x0 + 62 < b) → (r4 x2 x3 d).2 b = d b) → ((r4 x2 x3 d).2 x0 2 = d x0 2 + (x1 - x3)) → Safe (r4 x2 x3 d).2 → K (.inl (some (0, (r4 x2 x3 d).1))) (r4 x2 x3 d).2) → tRun E 68 (4, [.inr (6, x0), .inl (0, x1), .inl (0, x2), .inl (0, x3), v4], [], 0, 0, d) K) : ∀ (n : Nat) (x2 x3 x4 : Int) (d : mD), Safe d → (0 ≤ x3 ∧ x3 < x1) → (0 ≤ x4 ∧ x4 ≤ 6) → (0 ≤ x2 ∧ x2 ≤ 24 * x3 + 4 * x4) → (d x0 2 + (x1 - x3 - 1) ≤ 1199) → (x0 = 580 ∨ d x0 2 + (x1 - x3 - 1) ≤ 999) → 6 - x4 ≤ (n : Int) → x1 - x3 ≤ N4 → ((0 ≤ (lp_68_22 x0 x1 r4 n x2 x3 x4 d).1 ∧ (lp_68_22 x0 x1 r4 n x2 x3 x4 d).1 ≤ 4800) → (∀ b : Int, (b < x0 ∨ x0 < b) ∧ (b < x0 + 8 ∨ x0 + 9 < b) ∧ (b < x0 + 12 ∨ x0 + 15 < b) ∧ (b < x0 + 18 ∨ x0 + 48 < b) ∧ (b < x0 + 53 ∨ x0 + 54 < b) ∧ (b < x0 + 57 ∨ x0 + 62 < b) → (lp_68_22 x0 x1 r4 n x2 x3 x4 d).2 b = d b) → ((lp_68_22 x0 x1 r4 n x2 x3 x4 d).2 x0 2 = d x0 2 + (x1 - x3 - 1)) → Safe (lp_68_22 x0 x1 r4 n x2 x3 x4 d).2 → K (.inl (some (0, (lp_68_22 x0 x1 r4 n x2 x3 x4 d).1))) (lp_68_22 x0 x1 r4 n x2 x3 x4 d).2) → tRun E 68 (22, [.inr (6, x0), .inl (0, x1), .inl (0, x2), .inl (0, x3), .inl (0, x4)], [], 0, 0, d) K := by
  intro n
  induction n with
  | zero =>
    intro x2 x3 x4  d hS i0 i1 i2 i3 i4 hm m4 h
    exact ls_68_22 hx0 p1 N4 r4 ih4 0 _ (fun _ _ _  _ _ _ _ _ _ _ _ m0 m1 _ => absurd m1 (by omega)) x2 x3 x4  d hS i0 i1 i2 i3 i4 hm m4 h
  | succ n ih =>
    intro x2 x3 x4  d hS i0 i1 i2 i3 i4 hm m4 h
    exact ls_68_22 hx0 p1 N4 r4 ih4 ((n + 1 : Nat) : Int) _ (fun x2 x3 x4  d hS i0 i1 i2 i3 i4 m4 m0 m1 h => ih x2 x3 x4  d hS i0 i1 i2 i3 i4 (by omega) m4 h) x2 x3 x4  d hS i0 i1 i2 i3 i4 hm m4 h
def st_68_4 (x0 x1 : Int) (r4 : Int → Int → mD → Int × mD) (x2 x3 : Int) (d : mD) : Int × mD := if x3 < x1 then lp_68_22 x0 x1 r4 (6 - 0 : Int).toNat x2 x3 0 (mset d x0 2 ((d x0 2) + 1)) else (x2, d)
def lp_68_4 (x0 x1 : Int) : Nat → Int → Int → mD → Int × mD
  | 0 => st_68_4 x0 x1 (fun _ _ d => (0, d))
  | n + 1 => st_68_4 x0 x1 (lp_68_4 x0 x1 n)
theorem ls_68_4 {E : mO × tW} {K : tK} {x0 x1 : Int} (hx0 : stB x0) (p1 : 0 ≤ x1 ∧ x1 ≤ 200) (N4 : Int) (r4 : Int → Int → mD → Int × mD) (ih4 : ∀ (x2 x3 : Int) (v4 : tV) (d : mD), Safe d → (0 ≤ x3 ∧ x3 ≤ x1) → (0 ≤ x2 ∧ x2 ≤ 24 * x3) → (d x0 2 + (x1 - x3) ≤ 1199) → (x0 = 580 ∨ d x0 2 + (x1 - x3) ≤ 999) → 0 ≤ x1 - x3 → x1 - x3 < N4 → ((0 ≤ (r4 x2 x3 d).1 ∧ (r4 x2 x3 d).1 ≤ 4800) → (∀ b : Int, (b < x0 ∨ x0 < b) ∧ (b < x0 + 8 ∨ x0 + 9 < b) ∧ (b < x0 + 12 ∨ x0 + 15 < b) ∧ (b < x0 + 18 ∨ x0 + 48 < b) ∧ (b < x0 + 53 ∨ x0 + 54 < b) ∧ (b < x0 + 57 ∨ x0 + 62 < b) → (r4 x2 x3 d).2 b = d b) → ((r4 x2 x3 d).2 x0 2 = d x0 2 + (x1 - x3)) → Safe (r4 x2 x3 d).2 → K (.inl (some (0, (r4 x2 x3 d).1))) (r4 x2 x3 d).2) → tRun E 68 (4, [.inr (6, x0), .inl (0, x1), .inl (0, x2), .inl (0, x3), v4], [], 0, 0, d) K) (x2 x3 : Int) (v4 : tV) (d : mD) (hS : Safe d) (i0 : 0 ≤ x3 ∧ x3 ≤ x1) (i1 : 0 ≤ x2 ∧ x2 ≤ 24 * x3) (i2 : d x0 2 + (x1 - x3) ≤ 1199) (i3 : x0 = 580 ∨ d x0 2 + (x1 - x3) ≤ 999) (hm : x1 - x3 ≤ N4) (h : (0 ≤ (st_68_4 x0 x1 r4 x2 x3 d).1 ∧ (st_68_4 x0 x1 r4 x2 x3 d).1 ≤ 4800) → (∀ b : Int, (b < x0 ∨ x0 < b) ∧ (b < x0 + 8 ∨ x0 + 9 < b) ∧ (b < x0 + 12 ∨ x0 + 15 < b) ∧ (b < x0 + 18 ∨ x0 + 48 < b) ∧ (b < x0 + 53 ∨ x0 + 54 < b) ∧ (b < x0 + 57 ∨ x0 + 62 < b) → (st_68_4 x0 x1 r4 x2 x3 d).2 b = d b) → ((st_68_4 x0 x1 r4 x2 x3 d).2 x0 2 = d x0 2 + (x1 - x3)) → Safe (st_68_4 x0 x1 r4 x2 x3 d).2 → K (.inl (some (0, (st_68_4 x0 x1 r4 x2 x3 d).1))) (st_68_4 x0 x1 r4 x2 x3 d).2) : tRun E 68 (4, [.inr (6, x0), .inl (0, x1), .inl (0, x2), .inl (0, x3), v4], [], 0, 0, d) K := by
  refine t_68_4 ?_
  refine ⟨⟨m_inR (by omega) (by omega), m_inR (by omega) (by omega)⟩, fun c0 => ?_, fun c0 => ?_⟩
  · have y0 : st_68_4 x0 x1 r4 x2 x3 d = (x2, d) := by simp only [st_68_4, if_neg (show ¬ x3 < x1 from Int.not_lt.mpr c0)]
    rw [y0] at h
    exact h (show 0 ≤ x2 ∧ x2 ≤ 4800 from (by omega)) (show ∀ b : Int, (b < x0 ∨ x0 < b) ∧ (b < x0 + 8 ∨ x0 + 9 < b) ∧ (b < x0 + 12 ∨ x0 + 15 < b) ∧ (b < x0 + 18 ∨ x0 + 48 < b) ∧ (b < x0 + 53 ∨ x0 + 54 < b) ∧ (b < x0 + 57 ∨ x0 + 62 < b) → d b = d b from fun _ _ => rfl) (show d x0 2 = d x0 2 + (x1 - x3) by omega) hS
  · have q6 := r_6_f2 hS hx0
    have hS5 : Safe (mset d x0 2 ((d x0 2) + 1)) := s_6_f2 hS hx0 (by omega)
    have q7 : (mset d x0 2 ((d x0 2) + 1)) x0 2 = (d x0 2) + 1 := mset_eq
    refine l_68_22 hx0 p1 N4 r4 ih4 (6 - 0 : Int).toNat x2 x3 0  (mset d x0 2 ((d x0 2) + 1)) hS5 (by omega) (by omega) (by omega) (by omega) (by omega) (by omega) (by omega) ?_
    intro e F n0 hS_
    have y0 : st_68_4 x0 x1 r4 x2 x3 d = lp_68_22 x0 x1 r4 (6 - 0 : Int).toNat x2 x3 0 (mset d x0 2 ((d x0 2) + 1)) := by simp only [st_68_4, if_pos (show x3 < x1 from c0)]
    rw [y0] at h
    exact h e (fun b hb => (F b hb).trans ((show ∀ b : Int, (b < x0 ∨ x0 < b) ∧ (b < x0 + 8 ∨ x0 + 9 < b) ∧ (b < x0 + 12 ∨ x0 + 15 < b) ∧ (b < x0 + 18 ∨ x0 + 48 < b) ∧ (b < x0 + 53 ∨ x0 + 54 < b) ∧ (b < x0 + 57 ∨ x0 + 62 < b) → (mset d x0 2 ((d x0 2) + 1)) b = d b from fun b hb => mset_ne (by omega)) b hb)) (by omega) hS_
theorem l_68_4 {E : mO × tW} {K : tK} {x0 x1 : Int} (hx0 : stB x0) (p1 : 0 ≤ x1 ∧ x1 ≤ 200) : ∀ (n : Nat) (x2 x3 : Int) (v4 : tV) (d : mD), Safe d → (0 ≤ x3 ∧ x3 ≤ x1) → (0 ≤ x2 ∧ x2 ≤ 24 * x3) → (d x0 2 + (x1 - x3) ≤ 1199) → (x0 = 580 ∨ d x0 2 + (x1 - x3) ≤ 999) → x1 - x3 ≤ (n : Int) → ((0 ≤ (lp_68_4 x0 x1 n x2 x3 d).1 ∧ (lp_68_4 x0 x1 n x2 x3 d).1 ≤ 4800) → (∀ b : Int, (b < x0 ∨ x0 < b) ∧ (b < x0 + 8 ∨ x0 + 9 < b) ∧ (b < x0 + 12 ∨ x0 + 15 < b) ∧ (b < x0 + 18 ∨ x0 + 48 < b) ∧ (b < x0 + 53 ∨ x0 + 54 < b) ∧ (b < x0 + 57 ∨ x0 + 62 < b) → (lp_68_4 x0 x1 n x2 x3 d).2 b = d b) → ((lp_68_4 x0 x1 n x2 x3 d).2 x0 2 = d x0 2 + (x1 - x3)) → Safe (lp_68_4 x0 x1 n x2 x3 d).2 → K (.inl (some (0, (lp_68_4 x0 x1 n x2 x3 d).1))) (lp_68_4 x0 x1 n x2 x3 d).2) → tRun E 68 (4, [.inr (6, x0), .inl (0, x1), .inl (0, x2), .inl (0, x3), v4], [], 0, 0, d) K := by
  intro n
  induction n with
  | zero =>
    intro x2 x3 v4 d hS i0 i1 i2 i3 hm  h
    exact ls_68_4 hx0 p1 0 _ (fun _ _ _ _ _ _ _ _ _ m0 m1 _ => absurd m1 (by omega)) x2 x3 v4 d hS i0 i1 i2 i3 hm  h
  | succ n ih =>
    intro x2 x3 v4 d hS i0 i1 i2 i3 hm  h
    exact ls_68_4 hx0 p1 ((n + 1 : Nat) : Int) _ (fun x2 x3 v4 d hS i0 i1 i2 i3  m0 m1 h => ih x2 x3 v4 d hS i0 i1 i2 i3 (by omega)  h) x2 x3 v4 d hS i0 i1 i2 i3 hm  h
def f_68 (x0 x1 : Int) (d : mD) : Int × mD := lp_68_4 x0 x1 (x1 - 0 : Int).toNat 0 0 d
def v_68 (x0 x1 : Int) (d : mD) : Int := (f_68 x0 x1 d).1
def g_68 (x0 x1 : Int) (d : mD) : mD := (f_68 x0 x1 d).2
theorem k_68 {E : mO × tW} {K : tK} {d : mD} {x0 x1 : Int} (hS : Safe d) (hx0 : stB x0) (p1 : 0 ≤ x1 ∧ x1 ≤ 200) (ht : d x0 2 + x1 ≤ 1199) (hu : x0 = 580 ∨ d x0 2 + x1 ≤ 999) (h : (0 ≤ (v_68 x0 x1 d) ∧ (v_68 x0 x1 d) ≤ 4800) → (∀ b : Int, (b < x0 ∨ x0 < b) ∧ (b < x0 + 8 ∨ x0 + 9 < b) ∧ (b < x0 + 12 ∨ x0 + 15 < b) ∧ (b < x0 + 18 ∨ x0 + 48 < b) ∧ (b < x0 + 53 ∨ x0 + 54 < b) ∧ (b < x0 + 57 ∨ x0 + 62 < b) → (g_68 x0 x1 d) b = d b) → ((g_68 x0 x1 d) x0 2 = d x0 2 + x1) → Safe (g_68 x0 x1 d) → K (.inl (some (0, (v_68 x0 x1 d)))) (g_68 x0 x1 d)) : tCall E 68 [.inr (6, x0), .inl (0, x1)] d K := by
  simp only [v_68, g_68] at h
  refine t_68_0 ?_
  refine l_68_4 hx0 p1 (x1 - 0 : Int).toNat 0 0 tu d hS (by omega) (by omega) (by omega) (by omega) (by omega) ?_
  intro e F n0 hS_
  have y0 : f_68 x0 x1 d = lp_68_4 x0 x1 (x1 - 0 : Int).toNat 0 0 d := by simp only [f_68]
  rw [y0] at h
  exact h e F (by omega) hS_
/-! ===== contracts of the methods: printed by a program of mine ===== -/
def g_86 (x0 x1 : Int) (d : mD) : mD := if d x0 1 < 1000 then mset (mset d (x0 + 1) (d x0 1) (mi2b x1)) x0 1 ((d x0 1) + 1) else d
theorem k_86 {E : mO × tW} {K : tK} {d : mD} {x0 x1 : Int} (hS : Safe d) (hx0 : txB x0) (h : (∀ b : Int, (b < x0 ∨ x0 + 1 < b) → (g_86 x0 x1 d) b = d b) → Safe (g_86 x0 x1 d) → K (.inl none) (g_86 x0 x1 d)) : tCall E 86 [.inr (7, x0), .inl (0, x1)] d K := by
  refine t_86_0 ?_
  have q1 := r_7_f1 hS hx0
  refine ⟨⟨m_inR (by omega) (by omega), m_inR (by omega) (by omega)⟩, fun c0 => ?_, fun c0 => ?_⟩
  · have y0 : g_86 x0 x1 d = d := by simp only [g_86, if_neg (show ¬ d x0 1 < 1000 from Int.not_lt.mpr c0)]
    rw [y0] at h
    exact h (show ∀ b : Int, (b < x0 ∨ x0 + 1 < b) → d b = d b from fun _ _ => rfl) hS
  · have q2 := mi2b_r x1
    refine ⟨by omega, ?_⟩
    have hS1 : Safe (mset d (x0 + 1) (d x0 1) (mi2b x1)) := s_7_1 hS hx0 (by omega)
    rw [mset_ne (d := d) (a := x0 + 1) (i := d x0 1) (v := mi2b x1) (b := x0) (by omega)]
    have hS2 : Safe (mset (mset d (x0 + 1) (d x0 1) (mi2b x1)) x0 1 ((d x0 1) + 1)) := s_7_f1 hS1 hx0 (by omega)
    have y0 : g_86 x0 x1 d = mset (mset d (x0 + 1) (d x0 1) (mi2b x1)) x0 1 ((d x0 1) + 1) := by simp only [g_86, if_pos (show d x0 1 < 1000 from c0)]
    rw [y0] at h
    exact h (show ∀ b : Int, (b < x0 ∨ x0 + 1 < b) → (mset (mset d (x0 + 1) (d x0 1) (mi2b x1)) x0 1 ((d x0 1) + 1)) b = d b from fun b hb => (mset_ne (by omega)).trans (mset_ne (by omega))) hS2
def g_87 (x0 x1 : Int) (d : mD) : mD := g_86 x0 x1 (g_86 x0 (miushr x1 8) (g_86 x0 (miushr x1 16) (g_86 x0 (miushr x1 24) d)))
theorem k_87 {E : mO × tW} {K : tK} {d : mD} {x0 x1 : Int} (hS : Safe d) (hx0 : txB x0) (p1 : -2147483648 ≤ x1 ∧ x1 ≤ 2147483647) (h : (∀ b : Int, (b < x0 ∨ x0 + 1 < b) → (g_87 x0 x1 d) b = d b) → Safe (g_87 x0 x1 d) → K (.inl none) (g_87 x0 x1 d)) : tCall E 87 [.inr (7, x0), .inl (0, x1)] d K := by
  refine t_87_0 ?_
  refine k_86 hS hx0 (fun F1 hS1 => ?_)
  refine t_87_8 ?_
  refine k_86 hS1 hx0 (fun F2 hS2 => ?_)
  refine t_87_16 ?_
  refine k_86 hS2 hx0 (fun F3 hS3 => ?_)
  refine t_87_24 ?_
  refine k_86 hS3 hx0 (fun F4 hS4 => ?_)
  refine t_87_29 ?_
  have y0 : g_87 x0 x1 d = g_86 x0 x1 (g_86 x0 (miushr x1 8) (g_86 x0 (miushr x1 16) (g_86 x0 (miushr x1 24) d))) := by simp only [g_87]
  rw [y0] at h
  exact h (show ∀ b : Int, (b < x0 ∨ x0 + 1 < b) → (g_86 x0 x1 (g_86 x0 (miushr x1 8) (g_86 x0 (miushr x1 16) (g_86 x0 (miushr x1 24) d)))) b = d b from fun b hb => (F4 b (by omega)).trans ((F3 b (by omega)).trans ((F2 b (by omega)).trans (F1 b (by omega))))) hS4
def st_88_3 (x0 x1 : Int) (r3 : Int → mD → mD) (x2 : Int) (d : mD) : mD := if x2 < 0 then d else if miand (mishr x1 x2) 31 = 0 then r3 (x2 + (-5)) d else r3 (x2 + (-5)) (g_86 x0 ((miand (mishr x1 x2) 31) + 96) d)
def lp_88_3 (x0 x1 : Int) : Nat → Int → mD → mD
  | 0 => st_88_3 x0 x1 (fun _ d => d)
  | n + 1 => st_88_3 x0 x1 (lp_88_3 x0 x1 n)
theorem ls_88_3 {E : mO × tW} {K : tK} {x0 x1 : Int} (hx0 : txB x0) (p1 : -2147483648 ≤ x1 ∧ x1 ≤ 2147483647) (N3 : Int) (r3 : Int → mD → mD) (ih3 : ∀ (x2 : Int) (v3 : tV) (d : mD), Safe d → (-5 ≤ x2 ∧ x2 ≤ 25) → 0 ≤ x2 + 5 → x2 + 5 < N3 → ((∀ b : Int, (b < x0 ∨ x0 + 1 < b) → (r3 x2 d) b = d b) → Safe (r3 x2 d) → K (.inl none) (r3 x2 d)) → tRun E 88 (3, [.inr (7, x0), .inl (0, x1), .inl (0, x2), v3], [], 0, 0, d) K) (x2 : Int) (v3 : tV) (d : mD) (hS : Safe d) (i0 : -5 ≤ x2 ∧ x2 ≤ 25) (hm : x2 + 5 ≤ N3) (h : (∀ b : Int, (b < x0 ∨ x0 + 1 < b) → (st_88_3 x0 x1 r3 x2 d) b = d b) → Safe (st_88_3 x0 x1 r3 x2 d) → K (.inl none) (st_88_3 x0 x1 r3 x2 d)) : tRun E 88 (3, [.inr (7, x0), .inl (0, x1), .inl (0, x2), v3], [], 0, 0, d) K := by
  refine t_88_3 ?_
  refine ⟨m_inR (by omega) (by omega), fun c0 => ?_, fun c0 => ?_⟩
  · have y0 : st_88_3 x0 x1 r3 x2 d = d := by simp only [st_88_3, if_pos (show x2 < 0 from c0)]
    rw [y0] at h
    exact h (show ∀ b : Int, (b < x0 ∨ x0 + 1 < b) → d b = d b from fun _ _ => rfl) hS
  · have q1 := miand_r (mishr x1 x2) 31 (by decide) (by decide)
    refine ⟨mI_inR _ _ _, fun c1 => ?_, fun c1 => ?_⟩
    · refine t_88_26 ?_
      refine ih3 (x2 + (-5)) (.inl (0, miand (mishr x1 x2) 31)) d hS (by omega) (by omega) (by omega) ?_
      intro F hS_
      have y0 : st_88_3 x0 x1 r3 x2 d = r3 (x2 + (-5)) d := by simp only [st_88_3, if_neg (show ¬ x2 < 0 from Int.not_lt.mpr c0), if_pos (show miand (mishr x1 x2) 31 = 0 from c1)]
      rw [y0] at h
      exact h F hS_
    · refine k_86 hS hx0 (fun F1 hS1 => ?_)
      refine t_88_26 ?_
      refine ih3 (x2 + (-5)) (.inl (0, miand (mishr x1 x2) 31)) (g_86 x0 ((miand (mishr x1 x2) 31) + 96) d) hS1 (by omega) (by omega) (by omega) ?_
      intro F hS_
      have y0 : st_88_3 x0 x1 r3 x2 d = r3 (x2 + (-5)) (g_86 x0 ((miand (mishr x1 x2) 31) + 96) d) := by simp only [st_88_3, if_neg (show ¬ x2 < 0 from Int.not_lt.mpr c0), if_neg (show ¬ miand (mishr x1 x2) 31 = 0 from c1)]
      rw [y0] at h
      exact h (fun b hb => (F b hb).trans ((show ∀ b : Int, (b < x0 ∨ x0 + 1 < b) → (g_86 x0 ((miand (mishr x1 x2) 31) + 96) d) b = d b from fun b hb => F1 b (by omega)) b hb)) hS_
theorem l_88_3 {E : mO × tW} {K : tK} {x0 x1 : Int} (hx0 : txB x0) (p1 : -2147483648 ≤ x1 ∧ x1 ≤ 2147483647) : ∀ (n : Nat) (x2 : Int) (v3 : tV) (d : mD), Safe d → (-5 ≤ x2 ∧ x2 ≤ 25) → x2 + 5 ≤ (n : Int) → ((∀ b : Int, (b < x0 ∨ x0 + 1 < b) → (lp_88_3 x0 x1 n x2 d) b = d b) → Safe (lp_88_3 x0 x1 n x2 d) → K (.inl none) (lp_88_3 x0 x1 n x2 d)) → tRun E 88 (3, [.inr (7, x0), .inl (0, x1), .inl (0, x2), v3], [], 0, 0, d) K := by
  intro n
  induction n with
  | zero =>
    intro x2 v3 d hS i0 hm  h
    exact ls_88_3 hx0 p1 0 _ (fun _ _ _ _ _ m0 m1 _ => absurd m1 (by omega)) x2 v3 d hS i0 hm  h
  | succ n ih =>
    intro x2 v3 d hS i0 hm  h
    exact ls_88_3 hx0 p1 ((n + 1 : Nat) : Int) _ (fun x2 v3 d hS i0  m0 m1 h => ih x2 v3 d hS i0 (by omega)  h) x2 v3 d hS i0 hm  h
def g_88 (x0 x1 : Int) (d : mD) : mD := lp_88_3 x0 x1 (25 + 5 : Int).toNat 25 d
theorem k_88 {E : mO × tW} {K : tK} {d : mD} {x0 x1 : Int} (hS : Safe d) (hx0 : txB x0) (p1 : -2147483648 ≤ x1 ∧ x1 ≤ 2147483647) (h : (∀ b : Int, (b < x0 ∨ x0 + 1 < b) → (g_88 x0 x1 d) b = d b) → Safe (g_88 x0 x1 d) → K (.inl none) (g_88 x0 x1 d)) : tCall E 88 [.inr (7, x0), .inl (0, x1)] d K := by
  refine t_88_0 ?_
  refine l_88_3 hx0 p1 (25 + 5 : Int).toNat 25 tu d hS (by omega) (by omega) ?_
  intro F hS_
  have y0 : g_88 x0 x1 d = lp_88_3 x0 x1 (25 + 5 : Int).toNat 25 d := by simp only [g_88]
  rw [y0] at h
  exact h F hS_
def st_89_4 (x0 x1 : Int) (r4 : Int → mD → mD) (x2 : Int) (d : mD) : mD := if (0 : Int) < x2 then (if x1 < x2 then (if x2 = 1 then r4 (x2 / 10) (g_86 x0 (48 + ((x1 / x2) % 10)) d) else r4 (x2 / 10) d) else r4 (x2 / 10) (g_86 x0 (48 + ((x1 / x2) % 10)) d)) else d
def lp_89_4 (x0 x1 : Int) : Nat → Int → mD → mD
  | 0 => st_89_4 x0 x1 (fun _ d => d)
  | n + 1 => st_89_4 x0 x1 (lp_89_4 x0 x1 n)
theorem ls_89_4 {E : mO × tW} {K : tK} {x0 x1 : Int} (hx0 : txB x0) (p1 : 0 ≤ x1 ∧ x1 ≤ 999) (N4 : Int) (r4 : Int → mD → mD) (ih4 : ∀ (x2 : Int) (d : mD), Safe d → (0 ≤ x2 ∧ x2 ≤ 1000) → 0 ≤ x2 → x2 < N4 → ((∀ b : Int, (b < x0 ∨ x0 + 1 < b) → (r4 x2 d) b = d b) → Safe (r4 x2 d) → K (.inl none) (r4 x2 d)) → tRun E 89 (4, [.inr (7, x0), .inl (0, x1), .inl (0, x2)], [], 0, 0, d) K) (x2 : Int) (d : mD) (hS : Safe d) (i0 : 0 ≤ x2 ∧ x2 ≤ 1000) (hm : x2 ≤ N4) (h : (∀ b : Int, (b < x0 ∨ x0 + 1 < b) → (st_89_4 x0 x1 r4 x2 d) b = d b) → Safe (st_89_4 x0 x1 r4 x2 d) → K (.inl none) (st_89_4 x0 x1 r4 x2 d)) : tRun E 89 (4, [.inr (7, x0), .inl (0, x1), .inl (0, x2)], [], 0, 0, d) K := by
  refine t_89_4 ?_
  refine ⟨m_inR (by omega) (by omega), fun c0 => ?_, fun c0 => ?_⟩
  · have y0 : st_89_4 x0 x1 r4 x2 d = d := by simp only [st_89_4, if_neg (show ¬ (0 : Int) < x2 from Int.not_lt.mpr c0)]
    rw [y0] at h
    exact h (show ∀ b : Int, (b < x0 ∨ x0 + 1 < b) → d b = d b from fun _ _ => rfl) hS
  · refine ⟨⟨m_inR (by omega) (by omega), m_inR (by omega) (by omega)⟩, fun c1 => ?_, fun c1 => ?_⟩
    · have q1 := mdiv_r (x := x1) (y := x2) (by omega) (by omega)
      refine ⟨by omega, by omega, ?_⟩
      refine k_86 hS hx0 (fun F1 hS1 => ?_)
      refine t_89_31 ?_
      refine ⟨by omega, ?_⟩
      refine ih4 (x2 / 10)  (g_86 x0 (48 + ((x1 / x2) % 10)) d) hS1 (by omega) (by omega) (by omega) ?_
      intro F hS_
      have y0 : st_89_4 x0 x1 r4 x2 d = r4 (x2 / 10) (g_86 x0 (48 + ((x1 / x2) % 10)) d) := by simp only [st_89_4, if_pos (show (0 : Int) < x2 from c0), if_neg (show ¬ x1 < x2 from Int.not_lt.mpr c1)]
      rw [y0] at h
      exact h (fun b hb => (F b hb).trans ((show ∀ b : Int, (b < x0 ∨ x0 + 1 < b) → (g_86 x0 (48 + ((x1 / x2) % 10)) d) b = d b from fun b hb => F1 b (by omega)) b hb)) hS_
    · refine ⟨⟨m_inR (by omega) (by omega), m_inR (by omega) (by omega)⟩, fun c2 => ?_, fun c2 => ?_⟩
      · refine t_89_31 ?_
        refine ⟨by omega, ?_⟩
        refine ih4 (x2 / 10)  d hS (by omega) (by omega) (by omega) ?_
        intro F hS_
        have y0 : st_89_4 x0 x1 r4 x2 d = r4 (x2 / 10) d := by simp only [st_89_4, if_pos (show (0 : Int) < x2 from c0), if_pos (show x1 < x2 from c1), if_neg (show ¬ x2 = 1 from c2)]
        rw [y0] at h
        exact h F hS_
      · have q2 := mdiv_r (x := x1) (y := x2) (by omega) (by omega)
        refine ⟨by omega, by omega, ?_⟩
        refine k_86 hS hx0 (fun F2 hS2 => ?_)
        refine t_89_31 ?_
        refine ⟨by omega, ?_⟩
        refine ih4 (x2 / 10)  (g_86 x0 (48 + ((x1 / x2) % 10)) d) hS2 (by omega) (by omega) (by omega) ?_
        intro F hS_
        have y0 : st_89_4 x0 x1 r4 x2 d = r4 (x2 / 10) (g_86 x0 (48 + ((x1 / x2) % 10)) d) := by simp only [st_89_4, if_pos (show (0 : Int) < x2 from c0), if_pos (show x1 < x2 from c1), if_pos (show x2 = 1 from c2)]
        rw [y0] at h
        exact h (fun b hb => (F b hb).trans ((show ∀ b : Int, (b < x0 ∨ x0 + 1 < b) → (g_86 x0 (48 + ((x1 / x2) % 10)) d) b = d b from fun b hb => F2 b (by omega)) b hb)) hS_
theorem l_89_4 {E : mO × tW} {K : tK} {x0 x1 : Int} (hx0 : txB x0) (p1 : 0 ≤ x1 ∧ x1 ≤ 999) : ∀ (n : Nat) (x2 : Int) (d : mD), Safe d → (0 ≤ x2 ∧ x2 ≤ 1000) → x2 ≤ (n : Int) → ((∀ b : Int, (b < x0 ∨ x0 + 1 < b) → (lp_89_4 x0 x1 n x2 d) b = d b) → Safe (lp_89_4 x0 x1 n x2 d) → K (.inl none) (lp_89_4 x0 x1 n x2 d)) → tRun E 89 (4, [.inr (7, x0), .inl (0, x1), .inl (0, x2)], [], 0, 0, d) K := by
  intro n
  induction n with
  | zero =>
    intro x2  d hS i0 hm  h
    exact ls_89_4 hx0 p1 0 _ (fun _  _ _ _ m0 m1 _ => absurd m1 (by omega)) x2  d hS i0 hm  h
  | succ n ih =>
    intro x2  d hS i0 hm  h
    exact ls_89_4 hx0 p1 ((n + 1 : Nat) : Int) _ (fun x2  d hS i0  m0 m1 h => ih x2  d hS i0 (by omega)  h) x2  d hS i0 hm  h
def g_89 (x0 x1 : Int) (d : mD) : mD := lp_89_4 x0 x1 (1000 : Int).toNat 1000 d
theorem k_89 {E : mO × tW} {K : tK} {d : mD} {x0 x1 : Int} (hS : Safe d) (hx0 : txB x0) (p1 : 0 ≤ x1 ∧ x1 ≤ 999) (h : (∀ b : Int, (b < x0 ∨ x0 + 1 < b) → (g_89 x0 x1 d) b = d b) → Safe (g_89 x0 x1 d) → K (.inl none) (g_89 x0 x1 d)) : tCall E 89 [.inr (7, x0), .inl (0, x1)] d K := by
  refine t_89_0 ?_
  refine l_89_4 hx0 p1 (1000 : Int).toNat 1000  d hS (by omega) (by omega) ?_
  intro F hS_
  have y0 : g_89 x0 x1 d = lp_89_4 x0 x1 (1000 : Int).toNat 1000 d := by simp only [g_89]
  rw [y0] at h
  exact h F hS_
def v_90 (x0 x1 : Int) (d : mD) : Int := if d (x0 + 1) x1 = 32 then 1 else if d (x0 + 1) x1 = 10 then 1 else 0
theorem k_90 {E : mO × tW} {K : tK} {d : mD} {x0 x1 : Int} (hS : Safe d) (hx0 : txB x0) (p1 : 0 ≤ x1 ∧ x1 ≤ 999) (h : (0 ≤ (v_90 x0 x1 d) ∧ (v_90 x0 x1 d) ≤ 1) → K (.inl (some (0, (v_90 x0 x1 d)))) d) : tCall E 90 [.inr (7, x0), .inl (0, x1)] d K := by
  refine t_90_0 ?_
  have q1 := r_7_1 hS hx0 x1
  refine ⟨by omega, ⟨m_inR (by omega) (by omega), m_inR (by omega) (by omega)⟩, fun c0 => ?_, fun c0 => ?_⟩
  · refine ⟨by omega, ?_⟩
    have y0 : v_90 x0 x1 d = 1 := by simp only [v_90, if_pos (show d (x0 + 1) x1 = 32 from c0)]
    rw [y0] at h
    exact h (show 0 ≤ ((1 : Int)) ∧ ((1 : Int)) ≤ 1 from (by omega))
  · refine ⟨by omega, ⟨m_inR (by omega) (by omega), m_inR (by omega) (by omega)⟩, fun c1 => ?_, fun c1 => ?_⟩
    · refine ⟨by omega, ?_⟩
      have y0 : v_90 x0 x1 d = 0 := by simp only [v_90, if_neg (show ¬ d (x0 + 1) x1 = 32 from c0), if_neg (show ¬ d (x0 + 1) x1 = 10 from c1)]
      rw [y0] at h
      exact h (show 0 ≤ ((0 : Int)) ∧ ((0 : Int)) ≤ 1 from (by omega))
    · refine ⟨by omega, ?_⟩
      have y0 : v_90 x0 x1 d = 1 := by simp only [v_90, if_neg (show ¬ d (x0 + 1) x1 = 32 from c0), if_pos (show d (x0 + 1) x1 = 10 from c1)]
      rw [y0] at h
      exact h (show 0 ≤ ((1 : Int)) ∧ ((1 : Int)) ≤ 1 from (by omega))
def v_91 (x0 x1 : Int) (d : mD) : Int := if d (x0 + 1) x1 < 97 then 0 else if (122 : Int) < d (x0 + 1) x1 then 0 else 1
theorem k_91 {E : mO × tW} {K : tK} {d : mD} {x0 x1 : Int} (hS : Safe d) (hx0 : txB x0) (p1 : 0 ≤ x1 ∧ x1 ≤ 999) (h : ((0 ≤ (v_91 x0 x1 d) ∧ (v_91 x0 x1 d) ≤ 1) ∧ ((v_91 x0 x1 d) = 0 ∨ (97 ≤ d (x0 + 1) x1 ∧ d (x0 + 1) x1 ≤ 122))) → K (.inl (some (0, (v_91 x0 x1 d)))) d) : tCall E 91 [.inr (7, x0), .inl (0, x1)] d K := by
  refine t_91_0 ?_
  have q1 := r_7_1 hS hx0 x1
  refine ⟨by omega, ⟨m_inR (by omega) (by omega), m_inR (by omega) (by omega)⟩, fun c0 => ?_, fun c0 => ?_⟩
  · refine ⟨by omega, ?_⟩
    have y0 : v_91 x0 x1 d = 0 := by simp only [v_91, if_pos (show d (x0 + 1) x1 < 97 from c0)]
    rw [y0] at h
    exact h (show (0 ≤ ((0 : Int)) ∧ ((0 : Int)) ≤ 1) ∧ (((0 : Int)) = 0 ∨ (97 ≤ d (x0 + 1) x1 ∧ d (x0 + 1) x1 ≤ 122)) from (by omega))
  · refine ⟨by omega, ⟨m_inR (by omega) (by omega), m_inR (by omega) (by omega)⟩, fun c1 => ?_, fun c1 => ?_⟩
    · refine ⟨by omega, ?_⟩
      have y0 : v_91 x0 x1 d = 0 := by simp only [v_91, if_neg (show ¬ d (x0 + 1) x1 < 97 from Int.not_lt.mpr c0), if_pos (show (122 : Int) < d (x0 + 1) x1 from c1)]
      rw [y0] at h
      exact h (show (0 ≤ ((0 : Int)) ∧ ((0 : Int)) ≤ 1) ∧ (((0 : Int)) = 0 ∨ (97 ≤ d (x0 + 1) x1 ∧ d (x0 + 1) x1 ≤ 122)) from (by omega))
    · refine ⟨by omega, ?_⟩
      have y0 : v_91 x0 x1 d = 1 := by simp only [v_91, if_neg (show ¬ d (x0 + 1) x1 < 97 from Int.not_lt.mpr c0), if_neg (show ¬ (122 : Int) < d (x0 + 1) x1 from Int.not_lt.mpr c1)]
      rw [y0] at h
      exact h (show (0 ≤ ((1 : Int)) ∧ ((1 : Int)) ≤ 1) ∧ (((1 : Int)) = 0 ∨ (97 ≤ d (x0 + 1) x1 ∧ d (x0 + 1) x1 ≤ 122)) from (by omega))
def v_92 (x0 x1 : Int) (d : mD) : Int := if d (x0 + 1) x1 < 48 then 0 else if (57 : Int) < d (x0 + 1) x1 then 0 else 1
theorem k_92 {E : mO × tW} {K : tK} {d : mD} {x0 x1 : Int} (hS : Safe d) (hx0 : txB x0) (p1 : 0 ≤ x1 ∧ x1 ≤ 999) (h : ((0 ≤ (v_92 x0 x1 d) ∧ (v_92 x0 x1 d) ≤ 1) ∧ ((v_92 x0 x1 d) = 0 ∨ (48 ≤ d (x0 + 1) x1 ∧ d (x0 + 1) x1 ≤ 57))) → K (.inl (some (0, (v_92 x0 x1 d)))) d) : tCall E 92 [.inr (7, x0), .inl (0, x1)] d K := by
  refine t_92_0 ?_
  have q1 := r_7_1 hS hx0 x1
  refine ⟨by omega, ⟨m_inR (by omega) (by omega), m_inR (by omega) (by omega)⟩, fun c0 => ?_, fun c0 => ?_⟩
  · refine ⟨by omega, ?_⟩
    have y0 : v_92 x0 x1 d = 0 := by simp only [v_92, if_pos (show d (x0 + 1) x1 < 48 from c0)]
    rw [y0] at h
    exact h (show (0 ≤ ((0 : Int)) ∧ ((0 : Int)) ≤ 1) ∧ (((0 : Int)) = 0 ∨ (48 ≤ d (x0 + 1) x1 ∧ d (x0 + 1) x1 ≤ 57)) from (by omega))
  · refine ⟨by omega, ⟨m_inR (by omega) (by omega), m_inR (by omega) (by omega)⟩, fun c1 => ?_, fun c1 => ?_⟩
    · refine ⟨by omega, ?_⟩
      have y0 : v_92 x0 x1 d = 0 := by simp only [v_92, if_neg (show ¬ d (x0 + 1) x1 < 48 from Int.not_lt.mpr c0), if_pos (show (57 : Int) < d (x0 + 1) x1 from c1)]
      rw [y0] at h
      exact h (show (0 ≤ ((0 : Int)) ∧ ((0 : Int)) ≤ 1) ∧ (((0 : Int)) = 0 ∨ (48 ≤ d (x0 + 1) x1 ∧ d (x0 + 1) x1 ≤ 57)) from (by omega))
    · refine ⟨by omega, ?_⟩
      have y0 : v_92 x0 x1 d = 1 := by simp only [v_92, if_neg (show ¬ d (x0 + 1) x1 < 48 from Int.not_lt.mpr c0), if_neg (show ¬ (57 : Int) < d (x0 + 1) x1 from Int.not_lt.mpr c1)]
      rw [y0] at h
      exact h (show (0 ≤ ((1 : Int)) ∧ ((1 : Int)) ≤ 1) ∧ (((1 : Int)) = 0 ∨ (48 ≤ d (x0 + 1) x1 ∧ d (x0 + 1) x1 ≤ 57)) from (by omega))
def st_93_20 (x0 x1 x2 : Int) (r20 : Int → Int → mD → Int) (x3 x4 : Int) (d : mD) : Int := if x4 < x2 then (if v_91 x0 x4 d = 0 then (-1) else r20 (mior (mishl x3 5) ((d (x0 + 1) x4) - 96)) (x4 + 1) d) else x3
def lp_93_20 (x0 x1 x2 : Int) : Nat → Int → Int → mD → Int
  | 0 => st_93_20 x0 x1 x2 (fun _ _ d => 0)
  | n + 1 => st_93_20 x0 x1 x2 (lp_93_20 x0 x1 x2 n)
theorem ls_93_20 {E : mO × tW} {K : tK} {x0 x1 x2 : Int} (hx0 : txB x0) (p1 : 0 ≤ x1 ∧ x1 ≤ 1000) (p2 : 0 ≤ x2 ∧ x2 ≤ 1000) (N20 : Int) (r20 : Int → Int → mD → Int) (ih20 : ∀ (x3 x4 : Int) (d : mD), Safe d → (x1 ≤ x4 ∧ x4 ≤ x2) → (x2 - x1 ≤ 6) → (0 ≤ x3 ∧ ((x4 = x1 + 0 ∧ x3 < 1) ∨ (x4 = x1 + 1 ∧ x3 < 32) ∨ (x4 = x1 + 2 ∧ x3 < 1024) ∨ (x4 = x1 + 3 ∧ x3 < 32768) ∨ (x4 = x1 + 4 ∧ x3 < 1048576) ∨ (x4 = x1 + 5 ∧ x3 < 33554432) ∨ (x4 = x1 + 6 ∧ x3 < 1073741824))) → 0 ≤ x2 - x4 → x2 - x4 < N20 → ((-1 ≤ (r20 x3 x4 d) ∧ (r20 x3 x4 d) ≤ 1073741823) → K (.inl (some (0, (r20 x3 x4 d)))) d) → tRun E 93 (20, [.inr (7, x0), .inl (0, x1), .inl (0, x2), .inl (0, x3), .inl (0, x4)], [], 0, 0, d) K) (x3 x4 : Int) (d : mD) (hS : Safe d) (i0 : x1 ≤ x4 ∧ x4 ≤ x2) (i1 : x2 - x1 ≤ 6) (i2 : 0 ≤ x3 ∧ ((x4 = x1 + 0 ∧ x3 < 1) ∨ (x4 = x1 + 1 ∧ x3 < 32) ∨ (x4 = x1 + 2 ∧ x3 < 1024) ∨ (x4 = x1 + 3 ∧ x3 < 32768) ∨ (x4 = x1 + 4 ∧ x3 < 1048576) ∨ (x4 = x1 + 5 ∧ x3 < 33554432) ∨ (x4 = x1 + 6 ∧ x3 < 1073741824))) (hm : x2 - x4 ≤ N20) (h : (-1 ≤ (st_93_20 x0 x1 x2 r20 x3 x4 d) ∧ (st_93_20 x0 x1 x2 r20 x3 x4 d) ≤ 1073741823) → K (.inl (some (0, (st_93_20 x0 x1 x2 r20 x3 x4 d)))) d) : tRun E 93 (20, [.inr (7, x0), .inl (0, x1), .inl (0, x2), .inl (0, x3), .inl (0, x4)], [], 0, 0, d) K := by
  refine t_93_20 ?_
  refine ⟨⟨m_inR (by omega) (by omega), m_inR (by omega) (by omega)⟩, fun c0 => ?_, fun c0 => ?_⟩
  · have y0 : st_93_20 x0 x1 x2 r20 x3 x4 d = x3 := by simp only [st_93_20, if_neg (show ¬ x4 < x2 from Int.not_lt.mpr c0)]
    rw [y0] at h
    exact h (show -1 ≤ x3 ∧ x3 ≤ 1073741823 from (by omega))
  · refine k_91 hS hx0 (by omega) (fun e1 => ?_)
    refine t_93_32 ?_
    have w1 := mname_or x3 (d (x0 + 1) x4 - 96)
    refine ⟨m_inR (by omega) (by omega), fun c1 => ?_, fun c1 => ?_⟩
    · refine ⟨by omega, ?_⟩
      refine ih20 (mior (mishl x3 5) ((d (x0 + 1) x4) - 96)) (x4 + 1)  d hS (by omega) (by omega) (by
        obtain ⟨z0, z⟩ := i2
        have hl : 1 ≤ d (x0 + 1) x4 - 96 ∧ d (x0 + 1) x4 - 96 ≤ 26 := by clear w1 z; omega
        rcases z with ⟨a, b⟩ | ⟨a, b⟩ | ⟨a, b⟩ | ⟨a, b⟩ | ⟨a, b⟩ | ⟨a, b⟩ | ⟨a, b⟩ <;> rcases w1 with w | w | w | w | w <;> omega) (by omega) (by omega) ?_
      intro e
      have y0 : st_93_20 x0 x1 x2 r20 x3 x4 d = r20 (mior (mishl x3 5) ((d (x0 + 1) x4) - 96)) (x4 + 1) d := by simp only [st_93_20, if_pos (show x4 < x2 from c0), if_neg (show ¬ v_91 x0 x4 d = 0 from c1)]
      rw [y0] at h
      exact h e
    · have y0 : st_93_20 x0 x1 x2 r20 x3 x4 d = (-1) := by simp only [st_93_20, if_pos (show x4 < x2 from c0), if_pos (show v_91 x0 x4 d = 0 from c1)]
      rw [y0] at h
      exact h (show -1 ≤ ((-1 : Int)) ∧ ((-1 : Int)) ≤ 1073741823 from (by omega))
theorem l_93_20 {E : mO × tW} {K : tK} {x0 x1 x2 : Int} (hx0 : txB x0) (p1 : 0 ≤ x1 ∧ x1 ≤ 1000) (p2 : 0 ≤ x2 ∧ x2 ≤ 1000) : ∀ (n : Nat) (x3 x4 : Int) (d : mD), Safe d → (x1 ≤ x4 ∧ x4 ≤ x2) → (x2 - x1 ≤ 6) → (0 ≤ x3 ∧ ((x4 = x1 + 0 ∧ x3 < 1) ∨ (x4 = x1 + 1 ∧ x3 < 32) ∨ (x4 = x1 + 2 ∧ x3 < 1024) ∨ (x4 = x1 + 3 ∧ x3 < 32768) ∨ (x4 = x1 + 4 ∧ x3 < 1048576) ∨ (x4 = x1 + 5 ∧ x3 < 33554432) ∨ (x4 = x1 + 6 ∧ x3 < 1073741824))) → x2 - x4 ≤ (n : Int) → ((-1 ≤ (lp_93_20 x0 x1 x2 n x3 x4 d) ∧ (lp_93_20 x0 x1 x2 n x3 x4 d) ≤ 1073741823) → K (.inl (some (0, (lp_93_20 x0 x1 x2 n x3 x4 d)))) d) → tRun E 93 (20, [.inr (7, x0), .inl (0, x1), .inl (0, x2), .inl (0, x3), .inl (0, x4)], [], 0, 0, d) K := by
  intro n
  induction n with
  | zero =>
    intro x3 x4  d hS i0 i1 i2 hm  h
    exact ls_93_20 hx0 p1 p2 0 _ (fun _ _  _ _ _ _ _ m0 m1 _ => absurd m1 (by omega)) x3 x4  d hS i0 i1 i2 hm  h
  | succ n ih =>
    intro x3 x4  d hS i0 i1 i2 hm  h
    exact ls_93_20 hx0 p1 p2 ((n + 1 : Nat) : Int) _ (fun x3 x4  d hS i0 i1 i2  m0 m1 h => ih x3 x4  d hS i0 i1 i2 (by omega)  h) x3 x4  d hS i0 i1 i2 hm  h
def v_93 (x0 x1 x2 : Int) (d : mD) : Int := if x1 < x2 then (if (6 : Int) < x2 - x1 then (-1) else lp_93_20 x0 x1 x2 (x2 - x1 : Int).toNat 0 x1 d) else (-1)
theorem k_93 {E : mO × tW} {K : tK} {d : mD} {x0 x1 x2 : Int} (hS : Safe d) (hx0 : txB x0) (p1 : 0 ≤ x1 ∧ x1 ≤ 1000) (p2 : 0 ≤ x2 ∧ x2 ≤ 1000) (h : (-1 ≤ (v_93 x0 x1 x2 d) ∧ (v_93 x0 x1 x2 d) ≤ 1073741823) → K (.inl (some (0, (v_93 x0 x1 x2 d)))) d) : tCall E 93 [.inr (7, x0), .inl (0, x1), .inl (0, x2)] d K := by
  refine t_93_0 ?_
  refine ⟨⟨m_inR (by omega) (by omega), m_inR (by omega) (by omega)⟩, fun c0 => ?_, fun c0 => ?_⟩
  · have y0 : v_93 x0 x1 x2 d = (-1) := by simp only [v_93, if_neg (show ¬ x1 < x2 from Int.not_lt.mpr c0)]
    rw [y0] at h
    exact h (show -1 ≤ ((-1 : Int)) ∧ ((-1 : Int)) ≤ 1073741823 from (by omega))
  · refine ⟨⟨m_inR (by omega) (by omega), m_inR (by omega) (by omega)⟩, fun c1 => ?_, fun c1 => ?_⟩
    · refine l_93_20 hx0 p1 p2 (x2 - x1 : Int).toNat 0 x1  d hS (by omega) (by omega) (by omega) (by omega) ?_
      intro e
      have y0 : v_93 x0 x1 x2 d = lp_93_20 x0 x1 x2 (x2 - x1 : Int).toNat 0 x1 d := by simp only [v_93, if_pos (show x1 < x2 from c0), if_neg (show ¬ (6 : Int) < x2 - x1 from Int.not_lt.mpr c1)]
      rw [y0] at h
      exact h e
    · have y0 : v_93 x0 x1 x2 d = (-1) := by simp only [v_93, if_pos (show x1 < x2 from c0), if_pos (show (6 : Int) < x2 - x1 from c1)]
      rw [y0] at h
      exact h (show -1 ≤ ((-1 : Int)) ∧ ((-1 : Int)) ≤ 1073741823 from (by omega))
/-! ===== contracts of the methods: printed by a program of mine ===== -/
def g_2 (x0 x1 : Int) (d : mD) : mD := mset (mset (g_59 (x0 + 1 + (1 + 63 * (d x0 1))) x1 d) x0 1 (((d x0 1) + 1) % 8)) x0 2 (mmin 8 ((d x0 2) + 1))
theorem k_2 {E : mO × tW} {K : tK} {d : mD} {x0 x1 : Int} (hS : Safe d) (hx0 : hiB x0) (hx1 : stB x1) (ht : d x1 2 ≤ 999) (h : (∀ b : Int, (b < x0 ∨ x0 < b) ∧ (b < x0 + 2 ∨ x0 + 505 < b) → (g_2 x0 x1 d) b = d b) → Safe (g_2 x0 x1 d) → K (.inl none) (g_2 x0 x1 d)) : tCall E 2 [.inr (0, x0), .inr (6, x1)] d K := by
  refine t_2_0 ?_
  have w0 : x0 = 64 := hx0
  have w2 := r_6_f2 hS hx1
  have q1 := r_0_f1 hS hx0
  refine ⟨by omega, ?_⟩
  have hp1 : stB (x0 + 1 + (1 + 63 * (d x0 1))) := hiB.st hx0 (by omega) (by omega)
  refine k_59 hS hp1 hx1 (by omega) (fun F1 k1_0 hS2 => ?_)
  refine t_2_13 ?_
  rw [F1 x0 (by omega)]
  refine ⟨by omega, ?_⟩
  have hS3 : Safe (mset (g_59 (x0 + 1 + (1 + 63 * (d x0 1))) x1 d) x0 1 (((d x0 1) + 1) % 8)) := s_0_f1 hS2 hx0 (by omega)
  rw [mset_ni (d := g_59 (x0 + 1 + (1 + 63 * (d x0 1))) x1 d) (a := x0) (i := (1 : Int)) (v := ((d x0 1) + 1) % 8) (b := x0) (j := (2 : Int)) (by omega)]
  rw [F1 x0 (by omega)]
  have q2 := r_0_f2 hS hx0
  have q3 := mmin_r 8 ((d x0 2) + 1)
  refine ⟨⟨m_inR (by omega) (by omega), m_inR (by omega) (by omega)⟩, ?_⟩
  have hS4 : Safe (mset (mset (g_59 (x0 + 1 + (1 + 63 * (d x0 1))) x1 d) x0 1 (((d x0 1) + 1) % 8)) x0 2 (mmin 8 ((d x0 2) + 1))) := s_0_f2 hS3 hx0 (by omega)
  have y0 : g_2 x0 x1 d = mset (mset (g_59 (x0 + 1 + (1 + 63 * (d x0 1))) x1 d) x0 1 (((d x0 1) + 1) % 8)) x0 2 (mmin 8 ((d x0 2) + 1)) := by simp only [g_2]
  rw [y0] at h
  exact h (show ∀ b : Int, (b < x0 ∨ x0 < b) ∧ (b < x0 + 2 ∨ x0 + 505 < b) → (mset (mset (g_59 (x0 + 1 + (1 + 63 * (d x0 1))) x1 d) x0 1 (((d x0 1) + 1) % 8)) x0 2 (mmin 8 ((d x0 2) + 1))) b = d b from fun b hb => (mset_ne (by omega)).trans ((mset_ne (by omega)).trans (F1 b (by omega)))) hS4
def g_3 (x0 x1 : Int) (d : mD) : mD := g_59 x1 (x0 + 1 + (1 + 63 * ((((d x0 1) + 8) - 1) % 8))) (mset (mset d x0 1 ((((d x0 1) + 8) - 1) % 8)) x0 2 ((d x0 2) - 1))
theorem k_3 {E : mO × tW} {K : tK} {d : mD} {x0 x1 : Int} (hS : Safe d) (hx0 : hiB x0) (hx1 : stB x1) (hc : 1 ≤ d x0 2) (h : (∀ b : Int, (b < x0 ∨ x0 < b) ∧ (b < x1 ∨ x1 + 15 < b) ∧ (b < x1 + 18 ∨ x1 + 62 < b) → (g_3 x0 x1 d) b = d b) → Safe (g_3 x0 x1 d) → K (.inl none) (g_3 x0 x1 d)) : tCall E 3 [.inr (0, x0), .inr (6, x1)] d K := by
  refine t_3_0 ?_
  have w0 : x0 = 64 := hx0
  have w2 := r_6_f2 hS hx1
  have q1 := r_0_f1 hS hx0
  refine ⟨by omega, ?_⟩
  have hS1 : Safe (mset d x0 1 ((((d x0 1) + 8) - 1) % 8)) := s_0_f1 hS hx0 (by omega)
  rw [mset_ni (d := d) (a := x0) (i := (1 : Int)) (v := (((d x0 1) + 8) - 1) % 8) (b := x0) (j := (2 : Int)) (by omega)]
  have q2 := r_0_f2 hS hx0
  have hS2 : Safe (mset (mset d x0 1 ((((d x0 1) + 8) - 1) % 8)) x0 2 ((d x0 2) - 1)) := s_0_f2 hS1 hx0 (by omega)
  rw [mset_ni (d := mset d x0 1 ((((d x0 1) + 8) - 1) % 8)) (a := x0) (i := (2 : Int)) (v := (d x0 2) - 1) (b := x0) (j := (1 : Int)) (by omega)]
  rw [mset_eq (d := d) (a := x0) (i := (1 : Int)) (v := (((d x0 1) + 8) - 1) % 8)]
  refine ⟨by omega, ?_⟩
  have hp3 : stB (x0 + 1 + (1 + 63 * ((((d x0 1) + 8) - 1) % 8))) := hiB.st hx0 (by omega) (by omega)
  have q3 : (mset (mset d x0 1 ((((d x0 1) + 8) - 1) % 8)) x0 2 ((d x0 2) - 1)) (x0 + 1 + (1 + 63 * ((((d x0 1) + 8) - 1) % 8))) 2 = d (x0 + 1 + (1 + 63 * ((((d x0 1) + 8) - 1) % 8))) 2 := (congrFun (mset_ne (by omega)) 2).trans (congrFun (mset_ne (by omega)) 2)
  refine k_59 hS2 hx1 hp3 (by have w := r_6_f2 hS2 hp3; omega) (fun F1 k1_0 hS4 => ?_)
  refine t_3_39 ?_
  have y0 : g_3 x0 x1 d = g_59 x1 (x0 + 1 + (1 + 63 * ((((d x0 1) + 8) - 1) % 8))) (mset (mset d x0 1 ((((d x0 1) + 8) - 1) % 8)) x0 2 ((d x0 2) - 1)) := by simp only [g_3]
  rw [y0] at h
  exact h (show ∀ b : Int, (b < x0 ∨ x0 < b) ∧ (b < x1 ∨ x1 + 15 < b) ∧ (b < x1 + 18 ∨ x1 + 62 < b) → (g_59 x1 (x0 + 1 + (1 + 63 * ((((d x0 1) + 8) - 1) % 8))) (mset (mset d x0 1 ((((d x0 1) + 8) - 1) % 8)) x0 2 ((d x0 2) - 1))) b = d b from fun b hb => (F1 b (by omega)).trans ((mset_ne (by omega)).trans (mset_ne (by omega)))) hS4
def g_4 (x0 : Int) (d : mD) : mD := mset d x0 2 0
theorem k_4 {E : mO × tW} {K : tK} {d : mD} {x0 : Int} (hS : Safe d) (hx0 : hiB x0) (h : (∀ b : Int, (b < x0 ∨ x0 < b) → (g_4 x0 d) b = d b) → Safe (g_4 x0 d) → K (.inl none) (g_4 x0 d)) : tCall E 4 [.inr (0, x0)] d K := by
  refine t_4_0 ?_
  have hS1 : Safe (mset d x0 2 0) := s_0_f2 hS hx0 (by omega)
  have y0 : g_4 x0 d = mset d x0 2 0 := by simp only [g_4]
  rw [y0] at h
  exact h (show ∀ b : Int, (b < x0 ∨ x0 < b) → (mset d x0 2 0) b = d b from fun b hb => mset_ne (by omega)) hS1
/-! ===== contracts of the methods: printed by a program of mine ===== -/
def puR (x0 x1 : Int) (d : mD) : Prop := x1 < 0 ∨ d (x0 + 1 + 10) 0 ≤ x1 ∨ (-2147483648 ≤ d (x0 + 1 + 10 + 2) x1 ∧ d (x0 + 1 + 10 + 2) x1 ≤ 2147483647)
theorem puR.use {x0 x1 : Int} {d : mD} (h : puR x0 x1 d) (h0 : 0 ≤ x1) (h1 : x1 < d (x0 + 1 + 10) 0) : -2147483648 ≤ d (x0 + 1 + 10 + 2) x1 ∧ d (x0 + 1 + 10 + 2) x1 ≤ 2147483647 := by
  unfold puR at h; omega
theorem k_165 {E : mO × tW} {K : tK} {d : mD} {x0 x1 : Int} (hS : Safe d) (hx0 : wbB x0) (p1 : -2147483648 ≤ x1 ∧ x1 ≤ 2147483647) (h0 : (x1 < 0) → K (.inr 1) d) (h1 : (0 ≤ x1) → (x1 < d (x0 + 1 + 2) 0) → K (.inl none) d) (h2 : (0 ≤ x1) → (d (x0 + 1 + 2) 0 ≤ x1) → K (.inr 1) d) : tCall E 165 [.inr (10, x0), .inl (0, x1)] d K := by
  refine t_165_0 ?_
  have w0 : x0 = 0 := hx0
  have w2 := r_6_f2 hS (wbB.nw hx0)
  have w3 := r_3_f0 hS (stB.of (wbB.nw hx0))
  have w4 := r_4_f0 hS (stB.pe (wbB.nw hx0))
  have w5 := r_8_f0 hS (stB.ti (wbB.nw hx0))
  have w6 := r_9_f0 hS (stB.to (wbB.nw hx0))
  have w7 := r_7_f1 hS (wbB.tx hx0)
  refine ⟨m_inR (by omega) (by omega), fun c0 => ?_, fun c0 => ?_⟩
  · exact h0 c0
  · have q1 := r_3_f0 hS (stB.of (wbB.nw hx0))
    refine ⟨⟨m_inR (by omega) (by omega), m_inR (by omega) (by omega)⟩, fun c1 => ?_, fun c1 => ?_⟩
    · exact h1 c0 c1
    · exact h2 c0 c1
theorem k_166 {E : mO × tW} {K : tK} {d : mD} {x0 x1 : Int} (hS : Safe d) (hx0 : wbB x0) (p1 : -2147483648 ≤ x1 ∧ x1 ≤ 2147483647) (h0 : (x1 < 0) → K (.inr 1) d) (h1 : (0 ≤ x1) → (x1 < d (x0 + 1 + 10) 0) → K (.inl none) d) (h2 : (0 ≤ x1) → (d (x0 + 1 + 10) 0 ≤ x1) → K (.inr 1) d) : tCall E 166 [.inr (10, x0), .inl (0, x1)] d K := by
  refine t_166_0 ?_
  have w0 : x0 = 0 := hx0
  have w2 := r_6_f2 hS (wbB.nw hx0)
  have w3 := r_3_f0 hS (stB.of (wbB.nw hx0))
  have w4 := r_4_f0 hS (stB.pe (wbB.nw hx0))
  have w5 := r_8_f0 hS (stB.ti (wbB.nw hx0))
  have w6 := r_9_f0 hS (stB.to (wbB.nw hx0))
  have w7 := r_7_f1 hS (wbB.tx hx0)
  refine ⟨m_inR (by omega) (by omega), fun c0 => ?_, fun c0 => ?_⟩
  · exact h0 c0
  · have q1 := r_4_f0 hS (stB.pe (wbB.nw hx0))
    refine ⟨⟨m_inR (by omega) (by omega), m_inR (by omega) (by omega)⟩, fun c1 => ?_, fun c1 => ?_⟩
    · exact h1 c0 c1
    · exact h2 c0 c1
theorem k_167 {E : mO × tW} {K : tK} {d : mD} {x0 x1 : Int} (hS : Safe d) (hx0 : wbB x0) (p1 : -2147483648 ≤ x1 ∧ x1 ≤ 2147483647) (h0 : (x1 < 0) → K (.inr 1) d) (h1 : (0 ≤ x1) → (x1 < d (x0 + 1 + 49) 0) → K (.inl none) d) (h2 : (0 ≤ x1) → (d (x0 + 1 + 49) 0 ≤ x1) → K (.inr 1) d) : tCall E 167 [.inr (10, x0), .inl (0, x1)] d K := by
  refine t_167_0 ?_
  have w0 : x0 = 0 := hx0
  have w2 := r_6_f2 hS (wbB.nw hx0)
  have w3 := r_3_f0 hS (stB.of (wbB.nw hx0))
  have w4 := r_4_f0 hS (stB.pe (wbB.nw hx0))
  have w5 := r_8_f0 hS (stB.ti (wbB.nw hx0))
  have w6 := r_9_f0 hS (stB.to (wbB.nw hx0))
  have w7 := r_7_f1 hS (wbB.tx hx0)
  refine ⟨m_inR (by omega) (by omega), fun c0 => ?_, fun c0 => ?_⟩
  · exact h0 c0
  · have q1 := r_8_f0 hS (stB.ti (wbB.nw hx0))
    refine ⟨⟨m_inR (by omega) (by omega), m_inR (by omega) (by omega)⟩, fun c1 => ?_, fun c1 => ?_⟩
    · exact h1 c0 c1
    · exact h2 c0 c1
theorem k_168 {E : mO × tW} {K : tK} {d : mD} {x0 x1 : Int} (hS : Safe d) (hx0 : wbB x0) (p1 : -2147483648 ≤ x1 ∧ x1 ≤ 2147483647) (h0 : (x1 < 0) → K (.inr 1) d) (h1 : (0 ≤ x1) → (x1 < 2) → K (.inl none) d) (h2 : (0 ≤ x1) → (2 ≤ x1) → K (.inr 1) d) : tCall E 168 [.inr (10, x0), .inl (0, x1)] d K := by
  refine t_168_0 ?_
  have w0 : x0 = 0 := hx0
  have w2 := r_6_f2 hS (wbB.nw hx0)
  have w3 := r_3_f0 hS (stB.of (wbB.nw hx0))
  have w4 := r_4_f0 hS (stB.pe (wbB.nw hx0))
  have w5 := r_8_f0 hS (stB.ti (wbB.nw hx0))
  have w6 := r_9_f0 hS (stB.to (wbB.nw hx0))
  have w7 := r_7_f1 hS (wbB.tx hx0)
  refine ⟨m_inR (by omega) (by omega), fun c0 => ?_, fun c0 => ?_⟩
  · exact h0 c0
  · refine ⟨⟨m_inR (by omega) (by omega), m_inR (by omega) (by omega)⟩, fun c1 => ?_, fun c1 => ?_⟩
    · exact h1 c0 c1
    · exact h2 c0 c1
theorem k_169 {E : mO × tW} {K : tK} {d : mD} {x0 x1 : Int} (hS : Safe d) (hx0 : wbB x0) (p1 : -2147483648 ≤ x1 ∧ x1 ≤ 2147483647) (h0 : (x1 < 0) → K (.inr 2) d) (h1 : (0 ≤ x1) → (x1 < 5) → K (.inl none) d) (h2 : (0 ≤ x1) → (5 ≤ x1) → K (.inr 2) d) : tCall E 169 [.inr (10, x0), .inl (0, x1)] d K := by
  refine t_169_0 ?_
  have w0 : x0 = 0 := hx0
  have w2 := r_6_f2 hS (wbB.nw hx0)
  have w3 := r_3_f0 hS (stB.of (wbB.nw hx0))
  have w4 := r_4_f0 hS (stB.pe (wbB.nw hx0))
  have w5 := r_8_f0 hS (stB.ti (wbB.nw hx0))
  have w6 := r_9_f0 hS (stB.to (wbB.nw hx0))
  have w7 := r_7_f1 hS (wbB.tx hx0)
  refine ⟨m_inR (by omega) (by omega), fun c0 => ?_, fun c0 => ?_⟩
  · exact h0 c0
  · refine ⟨⟨m_inR (by omega) (by omega), m_inR (by omega) (by omega)⟩, fun c1 => ?_, fun c1 => ?_⟩
    · exact h1 c0 c1
    · exact h2 c0 c1
theorem k_170 {E : mO × tW} {K : tK} {d : mD} {x0 x1 : Int} (hS : Safe d) (hx0 : wbB x0) (p1 : -2147483648 ≤ x1 ∧ x1 ≤ 2147483647) (h0 : (x1 < 0) → K (.inr 2) d) (h1 : (0 ≤ x1) → (x1 ≤ (200 : Int)) → K (.inl none) d) (h2 : (0 ≤ x1) → ((200 : Int) < x1) → K (.inr 2) d) : tCall E 170 [.inr (10, x0), .inl (0, x1)] d K := by
  refine t_170_0 ?_
  have w0 : x0 = 0 := hx0
  have w2 := r_6_f2 hS (wbB.nw hx0)
  have w3 := r_3_f0 hS (stB.of (wbB.nw hx0))
  have w4 := r_4_f0 hS (stB.pe (wbB.nw hx0))
  have w5 := r_8_f0 hS (stB.ti (wbB.nw hx0))
  have w6 := r_9_f0 hS (stB.to (wbB.nw hx0))
  have w7 := r_7_f1 hS (wbB.tx hx0)
  refine ⟨m_inR (by omega) (by omega), fun c0 => ?_, fun c0 => ?_⟩
  · exact h0 c0
  · refine ⟨⟨m_inR (by omega) (by omega), m_inR (by omega) (by omega)⟩, fun c1 => ?_, fun c1 => ?_⟩
    · exact h1 c0 c1
    · exact h2 c0 c1
theorem k_171 {E : mO × tW} {K : tK} {d : mD} {x0 x1 : Int} (hS : Safe d) (hx0 : wbB x0) (p1 : -2147483648 ≤ x1 ∧ x1 ≤ 2147483647) (h0 : (x1 < 1) → K (.inr 2) d) (h1 : (1 ≤ x1) → (x1 ≤ (200 : Int)) → K (.inl none) d) (h2 : (1 ≤ x1) → ((200 : Int) < x1) → K (.inr 2) d) : tCall E 171 [.inr (10, x0), .inl (0, x1)] d K := by
  refine t_171_0 ?_
  have w0 : x0 = 0 := hx0
  have w2 := r_6_f2 hS (wbB.nw hx0)
  have w3 := r_3_f0 hS (stB.of (wbB.nw hx0))
  have w4 := r_4_f0 hS (stB.pe (wbB.nw hx0))
  have w5 := r_8_f0 hS (stB.ti (wbB.nw hx0))
  have w6 := r_9_f0 hS (stB.to (wbB.nw hx0))
  have w7 := r_7_f1 hS (wbB.tx hx0)
  refine ⟨⟨m_inR (by omega) (by omega), m_inR (by omega) (by omega)⟩, fun c0 => ?_, fun c0 => ?_⟩
  · exact h0 c0
  · refine ⟨⟨m_inR (by omega) (by omega), m_inR (by omega) (by omega)⟩, fun c1 => ?_, fun c1 => ?_⟩
    · exact h1 c0 c1
    · exact h2 c0 c1
theorem k_172 {E : mO × tW} {K : tK} {d : mD} {x0 x1 x2 : Int} (hS : Safe d) (hx0 : wbB x0) (p1 : -2147483648 ≤ x1 ∧ x1 ≤ 2147483647) (p2 : -2147483648 ≤ x2 ∧ x2 ≤ 2147483647) (h0 : (x1 < 0) → K (.inr 1) d) (h1 : (0 ≤ x1) → (x1 < d (x0 + 1 + 2) 0) → (x2 < 0) → K (.inr 1) d) (h2 : (0 ≤ x1) → (x1 < d (x0 + 1 + 2) 0) → (0 ≤ x2) → (x2 < d (x0 + 1 + 2) 0) → (x1 = x2) → K (.inr 0) d) (h3 : (0 ≤ x1) → (x1 < d (x0 + 1 + 2) 0) → (0 ≤ x2) → (x2 < d (x0 + 1 + 2) 0) → (¬ x1 = x2) → (d (x0 + 1 + 2 + 5) x1 = 0) → K (.inr 0) d) (h4 : (0 ≤ x1) → (x1 < d (x0 + 1 + 2) 0) → (0 ≤ x2) → (x2 < d (x0 + 1 + 2) 0) → (¬ x1 = x2) → (¬ d (x0 + 1 + 2 + 5) x1 = 0) → (¬ d (x0 + 1 + 2 + 5) x2 = 0) → K (.inl none) d) (h5 : (0 ≤ x1) → (x1 < d (x0 + 1 + 2) 0) → (0 ≤ x2) → (x2 < d (x0 + 1 + 2) 0) → (¬ x1 = x2) → (¬ d (x0 + 1 + 2 + 5) x1 = 0) → (d (x0 + 1 + 2 + 5) x2 = 0) → K (.inr 0) d) (h6 : (0 ≤ x1) → (x1 < d (x0 + 1 + 2) 0) → (0 ≤ x2) → (d (x0 + 1 + 2) 0 ≤ x2) → K (.inr 1) d) (h7 : (0 ≤ x1) → (d (x0 + 1 + 2) 0 ≤ x1) → K (.inr 1) d) : tCall E 172 [.inr (10, x0), .inl (0, x1), .inl (0, x2)] d K := by
  refine t_172_0 ?_
  have w0 : x0 = 0 := hx0
  have w2 := r_6_f2 hS (wbB.nw hx0)
  have w3 := r_3_f0 hS (stB.of (wbB.nw hx0))
  have w4 := r_4_f0 hS (stB.pe (wbB.nw hx0))
  have w5 := r_8_f0 hS (stB.ti (wbB.nw hx0))
  have w6 := r_9_f0 hS (stB.to (wbB.nw hx0))
  have w7 := r_7_f1 hS (wbB.tx hx0)
  refine k_165 hS hx0 (m_inR (by omega) (by omega)) (fun z0 => ?_) (fun z0 z1 => ?_) (fun z0 z1 => ?_)
  · exact h0 z0
  · refine t_172_5 ?_
    refine k_165 hS hx0 (m_inR (by omega) (by omega)) (fun z2 => ?_) (fun z2 z3 => ?_) (fun z2 z3 => ?_)
    · exact h1 z0 z1 z2
    · refine t_172_10 ?_
      refine ⟨⟨m_inR (by omega) (by omega), m_inR (by omega) (by omega)⟩, fun c4 => ?_, fun c4 => ?_⟩
      · exact h2 z0 z1 z2 z3 c4
      · have q1 := r_3_5 hS (stB.of (wbB.nw hx0)) x1
        refine ⟨by omega, m_inR (by omega) (by omega), fun c5 => ?_, fun c5 => ?_⟩
        · exact h3 z0 z1 z2 z3 c4 c5
        · have q2 := r_3_5 hS (stB.of (wbB.nw hx0)) x2
          refine ⟨by omega, m_inR (by omega) (by omega), fun c6 => ?_, fun c6 => ?_⟩
          · exact h4 z0 z1 z2 z3 c4 c5 c6
          · exact h5 z0 z1 z2 z3 c4 c5 c6
    · exact h6 z0 z1 z2 z3
  · exact h7 z0 z1
def v_173 (x0 x1 : Int) (d : mD) : Int := if d (x0 + 1 + 2 + 5) x1 = 0 then (-1) else if (200 : Int) < v_43 (x0 + 1 + 2) x1 (d (x0 + 1 + 2 + 6) x1) (d (x0 + 1) 2) d then (-1) else v_43 (x0 + 1 + 2) x1 (d (x0 + 1 + 2 + 6) x1) (d (x0 + 1) 2) d
theorem k_173 {E : mO × tW} {K : tK} {d : mD} {x0 x1 : Int} (hS : Safe d) (hx0 : wbB x0) (p1 : 0 ≤ x1 ∧ x1 ≤ 5) (h : (-1 ≤ (v_173 x0 x1 d) ∧ (v_173 x0 x1 d) ≤ 200) → K (.inl (some (0, (v_173 x0 x1 d)))) d) : tCall E 173 [.inr (10, x0), .inl (0, x1)] d K := by
  refine t_173_0 ?_
  have w0 : x0 = 0 := hx0
  have w2 := r_6_f2 hS (wbB.nw hx0)
  have w3 := r_3_f0 hS (stB.of (wbB.nw hx0))
  have w4 := r_4_f0 hS (stB.pe (wbB.nw hx0))
  have w5 := r_8_f0 hS (stB.ti (wbB.nw hx0))
  have w6 := r_9_f0 hS (stB.to (wbB.nw hx0))
  have w7 := r_7_f1 hS (wbB.tx hx0)
  have q1 := r_3_5 hS (stB.of (wbB.nw hx0)) x1
  refine ⟨by omega, m_inR (by omega) (by omega), fun c0 => ?_, fun c0 => ?_⟩
  · refine ⟨by omega, ?_⟩
    have q2 := r_3_6 hS (stB.of (wbB.nw hx0)) x1
    have q3 := r_6_f2 hS (wbB.nw hx0)
    refine k_43 hS (stB.of (wbB.nw hx0)) (by omega) (by omega) (by omega) (fun e1 => ?_)
    refine t_173_47 ?_
    refine ⟨⟨m_inR (by omega) (by omega), m_inR (by omega) (by omega)⟩, fun c1 => ?_, fun c1 => ?_⟩
    · have y0 : v_173 x0 x1 d = v_43 (x0 + 1 + 2) x1 (d (x0 + 1 + 2 + 6) x1) (d (x0 + 1) 2) d := by simp only [v_173, if_neg (show ¬ d (x0 + 1 + 2 + 5) x1 = 0 from c0), if_neg (show ¬ (200 : Int) < v_43 (x0 + 1 + 2) x1 (d (x0 + 1 + 2 + 6) x1) (d (x0 + 1) 2) d from Int.not_lt.mpr c1)]
      rw [y0] at h
      exact h (show -1 ≤ (v_43 (x0 + 1 + 2) x1 (d (x0 + 1 + 2 + 6) x1) (d (x0 + 1) 2) d) ∧ (v_43 (x0 + 1 + 2) x1 (d (x0 + 1 + 2 + 6) x1) (d (x0 + 1) 2) d) ≤ 200 from (by omega))
    · have y0 : v_173 x0 x1 d = (-1) := by simp only [v_173, if_neg (show ¬ d (x0 + 1 + 2 + 5) x1 = 0 from c0), if_pos (show (200 : Int) < v_43 (x0 + 1 + 2) x1 (d (x0 + 1 + 2 + 6) x1) (d (x0 + 1) 2) d from c1)]
      rw [y0] at h
      exact h (show -1 ≤ ((-1 : Int)) ∧ ((-1 : Int)) ≤ 200 from (by omega))
  · have y0 : v_173 x0 x1 d = (-1) := by simp only [v_173, if_pos (show d (x0 + 1 + 2 + 5) x1 = 0 from c0)]
    rw [y0] at h
    exact h (show -1 ≤ ((-1 : Int)) ∧ ((-1 : Int)) ≤ 200 from (by omega))
theorem k_118 {E : mO × tW} {K : tK} {d : mD} {x0 x1 x2 x3 x4 x5 : Int} (hS : Safe d) (hx0 : wbB x0) (p1 : -2147483648 ≤ x1 ∧ x1 ≤ 2147483647) (p2 : -2147483648 ≤ x2 ∧ x2 ≤ 2147483647) (p3 : -2147483648 ≤ x3 ∧ x3 ≤ 2147483647) (p4 : -2147483648 ≤ x4 ∧ x4 ≤ 2147483647) (p5 : -2147483648 ≤ x5 ∧ x5 ≤ 2147483647) (h0 : ((d (x0 + 578) 1) + 20 ≤ (1000 : Int)) → (0 ≤ ((g_87 (x0 + 578) x5 (g_87 (x0 + 578) x4 (g_87 (x0 + 578) x3 (g_87 (x0 + 578) x2 (g_87 (x0 + 578) x1 d))))) (x0 + 578) 1) ∧ ((g_87 (x0 + 578) x5 (g_87 (x0 + 578) x4 (g_87 (x0 + 578) x3 (g_87 (x0 + 578) x2 (g_87 (x0 + 578) x1 d))))) (x0 + 578) 1) ≤ 1000) → (∀ b : Int, (b < x0 + 578 ∨ x0 + 579 < b) → (g_87 (x0 + 578) x5 (g_87 (x0 + 578) x4 (g_87 (x0 + 578) x3 (g_87 (x0 + 578) x2 (g_87 (x0 + 578) x1 d))))) b = d b) → Safe (g_87 (x0 + 578) x5 (g_87 (x0 + 578) x4 (g_87 (x0 + 578) x3 (g_87 (x0 + 578) x2 (g_87 (x0 + 578) x1 d))))) → K (.inl (some (0, (g_87 (x0 + 578) x5 (g_87 (x0 + 578) x4 (g_87 (x0 + 578) x3 (g_87 (x0 + 578) x2 (g_87 (x0 + 578) x1 d))))) (x0 + 578) 1))) (g_87 (x0 + 578) x5 (g_87 (x0 + 578) x4 (g_87 (x0 + 578) x3 (g_87 (x0 + 578) x2 (g_87 (x0 + 578) x1 d)))))) (h1 : ((1000 : Int) < (d (x0 + 578) 1) + 20) → K (.inr 0) d) : tCall E 118 [.inr (10, x0), .inl (0, x1), .inl (0, x2), .inl (0, x3), .inl (0, x4), .inl (0, x5)] d K := by
  refine t_118_0 ?_
  have w0 : x0 = 0 := hx0
  have w2 := r_6_f2 hS (wbB.nw hx0)
  have w3 := r_3_f0 hS (stB.of (wbB.nw hx0))
  have w4 := r_4_f0 hS (stB.pe (wbB.nw hx0))
  have w5 := r_8_f0 hS (stB.ti (wbB.nw hx0))
  have w6 := r_9_f0 hS (stB.to (wbB.nw hx0))
  have w7 := r_7_f1 hS (wbB.tx hx0)
  have q1 := r_7_f1 hS (wbB.tx hx0)
  refine ⟨⟨m_inR (by omega) (by omega), m_inR (by omega) (by omega)⟩, fun c0 => ?_, fun c0 => ?_⟩
  · refine k_87 hS (wbB.tx hx0) (m_inR (by omega) (by omega)) (fun F1 hS1 => ?_)
    refine t_118_34 ?_
    refine k_87 hS1 (wbB.tx hx0) (m_inR (by omega) (by omega)) (fun F2 hS2 => ?_)
    refine t_118_42 ?_
    refine k_87 hS2 (wbB.tx hx0) (m_inR (by omega) (by omega)) (fun F3 hS3 => ?_)
    refine t_118_50 ?_
    refine k_87 hS3 (wbB.tx hx0) (m_inR (by omega) (by omega)) (fun F4 hS4 => ?_)
    refine t_118_59 ?_
    refine k_87 hS4 (wbB.tx hx0) (m_inR (by omega) (by omega)) (fun F5 hS5 => ?_)
    refine t_118_68 ?_
    have q2 := r_7_f1 hS5 (wbB.tx hx0)
    exact h0 c0 (by omega) (fun b hb => (F5 b (by omega)).trans ((F4 b (by omega)).trans ((F3 b (by omega)).trans ((F2 b (by omega)).trans (F1 b (by omega)))))) hS5
  · exact h1 c0
theorem k_119 {E : mO × tW} {K : tK} {d : mD} {x0 x1 : Int} (hS : Safe d) (hx0 : wbB x0) (p1 : -2147483648 ≤ x1 ∧ x1 ≤ 2147483647) (h0 : (x1 < 0) → K (.inr 1) d) (h1 : (0 ≤ x1) → (x1 ≤ d (x0 + 578) 1) → (0 ≤ x1 ∧ x1 ≤ 1000) → (∀ b : Int, (b < x0 + 578 ∨ x0 + 578 < b) → (mset d (x0 + 578) 1 x1) b = d b) → Safe (mset d (x0 + 578) 1 x1) → K (.inl (some (0, x1))) (mset d (x0 + 578) 1 x1)) (h2 : (0 ≤ x1) → (d (x0 + 578) 1 < x1) → K (.inr 1) d) : tCall E 119 [.inr (10, x0), .inl (0, x1)] d K := by
  refine t_119_0 ?_
  have w0 : x0 = 0 := hx0
  have w2 := r_6_f2 hS (wbB.nw hx0)
  have w3 := r_3_f0 hS (stB.of (wbB.nw hx0))
  have w4 := r_4_f0 hS (stB.pe (wbB.nw hx0))
  have w5 := r_8_f0 hS (stB.ti (wbB.nw hx0))
  have w6 := r_9_f0 hS (stB.to (wbB.nw hx0))
  have w7 := r_7_f1 hS (wbB.tx hx0)
  refine ⟨m_inR (by omega) (by omega), fun c0 => ?_, fun c0 => ?_⟩
  · exact h0 c0
  · have q1 := r_7_f1 hS (wbB.tx hx0)
    refine ⟨⟨m_inR (by omega) (by omega), m_inR (by omega) (by omega)⟩, fun c1 => ?_, fun c1 => ?_⟩
    · have hS1 : Safe (mset d (x0 + 578) 1 x1) := s_7_f1 hS (wbB.tx hx0) (by omega)
      exact h1 c0 c1 (by omega) (fun b hb => mset_ne (by omega)) hS1
    · exact h2 c0 c1
def v_121 (x0 : Int) (d : mD) : Int := d (x0 + 576) 2
theorem k_121 {E : mO × tW} {K : tK} {d : mD} {x0 : Int} (hS : Safe d) (hx0 : wbB x0) (h : (0 ≤ (v_121 x0 d) ∧ (v_121 x0 d) ≤ 6) → K (.inl (some (0, (v_121 x0 d)))) d) : tCall E 121 [.inr (10, x0)] d K := by
  refine t_121_0 ?_
  have w0 : x0 = 0 := hx0
  have w2 := r_6_f2 hS (wbB.nw hx0)
  have w3 := r_3_f0 hS (stB.of (wbB.nw hx0))
  have w4 := r_4_f0 hS (stB.pe (wbB.nw hx0))
  have w5 := r_8_f0 hS (stB.ti (wbB.nw hx0))
  have w6 := r_9_f0 hS (stB.to (wbB.nw hx0))
  have w7 := r_7_f1 hS (wbB.tx hx0)
  have q1 := r_2_f2 hS (wbB.ld hx0)
  have y0 : v_121 x0 d = d (x0 + 576) 2 := by simp only [v_121]
  rw [y0] at h
  exact h (show 0 ≤ (d (x0 + 576) 2) ∧ (d (x0 + 576) 2) ≤ 6 from (by omega))
def v_122 (x0 : Int) (d : mD) : Int := d (x0 + 576) 3
theorem k_122 {E : mO × tW} {K : tK} {d : mD} {x0 : Int} (hS : Safe d) (hx0 : wbB x0) (h : (-1 ≤ (v_122 x0 d) ∧ (v_122 x0 d) ≤ 1000) → K (.inl (some (0, (v_122 x0 d)))) d) : tCall E 122 [.inr (10, x0)] d K := by
  refine t_122_0 ?_
  have w0 : x0 = 0 := hx0
  have w2 := r_6_f2 hS (wbB.nw hx0)
  have w3 := r_3_f0 hS (stB.of (wbB.nw hx0))
  have w4 := r_4_f0 hS (stB.pe (wbB.nw hx0))
  have w5 := r_8_f0 hS (stB.ti (wbB.nw hx0))
  have w6 := r_9_f0 hS (stB.to (wbB.nw hx0))
  have w7 := r_7_f1 hS (wbB.tx hx0)
  have q1 := r_2_f3 hS (wbB.ld hx0)
  have y0 : v_122 x0 d = d (x0 + 576) 3 := by simp only [v_122]
  rw [y0] at h
  exact h (show -1 ≤ (d (x0 + 576) 3) ∧ (d (x0 + 576) 3) ≤ 1000 from (by omega))
theorem k_123 {E : mO × tW} {K : tK} {d : mD} {x0 x1 : Int} (hS : Safe d) (hx0 : wbB x0) (p1 : -2147483648 ≤ x1 ∧ x1 ≤ 2147483647) (h0 : (x1 = 0) → (¬ v_48 (x0 + 1 + 10) (v_93 (x0 + 578) 0 (d (x0 + 578) 1) d) (mset d (x0 + 578) 1 0) = (-1)) → (0 ≤ (v_48 (x0 + 1 + 10) (v_93 (x0 + 578) 0 (d (x0 + 578) 1) d) (mset d (x0 + 578) 1 0)) ∧ (v_48 (x0 + 1 + 10) (v_93 (x0 + 578) 0 (d (x0 + 578) 1) d) (mset d (x0 + 578) 1 0)) ≤ 59) → (∀ b : Int, (b < x0 + 578 ∨ x0 + 578 < b) → (mset d (x0 + 578) 1 0) b = d b) → Safe (mset d (x0 + 578) 1 0) → K (.inl (some (0, v_48 (x0 + 1 + 10) (v_93 (x0 + 578) 0 (d (x0 + 578) 1) d) (mset d (x0 + 578) 1 0)))) (mset d (x0 + 578) 1 0)) (h1 : (x1 = 0) → (v_48 (x0 + 1 + 10) (v_93 (x0 + 578) 0 (d (x0 + 578) 1) d) (mset d (x0 + 578) 1 0) = (-1)) → (∀ b : Int, (b < x0 + 578 ∨ x0 + 578 < b) → (mset d (x0 + 578) 1 0) b = d b) → Safe (mset d (x0 + 578) 1 0) → K (.inr 3) (mset d (x0 + 578) 1 0)) (h2 : (¬ x1 = 0) → (¬ v_36 (x0 + 1 + 2) (v_93 (x0 + 578) 0 (d (x0 + 578) 1) d) (mset d (x0 + 578) 1 0) = (-1)) → (0 ≤ (v_36 (x0 + 1 + 2) (v_93 (x0 + 578) 0 (d (x0 + 578) 1) d) (mset d (x0 + 578) 1 0)) ∧ (v_36 (x0 + 1 + 2) (v_93 (x0 + 578) 0 (d (x0 + 578) 1) d) (mset d (x0 + 578) 1 0)) ≤ 59) → (∀ b : Int, (b < x0 + 578 ∨ x0 + 578 < b) → (mset d (x0 + 578) 1 0) b = d b) → Safe (mset d (x0 + 578) 1 0) → K (.inl (some (0, v_36 (x0 + 1 + 2) (v_93 (x0 + 578) 0 (d (x0 + 578) 1) d) (mset d (x0 + 578) 1 0)))) (mset d (x0 + 578) 1 0)) (h3 : (¬ x1 = 0) → (v_36 (x0 + 1 + 2) (v_93 (x0 + 578) 0 (d (x0 + 578) 1) d) (mset d (x0 + 578) 1 0) = (-1)) → (∀ b : Int, (b < x0 + 578 ∨ x0 + 578 < b) → (mset d (x0 + 578) 1 0) b = d b) → Safe (mset d (x0 + 578) 1 0) → K (.inr 3) (mset d (x0 + 578) 1 0)) : tCall E 123 [.inr (10, x0), .inl (0, x1)] d K := by
  refine t_123_0 ?_
  have w0 : x0 = 0 := hx0
  have w2 := r_6_f2 hS (wbB.nw hx0)
  have w3 := r_3_f0 hS (stB.of (wbB.nw hx0))
  have w4 := r_4_f0 hS (stB.pe (wbB.nw hx0))
  have w5 := r_8_f0 hS (stB.ti (wbB.nw hx0))
  have w6 := r_9_f0 hS (stB.to (wbB.nw hx0))
  have w7 := r_7_f1 hS (wbB.tx hx0)
  have q1 := r_7_f1 hS (wbB.tx hx0)
  refine k_93 hS (wbB.tx hx0) (by omega) (by omega) (fun e1 => ?_)
  refine t_123_15 ?_
  have hS1 : Safe (mset d (x0 + 578) 1 0) := s_7_f1 hS (wbB.tx hx0) (by omega)
  refine ⟨m_inR (by omega) (by omega), fun c0 => ?_, fun c0 => ?_⟩
  · refine k_48 hS1 (stB.pe (wbB.nw hx0)) (m_inR (by omega) (by omega)) (fun e2 => ?_)
    refine t_123_53 ?_
    refine ⟨⟨m_inR (by omega) (by omega), m_inR (by omega) (by omega)⟩, fun c1 => ?_, fun c1 => ?_⟩
    · exact h0 c0 c1 (by omega) (fun b hb => mset_ne (by omega)) hS1
    · exact h1 c0 c1 (fun b hb => mset_ne (by omega)) hS1
  · refine k_36 hS1 (stB.of (wbB.nw hx0)) (m_inR (by omega) (by omega)) (fun e3 => ?_)
    refine t_123_39 ?_
    refine t_123_53 ?_
    refine ⟨⟨m_inR (by omega) (by omega), m_inR (by omega) (by omega)⟩, fun c1 => ?_, fun c1 => ?_⟩
    · exact h2 c0 c1 (by omega) (fun b hb => mset_ne (by omega)) hS1
    · exact h3 c0 c1 (fun b hb => mset_ne (by omega)) hS1
theorem k_124 {E : mO × tW} {K : tK} {d : mD} {x0 x1 : Int} (hS : Safe d) (hx0 : wbB x0) (p1 : -2147483648 ≤ x1 ∧ x1 ≤ 2147483647) (h0 : (x1 = 0) → (0 ≤ (d (x0 + 1 + 2) 0) ∧ (d (x0 + 1 + 2) 0) ≤ 99999) → K (.inl (some (0, d (x0 + 1 + 2) 0))) d) (h1 : (¬ x1 = 0) → (x1 = 1) → (0 ≤ (d (x0 + 1 + 10) 0) ∧ (d (x0 + 1 + 10) 0) ≤ 99999) → K (.inl (some (0, d (x0 + 1 + 10) 0))) d) (h2 : (¬ x1 = 0) → (¬ x1 = 1) → (x1 = 2) → (0 ≤ (d (x0 + 1 + 49) 0) ∧ (d (x0 + 1 + 49) 0) ≤ 99999) → K (.inl (some (0, d (x0 + 1 + 49) 0))) d) (h3 : (¬ x1 = 0) → (¬ x1 = 1) → (¬ x1 = 2) → (x1 = 3) → (0 ≤ (d (x0 + 1) 2) ∧ (d (x0 + 1) 2) ≤ 99999) → K (.inl (some (0, d (x0 + 1) 2))) d) (h4 : (¬ x1 = 0) → (¬ x1 = 1) → (¬ x1 = 2) → (¬ x1 = 3) → (x1 = 4) → (0 ≤ (20 - ((d (x0 + 1) 2) % 20)) ∧ (20 - ((d (x0 + 1) 2) % 20)) ≤ 99999) → K (.inl (some (0, 20 - ((d (x0 + 1) 2) % 20)))) d) (h5 : (¬ x1 = 0) → (¬ x1 = 1) → (¬ x1 = 2) → (¬ x1 = 3) → (¬ x1 = 4) → (x1 = 5) → (0 ≤ (v_101 (x0 + 1 + 49) 0 d) ∧ (v_101 (x0 + 1 + 49) 0 d) ≤ 99999) → K (.inl (some (0, v_101 (x0 + 1 + 49) 0 d))) d) (h6 : (¬ x1 = 0) → (¬ x1 = 1) → (¬ x1 = 2) → (¬ x1 = 3) → (¬ x1 = 4) → (¬ x1 = 5) → (x1 = 6) → (0 ≤ (v_102 (x0 + 1 + 49) 1 d) ∧ (v_102 (x0 + 1 + 49) 1 d) ≤ 99999) → K (.inl (some (0, v_102 (x0 + 1 + 49) 1 d))) d) (h7 : (¬ x1 = 0) → (¬ x1 = 1) → (¬ x1 = 2) → (¬ x1 = 3) → (¬ x1 = 4) → (¬ x1 = 5) → (¬ x1 = 6) → (x1 = 7) → (0 ≤ (v_102 (x0 + 1 + 49) 2 d) ∧ (v_102 (x0 + 1 + 49) 2 d) ≤ 99999) → K (.inl (some (0, v_102 (x0 + 1 + 49) 2 d))) d) (h8 : (¬ x1 = 0) → (¬ x1 = 1) → (¬ x1 = 2) → (¬ x1 = 3) → (¬ x1 = 4) → (¬ x1 = 5) → (¬ x1 = 6) → (¬ x1 = 7) → (x1 = 8) → (0 ≤ (d (x0 + 1 + 57) 0) ∧ (d (x0 + 1 + 57) 0) ≤ 99999) → K (.inl (some (0, d (x0 + 1 + 57) 0))) d) (h9 : (¬ x1 = 0) → (¬ x1 = 1) → (¬ x1 = 2) → (¬ x1 = 3) → (¬ x1 = 4) → (¬ x1 = 5) → (¬ x1 = 6) → (¬ x1 = 7) → (¬ x1 = 8) → (x1 = 9) → (0 ≤ (v_110 (x0 + 1 + 57) 1 d) ∧ (v_110 (x0 + 1 + 57) 1 d) ≤ 99999) → K (.inl (some (0, v_110 (x0 + 1 + 57) 1 d))) d) (h10 : (¬ x1 = 0) → (¬ x1 = 1) → (¬ x1 = 2) → (¬ x1 = 3) → (¬ x1 = 4) → (¬ x1 = 5) → (¬ x1 = 6) → (¬ x1 = 7) → (¬ x1 = 8) → (¬ x1 = 9) → (x1 = 10) → (0 ≤ (v_110 (x0 + 1 + 57) 2 d) ∧ (v_110 (x0 + 1 + 57) 2 d) ≤ 99999) → K (.inl (some (0, v_110 (x0 + 1 + 57) 2 d))) d) (h11 : (¬ x1 = 0) → (¬ x1 = 1) → (¬ x1 = 2) → (¬ x1 = 3) → (¬ x1 = 4) → (¬ x1 = 5) → (¬ x1 = 6) → (¬ x1 = 7) → (¬ x1 = 8) → (¬ x1 = 9) → (¬ x1 = 10) → (x1 = 11) → (0 ≤ (d (x0 + 1) 1) ∧ (d (x0 + 1) 1) ≤ 99999) → K (.inl (some (0, d (x0 + 1) 1))) d) (h12 : (¬ x1 = 0) → (¬ x1 = 1) → (¬ x1 = 2) → (¬ x1 = 3) → (¬ x1 = 4) → (¬ x1 = 5) → (¬ x1 = 6) → (¬ x1 = 7) → (¬ x1 = 8) → (¬ x1 = 9) → (¬ x1 = 10) → (¬ x1 = 11) → (x1 = 12) → (0 ≤ (d (x0 + 64) 2) ∧ (d (x0 + 64) 2) ≤ 99999) → K (.inl (some (0, d (x0 + 64) 2))) d) (h13 : (¬ x1 = 0) → (¬ x1 = 1) → (¬ x1 = 2) → (¬ x1 = 3) → (¬ x1 = 4) → (¬ x1 = 5) → (¬ x1 = 6) → (¬ x1 = 7) → (¬ x1 = 8) → (¬ x1 = 9) → (¬ x1 = 10) → (¬ x1 = 11) → (¬ x1 = 12) → K (.inr 2) d) : tCall E 124 [.inr (10, x0), .inl (0, x1)] d K := by
  refine t_124_0 ?_
  have w0 : x0 = 0 := hx0
  have w2 := r_6_f2 hS (wbB.nw hx0)
  have w3 := r_3_f0 hS (stB.of (wbB.nw hx0))
  have w4 := r_4_f0 hS (stB.pe (wbB.nw hx0))
  have w5 := r_8_f0 hS (stB.ti (wbB.nw hx0))
  have w6 := r_9_f0 hS (stB.to (wbB.nw hx0))
  have w7 := r_7_f1 hS (wbB.tx hx0)
  refine ⟨m_inR (by omega) (by omega), fun c0 => ?_, fun c0 => ?_, fun c0 => ?_, fun c0 => ?_, fun c0 => ?_, fun c0 => ?_, fun c0 => ?_, fun c0 => ?_, fun c0 => ?_, fun c0 => ?_, fun c0 => ?_, fun c0 => ?_, fun c0 => ?_, fun c0 => ?_⟩
  · have q1 := r_3_f0 hS (stB.of (wbB.nw hx0))
    exact h0 c0 (by omega)
  · have q2 := r_4_f0 hS (stB.pe (wbB.nw hx0))
    exact h1 (show ¬ x1 = 0 by omega) c0 (by omega)
  · have q3 := r_8_f0 hS (stB.ti (wbB.nw hx0))
    exact h2 (show ¬ x1 = 0 by omega) (show ¬ x1 = 1 by omega) c0 (by omega)
  · have q4 := r_6_f2 hS (wbB.nw hx0)
    exact h3 (show ¬ x1 = 0 by omega) (show ¬ x1 = 1 by omega) (show ¬ x1 = 2 by omega) c0 (by omega)
  · have q5 := r_6_f2 hS (wbB.nw hx0)
    refine ⟨by omega, ?_⟩
    exact h4 (show ¬ x1 = 0 by omega) (show ¬ x1 = 1 by omega) (show ¬ x1 = 2 by omega) (show ¬ x1 = 3 by omega) c0 (by omega)
  · refine k_101 hS (stB.ti (wbB.nw hx0)) (m_inR (by omega) (by omega)) (fun e1 => ?_)
    refine t_124_134 ?_
    exact h5 (show ¬ x1 = 0 by omega) (show ¬ x1 = 1 by omega) (show ¬ x1 = 2 by omega) (show ¬ x1 = 3 by omega) (show ¬ x1 = 4 by omega) c0 (by omega)
  · refine k_102 hS (stB.ti (wbB.nw hx0)) (m_inR (by omega) (by omega)) (fun e2 => ?_)
    refine t_124_146 ?_
    exact h6 (show ¬ x1 = 0 by omega) (show ¬ x1 = 1 by omega) (show ¬ x1 = 2 by omega) (show ¬ x1 = 3 by omega) (show ¬ x1 = 4 by omega) (show ¬ x1 = 5 by omega) c0 (by omega)
  · refine k_102 hS (stB.ti (wbB.nw hx0)) (m_inR (by omega) (by omega)) (fun e3 => ?_)
    refine t_124_158 ?_
    exact h7 (show ¬ x1 = 0 by omega) (show ¬ x1 = 1 by omega) (show ¬ x1 = 2 by omega) (show ¬ x1 = 3 by omega) (show ¬ x1 = 4 by omega) (show ¬ x1 = 5 by omega) (show ¬ x1 = 6 by omega) c0 (by omega)
  · have q6 := r_9_f0 hS (stB.to (wbB.nw hx0))
    exact h8 (show ¬ x1 = 0 by omega) (show ¬ x1 = 1 by omega) (show ¬ x1 = 2 by omega) (show ¬ x1 = 3 by omega) (show ¬ x1 = 4 by omega) (show ¬ x1 = 5 by omega) (show ¬ x1 = 6 by omega) (show ¬ x1 = 7 by omega) c0 (by omega)
  · refine k_110 hS (stB.to (wbB.nw hx0)) (m_inR (by omega) (by omega)) (fun e4 => ?_)
    refine t_124_181 ?_
    exact h9 (show ¬ x1 = 0 by omega) (show ¬ x1 = 1 by omega) (show ¬ x1 = 2 by omega) (show ¬ x1 = 3 by omega) (show ¬ x1 = 4 by omega) (show ¬ x1 = 5 by omega) (show ¬ x1 = 6 by omega) (show ¬ x1 = 7 by omega) (show ¬ x1 = 8 by omega) c0 (by omega)
  · refine k_110 hS (stB.to (wbB.nw hx0)) (m_inR (by omega) (by omega)) (fun e5 => ?_)
    refine t_124_193 ?_
    exact h10 (show ¬ x1 = 0 by omega) (show ¬ x1 = 1 by omega) (show ¬ x1 = 2 by omega) (show ¬ x1 = 3 by omega) (show ¬ x1 = 4 by omega) (show ¬ x1 = 5 by omega) (show ¬ x1 = 6 by omega) (show ¬ x1 = 7 by omega) (show ¬ x1 = 8 by omega) (show ¬ x1 = 9 by omega) c0 (by omega)
  · have q7 := r_6_f1 hS (wbB.nw hx0)
    exact h11 (show ¬ x1 = 0 by omega) (show ¬ x1 = 1 by omega) (show ¬ x1 = 2 by omega) (show ¬ x1 = 3 by omega) (show ¬ x1 = 4 by omega) (show ¬ x1 = 5 by omega) (show ¬ x1 = 6 by omega) (show ¬ x1 = 7 by omega) (show ¬ x1 = 8 by omega) (show ¬ x1 = 9 by omega) (show ¬ x1 = 10 by omega) c0 (by omega)
  · have q8 := r_0_f2 hS (wbB.hi hx0)
    exact h12 (show ¬ x1 = 0 by omega) (show ¬ x1 = 1 by omega) (show ¬ x1 = 2 by omega) (show ¬ x1 = 3 by omega) (show ¬ x1 = 4 by omega) (show ¬ x1 = 5 by omega) (show ¬ x1 = 6 by omega) (show ¬ x1 = 7 by omega) (show ¬ x1 = 8 by omega) (show ¬ x1 = 9 by omega) (show ¬ x1 = 10 by omega) (show ¬ x1 = 11 by omega) c0 (by omega)
  · exact h13 (show ¬ x1 = 0 by omega) (show ¬ x1 = 1 by omega) (show ¬ x1 = 2 by omega) (show ¬ x1 = 3 by omega) (show ¬ x1 = 4 by omega) (show ¬ x1 = 5 by omega) (show ¬ x1 = 6 by omega) (show ¬ x1 = 7 by omega) (show ¬ x1 = 8 by omega) (show ¬ x1 = 9 by omega) (show ¬ x1 = 10 by omega) (show ¬ x1 = 11 by omega) (show ¬ x1 = 12 by omega)
theorem k_125 {E : mO × tW} {K : tK} {d : mD} {x0 x1 : Int} (hS : Safe d) (hx0 : wbB x0) (p1 : -2147483648 ≤ x1 ∧ x1 ≤ 2147483647) (h0 : (x1 < 0) → K (.inr 2) d) (h1 : (0 ≤ x1) → (x1 < 5) → (0 ≤ (d (x0 + 1 + 1) x1) ∧ (d (x0 + 1 + 1) x1) ≤ 99) → K (.inl (some (0, d (x0 + 1 + 1) x1))) d) (h2 : (0 ≤ x1) → (5 ≤ x1) → K (.inr 2) d) : tCall E 125 [.inr (10, x0), .inl (0, x1)] d K := by
  refine t_125_0 ?_
  have w0 : x0 = 0 := hx0
  have w2 := r_6_f2 hS (wbB.nw hx0)
  have w3 := r_3_f0 hS (stB.of (wbB.nw hx0))
  have w4 := r_4_f0 hS (stB.pe (wbB.nw hx0))
  have w5 := r_8_f0 hS (stB.ti (wbB.nw hx0))
  have w6 := r_9_f0 hS (stB.to (wbB.nw hx0))
  have w7 := r_7_f1 hS (wbB.tx hx0)
  refine k_169 hS hx0 (m_inR (by omega) (by omega)) (fun z0 => ?_) (fun z0 z1 => ?_) (fun z0 z1 => ?_)
  · exact h0 z0
  · refine t_125_5 ?_
    have q1 := r_6_1 hS (wbB.nw hx0) x1
    refine ⟨by omega, ?_⟩
    exact h1 z0 z1 (by omega)
  · exact h2 z0 z1
theorem k_126 {E : mO × tW} {K : tK} {d : mD} {x0 x1 x2 : Int} (hS : Safe d) (hx0 : wbB x0) (p1 : -2147483648 ≤ x1 ∧ x1 ≤ 2147483647) (p2 : -2147483648 ≤ x2 ∧ x2 ≤ 2147483647) (h0 : (x1 < 0) → K (.inr 1) d) (h1 : (0 ≤ x1) → (x1 < d (x0 + 1 + 2) 0) → (x2 = 0) → (0 ≤ (d (x0 + 1 + 2 + 2) x1) ∧ (d (x0 + 1 + 2 + 2) x1) ≤ 60) → K (.inl (some (0, d (x0 + 1 + 2 + 2) x1))) d) (h2 : (0 ≤ x1) → (x1 < d (x0 + 1 + 2) 0) → (¬ x2 = 0) → (x2 = 1) → (0 ≤ (d (x0 + 1 + 2 + 3) x1) ∧ (d (x0 + 1 + 2 + 3) x1) ≤ 60) → K (.inl (some (0, d (x0 + 1 + 2 + 3) x1))) d) (h3 : (0 ≤ x1) → (x1 < d (x0 + 1 + 2) 0) → (¬ x2 = 0) → (¬ x2 = 1) → (x2 = 2) → (0 ≤ (d (x0 + 1 + 2 + 4) x1) ∧ (d (x0 + 1 + 2 + 4) x1) ≤ 60) → K (.inl (some (0, d (x0 + 1 + 2 + 4) x1))) d) (h4 : (0 ≤ x1) → (x1 < d (x0 + 1 + 2) 0) → (¬ x2 = 0) → (¬ x2 = 1) → (¬ x2 = 2) → (x2 = 3) → (d (x0 + 1 + 2 + 5) x1 = 0) → (0 ≤ 0 ∧ 0 ≤ 60) → K (.inl (some (0, 0))) d) (h5 : (0 ≤ x1) → (x1 < d (x0 + 1 + 2) 0) → (¬ x2 = 0) → (¬ x2 = 1) → (¬ x2 = 2) → (x2 = 3) → (¬ d (x0 + 1 + 2 + 5) x1 = 0) → (0 ≤ 1 ∧ 1 ≤ 60) → K (.inl (some (0, 1))) d) (h6 : (0 ≤ x1) → (x1 < d (x0 + 1 + 2) 0) → (¬ x2 = 0) → (¬ x2 = 1) → (¬ x2 = 2) → (¬ x2 = 3) → (x2 = 4) → (0 ≤ (d (x0 + 1 + 2 + 6) x1) ∧ (d (x0 + 1 + 2 + 6) x1) ≤ 60) → K (.inl (some (0, d (x0 + 1 + 2 + 6) x1))) d) (h7 : (0 ≤ x1) → (x1 < d (x0 + 1 + 2) 0) → (¬ x2 = 0) → (¬ x2 = 1) → (¬ x2 = 2) → (¬ x2 = 3) → (¬ x2 = 4) → (x2 = 5) → (0 ≤ (v_103 (x0 + 1 + 49) x1 d) ∧ (v_103 (x0 + 1 + 49) x1 d) ≤ 60) → K (.inl (some (0, v_103 (x0 + 1 + 49) x1 d))) d) (h8 : (0 ≤ x1) → (x1 < d (x0 + 1 + 2) 0) → (¬ x2 = 0) → (¬ x2 = 1) → (¬ x2 = 2) → (¬ x2 = 3) → (¬ x2 = 4) → (¬ x2 = 5) → K (.inr 2) d) (h9 : (0 ≤ x1) → (d (x0 + 1 + 2) 0 ≤ x1) → K (.inr 1) d) : tCall E 126 [.inr (10, x0), .inl (0, x1), .inl (0, x2)] d K := by
  refine t_126_0 ?_
  have w0 : x0 = 0 := hx0
  have w2 := r_6_f2 hS (wbB.nw hx0)
  have w3 := r_3_f0 hS (stB.of (wbB.nw hx0))
  have w4 := r_4_f0 hS (stB.pe (wbB.nw hx0))
  have w5 := r_8_f0 hS (stB.ti (wbB.nw hx0))
  have w6 := r_9_f0 hS (stB.to (wbB.nw hx0))
  have w7 := r_7_f1 hS (wbB.tx hx0)
  refine k_165 hS hx0 (m_inR (by omega) (by omega)) (fun z0 => ?_) (fun z0 z1 => ?_) (fun z0 z1 => ?_)
  · exact h0 z0
  · refine t_126_5 ?_
    refine ⟨m_inR (by omega) (by omega), fun c2 => ?_, fun c2 => ?_, fun c2 => ?_, fun c2 => ?_, fun c2 => ?_, fun c2 => ?_, fun c2 => ?_⟩
    · have q1 := r_3_2 hS (stB.of (wbB.nw hx0)) x1
      refine ⟨by omega, ?_⟩
      exact h1 z0 z1 c2 (by omega)
    · have q2 := r_3_3 hS (stB.of (wbB.nw hx0)) x1
      refine ⟨by omega, ?_⟩
      exact h2 z0 z1 (show ¬ x2 = 0 by omega) c2 (by omega)
    · have q3 := r_3_4 hS (stB.of (wbB.nw hx0)) x1
      refine ⟨by omega, ?_⟩
      exact h3 z0 z1 (show ¬ x2 = 0 by omega) (show ¬ x2 = 1 by omega) c2 (by omega)
    · have q4 := r_3_5 hS (stB.of (wbB.nw hx0)) x1
      refine ⟨by omega, m_inR (by omega) (by omega), fun c6 => ?_, fun c6 => ?_⟩
      · exact h4 z0 z1 (show ¬ x2 = 0 by omega) (show ¬ x2 = 1 by omega) (show ¬ x2 = 2 by omega) c2 c6 (by omega)
      · exact h5 z0 z1 (show ¬ x2 = 0 by omega) (show ¬ x2 = 1 by omega) (show ¬ x2 = 2 by omega) c2 c6 (by omega)
    · have q5 := r_3_6 hS (stB.of (wbB.nw hx0)) x1
      refine ⟨by omega, ?_⟩
      exact h6 z0 z1 (show ¬ x2 = 0 by omega) (show ¬ x2 = 1 by omega) (show ¬ x2 = 2 by omega) (show ¬ x2 = 3 by omega) c2 (by omega)
    · refine k_103 hS (stB.ti (wbB.nw hx0)) (m_inR (by omega) (by omega)) (fun e1 => ?_)
      refine t_126_128 ?_
      exact h7 z0 z1 (show ¬ x2 = 0 by omega) (show ¬ x2 = 1 by omega) (show ¬ x2 = 2 by omega) (show ¬ x2 = 3 by omega) (show ¬ x2 = 4 by omega) c2 (by omega)
    · exact h8 z0 z1 (show ¬ x2 = 0 by omega) (show ¬ x2 = 1 by omega) (show ¬ x2 = 2 by omega) (show ¬ x2 = 3 by omega) (show ¬ x2 = 4 by omega) (show ¬ x2 = 5 by omega)
  · exact h9 z0 z1
theorem k_127 {E : mO × tW} {K : tK} {d : mD} {x0 x1 x2 : Int} (hS : Safe d) (hx0 : wbB x0) (p1 : -2147483648 ≤ x1 ∧ x1 ≤ 2147483647) (p2 : -2147483648 ≤ x2 ∧ x2 ≤ 2147483647) (h0 : (x1 < 0) → K (.inr 1) d) (h1 : (0 ≤ x1) → (x1 < d (x0 + 1 + 2) 0) → (x2 < 0) → K (.inr 1) d) (h2 : (0 ≤ x1) → (x1 < d (x0 + 1 + 2) 0) → (0 ≤ x2) → (x2 < d (x0 + 1 + 2 + 6) x1) → (0 ≤ (v_38 (x0 + 1 + 2) x1 x2 d) ∧ (v_38 (x0 + 1 + 2) x1 x2 d) ≤ 59) → K (.inl (some (0, v_38 (x0 + 1 + 2) x1 x2 d))) d) (h3 : (0 ≤ x1) → (x1 < d (x0 + 1 + 2) 0) → (0 ≤ x2) → (d (x0 + 1 + 2 + 6) x1 ≤ x2) → K (.inr 1) d) (h4 : (0 ≤ x1) → (d (x0 + 1 + 2) 0 ≤ x1) → K (.inr 1) d) : tCall E 127 [.inr (10, x0), .inl (0, x1), .inl (0, x2)] d K := by
  refine t_127_0 ?_
  have w0 : x0 = 0 := hx0
  have w2 := r_6_f2 hS (wbB.nw hx0)
  have w3 := r_3_f0 hS (stB.of (wbB.nw hx0))
  have w4 := r_4_f0 hS (stB.pe (wbB.nw hx0))
  have w5 := r_8_f0 hS (stB.ti (wbB.nw hx0))
  have w6 := r_9_f0 hS (stB.to (wbB.nw hx0))
  have w7 := r_7_f1 hS (wbB.tx hx0)
  refine k_165 hS hx0 (m_inR (by omega) (by omega)) (fun z0 => ?_) (fun z0 z1 => ?_) (fun z0 z1 => ?_)
  · exact h0 z0
  · refine t_127_5 ?_
    refine ⟨m_inR (by omega) (by omega), fun c2 => ?_, fun c2 => ?_⟩
    · exact h1 z0 z1 c2
    · have q1 := r_3_6 hS (stB.of (wbB.nw hx0)) x1
      refine ⟨by omega, ⟨m_inR (by omega) (by omega), m_inR (by omega) (by omega)⟩, fun c3 => ?_, fun c3 => ?_⟩
      · refine k_38 hS (stB.of (wbB.nw hx0)) (by omega) (by omega) (fun e1 => ?_)
        refine t_127_47 ?_
        exact h2 z0 z1 c2 c3 (by omega)
      · exact h3 z0 z1 c2 c3
  · exact h4 z0 z1
theorem k_128 {E : mO × tW} {K : tK} {d : mD} {x0 x1 x2 : Int} (hS : Safe d) (hx0 : wbB x0) (p1 : -2147483648 ≤ x1 ∧ x1 ≤ 2147483647) (p2 : -2147483648 ≤ x2 ∧ x2 ≤ 2147483647) (hpu : puR x0 x1 d) (h0 : (x1 < 0) → K (.inr 1) d) (h1 : (0 ≤ x1) → (x1 < d (x0 + 1 + 10) 0) → (x2 = 0) → (-2147483648 ≤ (d (x0 + 1 + 10 + 2) x1) ∧ (d (x0 + 1 + 10 + 2) x1) ≤ 2147483647) → K (.inl (some (0, d (x0 + 1 + 10 + 2) x1))) d) (h2 : (0 ≤ x1) → (x1 < d (x0 + 1 + 10) 0) → (¬ x2 = 0) → (x2 = 1) → (-2147483648 ≤ (v_104 (x0 + 1 + 49) x1 d) ∧ (v_104 (x0 + 1 + 49) x1 d) ≤ 2147483647) → K (.inl (some (0, v_104 (x0 + 1 + 49) x1 d))) d) (h3 : (0 ≤ x1) → (x1 < d (x0 + 1 + 10) 0) → (¬ x2 = 0) → (¬ x2 = 1) → (x2 = 2) → (-2147483648 ≤ (v_105 (x0 + 1 + 49) x1 d) ∧ (v_105 (x0 + 1 + 49) x1 d) ≤ 2147483647) → K (.inl (some (0, v_105 (x0 + 1 + 49) x1 d))) d) (h4 : (0 ≤ x1) → (x1 < d (x0 + 1 + 10) 0) → (¬ x2 = 0) → (¬ x2 = 1) → (¬ x2 = 2) → (x2 = 3) → (-2147483648 ≤ (v_111 (x0 + 1 + 57) x1 0 d) ∧ (v_111 (x0 + 1 + 57) x1 0 d) ≤ 2147483647) → K (.inl (some (0, v_111 (x0 + 1 + 57) x1 0 d))) d) (h5 : (0 ≤ x1) → (x1 < d (x0 + 1 + 10) 0) → (¬ x2 = 0) → (¬ x2 = 1) → (¬ x2 = 2) → (¬ x2 = 3) → (x2 = 4) → (-2147483648 ≤ (v_111 (x0 + 1 + 57) x1 1 d) ∧ (v_111 (x0 + 1 + 57) x1 1 d) ≤ 2147483647) → K (.inl (some (0, v_111 (x0 + 1 + 57) x1 1 d))) d) (h6 : (0 ≤ x1) → (x1 < d (x0 + 1 + 10) 0) → (¬ x2 = 0) → (¬ x2 = 1) → (¬ x2 = 2) → (¬ x2 = 3) → (¬ x2 = 4) → (x2 = 5) → (-2147483648 ≤ (v_111 (x0 + 1 + 57) x1 2 d) ∧ (v_111 (x0 + 1 + 57) x1 2 d) ≤ 2147483647) → K (.inl (some (0, v_111 (x0 + 1 + 57) x1 2 d))) d) (h7 : (0 ≤ x1) → (x1 < d (x0 + 1 + 10) 0) → (¬ x2 = 0) → (¬ x2 = 1) → (¬ x2 = 2) → (¬ x2 = 3) → (¬ x2 = 4) → (¬ x2 = 5) → (x2 = 6) → (-2147483648 ≤ (v_83 (x0 + 1) x1 d) ∧ (v_83 (x0 + 1) x1 d) ≤ 2147483647) → K (.inl (some (0, v_83 (x0 + 1) x1 d))) d) (h8 : (0 ≤ x1) → (x1 < d (x0 + 1 + 10) 0) → (¬ x2 = 0) → (¬ x2 = 1) → (¬ x2 = 2) → (¬ x2 = 3) → (¬ x2 = 4) → (¬ x2 = 5) → (¬ x2 = 6) → (x2 = 7) → (-2147483648 ≤ (d (x0 + 1 + 10 + 3) x1) ∧ (d (x0 + 1 + 10 + 3) x1) ≤ 2147483647) → K (.inl (some (0, d (x0 + 1 + 10 + 3) x1))) d) (h9 : (0 ≤ x1) → (x1 < d (x0 + 1 + 10) 0) → (¬ x2 = 0) → (¬ x2 = 1) → (¬ x2 = 2) → (¬ x2 = 3) → (¬ x2 = 4) → (¬ x2 = 5) → (¬ x2 = 6) → (¬ x2 = 7) → (x2 = 8) → (-2147483648 ≤ (d (x0 + 1 + 10 + 4) x1) ∧ (d (x0 + 1 + 10 + 4) x1) ≤ 2147483647) → K (.inl (some (0, d (x0 + 1 + 10 + 4) x1))) d) (h10 : (0 ≤ x1) → (x1 < d (x0 + 1 + 10) 0) → (¬ x2 = 0) → (¬ x2 = 1) → (¬ x2 = 2) → (¬ x2 = 3) → (¬ x2 = 4) → (¬ x2 = 5) → (¬ x2 = 6) → (¬ x2 = 7) → (¬ x2 = 8) → (x2 = 9) → (-2147483648 ≤ (v_10 (x0 + 574) (x0 + 1 + 10 + 6 + (1 + 2 * x1)) (g_72 (x0 + 1) x1 (x0 + 574) d)) ∧ (v_10 (x0 + 574) (x0 + 1 + 10 + 6 + (1 + 2 * x1)) (g_72 (x0 + 1) x1 (x0 + 574) d)) ≤ 2147483647) → (∀ b : Int, (b < x0 + 575 ∨ x0 + 575 < b) → (g_72 (x0 + 1) x1 (x0 + 574) d) b = d b) → Safe (g_72 (x0 + 1) x1 (x0 + 574) d) → K (.inl (some (0, v_10 (x0 + 574) (x0 + 1 + 10 + 6 + (1 + 2 * x1)) (g_72 (x0 + 1) x1 (x0 + 574) d)))) (g_72 (x0 + 1) x1 (x0 + 574) d)) (h11 : (0 ≤ x1) → (x1 < d (x0 + 1 + 10) 0) → (¬ x2 = 0) → (¬ x2 = 1) → (¬ x2 = 2) → (¬ x2 = 3) → (¬ x2 = 4) → (¬ x2 = 5) → (¬ x2 = 6) → (¬ x2 = 7) → (¬ x2 = 8) → (¬ x2 = 9) → K (.inr 2) d) (h12 : (0 ≤ x1) → (d (x0 + 1 + 10) 0 ≤ x1) → K (.inr 1) d) : tCall E 128 [.inr (10, x0), .inl (0, x1), .inl (0, x2)] d K := by
  refine t_128_0 ?_
  have w0 : x0 = 0 := hx0
  have w2 := r_6_f2 hS (wbB.nw hx0)
  have w3 := r_3_f0 hS (stB.of (wbB.nw hx0))
  have w4 := r_4_f0 hS (stB.pe (wbB.nw hx0))
  have w5 := r_8_f0 hS (stB.ti (wbB.nw hx0))
  have w6 := r_9_f0 hS (stB.to (wbB.nw hx0))
  have w7 := r_7_f1 hS (wbB.tx hx0)
  refine k_166 hS hx0 (m_inR (by omega) (by omega)) (fun z0 => ?_) (fun z0 z1 => ?_) (fun z0 z1 => ?_)
  · exact h0 z0
  · refine t_128_5 ?_
    refine ⟨m_inR (by omega) (by omega), fun c2 => ?_, fun c2 => ?_, fun c2 => ?_, fun c2 => ?_, fun c2 => ?_, fun c2 => ?_, fun c2 => ?_, fun c2 => ?_, fun c2 => ?_, fun c2 => ?_, fun c2 => ?_⟩
    · refine ⟨by omega, ?_⟩
      exact h1 z0 z1 c2 (by first | exact puR.use hpu z0 z1 | exact ⟨by omega, by omega⟩)
    · refine k_104 hS (stB.ti (wbB.nw hx0)) (m_inR (by omega) (by omega)) (fun e1 => ?_)
      refine t_128_84 ?_
      exact h2 z0 z1 (show ¬ x2 = 0 by omega) c2 (by first | exact puR.use hpu z0 z1 | exact ⟨by omega, by omega⟩)
    · refine k_105 hS (stB.ti (wbB.nw hx0)) (m_inR (by omega) (by omega)) (fun e2 => ?_)
      refine t_128_96 ?_
      exact h3 z0 z1 (show ¬ x2 = 0 by omega) (show ¬ x2 = 1 by omega) c2 (by first | exact puR.use hpu z0 z1 | exact ⟨by omega, by omega⟩)
    · refine k_111 hS (stB.to (wbB.nw hx0)) (m_inR (by omega) (by omega)) (m_inR (by omega) (by omega)) (fun e3 => ?_)
      refine t_128_109 ?_
      exact h4 z0 z1 (show ¬ x2 = 0 by omega) (show ¬ x2 = 1 by omega) (show ¬ x2 = 2 by omega) c2 (by first | exact puR.use hpu z0 z1 | exact ⟨by omega, by omega⟩)
    · refine k_111 hS (stB.to (wbB.nw hx0)) (m_inR (by omega) (by omega)) (m_inR (by omega) (by omega)) (fun e4 => ?_)
      refine t_128_122 ?_
      exact h5 z0 z1 (show ¬ x2 = 0 by omega) (show ¬ x2 = 1 by omega) (show ¬ x2 = 2 by omega) (show ¬ x2 = 3 by omega) c2 (by first | exact puR.use hpu z0 z1 | exact ⟨by omega, by omega⟩)
    · refine k_111 hS (stB.to (wbB.nw hx0)) (m_inR (by omega) (by omega)) (m_inR (by omega) (by omega)) (fun e5 => ?_)
      refine t_128_135 ?_
      exact h6 z0 z1 (show ¬ x2 = 0 by omega) (show ¬ x2 = 1 by omega) (show ¬ x2 = 2 by omega) (show ¬ x2 = 3 by omega) (show ¬ x2 = 4 by omega) c2 (by first | exact puR.use hpu z0 z1 | exact ⟨by omega, by omega⟩)
    · refine k_83 hS (wbB.nw hx0) (m_inR (by omega) (by omega)) (fun e6 => ?_)
      refine t_128_144 ?_
      exact h7 z0 z1 (show ¬ x2 = 0 by omega) (show ¬ x2 = 1 by omega) (show ¬ x2 = 2 by omega) (show ¬ x2 = 3 by omega) (show ¬ x2 = 4 by omega) (show ¬ x2 = 5 by omega) c2 (by first | exact puR.use hpu z0 z1 | exact ⟨by omega, by omega⟩)
    · have q1 := r_4_3 hS (stB.pe (wbB.nw hx0)) x1
      refine ⟨by omega, ?_⟩
      exact h8 z0 z1 (show ¬ x2 = 0 by omega) (show ¬ x2 = 1 by omega) (show ¬ x2 = 2 by omega) (show ¬ x2 = 3 by omega) (show ¬ x2 = 4 by omega) (show ¬ x2 = 5 by omega) (show ¬ x2 = 6 by omega) c2 (by first | exact puR.use hpu z0 z1 | exact ⟨by omega, by omega⟩)
    · have q2 := r_4_4 hS (stB.pe (wbB.nw hx0)) x1
      refine ⟨by omega, ?_⟩
      exact h9 z0 z1 (show ¬ x2 = 0 by omega) (show ¬ x2 = 1 by omega) (show ¬ x2 = 2 by omega) (show ¬ x2 = 3 by omega) (show ¬ x2 = 4 by omega) (show ¬ x2 = 5 by omega) (show ¬ x2 = 6 by omega) (show ¬ x2 = 7 by omega) c2 (by first | exact puR.use hpu z0 z1 | exact ⟨by omega, by omega⟩)
    · refine k_72 hS (wbB.nw hx0) (wbB.lo hx0) (m_inR (by omega) (by omega)) (fun F1 hS1 => ?_)
      refine t_128_183 ?_
      refine ⟨by omega, ?_⟩
      have hp2 : hsB (x0 + 1 + 10 + 6 + (1 + 2 * x1)) := peB.hs (stB.pe (wbB.nw hx0)) (by omega) (by omega)
      refine k_10 hS1 (wbB.lo hx0) hp2 (fun e7 => ?_)
      refine t_128_202 ?_
      exact h10 z0 z1 (show ¬ x2 = 0 by omega) (show ¬ x2 = 1 by omega) (show ¬ x2 = 2 by omega) (show ¬ x2 = 3 by omega) (show ¬ x2 = 4 by omega) (show ¬ x2 = 5 by omega) (show ¬ x2 = 6 by omega) (show ¬ x2 = 7 by omega) (show ¬ x2 = 8 by omega) c2 (by first | exact puR.use hpu z0 z1 | exact ⟨by omega, by omega⟩) (fun b hb => F1 b (by omega)) hS1
    · exact h11 z0 z1 (show ¬ x2 = 0 by omega) (show ¬ x2 = 1 by omega) (show ¬ x2 = 2 by omega) (show ¬ x2 = 3 by omega) (show ¬ x2 = 4 by omega) (show ¬ x2 = 5 by omega) (show ¬ x2 = 6 by omega) (show ¬ x2 = 7 by omega) (show ¬ x2 = 8 by omega) (show ¬ x2 = 9 by omega)
  · exact h12 z0 z1
theorem k_129 {E : mO × tW} {K : tK} {d : mD} {x0 x1 x2 : Int} (hS : Safe d) (hx0 : wbB x0) (p1 : -2147483648 ≤ x1 ∧ x1 ≤ 2147483647) (p2 : -2147483648 ≤ x2 ∧ x2 ≤ 2147483647) (h0 : (x1 < 0) → K (.inr 1) d) (h1 : (0 ≤ x1) → (x1 < d (x0 + 1 + 49) 0) → (x2 = 0) → (-1 ≤ (d (x0 + 1 + 49 + 1) x1) ∧ (d (x0 + 1 + 49 + 1) x1) ≤ 1199) → K (.inl (some (0, d (x0 + 1 + 49 + 1) x1))) d) (h2 : (0 ≤ x1) → (x1 < d (x0 + 1 + 49) 0) → (¬ x2 = 0) → (x2 = 1) → (-1 ≤ (d (x0 + 1 + 49 + 2) x1) ∧ (d (x0 + 1 + 49 + 2) x1) ≤ 1199) → K (.inl (some (0, d (x0 + 1 + 49 + 2) x1))) d) (h3 : (0 ≤ x1) → (x1 < d (x0 + 1 + 49) 0) → (¬ x2 = 0) → (¬ x2 = 1) → (x2 = 2) → (-1 ≤ (d (x0 + 1 + 49 + 3) x1) ∧ (d (x0 + 1 + 49 + 3) x1) ≤ 1199) → K (.inl (some (0, d (x0 + 1 + 49 + 3) x1))) d) (h4 : (0 ≤ x1) → (x1 < d (x0 + 1 + 49) 0) → (¬ x2 = 0) → (¬ x2 = 1) → (¬ x2 = 2) → (x2 = 3) → (-1 ≤ (d (x0 + 1 + 49 + 4) x1) ∧ (d (x0 + 1 + 49 + 4) x1) ≤ 1199) → K (.inl (some (0, d (x0 + 1 + 49 + 4) x1))) d) (h5 : (0 ≤ x1) → (x1 < d (x0 + 1 + 49) 0) → (¬ x2 = 0) → (¬ x2 = 1) → (¬ x2 = 2) → (¬ x2 = 3) → (x2 = 4) → (-1 ≤ (d (x0 + 1 + 49 + 5) x1) ∧ (d (x0 + 1 + 49 + 5) x1) ≤ 1199) → K (.inl (some (0, d (x0 + 1 + 49 + 5) x1))) d) (h6 : (0 ≤ x1) → (x1 < d (x0 + 1 + 49) 0) → (¬ x2 = 0) → (¬ x2 = 1) → (¬ x2 = 2) → (¬ x2 = 3) → (¬ x2 = 4) → (x2 = 5) → (¬ d (x0 + 1 + 49 + 6) x1 = 0) → (-1 ≤ 1 ∧ 1 ≤ 1199) → K (.inl (some (0, 1))) d) (h7 : (0 ≤ x1) → (x1 < d (x0 + 1 + 49) 0) → (¬ x2 = 0) → (¬ x2 = 1) → (¬ x2 = 2) → (¬ x2 = 3) → (¬ x2 = 4) → (x2 = 5) → (d (x0 + 1 + 49 + 6) x1 = 0) → (-1 ≤ 0 ∧ 0 ≤ 1199) → K (.inl (some (0, 0))) d) (h8 : (0 ≤ x1) → (x1 < d (x0 + 1 + 49) 0) → (¬ x2 = 0) → (¬ x2 = 1) → (¬ x2 = 2) → (¬ x2 = 3) → (¬ x2 = 4) → (¬ x2 = 5) → (x2 = 6) → (¬ d (x0 + 1 + 49 + 6) x1 = 2) → (-1 ≤ 0 ∧ 0 ≤ 1199) → K (.inl (some (0, 0))) d) (h9 : (0 ≤ x1) → (x1 < d (x0 + 1 + 49) 0) → (¬ x2 = 0) → (¬ x2 = 1) → (¬ x2 = 2) → (¬ x2 = 3) → (¬ x2 = 4) → (¬ x2 = 5) → (x2 = 6) → (d (x0 + 1 + 49 + 6) x1 = 2) → (-1 ≤ 1 ∧ 1 ≤ 1199) → K (.inl (some (0, 1))) d) (h10 : (0 ≤ x1) → (x1 < d (x0 + 1 + 49) 0) → (¬ x2 = 0) → (¬ x2 = 1) → (¬ x2 = 2) → (¬ x2 = 3) → (¬ x2 = 4) → (¬ x2 = 5) → (¬ x2 = 6) → (x2 = 7) → (-1 ≤ (v_298 (d (x0 + 1 + 49 + 7) x1) d) ∧ (v_298 (d (x0 + 1 + 49 + 7) x1) d) ≤ 1199) → K (.inl (some (0, v_298 (d (x0 + 1 + 49 + 7) x1) d))) d) (h11 : (0 ≤ x1) → (x1 < d (x0 + 1 + 49) 0) → (¬ x2 = 0) → (¬ x2 = 1) → (¬ x2 = 2) → (¬ x2 = 3) → (¬ x2 = 4) → (¬ x2 = 5) → (¬ x2 = 6) → (¬ x2 = 7) → (x2 = 8) → (-1 ≤ (v_71 (x0 + 1) x1 d) ∧ (v_71 (x0 + 1) x1 d) ≤ 1199) → K (.inl (some (0, v_71 (x0 + 1) x1 d))) d) (h12 : (0 ≤ x1) → (x1 < d (x0 + 1 + 49) 0) → (¬ x2 = 0) → (¬ x2 = 1) → (¬ x2 = 2) → (¬ x2 = 3) → (¬ x2 = 4) → (¬ x2 = 5) → (¬ x2 = 6) → (¬ x2 = 7) → (¬ x2 = 8) → (x2 = 9) → (-1 ≤ (v_112 (x0 + 1 + 57) x1 d) ∧ (v_112 (x0 + 1 + 57) x1 d) ≤ 1199) → K (.inl (some (0, v_112 (x0 + 1 + 57) x1 d))) d) (h13 : (0 ≤ x1) → (x1 < d (x0 + 1 + 49) 0) → (¬ x2 = 0) → (¬ x2 = 1) → (¬ x2 = 2) → (¬ x2 = 3) → (¬ x2 = 4) → (¬ x2 = 5) → (¬ x2 = 6) → (¬ x2 = 7) → (¬ x2 = 8) → (¬ x2 = 9) → (x2 = 10) → (-1 ≤ (v_39 (x0 + 1 + 2) (d (x0 + 1 + 49 + 2) x1) x1 d) ∧ (v_39 (x0 + 1 + 2) (d (x0 + 1 + 49 + 2) x1) x1 d) ≤ 1199) → K (.inl (some (0, v_39 (x0 + 1 + 2) (d (x0 + 1 + 49 + 2) x1) x1 d))) d) (h14 : (0 ≤ x1) → (x1 < d (x0 + 1 + 49) 0) → (¬ x2 = 0) → (¬ x2 = 1) → (¬ x2 = 2) → (¬ x2 = 3) → (¬ x2 = 4) → (¬ x2 = 5) → (¬ x2 = 6) → (¬ x2 = 7) → (¬ x2 = 8) → (¬ x2 = 9) → (¬ x2 = 10) → K (.inr 2) d) (h15 : (0 ≤ x1) → (d (x0 + 1 + 49) 0 ≤ x1) → K (.inr 1) d) : tCall E 129 [.inr (10, x0), .inl (0, x1), .inl (0, x2)] d K := by
  refine t_129_0 ?_
  have w0 : x0 = 0 := hx0
  have w2 := r_6_f2 hS (wbB.nw hx0)
  have w3 := r_3_f0 hS (stB.of (wbB.nw hx0))
  have w4 := r_4_f0 hS (stB.pe (wbB.nw hx0))
  have w5 := r_8_f0 hS (stB.ti (wbB.nw hx0))
  have w6 := r_9_f0 hS (stB.to (wbB.nw hx0))
  have w7 := r_7_f1 hS (wbB.tx hx0)
  refine k_167 hS hx0 (m_inR (by omega) (by omega)) (fun z0 => ?_) (fun z0 z1 => ?_) (fun z0 z1 => ?_)
  · exact h0 z0
  · refine t_129_5 ?_
    refine ⟨m_inR (by omega) (by omega), fun c2 => ?_, fun c2 => ?_, fun c2 => ?_, fun c2 => ?_, fun c2 => ?_, fun c2 => ?_, fun c2 => ?_, fun c2 => ?_, fun c2 => ?_, fun c2 => ?_, fun c2 => ?_, fun c2 => ?_⟩
    · have q1 := r_8_1 hS (stB.ti (wbB.nw hx0)) x1
      refine ⟨by omega, ?_⟩
      exact h1 z0 z1 c2 (by omega)
    · have q2 := r_8_2 hS (stB.ti (wbB.nw hx0)) x1
      refine ⟨by omega, ?_⟩
      exact h2 z0 z1 (show ¬ x2 = 0 by omega) c2 (by omega)
    · have q3 := r_8_3 hS (stB.ti (wbB.nw hx0)) x1
      refine ⟨by omega, ?_⟩
      exact h3 z0 z1 (show ¬ x2 = 0 by omega) (show ¬ x2 = 1 by omega) c2 (by omega)
    · have q4 := r_8_4 hS (stB.ti (wbB.nw hx0)) x1
      refine ⟨by omega, ?_⟩
      exact h4 z0 z1 (show ¬ x2 = 0 by omega) (show ¬ x2 = 1 by omega) (show ¬ x2 = 2 by omega) c2 (by omega)
    · have q5 := r_8_5 hS (stB.ti (wbB.nw hx0)) x1
      refine ⟨by omega, ?_⟩
      exact h5 z0 z1 (show ¬ x2 = 0 by omega) (show ¬ x2 = 1 by omega) (show ¬ x2 = 2 by omega) (show ¬ x2 = 3 by omega) c2 (by omega)
    · have q6 := r_8_6 hS (stB.ti (wbB.nw hx0)) x1
      refine ⟨by omega, m_inR (by omega) (by omega), fun c8 => ?_, fun c8 => ?_⟩
      · exact h6 z0 z1 (show ¬ x2 = 0 by omega) (show ¬ x2 = 1 by omega) (show ¬ x2 = 2 by omega) (show ¬ x2 = 3 by omega) (show ¬ x2 = 4 by omega) c2 c8 (by omega)
      · exact h7 z0 z1 (show ¬ x2 = 0 by omega) (show ¬ x2 = 1 by omega) (show ¬ x2 = 2 by omega) (show ¬ x2 = 3 by omega) (show ¬ x2 = 4 by omega) c2 c8 (by omega)
    · have q7 := r_8_6 hS (stB.ti (wbB.nw hx0)) x1
      refine ⟨by omega, ⟨m_inR (by omega) (by omega), m_inR (by omega) (by omega)⟩, fun c9 => ?_, fun c9 => ?_⟩
      · exact h8 z0 z1 (show ¬ x2 = 0 by omega) (show ¬ x2 = 1 by omega) (show ¬ x2 = 2 by omega) (show ¬ x2 = 3 by omega) (show ¬ x2 = 4 by omega) (show ¬ x2 = 5 by omega) c2 c9 (by omega)
      · exact h9 z0 z1 (show ¬ x2 = 0 by omega) (show ¬ x2 = 1 by omega) (show ¬ x2 = 2 by omega) (show ¬ x2 = 3 by omega) (show ¬ x2 = 4 by omega) (show ¬ x2 = 5 by omega) c2 c9 (by omega)
    · refine ⟨by omega, ?_⟩
      refine k_298 hS (fun e1 => ?_)
      refine t_129_147 ?_
      exact h10 z0 z1 (show ¬ x2 = 0 by omega) (show ¬ x2 = 1 by omega) (show ¬ x2 = 2 by omega) (show ¬ x2 = 3 by omega) (show ¬ x2 = 4 by omega) (show ¬ x2 = 5 by omega) (show ¬ x2 = 6 by omega) c2 (by omega)
    · refine k_71 hS (wbB.nw hx0) (by omega) (fun e2 => ?_)
      refine t_129_156 ?_
      exact h11 z0 z1 (show ¬ x2 = 0 by omega) (show ¬ x2 = 1 by omega) (show ¬ x2 = 2 by omega) (show ¬ x2 = 3 by omega) (show ¬ x2 = 4 by omega) (show ¬ x2 = 5 by omega) (show ¬ x2 = 6 by omega) (show ¬ x2 = 7 by omega) c2 (by omega)
    · refine k_112 hS (stB.to (wbB.nw hx0)) (m_inR (by omega) (by omega)) (fun e3 => ?_)
      refine t_129_168 ?_
      exact h12 z0 z1 (show ¬ x2 = 0 by omega) (show ¬ x2 = 1 by omega) (show ¬ x2 = 2 by omega) (show ¬ x2 = 3 by omega) (show ¬ x2 = 4 by omega) (show ¬ x2 = 5 by omega) (show ¬ x2 = 6 by omega) (show ¬ x2 = 7 by omega) (show ¬ x2 = 8 by omega) c2 (by omega)
    · refine ⟨by omega, ?_⟩
      have q8 := r_8_2 hS (stB.ti (wbB.nw hx0)) x1
      refine k_39 hS (stB.of (wbB.nw hx0)) (by omega) (m_inR (by omega) (by omega)) (fun e4 => ?_)
      refine t_129_186 ?_
      exact h13 z0 z1 (show ¬ x2 = 0 by omega) (show ¬ x2 = 1 by omega) (show ¬ x2 = 2 by omega) (show ¬ x2 = 3 by omega) (show ¬ x2 = 4 by omega) (show ¬ x2 = 5 by omega) (show ¬ x2 = 6 by omega) (show ¬ x2 = 7 by omega) (show ¬ x2 = 8 by omega) (show ¬ x2 = 9 by omega) c2 (by omega)
    · exact h14 z0 z1 (show ¬ x2 = 0 by omega) (show ¬ x2 = 1 by omega) (show ¬ x2 = 2 by omega) (show ¬ x2 = 3 by omega) (show ¬ x2 = 4 by omega) (show ¬ x2 = 5 by omega) (show ¬ x2 = 6 by omega) (show ¬ x2 = 7 by omega) (show ¬ x2 = 8 by omega) (show ¬ x2 = 9 by omega) (show ¬ x2 = 10 by omega)
  · exact h15 z0 z1
theorem k_130 {E : mO × tW} {K : tK} {d : mD} {x0 x1 x2 : Int} (hS : Safe d) (hx0 : wbB x0) (p1 : -2147483648 ≤ x1 ∧ x1 ≤ 2147483647) (p2 : -2147483648 ≤ x2 ∧ x2 ≤ 2147483647) (h0 : (x1 < 0) → K (.inr 1) d) (h1 : (0 ≤ x1) → (x1 < d (x0 + 1 + 57) 0) → (x2 = 0) → (-1 ≤ (d (x0 + 1 + 57 + 1) x1) ∧ (d (x0 + 1 + 57 + 1) x1) ≤ 1300) → K (.inl (some (0, d (x0 + 1 + 57 + 1) x1))) d) (h2 : (0 ≤ x1) → (x1 < d (x0 + 1 + 57) 0) → (¬ x2 = 0) → (x2 = 1) → (-1 ≤ (d (x0 + 1 + 57 + 2) x1) ∧ (d (x0 + 1 + 57 + 2) x1) ≤ 1300) → K (.inl (some (0, d (x0 + 1 + 57 + 2) x1))) d) (h3 : (0 ≤ x1) → (x1 < d (x0 + 1 + 57) 0) → (¬ x2 = 0) → (¬ x2 = 1) → (x2 = 2) → (-1 ≤ (d (x0 + 1 + 57 + 3) x1) ∧ (d (x0 + 1 + 57 + 3) x1) ≤ 1300) → K (.inl (some (0, d (x0 + 1 + 57 + 3) x1))) d) (h4 : (0 ≤ x1) → (x1 < d (x0 + 1 + 57) 0) → (¬ x2 = 0) → (¬ x2 = 1) → (¬ x2 = 2) → (x2 = 3) → (-1 ≤ (d (x0 + 1 + 57 + 4) x1) ∧ (d (x0 + 1 + 57 + 4) x1) ≤ 1300) → K (.inl (some (0, d (x0 + 1 + 57 + 4) x1))) d) (h5 : (0 ≤ x1) → (x1 < d (x0 + 1 + 57) 0) → (¬ x2 = 0) → (¬ x2 = 1) → (¬ x2 = 2) → (¬ x2 = 3) → (x2 = 4) → (-1 ≤ (v_113 (x0 + 1 + 57) x1 d) ∧ (v_113 (x0 + 1 + 57) x1 d) ≤ 1300) → K (.inl (some (0, v_113 (x0 + 1 + 57) x1 d))) d) (h6 : (0 ≤ x1) → (x1 < d (x0 + 1 + 57) 0) → (¬ x2 = 0) → (¬ x2 = 1) → (¬ x2 = 2) → (¬ x2 = 3) → (¬ x2 = 4) → K (.inr 2) d) (h7 : (0 ≤ x1) → (d (x0 + 1 + 57) 0 ≤ x1) → K (.inr 1) d) : tCall E 130 [.inr (10, x0), .inl (0, x1), .inl (0, x2)] d K := by
  refine t_130_0 ?_
  have w0 : x0 = 0 := hx0
  have w2 := r_6_f2 hS (wbB.nw hx0)
  have w3 := r_3_f0 hS (stB.of (wbB.nw hx0))
  have w4 := r_4_f0 hS (stB.pe (wbB.nw hx0))
  have w5 := r_8_f0 hS (stB.ti (wbB.nw hx0))
  have w6 := r_9_f0 hS (stB.to (wbB.nw hx0))
  have w7 := r_7_f1 hS (wbB.tx hx0)
  refine ⟨m_inR (by omega) (by omega), fun c0 => ?_, fun c0 => ?_⟩
  · exact h0 c0
  · have q1 := r_9_f0 hS (stB.to (wbB.nw hx0))
    refine ⟨⟨m_inR (by omega) (by omega), m_inR (by omega) (by omega)⟩, fun c1 => ?_, fun c1 => ?_⟩
    · refine ⟨m_inR (by omega) (by omega), fun c2 => ?_, fun c2 => ?_, fun c2 => ?_, fun c2 => ?_, fun c2 => ?_, fun c2 => ?_⟩
      · have q2 := r_9_1 hS (stB.to (wbB.nw hx0)) x1
        refine ⟨by omega, ?_⟩
        exact h1 c0 c1 c2 (by omega)
      · have q3 := r_9_2 hS (stB.to (wbB.nw hx0)) x1
        refine ⟨by omega, ?_⟩
        exact h2 c0 c1 (show ¬ x2 = 0 by omega) c2 (by omega)
      · have q4 := r_9_3 hS (stB.to (wbB.nw hx0)) x1
        refine ⟨by omega, ?_⟩
        exact h3 c0 c1 (show ¬ x2 = 0 by omega) (show ¬ x2 = 1 by omega) c2 (by omega)
      · have q5 := r_9_4 hS (stB.to (wbB.nw hx0)) x1
        refine ⟨by omega, ?_⟩
        exact h4 c0 c1 (show ¬ x2 = 0 by omega) (show ¬ x2 = 1 by omega) (show ¬ x2 = 2 by omega) c2 (by omega)
      · refine k_113 hS (stB.to (wbB.nw hx0)) (m_inR (by omega) (by omega)) (fun e1 => ?_)
        refine t_130_127 ?_
        exact h5 c0 c1 (show ¬ x2 = 0 by omega) (show ¬ x2 = 1 by omega) (show ¬ x2 = 2 by omega) (show ¬ x2 = 3 by omega) c2 (by omega)
      · exact h6 c0 c1 (show ¬ x2 = 0 by omega) (show ¬ x2 = 1 by omega) (show ¬ x2 = 2 by omega) (show ¬ x2 = 3 by omega) (show ¬ x2 = 4 by omega)
    · exact h7 c0 c1
theorem k_131 {E : mO × tW} {K : tK} {d : mD} {x0 x1 x2 : Int} (hS : Safe d) (hx0 : wbB x0) (p1 : -2147483648 ≤ x1 ∧ x1 ≤ 2147483647) (p2 : -2147483648 ≤ x2 ∧ x2 ≤ 2147483647) (h0 : (x1 < 0) → K (.inr 1) d) (h1 : (0 ≤ x1) → (x1 < d (x0 + 1 + 10) 0) → (x2 < 0) → K (.inr 2) d) (h2 : (0 ≤ x1) → (x1 < d (x0 + 1 + 10) 0) → (0 ≤ x2) → (x2 ≤ (999 : Int)) → (0 ≤ (v_6 (x0 + 1 + 10 + 6 + (1 + 2 * x1)) x2 d) ∧ (v_6 (x0 + 1 + 10 + 6 + (1 + 2 * x1)) x2 d) ≤ 1) → K (.inl (some (0, v_6 (x0 + 1 + 10 + 6 + (1 + 2 * x1)) x2 d))) d) (h3 : (0 ≤ x1) → (x1 < d (x0 + 1 + 10) 0) → (0 ≤ x2) → ((999 : Int) < x2) → K (.inr 2) d) (h4 : (0 ≤ x1) → (d (x0 + 1 + 10) 0 ≤ x1) → K (.inr 1) d) : tCall E 131 [.inr (10, x0), .inl (0, x1), .inl (0, x2)] d K := by
  refine t_131_0 ?_
  have w0 : x0 = 0 := hx0
  have w2 := r_6_f2 hS (wbB.nw hx0)
  have w3 := r_3_f0 hS (stB.of (wbB.nw hx0))
  have w4 := r_4_f0 hS (stB.pe (wbB.nw hx0))
  have w5 := r_8_f0 hS (stB.ti (wbB.nw hx0))
  have w6 := r_9_f0 hS (stB.to (wbB.nw hx0))
  have w7 := r_7_f1 hS (wbB.tx hx0)
  refine k_166 hS hx0 (m_inR (by omega) (by omega)) (fun z0 => ?_) (fun z0 z1 => ?_) (fun z0 z1 => ?_)
  · exact h0 z0
  · refine t_131_5 ?_
    refine ⟨m_inR (by omega) (by omega), fun c2 => ?_, fun c2 => ?_⟩
    · exact h1 z0 z1 c2
    · refine ⟨⟨m_inR (by omega) (by omega), m_inR (by omega) (by omega)⟩, fun c3 => ?_, fun c3 => ?_⟩
      · refine ⟨by omega, ?_⟩
        have hp1 : hsB (x0 + 1 + 10 + 6 + (1 + 2 * x1)) := peB.hs (stB.pe (wbB.nw hx0)) (by omega) (by omega)
        refine k_6 hS hp1 (m_inR (by omega) (by omega)) (fun e1 => ?_)
        refine t_131_43 ?_
        refine ⟨by omega, ?_⟩
        exact h2 z0 z1 c2 c3 (by omega)
      · exact h3 z0 z1 c2 c3
  · exact h4 z0 z1
theorem k_132 {E : mO × tW} {K : tK} {d : mD} {x0 x1 x2 : Int} (hS : Safe d) (hx0 : wbB x0) (p1 : -2147483648 ≤ x1 ∧ x1 ≤ 2147483647) (p2 : -2147483648 ≤ x2 ∧ x2 ≤ 2147483647) (h0 : (x1 < 0) → K (.inr 1) d) (h1 : (0 ≤ x1) → (x1 < d (x0 + 1 + 49) 0) → (x2 < 0) → K (.inr 1) d) (h2 : (0 ≤ x1) → (x1 < d (x0 + 1 + 49) 0) → (0 ≤ x2) → (x2 < d (x0 + 1 + 10) 0) → (0 ≤ (v_77 (x0 + 1) x1 x2 d) ∧ (v_77 (x0 + 1) x1 x2 d) ≤ 7) → K (.inl (some (0, v_77 (x0 + 1) x1 x2 d))) d) (h3 : (0 ≤ x1) → (x1 < d (x0 + 1 + 49) 0) → (0 ≤ x2) → (d (x0 + 1 + 10) 0 ≤ x2) → K (.inr 1) d) (h4 : (0 ≤ x1) → (d (x0 + 1 + 49) 0 ≤ x1) → K (.inr 1) d) : tCall E 132 [.inr (10, x0), .inl (0, x1), .inl (0, x2)] d K := by
  refine t_132_0 ?_
  have w0 : x0 = 0 := hx0
  have w2 := r_6_f2 hS (wbB.nw hx0)
  have w3 := r_3_f0 hS (stB.of (wbB.nw hx0))
  have w4 := r_4_f0 hS (stB.pe (wbB.nw hx0))
  have w5 := r_8_f0 hS (stB.ti (wbB.nw hx0))
  have w6 := r_9_f0 hS (stB.to (wbB.nw hx0))
  have w7 := r_7_f1 hS (wbB.tx hx0)
  refine k_167 hS hx0 (m_inR (by omega) (by omega)) (fun z0 => ?_) (fun z0 z1 => ?_) (fun z0 z1 => ?_)
  · exact h0 z0
  · refine t_132_5 ?_
    refine k_166 hS hx0 (m_inR (by omega) (by omega)) (fun z2 => ?_) (fun z2 z3 => ?_) (fun z2 z3 => ?_)
    · exact h1 z0 z1 z2
    · refine t_132_10 ?_
      refine k_77 hS (wbB.nw hx0) (by omega) (by omega) (fun e1 => ?_)
      refine t_132_19 ?_
      exact h2 z0 z1 z2 z3 (by omega)
    · exact h3 z0 z1 z2 z3
  · exact h4 z0 z1
theorem k_133 {E : mO × tW} {K : tK} {d : mD} {x0 x1 x2 : Int} (hS : Safe d) (hx0 : wbB x0) (p1 : -2147483648 ≤ x1 ∧ x1 ≤ 2147483647) (p2 : -2147483648 ≤ x2 ∧ x2 ≤ 2147483647) (h0 : (x1 < 0) → K (.inr 1) d) (h1 : (0 ≤ x1) → (x1 < d (x0 + 1 + 49) 0) → (x2 < 0) → K (.inr 1) d) (h2 : (0 ≤ x1) → (x1 < d (x0 + 1 + 49) 0) → (0 ≤ x2) → (x2 < d (x0 + 1 + 10) 0) → (0 ≤ (v_78 (x0 + 1) x1 x2 d) ∧ (v_78 (x0 + 1) x1 x2 d) ≤ 2000) → K (.inl (some (0, v_78 (x0 + 1) x1 x2 d))) d) (h3 : (0 ≤ x1) → (x1 < d (x0 + 1 + 49) 0) → (0 ≤ x2) → (d (x0 + 1 + 10) 0 ≤ x2) → K (.inr 1) d) (h4 : (0 ≤ x1) → (d (x0 + 1 + 49) 0 ≤ x1) → K (.inr 1) d) : tCall E 133 [.inr (10, x0), .inl (0, x1), .inl (0, x2)] d K := by
  refine t_133_0 ?_
  have w0 : x0 = 0 := hx0
  have w2 := r_6_f2 hS (wbB.nw hx0)
  have w3 := r_3_f0 hS (stB.of (wbB.nw hx0))
  have w4 := r_4_f0 hS (stB.pe (wbB.nw hx0))
  have w5 := r_8_f0 hS (stB.ti (wbB.nw hx0))
  have w6 := r_9_f0 hS (stB.to (wbB.nw hx0))
  have w7 := r_7_f1 hS (wbB.tx hx0)
  refine k_167 hS hx0 (m_inR (by omega) (by omega)) (fun z0 => ?_) (fun z0 z1 => ?_) (fun z0 z1 => ?_)
  · exact h0 z0
  · refine t_133_5 ?_
    refine k_166 hS hx0 (m_inR (by omega) (by omega)) (fun z2 => ?_) (fun z2 z3 => ?_) (fun z2 z3 => ?_)
    · exact h1 z0 z1 z2
    · refine t_133_10 ?_
      refine k_78 hS (wbB.nw hx0) (by omega) (m_inR (by omega) (by omega)) (fun e1 => ?_)
      refine t_133_19 ?_
      exact h2 z0 z1 z2 z3 (by omega)
    · exact h3 z0 z1 z2 z3
  · exact h4 z0 z1
theorem k_135 {E : mO × tW} {K : tK} {d : mD} {x0 x1 x2 : Int} (hS : Safe d) (hx0 : wbB x0) (p1 : -2147483648 ≤ x1 ∧ x1 ≤ 2147483647) (p2 : -2147483648 ≤ x2 ∧ x2 ≤ 2147483647) (h0 : (x1 < 0) → K (.inr 1) d) (h1 : (0 ≤ x1) → (x1 < d (x0 + 1 + 49) 0) → (x2 < 0) → K (.inr 1) d) (h2 : (0 ≤ x1) → (x1 < d (x0 + 1 + 49) 0) → (0 ≤ x2) → (x2 < d (x0 + 1 + 10) 0) → (0 ≤ (v_99 (x0 + 1 + 49) x1 x2 d) ∧ (v_99 (x0 + 1 + 49) x1 x2 d) ≤ 1) → K (.inl (some (0, v_99 (x0 + 1 + 49) x1 x2 d))) d) (h3 : (0 ≤ x1) → (x1 < d (x0 + 1 + 49) 0) → (0 ≤ x2) → (d (x0 + 1 + 10) 0 ≤ x2) → K (.inr 1) d) (h4 : (0 ≤ x1) → (d (x0 + 1 + 49) 0 ≤ x1) → K (.inr 1) d) : tCall E 135 [.inr (10, x0), .inl (0, x1), .inl (0, x2)] d K := by
  refine t_135_0 ?_
  have w0 : x0 = 0 := hx0
  have w2 := r_6_f2 hS (wbB.nw hx0)
  have w3 := r_3_f0 hS (stB.of (wbB.nw hx0))
  have w4 := r_4_f0 hS (stB.pe (wbB.nw hx0))
  have w5 := r_8_f0 hS (stB.ti (wbB.nw hx0))
  have w6 := r_9_f0 hS (stB.to (wbB.nw hx0))
  have w7 := r_7_f1 hS (wbB.tx hx0)
  refine k_167 hS hx0 (m_inR (by omega) (by omega)) (fun z0 => ?_) (fun z0 z1 => ?_) (fun z0 z1 => ?_)
  · exact h0 z0
  · refine t_135_5 ?_
    refine k_166 hS hx0 (m_inR (by omega) (by omega)) (fun z2 => ?_) (fun z2 z3 => ?_) (fun z2 z3 => ?_)
    · exact h1 z0 z1 z2
    · refine t_135_10 ?_
      refine k_99 hS (stB.ti (wbB.nw hx0)) (by omega) (m_inR (by omega) (by omega)) (fun e1 => ?_)
      refine t_135_22 ?_
      refine ⟨by omega, ?_⟩
      exact h2 z0 z1 z2 z3 (by omega)
    · exact h3 z0 z1 z2 z3
  · exact h4 z0 z1
theorem k_136 {E : mO × tW} {K : tK} {d : mD} {x0 x1 : Int} (hS : Safe d) (hx0 : wbB x0) (p1 : -2147483648 ≤ x1 ∧ x1 ≤ 2147483647) (h0 : (x1 < 0) → K (.inr 1) d) (h1 : (0 ≤ x1) → (x1 < d (x0 + 1 + 49) 0) → (¬ d (x0 + 1 + 49 + 5) x1 = 1) → (0 ≤ 0 ∧ 0 ≤ 1300) → K (.inl (some (0, 0))) d) (h2 : (0 ≤ x1) → (x1 < d (x0 + 1 + 49) 0) → (d (x0 + 1 + 49 + 5) x1 = 1) → (0 ≤ (v_80 (x0 + 1) x1 d) ∧ (v_80 (x0 + 1) x1 d) ≤ 1300) → K (.inl (some (0, v_80 (x0 + 1) x1 d))) d) (h3 : (0 ≤ x1) → (d (x0 + 1 + 49) 0 ≤ x1) → K (.inr 1) d) : tCall E 136 [.inr (10, x0), .inl (0, x1)] d K := by
  refine t_136_0 ?_
  have w0 : x0 = 0 := hx0
  have w2 := r_6_f2 hS (wbB.nw hx0)
  have w3 := r_3_f0 hS (stB.of (wbB.nw hx0))
  have w4 := r_4_f0 hS (stB.pe (wbB.nw hx0))
  have w5 := r_8_f0 hS (stB.ti (wbB.nw hx0))
  have w6 := r_9_f0 hS (stB.to (wbB.nw hx0))
  have w7 := r_7_f1 hS (wbB.tx hx0)
  refine k_167 hS hx0 (m_inR (by omega) (by omega)) (fun z0 => ?_) (fun z0 z1 => ?_) (fun z0 z1 => ?_)
  · exact h0 z0
  · refine t_136_5 ?_
    have q1 := r_8_5 hS (stB.ti (wbB.nw hx0)) x1
    refine ⟨by omega, ⟨m_inR (by omega) (by omega), m_inR (by omega) (by omega)⟩, fun c2 => ?_, fun c2 => ?_⟩
    · exact h1 z0 z1 c2 (by omega)
    · refine k_80 hS (wbB.nw hx0) (by omega) (fun e1 => ?_)
      refine t_136_29 ?_
      exact h2 z0 z1 c2 (by omega)
  · exact h3 z0 z1
def v_137 (x0 : Int) (d : mD) : Int := ((d (x0 + 1 + 57) 0) - (v_110 (x0 + 1 + 57) 2 d)) * (d (x0 + 1 + 1) 4)
theorem k_137 {E : mO × tW} {K : tK} {d : mD} {x0 : Int} (hS : Safe d) (hx0 : wbB x0) (h : (-19800 ≤ (v_137 x0 d) ∧ (v_137 x0 d) ≤ 19800) → K (.inl (some (0, (v_137 x0 d)))) d) : tCall E 137 [.inr (10, x0)] d K := by
  refine t_137_0 ?_
  have w0 : x0 = 0 := hx0
  have w2 := r_6_f2 hS (wbB.nw hx0)
  have w3 := r_3_f0 hS (stB.of (wbB.nw hx0))
  have w4 := r_4_f0 hS (stB.pe (wbB.nw hx0))
  have w5 := r_8_f0 hS (stB.ti (wbB.nw hx0))
  have w6 := r_9_f0 hS (stB.to (wbB.nw hx0))
  have w7 := r_7_f1 hS (wbB.tx hx0)
  refine k_110 hS (stB.to (wbB.nw hx0)) (m_inR (by omega) (by omega)) (fun e1 => ?_)
  refine t_137_21 ?_
  have q1 := r_9_f0 hS (stB.to (wbB.nw hx0))
  have q2 := r_6_1 hS (wbB.nw hx0) ((4 : Int))
  refine ⟨by omega, ?_⟩
  have y0 : v_137 x0 d = ((d (x0 + 1 + 57) 0) - (v_110 (x0 + 1 + 57) 2 d)) * (d (x0 + 1 + 1) 4) := by simp only [v_137]
  rw [y0] at h
  exact h (show -19800 ≤ (((d (x0 + 1 + 57) 0) - (v_110 (x0 + 1 + 57) 2 d)) * (d (x0 + 1 + 1) 4)) ∧ (((d (x0 + 1 + 57) 0) - (v_110 (x0 + 1 + 57) 2 d)) * (d (x0 + 1 + 1) 4)) ≤ 19800 from (mul_r (by omega) (by omega)))
def v_138 (x0 : Int) (d : mD) : Int := if v_101 (x0 + 1 + 49) 1 d = 0 then 0 else mddiv (mi2d (v_106 (x0 + 1 + 49) d)) (mi2d (v_101 (x0 + 1 + 49) 1 d))
theorem k_138 {E : mO × tW} {K : tK} {d : mD} {x0 : Int} (hS : Safe d) (hx0 : wbB x0) (h : K (.inl (some (2, (v_138 x0 d)))) d) : tCall E 138 [.inr (10, x0)] d K := by
  refine t_138_0 ?_
  have w0 : x0 = 0 := hx0
  have w2 := r_6_f2 hS (wbB.nw hx0)
  have w3 := r_3_f0 hS (stB.of (wbB.nw hx0))
  have w4 := r_4_f0 hS (stB.pe (wbB.nw hx0))
  have w5 := r_8_f0 hS (stB.ti (wbB.nw hx0))
  have w6 := r_9_f0 hS (stB.to (wbB.nw hx0))
  have w7 := r_7_f1 hS (wbB.tx hx0)
  refine k_101 hS (stB.ti (wbB.nw hx0)) (m_inR (by omega) (by omega)) (fun e1 => ?_)
  refine t_138_11 ?_
  refine ⟨m_inR (by omega) (by omega), fun c0 => ?_, fun c0 => ?_⟩
  · refine k_106 hS (stB.ti (wbB.nw hx0)) (fun e2 => ?_)
    refine t_138_30 ?_
    refine ⟨dd_ok (by omega), ?_⟩
    have y0 : v_138 x0 d = mddiv (mi2d (v_106 (x0 + 1 + 49) d)) (mi2d (v_101 (x0 + 1 + 49) 1 d)) := by simp only [v_138, if_neg (show ¬ v_101 (x0 + 1 + 49) 1 d = 0 from c0)]
    rw [y0] at h
    exact h
  · have y0 : v_138 x0 d = 0 := by simp only [v_138, if_pos (show v_101 (x0 + 1 + 49) 1 d = 0 from c0)]
    rw [y0] at h
    exact h
def v_141 (x0 : Int) (d : mD) : Int := ((((d (x0 + 1 + 57) 0) - (v_110 (x0 + 1 + 57) 0 d)) - (v_110 (x0 + 1 + 57) 1 d)) - (v_110 (x0 + 1 + 57) 2 d)) + (v_84 (x0 + 1) d)
theorem k_141 {E : mO × tW} {K : tK} {d : mD} {x0 : Int} (hS : Safe d) (hx0 : wbB x0) (h : (-600 ≤ (v_141 x0 d) ∧ (v_141 x0 d) ≤ 40200) → K (.inl (some (0, (v_141 x0 d)))) d) : tCall E 141 [.inr (10, x0)] d K := by
  refine t_141_0 ?_
  have w0 : x0 = 0 := hx0
  have w2 := r_6_f2 hS (wbB.nw hx0)
  have w3 := r_3_f0 hS (stB.of (wbB.nw hx0))
  have w4 := r_4_f0 hS (stB.pe (wbB.nw hx0))
  have w5 := r_8_f0 hS (stB.ti (wbB.nw hx0))
  have w6 := r_9_f0 hS (stB.to (wbB.nw hx0))
  have w7 := r_7_f1 hS (wbB.tx hx0)
  refine k_110 hS (stB.to (wbB.nw hx0)) (m_inR (by omega) (by omega)) (fun e1 => ?_)
  refine t_141_17 ?_
  refine k_110 hS (stB.to (wbB.nw hx0)) (m_inR (by omega) (by omega)) (fun e2 => ?_)
  refine t_141_23 ?_
  refine k_110 hS (stB.to (wbB.nw hx0)) (m_inR (by omega) (by omega)) (fun e3 => ?_)
  refine t_141_29 ?_
  refine k_84 hS (wbB.nw hx0) (fun e4 => ?_)
  refine t_141_39 ?_
  have q1 := r_9_f0 hS (stB.to (wbB.nw hx0))
  have y0 : v_141 x0 d = ((((d (x0 + 1 + 57) 0) - (v_110 (x0 + 1 + 57) 0 d)) - (v_110 (x0 + 1 + 57) 1 d)) - (v_110 (x0 + 1 + 57) 2 d)) + (v_84 (x0 + 1) d) := by simp only [v_141]
  rw [y0] at h
  exact h (show -600 ≤ (((((d (x0 + 1 + 57) 0) - (v_110 (x0 + 1 + 57) 0 d)) - (v_110 (x0 + 1 + 57) 1 d)) - (v_110 (x0 + 1 + 57) 2 d)) + (v_84 (x0 + 1) d)) ∧ (((((d (x0 + 1 + 57) 0) - (v_110 (x0 + 1 + 57) 0 d)) - (v_110 (x0 + 1 + 57) 1 d)) - (v_110 (x0 + 1 + 57) 2 d)) + (v_84 (x0 + 1) d)) ≤ 40200 from (by omega))
theorem k_142 {E : mO × tW} {K : tK} {d : mD} {x0 x1 : Int} (hS : Safe d) (hx0 : wbB x0) (p1 : -2147483648 ≤ x1 ∧ x1 ≤ 2147483647) (h0 : (x1 < 0) → K (.inr 1) d) (h1 : (0 ≤ x1) → (x1 < d (x0 + 1 + 49) 0) → (¬ d (x0 + 1 + 49 + 5) x1 = 1) → (¬ v_39 (x0 + 1 + 2) (d (x0 + 1 + 49 + 2) x1) x1 d = (-1)) → (v_43 (x0 + 1 + 2) (d (x0 + 1 + 49 + 2) x1) (v_39 (x0 + 1 + 2) (d (x0 + 1 + 49 + 2) x1) x1 d) (d (x0 + 1) 2) d ≤ (200 : Int)) → (0 ≤ (v_43 (x0 + 1 + 2) (d (x0 + 1 + 49 + 2) x1) (v_39 (x0 + 1 + 2) (d (x0 + 1 + 49 + 2) x1) x1 d) (d (x0 + 1) 2) d) ∧ (v_43 (x0 + 1 + 2) (d (x0 + 1 + 49 + 2) x1) (v_39 (x0 + 1 + 2) (d (x0 + 1 + 49 + 2) x1) x1 d) (d (x0 + 1) 2) d) ≤ 200) → K (.inl (some (0, v_43 (x0 + 1 + 2) (d (x0 + 1 + 49 + 2) x1) (v_39 (x0 + 1 + 2) (d (x0 + 1 + 49 + 2) x1) x1 d) (d (x0 + 1) 2) d))) d) (h2 : (0 ≤ x1) → (x1 < d (x0 + 1 + 49) 0) → (¬ d (x0 + 1 + 49 + 5) x1 = 1) → (¬ v_39 (x0 + 1 + 2) (d (x0 + 1 + 49 + 2) x1) x1 d = (-1)) → ((200 : Int) < v_43 (x0 + 1 + 2) (d (x0 + 1 + 49 + 2) x1) (v_39 (x0 + 1 + 2) (d (x0 + 1 + 49 + 2) x1) x1 d) (d (x0 + 1) 2) d) → K (.inr 3) d) (h3 : (0 ≤ x1) → (x1 < d (x0 + 1 + 49) 0) → (¬ d (x0 + 1 + 49 + 5) x1 = 1) → (v_39 (x0 + 1 + 2) (d (x0 + 1 + 49 + 2) x1) x1 d = (-1)) → K (.inr 3) d) (h4 : (0 ≤ x1) → (x1 < d (x0 + 1 + 49) 0) → (d (x0 + 1 + 49 + 5) x1 = 1) → (0 ≤ 0 ∧ 0 ≤ 200) → K (.inl (some (0, 0))) d) (h5 : (0 ≤ x1) → (d (x0 + 1 + 49) 0 ≤ x1) → K (.inr 1) d) : tCall E 142 [.inr (10, x0), .inl (0, x1)] d K := by
  refine t_142_0 ?_
  have w0 : x0 = 0 := hx0
  have w2 := r_6_f2 hS (wbB.nw hx0)
  have w3 := r_3_f0 hS (stB.of (wbB.nw hx0))
  have w4 := r_4_f0 hS (stB.pe (wbB.nw hx0))
  have w5 := r_8_f0 hS (stB.ti (wbB.nw hx0))
  have w6 := r_9_f0 hS (stB.to (wbB.nw hx0))
  have w7 := r_7_f1 hS (wbB.tx hx0)
  refine k_167 hS hx0 (m_inR (by omega) (by omega)) (fun z0 => ?_) (fun z0 z1 => ?_) (fun z0 z1 => ?_)
  · exact h0 z0
  · refine t_142_5 ?_
    have q1 := r_8_5 hS (stB.ti (wbB.nw hx0)) x1
    refine ⟨by omega, ⟨m_inR (by omega) (by omega), m_inR (by omega) (by omega)⟩, fun c2 => ?_, fun c2 => ?_⟩
    · refine ⟨by omega, ?_⟩
      have q2 := r_8_2 hS (stB.ti (wbB.nw hx0)) x1
      refine k_39 hS (stB.of (wbB.nw hx0)) (by omega) (m_inR (by omega) (by omega)) (fun e1 => ?_)
      refine t_142_48 ?_
      refine ⟨⟨m_inR (by omega) (by omega), m_inR (by omega) (by omega)⟩, fun c3 => ?_, fun c3 => ?_⟩
      · have q3 := r_6_f2 hS (wbB.nw hx0)
        refine k_43 hS (stB.of (wbB.nw hx0)) (by omega) (by omega) (by omega) (fun e2 => ?_)
        refine t_142_84 ?_
        refine ⟨⟨m_inR (by omega) (by omega), m_inR (by omega) (by omega)⟩, fun c4 => ?_, fun c4 => ?_⟩
        · exact h1 z0 z1 c2 c3 c4 (by omega)
        · exact h2 z0 z1 c2 c3 c4
      · exact h3 z0 z1 c2 c3
    · exact h4 z0 z1 c2 (by omega)
  · exact h5 z0 z1
theorem k_143 {E : mO × tW} {K : tK} {d : mD} {x0 x1 x2 : Int} (hS : Safe d) (hx0 : wbB x0) (p1 : -2147483648 ≤ x1 ∧ x1 ≤ 2147483647) (p2 : -2147483648 ≤ x2 ∧ x2 ≤ 2147483647) (h0 : (x1 < 0) → K (.inr 1) d) (h1 : (0 ≤ x1) → (x1 < d (x0 + 1 + 2) 0) → (x2 < 0) → K (.inr 2) d) (h2 : (0 ≤ x1) → (x1 < d (x0 + 1 + 2) 0) → (0 ≤ x2) → (x2 ≤ (200 : Int)) → (0 ≤ (v_44 (x0 + 1 + 2) x1 x2 (d (x0 + 1) 2) d) ∧ (v_44 (x0 + 1 + 2) x1 x2 (d (x0 + 1) 2) d) ≤ 16) → K (.inl (some (0, v_44 (x0 + 1 + 2) x1 x2 (d (x0 + 1) 2) d))) d) (h3 : (0 ≤ x1) → (x1 < d (x0 + 1 + 2) 0) → (0 ≤ x2) → ((200 : Int) < x2) → K (.inr 2) d) (h4 : (0 ≤ x1) → (d (x0 + 1 + 2) 0 ≤ x1) → K (.inr 1) d) : tCall E 143 [.inr (10, x0), .inl (0, x1), .inl (0, x2)] d K := by
  refine t_143_0 ?_
  have w0 : x0 = 0 := hx0
  have w2 := r_6_f2 hS (wbB.nw hx0)
  have w3 := r_3_f0 hS (stB.of (wbB.nw hx0))
  have w4 := r_4_f0 hS (stB.pe (wbB.nw hx0))
  have w5 := r_8_f0 hS (stB.ti (wbB.nw hx0))
  have w6 := r_9_f0 hS (stB.to (wbB.nw hx0))
  have w7 := r_7_f1 hS (wbB.tx hx0)
  refine k_165 hS hx0 (m_inR (by omega) (by omega)) (fun z0 => ?_) (fun z0 z1 => ?_) (fun z0 z1 => ?_)
  · exact h0 z0
  · refine t_143_5 ?_
    refine k_170 hS hx0 (m_inR (by omega) (by omega)) (fun z2 => ?_) (fun z2 z3 => ?_) (fun z2 z3 => ?_)
    · exact h1 z0 z1 z2
    · refine t_143_10 ?_
      have q1 := r_6_f2 hS (wbB.nw hx0)
      refine k_44 hS (stB.of (wbB.nw hx0)) (by omega) (by omega) (by omega) (fun e1 => ?_)
      refine t_143_29 ?_
      exact h2 z0 z1 z2 z3 (by omega)
    · exact h3 z0 z1 z2 z3
  · exact h4 z0 z1
theorem k_144 {E : mO × tW} {K : tK} {d : mD} {x0 x1 : Int} (hS : Safe d) (hx0 : wbB x0) (p1 : -2147483648 ≤ x1 ∧ x1 ≤ 2147483647) (h0 : (x1 < 0) → K (.inr 2) d) (h1 : (0 ≤ x1) → (x1 ≤ (200 : Int)) → (0 ≤ ((g_68 (x0 + 580) x1 (g_59 (x0 + 580) (x0 + 1) d)) (x0 + 580 + 57) 0) ∧ ((g_68 (x0 + 580) x1 (g_59 (x0 + 580) (x0 + 1) d)) (x0 + 580 + 57) 0) ≤ 200) → (∀ b : Int, (b < x0 + 580 ∨ x0 + 595 < b) ∧ (b < x0 + 598 ∨ x0 + 642 < b) → (g_68 (x0 + 580) x1 (g_59 (x0 + 580) (x0 + 1) d)) b = d b) → Safe (g_68 (x0 + 580) x1 (g_59 (x0 + 580) (x0 + 1) d)) → K (.inl (some (0, (g_68 (x0 + 580) x1 (g_59 (x0 + 580) (x0 + 1) d)) (x0 + 580 + 57) 0))) (g_68 (x0 + 580) x1 (g_59 (x0 + 580) (x0 + 1) d))) (h2 : (0 ≤ x1) → ((200 : Int) < x1) → K (.inr 2) d) : tCall E 144 [.inr (10, x0), .inl (0, x1)] d K := by
  refine t_144_0 ?_
  have w0 : x0 = 0 := hx0
  have w2 := r_6_f2 hS (wbB.nw hx0)
  have w3 := r_3_f0 hS (stB.of (wbB.nw hx0))
  have w4 := r_4_f0 hS (stB.pe (wbB.nw hx0))
  have w5 := r_8_f0 hS (stB.ti (wbB.nw hx0))
  have w6 := r_9_f0 hS (stB.to (wbB.nw hx0))
  have w7 := r_7_f1 hS (wbB.tx hx0)
  refine k_170 hS hx0 (m_inR (by omega) (by omega)) (fun z0 => ?_) (fun z0 z1 => ?_) (fun z0 z1 => ?_)
  · exact h0 z0
  · refine t_144_5 ?_
    refine k_59 hS (wbB.sp hx0) (wbB.nw hx0) (by omega) (fun F1 k1_0 hS1 => ?_)
    refine t_144_16 ?_
    have q1 : (g_59 (x0 + 580) (x0 + 1) d) (x0 + 580) 2 = d (x0 + 1) 2 := k1_0
    refine k_68 hS1 (wbB.sp hx0) (by omega) (by omega) (by omega) (fun e1 F2 n2_0 hS2 => ?_)
    refine t_144_24 ?_
    have q2 := r_9_f0 hS2 (stB.to (wbB.sp hx0))
    exact h1 z0 z1 (by omega) (fun b hb => (F2 b (by omega)).trans (F1 b (by omega))) hS2
  · exact h2 z0 z1
theorem k_145 {E : mO × tW} {K : tK} {d : mD} {x0 x1 : Int} (hS : Safe d) (hx0 : wbB x0) (p1 : -2147483648 ≤ x1 ∧ x1 ≤ 2147483647) (h0 : (x1 < 0) → K (.inr 1) d) (h1 : (0 ≤ x1) → (x1 < d (x0 + 1 + 2) 0) → (¬ v_173 x0 x1 d = (-1)) → (0 ≤ (v_173 x0 x1 d) ∧ (v_173 x0 x1 d) ≤ 200) → K (.inl (some (0, v_173 x0 x1 d))) d) (h2 : (0 ≤ x1) → (x1 < d (x0 + 1 + 2) 0) → (v_173 x0 x1 d = (-1)) → K (.inr 3) d) (h3 : (0 ≤ x1) → (d (x0 + 1 + 2) 0 ≤ x1) → K (.inr 1) d) : tCall E 145 [.inr (10, x0), .inl (0, x1)] d K := by
  refine t_145_0 ?_
  have w0 : x0 = 0 := hx0
  have w2 := r_6_f2 hS (wbB.nw hx0)
  have w3 := r_3_f0 hS (stB.of (wbB.nw hx0))
  have w4 := r_4_f0 hS (stB.pe (wbB.nw hx0))
  have w5 := r_8_f0 hS (stB.ti (wbB.nw hx0))
  have w6 := r_9_f0 hS (stB.to (wbB.nw hx0))
  have w7 := r_7_f1 hS (wbB.tx hx0)
  refine k_165 hS hx0 (m_inR (by omega) (by omega)) (fun z0 => ?_) (fun z0 z1 => ?_) (fun z0 z1 => ?_)
  · exact h0 z0
  · refine t_145_5 ?_
    refine k_173 hS hx0 (by omega) (fun e1 => ?_)
    refine t_145_10 ?_
    refine ⟨⟨m_inR (by omega) (by omega), m_inR (by omega) (by omega)⟩, fun c2 => ?_, fun c2 => ?_⟩
    · exact h1 z0 z1 c2 (by omega)
    · exact h2 z0 z1 c2
  · exact h3 z0 z1
theorem k_147 {E : mO × tW} {K : tK} {d : mD} {x0 x1 x2 : Int} (hS : Safe d) (hx0 : wbB x0) (p1 : -2147483648 ≤ x1 ∧ x1 ≤ 2147483647) (p2 : -2147483648 ≤ x2 ∧ x2 ≤ 2147483647) (h0 : (x1 < 0) → K (.inr 1) d) (h1 : (0 ≤ x1) → (x1 < d (x0 + 1 + 2) 0) → (x2 < 0) → K (.inr 1) d) (h2 : (0 ≤ x1) → (x1 < d (x0 + 1 + 2) 0) → (0 ≤ x2) → (x2 < d (x0 + 1 + 2) 0) → (x1 = x2) → K (.inr 0) d) (h3 : (0 ≤ x1) → (x1 < d (x0 + 1 + 2) 0) → (0 ≤ x2) → (x2 < d (x0 + 1 + 2) 0) → (¬ x1 = x2) → (d (x0 + 1 + 2 + 5) x1 = 0) → K (.inr 0) d) (h4 : (0 ≤ x1) → (x1 < d (x0 + 1 + 2) 0) → (0 ≤ x2) → (x2 < d (x0 + 1 + 2) 0) → (¬ x1 = x2) → (¬ d (x0 + 1 + 2 + 5) x1 = 0) → (¬ d (x0 + 1 + 2 + 5) x2 = 0) → (¬ v_66 (x0 + 580) (g_63 (x0 + 580) x1 x2 (g_59 (x0 + 580) (x0 + 1) d)) = (-1)) → (0 ≤ (v_66 (x0 + 580) (g_63 (x0 + 580) x1 x2 (g_59 (x0 + 580) (x0 + 1) d))) ∧ (v_66 (x0 + 580) (g_63 (x0 + 580) x1 x2 (g_59 (x0 + 580) (x0 + 1) d))) ≤ 2000) → (∀ b : Int, (b < x0 + 580 ∨ x0 + 595 < b) ∧ (b < x0 + 598 ∨ x0 + 642 < b) → (g_63 (x0 + 580) x1 x2 (g_59 (x0 + 580) (x0 + 1) d)) b = d b) → Safe (g_63 (x0 + 580) x1 x2 (g_59 (x0 + 580) (x0 + 1) d)) → K (.inl (some (0, v_66 (x0 + 580) (g_63 (x0 + 580) x1 x2 (g_59 (x0 + 580) (x0 + 1) d))))) (g_63 (x0 + 580) x1 x2 (g_59 (x0 + 580) (x0 + 1) d))) (h5 : (0 ≤ x1) → (x1 < d (x0 + 1 + 2) 0) → (0 ≤ x2) → (x2 < d (x0 + 1 + 2) 0) → (¬ x1 = x2) → (¬ d (x0 + 1 + 2 + 5) x1 = 0) → (¬ d (x0 + 1 + 2 + 5) x2 = 0) → (v_66 (x0 + 580) (g_63 (x0 + 580) x1 x2 (g_59 (x0 + 580) (x0 + 1) d)) = (-1)) → (∀ b : Int, (b < x0 + 580 ∨ x0 + 595 < b) ∧ (b < x0 + 598 ∨ x0 + 642 < b) → (g_63 (x0 + 580) x1 x2 (g_59 (x0 + 580) (x0 + 1) d)) b = d b) → Safe (g_63 (x0 + 580) x1 x2 (g_59 (x0 + 580) (x0 + 1) d)) → K (.inr 3) (g_63 (x0 + 580) x1 x2 (g_59 (x0 + 580) (x0 + 1) d))) (h6 : (0 ≤ x1) → (x1 < d (x0 + 1 + 2) 0) → (0 ≤ x2) → (x2 < d (x0 + 1 + 2) 0) → (¬ x1 = x2) → (¬ d (x0 + 1 + 2 + 5) x1 = 0) → (d (x0 + 1 + 2 + 5) x2 = 0) → K (.inr 0) d) (h7 : (0 ≤ x1) → (x1 < d (x0 + 1 + 2) 0) → (0 ≤ x2) → (d (x0 + 1 + 2) 0 ≤ x2) → K (.inr 1) d) (h8 : (0 ≤ x1) → (d (x0 + 1 + 2) 0 ≤ x1) → K (.inr 1) d) : tCall E 147 [.inr (10, x0), .inl (0, x1), .inl (0, x2)] d K := by
  refine t_147_0 ?_
  have w0 : x0 = 0 := hx0
  have w2 := r_6_f2 hS (wbB.nw hx0)
  have w3 := r_3_f0 hS (stB.of (wbB.nw hx0))
  have w4 := r_4_f0 hS (stB.pe (wbB.nw hx0))
  have w5 := r_8_f0 hS (stB.ti (wbB.nw hx0))
  have w6 := r_9_f0 hS (stB.to (wbB.nw hx0))
  have w7 := r_7_f1 hS (wbB.tx hx0)
  refine k_172 hS hx0 (m_inR (by omega) (by omega)) (m_inR (by omega) (by omega)) (fun z0 => ?_) (fun z0 z1 z2 => ?_) (fun z0 z1 z2 z3 z4 => ?_) (fun z0 z1 z2 z3 z4 z5 => ?_) (fun z0 z1 z2 z3 z4 z5 z6 => ?_) (fun z0 z1 z2 z3 z4 z5 z6 => ?_) (fun z0 z1 z2 z3 => ?_) (fun z0 z1 => ?_)
  · exact h0 z0
  · exact h1 z0 z1 z2
  · exact h2 z0 z1 z2 z3 z4
  · exact h3 z0 z1 z2 z3 z4 z5
  · refine t_147_6 ?_
    refine k_59 hS (wbB.sp hx0) (wbB.nw hx0) (by omega) (fun F1 k1_0 hS1 => ?_)
    refine t_147_17 ?_
    refine k_63 hS1 (wbB.sp hx0) (by omega) (by omega) (fun F2 hS2 => ?_)
    refine t_147_26 ?_
    refine k_66 hS2 (wbB.sp hx0) (fun e1 => ?_)
    refine t_147_33 ?_
    refine ⟨⟨m_inR (by omega) (by omega), m_inR (by omega) (by omega)⟩, fun c7 => ?_, fun c7 => ?_⟩
    · exact h4 z0 z1 z2 z3 z4 z5 z6 c7 (by omega) (fun b hb => (F2 b (by omega)).trans (F1 b (by omega))) hS2
    · exact h5 z0 z1 z2 z3 z4 z5 z6 c7 (fun b hb => (F2 b (by omega)).trans (F1 b (by omega))) hS2
  · exact h6 z0 z1 z2 z3 z4 z5 z6
  · exact h7 z0 z1 z2 z3
  · exact h8 z0 z1
theorem k_149 {E : mO × tW} {K : tK} {d : mD} {x0 x1 : Int} (hS : Safe d) (hx0 : wbB x0) (p1 : -2147483648 ≤ x1 ∧ x1 ≤ 2147483647) (h0 : (x1 < 0) → K (.inr 1) d) (h1 : (0 ≤ x1) → (x1 < d (x0 + 572) 1) → (-128 ≤ (d (x0 + 572 + 1) x1) ∧ (d (x0 + 572 + 1) x1) ≤ 127) → K (.inl (some (0, d (x0 + 572 + 1) x1))) d) (h2 : (0 ≤ x1) → (d (x0 + 572) 1 ≤ x1) → K (.inr 1) d) : tCall E 149 [.inr (10, x0), .inl (0, x1)] d K := by
  refine t_149_0 ?_
  have w0 : x0 = 0 := hx0
  have w2 := r_6_f2 hS (wbB.nw hx0)
  have w3 := r_3_f0 hS (stB.of (wbB.nw hx0))
  have w4 := r_4_f0 hS (stB.pe (wbB.nw hx0))
  have w5 := r_8_f0 hS (stB.ti (wbB.nw hx0))
  have w6 := r_9_f0 hS (stB.to (wbB.nw hx0))
  have w7 := r_7_f1 hS (wbB.tx hx0)
  refine ⟨m_inR (by omega) (by omega), fun c0 => ?_, fun c0 => ?_⟩
  · exact h0 c0
  · have q1 := r_7_f1 hS (wbB.ou hx0)
    refine ⟨⟨m_inR (by omega) (by omega), m_inR (by omega) (by omega)⟩, fun c1 => ?_, fun c1 => ?_⟩
    · have q2 := r_7_1 hS (wbB.ou hx0) x1
      refine ⟨by omega, ?_⟩
      exact h1 c0 c1 (by omega)
    · exact h2 c0 c1
theorem k_150 {E : mO × tW} {K : tK} {d : mD} {x0 x1 x2 : Int} (hS : Safe d) (hx0 : wbB x0) (p1 : -2147483648 ≤ x1 ∧ x1 ≤ 2147483647) (p2 : -2147483648 ≤ x2 ∧ x2 ≤ 2147483647) (h0 : (x1 < 0) → K (.inr 1) d) (h1 : (0 ≤ x1) → (x1 < d (x0 + 1 + 10) 0) → (x2 < 0) → K (.inr 1) d) (h2 : (0 ≤ x1) → (x1 < d (x0 + 1 + 10) 0) → (0 ≤ x2) → (x2 < d (x0 + 1 + 2) 0) → (¬ v_60 (x0 + 1) x1 x2 d = 0) → (0 ≤ (v_61 (x0 + 1) x1 x2 (g_2 (x0 + 64) (x0 + 1) d)) ∧ (v_61 (x0 + 1) x1 x2 (g_2 (x0 + 64) (x0 + 1) d)) ≤ 59) → (∀ b : Int, (b < x0 + 9 ∨ x0 + 10 < b) ∧ (b < x0 + 50 ∨ x0 + 57 < b) ∧ (b < x0 + 64 ∨ x0 + 64 < b) ∧ (b < x0 + 66 ∨ x0 + 569 < b) → (g_61 (x0 + 1) x1 x2 (g_2 (x0 + 64) (x0 + 1) d)) b = d b) → Safe (g_61 (x0 + 1) x1 x2 (g_2 (x0 + 64) (x0 + 1) d)) → K (.inl (some (0, v_61 (x0 + 1) x1 x2 (g_2 (x0 + 64) (x0 + 1) d)))) (g_61 (x0 + 1) x1 x2 (g_2 (x0 + 64) (x0 + 1) d))) (h3 : (0 ≤ x1) → (x1 < d (x0 + 1 + 10) 0) → (0 ≤ x2) → (x2 < d (x0 + 1 + 2) 0) → (v_60 (x0 + 1) x1 x2 d = 0) → K (.inr 0) d) (h4 : (0 ≤ x1) → (x1 < d (x0 + 1 + 10) 0) → (0 ≤ x2) → (d (x0 + 1 + 2) 0 ≤ x2) → K (.inr 1) d) (h5 : (0 ≤ x1) → (d (x0 + 1 + 10) 0 ≤ x1) → K (.inr 1) d) : tCall E 150 [.inr (10, x0), .inl (0, x1), .inl (0, x2)] d K := by
  refine t_150_0 ?_
  have w0 : x0 = 0 := hx0
  have w2 := r_6_f2 hS (wbB.nw hx0)
  have w3 := r_3_f0 hS (stB.of (wbB.nw hx0))
  have w4 := r_4_f0 hS (stB.pe (wbB.nw hx0))
  have w5 := r_8_f0 hS (stB.ti (wbB.nw hx0))
  have w6 := r_9_f0 hS (stB.to (wbB.nw hx0))
  have w7 := r_7_f1 hS (wbB.tx hx0)
  refine k_166 hS hx0 (m_inR (by omega) (by omega)) (fun z0 => ?_) (fun z0 z1 => ?_) (fun z0 z1 => ?_)
  · exact h0 z0
  · refine t_150_5 ?_
    refine k_165 hS hx0 (m_inR (by omega) (by omega)) (fun z2 => ?_) (fun z2 z3 => ?_) (fun z2 z3 => ?_)
    · exact h1 z0 z1 z2
    · refine t_150_10 ?_
      refine k_60 hS (wbB.nw hx0) (m_inR (by omega) (by omega)) (by omega) (fun e1 => ?_)
      refine t_150_19 ?_
      refine ⟨m_inR (by omega) (by omega), fun c4 => ?_, fun c4 => ?_⟩
      · refine k_2 hS (wbB.hi hx0) (wbB.nw hx0) (by omega) (fun F1 hS1 => ?_)
        refine t_150_44 ?_
        have q1 : (g_2 (x0 + 64) (x0 + 1) d) (x0 + 1 + 49) 0 = d (x0 + 1 + 49) 0 := congrFun (F1 (x0 + 1 + 49) (by omega)) 0
        have q2 : (g_2 (x0 + 64) (x0 + 1) d) (x0 + 1) 2 = d (x0 + 1) 2 := congrFun (F1 (x0 + 1) (by omega)) 2
        refine k_61 hS1 (wbB.nw hx0) (by omega) (by omega) (by omega) (by omega) (fun e2 F2 hS2 => ?_)
        refine t_150_53 ?_
        exact h2 z0 z1 z2 z3 c4 (by omega) (fun b hb => (F2 b (by omega)).trans (F1 b (by omega))) hS2
      · exact h3 z0 z1 z2 z3 c4
    · exact h4 z0 z1 z2 z3
  · exact h5 z0 z1
theorem k_151 {E : mO × tW} {K : tK} {d : mD} {x0 x1 : Int} (hS : Safe d) (hx0 : wbB x0) (p1 : -2147483648 ≤ x1 ∧ x1 ≤ 2147483647) (h0 : (x1 < 0) → K (.inr 1) d) (h1 : (0 ≤ x1) → (x1 < d (x0 + 1 + 49) 0) → (d (x0 + 1 + 49 + 5) x1 = 0) → (-1000 ≤ ((d (x0 + 1) 2) - (d (x0 + 1 + 49 + 3) x1)) ∧ ((d (x0 + 1) 2) - (d (x0 + 1 + 49 + 3) x1)) ≤ 1199) → (∀ b : Int, (b < x0 + 9 ∨ x0 + 10 < b) ∧ (b < x0 + 54 ∨ x0 + 55 < b) ∧ (b < x0 + 64 ∨ x0 + 64 < b) ∧ (b < x0 + 66 ∨ x0 + 569 < b) → (g_97 (x0 + 1 + 49) x1 2 (d (x0 + 1) 2) (g_41 (x0 + 1 + 2) (d (x0 + 1 + 49 + 2) x1) (v_39 (x0 + 1 + 2) (d (x0 + 1 + 49 + 2) x1) x1 (g_2 (x0 + 64) (x0 + 1) d)) (g_2 (x0 + 64) (x0 + 1) d))) b = d b) → Safe (g_97 (x0 + 1 + 49) x1 2 (d (x0 + 1) 2) (g_41 (x0 + 1 + 2) (d (x0 + 1 + 49 + 2) x1) (v_39 (x0 + 1 + 2) (d (x0 + 1 + 49 + 2) x1) x1 (g_2 (x0 + 64) (x0 + 1) d)) (g_2 (x0 + 64) (x0 + 1) d))) → K (.inl (some (0, (d (x0 + 1) 2) - (d (x0 + 1 + 49 + 3) x1)))) (g_97 (x0 + 1 + 49) x1 2 (d (x0 + 1) 2) (g_41 (x0 + 1 + 2) (d (x0 + 1 + 49 + 2) x1) (v_39 (x0 + 1 + 2) (d (x0 + 1 + 49 + 2) x1) x1 (g_2 (x0 + 64) (x0 + 1) d)) (g_2 (x0 + 64) (x0 + 1) d)))) (h2 : (0 ≤ x1) → (x1 < d (x0 + 1 + 49) 0) → (¬ d (x0 + 1 + 49 + 5) x1 = 0) → K (.inr 0) d) (h3 : (0 ≤ x1) → (d (x0 + 1 + 49) 0 ≤ x1) → K (.inr 1) d) : tCall E 151 [.inr (10, x0), .inl (0, x1)] d K := by
  refine t_151_0 ?_
  have w0 : x0 = 0 := hx0
  have w2 := r_6_f2 hS (wbB.nw hx0)
  have w3 := r_3_f0 hS (stB.of (wbB.nw hx0))
  have w4 := r_4_f0 hS (stB.pe (wbB.nw hx0))
  have w5 := r_8_f0 hS (stB.ti (wbB.nw hx0))
  have w6 := r_9_f0 hS (stB.to (wbB.nw hx0))
  have w7 := r_7_f1 hS (wbB.tx hx0)
  refine k_167 hS hx0 (m_inR (by omega) (by omega)) (fun z0 => ?_) (fun z0 z1 => ?_) (fun z0 z1 => ?_)
  · exact h0 z0
  · refine t_151_5 ?_
    have q1 := r_8_5 hS (stB.ti (wbB.nw hx0)) x1
    refine ⟨by omega, m_inR (by omega) (by omega), fun c2 => ?_, fun c2 => ?_⟩
    · refine k_2 hS (wbB.hi hx0) (wbB.nw hx0) (by omega) (fun F1 hS1 => ?_)
      refine t_151_42 ?_
      rw [F1 (x0 + 1 + 49 + 2) (by omega)]
      refine ⟨by omega, ?_⟩
      have q2 := r_8_2 hS (stB.ti (wbB.nw hx0)) x1
      refine k_39 hS1 (stB.of (wbB.nw hx0)) (by omega) (m_inR (by omega) (by omega)) (fun e1 => ?_)
      refine t_151_75 ?_
      refine k_41 hS1 (stB.of (wbB.nw hx0)) (by omega) (m_inR (by omega) (by omega)) (fun F2 hS2 => ?_)
      refine t_151_78 ?_
      rw [F2 (x0 + 1) (by omega)]
      rw [F1 (x0 + 1) (by omega)]
      have q3 := r_6_f2 hS (wbB.nw hx0)
      refine k_97 hS2 (stB.ti (wbB.nw hx0)) (by omega) (by omega) (by omega) (fun F3 hS3 => ?_)
      refine t_151_97 ?_
      rw [F3 (x0 + 1) (by omega)]
      rw [F2 (x0 + 1) (by omega)]
      rw [F1 (x0 + 1) (by omega)]
      rw [F3 (x0 + 1 + 49 + 3) (by omega)]
      rw [F2 (x0 + 1 + 49 + 3) (by omega)]
      rw [F1 (x0 + 1 + 49 + 3) (by omega)]
      have q4 := r_8_3 hS (stB.ti (wbB.nw hx0)) x1
      refine ⟨by omega, ?_⟩
      exact h1 z0 z1 c2 (by omega) (fun b hb => (F3 b (by omega)).trans ((F2 b (by omega)).trans (F1 b (by omega)))) hS3
    · exact h2 z0 z1 c2
  · exact h3 z0 z1
theorem k_152 {E : mO × tW} {K : tK} {d : mD} {x0 x1 : Int} (hS : Safe d) (hx0 : wbB x0) (p1 : -2147483648 ≤ x1 ∧ x1 ≤ 2147483647) (h0 : (x1 < 1) → K (.inr 2) d) (h1 : (1 ≤ x1) → (x1 ≤ (99 : Int)) → (¬ v_67 (x0 + 1) x1 d = 0) → (0 ≤ (v_68 (x0 + 1) x1 (g_2 (x0 + 64) (x0 + 1) d)) ∧ (v_68 (x0 + 1) x1 (g_2 (x0 + 64) (x0 + 1) d)) ≤ 4800) → (∀ b : Int, (b < x0 + 1 ∨ x0 + 1 < b) ∧ (b < x0 + 9 ∨ x0 + 10 < b) ∧ (b < x0 + 13 ∨ x0 + 16 < b) ∧ (b < x0 + 19 ∨ x0 + 49 < b) ∧ (b < x0 + 54 ∨ x0 + 55 < b) ∧ (b < x0 + 58 ∨ x0 + 64 < b) ∧ (b < x0 + 66 ∨ x0 + 569 < b) → (g_68 (x0 + 1) x1 (g_2 (x0 + 64) (x0 + 1) d)) b = d b) → Safe (g_68 (x0 + 1) x1 (g_2 (x0 + 64) (x0 + 1) d)) → K (.inl (some (0, v_68 (x0 + 1) x1 (g_2 (x0 + 64) (x0 + 1) d)))) (g_68 (x0 + 1) x1 (g_2 (x0 + 64) (x0 + 1) d))) (h2 : (1 ≤ x1) → (x1 ≤ (99 : Int)) → (v_67 (x0 + 1) x1 d = 0) → K (.inr 0) d) (h3 : (1 ≤ x1) → ((99 : Int) < x1) → K (.inr 2) d) : tCall E 152 [.inr (10, x0), .inl (0, x1)] d K := by
  refine t_152_0 ?_
  have w0 : x0 = 0 := hx0
  have w2 := r_6_f2 hS (wbB.nw hx0)
  have w3 := r_3_f0 hS (stB.of (wbB.nw hx0))
  have w4 := r_4_f0 hS (stB.pe (wbB.nw hx0))
  have w5 := r_8_f0 hS (stB.ti (wbB.nw hx0))
  have w6 := r_9_f0 hS (stB.to (wbB.nw hx0))
  have w7 := r_7_f1 hS (wbB.tx hx0)
  refine ⟨⟨m_inR (by omega) (by omega), m_inR (by omega) (by omega)⟩, fun c0 => ?_, fun c0 => ?_⟩
  · exact h0 c0
  · refine ⟨⟨m_inR (by omega) (by omega), m_inR (by omega) (by omega)⟩, fun c1 => ?_, fun c1 => ?_⟩
    · refine k_67 hS (wbB.nw hx0) (by omega) (fun e1 => ?_)
      refine t_152_30 ?_
      refine ⟨m_inR (by omega) (by omega), fun c2 => ?_, fun c2 => ?_⟩
      · refine k_2 hS (wbB.hi hx0) (wbB.nw hx0) (by omega) (fun F1 hS1 => ?_)
        refine t_152_55 ?_
        have q1 : (g_2 (x0 + 64) (x0 + 1) d) (x0 + 1) 2 = d (x0 + 1) 2 := congrFun (F1 (x0 + 1) (by omega)) 2
        refine k_68 hS1 (wbB.nw hx0) (by omega) (by omega) (by omega) (fun e2 F2 n2_0 hS2 => ?_)
        refine t_152_63 ?_
        exact h1 c0 c1 c2 (by omega) (fun b hb => (F2 b (by omega)).trans (F1 b (by omega))) hS2
      · exact h2 c0 c1 c2
    · exact h3 c0 c1
theorem k_153 {E : mO × tW} {K : tK} {d : mD} {x0 x1 : Int} (hS : Safe d) (hx0 : wbB x0) (p1 : -2147483648 ≤ x1 ∧ x1 ≤ 2147483647) (h0 : (x1 < 0) → K (.inr 1) d) (h1 : (0 ≤ x1) → (x1 < d (x0 + 1 + 49) 0) → (¬ v_73 (x0 + 1) x1 d = 0) → (0 ≤ (v_74 (x0 + 1) x1 (g_2 (x0 + 64) (x0 + 1) d)) ∧ (v_74 (x0 + 1) x1 (g_2 (x0 + 64) (x0 + 1) d)) ≤ 200) → (∀ b : Int, (b < x0 + 14 ∨ x0 + 14 < b) ∧ (b < x0 + 19 ∨ x0 + 49 < b) ∧ (b < x0 + 56 ∨ x0 + 56 < b) ∧ (b < x0 + 58 ∨ x0 + 62 < b) ∧ (b < x0 + 64 ∨ x0 + 64 < b) ∧ (b < x0 + 66 ∨ x0 + 569 < b) → (g_74 (x0 + 1) x1 (g_2 (x0 + 64) (x0 + 1) d)) b = d b) → Safe (g_74 (x0 + 1) x1 (g_2 (x0 + 64) (x0 + 1) d)) → K (.inl (some (0, v_74 (x0 + 1) x1 (g_2 (x0 + 64) (x0 + 1) d)))) (g_74 (x0 + 1) x1 (g_2 (x0 + 64) (x0 + 1) d))) (h2 : (0 ≤ x1) → (x1 < d (x0 + 1 + 49) 0) → (v_73 (x0 + 1) x1 d = 0) → K (.inr 0) d) (h3 : (0 ≤ x1) → (d (x0 + 1 + 49) 0 ≤ x1) → K (.inr 1) d) : tCall E 153 [.inr (10, x0), .inl (0, x1)] d K := by
  refine t_153_0 ?_
  have w0 : x0 = 0 := hx0
  have w2 := r_6_f2 hS (wbB.nw hx0)
  have w3 := r_3_f0 hS (stB.of (wbB.nw hx0))
  have w4 := r_4_f0 hS (stB.pe (wbB.nw hx0))
  have w5 := r_8_f0 hS (stB.ti (wbB.nw hx0))
  have w6 := r_9_f0 hS (stB.to (wbB.nw hx0))
  have w7 := r_7_f1 hS (wbB.tx hx0)
  refine k_167 hS hx0 (m_inR (by omega) (by omega)) (fun z0 => ?_) (fun z0 z1 => ?_) (fun z0 z1 => ?_)
  · exact h0 z0
  · refine t_153_5 ?_
    refine k_73 hS (wbB.nw hx0) (by omega) (fun e1 => ?_)
    refine t_153_13 ?_
    refine ⟨m_inR (by omega) (by omega), fun c2 => ?_, fun c2 => ?_⟩
    · refine k_2 hS (wbB.hi hx0) (wbB.nw hx0) (by omega) (fun F1 hS1 => ?_)
      refine t_153_38 ?_
      refine k_74 hS1 (wbB.nw hx0) (by omega) (fun e2 F2 hS2 => ?_)
      refine t_153_46 ?_
      exact h1 z0 z1 c2 (by omega) (fun b hb => (F2 b (by omega)).trans (F1 b (by omega))) hS2
    · exact h2 z0 z1 c2
  · exact h3 z0 z1
theorem k_154 {E : mO × tW} {K : tK} {d : mD} {x0 x1 x2 : Int} (hS : Safe d) (hx0 : wbB x0) (p1 : -2147483648 ≤ x1 ∧ x1 ≤ 2147483647) (p2 : -2147483648 ≤ x2 ∧ x2 ≤ 2147483647) (h0 : (x1 < 0) → K (.inr 1) d) (h1 : (0 ≤ x1) → (x1 < d (x0 + 1 + 49) 0) → (x2 < 0) → K (.inr 1) d) (h2 : (0 ≤ x1) → (x1 < d (x0 + 1 + 49) 0) → (0 ≤ x2) → (x2 < d (x0 + 1 + 10) 0) → (v_77 (x0 + 1) x1 x2 d = 0) → (0 ≤ (v_75 (x0 + 1) x1 x2 (g_2 (x0 + 64) (x0 + 1) d)) ∧ (v_75 (x0 + 1) x1 x2 (g_2 (x0 + 64) (x0 + 1) d)) ≤ 200) → (∀ b : Int, (b < x0 + 14 ∨ x0 + 16 < b) ∧ (b < x0 + 19 ∨ x0 + 49 < b) ∧ (b < x0 + 56 ∨ x0 + 62 < b) ∧ (b < x0 + 64 ∨ x0 + 64 < b) ∧ (b < x0 + 66 ∨ x0 + 569 < b) → (g_75 (x0 + 1) x1 x2 (g_2 (x0 + 64) (x0 + 1) d)) b = d b) → Safe (g_75 (x0 + 1) x1 x2 (g_2 (x0 + 64) (x0 + 1) d)) → K (.inl (some (0, v_75 (x0 + 1) x1 x2 (g_2 (x0 + 64) (x0 + 1) d)))) (g_75 (x0 + 1) x1 x2 (g_2 (x0 + 64) (x0 + 1) d))) (h3 : (0 ≤ x1) → (x1 < d (x0 + 1 + 49) 0) → (0 ≤ x2) → (x2 < d (x0 + 1 + 10) 0) → (¬ v_77 (x0 + 1) x1 x2 d = 0) → K (.inr 0) d) (h4 : (0 ≤ x1) → (x1 < d (x0 + 1 + 49) 0) → (0 ≤ x2) → (d (x0 + 1 + 10) 0 ≤ x2) → K (.inr 1) d) (h5 : (0 ≤ x1) → (d (x0 + 1 + 49) 0 ≤ x1) → K (.inr 1) d) : tCall E 154 [.inr (10, x0), .inl (0, x1), .inl (0, x2)] d K := by
  refine t_154_0 ?_
  have w0 : x0 = 0 := hx0
  have w2 := r_6_f2 hS (wbB.nw hx0)
  have w3 := r_3_f0 hS (stB.of (wbB.nw hx0))
  have w4 := r_4_f0 hS (stB.pe (wbB.nw hx0))
  have w5 := r_8_f0 hS (stB.ti (wbB.nw hx0))
  have w6 := r_9_f0 hS (stB.to (wbB.nw hx0))
  have w7 := r_7_f1 hS (wbB.tx hx0)
  refine k_167 hS hx0 (m_inR (by omega) (by omega)) (fun z0 => ?_) (fun z0 z1 => ?_) (fun z0 z1 => ?_)
  · exact h0 z0
  · refine t_154_5 ?_
    refine k_166 hS hx0 (m_inR (by omega) (by omega)) (fun z2 => ?_) (fun z2 z3 => ?_) (fun z2 z3 => ?_)
    · exact h1 z0 z1 z2
    · refine t_154_10 ?_
      refine k_77 hS (wbB.nw hx0) (by omega) (by omega) (fun e1 => ?_)
      refine t_154_19 ?_
      refine ⟨m_inR (by omega) (by omega), fun c4 => ?_, fun c4 => ?_⟩
      · refine k_2 hS (wbB.hi hx0) (wbB.nw hx0) (by omega) (fun F1 hS1 => ?_)
        refine t_154_44 ?_
        have q1 : (g_2 (x0 + 64) (x0 + 1) d) (x0 + 1 + 10 + 4) x2 = d (x0 + 1 + 10 + 4) x2 := congrFun (F1 (x0 + 1 + 10 + 4) (by omega)) x2
        refine k_75 hS1 (wbB.nw hx0) (by omega) (by omega) (by omega) (fun e2 F2 hS2 => ?_)
        refine t_154_53 ?_
        exact h2 z0 z1 z2 z3 c4 (by omega) (fun b hb => (F2 b (by omega)).trans (F1 b (by omega))) hS2
      · exact h3 z0 z1 z2 z3 c4
    · exact h4 z0 z1 z2 z3
  · exact h5 z0 z1
theorem k_155 {E : mO × tW} {K : tK} {d : mD} {x0 x1 x2 x3 : Int} (hS : Safe d) (hx0 : wbB x0) (p1 : -2147483648 ≤ x1 ∧ x1 ≤ 2147483647) (p2 : -2147483648 ≤ x2 ∧ x2 ≤ 2147483647) (p3 : -2147483648 ≤ x3 ∧ x3 ≤ 2147483647) (h0 : (x1 < 0) → K (.inr 1) d) (h1 : (0 ≤ x1) → (x1 < d (x0 + 1 + 10) 0) → (x2 < 0) → K (.inr 1) d) (h2 : (0 ≤ x1) → (x1 < d (x0 + 1 + 10) 0) → (0 ≤ x2) → (x2 < d (x0 + 1 + 10) 0) → (x3 < 1) → K (.inr 2) d) (h3 : (0 ≤ x1) → (x1 < d (x0 + 1 + 10) 0) → (0 ≤ x2) → (x2 < d (x0 + 1 + 10) 0) → (1 ≤ x3) → (x3 ≤ (200 : Int)) → (x1 = x2) → K (.inr 0) d) (h4 : (0 ≤ x1) → (x1 < d (x0 + 1 + 10) 0) → (0 ≤ x2) → (x2 < d (x0 + 1 + 10) 0) → (1 ≤ x3) → (x3 ≤ (200 : Int)) → (¬ x1 = x2) → (x3 ≤ v_111 (x0 + 1 + 57) x1 0 d) → (0 ≤ (v_111 (x0 + 1 + 57) x2 0 (g_114 (x0 + 1 + 57) x1 x2 x3 (g_2 (x0 + 64) (x0 + 1) d))) ∧ (v_111 (x0 + 1 + 57) x2 0 (g_114 (x0 + 1 + 57) x1 x2 x3 (g_2 (x0 + 64) (x0 + 1) d))) ≤ 200) → (∀ b : Int, (b < x0 + 59 ∨ x0 + 59 < b) ∧ (b < x0 + 64 ∨ x0 + 64 < b) ∧ (b < x0 + 66 ∨ x0 + 569 < b) → (g_114 (x0 + 1 + 57) x1 x2 x3 (g_2 (x0 + 64) (x0 + 1) d)) b = d b) → Safe (g_114 (x0 + 1 + 57) x1 x2 x3 (g_2 (x0 + 64) (x0 + 1) d)) → K (.inl (some (0, v_111 (x0 + 1 + 57) x2 0 (g_114 (x0 + 1 + 57) x1 x2 x3 (g_2 (x0 + 64) (x0 + 1) d))))) (g_114 (x0 + 1 + 57) x1 x2 x3 (g_2 (x0 + 64) (x0 + 1) d))) (h5 : (0 ≤ x1) → (x1 < d (x0 + 1 + 10) 0) → (0 ≤ x2) → (x2 < d (x0 + 1 + 10) 0) → (1 ≤ x3) → (x3 ≤ (200 : Int)) → (¬ x1 = x2) → (v_111 (x0 + 1 + 57) x1 0 d < x3) → K (.inr 0) d) (h6 : (0 ≤ x1) → (x1 < d (x0 + 1 + 10) 0) → (0 ≤ x2) → (x2 < d (x0 + 1 + 10) 0) → (1 ≤ x3) → ((200 : Int) < x3) → K (.inr 2) d) (h7 : (0 ≤ x1) → (x1 < d (x0 + 1 + 10) 0) → (0 ≤ x2) → (d (x0 + 1 + 10) 0 ≤ x2) → K (.inr 1) d) (h8 : (0 ≤ x1) → (d (x0 + 1 + 10) 0 ≤ x1) → K (.inr 1) d) : tCall E 155 [.inr (10, x0), .inl (0, x1), .inl (0, x2), .inl (0, x3)] d K := by
  refine t_155_0 ?_
  have w0 : x0 = 0 := hx0
  have w2 := r_6_f2 hS (wbB.nw hx0)
  have w3 := r_3_f0 hS (stB.of (wbB.nw hx0))
  have w4 := r_4_f0 hS (stB.pe (wbB.nw hx0))
  have w5 := r_8_f0 hS (stB.ti (wbB.nw hx0))
  have w6 := r_9_f0 hS (stB.to (wbB.nw hx0))
  have w7 := r_7_f1 hS (wbB.tx hx0)
  refine k_166 hS hx0 (m_inR (by omega) (by omega)) (fun z0 => ?_) (fun z0 z1 => ?_) (fun z0 z1 => ?_)
  · exact h0 z0
  · refine t_155_5 ?_
    refine k_166 hS hx0 (m_inR (by omega) (by omega)) (fun z2 => ?_) (fun z2 z3 => ?_) (fun z2 z3 => ?_)
    · exact h1 z0 z1 z2
    · refine t_155_10 ?_
      refine k_171 hS hx0 (m_inR (by omega) (by omega)) (fun z4 => ?_) (fun z4 z5 => ?_) (fun z4 z5 => ?_)
      · exact h2 z0 z1 z2 z3 z4
      · refine t_155_15 ?_
        refine ⟨⟨m_inR (by omega) (by omega), m_inR (by omega) (by omega)⟩, fun c6 => ?_, fun c6 => ?_⟩
        · exact h3 z0 z1 z2 z3 z4 z5 c6
        · refine k_111 hS (stB.to (wbB.nw hx0)) (m_inR (by omega) (by omega)) (m_inR (by omega) (by omega)) (fun e1 => ?_)
          refine t_155_32 ?_
          refine ⟨⟨m_inR (by omega) (by omega), m_inR (by omega) (by omega)⟩, fun c7 => ?_, fun c7 => ?_⟩
          · refine k_2 hS (wbB.hi hx0) (wbB.nw hx0) (by omega) (fun F1 hS1 => ?_)
            refine t_155_58 ?_
            refine k_114 hS1 (stB.to (wbB.nw hx0)) (by omega) (by omega) (by omega) (fun F2 hS2 => ?_)
            refine t_155_71 ?_
            refine k_111 hS2 (stB.to (wbB.nw hx0)) (m_inR (by omega) (by omega)) (m_inR (by omega) (by omega)) (fun e2 => ?_)
            refine t_155_83 ?_
            exact h4 z0 z1 z2 z3 z4 z5 c6 c7 (by omega) (fun b hb => (F2 b (by omega)).trans (F1 b (by omega))) hS2
          · exact h5 z0 z1 z2 z3 z4 z5 c6 c7
      · exact h6 z0 z1 z2 z3 z4 z5
    · exact h7 z0 z1 z2 z3
  · exact h8 z0 z1
theorem k_156 {E : mO × tW} {K : tK} {d : mD} {x0 x1 x2 : Int} (hS : Safe d) (hx0 : wbB x0) (p1 : -2147483648 ≤ x1 ∧ x1 ≤ 2147483647) (p2 : -2147483648 ≤ x2 ∧ x2 ≤ 2147483647) (h0 : (x1 < 0) → K (.inr 1) d) (h1 : (0 ≤ x1) → (x1 < d (x0 + 1 + 10) 0) → (x2 < 1) → K (.inr 2) d) (h2 : (0 ≤ x1) → (x1 < d (x0 + 1 + 10) 0) → (1 ≤ x2) → (x2 ≤ (200 : Int)) → (x2 ≤ v_111 (x0 + 1 + 57) x1 0 d) → (0 ≤ (v_82 (x0 + 1) (g_115 (x0 + 1 + 57) x1 x2 (g_2 (x0 + 64) (x0 + 1) d))) ∧ (v_82 (x0 + 1) (g_115 (x0 + 1 + 57) x1 x2 (g_2 (x0 + 64) (x0 + 1) d))) ≤ 200) → (∀ b : Int, (b < x0 + 1 ∨ x0 + 1 < b) ∧ (b < x0 + 13 ∨ x0 + 13 < b) ∧ (b < x0 + 58 ∨ x0 + 58 < b) ∧ (b < x0 + 62 ∨ x0 + 64 < b) ∧ (b < x0 + 66 ∨ x0 + 569 < b) → (g_82 (x0 + 1) (g_115 (x0 + 1 + 57) x1 x2 (g_2 (x0 + 64) (x0 + 1) d))) b = d b) → Safe (g_82 (x0 + 1) (g_115 (x0 + 1 + 57) x1 x2 (g_2 (x0 + 64) (x0 + 1) d))) → K (.inl (some (0, v_82 (x0 + 1) (g_115 (x0 + 1 + 57) x1 x2 (g_2 (x0 + 64) (x0 + 1) d))))) (g_82 (x0 + 1) (g_115 (x0 + 1 + 57) x1 x2 (g_2 (x0 + 64) (x0 + 1) d)))) (h3 : (0 ≤ x1) → (x1 < d (x0 + 1 + 10) 0) → (1 ≤ x2) → (x2 ≤ (200 : Int)) → (v_111 (x0 + 1 + 57) x1 0 d < x2) → K (.inr 0) d) (h4 : (0 ≤ x1) → (x1 < d (x0 + 1 + 10) 0) → (1 ≤ x2) → ((200 : Int) < x2) → K (.inr 2) d) (h5 : (0 ≤ x1) → (d (x0 + 1 + 10) 0 ≤ x1) → K (.inr 1) d) : tCall E 156 [.inr (10, x0), .inl (0, x1), .inl (0, x2)] d K := by
  refine t_156_0 ?_
  have w0 : x0 = 0 := hx0
  have w2 := r_6_f2 hS (wbB.nw hx0)
  have w3 := r_3_f0 hS (stB.of (wbB.nw hx0))
  have w4 := r_4_f0 hS (stB.pe (wbB.nw hx0))
  have w5 := r_8_f0 hS (stB.ti (wbB.nw hx0))
  have w6 := r_9_f0 hS (stB.to (wbB.nw hx0))
  have w7 := r_7_f1 hS (wbB.tx hx0)
  refine k_166 hS hx0 (m_inR (by omega) (by omega)) (fun z0 => ?_) (fun z0 z1 => ?_) (fun z0 z1 => ?_)
  · exact h0 z0
  · refine t_156_5 ?_
    refine k_171 hS hx0 (m_inR (by omega) (by omega)) (fun z2 => ?_) (fun z2 z3 => ?_) (fun z2 z3 => ?_)
    · exact h1 z0 z1 z2
    · refine t_156_10 ?_
      refine k_111 hS (stB.to (wbB.nw hx0)) (m_inR (by omega) (by omega)) (m_inR (by omega) (by omega)) (fun e1 => ?_)
      refine t_156_22 ?_
      refine ⟨⟨m_inR (by omega) (by omega), m_inR (by omega) (by omega)⟩, fun c4 => ?_, fun c4 => ?_⟩
      · refine k_2 hS (wbB.hi hx0) (wbB.nw hx0) (by omega) (fun F1 hS1 => ?_)
        refine t_156_48 ?_
        refine k_115 hS1 (stB.to (wbB.nw hx0)) (by omega) (by omega) (fun F2 hS2 => ?_)
        refine t_156_60 ?_
        refine k_82 hS2 (wbB.nw hx0) (fun e2 F3 k3_0 hS3 => ?_)
        refine t_156_67 ?_
        exact h2 z0 z1 z2 z3 c4 (by omega) (fun b hb => (F3 b (by omega)).trans ((F2 b (by omega)).trans (F1 b (by omega)))) hS3
      · exact h3 z0 z1 z2 z3 c4
    · exact h4 z0 z1 z2 z3
  · exact h5 z0 z1
theorem k_157 {E : mO × tW} {K : tK} {d : mD} {x0 x1 : Int} (hS : Safe d) (hx0 : wbB x0) (p1 : -2147483648 ≤ x1 ∧ x1 ≤ 2147483647) (h0 : (x1 < 1) → K (.inr 2) d) (h1 : (1 ≤ x1) → (x1 ≤ (9999 : Int)) → ((d (x0 + 1) 1) + x1 ≤ (99999 : Int)) → (0 ≤ ((g_82 (x0 + 1) (mset (g_2 (x0 + 64) (x0 + 1) d) (x0 + 1) 1 ((d (x0 + 1) 1) + x1))) (x0 + 1) 1) ∧ ((g_82 (x0 + 1) (mset (g_2 (x0 + 64) (x0 + 1) d) (x0 + 1) 1 ((d (x0 + 1) 1) + x1))) (x0 + 1) 1) ≤ 99999) → (∀ b : Int, (b < x0 + 1 ∨ x0 + 1 < b) ∧ (b < x0 + 13 ∨ x0 + 13 < b) ∧ (b < x0 + 58 ∨ x0 + 58 < b) ∧ (b < x0 + 62 ∨ x0 + 64 < b) ∧ (b < x0 + 66 ∨ x0 + 569 < b) → (g_82 (x0 + 1) (mset (g_2 (x0 + 64) (x0 + 1) d) (x0 + 1) 1 ((d (x0 + 1) 1) + x1))) b = d b) → Safe (g_82 (x0 + 1) (mset (g_2 (x0 + 64) (x0 + 1) d) (x0 + 1) 1 ((d (x0 + 1) 1) + x1))) → K (.inl (some (0, (g_82 (x0 + 1) (mset (g_2 (x0 + 64) (x0 + 1) d) (x0 + 1) 1 ((d (x0 + 1) 1) + x1))) (x0 + 1) 1))) (g_82 (x0 + 1) (mset (g_2 (x0 + 64) (x0 + 1) d) (x0 + 1) 1 ((d (x0 + 1) 1) + x1)))) (h2 : (1 ≤ x1) → (x1 ≤ (9999 : Int)) → ((99999 : Int) < (d (x0 + 1) 1) + x1) → K (.inr 0) d) (h3 : (1 ≤ x1) → ((9999 : Int) < x1) → K (.inr 2) d) : tCall E 157 [.inr (10, x0), .inl (0, x1)] d K := by
  refine t_157_0 ?_
  have w0 : x0 = 0 := hx0
  have w2 := r_6_f2 hS (wbB.nw hx0)
  have w3 := r_3_f0 hS (stB.of (wbB.nw hx0))
  have w4 := r_4_f0 hS (stB.pe (wbB.nw hx0))
  have w5 := r_8_f0 hS (stB.ti (wbB.nw hx0))
  have w6 := r_9_f0 hS (stB.to (wbB.nw hx0))
  have w7 := r_7_f1 hS (wbB.tx hx0)
  refine ⟨⟨m_inR (by omega) (by omega), m_inR (by omega) (by omega)⟩, fun c0 => ?_, fun c0 => ?_⟩
  · exact h0 c0
  · refine ⟨⟨m_inR (by omega) (by omega), m_inR (by omega) (by omega)⟩, fun c1 => ?_, fun c1 => ?_⟩
    · have q1 := r_6_f1 hS (wbB.nw hx0)
      refine ⟨⟨m_inR (by omega) (by omega), m_inR (by omega) (by omega)⟩, fun c2 => ?_, fun c2 => ?_⟩
      · refine k_2 hS (wbB.hi hx0) (wbB.nw hx0) (by omega) (fun F1 hS1 => ?_)
        refine t_157_60 ?_
        rw [F1 (x0 + 1) (by omega)]
        have hS2 : Safe (mset (g_2 (x0 + 64) (x0 + 1) d) (x0 + 1) 1 ((d (x0 + 1) 1) + x1)) := s_6_f1 hS1 (wbB.nw hx0) (by omega)
        refine k_82 hS2 (wbB.nw hx0) (fun e1 F2 k2_0 hS3 => ?_)
        refine t_157_80 ?_
        have q2 := r_6_f1 hS3 (wbB.nw hx0)
        exact h1 c0 c1 c2 (by omega) (fun b hb => (F2 b (by omega)).trans ((mset_ne (by omega)).trans (F1 b (by omega)))) hS3
      · exact h2 c0 c1 c2
    · exact h3 c0 c1
theorem k_158 {E : mO × tW} {K : tK} {d : mD} {x0 x1 x2 : Int} (hS : Safe d) (hx0 : wbB x0) (p1 : -2147483648 ≤ x1 ∧ x1 ≤ 2147483647) (p2 : -2147483648 ≤ x2 ∧ x2 ≤ 2147483647) (h0 : (x1 < 0) → K (.inr 1) d) (h1 : (0 ≤ x1) → (x1 < d (x0 + 1 + 2) 0) → (x2 < 0) → K (.inr 1) d) (h2 : (0 ≤ x1) → (x1 < d (x0 + 1 + 2) 0) → (0 ≤ x2) → (x2 < d (x0 + 1 + 2) 0) → (x1 = x2) → K (.inr 0) d) (h3 : (0 ≤ x1) → (x1 < d (x0 + 1 + 2) 0) → (0 ≤ x2) → (x2 < d (x0 + 1 + 2) 0) → (¬ x1 = x2) → (d (x0 + 1 + 2 + 5) x1 = 0) → K (.inr 0) d) (h4 : (0 ≤ x1) → (x1 < d (x0 + 1 + 2) 0) → (0 ≤ x2) → (x2 < d (x0 + 1 + 2) 0) → (¬ x1 = x2) → (¬ d (x0 + 1 + 2 + 5) x1 = 0) → (¬ d (x0 + 1 + 2 + 5) x2 = 0) → (0 ≤ ((g_63 (x0 + 1) x1 x2 (g_2 (x0 + 64) (x0 + 1) d)) (x0 + 1 + 2 + 6) x2) ∧ ((g_63 (x0 + 1) x1 x2 (g_2 (x0 + 64) (x0 + 1) d)) (x0 + 1 + 2 + 6) x2) ≤ 16) → (∀ b : Int, (b < x0 + 8 ∨ x0 + 10 < b) ∧ (b < x0 + 52 ∨ x0 + 52 < b) ∧ (b < x0 + 54 ∨ x0 + 55 < b) ∧ (b < x0 + 64 ∨ x0 + 64 < b) ∧ (b < x0 + 66 ∨ x0 + 569 < b) → (g_63 (x0 + 1) x1 x2 (g_2 (x0 + 64) (x0 + 1) d)) b = d b) → Safe (g_63 (x0 + 1) x1 x2 (g_2 (x0 + 64) (x0 + 1) d)) → K (.inl (some (0, (g_63 (x0 + 1) x1 x2 (g_2 (x0 + 64) (x0 + 1) d)) (x0 + 1 + 2 + 6) x2))) (g_63 (x0 + 1) x1 x2 (g_2 (x0 + 64) (x0 + 1) d))) (h5 : (0 ≤ x1) → (x1 < d (x0 + 1 + 2) 0) → (0 ≤ x2) → (x2 < d (x0 + 1 + 2) 0) → (¬ x1 = x2) → (¬ d (x0 + 1 + 2 + 5) x1 = 0) → (d (x0 + 1 + 2 + 5) x2 = 0) → K (.inr 0) d) (h6 : (0 ≤ x1) → (x1 < d (x0 + 1 + 2) 0) → (0 ≤ x2) → (d (x0 + 1 + 2) 0 ≤ x2) → K (.inr 1) d) (h7 : (0 ≤ x1) → (d (x0 + 1 + 2) 0 ≤ x1) → K (.inr 1) d) : tCall E 158 [.inr (10, x0), .inl (0, x1), .inl (0, x2)] d K := by
  refine t_158_0 ?_
  have w0 : x0 = 0 := hx0
  have w2 := r_6_f2 hS (wbB.nw hx0)
  have w3 := r_3_f0 hS (stB.of (wbB.nw hx0))
  have w4 := r_4_f0 hS (stB.pe (wbB.nw hx0))
  have w5 := r_8_f0 hS (stB.ti (wbB.nw hx0))
  have w6 := r_9_f0 hS (stB.to (wbB.nw hx0))
  have w7 := r_7_f1 hS (wbB.tx hx0)
  refine k_172 hS hx0 (m_inR (by omega) (by omega)) (m_inR (by omega) (by omega)) (fun z0 => ?_) (fun z0 z1 z2 => ?_) (fun z0 z1 z2 z3 z4 => ?_) (fun z0 z1 z2 z3 z4 z5 => ?_) (fun z0 z1 z2 z3 z4 z5 z6 => ?_) (fun z0 z1 z2 z3 z4 z5 z6 => ?_) (fun z0 z1 z2 z3 => ?_) (fun z0 z1 => ?_)
  · exact h0 z0
  · exact h1 z0 z1 z2
  · exact h2 z0 z1 z2 z3 z4
  · exact h3 z0 z1 z2 z3 z4 z5
  · refine t_158_6 ?_
    refine k_2 hS (wbB.hi hx0) (wbB.nw hx0) (by omega) (fun F1 hS1 => ?_)
    refine t_158_17 ?_
    refine k_63 hS1 (wbB.nw hx0) (by omega) (by omega) (fun F2 hS2 => ?_)
    refine t_158_26 ?_
    have q1 := r_3_6 hS2 (stB.of (wbB.nw hx0)) x2
    refine ⟨by omega, ?_⟩
    exact h4 z0 z1 z2 z3 z4 z5 z6 (by omega) (fun b hb => (F2 b (by omega)).trans (F1 b (by omega))) hS2
  · exact h5 z0 z1 z2 z3 z4 z5 z6
  · exact h6 z0 z1 z2 z3
  · exact h7 z0 z1
theorem k_159 {E : mO × tW} {K : tK} {d : mD} {x0 x1 : Int} (hS : Safe d) (hx0 : wbB x0) (p1 : -2147483648 ≤ x1 ∧ x1 ≤ 2147483647) (h0 : (x1 < 0) → K (.inr 1) d) (h1 : (0 ≤ x1) → (x1 < d (x0 + 1 + 2) 0) → (d (x0 + 1 + 2 + 5) x1 = 0) → (0 ≤ (v_37 (x0 + 1 + 2) (mset (g_2 (x0 + 64) (x0 + 1) d) (x0 + 1 + 2 + 5) x1 1)) ∧ (v_37 (x0 + 1 + 2) (mset (g_2 (x0 + 64) (x0 + 1) d) (x0 + 1 + 2 + 5) x1 1)) ≤ 6) → (∀ b : Int, (b < x0 + 8 ∨ x0 + 8 < b) ∧ (b < x0 + 64 ∨ x0 + 64 < b) ∧ (b < x0 + 66 ∨ x0 + 569 < b) → (mset (g_2 (x0 + 64) (x0 + 1) d) (x0 + 1 + 2 + 5) x1 1) b = d b) → Safe (mset (g_2 (x0 + 64) (x0 + 1) d) (x0 + 1 + 2 + 5) x1 1) → K (.inl (some (0, v_37 (x0 + 1 + 2) (mset (g_2 (x0 + 64) (x0 + 1) d) (x0 + 1 + 2 + 5) x1 1)))) (mset (g_2 (x0 + 64) (x0 + 1) d) (x0 + 1 + 2 + 5) x1 1)) (h2 : (0 ≤ x1) → (x1 < d (x0 + 1 + 2) 0) → (¬ d (x0 + 1 + 2 + 5) x1 = 0) → K (.inr 0) d) (h3 : (0 ≤ x1) → (d (x0 + 1 + 2) 0 ≤ x1) → K (.inr 1) d) : tCall E 159 [.inr (10, x0), .inl (0, x1)] d K := by
  refine t_159_0 ?_
  have w0 : x0 = 0 := hx0
  have w2 := r_6_f2 hS (wbB.nw hx0)
  have w3 := r_3_f0 hS (stB.of (wbB.nw hx0))
  have w4 := r_4_f0 hS (stB.pe (wbB.nw hx0))
  have w5 := r_8_f0 hS (stB.ti (wbB.nw hx0))
  have w6 := r_9_f0 hS (stB.to (wbB.nw hx0))
  have w7 := r_7_f1 hS (wbB.tx hx0)
  refine k_165 hS hx0 (m_inR (by omega) (by omega)) (fun z0 => ?_) (fun z0 z1 => ?_) (fun z0 z1 => ?_)
  · exact h0 z0
  · refine t_159_5 ?_
    have q1 := r_3_5 hS (stB.of (wbB.nw hx0)) x1
    refine ⟨by omega, m_inR (by omega) (by omega), fun c2 => ?_, fun c2 => ?_⟩
    · refine k_2 hS (wbB.hi hx0) (wbB.nw hx0) (by omega) (fun F1 hS1 => ?_)
      refine t_159_42 ?_
      refine ⟨by omega, ?_⟩
      have hS2 : Safe (mset (g_2 (x0 + 64) (x0 + 1) d) (x0 + 1 + 2 + 5) x1 1) := s_3_5 hS1 (stB.of (wbB.nw hx0)) (by omega)
      refine k_37 hS2 (stB.of (wbB.nw hx0)) (fun e1 => ?_)
      refine t_159_65 ?_
      exact h1 z0 z1 c2 (by omega) (fun b hb => (mset_ne (by omega)).trans (F1 b (by omega))) hS2
    · exact h2 z0 z1 c2
  · exact h3 z0 z1
theorem k_160 {E : mO × tW} {K : tK} {d : mD} {x0 : Int} (hS : Safe d) (hx0 : wbB x0) (h0 : (¬ v_93 (x0 + 578) 0 (d (x0 + 578) 1) d = (-1)) → (16 ≤ d (x0 + 1 + 10) 0) → (∀ b : Int, (b < x0 + 11 ∨ x0 + 16 < b) ∧ (b < x0 + 19 ∨ x0 + 49 < b) ∧ (b < x0 + 64 ∨ x0 + 64 < b) ∧ (b < x0 + 66 ∨ x0 + 569 < b) ∧ (b < x0 + 578 ∨ x0 + 578 < b) → (mset d (x0 + 578) 1 0) b = d b) → Safe (mset d (x0 + 578) 1 0) → K (.inr 0) (mset d (x0 + 578) 1 0)) (h1 : (¬ v_93 (x0 + 578) 0 (d (x0 + 578) 1) d = (-1)) → (d (x0 + 1 + 10) 0 < 16) → (v_48 (x0 + 1 + 10) (v_93 (x0 + 578) 0 (d (x0 + 578) 1) d) (mset d (x0 + 578) 1 0) = (-1)) → (-1 ≤ (((g_47 (x0 + 1 + 10) (v_93 (x0 + 578) 0 (d (x0 + 578) 1) d) (g_2 (x0 + 64) (x0 + 1) (mset d (x0 + 578) 1 0))) (x0 + 1 + 10) 0) - 1) ∧ (((g_47 (x0 + 1 + 10) (v_93 (x0 + 578) 0 (d (x0 + 578) 1) d) (g_2 (x0 + 64) (x0 + 1) (mset d (x0 + 578) 1 0))) (x0 + 1 + 10) 0) - 1) ≤ 16) → (∀ b : Int, (b < x0 + 11 ∨ x0 + 16 < b) ∧ (b < x0 + 19 ∨ x0 + 49 < b) ∧ (b < x0 + 64 ∨ x0 + 64 < b) ∧ (b < x0 + 66 ∨ x0 + 569 < b) ∧ (b < x0 + 578 ∨ x0 + 578 < b) → (g_47 (x0 + 1 + 10) (v_93 (x0 + 578) 0 (d (x0 + 578) 1) d) (g_2 (x0 + 64) (x0 + 1) (mset d (x0 + 578) 1 0))) b = d b) → Safe (g_47 (x0 + 1 + 10) (v_93 (x0 + 578) 0 (d (x0 + 578) 1) d) (g_2 (x0 + 64) (x0 + 1) (mset d (x0 + 578) 1 0))) → K (.inl (some (0, ((g_47 (x0 + 1 + 10) (v_93 (x0 + 578) 0 (d (x0 + 578) 1) d) (g_2 (x0 + 64) (x0 + 1) (mset d (x0 + 578) 1 0))) (x0 + 1 + 10) 0) - 1))) (g_47 (x0 + 1 + 10) (v_93 (x0 + 578) 0 (d (x0 + 578) 1) d) (g_2 (x0 + 64) (x0 + 1) (mset d (x0 + 578) 1 0)))) (h2 : (¬ v_93 (x0 + 578) 0 (d (x0 + 578) 1) d = (-1)) → (d (x0 + 1 + 10) 0 < 16) → (¬ v_48 (x0 + 1 + 10) (v_93 (x0 + 578) 0 (d (x0 + 578) 1) d) (mset d (x0 + 578) 1 0) = (-1)) → (∀ b : Int, (b < x0 + 11 ∨ x0 + 16 < b) ∧ (b < x0 + 19 ∨ x0 + 49 < b) ∧ (b < x0 + 64 ∨ x0 + 64 < b) ∧ (b < x0 + 66 ∨ x0 + 569 < b) ∧ (b < x0 + 578 ∨ x0 + 578 < b) → (mset d (x0 + 578) 1 0) b = d b) → Safe (mset d (x0 + 578) 1 0) → K (.inr 0) (mset d (x0 + 578) 1 0)) (h3 : (v_93 (x0 + 578) 0 (d (x0 + 578) 1) d = (-1)) → (∀ b : Int, (b < x0 + 11 ∨ x0 + 16 < b) ∧ (b < x0 + 19 ∨ x0 + 49 < b) ∧ (b < x0 + 64 ∨ x0 + 64 < b) ∧ (b < x0 + 66 ∨ x0 + 569 < b) ∧ (b < x0 + 578 ∨ x0 + 578 < b) → (mset d (x0 + 578) 1 0) b = d b) → Safe (mset d (x0 + 578) 1 0) → K (.inr 2) (mset d (x0 + 578) 1 0)) : tCall E 160 [.inr (10, x0)] d K := by
  refine t_160_0 ?_
  have w0 : x0 = 0 := hx0
  have w2 := r_6_f2 hS (wbB.nw hx0)
  have w3 := r_3_f0 hS (stB.of (wbB.nw hx0))
  have w4 := r_4_f0 hS (stB.pe (wbB.nw hx0))
  have w5 := r_8_f0 hS (stB.ti (wbB.nw hx0))
  have w6 := r_9_f0 hS (stB.to (wbB.nw hx0))
  have w7 := r_7_f1 hS (wbB.tx hx0)
  have q1 := r_7_f1 hS (wbB.tx hx0)
  refine k_93 hS (wbB.tx hx0) (by omega) (by omega) (fun e1 => ?_)
  refine t_160_15 ?_
  have hS1 : Safe (mset d (x0 + 578) 1 0) := s_7_f1 hS (wbB.tx hx0) (by omega)
  refine ⟨⟨m_inR (by omega) (by omega), m_inR (by omega) (by omega)⟩, fun c0 => ?_, fun c0 => ?_⟩
  · rw [mset_ni (d := d) (a := x0 + 578) (i := (1 : Int)) (v := (0 : Int)) (b := x0 + 1 + 10) (j := (0 : Int)) (by omega)]
    have q2 := r_4_f0 hS (stB.pe (wbB.nw hx0))
    refine ⟨⟨m_inR (by omega) (by omega), m_inR (by omega) (by omega)⟩, fun c1 => ?_, fun c1 => ?_⟩
    · exact h0 c0 c1 (fun b hb => mset_ne (by omega)) hS1
    · refine k_48 hS1 (stB.pe (wbB.nw hx0)) (m_inR (by omega) (by omega)) (fun e2 => ?_)
      refine t_160_66 ?_
      refine ⟨⟨m_inR (by omega) (by omega), m_inR (by omega) (by omega)⟩, fun c2 => ?_, fun c2 => ?_⟩
      · have q3 : (mset d (x0 + 578) 1 0) (x0 + 1) 2 = d (x0 + 1) 2 := congrFun (mset_ne (by omega)) 2
        refine k_2 hS1 (wbB.hi hx0) (wbB.nw hx0) (by omega) (fun F1 hS2 => ?_)
        refine t_160_92 ?_
        refine k_47 hS2 (stB.pe (wbB.nw hx0)) (by omega) (fun F2 hS3 => ?_)
        refine t_160_103 ?_
        have q4 := r_4_f0 hS3 (stB.pe (wbB.nw hx0))
        exact h1 c0 c1 c2 (by omega) (fun b hb => (F2 b (by omega)).trans ((F1 b (by omega)).trans (mset_ne (by omega)))) hS3
      · exact h2 c0 c1 c2 (fun b hb => mset_ne (by omega)) hS1
  · exact h3 c0 (fun b hb => mset_ne (by omega)) hS1
theorem k_161 {E : mO × tW} {K : tK} {d : mD} {x0 x1 x2 : Int} (hE : EOK E) (hS : Safe d) (hx0 : wbB x0) (p1 : -2147483648 ≤ x1 ∧ x1 ≤ 2147483647) (p2 : -2147483648 ≤ x2 ∧ x2 ≤ 2147483647) (h0 : (x1 < 0) → K (.inr 2) d) (h1 : (0 ≤ x1) → (x1 < 5) → (x2 < E.1.2 0 x1) → K (.inr 2) d) (h2 : (0 ≤ x1) → (x1 < 5) → (E.1.2 0 x1 ≤ x2) → (x2 ≤ E.1.2 1 x1) → (0 ≤ (d (x0 + 1 + 1) x1) ∧ (d (x0 + 1 + 1) x1) ≤ 99) → (∀ b : Int, (b < x0 + 2 ∨ x0 + 2 < b) ∧ (b < x0 + 64 ∨ x0 + 64 < b) ∧ (b < x0 + 66 ∨ x0 + 569 < b) → (mset (g_2 (x0 + 64) (x0 + 1) d) (x0 + 1 + 1) x1 x2) b = d b) → Safe (mset (g_2 (x0 + 64) (x0 + 1) d) (x0 + 1 + 1) x1 x2) → K (.inl (some (0, d (x0 + 1 + 1) x1))) (mset (g_2 (x0 + 64) (x0 + 1) d) (x0 + 1 + 1) x1 x2)) (h3 : (0 ≤ x1) → (x1 < 5) → (E.1.2 0 x1 ≤ x2) → (E.1.2 1 x1 < x2) → K (.inr 2) d) (h4 : (0 ≤ x1) → (5 ≤ x1) → K (.inr 2) d) : tCall E 161 [.inr (10, x0), .inl (0, x1), .inl (0, x2)] d K := by
  refine t_161_0 ?_
  have w0 : x0 = 0 := hx0
  have w2 := r_6_f2 hS (wbB.nw hx0)
  have w3 := r_3_f0 hS (stB.of (wbB.nw hx0))
  have w4 := r_4_f0 hS (stB.pe (wbB.nw hx0))
  have w5 := r_8_f0 hS (stB.ti (wbB.nw hx0))
  have w6 := r_9_f0 hS (stB.to (wbB.nw hx0))
  have w7 := r_7_f1 hS (wbB.tx hx0)
  refine k_169 hS hx0 (m_inR (by omega) (by omega)) (fun z0 => ?_) (fun z0 z1 => ?_) (fun z0 z1 => ?_)
  · exact h0 z0
  · refine t_161_5 ?_
    have q1 := EOK.rd hE (i := x1) (by omega)
    refine ⟨(by have := hE.1; have := hE.2.1; omega), ⟨m_inR (by omega) (by omega), m_inR (by omega) (by omega)⟩, fun c2 => ?_, fun c2 => ?_⟩
    · exact h1 z0 z1 c2
    · refine ⟨(by have := hE.1; have := hE.2.1; omega), ⟨m_inR (by omega) (by omega), m_inR (by omega) (by omega)⟩, fun c3 => ?_, fun c3 => ?_⟩
      · refine k_2 hS (wbB.hi hx0) (wbB.nw hx0) (by omega) (fun F1 hS1 => ?_)
        refine t_161_45 ?_
        rw [F1 (x0 + 1 + 1) (by omega)]
        refine ⟨by omega, by omega, ?_⟩
        have hS2 : Safe (mset (g_2 (x0 + 64) (x0 + 1) d) (x0 + 1 + 1) x1 x2) := s_6_1 hS1 (wbB.nw hx0) (by omega)
        have q2 := r_6_1 hS (wbB.nw hx0) x1
        exact h2 z0 z1 c2 c3 (by omega) (fun b hb => (mset_ne (by omega)).trans (F1 b (by omega))) hS2
      · exact h3 z0 z1 c2 c3
  · exact h4 z0 z1
theorem k_162 {E : mO × tW} {K : tK} {d : mD} {x0 : Int} (hS : Safe d) (hx0 : wbB x0) (h0 : (¬ d (x0 + 64) 2 = 0) → (0 ≤ ((g_3 (x0 + 64) (x0 + 1) d) (x0 + 64) 2) ∧ ((g_3 (x0 + 64) (x0 + 1) d) (x0 + 64) 2) ≤ 8) → (∀ b : Int, (b < x0 + 1 ∨ x0 + 16 < b) ∧ (b < x0 + 19 ∨ x0 + 64 < b) → (g_3 (x0 + 64) (x0 + 1) d) b = d b) → Safe (g_3 (x0 + 64) (x0 + 1) d) → K (.inl (some (0, (g_3 (x0 + 64) (x0 + 1) d) (x0 + 64) 2))) (g_3 (x0 + 64) (x0 + 1) d)) (h1 : (d (x0 + 64) 2 = 0) → K (.inr 0) d) : tCall E 162 [.inr (10, x0)] d K := by
  refine t_162_0 ?_
  have w0 : x0 = 0 := hx0
  have w2 := r_6_f2 hS (wbB.nw hx0)
  have w3 := r_3_f0 hS (stB.of (wbB.nw hx0))
  have w4 := r_4_f0 hS (stB.pe (wbB.nw hx0))
  have w5 := r_8_f0 hS (stB.ti (wbB.nw hx0))
  have w6 := r_9_f0 hS (stB.to (wbB.nw hx0))
  have w7 := r_7_f1 hS (wbB.tx hx0)
  have q1 := r_0_f2 hS (wbB.hi hx0)
  refine ⟨m_inR (by omega) (by omega), fun c0 => ?_, fun c0 => ?_⟩
  · refine k_3 hS (wbB.hi hx0) (wbB.nw hx0) (by omega) (fun F1 hS1 => ?_)
    refine t_162_32 ?_
    have q2 := r_0_f2 hS1 (wbB.hi hx0)
    exact h0 c0 (by omega) (fun b hb => F1 b (by omega)) hS1
  · exact h1 c0
theorem k_163 {E : mO × tW} {K : tK} {d : mD} {x0 x1 : Int} (hS : Safe d) (hx0 : wbB x0) (p1 : -2147483648 ≤ x1 ∧ x1 ≤ 2147483647) (h0 : (x1 < 0) → K (.inr 1) d) (h1 : (0 ≤ x1) → (x1 < 2) → (∀ b : Int, (b < x0 + 571 ∨ x0 + 571 < b) ∧ (b < x0 + 643 ∨ x0 + 768 < b) → (mset (g_59 (x0 + 570 + (73 + 63 * x1)) (x0 + 1) d) (x0 + 571) x1 1) b = d b) → Safe (mset (g_59 (x0 + 570 + (73 + 63 * x1)) (x0 + 1) d) (x0 + 571) x1 1) → K (.inl none) (mset (g_59 (x0 + 570 + (73 + 63 * x1)) (x0 + 1) d) (x0 + 571) x1 1)) (h2 : (0 ≤ x1) → (2 ≤ x1) → K (.inr 1) d) : tCall E 163 [.inr (10, x0), .inl (0, x1)] d K := by
  refine t_163_0 ?_
  have w0 : x0 = 0 := hx0
  have w2 := r_6_f2 hS (wbB.nw hx0)
  have w3 := r_3_f0 hS (stB.of (wbB.nw hx0))
  have w4 := r_4_f0 hS (stB.pe (wbB.nw hx0))
  have w5 := r_8_f0 hS (stB.ti (wbB.nw hx0))
  have w6 := r_9_f0 hS (stB.to (wbB.nw hx0))
  have w7 := r_7_f1 hS (wbB.tx hx0)
  refine k_168 hS hx0 (m_inR (by omega) (by omega)) (fun z0 => ?_) (fun z0 z1 => ?_) (fun z0 z1 => ?_)
  · exact h0 z0
  · refine t_163_5 ?_
    refine ⟨by omega, ?_⟩
    have hp1 : stB (x0 + 570 + (73 + 63 * x1)) := wbB.sv hx0 (by omega) (by omega)
    refine k_59 hS hp1 (wbB.nw hx0) (by omega) (fun F1 k1_0 hS2 => ?_)
    refine t_163_18 ?_
    refine ⟨by omega, ?_⟩
    have hS3 : Safe (mset (g_59 (x0 + 570 + (73 + 63 * x1)) (x0 + 1) d) (x0 + 571) x1 1) := s_10_571 hS2 hx0 (by omega)
    exact h1 z0 z1 (fun b hb => (mset_ne (by omega)).trans (F1 b (by omega))) hS3
  · exact h2 z0 z1
theorem k_164 {E : mO × tW} {K : tK} {d : mD} {x0 x1 : Int} (hS : Safe d) (hx0 : wbB x0) (p1 : -2147483648 ≤ x1 ∧ x1 ≤ 2147483647) (h0 : (x1 < 0) → K (.inr 1) d) (h1 : (0 ≤ x1) → (x1 < 2) → (¬ d (x0 + 571) x1 = 0) → (∀ b : Int, (b < x0 + 1 ∨ x0 + 16 < b) ∧ (b < x0 + 19 ∨ x0 + 64 < b) → (g_4 (x0 + 64) (g_59 (x0 + 1) (x0 + 570 + (73 + 63 * x1)) d)) b = d b) → Safe (g_4 (x0 + 64) (g_59 (x0 + 1) (x0 + 570 + (73 + 63 * x1)) d)) → K (.inl none) (g_4 (x0 + 64) (g_59 (x0 + 1) (x0 + 570 + (73 + 63 * x1)) d))) (h2 : (0 ≤ x1) → (x1 < 2) → (d (x0 + 571) x1 = 0) → K (.inr 3) d) (h3 : (0 ≤ x1) → (2 ≤ x1) → K (.inr 1) d) : tCall E 164 [.inr (10, x0), .inl (0, x1)] d K := by
  refine t_164_0 ?_
  have w0 : x0 = 0 := hx0
  have w2 := r_6_f2 hS (wbB.nw hx0)
  have w3 := r_3_f0 hS (stB.of (wbB.nw hx0))
  have w4 := r_4_f0 hS (stB.pe (wbB.nw hx0))
  have w5 := r_8_f0 hS (stB.ti (wbB.nw hx0))
  have w6 := r_9_f0 hS (stB.to (wbB.nw hx0))
  have w7 := r_7_f1 hS (wbB.tx hx0)
  refine k_168 hS hx0 (m_inR (by omega) (by omega)) (fun z0 => ?_) (fun z0 z1 => ?_) (fun z0 z1 => ?_)
  · exact h0 z0
  · refine t_164_5 ?_
    have q1 := r_10_571 hS hx0 x1
    refine ⟨by omega, m_inR (by omega) (by omega), fun c2 => ?_, fun c2 => ?_⟩
    · refine ⟨by omega, ?_⟩
      have hp1 : stB (x0 + 570 + (73 + 63 * x1)) := wbB.sv hx0 (by omega) (by omega)
      refine k_59 hS (wbB.nw hx0) hp1 (by have w := r_6_f2 hS hp1; omega) (fun F1 k1_0 hS2 => ?_)
      refine t_164_38 ?_
      refine k_4 hS2 (wbB.hi hx0) (fun F2 hS3 => ?_)
      refine t_164_45 ?_
      exact h1 z0 z1 c2 (fun b hb => (F2 b (by omega)).trans (F1 b (by omega))) hS3
    · exact h2 z0 z1 c2
  · exact h3 z0 z1
