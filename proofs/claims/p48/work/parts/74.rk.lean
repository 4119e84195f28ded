/-! ===== contracts of the reference's methods: printed by a program of mine ===== -/
def g_202 (x0 : Int) (d : mD) : mD := if (g_198 x0 d) x0 13 = 0 then (if v_184 x0 (v_198 x0 d) (g_198 x0 d) = (-1) then (if (g_195 x0 (g_197 x0 1 20 (g_197 x0 1 6 (g_197 x0 1 4 (g_198 x0 d))))) x0 13 = 0 then g_181 x0 (v_198 x0 d) (v_197 x0 1 4 (g_198 x0 d)) (v_197 x0 1 6 (g_197 x0 1 4 (g_198 x0 d))) (v_197 x0 1 20 (g_197 x0 1 6 (g_197 x0 1 4 (g_198 x0 d)))) (g_195 x0 (g_197 x0 1 20 (g_197 x0 1 6 (g_197 x0 1 4 (g_198 x0 d))))) else g_195 x0 (g_197 x0 1 20 (g_197 x0 1 6 (g_197 x0 1 4 (g_198 x0 d))))) else if (g_195 x0 (g_197 x0 1 20 (g_197 x0 1 6 (g_197 x0 1 4 (g_188 x0 3 ((g_198 x0 d) x0 16) (g_198 x0 d)))))) x0 13 = 0 then g_181 x0 (v_198 x0 d) (v_197 x0 1 4 (g_188 x0 3 ((g_198 x0 d) x0 16) (g_198 x0 d))) (v_197 x0 1 6 (g_197 x0 1 4 (g_188 x0 3 ((g_198 x0 d) x0 16) (g_198 x0 d)))) (v_197 x0 1 20 (g_197 x0 1 6 (g_197 x0 1 4 (g_188 x0 3 ((g_198 x0 d) x0 16) (g_198 x0 d))))) (g_195 x0 (g_197 x0 1 20 (g_197 x0 1 6 (g_197 x0 1 4 (g_188 x0 3 ((g_198 x0 d) x0 16) (g_198 x0 d)))))) else g_195 x0 (g_197 x0 1 20 (g_197 x0 1 6 (g_197 x0 1 4 (g_188 x0 3 ((g_198 x0 d) x0 16) (g_198 x0 d)))))) else if (g_195 x0 (g_197 x0 1 20 (g_197 x0 1 6 (g_197 x0 1 4 (g_198 x0 d))))) x0 13 = 0 then g_181 x0 (v_198 x0 d) (v_197 x0 1 4 (g_198 x0 d)) (v_197 x0 1 6 (g_197 x0 1 4 (g_198 x0 d))) (v_197 x0 1 20 (g_197 x0 1 6 (g_197 x0 1 4 (g_198 x0 d)))) (g_195 x0 (g_197 x0 1 20 (g_197 x0 1 6 (g_197 x0 1 4 (g_198 x0 d))))) else g_195 x0 (g_197 x0 1 20 (g_197 x0 1 6 (g_197 x0 1 4 (g_198 x0 d))))
theorem k_202 {E : mO × tW} {K : tK} {d : mD} {x0 : Int} (hS : Safe d) (hx0 : mdB x0) (hmp : mpP (d (x0 + 1))) (ho : d (x0 + 1) 7 ≤ 5) (h : (∀ b : Int, (b < x0 ∨ x0 + 1 < b) → (g_202 x0 d) b = d b) → (g_202 x0 d) x0 9 = d x0 9 → (∀ i : Int, i = 0 ∨ (452 ≤ i ∧ i < 1916) → (g_202 x0 d) (x0 + 1) i = d (x0 + 1) i) → mpP ((g_202 x0 d) (x0 + 1)) → (d x0 10 ≤ (g_202 x0 d) x0 10) → (d x0 13 = 0 ∨ ¬ (g_202 x0 d) x0 13 = 0) → Safe (g_202 x0 d) → K (.inl none) (g_202 x0 d)) : tCall E 202 [.inr (11, x0)] d K := by
  refine t_202_0 ?_
  have w8 := r_11_f9 hS hx0
  have w9 := r_11_f10 hS hx0
  refine k_198 hS hx0 (fun e1 F1 k1_0 n1_0 n1_1 hS1 => ?_)
  refine t_202_4 ?_
  have w8 := r_11_f9 hS1 hx0
  have w9 := r_11_f10 hS1 hx0
  have q1 := r_11_f13 hS1 hx0
  refine ⟨m_inR (by omega) (by omega), fun c0 => ?_, fun c0 => ?_⟩
  · refine t_202_30 ?_
    have w8 := r_11_f9 hS1 hx0
    have w9 := r_11_f10 hS1 hx0
    refine k_197 hS1 hx0 (by omega) (by omega) (fun e2 F2 k2_0 n2_0 n2_1 n2_2 hS2 => ?_)
    refine t_202_36 ?_
    have w8 := r_11_f9 hS2 hx0
    have w9 := r_11_f10 hS2 hx0
    refine k_197 hS2 hx0 (by omega) (by omega) (fun e3 F3 k3_0 n3_0 n3_1 n3_2 hS3 => ?_)
    refine t_202_44 ?_
    have w8 := r_11_f9 hS3 hx0
    have w9 := r_11_f10 hS3 hx0
    refine k_197 hS3 hx0 (by omega) (by omega) (fun e4 F4 k4_0 n4_0 n4_1 n4_2 hS4 => ?_)
    refine t_202_52 ?_
    have w8 := r_11_f9 hS4 hx0
    have w9 := r_11_f10 hS4 hx0
    refine k_195 hS4 hx0 (fun F5 k5_0 n5_0 n5_1 n5_2 hS5 => ?_)
    refine t_202_58 ?_
    have w8 := r_11_f9 hS5 hx0
    have w9 := r_11_f10 hS5 hx0
    have q2 := r_11_f13 hS5 hx0
    refine ⟨m_inR (by omega) (by omega), fun c1 => ?_, fun c1 => ?_⟩
    · refine t_202_74 ?_
      have w8 := r_11_f9 hS5 hx0
      have w9 := r_11_f10 hS5 hx0
      have y0 : g_202 x0 d = g_195 x0 (g_197 x0 1 20 (g_197 x0 1 6 (g_197 x0 1 4 (g_198 x0 d)))) := by simp only [g_202, if_neg (show ¬ (g_198 x0 d) x0 13 = 0 from c0), if_neg (show ¬ (g_195 x0 (g_197 x0 1 20 (g_197 x0 1 6 (g_197 x0 1 4 (g_198 x0 d))))) x0 13 = 0 from c1)]
      rw [y0] at h
      exact h (show ∀ b : Int, (b < x0 ∨ x0 + 1 < b) → (g_195 x0 (g_197 x0 1 20 (g_197 x0 1 6 (g_197 x0 1 4 (g_198 x0 d))))) b = d b from fun b hb => (F5 b (by omega)).trans ((F4 b (by omega)).trans ((F3 b (by omega)).trans ((F2 b (by omega)).trans (F1 b (by omega)))))) (show (g_195 x0 (g_197 x0 1 20 (g_197 x0 1 6 (g_197 x0 1 4 (g_198 x0 d))))) x0 9 = d x0 9 from ((((k5_0).trans (k4_0)).trans (k3_0)).trans (k2_0)).trans (k1_0)) (show ∀ i : Int, i = 0 ∨ (452 ≤ i ∧ i < 1916) → (g_195 x0 (g_197 x0 1 20 (g_197 x0 1 6 (g_197 x0 1 4 (g_198 x0 d))))) (x0 + 1) i = d (x0 + 1) i from fun i hi => ((((congrFun (F5 (x0 + 1) (by omega)) i).trans (congrFun (F4 (x0 + 1) (by omega)) i)).trans (congrFun (F3 (x0 + 1) (by omega)) i)).trans (congrFun (F2 (x0 + 1) (by omega)) i)).trans (congrFun (F1 (x0 + 1) (by omega)) i)) (mpP.of (mh_7 hS hx0 _ rfl) (show ∀ i : Int, i = 7 ∨ (12 ≤ i ∧ i < 420 ∧ (i - 12) % 68 = 2) → (g_195 x0 (g_197 x0 1 20 (g_197 x0 1 6 (g_197 x0 1 4 (g_198 x0 d))))) (x0 + 1) i = d (x0 + 1) i from fun i hi => ((((congrFun (F5 (x0 + 1) (by omega)) i).trans (congrFun (F4 (x0 + 1) (by omega)) i)).trans (congrFun (F3 (x0 + 1) (by omega)) i)).trans (congrFun (F2 (x0 + 1) (by omega)) i)).trans (congrFun (F1 (x0 + 1) (by omega)) i)) hmp) (show d x0 10 ≤ (g_195 x0 (g_197 x0 1 20 (g_197 x0 1 6 (g_197 x0 1 4 (g_198 x0 d))))) x0 10 by omega) (show d x0 13 = 0 ∨ ¬ (g_195 x0 (g_197 x0 1 20 (g_197 x0 1 6 (g_197 x0 1 4 (g_198 x0 d))))) x0 13 = 0 by omega) hS5
    · have q3 : (g_195 x0 (g_197 x0 1 20 (g_197 x0 1 6 (g_197 x0 1 4 (g_198 x0 d))))) (x0 + 1) 7 = d (x0 + 1) 7 := ((((congrFun (F5 (x0 + 1) (by omega)) 7).trans (congrFun (F4 (x0 + 1) (by omega)) 7)).trans (congrFun (F3 (x0 + 1) (by omega)) 7)).trans (congrFun (F2 (x0 + 1) (by omega)) 7)).trans (congrFun (F1 (x0 + 1) (by omega)) 7)
      refine k_181 hS5 hx0 (by omega) (by omega) (by omega) (by omega) (by omega) (by omega) (mpP.of (mh_7 hS hx0 _ rfl) (show ∀ i : Int, i = 7 ∨ (12 ≤ i ∧ i < 420 ∧ (i - 12) % 68 = 2) → (g_195 x0 (g_197 x0 1 20 (g_197 x0 1 6 (g_197 x0 1 4 (g_198 x0 d))))) (x0 + 1) i = d (x0 + 1) i from fun i hi => ((((congrFun (F5 (x0 + 1) (by omega)) i).trans (congrFun (F4 (x0 + 1) (by omega)) i)).trans (congrFun (F3 (x0 + 1) (by omega)) i)).trans (congrFun (F2 (x0 + 1) (by omega)) i)).trans (congrFun (F1 (x0 + 1) (by omega)) i)) hmp) (fun F6 Q6 P6hmp hS6 => ?_)
      refine t_202_74 ?_
      have w8 := r_11_f9 hS6 hx0
      have w9 := r_11_f10 hS6 hx0
      have q4 : (g_181 x0 (v_198 x0 d) (v_197 x0 1 4 (g_198 x0 d)) (v_197 x0 1 6 (g_197 x0 1 4 (g_198 x0 d))) (v_197 x0 1 20 (g_197 x0 1 6 (g_197 x0 1 4 (g_198 x0 d)))) (g_195 x0 (g_197 x0 1 20 (g_197 x0 1 6 (g_197 x0 1 4 (g_198 x0 d)))))) x0 10 = (g_195 x0 (g_197 x0 1 20 (g_197 x0 1 6 (g_197 x0 1 4 (g_198 x0 d))))) x0 10 := congrFun (F6 x0 (by omega)) 10
      have q5 : (g_181 x0 (v_198 x0 d) (v_197 x0 1 4 (g_198 x0 d)) (v_197 x0 1 6 (g_197 x0 1 4 (g_198 x0 d))) (v_197 x0 1 20 (g_197 x0 1 6 (g_197 x0 1 4 (g_198 x0 d)))) (g_195 x0 (g_197 x0 1 20 (g_197 x0 1 6 (g_197 x0 1 4 (g_198 x0 d)))))) x0 13 = (g_195 x0 (g_197 x0 1 20 (g_197 x0 1 6 (g_197 x0 1 4 (g_198 x0 d))))) x0 13 := congrFun (F6 x0 (by omega)) 13
      have y0 : g_202 x0 d = g_181 x0 (v_198 x0 d) (v_197 x0 1 4 (g_198 x0 d)) (v_197 x0 1 6 (g_197 x0 1 4 (g_198 x0 d))) (v_197 x0 1 20 (g_197 x0 1 6 (g_197 x0 1 4 (g_198 x0 d)))) (g_195 x0 (g_197 x0 1 20 (g_197 x0 1 6 (g_197 x0 1 4 (g_198 x0 d))))) := by simp only [g_202, if_neg (show ¬ (g_198 x0 d) x0 13 = 0 from c0), if_pos (show (g_195 x0 (g_197 x0 1 20 (g_197 x0 1 6 (g_197 x0 1 4 (g_198 x0 d))))) x0 13 = 0 from c1)]
      rw [y0] at h
      exact h (show ∀ b : Int, (b < x0 ∨ x0 + 1 < b) → (g_181 x0 (v_198 x0 d) (v_197 x0 1 4 (g_198 x0 d)) (v_197 x0 1 6 (g_197 x0 1 4 (g_198 x0 d))) (v_197 x0 1 20 (g_197 x0 1 6 (g_197 x0 1 4 (g_198 x0 d)))) (g_195 x0 (g_197 x0 1 20 (g_197 x0 1 6 (g_197 x0 1 4 (g_198 x0 d)))))) b = d b from fun b hb => (F6 b (by omega)).trans ((F5 b (by omega)).trans ((F4 b (by omega)).trans ((F3 b (by omega)).trans ((F2 b (by omega)).trans (F1 b (by omega))))))) (show (g_181 x0 (v_198 x0 d) (v_197 x0 1 4 (g_198 x0 d)) (v_197 x0 1 6 (g_197 x0 1 4 (g_198 x0 d))) (v_197 x0 1 20 (g_197 x0 1 6 (g_197 x0 1 4 (g_198 x0 d)))) (g_195 x0 (g_197 x0 1 20 (g_197 x0 1 6 (g_197 x0 1 4 (g_198 x0 d)))))) x0 9 = d x0 9 from (((((congrFun (F6 x0 (by omega)) 9).trans (k5_0)).trans (k4_0)).trans (k3_0)).trans (k2_0)).trans (k1_0)) (show ∀ i : Int, i = 0 ∨ (452 ≤ i ∧ i < 1916) → (g_181 x0 (v_198 x0 d) (v_197 x0 1 4 (g_198 x0 d)) (v_197 x0 1 6 (g_197 x0 1 4 (g_198 x0 d))) (v_197 x0 1 20 (g_197 x0 1 6 (g_197 x0 1 4 (g_198 x0 d)))) (g_195 x0 (g_197 x0 1 20 (g_197 x0 1 6 (g_197 x0 1 4 (g_198 x0 d)))))) (x0 + 1) i = d (x0 + 1) i from fun i hi => (((((Q6 i (by omega)).trans (congrFun (F5 (x0 + 1) (by omega)) i)).trans (congrFun (F4 (x0 + 1) (by omega)) i)).trans (congrFun (F3 (x0 + 1) (by omega)) i)).trans (congrFun (F2 (x0 + 1) (by omega)) i)).trans (congrFun (F1 (x0 + 1) (by omega)) i)) P6hmp (show d x0 10 ≤ (g_181 x0 (v_198 x0 d) (v_197 x0 1 4 (g_198 x0 d)) (v_197 x0 1 6 (g_197 x0 1 4 (g_198 x0 d))) (v_197 x0 1 20 (g_197 x0 1 6 (g_197 x0 1 4 (g_198 x0 d)))) (g_195 x0 (g_197 x0 1 20 (g_197 x0 1 6 (g_197 x0 1 4 (g_198 x0 d)))))) x0 10 by omega) (show d x0 13 = 0 ∨ ¬ (g_181 x0 (v_198 x0 d) (v_197 x0 1 4 (g_198 x0 d)) (v_197 x0 1 6 (g_197 x0 1 4 (g_198 x0 d))) (v_197 x0 1 20 (g_197 x0 1 6 (g_197 x0 1 4 (g_198 x0 d)))) (g_195 x0 (g_197 x0 1 20 (g_197 x0 1 6 (g_197 x0 1 4 (g_198 x0 d)))))) x0 13 = 0 by omega) hS6
  · refine k_184 hS1 hx0 (m_inR (by omega) (by omega)) (fun e5 => ?_)
    refine t_202_17 ?_
    have w8 := r_11_f9 hS1 hx0
    have w9 := r_11_f10 hS1 hx0
    refine ⟨⟨m_inR (by omega) (by omega), m_inR (by omega) (by omega)⟩, fun c1 => ?_, fun c1 => ?_⟩
    · refine t_202_30 ?_
      have w8 := r_11_f9 hS1 hx0
      have w9 := r_11_f10 hS1 hx0
      refine k_197 hS1 hx0 (by omega) (by omega) (fun e6 F7 k7_0 n7_0 n7_1 n7_2 hS7 => ?_)
      refine t_202_36 ?_
      have w8 := r_11_f9 hS7 hx0
      have w9 := r_11_f10 hS7 hx0
      refine k_197 hS7 hx0 (by omega) (by omega) (fun e7 F8 k8_0 n8_0 n8_1 n8_2 hS8 => ?_)
      refine t_202_44 ?_
      have w8 := r_11_f9 hS8 hx0
      have w9 := r_11_f10 hS8 hx0
      refine k_197 hS8 hx0 (by omega) (by omega) (fun e8 F9 k9_0 n9_0 n9_1 n9_2 hS9 => ?_)
      refine t_202_52 ?_
      have w8 := r_11_f9 hS9 hx0
      have w9 := r_11_f10 hS9 hx0
      refine k_195 hS9 hx0 (fun F10 k10_0 n10_0 n10_1 n10_2 hS10 => ?_)
      refine t_202_58 ?_
      have w8 := r_11_f9 hS10 hx0
      have w9 := r_11_f10 hS10 hx0
      have q6 := r_11_f13 hS10 hx0
      refine ⟨m_inR (by omega) (by omega), fun c2 => ?_, fun c2 => ?_⟩
      · refine t_202_74 ?_
        have w8 := r_11_f9 hS10 hx0
        have w9 := r_11_f10 hS10 hx0
        have y0 : g_202 x0 d = g_195 x0 (g_197 x0 1 20 (g_197 x0 1 6 (g_197 x0 1 4 (g_198 x0 d)))) := by simp only [g_202, if_pos (show (g_198 x0 d) x0 13 = 0 from c0), if_pos (show v_184 x0 (v_198 x0 d) (g_198 x0 d) = (-1) from c1), if_neg (show ¬ (g_195 x0 (g_197 x0 1 20 (g_197 x0 1 6 (g_197 x0 1 4 (g_198 x0 d))))) x0 13 = 0 from c2)]
        rw [y0] at h
        exact h (show ∀ b : Int, (b < x0 ∨ x0 + 1 < b) → (g_195 x0 (g_197 x0 1 20 (g_197 x0 1 6 (g_197 x0 1 4 (g_198 x0 d))))) b = d b from fun b hb => (F10 b (by omega)).trans ((F9 b (by omega)).trans ((F8 b (by omega)).trans ((F7 b (by omega)).trans (F1 b (by omega)))))) (show (g_195 x0 (g_197 x0 1 20 (g_197 x0 1 6 (g_197 x0 1 4 (g_198 x0 d))))) x0 9 = d x0 9 from ((((k10_0).trans (k9_0)).trans (k8_0)).trans (k7_0)).trans (k1_0)) (show ∀ i : Int, i = 0 ∨ (452 ≤ i ∧ i < 1916) → (g_195 x0 (g_197 x0 1 20 (g_197 x0 1 6 (g_197 x0 1 4 (g_198 x0 d))))) (x0 + 1) i = d (x0 + 1) i from fun i hi => ((((congrFun (F10 (x0 + 1) (by omega)) i).trans (congrFun (F9 (x0 + 1) (by omega)) i)).trans (congrFun (F8 (x0 + 1) (by omega)) i)).trans (congrFun (F7 (x0 + 1) (by omega)) i)).trans (congrFun (F1 (x0 + 1) (by omega)) i)) (mpP.of (mh_7 hS hx0 _ rfl) (show ∀ i : Int, i = 7 ∨ (12 ≤ i ∧ i < 420 ∧ (i - 12) % 68 = 2) → (g_195 x0 (g_197 x0 1 20 (g_197 x0 1 6 (g_197 x0 1 4 (g_198 x0 d))))) (x0 + 1) i = d (x0 + 1) i from fun i hi => ((((congrFun (F10 (x0 + 1) (by omega)) i).trans (congrFun (F9 (x0 + 1) (by omega)) i)).trans (congrFun (F8 (x0 + 1) (by omega)) i)).trans (congrFun (F7 (x0 + 1) (by omega)) i)).trans (congrFun (F1 (x0 + 1) (by omega)) i)) hmp) (show d x0 10 ≤ (g_195 x0 (g_197 x0 1 20 (g_197 x0 1 6 (g_197 x0 1 4 (g_198 x0 d))))) x0 10 by omega) (show d x0 13 = 0 ∨ ¬ (g_195 x0 (g_197 x0 1 20 (g_197 x0 1 6 (g_197 x0 1 4 (g_198 x0 d))))) x0 13 = 0 by omega) hS10
      · have q7 : (g_195 x0 (g_197 x0 1 20 (g_197 x0 1 6 (g_197 x0 1 4 (g_198 x0 d))))) (x0 + 1) 7 = d (x0 + 1) 7 := ((((congrFun (F10 (x0 + 1) (by omega)) 7).trans (congrFun (F9 (x0 + 1) (by omega)) 7)).trans (congrFun (F8 (x0 + 1) (by omega)) 7)).trans (congrFun (F7 (x0 + 1) (by omega)) 7)).trans (congrFun (F1 (x0 + 1) (by omega)) 7)
        refine k_181 hS10 hx0 (by omega) (by omega) (by omega) (by omega) (by omega) (by omega) (mpP.of (mh_7 hS hx0 _ rfl) (show ∀ i : Int, i = 7 ∨ (12 ≤ i ∧ i < 420 ∧ (i - 12) % 68 = 2) → (g_195 x0 (g_197 x0 1 20 (g_197 x0 1 6 (g_197 x0 1 4 (g_198 x0 d))))) (x0 + 1) i = d (x0 + 1) i from fun i hi => ((((congrFun (F10 (x0 + 1) (by omega)) i).trans (congrFun (F9 (x0 + 1) (by omega)) i)).trans (congrFun (F8 (x0 + 1) (by omega)) i)).trans (congrFun (F7 (x0 + 1) (by omega)) i)).trans (congrFun (F1 (x0 + 1) (by omega)) i)) hmp) (fun F11 Q11 P11hmp hS11 => ?_)
        refine t_202_74 ?_
        have w8 := r_11_f9 hS11 hx0
        have w9 := r_11_f10 hS11 hx0
        have q8 : (g_181 x0 (v_198 x0 d) (v_197 x0 1 4 (g_198 x0 d)) (v_197 x0 1 6 (g_197 x0 1 4 (g_198 x0 d))) (v_197 x0 1 20 (g_197 x0 1 6 (g_197 x0 1 4 (g_198 x0 d)))) (g_195 x0 (g_197 x0 1 20 (g_197 x0 1 6 (g_197 x0 1 4 (g_198 x0 d)))))) x0 10 = (g_195 x0 (g_197 x0 1 20 (g_197 x0 1 6 (g_197 x0 1 4 (g_198 x0 d))))) x0 10 := congrFun (F11 x0 (by omega)) 10
        have q9 : (g_181 x0 (v_198 x0 d) (v_197 x0 1 4 (g_198 x0 d)) (v_197 x0 1 6 (g_197 x0 1 4 (g_198 x0 d))) (v_197 x0 1 20 (g_197 x0 1 6 (g_197 x0 1 4 (g_198 x0 d)))) (g_195 x0 (g_197 x0 1 20 (g_197 x0 1 6 (g_197 x0 1 4 (g_198 x0 d)))))) x0 13 = (g_195 x0 (g_197 x0 1 20 (g_197 x0 1 6 (g_197 x0 1 4 (g_198 x0 d))))) x0 13 := congrFun (F11 x0 (by omega)) 13
        have y0 : g_202 x0 d = g_181 x0 (v_198 x0 d) (v_197 x0 1 4 (g_198 x0 d)) (v_197 x0 1 6 (g_197 x0 1 4 (g_198 x0 d))) (v_197 x0 1 20 (g_197 x0 1 6 (g_197 x0 1 4 (g_198 x0 d)))) (g_195 x0 (g_197 x0 1 20 (g_197 x0 1 6 (g_197 x0 1 4 (g_198 x0 d))))) := by simp only [g_202, if_pos (show (g_198 x0 d) x0 13 = 0 from c0), if_pos (show v_184 x0 (v_198 x0 d) (g_198 x0 d) = (-1) from c1), if_pos (show (g_195 x0 (g_197 x0 1 20 (g_197 x0 1 6 (g_197 x0 1 4 (g_198 x0 d))))) x0 13 = 0 from c2)]
        rw [y0] at h
        exact h (show ∀ b : Int, (b < x0 ∨ x0 + 1 < b) → (g_181 x0 (v_198 x0 d) (v_197 x0 1 4 (g_198 x0 d)) (v_197 x0 1 6 (g_197 x0 1 4 (g_198 x0 d))) (v_197 x0 1 20 (g_197 x0 1 6 (g_197 x0 1 4 (g_198 x0 d)))) (g_195 x0 (g_197 x0 1 20 (g_197 x0 1 6 (g_197 x0 1 4 (g_198 x0 d)))))) b = d b from fun b hb => (F11 b (by omega)).trans ((F10 b (by omega)).trans ((F9 b (by omega)).trans ((F8 b (by omega)).trans ((F7 b (by omega)).trans (F1 b (by omega))))))) (show (g_181 x0 (v_198 x0 d) (v_197 x0 1 4 (g_198 x0 d)) (v_197 x0 1 6 (g_197 x0 1 4 (g_198 x0 d))) (v_197 x0 1 20 (g_197 x0 1 6 (g_197 x0 1 4 (g_198 x0 d)))) (g_195 x0 (g_197 x0 1 20 (g_197 x0 1 6 (g_197 x0 1 4 (g_198 x0 d)))))) x0 9 = d x0 9 from (((((congrFun (F11 x0 (by omega)) 9).trans (k10_0)).trans (k9_0)).trans (k8_0)).trans (k7_0)).trans (k1_0)) (show ∀ i : Int, i = 0 ∨ (452 ≤ i ∧ i < 1916) → (g_181 x0 (v_198 x0 d) (v_197 x0 1 4 (g_198 x0 d)) (v_197 x0 1 6 (g_197 x0 1 4 (g_198 x0 d))) (v_197 x0 1 20 (g_197 x0 1 6 (g_197 x0 1 4 (g_198 x0 d)))) (g_195 x0 (g_197 x0 1 20 (g_197 x0 1 6 (g_197 x0 1 4 (g_198 x0 d)))))) (x0 + 1) i = d (x0 + 1) i from fun i hi => (((((Q11 i (by omega)).trans (congrFun (F10 (x0 + 1) (by omega)) i)).trans (congrFun (F9 (x0 + 1) (by omega)) i)).trans (congrFun (F8 (x0 + 1) (by omega)) i)).trans (congrFun (F7 (x0 + 1) (by omega)) i)).trans (congrFun (F1 (x0 + 1) (by omega)) i)) P11hmp (show d x0 10 ≤ (g_181 x0 (v_198 x0 d) (v_197 x0 1 4 (g_198 x0 d)) (v_197 x0 1 6 (g_197 x0 1 4 (g_198 x0 d))) (v_197 x0 1 20 (g_197 x0 1 6 (g_197 x0 1 4 (g_198 x0 d)))) (g_195 x0 (g_197 x0 1 20 (g_197 x0 1 6 (g_197 x0 1 4 (g_198 x0 d)))))) x0 10 by omega) (show d x0 13 = 0 ∨ ¬ (g_181 x0 (v_198 x0 d) (v_197 x0 1 4 (g_198 x0 d)) (v_197 x0 1 6 (g_197 x0 1 4 (g_198 x0 d))) (v_197 x0 1 20 (g_197 x0 1 6 (g_197 x0 1 4 (g_198 x0 d)))) (g_195 x0 (g_197 x0 1 20 (g_197 x0 1 6 (g_197 x0 1 4 (g_198 x0 d)))))) x0 13 = 0 by omega) hS11
    · have q10 := r_11_f16 hS1 hx0
      refine k_188 hS1 hx0 (by omega) (by omega) (fun F12 k12_0 n12_0 n12_1 n12_2 hS12 => ?_)
      refine t_202_30 ?_
      have w8 := r_11_f9 hS12 hx0
      have w9 := r_11_f10 hS12 hx0
      refine k_197 hS12 hx0 (by omega) (by omega) (fun e9 F13 k13_0 n13_0 n13_1 n13_2 hS13 => ?_)
      refine t_202_36 ?_
      have w8 := r_11_f9 hS13 hx0
      have w9 := r_11_f10 hS13 hx0
      refine k_197 hS13 hx0 (by omega) (by omega) (fun e10 F14 k14_0 n14_0 n14_1 n14_2 hS14 => ?_)
      refine t_202_44 ?_
      have w8 := r_11_f9 hS14 hx0
      have w9 := r_11_f10 hS14 hx0
      refine k_197 hS14 hx0 (by omega) (by omega) (fun e11 F15 k15_0 n15_0 n15_1 n15_2 hS15 => ?_)
      refine t_202_52 ?_
      have w8 := r_11_f9 hS15 hx0
      have w9 := r_11_f10 hS15 hx0
      refine k_195 hS15 hx0 (fun F16 k16_0 n16_0 n16_1 n16_2 hS16 => ?_)
      refine t_202_58 ?_
      have w8 := r_11_f9 hS16 hx0
      have w9 := r_11_f10 hS16 hx0
      have q11 := r_11_f13 hS16 hx0
      refine ⟨m_inR (by omega) (by omega), fun c2 => ?_, fun c2 => ?_⟩
      · refine t_202_74 ?_
        have w8 := r_11_f9 hS16 hx0
        have w9 := r_11_f10 hS16 hx0
        have y0 : g_202 x0 d = g_195 x0 (g_197 x0 1 20 (g_197 x0 1 6 (g_197 x0 1 4 (g_188 x0 3 ((g_198 x0 d) x0 16) (g_198 x0 d))))) := by simp only [g_202, if_pos (show (g_198 x0 d) x0 13 = 0 from c0), if_neg (show ¬ v_184 x0 (v_198 x0 d) (g_198 x0 d) = (-1) from c1), if_neg (show ¬ (g_195 x0 (g_197 x0 1 20 (g_197 x0 1 6 (g_197 x0 1 4 (g_188 x0 3 ((g_198 x0 d) x0 16) (g_198 x0 d)))))) x0 13 = 0 from c2)]
        rw [y0] at h
        exact h (show ∀ b : Int, (b < x0 ∨ x0 + 1 < b) → (g_195 x0 (g_197 x0 1 20 (g_197 x0 1 6 (g_197 x0 1 4 (g_188 x0 3 ((g_198 x0 d) x0 16) (g_198 x0 d)))))) b = d b from fun b hb => (F16 b (by omega)).trans ((F15 b (by omega)).trans ((F14 b (by omega)).trans ((F13 b (by omega)).trans ((F12 b (by omega)).trans (F1 b (by omega))))))) (show (g_195 x0 (g_197 x0 1 20 (g_197 x0 1 6 (g_197 x0 1 4 (g_188 x0 3 ((g_198 x0 d) x0 16) (g_198 x0 d)))))) x0 9 = d x0 9 from (((((k16_0).trans (k15_0)).trans (k14_0)).trans (k13_0)).trans (k12_0)).trans (k1_0)) (show ∀ i : Int, i = 0 ∨ (452 ≤ i ∧ i < 1916) → (g_195 x0 (g_197 x0 1 20 (g_197 x0 1 6 (g_197 x0 1 4 (g_188 x0 3 ((g_198 x0 d) x0 16) (g_198 x0 d)))))) (x0 + 1) i = d (x0 + 1) i from fun i hi => (((((congrFun (F16 (x0 + 1) (by omega)) i).trans (congrFun (F15 (x0 + 1) (by omega)) i)).trans (congrFun (F14 (x0 + 1) (by omega)) i)).trans (congrFun (F13 (x0 + 1) (by omega)) i)).trans (congrFun (F12 (x0 + 1) (by omega)) i)).trans (congrFun (F1 (x0 + 1) (by omega)) i)) (mpP.of (mh_7 hS hx0 _ rfl) (show ∀ i : Int, i = 7 ∨ (12 ≤ i ∧ i < 420 ∧ (i - 12) % 68 = 2) → (g_195 x0 (g_197 x0 1 20 (g_197 x0 1 6 (g_197 x0 1 4 (g_188 x0 3 ((g_198 x0 d) x0 16) (g_198 x0 d)))))) (x0 + 1) i = d (x0 + 1) i from fun i hi => (((((congrFun (F16 (x0 + 1) (by omega)) i).trans (congrFun (F15 (x0 + 1) (by omega)) i)).trans (congrFun (F14 (x0 + 1) (by omega)) i)).trans (congrFun (F13 (x0 + 1) (by omega)) i)).trans (congrFun (F12 (x0 + 1) (by omega)) i)).trans (congrFun (F1 (x0 + 1) (by omega)) i)) hmp) (show d x0 10 ≤ (g_195 x0 (g_197 x0 1 20 (g_197 x0 1 6 (g_197 x0 1 4 (g_188 x0 3 ((g_198 x0 d) x0 16) (g_198 x0 d)))))) x0 10 by omega) (show d x0 13 = 0 ∨ ¬ (g_195 x0 (g_197 x0 1 20 (g_197 x0 1 6 (g_197 x0 1 4 (g_188 x0 3 ((g_198 x0 d) x0 16) (g_198 x0 d)))))) x0 13 = 0 by omega) hS16
      · have q12 : (g_195 x0 (g_197 x0 1 20 (g_197 x0 1 6 (g_197 x0 1 4 (g_188 x0 3 ((g_198 x0 d) x0 16) (g_198 x0 d)))))) (x0 + 1) 7 = d (x0 + 1) 7 := (((((congrFun (F16 (x0 + 1) (by omega)) 7).trans (congrFun (F15 (x0 + 1) (by omega)) 7)).trans (congrFun (F14 (x0 + 1) (by omega)) 7)).trans (congrFun (F13 (x0 + 1) (by omega)) 7)).trans (congrFun (F12 (x0 + 1) (by omega)) 7)).trans (congrFun (F1 (x0 + 1) (by omega)) 7)
        refine k_181 hS16 hx0 (by omega) (by omega) (by omega) (by omega) (by omega) (by omega) (mpP.of (mh_7 hS hx0 _ rfl) (show ∀ i : Int, i = 7 ∨ (12 ≤ i ∧ i < 420 ∧ (i - 12) % 68 = 2) → (g_195 x0 (g_197 x0 1 20 (g_197 x0 1 6 (g_197 x0 1 4 (g_188 x0 3 ((g_198 x0 d) x0 16) (g_198 x0 d)))))) (x0 + 1) i = d (x0 + 1) i from fun i hi => (((((congrFun (F16 (x0 + 1) (by omega)) i).trans (congrFun (F15 (x0 + 1) (by omega)) i)).trans (congrFun (F14 (x0 + 1) (by omega)) i)).trans (congrFun (F13 (x0 + 1) (by omega)) i)).trans (congrFun (F12 (x0 + 1) (by omega)) i)).trans (congrFun (F1 (x0 + 1) (by omega)) i)) hmp) (fun F17 Q17 P17hmp hS17 => ?_)
        refine t_202_74 ?_
        have w8 := r_11_f9 hS17 hx0
        have w9 := r_11_f10 hS17 hx0
        have q13 : (g_181 x0 (v_198 x0 d) (v_197 x0 1 4 (g_188 x0 3 ((g_198 x0 d) x0 16) (g_198 x0 d))) (v_197 x0 1 6 (g_197 x0 1 4 (g_188 x0 3 ((g_198 x0 d) x0 16) (g_198 x0 d)))) (v_197 x0 1 20 (g_197 x0 1 6 (g_197 x0 1 4 (g_188 x0 3 ((g_198 x0 d) x0 16) (g_198 x0 d))))) (g_195 x0 (g_197 x0 1 20 (g_197 x0 1 6 (g_197 x0 1 4 (g_188 x0 3 ((g_198 x0 d) x0 16) (g_198 x0 d))))))) x0 10 = (g_195 x0 (g_197 x0 1 20 (g_197 x0 1 6 (g_197 x0 1 4 (g_188 x0 3 ((g_198 x0 d) x0 16) (g_198 x0 d)))))) x0 10 := congrFun (F17 x0 (by omega)) 10
        have q14 : (g_181 x0 (v_198 x0 d) (v_197 x0 1 4 (g_188 x0 3 ((g_198 x0 d) x0 16) (g_198 x0 d))) (v_197 x0 1 6 (g_197 x0 1 4 (g_188 x0 3 ((g_198 x0 d) x0 16) (g_198 x0 d)))) (v_197 x0 1 20 (g_197 x0 1 6 (g_197 x0 1 4 (g_188 x0 3 ((g_198 x0 d) x0 16) (g_198 x0 d))))) (g_195 x0 (g_197 x0 1 20 (g_197 x0 1 6 (g_197 x0 1 4 (g_188 x0 3 ((g_198 x0 d) x0 16) (g_198 x0 d))))))) x0 13 = (g_195 x0 (g_197 x0 1 20 (g_197 x0 1 6 (g_197 x0 1 4 (g_188 x0 3 ((g_198 x0 d) x0 16) (g_198 x0 d)))))) x0 13 := congrFun (F17 x0 (by omega)) 13
        have y0 : g_202 x0 d = g_181 x0 (v_198 x0 d) (v_197 x0 1 4 (g_188 x0 3 ((g_198 x0 d) x0 16) (g_198 x0 d))) (v_197 x0 1 6 (g_197 x0 1 4 (g_188 x0 3 ((g_198 x0 d) x0 16) (g_198 x0 d)))) (v_197 x0 1 20 (g_197 x0 1 6 (g_197 x0 1 4 (g_188 x0 3 ((g_198 x0 d) x0 16) (g_198 x0 d))))) (g_195 x0 (g_197 x0 1 20 (g_197 x0 1 6 (g_197 x0 1 4 (g_188 x0 3 ((g_198 x0 d) x0 16) (g_198 x0 d)))))) := by simp only [g_202, if_pos (show (g_198 x0 d) x0 13 = 0 from c0), if_neg (show ¬ v_184 x0 (v_198 x0 d) (g_198 x0 d) = (-1) from c1), if_pos (show (g_195 x0 (g_197 x0 1 20 (g_197 x0 1 6 (g_197 x0 1 4 (g_188 x0 3 ((g_198 x0 d) x0 16) (g_198 x0 d)))))) x0 13 = 0 from c2)]
        rw [y0] at h
        exact h (show ∀ b : Int, (b < x0 ∨ x0 + 1 < b) → (g_181 x0 (v_198 x0 d) (v_197 x0 1 4 (g_188 x0 3 ((g_198 x0 d) x0 16) (g_198 x0 d))) (v_197 x0 1 6 (g_197 x0 1 4 (g_188 x0 3 ((g_198 x0 d) x0 16) (g_198 x0 d)))) (v_197 x0 1 20 (g_197 x0 1 6 (g_197 x0 1 4 (g_188 x0 3 ((g_198 x0 d) x0 16) (g_198 x0 d))))) (g_195 x0 (g_197 x0 1 20 (g_197 x0 1 6 (g_197 x0 1 4 (g_188 x0 3 ((g_198 x0 d) x0 16) (g_198 x0 d))))))) b = d b from fun b hb => (F17 b (by omega)).trans ((F16 b (by omega)).trans ((F15 b (by omega)).trans ((F14 b (by omega)).trans ((F13 b (by omega)).trans ((F12 b (by omega)).trans (F1 b (by omega)))))))) (show (g_181 x0 (v_198 x0 d) (v_197 x0 1 4 (g_188 x0 3 ((g_198 x0 d) x0 16) (g_198 x0 d))) (v_197 x0 1 6 (g_197 x0 1 4 (g_188 x0 3 ((g_198 x0 d) x0 16) (g_198 x0 d)))) (v_197 x0 1 20 (g_197 x0 1 6 (g_197 x0 1 4 (g_188 x0 3 ((g_198 x0 d) x0 16) (g_198 x0 d))))) (g_195 x0 (g_197 x0 1 20 (g_197 x0 1 6 (g_197 x0 1 4 (g_188 x0 3 ((g_198 x0 d) x0 16) (g_198 x0 d))))))) x0 9 = d x0 9 from ((((((congrFun (F17 x0 (by omega)) 9).trans (k16_0)).trans (k15_0)).trans (k14_0)).trans (k13_0)).trans (k12_0)).trans (k1_0)) (show ∀ i : Int, i = 0 ∨ (452 ≤ i ∧ i < 1916) → (g_181 x0 (v_198 x0 d) (v_197 x0 1 4 (g_188 x0 3 ((g_198 x0 d) x0 16) (g_198 x0 d))) (v_197 x0 1 6 (g_197 x0 1 4 (g_188 x0 3 ((g_198 x0 d) x0 16) (g_198 x0 d)))) (v_197 x0 1 20 (g_197 x0 1 6 (g_197 x0 1 4 (g_188 x0 3 ((g_198 x0 d) x0 16) (g_198 x0 d))))) (g_195 x0 (g_197 x0 1 20 (g_197 x0 1 6 (g_197 x0 1 4 (g_188 x0 3 ((g_198 x0 d) x0 16) (g_198 x0 d))))))) (x0 + 1) i = d (x0 + 1) i from fun i hi => ((((((Q17 i (by omega)).trans (congrFun (F16 (x0 + 1) (by omega)) i)).trans (congrFun (F15 (x0 + 1) (by omega)) i)).trans (congrFun (F14 (x0 + 1) (by omega)) i)).trans (congrFun (F13 (x0 + 1) (by omega)) i)).trans (congrFun (F12 (x0 + 1) (by omega)) i)).trans (congrFun (F1 (x0 + 1) (by omega)) i)) P17hmp (show d x0 10 ≤ (g_181 x0 (v_198 x0 d) (v_197 x0 1 4 (g_188 x0 3 ((g_198 x0 d) x0 16) (g_198 x0 d))) (v_197 x0 1 6 (g_197 x0 1 4 (g_188 x0 3 ((g_198 x0 d) x0 16) (g_198 x0 d)))) (v_197 x0 1 20 (g_197 x0 1 6 (g_197 x0 1 4 (g_188 x0 3 ((g_198 x0 d) x0 16) (g_198 x0 d))))) (g_195 x0 (g_197 x0 1 20 (g_197 x0 1 6 (g_197 x0 1 4 (g_188 x0 3 ((g_198 x0 d) x0 16) (g_198 x0 d))))))) x0 10 by omega) (show d x0 13 = 0 ∨ ¬ (g_181 x0 (v_198 x0 d) (v_197 x0 1 4 (g_188 x0 3 ((g_198 x0 d) x0 16) (g_198 x0 d))) (v_197 x0 1 6 (g_197 x0 1 4 (g_188 x0 3 ((g_198 x0 d) x0 16) (g_198 x0 d)))) (v_197 x0 1 20 (g_197 x0 1 6 (g_197 x0 1 4 (g_188 x0 3 ((g_198 x0 d) x0 16) (g_198 x0 d))))) (g_195 x0 (g_197 x0 1 20 (g_197 x0 1 6 (g_197 x0 1 4 (g_188 x0 3 ((g_198 x0 d) x0 16) (g_198 x0 d))))))) x0 13 = 0 by omega) hS17
def g_203 (x0 : Int) (d : mD) : mD := if (g_198 x0 d) x0 13 = 0 then (if v_183 x0 (v_198 x0 d) (g_198 x0 d) = (-1) then (if (g_195 x0 (g_198 x0 d)) x0 13 = 0 then g_182 x0 (v_198 x0 d) (g_195 x0 (g_198 x0 d)) else g_195 x0 (g_198 x0 d)) else if (g_195 x0 (g_188 x0 3 ((g_198 x0 d) x0 16) (g_198 x0 d))) x0 13 = 0 then g_182 x0 (v_198 x0 d) (g_195 x0 (g_188 x0 3 ((g_198 x0 d) x0 16) (g_198 x0 d))) else g_195 x0 (g_188 x0 3 ((g_198 x0 d) x0 16) (g_198 x0 d))) else if (g_195 x0 (g_198 x0 d)) x0 13 = 0 then g_182 x0 (v_198 x0 d) (g_195 x0 (g_198 x0 d)) else g_195 x0 (g_198 x0 d)
theorem k_203 {E : mO × tW} {K : tK} {d : mD} {x0 : Int} (hS : Safe d) (hx0 : mdB x0) (ho : d (x0 + 1) 8 ≤ 15) (h : (∀ b : Int, (b < x0 ∨ x0 + 1 < b) → (g_203 x0 d) b = d b) → (g_203 x0 d) x0 9 = d x0 9 → (∀ i : Int, i = 7 ∨ (12 ≤ i ∧ i < 420 ∧ (i - 12) % 68 = 2) ∨ i = 0 ∨ (452 ≤ i ∧ i < 1916) → (g_203 x0 d) (x0 + 1) i = d (x0 + 1) i) → (d x0 10 ≤ (g_203 x0 d) x0 10) → (d x0 13 = 0 ∨ ¬ (g_203 x0 d) x0 13 = 0) → Safe (g_203 x0 d) → K (.inl none) (g_203 x0 d)) : tCall E 203 [.inr (11, x0)] d K := by
  refine t_203_0 ?_
  have w8 := r_11_f9 hS hx0
  have w9 := r_11_f10 hS hx0
  refine k_198 hS hx0 (fun e1 F1 k1_0 n1_0 n1_1 hS1 => ?_)
  refine t_203_4 ?_
  have w8 := r_11_f9 hS1 hx0
  have w9 := r_11_f10 hS1 hx0
  have q1 := r_11_f13 hS1 hx0
  refine ⟨m_inR (by omega) (by omega), fun c0 => ?_, fun c0 => ?_⟩
  · refine t_203_30 ?_
    have w8 := r_11_f9 hS1 hx0
    have w9 := r_11_f10 hS1 hx0
    refine k_195 hS1 hx0 (fun F2 k2_0 n2_0 n2_1 n2_2 hS2 => ?_)
    refine t_203_34 ?_
    have w8 := r_11_f9 hS2 hx0
    have w9 := r_11_f10 hS2 hx0
    have q2 := r_11_f13 hS2 hx0
    refine ⟨m_inR (by omega) (by omega), fun c1 => ?_, fun c1 => ?_⟩
    · refine t_203_46 ?_
      have w8 := r_11_f9 hS2 hx0
      have w9 := r_11_f10 hS2 hx0
      have y0 : g_203 x0 d = g_195 x0 (g_198 x0 d) := by simp only [g_203, if_neg (show ¬ (g_198 x0 d) x0 13 = 0 from c0), if_neg (show ¬ (g_195 x0 (g_198 x0 d)) x0 13 = 0 from c1)]
      rw [y0] at h
      exact h (show ∀ b : Int, (b < x0 ∨ x0 + 1 < b) → (g_195 x0 (g_198 x0 d)) b = d b from fun b hb => (F2 b (by omega)).trans (F1 b (by omega))) (show (g_195 x0 (g_198 x0 d)) x0 9 = d x0 9 from (k2_0).trans (k1_0)) (show ∀ i : Int, i = 7 ∨ (12 ≤ i ∧ i < 420 ∧ (i - 12) % 68 = 2) ∨ i = 0 ∨ (452 ≤ i ∧ i < 1916) → (g_195 x0 (g_198 x0 d)) (x0 + 1) i = d (x0 + 1) i from fun i hi => (congrFun (F2 (x0 + 1) (by omega)) i).trans (congrFun (F1 (x0 + 1) (by omega)) i)) (show d x0 10 ≤ (g_195 x0 (g_198 x0 d)) x0 10 by omega) (show d x0 13 = 0 ∨ ¬ (g_195 x0 (g_198 x0 d)) x0 13 = 0 by omega) hS2
    · have q3 : (g_195 x0 (g_198 x0 d)) (x0 + 1) 8 = d (x0 + 1) 8 := (congrFun (F2 (x0 + 1) (by omega)) 8).trans (congrFun (F1 (x0 + 1) (by omega)) 8)
      refine k_182 hS2 hx0 (by omega) (by omega) (fun F3 Q3 hS3 => ?_)
      refine t_203_46 ?_
      have w8 := r_11_f9 hS3 hx0
      have w9 := r_11_f10 hS3 hx0
      have q4 : (g_182 x0 (v_198 x0 d) (g_195 x0 (g_198 x0 d))) x0 10 = (g_195 x0 (g_198 x0 d)) x0 10 := congrFun (F3 x0 (by omega)) 10
      have q5 : (g_182 x0 (v_198 x0 d) (g_195 x0 (g_198 x0 d))) x0 13 = (g_195 x0 (g_198 x0 d)) x0 13 := congrFun (F3 x0 (by omega)) 13
      have y0 : g_203 x0 d = g_182 x0 (v_198 x0 d) (g_195 x0 (g_198 x0 d)) := by simp only [g_203, if_neg (show ¬ (g_198 x0 d) x0 13 = 0 from c0), if_pos (show (g_195 x0 (g_198 x0 d)) x0 13 = 0 from c1)]
      rw [y0] at h
      exact h (show ∀ b : Int, (b < x0 ∨ x0 + 1 < b) → (g_182 x0 (v_198 x0 d) (g_195 x0 (g_198 x0 d))) b = d b from fun b hb => (F3 b (by omega)).trans ((F2 b (by omega)).trans (F1 b (by omega)))) (show (g_182 x0 (v_198 x0 d) (g_195 x0 (g_198 x0 d))) x0 9 = d x0 9 from ((congrFun (F3 x0 (by omega)) 9).trans (k2_0)).trans (k1_0)) (show ∀ i : Int, i = 7 ∨ (12 ≤ i ∧ i < 420 ∧ (i - 12) % 68 = 2) ∨ i = 0 ∨ (452 ≤ i ∧ i < 1916) → (g_182 x0 (v_198 x0 d) (g_195 x0 (g_198 x0 d))) (x0 + 1) i = d (x0 + 1) i from fun i hi => ((Q3 i (by omega)).trans (congrFun (F2 (x0 + 1) (by omega)) i)).trans (congrFun (F1 (x0 + 1) (by omega)) i)) (show d x0 10 ≤ (g_182 x0 (v_198 x0 d) (g_195 x0 (g_198 x0 d))) x0 10 by omega) (show d x0 13 = 0 ∨ ¬ (g_182 x0 (v_198 x0 d) (g_195 x0 (g_198 x0 d))) x0 13 = 0 by omega) hS3
  · refine k_183 hS1 hx0 (m_inR (by omega) (by omega)) (fun e2 => ?_)
    refine t_203_17 ?_
    have w8 := r_11_f9 hS1 hx0
    have w9 := r_11_f10 hS1 hx0
    refine ⟨⟨m_inR (by omega) (by omega), m_inR (by omega) (by omega)⟩, fun c1 => ?_, fun c1 => ?_⟩
    · refine t_203_30 ?_
      have w8 := r_11_f9 hS1 hx0
      have w9 := r_11_f10 hS1 hx0
      refine k_195 hS1 hx0 (fun F4 k4_0 n4_0 n4_1 n4_2 hS4 => ?_)
      refine t_203_34 ?_
      have w8 := r_11_f9 hS4 hx0
      have w9 := r_11_f10 hS4 hx0
      have q6 := r_11_f13 hS4 hx0
      refine ⟨m_inR (by omega) (by omega), fun c2 => ?_, fun c2 => ?_⟩
      · refine t_203_46 ?_
        have w8 := r_11_f9 hS4 hx0
        have w9 := r_11_f10 hS4 hx0
        have y0 : g_203 x0 d = g_195 x0 (g_198 x0 d) := by simp only [g_203, if_pos (show (g_198 x0 d) x0 13 = 0 from c0), if_pos (show v_183 x0 (v_198 x0 d) (g_198 x0 d) = (-1) from c1), if_neg (show ¬ (g_195 x0 (g_198 x0 d)) x0 13 = 0 from c2)]
        rw [y0] at h
        exact h (show ∀ b : Int, (b < x0 ∨ x0 + 1 < b) → (g_195 x0 (g_198 x0 d)) b = d b from fun b hb => (F4 b (by omega)).trans (F1 b (by omega))) (show (g_195 x0 (g_198 x0 d)) x0 9 = d x0 9 from (k4_0).trans (k1_0)) (show ∀ i : Int, i = 7 ∨ (12 ≤ i ∧ i < 420 ∧ (i - 12) % 68 = 2) ∨ i = 0 ∨ (452 ≤ i ∧ i < 1916) → (g_195 x0 (g_198 x0 d)) (x0 + 1) i = d (x0 + 1) i from fun i hi => (congrFun (F4 (x0 + 1) (by omega)) i).trans (congrFun (F1 (x0 + 1) (by omega)) i)) (show d x0 10 ≤ (g_195 x0 (g_198 x0 d)) x0 10 by omega) (show d x0 13 = 0 ∨ ¬ (g_195 x0 (g_198 x0 d)) x0 13 = 0 by omega) hS4
      · have q7 : (g_195 x0 (g_198 x0 d)) (x0 + 1) 8 = d (x0 + 1) 8 := (congrFun (F4 (x0 + 1) (by omega)) 8).trans (congrFun (F1 (x0 + 1) (by omega)) 8)
        refine k_182 hS4 hx0 (by omega) (by omega) (fun F5 Q5 hS5 => ?_)
        refine t_203_46 ?_
        have w8 := r_11_f9 hS5 hx0
        have w9 := r_11_f10 hS5 hx0
        have q8 : (g_182 x0 (v_198 x0 d) (g_195 x0 (g_198 x0 d))) x0 10 = (g_195 x0 (g_198 x0 d)) x0 10 := congrFun (F5 x0 (by omega)) 10
        have q9 : (g_182 x0 (v_198 x0 d) (g_195 x0 (g_198 x0 d))) x0 13 = (g_195 x0 (g_198 x0 d)) x0 13 := congrFun (F5 x0 (by omega)) 13
        have y0 : g_203 x0 d = g_182 x0 (v_198 x0 d) (g_195 x0 (g_198 x0 d)) := by simp only [g_203, if_pos (show (g_198 x0 d) x0 13 = 0 from c0), if_pos (show v_183 x0 (v_198 x0 d) (g_198 x0 d) = (-1) from c1), if_pos (show (g_195 x0 (g_198 x0 d)) x0 13 = 0 from c2)]
        rw [y0] at h
        exact h (show ∀ b : Int, (b < x0 ∨ x0 + 1 < b) → (g_182 x0 (v_198 x0 d) (g_195 x0 (g_198 x0 d))) b = d b from fun b hb => (F5 b (by omega)).trans ((F4 b (by omega)).trans (F1 b (by omega)))) (show (g_182 x0 (v_198 x0 d) (g_195 x0 (g_198 x0 d))) x0 9 = d x0 9 from ((congrFun (F5 x0 (by omega)) 9).trans (k4_0)).trans (k1_0)) (show ∀ i : Int, i = 7 ∨ (12 ≤ i ∧ i < 420 ∧ (i - 12) % 68 = 2) ∨ i = 0 ∨ (452 ≤ i ∧ i < 1916) → (g_182 x0 (v_198 x0 d) (g_195 x0 (g_198 x0 d))) (x0 + 1) i = d (x0 + 1) i from fun i hi => ((Q5 i (by omega)).trans (congrFun (F4 (x0 + 1) (by omega)) i)).trans (congrFun (F1 (x0 + 1) (by omega)) i)) (show d x0 10 ≤ (g_182 x0 (v_198 x0 d) (g_195 x0 (g_198 x0 d))) x0 10 by omega) (show d x0 13 = 0 ∨ ¬ (g_182 x0 (v_198 x0 d) (g_195 x0 (g_198 x0 d))) x0 13 = 0 by omega) hS5
    · have q10 := r_11_f16 hS1 hx0
      refine k_188 hS1 hx0 (by omega) (by omega) (fun F6 k6_0 n6_0 n6_1 n6_2 hS6 => ?_)
      refine t_203_30 ?_
      have w8 := r_11_f9 hS6 hx0
      have w9 := r_11_f10 hS6 hx0
      refine k_195 hS6 hx0 (fun F7 k7_0 n7_0 n7_1 n7_2 hS7 => ?_)
      refine t_203_34 ?_
      have w8 := r_11_f9 hS7 hx0
      have w9 := r_11_f10 hS7 hx0
      have q11 := r_11_f13 hS7 hx0
      refine ⟨m_inR (by omega) (by omega), fun c2 => ?_, fun c2 => ?_⟩
      · refine t_203_46 ?_
        have w8 := r_11_f9 hS7 hx0
        have w9 := r_11_f10 hS7 hx0
        have y0 : g_203 x0 d = g_195 x0 (g_188 x0 3 ((g_198 x0 d) x0 16) (g_198 x0 d)) := by simp only [g_203, if_pos (show (g_198 x0 d) x0 13 = 0 from c0), if_neg (show ¬ v_183 x0 (v_198 x0 d) (g_198 x0 d) = (-1) from c1), if_neg (show ¬ (g_195 x0 (g_188 x0 3 ((g_198 x0 d) x0 16) (g_198 x0 d))) x0 13 = 0 from c2)]
        rw [y0] at h
        exact h (show ∀ b : Int, (b < x0 ∨ x0 + 1 < b) → (g_195 x0 (g_188 x0 3 ((g_198 x0 d) x0 16) (g_198 x0 d))) b = d b from fun b hb => (F7 b (by omega)).trans ((F6 b (by omega)).trans (F1 b (by omega)))) (show (g_195 x0 (g_188 x0 3 ((g_198 x0 d) x0 16) (g_198 x0 d))) x0 9 = d x0 9 from ((k7_0).trans (k6_0)).trans (k1_0)) (show ∀ i : Int, i = 7 ∨ (12 ≤ i ∧ i < 420 ∧ (i - 12) % 68 = 2) ∨ i = 0 ∨ (452 ≤ i ∧ i < 1916) → (g_195 x0 (g_188 x0 3 ((g_198 x0 d) x0 16) (g_198 x0 d))) (x0 + 1) i = d (x0 + 1) i from fun i hi => ((congrFun (F7 (x0 + 1) (by omega)) i).trans (congrFun (F6 (x0 + 1) (by omega)) i)).trans (congrFun (F1 (x0 + 1) (by omega)) i)) (show d x0 10 ≤ (g_195 x0 (g_188 x0 3 ((g_198 x0 d) x0 16) (g_198 x0 d))) x0 10 by omega) (show d x0 13 = 0 ∨ ¬ (g_195 x0 (g_188 x0 3 ((g_198 x0 d) x0 16) (g_198 x0 d))) x0 13 = 0 by omega) hS7
      · have q12 : (g_195 x0 (g_188 x0 3 ((g_198 x0 d) x0 16) (g_198 x0 d))) (x0 + 1) 8 = d (x0 + 1) 8 := ((congrFun (F7 (x0 + 1) (by omega)) 8).trans (congrFun (F6 (x0 + 1) (by omega)) 8)).trans (congrFun (F1 (x0 + 1) (by omega)) 8)
        refine k_182 hS7 hx0 (by omega) (by omega) (fun F8 Q8 hS8 => ?_)
        refine t_203_46 ?_
        have w8 := r_11_f9 hS8 hx0
        have w9 := r_11_f10 hS8 hx0
        have q13 : (g_182 x0 (v_198 x0 d) (g_195 x0 (g_188 x0 3 ((g_198 x0 d) x0 16) (g_198 x0 d)))) x0 10 = (g_195 x0 (g_188 x0 3 ((g_198 x0 d) x0 16) (g_198 x0 d))) x0 10 := congrFun (F8 x0 (by omega)) 10
        have q14 : (g_182 x0 (v_198 x0 d) (g_195 x0 (g_188 x0 3 ((g_198 x0 d) x0 16) (g_198 x0 d)))) x0 13 = (g_195 x0 (g_188 x0 3 ((g_198 x0 d) x0 16) (g_198 x0 d))) x0 13 := congrFun (F8 x0 (by omega)) 13
        have y0 : g_203 x0 d = g_182 x0 (v_198 x0 d) (g_195 x0 (g_188 x0 3 ((g_198 x0 d) x0 16) (g_198 x0 d))) := by simp only [g_203, if_pos (show (g_198 x0 d) x0 13 = 0 from c0), if_neg (show ¬ v_183 x0 (v_198 x0 d) (g_198 x0 d) = (-1) from c1), if_pos (show (g_195 x0 (g_188 x0 3 ((g_198 x0 d) x0 16) (g_198 x0 d))) x0 13 = 0 from c2)]
        rw [y0] at h
        exact h (show ∀ b : Int, (b < x0 ∨ x0 + 1 < b) → (g_182 x0 (v_198 x0 d) (g_195 x0 (g_188 x0 3 ((g_198 x0 d) x0 16) (g_198 x0 d)))) b = d b from fun b hb => (F8 b (by omega)).trans ((F7 b (by omega)).trans ((F6 b (by omega)).trans (F1 b (by omega))))) (show (g_182 x0 (v_198 x0 d) (g_195 x0 (g_188 x0 3 ((g_198 x0 d) x0 16) (g_198 x0 d)))) x0 9 = d x0 9 from (((congrFun (F8 x0 (by omega)) 9).trans (k7_0)).trans (k6_0)).trans (k1_0)) (show ∀ i : Int, i = 7 ∨ (12 ≤ i ∧ i < 420 ∧ (i - 12) % 68 = 2) ∨ i = 0 ∨ (452 ≤ i ∧ i < 1916) → (g_182 x0 (v_198 x0 d) (g_195 x0 (g_188 x0 3 ((g_198 x0 d) x0 16) (g_198 x0 d)))) (x0 + 1) i = d (x0 + 1) i from fun i hi => (((Q8 i (by omega)).trans (congrFun (F7 (x0 + 1) (by omega)) i)).trans (congrFun (F6 (x0 + 1) (by omega)) i)).trans (congrFun (F1 (x0 + 1) (by omega)) i)) (show d x0 10 ≤ (g_182 x0 (v_198 x0 d) (g_195 x0 (g_188 x0 3 ((g_198 x0 d) x0 16) (g_198 x0 d)))) x0 10 by omega) (show d x0 13 = 0 ∨ ¬ (g_182 x0 (v_198 x0 d) (g_195 x0 (g_188 x0 3 ((g_198 x0 d) x0 16) (g_198 x0 d)))) x0 13 = 0 by omega) hS8
def st_204_13 (x0 x1 : Int) (r13 : Int → mD → mD) (x2 : Int) (d : mD) : mD := if x2 = 0 then d else if x1 = 0 then (if v_194 x0 232608281 (g_189 x0 d) = 0 then (if (g_194 x0 232608281 (g_189 x0 d)) x0 13 = 0 then r13 (miand (v_194 x0 232608281 (g_189 x0 d)) 1) (g_194 x0 232608281 (g_189 x0 d)) else r13 (miand (v_194 x0 232608281 (g_189 x0 d)) 0) (g_194 x0 232608281 (g_189 x0 d))) else if d (x0 + 1) 8 = 16 then (if (g_188 x0 5 ((g_189 x0 d) x0 10) (g_194 x0 232608281 (g_189 x0 d))) x0 13 = 0 then r13 (miand (v_194 x0 232608281 (g_189 x0 d)) 1) (g_188 x0 5 ((g_189 x0 d) x0 10) (g_194 x0 232608281 (g_189 x0 d))) else r13 (miand (v_194 x0 232608281 (g_189 x0 d)) 0) (g_188 x0 5 ((g_189 x0 d) x0 10) (g_194 x0 232608281 (g_189 x0 d)))) else if (g_203 x0 (g_194 x0 232608281 (g_189 x0 d))) x0 13 = 0 then r13 (miand (v_194 x0 232608281 (g_189 x0 d)) 1) (g_203 x0 (g_194 x0 232608281 (g_189 x0 d))) else r13 (miand (v_194 x0 232608281 (g_189 x0 d)) 0) (g_203 x0 (g_194 x0 232608281 (g_189 x0 d)))) else if v_194 x0 218546996 (g_189 x0 d) = 0 then (if d (x0 + 1) 7 = 0 then (if (g_188 x0 1 ((g_189 x0 d) x0 10) (g_194 x0 218546996 (g_189 x0 d))) x0 13 = 0 then r13 (miand (v_194 x0 218546996 (g_189 x0 d)) 1) (g_188 x0 1 ((g_189 x0 d) x0 10) (g_194 x0 218546996 (g_189 x0 d))) else r13 (miand (v_194 x0 218546996 (g_189 x0 d)) 0) (g_188 x0 1 ((g_189 x0 d) x0 10) (g_194 x0 218546996 (g_189 x0 d)))) else if (g_194 x0 218546996 (g_189 x0 d)) x0 13 = 0 then r13 (miand (v_194 x0 218546996 (g_189 x0 d)) 1) (g_194 x0 218546996 (g_189 x0 d)) else r13 (miand (v_194 x0 218546996 (g_189 x0 d)) 0) (g_194 x0 218546996 (g_189 x0 d))) else if d (x0 + 1) 7 = 6 then (if (g_188 x0 5 ((g_189 x0 d) x0 10) (g_194 x0 218546996 (g_189 x0 d))) x0 13 = 0 then r13 (miand (v_194 x0 218546996 (g_189 x0 d)) 1) (g_188 x0 5 ((g_189 x0 d) x0 10) (g_194 x0 218546996 (g_189 x0 d))) else r13 (miand (v_194 x0 218546996 (g_189 x0 d)) 0) (g_188 x0 5 ((g_189 x0 d) x0 10) (g_194 x0 218546996 (g_189 x0 d)))) else if (g_202 x0 (g_194 x0 218546996 (g_189 x0 d))) x0 13 = 0 then r13 (miand (v_194 x0 218546996 (g_189 x0 d)) 1) (g_202 x0 (g_194 x0 218546996 (g_189 x0 d))) else r13 (miand (v_194 x0 218546996 (g_189 x0 d)) 0) (g_202 x0 (g_194 x0 218546996 (g_189 x0 d)))
def lp_204_13 (x0 x1 : Int) : Nat → Int → mD → mD
  | 0 => st_204_13 x0 x1 (fun _ d => d)
  | n + 1 => st_204_13 x0 x1 (lp_204_13 x0 x1 n)
theorem ls_204_13 {E : mO × tW} {K : tK} {x0 x1 : Int} (hx0 : mdB x0) (p1 : 0 ≤ x1 ∧ x1 ≤ 1) (N13 : Int) (r13 : Int → mD → mD) (ih13 : ∀ (x2 : Int) (v3 : tV) (d : mD), Safe d → (mpP (d (x0 + 1))) → (0 ≤ x2 ∧ x2 ≤ 1) → (0 ≤ x1 ∧ x1 ≤ 1) → 0 ≤ 1000 - d x0 10 + x2 → 1000 - d x0 10 + x2 < N13 → ((∀ b : Int, (b < x0 ∨ x0 + 1 < b) → (r13 x2 d) b = d b) → (r13 x2 d) x0 9 = d x0 9 → (∀ i : Int, i = 0 ∨ (452 ≤ i ∧ i < 1916) → (r13 x2 d) (x0 + 1) i = d (x0 + 1) i) → mpP ((r13 x2 d) (x0 + 1)) → (d x0 10 ≤ (r13 x2 d) x0 10) → (d x0 13 = 0 ∨ ¬ (r13 x2 d) x0 13 = 0) → Safe (r13 x2 d) → K (.inl none) (r13 x2 d)) → tRun E 204 (13, [.inr (11, x0), .inl (0, x1), .inl (0, x2), v3], [], 0, 0, d) K) (x2 : Int) (v3 : tV) (d : mD) (hS : Safe d) (hmp : mpP (d (x0 + 1))) (i1 : 0 ≤ x2 ∧ x2 ≤ 1) (i2 : 0 ≤ x1 ∧ x1 ≤ 1) (hm : 1000 - d x0 10 + x2 ≤ N13) (h : (∀ b : Int, (b < x0 ∨ x0 + 1 < b) → (st_204_13 x0 x1 r13 x2 d) b = d b) → (st_204_13 x0 x1 r13 x2 d) x0 9 = d x0 9 → (∀ i : Int, i = 0 ∨ (452 ≤ i ∧ i < 1916) → (st_204_13 x0 x1 r13 x2 d) (x0 + 1) i = d (x0 + 1) i) → mpP ((st_204_13 x0 x1 r13 x2 d) (x0 + 1)) → (d x0 10 ≤ (st_204_13 x0 x1 r13 x2 d) x0 10) → (d x0 13 = 0 ∨ ¬ (st_204_13 x0 x1 r13 x2 d) x0 13 = 0) → Safe (st_204_13 x0 x1 r13 x2 d) → K (.inl none) (st_204_13 x0 x1 r13 x2 d)) : tRun E 204 (13, [.inr (11, x0), .inl (0, x1), .inl (0, x2), v3], [], 0, 0, d) K := by
  refine t_204_13 ?_
  have w8 := r_11_f9 hS hx0
  have w9 := r_11_f10 hS hx0
  refine ⟨m_inR (by omega) (by omega), fun c0 => ?_, fun c0 => ?_⟩
  · have y0 : st_204_13 x0 x1 r13 x2 d = d := by simp only [st_204_13, if_pos (show x2 = 0 from c0)]
    rw [y0] at h
    exact h (show ∀ b : Int, (b < x0 ∨ x0 + 1 < b) → d b = d b from fun _ _ => rfl) (show d x0 9 = d x0 9 from rfl) (show ∀ i : Int, i = 0 ∨ (452 ≤ i ∧ i < 1916) → d (x0 + 1) i = d (x0 + 1) i from fun _ _ => rfl) hmp (show d x0 10 ≤ d x0 10 by omega) (show d x0 13 = 0 ∨ ¬ d x0 13 = 0 by omega) hS
  · refine k_189 hS hx0 (fun F1 k1_0 n1_0 n1_1 hS1 => ?_)
    refine t_204_21 ?_
    have w8 := r_11_f9 hS1 hx0
    have w9 := r_11_f10 hS1 hx0
    refine ⟨m_inR (by omega) (by omega), fun c1 => ?_, fun c1 => ?_⟩
    · refine k_194 hS1 hx0 (by omega) (fun e1 F2 k2_0 n2_0 n2_1 n2_2 hS2 => ?_)
      refine t_204_43 ?_
      have w8 := r_11_f9 hS2 hx0
      have w9 := r_11_f10 hS2 hx0
      refine ⟨m_inR (by omega) (by omega), fun c2 => ?_, fun c2 => ?_⟩
      · refine t_204_88 ?_
        have w8 := r_11_f9 hS2 hx0
        have w9 := r_11_f10 hS2 hx0
        refine ⟨m_inR (by omega) (by omega), fun c3 => ?_, fun c3 => ?_⟩
        · refine ⟨m_inR (by omega) (by omega), fun c4 => ?_, fun c4 => ?_⟩
          · refine ⟨m_inR (by omega) (by omega), fun c5 => ?_, fun c5 => ?_⟩
            · refine t_204_134 ?_
              have w8 := r_11_f9 hS2 hx0
              have w9 := r_11_f10 hS2 hx0
              have q1 := r_11_f13 hS2 hx0
              refine ⟨m_inR (by omega) (by omega), fun c6 => ?_, fun c6 => ?_⟩
              · have q2 := miand_r (v_194 x0 232608281 (g_189 x0 d)) 0 (by decide) (by decide)
                have q3 := mbool (v_194 x0 232608281 (g_189 x0 d))
                have q4 := r_11_f10 hS2 hx0
                refine ih13 (miand (v_194 x0 232608281 (g_189 x0 d)) 0) (.inl (0, (g_189 x0 d) x0 10)) (g_194 x0 232608281 (g_189 x0 d)) hS2 (mpP.of (mh_7 hS hx0 _ rfl) (show ∀ i : Int, i = 7 ∨ (12 ≤ i ∧ i < 420 ∧ (i - 12) % 68 = 2) → (g_194 x0 232608281 (g_189 x0 d)) (x0 + 1) i = d (x0 + 1) i from fun i hi => (congrFun (F2 (x0 + 1) (by omega)) i).trans (congrFun (F1 (x0 + 1) (by omega)) i)) hmp) (by omega) (by omega) (by omega) (by omega) ?_
                intro F k0 Q P_hmp n0 n1 hS_
                have y0 : st_204_13 x0 x1 r13 x2 d = r13 (miand (v_194 x0 232608281 (g_189 x0 d)) 0) (g_194 x0 232608281 (g_189 x0 d)) := by simp only [st_204_13, if_neg (show ¬ x2 = 0 from c0), if_pos (show x1 = 0 from c1), if_pos (show v_194 x0 232608281 (g_189 x0 d) = 0 from c2), if_pos (show v_194 x0 232608281 (g_189 x0 d) = 0 from c3), if_pos (show v_194 x0 232608281 (g_189 x0 d) = 0 from c4), if_pos (show x1 = 0 from c5), if_neg (show ¬ (g_194 x0 232608281 (g_189 x0 d)) x0 13 = 0 from c6)]
                rw [y0] at h
                exact h (fun b hb => (F b hb).trans ((show ∀ b : Int, (b < x0 ∨ x0 + 1 < b) → (g_194 x0 232608281 (g_189 x0 d)) b = d b from fun b hb => (F2 b (by omega)).trans (F1 b (by omega))) b hb)) (k0.trans ((k2_0).trans (k1_0))) (fun i hi => (Q i hi).trans ((show ∀ i : Int, i = 0 ∨ (452 ≤ i ∧ i < 1916) → (g_194 x0 232608281 (g_189 x0 d)) (x0 + 1) i = d (x0 + 1) i from fun i hi => (congrFun (F2 (x0 + 1) (by omega)) i).trans (congrFun (F1 (x0 + 1) (by omega)) i)) i hi)) P_hmp (by omega) (by omega) hS_
              · have q5 := miand_r (v_194 x0 232608281 (g_189 x0 d)) 1 (by decide) (by decide)
                have q6 := mbool (v_194 x0 232608281 (g_189 x0 d))
                have q7 := r_11_f10 hS2 hx0
                refine ih13 (miand (v_194 x0 232608281 (g_189 x0 d)) 1) (.inl (0, (g_189 x0 d) x0 10)) (g_194 x0 232608281 (g_189 x0 d)) hS2 (mpP.of (mh_7 hS hx0 _ rfl) (show ∀ i : Int, i = 7 ∨ (12 ≤ i ∧ i < 420 ∧ (i - 12) % 68 = 2) → (g_194 x0 232608281 (g_189 x0 d)) (x0 + 1) i = d (x0 + 1) i from fun i hi => (congrFun (F2 (x0 + 1) (by omega)) i).trans (congrFun (F1 (x0 + 1) (by omega)) i)) hmp) (by omega) (by omega) (by omega) (by omega) ?_
                intro F k0 Q P_hmp n0 n1 hS_
                have y0 : st_204_13 x0 x1 r13 x2 d = r13 (miand (v_194 x0 232608281 (g_189 x0 d)) 1) (g_194 x0 232608281 (g_189 x0 d)) := by simp only [st_204_13, if_neg (show ¬ x2 = 0 from c0), if_pos (show x1 = 0 from c1), if_pos (show v_194 x0 232608281 (g_189 x0 d) = 0 from c2), if_pos (show v_194 x0 232608281 (g_189 x0 d) = 0 from c3), if_pos (show v_194 x0 232608281 (g_189 x0 d) = 0 from c4), if_pos (show x1 = 0 from c5), if_pos (show (g_194 x0 232608281 (g_189 x0 d)) x0 13 = 0 from c6)]
                rw [y0] at h
                exact h (fun b hb => (F b hb).trans ((show ∀ b : Int, (b < x0 ∨ x0 + 1 < b) → (g_194 x0 232608281 (g_189 x0 d)) b = d b from fun b hb => (F2 b (by omega)).trans (F1 b (by omega))) b hb)) (k0.trans ((k2_0).trans (k1_0))) (fun i hi => (Q i hi).trans ((show ∀ i : Int, i = 0 ∨ (452 ≤ i ∧ i < 1916) → (g_194 x0 232608281 (g_189 x0 d)) (x0 + 1) i = d (x0 + 1) i from fun i hi => (congrFun (F2 (x0 + 1) (by omega)) i).trans (congrFun (F1 (x0 + 1) (by omega)) i)) i hi)) P_hmp (by omega) (by omega) hS_
            · exact (show False by omega).elim
          · exact (show False by omega).elim
        · exact (show False by omega).elim
      · refine ⟨m_inR (by omega) (by omega), fun c3 => ?_, fun c3 => ?_⟩
        · rw [F2 (x0 + 1) (by omega)]
          rw [F1 (x0 + 1) (by omega)]
          have q8 := mh_8 hS hx0 _ rfl
          refine ⟨by omega, ⟨m_inR (by omega) (by omega), m_inR (by omega) (by omega)⟩, fun c4 => ?_, fun c4 => ?_⟩
          · refine t_204_88 ?_
            have w8 := r_11_f9 hS2 hx0
            have w9 := r_11_f10 hS2 hx0
            refine ⟨m_inR (by omega) (by omega), fun c5 => ?_, fun c5 => ?_⟩
            · exact (show False by omega).elim
            · refine ⟨m_inR (by omega) (by omega), fun c6 => ?_, fun c6 => ?_⟩
              · refine ⟨m_inR (by omega) (by omega), fun c7 => ?_, fun c7 => ?_⟩
                · exact (show False by omega).elim
                · have q9 : (g_194 x0 232608281 (g_189 x0 d)) (x0 + 1) 8 = d (x0 + 1) 8 := (congrFun (F2 (x0 + 1) (by omega)) 8).trans (congrFun (F1 (x0 + 1) (by omega)) 8)
                  refine k_203 hS2 hx0 (by omega) (fun F3 k3_0 Q3 n3_0 n3_1 hS3 => ?_)
                  refine t_204_111 ?_
                  have w8 := r_11_f9 hS3 hx0
                  have w9 := r_11_f10 hS3 hx0
                  refine t_204_134 ?_
                  have w8 := r_11_f9 hS3 hx0
                  have w9 := r_11_f10 hS3 hx0
                  have q10 := r_11_f13 hS3 hx0
                  refine ⟨m_inR (by omega) (by omega), fun c8 => ?_, fun c8 => ?_⟩
                  · have q11 := miand_r (v_194 x0 232608281 (g_189 x0 d)) 0 (by decide) (by decide)
                    have q12 := mbool (v_194 x0 232608281 (g_189 x0 d))
                    have q13 := r_11_f10 hS3 hx0
                    refine ih13 (miand (v_194 x0 232608281 (g_189 x0 d)) 0) (.inl (0, (g_189 x0 d) x0 10)) (g_203 x0 (g_194 x0 232608281 (g_189 x0 d))) hS3 (mpP.of (mh_7 hS hx0 _ rfl) (show ∀ i : Int, i = 7 ∨ (12 ≤ i ∧ i < 420 ∧ (i - 12) % 68 = 2) → (g_203 x0 (g_194 x0 232608281 (g_189 x0 d))) (x0 + 1) i = d (x0 + 1) i from fun i hi => ((Q3 i (by omega)).trans (congrFun (F2 (x0 + 1) (by omega)) i)).trans (congrFun (F1 (x0 + 1) (by omega)) i)) hmp) (by omega) (by omega) (by omega) (by omega) ?_
                    intro F k0 Q P_hmp n0 n1 hS_
                    have y0 : st_204_13 x0 x1 r13 x2 d = r13 (miand (v_194 x0 232608281 (g_189 x0 d)) 0) (g_203 x0 (g_194 x0 232608281 (g_189 x0 d))) := by simp only [st_204_13, if_neg (show ¬ x2 = 0 from c0), if_pos (show x1 = 0 from c1), if_neg (show ¬ v_194 x0 232608281 (g_189 x0 d) = 0 from c2), if_pos (show x1 = 0 from c3), if_neg (show ¬ d (x0 + 1) 8 = 16 from c4), if_neg (show ¬ v_194 x0 232608281 (g_189 x0 d) = 0 from c5), if_pos (show x1 = 0 from c6), if_neg (show ¬ v_194 x0 232608281 (g_189 x0 d) = 0 from c7), if_neg (show ¬ (g_203 x0 (g_194 x0 232608281 (g_189 x0 d))) x0 13 = 0 from c8)]
                    rw [y0] at h
                    exact h (fun b hb => (F b hb).trans ((show ∀ b : Int, (b < x0 ∨ x0 + 1 < b) → (g_203 x0 (g_194 x0 232608281 (g_189 x0 d))) b = d b from fun b hb => (F3 b (by omega)).trans ((F2 b (by omega)).trans (F1 b (by omega)))) b hb)) (k0.trans (((k3_0).trans (k2_0)).trans (k1_0))) (fun i hi => (Q i hi).trans ((show ∀ i : Int, i = 0 ∨ (452 ≤ i ∧ i < 1916) → (g_203 x0 (g_194 x0 232608281 (g_189 x0 d))) (x0 + 1) i = d (x0 + 1) i from fun i hi => ((Q3 i (by omega)).trans (congrFun (F2 (x0 + 1) (by omega)) i)).trans (congrFun (F1 (x0 + 1) (by omega)) i)) i hi)) P_hmp (by omega) (by omega) hS_
                  · have q14 := miand_r (v_194 x0 232608281 (g_189 x0 d)) 1 (by decide) (by decide)
                    have q15 := mbool (v_194 x0 232608281 (g_189 x0 d))
                    have q16 := r_11_f10 hS3 hx0
                    refine ih13 (miand (v_194 x0 232608281 (g_189 x0 d)) 1) (.inl (0, (g_189 x0 d) x0 10)) (g_203 x0 (g_194 x0 232608281 (g_189 x0 d))) hS3 (mpP.of (mh_7 hS hx0 _ rfl) (show ∀ i : Int, i = 7 ∨ (12 ≤ i ∧ i < 420 ∧ (i - 12) % 68 = 2) → (g_203 x0 (g_194 x0 232608281 (g_189 x0 d))) (x0 + 1) i = d (x0 + 1) i from fun i hi => ((Q3 i (by omega)).trans (congrFun (F2 (x0 + 1) (by omega)) i)).trans (congrFun (F1 (x0 + 1) (by omega)) i)) hmp) (by omega) (by omega) (by omega) (by omega) ?_
                    intro F k0 Q P_hmp n0 n1 hS_
                    have y0 : st_204_13 x0 x1 r13 x2 d = r13 (miand (v_194 x0 232608281 (g_189 x0 d)) 1) (g_203 x0 (g_194 x0 232608281 (g_189 x0 d))) := by simp only [st_204_13, if_neg (show ¬ x2 = 0 from c0), if_pos (show x1 = 0 from c1), if_neg (show ¬ v_194 x0 232608281 (g_189 x0 d) = 0 from c2), if_pos (show x1 = 0 from c3), if_neg (show ¬ d (x0 + 1) 8 = 16 from c4), if_neg (show ¬ v_194 x0 232608281 (g_189 x0 d) = 0 from c5), if_pos (show x1 = 0 from c6), if_neg (show ¬ v_194 x0 232608281 (g_189 x0 d) = 0 from c7), if_pos (show (g_203 x0 (g_194 x0 232608281 (g_189 x0 d))) x0 13 = 0 from c8)]
                    rw [y0] at h
                    exact h (fun b hb => (F b hb).trans ((show ∀ b : Int, (b < x0 ∨ x0 + 1 < b) → (g_203 x0 (g_194 x0 232608281 (g_189 x0 d))) b = d b from fun b hb => (F3 b (by omega)).trans ((F2 b (by omega)).trans (F1 b (by omega)))) b hb)) (k0.trans (((k3_0).trans (k2_0)).trans (k1_0))) (fun i hi => (Q i hi).trans ((show ∀ i : Int, i = 0 ∨ (452 ≤ i ∧ i < 1916) → (g_203 x0 (g_194 x0 232608281 (g_189 x0 d))) (x0 + 1) i = d (x0 + 1) i from fun i hi => ((Q3 i (by omega)).trans (congrFun (F2 (x0 + 1) (by omega)) i)).trans (congrFun (F1 (x0 + 1) (by omega)) i)) i hi)) P_hmp (by omega) (by omega) hS_
              · exact (show False by omega).elim
          · refine t_204_79 ?_
            have w8 := r_11_f9 hS2 hx0
            have w9 := r_11_f10 hS2 hx0
            have q17 := r_11_f10 hS1 hx0
            refine k_188 hS2 hx0 (by omega) (by omega) (fun F4 k4_0 n4_0 n4_1 n4_2 hS4 => ?_)
            refine t_204_85 ?_
            have w8 := r_11_f9 hS4 hx0
            have w9 := r_11_f10 hS4 hx0
            refine t_204_134 ?_
            have w8 := r_11_f9 hS4 hx0
            have w9 := r_11_f10 hS4 hx0
            have q18 := r_11_f13 hS4 hx0
            refine ⟨m_inR (by omega) (by omega), fun c5 => ?_, fun c5 => ?_⟩
            · have q19 := miand_r (v_194 x0 232608281 (g_189 x0 d)) 0 (by decide) (by decide)
              have q20 := mbool (v_194 x0 232608281 (g_189 x0 d))
              have q21 := r_11_f10 hS4 hx0
              refine ih13 (miand (v_194 x0 232608281 (g_189 x0 d)) 0) (.inl (0, (g_189 x0 d) x0 10)) (g_188 x0 5 ((g_189 x0 d) x0 10) (g_194 x0 232608281 (g_189 x0 d))) hS4 (mpP.of (mh_7 hS hx0 _ rfl) (show ∀ i : Int, i = 7 ∨ (12 ≤ i ∧ i < 420 ∧ (i - 12) % 68 = 2) → (g_188 x0 5 ((g_189 x0 d) x0 10) (g_194 x0 232608281 (g_189 x0 d))) (x0 + 1) i = d (x0 + 1) i from fun i hi => ((congrFun (F4 (x0 + 1) (by omega)) i).trans (congrFun (F2 (x0 + 1) (by omega)) i)).trans (congrFun (F1 (x0 + 1) (by omega)) i)) hmp) (by omega) (by omega) (by omega) (by omega) ?_
              intro F k0 Q P_hmp n0 n1 hS_
              have y0 : st_204_13 x0 x1 r13 x2 d = r13 (miand (v_194 x0 232608281 (g_189 x0 d)) 0) (g_188 x0 5 ((g_189 x0 d) x0 10) (g_194 x0 232608281 (g_189 x0 d))) := by simp only [st_204_13, if_neg (show ¬ x2 = 0 from c0), if_pos (show x1 = 0 from c1), if_neg (show ¬ v_194 x0 232608281 (g_189 x0 d) = 0 from c2), if_pos (show x1 = 0 from c3), if_pos (show d (x0 + 1) 8 = 16 from c4), if_neg (show ¬ (g_188 x0 5 ((g_189 x0 d) x0 10) (g_194 x0 232608281 (g_189 x0 d))) x0 13 = 0 from c5)]
              rw [y0] at h
              exact h (fun b hb => (F b hb).trans ((show ∀ b : Int, (b < x0 ∨ x0 + 1 < b) → (g_188 x0 5 ((g_189 x0 d) x0 10) (g_194 x0 232608281 (g_189 x0 d))) b = d b from fun b hb => (F4 b (by omega)).trans ((F2 b (by omega)).trans (F1 b (by omega)))) b hb)) (k0.trans (((k4_0).trans (k2_0)).trans (k1_0))) (fun i hi => (Q i hi).trans ((show ∀ i : Int, i = 0 ∨ (452 ≤ i ∧ i < 1916) → (g_188 x0 5 ((g_189 x0 d) x0 10) (g_194 x0 232608281 (g_189 x0 d))) (x0 + 1) i = d (x0 + 1) i from fun i hi => ((congrFun (F4 (x0 + 1) (by omega)) i).trans (congrFun (F2 (x0 + 1) (by omega)) i)).trans (congrFun (F1 (x0 + 1) (by omega)) i)) i hi)) P_hmp (by omega) (by omega) hS_
            · have q22 := miand_r (v_194 x0 232608281 (g_189 x0 d)) 1 (by decide) (by decide)
              have q23 := mbool (v_194 x0 232608281 (g_189 x0 d))
              have q24 := r_11_f10 hS4 hx0
              refine ih13 (miand (v_194 x0 232608281 (g_189 x0 d)) 1) (.inl (0, (g_189 x0 d) x0 10)) (g_188 x0 5 ((g_189 x0 d) x0 10) (g_194 x0 232608281 (g_189 x0 d))) hS4 (mpP.of (mh_7 hS hx0 _ rfl) (show ∀ i : Int, i = 7 ∨ (12 ≤ i ∧ i < 420 ∧ (i - 12) % 68 = 2) → (g_188 x0 5 ((g_189 x0 d) x0 10) (g_194 x0 232608281 (g_189 x0 d))) (x0 + 1) i = d (x0 + 1) i from fun i hi => ((congrFun (F4 (x0 + 1) (by omega)) i).trans (congrFun (F2 (x0 + 1) (by omega)) i)).trans (congrFun (F1 (x0 + 1) (by omega)) i)) hmp) (by omega) (by omega) (by omega) (by omega) ?_
              intro F k0 Q P_hmp n0 n1 hS_
              have y0 : st_204_13 x0 x1 r13 x2 d = r13 (miand (v_194 x0 232608281 (g_189 x0 d)) 1) (g_188 x0 5 ((g_189 x0 d) x0 10) (g_194 x0 232608281 (g_189 x0 d))) := by simp only [st_204_13, if_neg (show ¬ x2 = 0 from c0), if_pos (show x1 = 0 from c1), if_neg (show ¬ v_194 x0 232608281 (g_189 x0 d) = 0 from c2), if_pos (show x1 = 0 from c3), if_pos (show d (x0 + 1) 8 = 16 from c4), if_pos (show (g_188 x0 5 ((g_189 x0 d) x0 10) (g_194 x0 232608281 (g_189 x0 d))) x0 13 = 0 from c5)]
              rw [y0] at h
              exact h (fun b hb => (F b hb).trans ((show ∀ b : Int, (b < x0 ∨ x0 + 1 < b) → (g_188 x0 5 ((g_189 x0 d) x0 10) (g_194 x0 232608281 (g_189 x0 d))) b = d b from fun b hb => (F4 b (by omega)).trans ((F2 b (by omega)).trans (F1 b (by omega)))) b hb)) (k0.trans (((k4_0).trans (k2_0)).trans (k1_0))) (fun i hi => (Q i hi).trans ((show ∀ i : Int, i = 0 ∨ (452 ≤ i ∧ i < 1916) → (g_188 x0 5 ((g_189 x0 d) x0 10) (g_194 x0 232608281 (g_189 x0 d))) (x0 + 1) i = d (x0 + 1) i from fun i hi => ((congrFun (F4 (x0 + 1) (by omega)) i).trans (congrFun (F2 (x0 + 1) (by omega)) i)).trans (congrFun (F1 (x0 + 1) (by omega)) i)) i hi)) P_hmp (by omega) (by omega) hS_
        · exact (show False by omega).elim
    · refine k_194 hS1 hx0 (by omega) (fun e2 F5 k5_0 n5_0 n5_1 n5_2 hS5 => ?_)
      refine t_204_43 ?_
      have w8 := r_11_f9 hS5 hx0
      have w9 := r_11_f10 hS5 hx0
      refine ⟨m_inR (by omega) (by omega), fun c2 => ?_, fun c2 => ?_⟩
      · refine t_204_88 ?_
        have w8 := r_11_f9 hS5 hx0
        have w9 := r_11_f10 hS5 hx0
        refine ⟨m_inR (by omega) (by omega), fun c3 => ?_, fun c3 => ?_⟩
        · refine ⟨m_inR (by omega) (by omega), fun c4 => ?_, fun c4 => ?_⟩
          · refine ⟨m_inR (by omega) (by omega), fun c5 => ?_, fun c5 => ?_⟩
            · exact (show False by omega).elim
            · rw [F5 (x0 + 1) (by omega)]
              rw [F1 (x0 + 1) (by omega)]
              have q25 := mh_7 hS hx0 _ rfl
              refine ⟨by omega, m_inR (by omega) (by omega), fun c6 => ?_, fun c6 => ?_⟩
              · refine t_204_134 ?_
                have w8 := r_11_f9 hS5 hx0
                have w9 := r_11_f10 hS5 hx0
                have q26 := r_11_f13 hS5 hx0
                refine ⟨m_inR (by omega) (by omega), fun c7 => ?_, fun c7 => ?_⟩
                · have q27 := miand_r (v_194 x0 218546996 (g_189 x0 d)) 0 (by decide) (by decide)
                  have q28 := mbool (v_194 x0 218546996 (g_189 x0 d))
                  have q29 := r_11_f10 hS5 hx0
                  refine ih13 (miand (v_194 x0 218546996 (g_189 x0 d)) 0) (.inl (0, (g_189 x0 d) x0 10)) (g_194 x0 218546996 (g_189 x0 d)) hS5 (mpP.of (mh_7 hS hx0 _ rfl) (show ∀ i : Int, i = 7 ∨ (12 ≤ i ∧ i < 420 ∧ (i - 12) % 68 = 2) → (g_194 x0 218546996 (g_189 x0 d)) (x0 + 1) i = d (x0 + 1) i from fun i hi => (congrFun (F5 (x0 + 1) (by omega)) i).trans (congrFun (F1 (x0 + 1) (by omega)) i)) hmp) (by omega) (by omega) (by omega) (by omega) ?_
                  intro F k0 Q P_hmp n0 n1 hS_
                  have y0 : st_204_13 x0 x1 r13 x2 d = r13 (miand (v_194 x0 218546996 (g_189 x0 d)) 0) (g_194 x0 218546996 (g_189 x0 d)) := by simp only [st_204_13, if_neg (show ¬ x2 = 0 from c0), if_neg (show ¬ x1 = 0 from c1), if_pos (show v_194 x0 218546996 (g_189 x0 d) = 0 from c2), if_pos (show v_194 x0 218546996 (g_189 x0 d) = 0 from c3), if_pos (show v_194 x0 218546996 (g_189 x0 d) = 0 from c4), if_neg (show ¬ x1 = 0 from c5), if_neg (show ¬ d (x0 + 1) 7 = 0 from c6), if_neg (show ¬ (g_194 x0 218546996 (g_189 x0 d)) x0 13 = 0 from c7)]
                  rw [y0] at h
                  exact h (fun b hb => (F b hb).trans ((show ∀ b : Int, (b < x0 ∨ x0 + 1 < b) → (g_194 x0 218546996 (g_189 x0 d)) b = d b from fun b hb => (F5 b (by omega)).trans (F1 b (by omega))) b hb)) (k0.trans ((k5_0).trans (k1_0))) (fun i hi => (Q i hi).trans ((show ∀ i : Int, i = 0 ∨ (452 ≤ i ∧ i < 1916) → (g_194 x0 218546996 (g_189 x0 d)) (x0 + 1) i = d (x0 + 1) i from fun i hi => (congrFun (F5 (x0 + 1) (by omega)) i).trans (congrFun (F1 (x0 + 1) (by omega)) i)) i hi)) P_hmp (by omega) (by omega) hS_
                · have q30 := miand_r (v_194 x0 218546996 (g_189 x0 d)) 1 (by decide) (by decide)
                  have q31 := mbool (v_194 x0 218546996 (g_189 x0 d))
                  have q32 := r_11_f10 hS5 hx0
                  refine ih13 (miand (v_194 x0 218546996 (g_189 x0 d)) 1) (.inl (0, (g_189 x0 d) x0 10)) (g_194 x0 218546996 (g_189 x0 d)) hS5 (mpP.of (mh_7 hS hx0 _ rfl) (show ∀ i : Int, i = 7 ∨ (12 ≤ i ∧ i < 420 ∧ (i - 12) % 68 = 2) → (g_194 x0 218546996 (g_189 x0 d)) (x0 + 1) i = d (x0 + 1) i from fun i hi => (congrFun (F5 (x0 + 1) (by omega)) i).trans (congrFun (F1 (x0 + 1) (by omega)) i)) hmp) (by omega) (by omega) (by omega) (by omega) ?_
                  intro F k0 Q P_hmp n0 n1 hS_
                  have y0 : st_204_13 x0 x1 r13 x2 d = r13 (miand (v_194 x0 218546996 (g_189 x0 d)) 1) (g_194 x0 218546996 (g_189 x0 d)) := by simp only [st_204_13, if_neg (show ¬ x2 = 0 from c0), if_neg (show ¬ x1 = 0 from c1), if_pos (show v_194 x0 218546996 (g_189 x0 d) = 0 from c2), if_pos (show v_194 x0 218546996 (g_189 x0 d) = 0 from c3), if_pos (show v_194 x0 218546996 (g_189 x0 d) = 0 from c4), if_neg (show ¬ x1 = 0 from c5), if_neg (show ¬ d (x0 + 1) 7 = 0 from c6), if_pos (show (g_194 x0 218546996 (g_189 x0 d)) x0 13 = 0 from c7)]
                  rw [y0] at h
                  exact h (fun b hb => (F b hb).trans ((show ∀ b : Int, (b < x0 ∨ x0 + 1 < b) → (g_194 x0 218546996 (g_189 x0 d)) b = d b from fun b hb => (F5 b (by omega)).trans (F1 b (by omega))) b hb)) (k0.trans ((k5_0).trans (k1_0))) (fun i hi => (Q i hi).trans ((show ∀ i : Int, i = 0 ∨ (452 ≤ i ∧ i < 1916) → (g_194 x0 218546996 (g_189 x0 d)) (x0 + 1) i = d (x0 + 1) i from fun i hi => (congrFun (F5 (x0 + 1) (by omega)) i).trans (congrFun (F1 (x0 + 1) (by omega)) i)) i hi)) P_hmp (by omega) (by omega) hS_
              · have q33 := r_11_f10 hS1 hx0
                refine k_188 hS5 hx0 (by omega) (by omega) (fun F6 k6_0 n6_0 n6_1 n6_2 hS6 => ?_)
                refine t_204_134 ?_
                have w8 := r_11_f9 hS6 hx0
                have w9 := r_11_f10 hS6 hx0
                have q34 := r_11_f13 hS6 hx0
                refine ⟨m_inR (by omega) (by omega), fun c7 => ?_, fun c7 => ?_⟩
                · have q35 := miand_r (v_194 x0 218546996 (g_189 x0 d)) 0 (by decide) (by decide)
                  have q36 := mbool (v_194 x0 218546996 (g_189 x0 d))
                  have q37 := r_11_f10 hS6 hx0
                  refine ih13 (miand (v_194 x0 218546996 (g_189 x0 d)) 0) (.inl (0, (g_189 x0 d) x0 10)) (g_188 x0 1 ((g_189 x0 d) x0 10) (g_194 x0 218546996 (g_189 x0 d))) hS6 (mpP.of (mh_7 hS hx0 _ rfl) (show ∀ i : Int, i = 7 ∨ (12 ≤ i ∧ i < 420 ∧ (i - 12) % 68 = 2) → (g_188 x0 1 ((g_189 x0 d) x0 10) (g_194 x0 218546996 (g_189 x0 d))) (x0 + 1) i = d (x0 + 1) i from fun i hi => ((congrFun (F6 (x0 + 1) (by omega)) i).trans (congrFun (F5 (x0 + 1) (by omega)) i)).trans (congrFun (F1 (x0 + 1) (by omega)) i)) hmp) (by omega) (by omega) (by omega) (by omega) ?_
                  intro F k0 Q P_hmp n0 n1 hS_
                  have y0 : st_204_13 x0 x1 r13 x2 d = r13 (miand (v_194 x0 218546996 (g_189 x0 d)) 0) (g_188 x0 1 ((g_189 x0 d) x0 10) (g_194 x0 218546996 (g_189 x0 d))) := by simp only [st_204_13, if_neg (show ¬ x2 = 0 from c0), if_neg (show ¬ x1 = 0 from c1), if_pos (show v_194 x0 218546996 (g_189 x0 d) = 0 from c2), if_pos (show v_194 x0 218546996 (g_189 x0 d) = 0 from c3), if_pos (show v_194 x0 218546996 (g_189 x0 d) = 0 from c4), if_neg (show ¬ x1 = 0 from c5), if_pos (show d (x0 + 1) 7 = 0 from c6), if_neg (show ¬ (g_188 x0 1 ((g_189 x0 d) x0 10) (g_194 x0 218546996 (g_189 x0 d))) x0 13 = 0 from c7)]
                  rw [y0] at h
                  exact h (fun b hb => (F b hb).trans ((show ∀ b : Int, (b < x0 ∨ x0 + 1 < b) → (g_188 x0 1 ((g_189 x0 d) x0 10) (g_194 x0 218546996 (g_189 x0 d))) b = d b from fun b hb => (F6 b (by omega)).trans ((F5 b (by omega)).trans (F1 b (by omega)))) b hb)) (k0.trans (((k6_0).trans (k5_0)).trans (k1_0))) (fun i hi => (Q i hi).trans ((show ∀ i : Int, i = 0 ∨ (452 ≤ i ∧ i < 1916) → (g_188 x0 1 ((g_189 x0 d) x0 10) (g_194 x0 218546996 (g_189 x0 d))) (x0 + 1) i = d (x0 + 1) i from fun i hi => ((congrFun (F6 (x0 + 1) (by omega)) i).trans (congrFun (F5 (x0 + 1) (by omega)) i)).trans (congrFun (F1 (x0 + 1) (by omega)) i)) i hi)) P_hmp (by omega) (by omega) hS_
                · have q38 := miand_r (v_194 x0 218546996 (g_189 x0 d)) 1 (by decide) (by decide)
                  have q39 := mbool (v_194 x0 218546996 (g_189 x0 d))
                  have q40 := r_11_f10 hS6 hx0
                  refine ih13 (miand (v_194 x0 218546996 (g_189 x0 d)) 1) (.inl (0, (g_189 x0 d) x0 10)) (g_188 x0 1 ((g_189 x0 d) x0 10) (g_194 x0 218546996 (g_189 x0 d))) hS6 (mpP.of (mh_7 hS hx0 _ rfl) (show ∀ i : Int, i = 7 ∨ (12 ≤ i ∧ i < 420 ∧ (i - 12) % 68 = 2) → (g_188 x0 1 ((g_189 x0 d) x0 10) (g_194 x0 218546996 (g_189 x0 d))) (x0 + 1) i = d (x0 + 1) i from fun i hi => ((congrFun (F6 (x0 + 1) (by omega)) i).trans (congrFun (F5 (x0 + 1) (by omega)) i)).trans (congrFun (F1 (x0 + 1) (by omega)) i)) hmp) (by omega) (by omega) (by omega) (by omega) ?_
                  intro F k0 Q P_hmp n0 n1 hS_
                  have y0 : st_204_13 x0 x1 r13 x2 d = r13 (miand (v_194 x0 218546996 (g_189 x0 d)) 1) (g_188 x0 1 ((g_189 x0 d) x0 10) (g_194 x0 218546996 (g_189 x0 d))) := by simp only [st_204_13, if_neg (show ¬ x2 = 0 from c0), if_neg (show ¬ x1 = 0 from c1), if_pos (show v_194 x0 218546996 (g_189 x0 d) = 0 from c2), if_pos (show v_194 x0 218546996 (g_189 x0 d) = 0 from c3), if_pos (show v_194 x0 218546996 (g_189 x0 d) = 0 from c4), if_neg (show ¬ x1 = 0 from c5), if_pos (show d (x0 + 1) 7 = 0 from c6), if_pos (show (g_188 x0 1 ((g_189 x0 d) x0 10) (g_194 x0 218546996 (g_189 x0 d))) x0 13 = 0 from c7)]
                  rw [y0] at h
                  exact h (fun b hb => (F b hb).trans ((show ∀ b : Int, (b < x0 ∨ x0 + 1 < b) → (g_188 x0 1 ((g_189 x0 d) x0 10) (g_194 x0 218546996 (g_189 x0 d))) b = d b from fun b hb => (F6 b (by omega)).trans ((F5 b (by omega)).trans (F1 b (by omega)))) b hb)) (k0.trans (((k6_0).trans (k5_0)).trans (k1_0))) (fun i hi => (Q i hi).trans ((show ∀ i : Int, i = 0 ∨ (452 ≤ i ∧ i < 1916) → (g_188 x0 1 ((g_189 x0 d) x0 10) (g_194 x0 218546996 (g_189 x0 d))) (x0 + 1) i = d (x0 + 1) i from fun i hi => ((congrFun (F6 (x0 + 1) (by omega)) i).trans (congrFun (F5 (x0 + 1) (by omega)) i)).trans (congrFun (F1 (x0 + 1) (by omega)) i)) i hi)) P_hmp (by omega) (by omega) hS_
          · exact (show False by omega).elim
        · exact (show False by omega).elim
      · refine ⟨m_inR (by omega) (by omega), fun c3 => ?_, fun c3 => ?_⟩
        · exact (show False by omega).elim
        · rw [F5 (x0 + 1) (by omega)]
          rw [F1 (x0 + 1) (by omega)]
          have q41 := mh_7 hS hx0 _ rfl
          refine ⟨by omega, ⟨m_inR (by omega) (by omega), m_inR (by omega) (by omega)⟩, fun c4 => ?_, fun c4 => ?_⟩
          · refine t_204_88 ?_
            have w8 := r_11_f9 hS5 hx0
            have w9 := r_11_f10 hS5 hx0
            refine ⟨m_inR (by omega) (by omega), fun c5 => ?_, fun c5 => ?_⟩
            · exact (show False by omega).elim
            · refine ⟨m_inR (by omega) (by omega), fun c6 => ?_, fun c6 => ?_⟩
              · exact (show False by omega).elim
              · have q42 : (g_194 x0 218546996 (g_189 x0 d)) (x0 + 1) 7 = d (x0 + 1) 7 := (congrFun (F5 (x0 + 1) (by omega)) 7).trans (congrFun (F1 (x0 + 1) (by omega)) 7)
                refine k_202 hS5 hx0 (mpP.of (mh_7 hS hx0 _ rfl) (show ∀ i : Int, i = 7 ∨ (12 ≤ i ∧ i < 420 ∧ (i - 12) % 68 = 2) → (g_194 x0 218546996 (g_189 x0 d)) (x0 + 1) i = d (x0 + 1) i from fun i hi => (congrFun (F5 (x0 + 1) (by omega)) i).trans (congrFun (F1 (x0 + 1) (by omega)) i)) hmp) (by omega) (fun F7 k7_0 Q7 P7hmp n7_0 n7_1 hS7 => ?_)
                refine t_204_100 ?_
                have w8 := r_11_f9 hS7 hx0
                have w9 := r_11_f10 hS7 hx0
                refine t_204_134 ?_
                have w8 := r_11_f9 hS7 hx0
                have w9 := r_11_f10 hS7 hx0
                have q43 := r_11_f13 hS7 hx0
                refine ⟨m_inR (by omega) (by omega), fun c7 => ?_, fun c7 => ?_⟩
                · have q44 := miand_r (v_194 x0 218546996 (g_189 x0 d)) 0 (by decide) (by decide)
                  have q45 := mbool (v_194 x0 218546996 (g_189 x0 d))
                  have q46 := r_11_f10 hS7 hx0
                  refine ih13 (miand (v_194 x0 218546996 (g_189 x0 d)) 0) (.inl (0, (g_189 x0 d) x0 10)) (g_202 x0 (g_194 x0 218546996 (g_189 x0 d))) hS7 P7hmp (by omega) (by omega) (by omega) (by omega) ?_
                  intro F k0 Q P_hmp n0 n1 hS_
                  have y0 : st_204_13 x0 x1 r13 x2 d = r13 (miand (v_194 x0 218546996 (g_189 x0 d)) 0) (g_202 x0 (g_194 x0 218546996 (g_189 x0 d))) := by simp only [st_204_13, if_neg (show ¬ x2 = 0 from c0), if_neg (show ¬ x1 = 0 from c1), if_neg (show ¬ v_194 x0 218546996 (g_189 x0 d) = 0 from c2), if_neg (show ¬ x1 = 0 from c3), if_neg (show ¬ d (x0 + 1) 7 = 6 from c4), if_neg (show ¬ v_194 x0 218546996 (g_189 x0 d) = 0 from c5), if_neg (show ¬ x1 = 0 from c6), if_neg (show ¬ (g_202 x0 (g_194 x0 218546996 (g_189 x0 d))) x0 13 = 0 from c7)]
                  rw [y0] at h
                  exact h (fun b hb => (F b hb).trans ((show ∀ b : Int, (b < x0 ∨ x0 + 1 < b) → (g_202 x0 (g_194 x0 218546996 (g_189 x0 d))) b = d b from fun b hb => (F7 b (by omega)).trans ((F5 b (by omega)).trans (F1 b (by omega)))) b hb)) (k0.trans (((k7_0).trans (k5_0)).trans (k1_0))) (fun i hi => (Q i hi).trans ((show ∀ i : Int, i = 0 ∨ (452 ≤ i ∧ i < 1916) → (g_202 x0 (g_194 x0 218546996 (g_189 x0 d))) (x0 + 1) i = d (x0 + 1) i from fun i hi => ((Q7 i (by omega)).trans (congrFun (F5 (x0 + 1) (by omega)) i)).trans (congrFun (F1 (x0 + 1) (by omega)) i)) i hi)) P_hmp (by omega) (by omega) hS_
                · have q47 := miand_r (v_194 x0 218546996 (g_189 x0 d)) 1 (by decide) (by decide)
                  have q48 := mbool (v_194 x0 218546996 (g_189 x0 d))
                  have q49 := r_11_f10 hS7 hx0
                  refine ih13 (miand (v_194 x0 218546996 (g_189 x0 d)) 1) (.inl (0, (g_189 x0 d) x0 10)) (g_202 x0 (g_194 x0 218546996 (g_189 x0 d))) hS7 P7hmp (by omega) (by omega) (by omega) (by omega) ?_
                  intro F k0 Q P_hmp n0 n1 hS_
                  have y0 : st_204_13 x0 x1 r13 x2 d = r13 (miand (v_194 x0 218546996 (g_189 x0 d)) 1) (g_202 x0 (g_194 x0 218546996 (g_189 x0 d))) := by simp only [st_204_13, if_neg (show ¬ x2 = 0 from c0), if_neg (show ¬ x1 = 0 from c1), if_neg (show ¬ v_194 x0 218546996 (g_189 x0 d) = 0 from c2), if_neg (show ¬ x1 = 0 from c3), if_neg (show ¬ d (x0 + 1) 7 = 6 from c4), if_neg (show ¬ v_194 x0 218546996 (g_189 x0 d) = 0 from c5), if_neg (show ¬ x1 = 0 from c6), if_pos (show (g_202 x0 (g_194 x0 218546996 (g_189 x0 d))) x0 13 = 0 from c7)]
                  rw [y0] at h
                  exact h (fun b hb => (F b hb).trans ((show ∀ b : Int, (b < x0 ∨ x0 + 1 < b) → (g_202 x0 (g_194 x0 218546996 (g_189 x0 d))) b = d b from fun b hb => (F7 b (by omega)).trans ((F5 b (by omega)).trans (F1 b (by omega)))) b hb)) (k0.trans (((k7_0).trans (k5_0)).trans (k1_0))) (fun i hi => (Q i hi).trans ((show ∀ i : Int, i = 0 ∨ (452 ≤ i ∧ i < 1916) → (g_202 x0 (g_194 x0 218546996 (g_189 x0 d))) (x0 + 1) i = d (x0 + 1) i from fun i hi => ((Q7 i (by omega)).trans (congrFun (F5 (x0 + 1) (by omega)) i)).trans (congrFun (F1 (x0 + 1) (by omega)) i)) i hi)) P_hmp (by omega) (by omega) hS_
          · refine t_204_79 ?_
            have w8 := r_11_f9 hS5 hx0
            have w9 := r_11_f10 hS5 hx0
            have q50 := r_11_f10 hS1 hx0
            refine k_188 hS5 hx0 (by omega) (by omega) (fun F8 k8_0 n8_0 n8_1 n8_2 hS8 => ?_)
            refine t_204_85 ?_
            have w8 := r_11_f9 hS8 hx0
            have w9 := r_11_f10 hS8 hx0
            refine t_204_134 ?_
            have w8 := r_11_f9 hS8 hx0
            have w9 := r_11_f10 hS8 hx0
            have q51 := r_11_f13 hS8 hx0
            refine ⟨m_inR (by omega) (by omega), fun c5 => ?_, fun c5 => ?_⟩
            · have q52 := miand_r (v_194 x0 218546996 (g_189 x0 d)) 0 (by decide) (by decide)
              have q53 := mbool (v_194 x0 218546996 (g_189 x0 d))
              have q54 := r_11_f10 hS8 hx0
              refine ih13 (miand (v_194 x0 218546996 (g_189 x0 d)) 0) (.inl (0, (g_189 x0 d) x0 10)) (g_188 x0 5 ((g_189 x0 d) x0 10) (g_194 x0 218546996 (g_189 x0 d))) hS8 (mpP.of (mh_7 hS hx0 _ rfl) (show ∀ i : Int, i = 7 ∨ (12 ≤ i ∧ i < 420 ∧ (i - 12) % 68 = 2) → (g_188 x0 5 ((g_189 x0 d) x0 10) (g_194 x0 218546996 (g_189 x0 d))) (x0 + 1) i = d (x0 + 1) i from fun i hi => ((congrFun (F8 (x0 + 1) (by omega)) i).trans (congrFun (F5 (x0 + 1) (by omega)) i)).trans (congrFun (F1 (x0 + 1) (by omega)) i)) hmp) (by omega) (by omega) (by omega) (by omega) ?_
              intro F k0 Q P_hmp n0 n1 hS_
              have y0 : st_204_13 x0 x1 r13 x2 d = r13 (miand (v_194 x0 218546996 (g_189 x0 d)) 0) (g_188 x0 5 ((g_189 x0 d) x0 10) (g_194 x0 218546996 (g_189 x0 d))) := by simp only [st_204_13, if_neg (show ¬ x2 = 0 from c0), if_neg (show ¬ x1 = 0 from c1), if_neg (show ¬ v_194 x0 218546996 (g_189 x0 d) = 0 from c2), if_neg (show ¬ x1 = 0 from c3), if_pos (show d (x0 + 1) 7 = 6 from c4), if_neg (show ¬ (g_188 x0 5 ((g_189 x0 d) x0 10) (g_194 x0 218546996 (g_189 x0 d))) x0 13 = 0 from c5)]
              rw [y0] at h
              exact h (fun b hb => (F b hb).trans ((show ∀ b : Int, (b < x0 ∨ x0 + 1 < b) → (g_188 x0 5 ((g_189 x0 d) x0 10) (g_194 x0 218546996 (g_189 x0 d))) b = d b from fun b hb => (F8 b (by omega)).trans ((F5 b (by omega)).trans (F1 b (by omega)))) b hb)) (k0.trans (((k8_0).trans (k5_0)).trans (k1_0))) (fun i hi => (Q i hi).trans ((show ∀ i : Int, i = 0 ∨ (452 ≤ i ∧ i < 1916) → (g_188 x0 5 ((g_189 x0 d) x0 10) (g_194 x0 218546996 (g_189 x0 d))) (x0 + 1) i = d (x0 + 1) i from fun i hi => ((congrFun (F8 (x0 + 1) (by omega)) i).trans (congrFun (F5 (x0 + 1) (by omega)) i)).trans (congrFun (F1 (x0 + 1) (by omega)) i)) i hi)) P_hmp (by omega) (by omega) hS_
            · have q55 := miand_r (v_194 x0 218546996 (g_189 x0 d)) 1 (by decide) (by decide)
              have q56 := mbool (v_194 x0 218546996 (g_189 x0 d))
              have q57 := r_11_f10 hS8 hx0
              refine ih13 (miand (v_194 x0 218546996 (g_189 x0 d)) 1) (.inl (0, (g_189 x0 d) x0 10)) (g_188 x0 5 ((g_189 x0 d) x0 10) (g_194 x0 218546996 (g_189 x0 d))) hS8 (mpP.of (mh_7 hS hx0 _ rfl) (show ∀ i : Int, i = 7 ∨ (12 ≤ i ∧ i < 420 ∧ (i - 12) % 68 = 2) → (g_188 x0 5 ((g_189 x0 d) x0 10) (g_194 x0 218546996 (g_189 x0 d))) (x0 + 1) i = d (x0 + 1) i from fun i hi => ((congrFun (F8 (x0 + 1) (by omega)) i).trans (congrFun (F5 (x0 + 1) (by omega)) i)).trans (congrFun (F1 (x0 + 1) (by omega)) i)) hmp) (by omega) (by omega) (by omega) (by omega) ?_
              intro F k0 Q P_hmp n0 n1 hS_
              have y0 : st_204_13 x0 x1 r13 x2 d = r13 (miand (v_194 x0 218546996 (g_189 x0 d)) 1) (g_188 x0 5 ((g_189 x0 d) x0 10) (g_194 x0 218546996 (g_189 x0 d))) := by simp only [st_204_13, if_neg (show ¬ x2 = 0 from c0), if_neg (show ¬ x1 = 0 from c1), if_neg (show ¬ v_194 x0 218546996 (g_189 x0 d) = 0 from c2), if_neg (show ¬ x1 = 0 from c3), if_pos (show d (x0 + 1) 7 = 6 from c4), if_pos (show (g_188 x0 5 ((g_189 x0 d) x0 10) (g_194 x0 218546996 (g_189 x0 d))) x0 13 = 0 from c5)]
              rw [y0] at h
              exact h (fun b hb => (F b hb).trans ((show ∀ b : Int, (b < x0 ∨ x0 + 1 < b) → (g_188 x0 5 ((g_189 x0 d) x0 10) (g_194 x0 218546996 (g_189 x0 d))) b = d b from fun b hb => (F8 b (by omega)).trans ((F5 b (by omega)).trans (F1 b (by omega)))) b hb)) (k0.trans (((k8_0).trans (k5_0)).trans (k1_0))) (fun i hi => (Q i hi).trans ((show ∀ i : Int, i = 0 ∨ (452 ≤ i ∧ i < 1916) → (g_188 x0 5 ((g_189 x0 d) x0 10) (g_194 x0 218546996 (g_189 x0 d))) (x0 + 1) i = d (x0 + 1) i from fun i hi => ((congrFun (F8 (x0 + 1) (by omega)) i).trans (congrFun (F5 (x0 + 1) (by omega)) i)).trans (congrFun (F1 (x0 + 1) (by omega)) i)) i hi)) P_hmp (by omega) (by omega) hS_
theorem l_204_13 {E : mO × tW} {K : tK} {x0 x1 : Int} (hx0 : mdB x0) (p1 : 0 ≤ x1 ∧ x1 ≤ 1) : ∀ (n : Nat) (x2 : Int) (v3 : tV) (d : mD), Safe d → (mpP (d (x0 + 1))) → (0 ≤ x2 ∧ x2 ≤ 1) → (0 ≤ x1 ∧ x1 ≤ 1) → 1000 - d x0 10 + x2 ≤ (n : Int) → ((∀ b : Int, (b < x0 ∨ x0 + 1 < b) → (lp_204_13 x0 x1 n x2 d) b = d b) → (lp_204_13 x0 x1 n x2 d) x0 9 = d x0 9 → (∀ i : Int, i = 0 ∨ (452 ≤ i ∧ i < 1916) → (lp_204_13 x0 x1 n x2 d) (x0 + 1) i = d (x0 + 1) i) → mpP ((lp_204_13 x0 x1 n x2 d) (x0 + 1)) → (d x0 10 ≤ (lp_204_13 x0 x1 n x2 d) x0 10) → (d x0 13 = 0 ∨ ¬ (lp_204_13 x0 x1 n x2 d) x0 13 = 0) → Safe (lp_204_13 x0 x1 n x2 d) → K (.inl none) (lp_204_13 x0 x1 n x2 d)) → tRun E 204 (13, [.inr (11, x0), .inl (0, x1), .inl (0, x2), v3], [], 0, 0, d) K := by
  intro n
  induction n with
  | zero =>
    intro x2 v3 d hS hmp i1 i2 hm  h
    exact ls_204_13 hx0 p1 0 _ (fun _ _ _ _ _ _ _ m0 m1 _ => absurd m1 (by omega)) x2 v3 d hS hmp i1 i2 hm  h
  | succ n ih =>
    intro x2 v3 d hS hmp i1 i2 hm  h
    exact ls_204_13 hx0 p1 ((n + 1 : Nat) : Int) _ (fun x2 v3 d hS hmp i1 i2  m0 m1 h => ih x2 v3 d hS hmp i1 i2 (by omega)  h) x2 v3 d hS hmp i1 i2 hm  h
def g_204 (x0 x1 : Int) (d : mD) : mD := if d x0 13 = 0 then lp_204_13 x0 x1 (1000 - d x0 10 + 1 : Int).toNat 1 d else lp_204_13 x0 x1 (1000 - d x0 10 + 0 : Int).toNat 0 d
theorem k_204 {E : mO × tW} {K : tK} {d : mD} {x0 x1 : Int} (hS : Safe d) (hx0 : mdB x0) (p1 : 0 ≤ x1 ∧ x1 ≤ 1) (hmp : mpP (d (x0 + 1))) (h : (∀ b : Int, (b < x0 ∨ x0 + 1 < b) → (g_204 x0 x1 d) b = d b) → (g_204 x0 x1 d) x0 9 = d x0 9 → (∀ i : Int, i = 0 ∨ (452 ≤ i ∧ i < 1916) → (g_204 x0 x1 d) (x0 + 1) i = d (x0 + 1) i) → mpP ((g_204 x0 x1 d) (x0 + 1)) → (d x0 10 ≤ (g_204 x0 x1 d) x0 10) → (d x0 13 = 0 ∨ ¬ (g_204 x0 x1 d) x0 13 = 0) → Safe (g_204 x0 x1 d) → K (.inl none) (g_204 x0 x1 d)) : tCall E 204 [.inr (11, x0), .inl (0, x1)] d K := by
  refine t_204_0 ?_
  have w8 := r_11_f9 hS hx0
  have w9 := r_11_f10 hS hx0
  have q58 := r_11_f13 hS hx0
  refine ⟨m_inR (by omega) (by omega), fun c0 => ?_, fun c0 => ?_⟩
  · have q59 := r_11_f10 hS hx0
    refine l_204_13 hx0 p1 (1000 - d x0 10 + 0 : Int).toNat 0 tu d hS hmp (by omega) (by omega) (by omega) ?_
    intro F k0 Q P_hmp n0 n1 hS_
    have y0 : g_204 x0 x1 d = lp_204_13 x0 x1 (1000 - d x0 10 + 0 : Int).toNat 0 d := by simp only [g_204, if_neg (show ¬ d x0 13 = 0 from c0)]
    rw [y0] at h
    exact h F k0 Q P_hmp (by omega) (by omega) hS_
  · have q60 := r_11_f10 hS hx0
    refine l_204_13 hx0 p1 (1000 - d x0 10 + 1 : Int).toNat 1 tu d hS hmp (by omega) (by omega) (by omega) ?_
    intro F k0 Q P_hmp n0 n1 hS_
    have y0 : g_204 x0 x1 d = lp_204_13 x0 x1 (1000 - d x0 10 + 1 : Int).toNat 1 d := by simp only [g_204, if_pos (show d x0 13 = 0 from c0)]
    rw [y0] at h
    exact h F k0 Q P_hmp (by omega) (by omega) hS_
def v_290 (x0 : Int) (d : mD) : Int := if v_210 x0 d = 0 then 0 else if d (x0 + 1) 8 = 16 then 0 else if v_183 x0 (v_210 x0 d) (g_210 x0 d) = (-1) then ((g_182 x0 (v_210 x0 d) (g_278 x0 (mset (g_210 x0 d) x0 0 0))) (x0 + 1) 8) - 1 else 0
def g_290 (x0 : Int) (d : mD) : mD := if v_210 x0 d = 0 then mset (g_210 x0 d) x0 0 1 else if d (x0 + 1) 8 = 16 then mset (g_210 x0 d) x0 0 2 else if v_183 x0 (v_210 x0 d) (g_210 x0 d) = (-1) then g_182 x0 (v_210 x0 d) (g_278 x0 (mset (g_210 x0 d) x0 0 0)) else mset (g_210 x0 d) x0 0 2
theorem k_290 {E : mO × tW} {K : tK} {d : mD} {x0 : Int} (hS : Safe d) (hx0 : mdB x0) (h : (∀ b : Int, (b < x0 ∨ x0 + 2 < b) → (g_290 x0 d) b = d b) → Safe (g_290 x0 d) → K (.inl (some (0, (v_290 x0 d)))) (g_290 x0 d)) : tCall E 290 [.inr (11, x0)] d K := by
  refine t_290_0 ?_
  have w0 := mh_0 hS hx0 _ rfl
  have w7 := mh_7 hS hx0 _ rfl
  have w8 := mh_8 hS hx0 _ rfl
  have w9 := mh_9 hS hx0 _ rfl
  have w10 := mh_10 hS hx0 _ rfl
  have w11 := mh_11 hS hx0 _ rfl
  refine k_210 hS hx0 (fun e1 F1 hS1 => ?_)
  refine t_290_4 ?_
  refine ⟨m_inR (by omega) (by omega), fun c0 => ?_, fun c0 => ?_⟩
  · rw [F1 (x0 + 1) (by omega)]
    have q1 := mh_8 hS hx0 _ rfl
    refine ⟨by omega, ⟨m_inR (by omega) (by omega), m_inR (by omega) (by omega)⟩, fun c1 => ?_, fun c1 => ?_⟩
    · have hS2 : Safe (mset (g_210 x0 d) x0 0 2) := s_11_f0 hS1 hx0 (by omega)
      rw [mset_eq (d := g_210 x0 d) (a := x0) (i := (0 : Int)) (v := (2 : Int))]
      refine ⟨m_inR (by omega) (by omega), fun c2 => ?_, fun c2 => ?_⟩
      · exact (show False by omega).elim
      · have y0 : v_290 x0 d = 0 := by simp only [v_290, if_neg (show ¬ v_210 x0 d = 0 from c0), if_pos (show d (x0 + 1) 8 = 16 from c1), if_pos (show (0 : Int) < 2 from c2)]
        have y1 : g_290 x0 d = mset (g_210 x0 d) x0 0 2 := by simp only [g_290, if_neg (show ¬ v_210 x0 d = 0 from c0), if_pos (show d (x0 + 1) 8 = 16 from c1), if_pos (show (0 : Int) < 2 from c2)]
        rw [y0] at h
        rw [y1] at h
        exact h (show ∀ b : Int, (b < x0 ∨ x0 + 2 < b) → (mset (g_210 x0 d) x0 0 2) b = d b from fun b hb => (mset_ne (by omega)).trans (F1 b (by omega))) hS2
    · refine k_183 hS1 hx0 (m_inR (by omega) (by omega)) (fun e2 => ?_)
      refine t_290_31 ?_
      refine ⟨⟨m_inR (by omega) (by omega), m_inR (by omega) (by omega)⟩, fun c2 => ?_, fun c2 => ?_⟩
      · have hS3 : Safe (mset (g_210 x0 d) x0 0 0) := s_11_f0 hS1 hx0 (by omega)
        rw [mset_eq (d := g_210 x0 d) (a := x0) (i := (0 : Int)) (v := (0 : Int))]
        refine ⟨m_inR (by omega) (by omega), fun c3 => ?_, fun c3 => ?_⟩
        · refine k_278 hS3 hx0 (fun F2 hS4 => ?_)
          refine t_290_56 ?_
          have q2 : (g_278 x0 (mset (g_210 x0 d) x0 0 0)) (x0 + 1) 8 = d (x0 + 1) 8 := ((congrFun (F2 (x0 + 1) (by omega)) 8).trans (congrFun (mset_ne (by omega)) 8)).trans (congrFun (F1 (x0 + 1) (by omega)) 8)
          refine k_182 hS4 hx0 (by omega) (by omega) (fun F3 Q3 hS5 => ?_)
          refine t_290_61 ?_
          have q3 := mh_8 hS5 hx0 _ rfl
          refine ⟨by omega, ?_⟩
          have y0 : v_290 x0 d = ((g_182 x0 (v_210 x0 d) (g_278 x0 (mset (g_210 x0 d) x0 0 0))) (x0 + 1) 8) - 1 := by simp only [v_290, if_neg (show ¬ v_210 x0 d = 0 from c0), if_neg (show ¬ d (x0 + 1) 8 = 16 from c1), if_pos (show v_183 x0 (v_210 x0 d) (g_210 x0 d) = (-1) from c2), if_neg (show ¬ (0 : Int) < 0 from Int.not_lt.mpr c3)]
          have y1 : g_290 x0 d = g_182 x0 (v_210 x0 d) (g_278 x0 (mset (g_210 x0 d) x0 0 0)) := by simp only [g_290, if_neg (show ¬ v_210 x0 d = 0 from c0), if_neg (show ¬ d (x0 + 1) 8 = 16 from c1), if_pos (show v_183 x0 (v_210 x0 d) (g_210 x0 d) = (-1) from c2), if_neg (show ¬ (0 : Int) < 0 from Int.not_lt.mpr c3)]
          rw [y0] at h
          rw [y1] at h
          exact h (show ∀ b : Int, (b < x0 ∨ x0 + 2 < b) → (g_182 x0 (v_210 x0 d) (g_278 x0 (mset (g_210 x0 d) x0 0 0))) b = d b from fun b hb => (F3 b (by omega)).trans ((F2 b (by omega)).trans ((mset_ne (by omega)).trans (F1 b (by omega))))) hS5
        · exact (show False by omega).elim
      · have hS6 : Safe (mset (g_210 x0 d) x0 0 2) := s_11_f0 hS1 hx0 (by omega)
        rw [mset_eq (d := g_210 x0 d) (a := x0) (i := (0 : Int)) (v := (2 : Int))]
        refine ⟨m_inR (by omega) (by omega), fun c3 => ?_, fun c3 => ?_⟩
        · exact (show False by omega).elim
        · have y0 : v_290 x0 d = 0 := by simp only [v_290, if_neg (show ¬ v_210 x0 d = 0 from c0), if_neg (show ¬ d (x0 + 1) 8 = 16 from c1), if_neg (show ¬ v_183 x0 (v_210 x0 d) (g_210 x0 d) = (-1) from c2), if_pos (show (0 : Int) < 2 from c3)]
          have y1 : g_290 x0 d = mset (g_210 x0 d) x0 0 2 := by simp only [g_290, if_neg (show ¬ v_210 x0 d = 0 from c0), if_neg (show ¬ d (x0 + 1) 8 = 16 from c1), if_neg (show ¬ v_183 x0 (v_210 x0 d) (g_210 x0 d) = (-1) from c2), if_pos (show (0 : Int) < 2 from c3)]
          rw [y0] at h
          rw [y1] at h
          exact h (show ∀ b : Int, (b < x0 ∨ x0 + 2 < b) → (mset (g_210 x0 d) x0 0 2) b = d b from fun b hb => (mset_ne (by omega)).trans (F1 b (by omega))) hS6
  · have hS7 : Safe (mset (g_210 x0 d) x0 0 1) := s_11_f0 hS1 hx0 (by omega)
    rw [mset_eq (d := g_210 x0 d) (a := x0) (i := (0 : Int)) (v := (1 : Int))]
    refine ⟨m_inR (by omega) (by omega), fun c1 => ?_, fun c1 => ?_⟩
    · exact (show False by omega).elim
    · have y0 : v_290 x0 d = 0 := by simp only [v_290, if_pos (show v_210 x0 d = 0 from c0), if_pos (show (0 : Int) < 1 from c1)]
      have y1 : g_290 x0 d = mset (g_210 x0 d) x0 0 1 := by simp only [g_290, if_pos (show v_210 x0 d = 0 from c0), if_pos (show (0 : Int) < 1 from c1)]
      rw [y0] at h
      rw [y1] at h
      exact h (show ∀ b : Int, (b < x0 ∨ x0 + 2 < b) → (mset (g_210 x0 d) x0 0 1) b = d b from fun b hb => (mset_ne (by omega)).trans (F1 b (by omega))) hS7
/-! ===== contracts of the reference's methods: printed by a program of mine ===== -/
def rkP (f : Int → Int) : Prop := f 11 ≤ csum (fun k => if f (1916 + 5 * k + 3) = 1 then 1 else 0) (f 10).toNat
theorem rkP.of {f g : Int → Int} (h10 : 0 ≤ g 10 ∧ g 10 ≤ 200) (Q : ∀ i : Int, i = 10 ∨ i = 11 ∨ (1916 ≤ i ∧ i < 2916 ∧ (i - 1916) % 5 = 3) → f i = g i) (h : rkP g) : rkP f := by
  unfold rkP at h ⊢
  rw [Q 10 (by omega), Q 11 (by omega)]
  rw [csum_congr (g := fun k => if g (1916 + 5 * k + 3) = 1 then 1 else 0) (fun i h0 h1 => by rw [Q (1916 + 5 * i + 3) (by omega)])]
  exact h
theorem csum_lt {f : Int → Int} {n : Nat} (h : ∀ i : Int, 0 ≤ i → i < (n : Int) → 0 ≤ f i ∧ f i ≤ 1) {k : Int} (h0 : 0 ≤ k) (h1 : k < (n : Int)) (hk : f k = 0) : csum f n + 1 ≤ (n : Int) := by
  induction n with
  | zero => omega
  | succ n ih =>
    show csum f n + f (n : Int) + 1 ≤ _
    by_cases e : k = (n : Int)
    · subst e
      have := csum_rng (f := f) (n := n) (B := 1) (fun i a b => h i a (by omega))
      omega
    · have := ih (fun i a b => h i a (by omega)) (by omega)
      have := h (n : Int) (by omega) (by omega)
      omega
theorem csum_one {f g : Int → Int} {n : Nat} {k : Int} (h0 : 0 ≤ k) (h1 : k < (n : Int)) (hk : f k = g k + 1) (ho : ∀ i : Int, 0 ≤ i → i < (n : Int) → i ≠ k → f i = g i) : csum f n = csum g n + 1 := by
  induction n with
  | zero => omega
  | succ n ih =>
    show csum f n + f (n : Int) = csum g n + g (n : Int) + 1
    by_cases e : k = (n : Int)
    · subst e
      rw [csum_congr (g := g) (fun i a b => ho i a (by omega) (by omega)), hk]
      omega
    · rw [ih (by omega) (fun i a b c => ho i a (by omega) c), ho (n : Int) (by omega) (by omega) (fun c => e c.symm)]
      omega
theorem rk_lt {f : Int → Int} (h : rkP f) (h10 : 0 ≤ f 10 ∧ f 10 ≤ 200) (k : Int) : (0 ≤ k ∧ k < f 10 ∧ ¬ f (1916 + 5 * k + 3) = 1 ∧ f 11 ≤ 199) ∨ k < 0 ∨ f 10 ≤ k ∨ f (1916 + 5 * k + 3) = 1 := by
  by_cases c : 0 ≤ k ∧ k < f 10 ∧ ¬ f (1916 + 5 * k + 3) = 1
  · left
    refine ⟨c.1, c.2.1, c.2.2, ?_⟩
    unfold rkP at h
    have := csum_lt (f := fun k => if f (1916 + 5 * k + 3) = 1 then 1 else 0) (n := (f 10).toNat) (fun i _ _ => by split <;> omega) c.1 (by omega) (if_neg c.2.2)
    omega
  · omega
theorem rkP.offer {f g : Int → Int} {k : Int} (h10 : f 10 = g 10) (h11 : f 11 = g 11 + 1) (hk : 0 ≤ k ∧ k < g 10) (hk0 : ¬ g (1916 + 5 * k + 3) = 1) (hk1 : f (1916 + 5 * k + 3) = 1) (ho : ∀ j, 0 ≤ j → j < g 10 → j ≠ k → f (1916 + 5 * j + 3) = g (1916 + 5 * j + 3)) (h : rkP g) : rkP f := by
  unfold rkP at h ⊢
  rw [h10, h11, csum_one (g := fun k => if g (1916 + 5 * k + 3) = 1 then 1 else 0) hk.1 (by omega) (by rw [if_pos hk1, if_neg hk0]; rfl) (fun i a b c => by rw [ho i a (by omega) c])]
  omega
def st_286_65 (x0 x1 x2 : Int) (r65 : Int → Int → mD → Int × mD) (x3 x4 : Int) (d : mD) : Int × mD := if x4 < d (x0 + 1) 10 then (if (0 : Int) < x3 then (if d (x0 + 1) ((1916 + (5 * x4)) + 0) = x1 then (if d (x0 + 1) ((1916 + (5 * x4)) + 3) = 0 then r65 (x3 + (-1)) (x4 + 1) (mset (mset (mset d (x0 + 1) ((1916 + (5 * x4)) + 3) 1) (x0 + 1) (2916 + (d (x0 + 1) 11)) x4) (x0 + 1) 11 ((d (x0 + 1) 11) + 1)) else r65 x3 (x4 + 1) d) else r65 x3 (x4 + 1) d) else (v_219 x0 d, g_219 x0 d)) else (v_219 x0 d, g_219 x0 d)
def lp_286_65 (x0 x1 x2 : Int) : Nat → Int → Int → mD → Int × mD
  | 0 => st_286_65 x0 x1 x2 (fun _ _ d => (0, d))
  | n + 1 => st_286_65 x0 x1 x2 (lp_286_65 x0 x1 x2 n)
theorem ls_286_65 {E : mO × tW} {K : tK} {x0 x1 x2 : Int} (hx0 : mdB x0) (p1 : -2147483648 ≤ x1 ∧ x1 ≤ 2147483647) (p2 : -2147483648 ≤ x2 ∧ x2 ≤ 2147483647) (N65 : Int) (r65 : Int → Int → mD → Int × mD) (ih65 : ∀ (x3 x4 : Int) (d : mD), Safe d → (0 ≤ x4 ∧ x4 ≤ 200) → (0 ≤ x3 ∧ x3 ≤ 200) → (rkP (d (x0 + 1))) → 0 ≤ 200 - x4 → 200 - x4 < N65 → ((∀ b : Int, (b < x0 ∨ x0 + 2 < b) → (r65 x3 x4 d).2 b = d b) → Safe (r65 x3 x4 d).2 → K (.inl (some (0, (r65 x3 x4 d).1))) (r65 x3 x4 d).2) → tRun E 286 (65, [.inr (11, x0), .inl (0, x1), .inl (0, x2), .inl (0, x3), .inl (0, x4)], [], 0, 0, d) K) (x3 x4 : Int) (d : mD) (hS : Safe d) (i0 : 0 ≤ x4 ∧ x4 ≤ 200) (i1 : 0 ≤ x3 ∧ x3 ≤ 200) (hrk : rkP (d (x0 + 1))) (hm : 200 - x4 ≤ N65) (h : (∀ b : Int, (b < x0 ∨ x0 + 2 < b) → (st_286_65 x0 x1 x2 r65 x3 x4 d).2 b = d b) → Safe (st_286_65 x0 x1 x2 r65 x3 x4 d).2 → K (.inl (some (0, (st_286_65 x0 x1 x2 r65 x3 x4 d).1))) (st_286_65 x0 x1 x2 r65 x3 x4 d).2) : tRun E 286 (65, [.inr (11, x0), .inl (0, x1), .inl (0, x2), .inl (0, x3), .inl (0, x4)], [], 0, 0, d) K := by
  refine t_286_65 ?_
  have w1 := rk_lt hrk (mh_10 hS hx0 _ rfl) x4
  have q1 := mh_10 hS hx0 _ rfl
  refine ⟨by omega, ⟨m_inR (by omega) (by omega), m_inR (by omega) (by omega)⟩, fun c0 => ?_, fun c0 => ?_⟩
  · refine k_219 hS hx0 (fun e1 F1 Q1 hS1 => ?_)
    refine t_286_167 ?_
    have y0 : st_286_65 x0 x1 x2 r65 x3 x4 d = (v_219 x0 d, g_219 x0 d) := by simp only [st_286_65, if_neg (show ¬ x4 < d (x0 + 1) 10 from Int.not_lt.mpr c0)]
    rw [y0] at h
    exact h (show ∀ b : Int, (b < x0 ∨ x0 + 2 < b) → (g_219 x0 d) b = d b from fun b hb => F1 b (by omega)) hS1
  · refine ⟨m_inR (by omega) (by omega), fun c1 => ?_, fun c1 => ?_⟩
    · refine k_219 hS hx0 (fun e2 F2 Q2 hS2 => ?_)
      refine t_286_167 ?_
      have y0 : st_286_65 x0 x1 x2 r65 x3 x4 d = (v_219 x0 d, g_219 x0 d) := by simp only [st_286_65, if_pos (show x4 < d (x0 + 1) 10 from c0), if_neg (show ¬ (0 : Int) < x3 from Int.not_lt.mpr c1)]
      rw [y0] at h
      exact h (show ∀ b : Int, (b < x0 ∨ x0 + 2 < b) → (g_219 x0 d) b = d b from fun b hb => F2 b (by omega)) hS2
    · refine k_180 hS ?_
      refine t_286_90 ?_
      have q2 := mk_0 hS hx0 x4 ((1916 + (5 * x4)) + 0) (by omega) (by omega)
      refine ⟨by omega, ⟨m_inR (by omega) (by omega), m_inR (by omega) (by omega)⟩, fun c2 => ?_, fun c2 => ?_⟩
      · refine ih65 x3 (x4 + 1)  d hS (by omega) (by omega) hrk (by omega) (by omega) ?_
        intro F hS_
        have y0 : st_286_65 x0 x1 x2 r65 x3 x4 d = r65 x3 (x4 + 1) d := by simp only [st_286_65, if_pos (show x4 < d (x0 + 1) 10 from c0), if_pos (show (0 : Int) < x3 from c1), if_neg (show ¬ d (x0 + 1) ((1916 + (5 * x4)) + 0) = x1 from c2)]
        rw [y0] at h
        exact h F hS_
      · refine k_180 hS ?_
        refine t_286_106 ?_
        have q3 := mk_3 hS hx0 x4 ((1916 + (5 * x4)) + 3) (by omega) (by omega)
        refine ⟨by omega, m_inR (by omega) (by omega), fun c3 => ?_, fun c3 => ?_⟩
        · refine ih65 x3 (x4 + 1)  d hS (by omega) (by omega) hrk (by omega) (by omega) ?_
          intro F hS_
          have y0 : st_286_65 x0 x1 x2 r65 x3 x4 d = r65 x3 (x4 + 1) d := by simp only [st_286_65, if_pos (show x4 < d (x0 + 1) 10 from c0), if_pos (show (0 : Int) < x3 from c1), if_pos (show d (x0 + 1) ((1916 + (5 * x4)) + 0) = x1 from c2), if_neg (show ¬ d (x0 + 1) ((1916 + (5 * x4)) + 3) = 0 from c3)]
          rw [y0] at h
          exact h F hS_
        · refine k_180 hS ?_
          refine t_286_121 ?_
          refine ⟨by omega, ?_⟩
          have hS3 : Safe (mset d (x0 + 1) ((1916 + (5 * x4)) + 3) 1) := smk_3 hS hx0 x4 ((1916 + (5 * x4)) + 3) (by omega) (by omega) (by omega)
          rw [mset_ni (d := d) (a := x0 + 1) (i := (1916 + (5 * x4)) + 3) (v := (1 : Int)) (b := x0 + 1) (j := (11 : Int)) (by omega)]
          have q4 := mh_11 hS hx0 _ rfl
          refine ⟨by omega, by omega, ?_⟩
          have hS4 : Safe (mset (mset d (x0 + 1) ((1916 + (5 * x4)) + 3) 1) (x0 + 1) (2916 + (d (x0 + 1) 11)) x4) := smf hS3 hx0 (d (x0 + 1) 11) (2916 + (d (x0 + 1) 11)) (by omega) (by omega) (by omega)
          rw [mset_ni (d := mset d (x0 + 1) ((1916 + (5 * x4)) + 3) 1) (a := x0 + 1) (i := 2916 + (d (x0 + 1) 11)) (v := x4) (b := x0 + 1) (j := (11 : Int)) (by omega)]
          rw [mset_ni (d := d) (a := x0 + 1) (i := (1916 + (5 * x4)) + 3) (v := (1 : Int)) (b := x0 + 1) (j := (11 : Int)) (by omega)]
          refine ⟨by omega, by omega, ?_⟩
          have hS5 : Safe (mset (mset (mset d (x0 + 1) ((1916 + (5 * x4)) + 3) 1) (x0 + 1) (2916 + (d (x0 + 1) 11)) x4) (x0 + 1) 11 ((d (x0 + 1) 11) + 1)) := smh_11 hS4 hx0 _ rfl (by omega)
          refine ih65 (x3 + (-1)) (x4 + 1)  (mset (mset (mset d (x0 + 1) ((1916 + (5 * x4)) + 3) 1) (x0 + 1) (2916 + (d (x0 + 1) 11)) x4) (x0 + 1) 11 ((d (x0 + 1) 11) + 1)) hS5 (by omega) (by omega) (rkP.offer (k := x4) ((mset_ni (by omega)).trans ((mset_ni (by omega)).trans (mset_ni (by omega)))) mset_eq (by omega) (by omega) ((mset_ni (by omega)).trans ((mset_ni (by omega)).trans mset_eq)) (fun j j0 j1 j2 => (mset_ni (by omega)).trans ((mset_ni (by omega)).trans (mset_ni (by omega)))) hrk) (by omega) (by omega) ?_
          intro F hS_
          have y0 : st_286_65 x0 x1 x2 r65 x3 x4 d = r65 (x3 + (-1)) (x4 + 1) (mset (mset (mset d (x0 + 1) ((1916 + (5 * x4)) + 3) 1) (x0 + 1) (2916 + (d (x0 + 1) 11)) x4) (x0 + 1) 11 ((d (x0 + 1) 11) + 1)) := by simp only [st_286_65, if_pos (show x4 < d (x0 + 1) 10 from c0), if_pos (show (0 : Int) < x3 from c1), if_pos (show d (x0 + 1) ((1916 + (5 * x4)) + 0) = x1 from c2), if_pos (show d (x0 + 1) ((1916 + (5 * x4)) + 3) = 0 from c3)]
          rw [y0] at h
          exact h (fun b hb => (F b hb).trans ((show ∀ b : Int, (b < x0 ∨ x0 + 2 < b) → (mset (mset (mset d (x0 + 1) ((1916 + (5 * x4)) + 3) 1) (x0 + 1) (2916 + (d (x0 + 1) 11)) x4) (x0 + 1) 11 ((d (x0 + 1) 11) + 1)) b = d b from fun b hb => (mset_ne (by omega)).trans ((mset_ne (by omega)).trans (mset_ne (by omega)))) b hb)) hS_
theorem l_286_65 {E : mO × tW} {K : tK} {x0 x1 x2 : Int} (hx0 : mdB x0) (p1 : -2147483648 ≤ x1 ∧ x1 ≤ 2147483647) (p2 : -2147483648 ≤ x2 ∧ x2 ≤ 2147483647) : ∀ (n : Nat) (x3 x4 : Int) (d : mD), Safe d → (0 ≤ x4 ∧ x4 ≤ 200) → (0 ≤ x3 ∧ x3 ≤ 200) → (rkP (d (x0 + 1))) → 200 - x4 ≤ (n : Int) → ((∀ b : Int, (b < x0 ∨ x0 + 2 < b) → (lp_286_65 x0 x1 x2 n x3 x4 d).2 b = d b) → Safe (lp_286_65 x0 x1 x2 n x3 x4 d).2 → K (.inl (some (0, (lp_286_65 x0 x1 x2 n x3 x4 d).1))) (lp_286_65 x0 x1 x2 n x3 x4 d).2) → tRun E 286 (65, [.inr (11, x0), .inl (0, x1), .inl (0, x2), .inl (0, x3), .inl (0, x4)], [], 0, 0, d) K := by
  intro n
  induction n with
  | zero =>
    intro x3 x4  d hS i0 i1 hrk hm  h
    exact ls_286_65 hx0 p1 p2 0 _ (fun _ _  _ _ _ _ _ m0 m1 _ => absurd m1 (by omega)) x3 x4  d hS i0 i1 hrk hm  h
  | succ n ih =>
    intro x3 x4  d hS i0 i1 hrk hm  h
    exact ls_286_65 hx0 p1 p2 ((n + 1 : Nat) : Int) _ (fun x3 x4  d hS i0 i1 hrk  m0 m1 h => ih x3 x4  d hS i0 i1 hrk (by omega)  h) x3 x4  d hS i0 i1 hrk hm  h
def f_286 (x0 x1 x2 : Int) (d : mD) : Int × mD := if v_237 x0 x1 d = 0 then (0, mset d x0 0 1) else if v_176 x2 1 200 d = 0 then (0, mset d x0 0 2) else if v_245 x0 x1 0 d < x2 then (0, mset d x0 0 3) else lp_286_65 x0 x1 x2 (200 - 0 : Int).toNat x2 0 (g_278 x0 (mset d x0 0 0))
def v_286 (x0 x1 x2 : Int) (d : mD) : Int := (f_286 x0 x1 x2 d).1
def g_286 (x0 x1 x2 : Int) (d : mD) : mD := (f_286 x0 x1 x2 d).2
theorem k_286 {E : mO × tW} {K : tK} {d : mD} {x0 x1 x2 : Int} (hS : Safe d) (hx0 : mdB x0) (p1 : -2147483648 ≤ x1 ∧ x1 ≤ 2147483647) (p2 : -2147483648 ≤ x2 ∧ x2 ≤ 2147483647) (hrk : rkP (d (x0 + 1))) (h : (∀ b : Int, (b < x0 ∨ x0 + 2 < b) → (g_286 x0 x1 x2 d) b = d b) → Safe (g_286 x0 x1 x2 d) → K (.inl (some (0, (v_286 x0 x1 x2 d)))) (g_286 x0 x1 x2 d)) : tCall E 286 [.inr (11, x0), .inl (0, x1), .inl (0, x2)] d K := by
  simp only [v_286, g_286] at h
  refine t_286_0 ?_
  have w0 := mh_0 hS hx0 _ rfl
  have w7 := mh_7 hS hx0 _ rfl
  have w8 := mh_8 hS hx0 _ rfl
  have w9 := mh_9 hS hx0 _ rfl
  have w10 := mh_10 hS hx0 _ rfl
  have w11 := mh_11 hS hx0 _ rfl
  refine k_237 hS hx0 (m_inR (by omega) (by omega)) (fun e3 => ?_)
  refine t_286_6 ?_
  refine ⟨m_inR (by omega) (by omega), fun c0 => ?_, fun c0 => ?_⟩
  · refine ⟨m_inR (by omega) (by omega), ?_⟩
    refine k_176 hS (m_inR (by omega) (by omega)) (m_inR (by omega) (by omega)) (m_inR (by omega) (by omega)) (fun e4 => ?_)
    refine t_286_22 ?_
    refine ⟨m_inR (by omega) (by omega), fun c1 => ?_, fun c1 => ?_⟩
    · refine k_245 hS hx0 (m_inR (by omega) (by omega)) (m_inR (by omega) (by omega)) (fun e5 => ?_)
      refine t_286_35 ?_
      refine ⟨⟨m_inR (by omega) (by omega), m_inR (by omega) (by omega)⟩, fun c2 => ?_, fun c2 => ?_⟩
      · have hS6 : Safe (mset d x0 0 0) := s_11_f0 hS hx0 (by omega)
        rw [mset_eq (d := d) (a := x0) (i := (0 : Int)) (v := (0 : Int))]
        refine ⟨m_inR (by omega) (by omega), fun c3 => ?_, fun c3 => ?_⟩
        · refine k_278 hS6 hx0 (fun F3 hS7 => ?_)
          refine t_286_60 ?_
          refine l_286_65 hx0 p1 p2 (200 - 0 : Int).toNat x2 0  (g_278 x0 (mset d x0 0 0)) hS7 (by omega) (by omega) (rkP.of (mh_10 hS hx0 _ rfl) (show ∀ i : Int, i = 10 ∨ i = 11 ∨ (1916 ≤ i ∧ i < 2916 ∧ (i - 1916) % 5 = 3) → (g_278 x0 (mset d x0 0 0)) (x0 + 1) i = d (x0 + 1) i from fun i hi => (congrFun (F3 (x0 + 1) (by omega)) i).trans (congrFun (mset_ne (by omega)) i)) hrk) (by omega) ?_
          intro F hS_
          have y0 : f_286 x0 x1 x2 d = lp_286_65 x0 x1 x2 (200 - 0 : Int).toNat x2 0 (g_278 x0 (mset d x0 0 0)) := by simp only [f_286, if_neg (show ¬ v_237 x0 x1 d = 0 from c0), if_neg (show ¬ v_176 x2 1 200 d = 0 from c1), if_neg (show ¬ v_245 x0 x1 0 d < x2 from Int.not_lt.mpr c2), if_neg (show ¬ (0 : Int) < 0 from Int.not_lt.mpr c3)]
          rw [y0] at h
          exact h (fun b hb => (F b hb).trans ((show ∀ b : Int, (b < x0 ∨ x0 + 2 < b) → (g_278 x0 (mset d x0 0 0)) b = d b from fun b hb => (F3 b (by omega)).trans (mset_ne (by omega))) b hb)) hS_
        · exact (show False by omega).elim
      · have hS8 : Safe (mset d x0 0 3) := s_11_f0 hS hx0 (by omega)
        rw [mset_eq (d := d) (a := x0) (i := (0 : Int)) (v := (3 : Int))]
        refine ⟨m_inR (by omega) (by omega), fun c3 => ?_, fun c3 => ?_⟩
        · exact (show False by omega).elim
        · have y0 : f_286 x0 x1 x2 d = (0, mset d x0 0 3) := by simp only [f_286, if_neg (show ¬ v_237 x0 x1 d = 0 from c0), if_neg (show ¬ v_176 x2 1 200 d = 0 from c1), if_pos (show v_245 x0 x1 0 d < x2 from c2), if_pos (show (0 : Int) < 3 from c3)]
          rw [y0] at h
          exact h (show ∀ b : Int, (b < x0 ∨ x0 + 2 < b) → (mset d x0 0 3) b = d b from fun b hb => mset_ne (by omega)) hS8
    · have hS9 : Safe (mset d x0 0 2) := s_11_f0 hS hx0 (by omega)
      rw [mset_eq (d := d) (a := x0) (i := (0 : Int)) (v := (2 : Int))]
      refine ⟨m_inR (by omega) (by omega), fun c2 => ?_, fun c2 => ?_⟩
      · exact (show False by omega).elim
      · have y0 : f_286 x0 x1 x2 d = (0, mset d x0 0 2) := by simp only [f_286, if_neg (show ¬ v_237 x0 x1 d = 0 from c0), if_pos (show v_176 x2 1 200 d = 0 from c1), if_pos (show (0 : Int) < 2 from c2)]
        rw [y0] at h
        exact h (show ∀ b : Int, (b < x0 ∨ x0 + 2 < b) → (mset d x0 0 2) b = d b from fun b hb => mset_ne (by omega)) hS9
  · have hS10 : Safe (mset d x0 0 1) := s_11_f0 hS hx0 (by omega)
    rw [mset_eq (d := d) (a := x0) (i := (0 : Int)) (v := (1 : Int))]
    refine ⟨m_inR (by omega) (by omega), fun c1 => ?_, fun c1 => ?_⟩
    · exact (show False by omega).elim
    · have y0 : f_286 x0 x1 x2 d = (0, mset d x0 0 1) := by simp only [f_286, if_pos (show v_237 x0 x1 d = 0 from c0), if_pos (show (0 : Int) < 1 from c1)]
      rw [y0] at h
      exact h (show ∀ b : Int, (b < x0 ∨ x0 + 2 < b) → (mset d x0 0 1) b = d b from fun b hb => mset_ne (by omega)) hS10
theorem v221c {x0 x1 : Int} {d d' : mD} (h : d' (x0 + 1) = d (x0 + 1)) : v_221 x0 x1 d' = v_221 x0 x1 d := by
  have g : ∀ (n : Nat) (a b : Int), lp_221_17 x0 x1 n a b d' = lp_221_17 x0 x1 n a b d := by
    intro n
    induction n with
    | zero => intro a b; show st_221_17 x0 x1 _ a b d' = st_221_17 x0 x1 _ a b d; unfold st_221_17; rw [h]
    | succ n ih => intro a b; show st_221_17 x0 x1 _ a b d' = st_221_17 x0 x1 _ a b d; unfold st_221_17; rw [h, ih]
  unfold v_221
  rw [h, g]
def v_280 (x0 x1 : Int) (d : mD) : Int := if v_238 x0 x1 d = 0 then 0 else if d (x0 + 1) ((452 + (24 * x1)) + 4) = 0 then ((g_220 x0 (d (x0 + 1) ((452 + (24 * x1)) + 1)) (v_221 x0 x1 (g_278 x0 (mset d x0 0 0))) (g_278 x0 (mset d x0 0 0))) (x0 + 1) 0) - ((g_220 x0 (d (x0 + 1) ((452 + (24 * x1)) + 1)) (v_221 x0 x1 (g_278 x0 (mset d x0 0 0))) (g_278 x0 (mset d x0 0 0))) (x0 + 1) ((452 + (24 * x1)) + 2)) else 0
def g_280 (x0 x1 : Int) (d : mD) : mD := if v_238 x0 x1 d = 0 then mset d x0 0 1 else if d (x0 + 1) ((452 + (24 * x1)) + 4) = 0 then mset (mset (g_220 x0 (d (x0 + 1) ((452 + (24 * x1)) + 1)) (v_221 x0 x1 (g_278 x0 (mset d x0 0 0))) (g_278 x0 (mset d x0 0 0))) (x0 + 1) ((452 + (24 * x1)) + 4) 2) (x0 + 1) ((452 + (24 * x1)) + 3) ((g_220 x0 (d (x0 + 1) ((452 + (24 * x1)) + 1)) (v_221 x0 x1 (g_278 x0 (mset d x0 0 0))) (g_278 x0 (mset d x0 0 0))) (x0 + 1) 0) else mset d x0 0 2
theorem k_280 {E : mO × tW} {K : tK} {d : mD} {x0 x1 : Int} (hS : Safe d) (hx0 : mdB x0) (p1 : -2147483648 ≤ x1 ∧ x1 ≤ 2147483647) (hwq : x1 < 0 ∨ d (x0 + 1) 9 ≤ x1 ∨ ¬ d (x0 + 1) (452 + 24 * x1 + 4) = 0 ∨ (0 ≤ v_221 x0 x1 d ∧ 1 ≤ d (x0 + 1) (12 + 68 * d (x0 + 1) (452 + 24 * x1 + 1) + 5))) (h : (∀ b : Int, (b < x0 ∨ x0 + 2 < b) → (g_280 x0 x1 d) b = d b) → Safe (g_280 x0 x1 d) → K (.inl (some (0, (v_280 x0 x1 d)))) (g_280 x0 x1 d)) : tCall E 280 [.inr (11, x0), .inl (0, x1)] d K := by
  refine t_280_0 ?_
  have w0 := mh_0 hS hx0 _ rfl
  have w7 := mh_7 hS hx0 _ rfl
  have w8 := mh_8 hS hx0 _ rfl
  have w9 := mh_9 hS hx0 _ rfl
  have w10 := mh_10 hS hx0 _ rfl
  have w11 := mh_11 hS hx0 _ rfl
  refine k_238 hS hx0 (m_inR (by omega) (by omega)) (fun e1 => ?_)
  refine t_280_6 ?_
  refine ⟨m_inR (by omega) (by omega), fun c0 => ?_, fun c0 => ?_⟩
  · refine k_179 hS ?_
    refine t_280_21 ?_
    have q1 := mt_4 hS hx0 x1 ((452 + (24 * x1)) + 4) (by omega) (by omega)
    refine ⟨by omega, m_inR (by omega) (by omega), fun c1 => ?_, fun c1 => ?_⟩
    · have hS1 : Safe (mset d x0 0 2) := s_11_f0 hS hx0 (by omega)
      rw [mset_eq (d := d) (a := x0) (i := (0 : Int)) (v := (2 : Int))]
      refine ⟨m_inR (by omega) (by omega), fun c2 => ?_, fun c2 => ?_⟩
      · exact (show False by omega).elim
      · have y0 : v_280 x0 x1 d = 0 := by simp only [v_280, if_neg (show ¬ v_238 x0 x1 d = 0 from c0), if_neg (show ¬ d (x0 + 1) ((452 + (24 * x1)) + 4) = 0 from c1), if_pos (show (0 : Int) < 2 from c2)]
        have y1 : g_280 x0 x1 d = mset d x0 0 2 := by simp only [g_280, if_neg (show ¬ v_238 x0 x1 d = 0 from c0), if_neg (show ¬ d (x0 + 1) ((452 + (24 * x1)) + 4) = 0 from c1), if_pos (show (0 : Int) < 2 from c2)]
        rw [y0] at h
        rw [y1] at h
        exact h (show ∀ b : Int, (b < x0 ∨ x0 + 2 < b) → (mset d x0 0 2) b = d b from fun b hb => mset_ne (by omega)) hS1
    · have hS2 : Safe (mset d x0 0 0) := s_11_f0 hS hx0 (by omega)
      rw [mset_eq (d := d) (a := x0) (i := (0 : Int)) (v := (0 : Int))]
      refine ⟨m_inR (by omega) (by omega), fun c2 => ?_, fun c2 => ?_⟩
      · refine k_278 hS2 hx0 (fun F1 hS3 => ?_)
        refine t_280_48 ?_
        refine k_179 hS3 ?_
        refine t_280_57 ?_
        rw [F1 (x0 + 1) (by omega)]
        rw [mset_ne (d := d) (a := x0) (i := (0 : Int)) (v := (0 : Int)) (b := x0 + 1) (by omega)]
        refine ⟨by omega, ?_⟩
        refine k_221 hS3 hx0 (by omega) (fun e2 => ?_)
        refine t_280_65 ?_
        have w1 : v_221 x0 x1 (g_278 x0 (mset d x0 0 0)) = v_221 x0 x1 d := v221c ((F1 (x0 + 1) (by omega)).trans (mset_ne (by omega)))
        have q2 := mt_1 hS hx0 x1 ((452 + (24 * x1)) + 1) (by omega) (by omega)
        have q3 : (g_278 x0 (mset d x0 0 0)) (x0 + 1) (12 + 68 * d (x0 + 1) ((452 + (24 * x1)) + 1) + 5) = d (x0 + 1) (12 + 68 * d (x0 + 1) ((452 + (24 * x1)) + 1) + 5) := (congrFun (F1 (x0 + 1) (by omega)) (12 + 68 * d (x0 + 1) ((452 + (24 * x1)) + 1) + 5)).trans (congrFun (mset_ne (by omega)) (12 + 68 * d (x0 + 1) ((452 + (24 * x1)) + 1) + 5))
        refine k_220 hS3 hx0 (by omega) (by omega) (by omega) (fun F2 Q2 n2_0 hS4 => ?_)
        refine t_280_68 ?_
        refine k_179 hS4 ?_
        refine t_280_76 ?_
        refine ⟨by omega, ?_⟩
        have hS5 : Safe (mset (g_220 x0 (d (x0 + 1) ((452 + (24 * x1)) + 1)) (v_221 x0 x1 (g_278 x0 (mset d x0 0 0))) (g_278 x0 (mset d x0 0 0))) (x0 + 1) ((452 + (24 * x1)) + 4) 2) := smt_4 hS4 hx0 x1 ((452 + (24 * x1)) + 4) (by omega) (by omega) (by omega)
        refine k_179 hS5 ?_
        refine t_280_88 ?_
        rw [mset_ni (d := g_220 x0 (d (x0 + 1) ((452 + (24 * x1)) + 1)) (v_221 x0 x1 (g_278 x0 (mset d x0 0 0))) (g_278 x0 (mset d x0 0 0))) (a := x0 + 1) (i := (452 + (24 * x1)) + 4) (v := (2 : Int)) (b := x0 + 1) (j := (0 : Int)) (by omega)]
        have q4 := mh_0 hS4 hx0 _ rfl
        refine ⟨by omega, by omega, ?_⟩
        have hS6 : Safe (mset (mset (g_220 x0 (d (x0 + 1) ((452 + (24 * x1)) + 1)) (v_221 x0 x1 (g_278 x0 (mset d x0 0 0))) (g_278 x0 (mset d x0 0 0))) (x0 + 1) ((452 + (24 * x1)) + 4) 2) (x0 + 1) ((452 + (24 * x1)) + 3) ((g_220 x0 (d (x0 + 1) ((452 + (24 * x1)) + 1)) (v_221 x0 x1 (g_278 x0 (mset d x0 0 0))) (g_278 x0 (mset d x0 0 0))) (x0 + 1) 0)) := smt_3 hS5 hx0 x1 ((452 + (24 * x1)) + 3) (by omega) (by omega) (by omega)
        rw [mset_ni (d := mset (g_220 x0 (d (x0 + 1) ((452 + (24 * x1)) + 1)) (v_221 x0 x1 (g_278 x0 (mset d x0 0 0))) (g_278 x0 (mset d x0 0 0))) (x0 + 1) ((452 + (24 * x1)) + 4) 2) (a := x0 + 1) (i := (452 + (24 * x1)) + 3) (v := (g_220 x0 (d (x0 + 1) ((452 + (24 * x1)) + 1)) (v_221 x0 x1 (g_278 x0 (mset d x0 0 0))) (g_278 x0 (mset d x0 0 0))) (x0 + 1) 0) (b := x0 + 1) (j := (0 : Int)) (by omega)]
        rw [mset_ni (d := g_220 x0 (d (x0 + 1) ((452 + (24 * x1)) + 1)) (v_221 x0 x1 (g_278 x0 (mset d x0 0 0))) (g_278 x0 (mset d x0 0 0))) (a := x0 + 1) (i := (452 + (24 * x1)) + 4) (v := (2 : Int)) (b := x0 + 1) (j := (0 : Int)) (by omega)]
        refine ⟨by omega, ?_⟩
        refine k_179 hS6 ?_
        refine t_280_111 ?_
        rw [mset_ni (d := mset (g_220 x0 (d (x0 + 1) ((452 + (24 * x1)) + 1)) (v_221 x0 x1 (g_278 x0 (mset d x0 0 0))) (g_278 x0 (mset d x0 0 0))) (x0 + 1) ((452 + (24 * x1)) + 4) 2) (a := x0 + 1) (i := (452 + (24 * x1)) + 3) (v := (g_220 x0 (d (x0 + 1) ((452 + (24 * x1)) + 1)) (v_221 x0 x1 (g_278 x0 (mset d x0 0 0))) (g_278 x0 (mset d x0 0 0))) (x0 + 1) 0) (b := x0 + 1) (j := (452 + (24 * x1)) + 2) (by omega)]
        rw [mset_ni (d := g_220 x0 (d (x0 + 1) ((452 + (24 * x1)) + 1)) (v_221 x0 x1 (g_278 x0 (mset d x0 0 0))) (g_278 x0 (mset d x0 0 0))) (a := x0 + 1) (i := (452 + (24 * x1)) + 4) (v := (2 : Int)) (b := x0 + 1) (j := (452 + (24 * x1)) + 2) (by omega)]
        have q5 := mt_2 hS4 hx0 x1 ((452 + (24 * x1)) + 2) (by omega) (by omega)
        refine ⟨by omega, ?_⟩
        have y0 : v_280 x0 x1 d = ((g_220 x0 (d (x0 + 1) ((452 + (24 * x1)) + 1)) (v_221 x0 x1 (g_278 x0 (mset d x0 0 0))) (g_278 x0 (mset d x0 0 0))) (x0 + 1) 0) - ((g_220 x0 (d (x0 + 1) ((452 + (24 * x1)) + 1)) (v_221 x0 x1 (g_278 x0 (mset d x0 0 0))) (g_278 x0 (mset d x0 0 0))) (x0 + 1) ((452 + (24 * x1)) + 2)) := by simp only [v_280, if_neg (show ¬ v_238 x0 x1 d = 0 from c0), if_pos (show d (x0 + 1) ((452 + (24 * x1)) + 4) = 0 from c1), if_neg (show ¬ (0 : Int) < 0 from Int.not_lt.mpr c2)]
        have y1 : g_280 x0 x1 d = mset (mset (g_220 x0 (d (x0 + 1) ((452 + (24 * x1)) + 1)) (v_221 x0 x1 (g_278 x0 (mset d x0 0 0))) (g_278 x0 (mset d x0 0 0))) (x0 + 1) ((452 + (24 * x1)) + 4) 2) (x0 + 1) ((452 + (24 * x1)) + 3) ((g_220 x0 (d (x0 + 1) ((452 + (24 * x1)) + 1)) (v_221 x0 x1 (g_278 x0 (mset d x0 0 0))) (g_278 x0 (mset d x0 0 0))) (x0 + 1) 0) := by simp only [g_280, if_neg (show ¬ v_238 x0 x1 d = 0 from c0), if_pos (show d (x0 + 1) ((452 + (24 * x1)) + 4) = 0 from c1), if_neg (show ¬ (0 : Int) < 0 from Int.not_lt.mpr c2)]
        rw [y0] at h
        rw [y1] at h
        exact h (show ∀ b : Int, (b < x0 ∨ x0 + 2 < b) → (mset (mset (g_220 x0 (d (x0 + 1) ((452 + (24 * x1)) + 1)) (v_221 x0 x1 (g_278 x0 (mset d x0 0 0))) (g_278 x0 (mset d x0 0 0))) (x0 + 1) ((452 + (24 * x1)) + 4) 2) (x0 + 1) ((452 + (24 * x1)) + 3) ((g_220 x0 (d (x0 + 1) ((452 + (24 * x1)) + 1)) (v_221 x0 x1 (g_278 x0 (mset d x0 0 0))) (g_278 x0 (mset d x0 0 0))) (x0 + 1) 0)) b = d b from fun b hb => (mset_ne (by omega)).trans ((mset_ne (by omega)).trans ((F2 b (by omega)).trans ((F1 b (by omega)).trans (mset_ne (by omega)))))) hS6
      · exact (show False by omega).elim
  · have hS7 : Safe (mset d x0 0 1) := s_11_f0 hS hx0 (by omega)
    rw [mset_eq (d := d) (a := x0) (i := (0 : Int)) (v := (1 : Int))]
    refine ⟨m_inR (by omega) (by omega), fun c1 => ?_, fun c1 => ?_⟩
    · exact (show False by omega).elim
    · have y0 : v_280 x0 x1 d = 0 := by simp only [v_280, if_pos (show v_238 x0 x1 d = 0 from c0), if_pos (show (0 : Int) < 1 from c1)]
      have y1 : g_280 x0 x1 d = mset d x0 0 1 := by simp only [g_280, if_pos (show v_238 x0 x1 d = 0 from c0), if_pos (show (0 : Int) < 1 from c1)]
      rw [y0] at h
      rw [y1] at h
      exact h (show ∀ b : Int, (b < x0 ∨ x0 + 2 < b) → (mset d x0 0 1) b = d b from fun b hb => mset_ne (by omega)) hS7
