/-! ===== contracts of the reference's methods: printed by a program of mine ===== -/
def st_206_53 (x0 : Int) (r53 : Int → mD → mD) (x1 : Int) (d : mD) : mD := if x1 < 5 then r53 (x1 + 1) (mset (g_197 x0 (v_291 x1 d) (v_292 x1 d) d) (x0 + 1) (2 + x1) (v_197 x0 (v_291 x1 d) (v_292 x1 d) d)) else if (g_205 x0 (g_204 x0 0 (g_204 x0 1 (g_195 x0 (mset (g_197 x0 0 99999 d) (x0 + 1) 1 (v_197 x0 0 99999 d)))))) x0 13 = 0 then (if (g_189 x0 (g_205 x0 (g_204 x0 0 (g_204 x0 1 (g_195 x0 (mset (g_197 x0 0 99999 d) (x0 + 1) 1 (v_197 x0 0 99999 d))))))) x0 10 < d x0 9 then g_188 x0 1 ((g_189 x0 (g_205 x0 (g_204 x0 0 (g_204 x0 1 (g_195 x0 (mset (g_197 x0 0 99999 d) (x0 + 1) 1 (v_197 x0 0 99999 d))))))) x0 10) (g_189 x0 (g_205 x0 (g_204 x0 0 (g_204 x0 1 (g_195 x0 (mset (g_197 x0 0 99999 d) (x0 + 1) 1 (v_197 x0 0 99999 d))))))) else g_189 x0 (g_205 x0 (g_204 x0 0 (g_204 x0 1 (g_195 x0 (mset (g_197 x0 0 99999 d) (x0 + 1) 1 (v_197 x0 0 99999 d))))))) else g_205 x0 (g_204 x0 0 (g_204 x0 1 (g_195 x0 (mset (g_197 x0 0 99999 d) (x0 + 1) 1 (v_197 x0 0 99999 d)))))
def lp_206_53 (x0 : Int) : Nat → Int → mD → mD
  | 0 => st_206_53 x0 (fun _ d => d)
  | n + 1 => st_206_53 x0 (lp_206_53 x0 n)
theorem ls_206_53 {E : mO × tW} {K : tK} {x0 : Int} (hx0 : mdB x0) (N53 : Int) (r53 : Int → mD → mD) (ih53 : ∀ (x1 : Int) (d : mD), Safe d → (0 ≤ x1 ∧ x1 ≤ 5) → (mpP (d (x0 + 1))) → (mwP (d (x0 + 1))) → (d (x0 + 1) 0 ≤ 999) → 0 ≤ 5 - x1 → 5 - x1 < N53 → ((∀ b : Int, (b < x0 ∨ x0 + 1 < b) → (r53 x1 d) b = d b) → (r53 x1 d) x0 9 = d x0 9 → mpP ((r53 x1 d) (x0 + 1)) → mwP ((r53 x1 d) (x0 + 1)) → ((r53 x1 d) (x0 + 1) 0 ≤ 999) → Safe (r53 x1 d) → K (.inl none) (r53 x1 d)) → tRun E 206 (53, [.inr (11, x0), .inl (0, x1)], [], 0, 0, d) K) (x1 : Int) (d : mD) (hS : Safe d) (i0 : 0 ≤ x1 ∧ x1 ≤ 5) (hmp : mpP (d (x0 + 1))) (hmw : mwP (d (x0 + 1))) (i3 : d (x0 + 1) 0 ≤ 999) (hm : 5 - x1 ≤ N53) (h : (∀ b : Int, (b < x0 ∨ x0 + 1 < b) → (st_206_53 x0 r53 x1 d) b = d b) → (st_206_53 x0 r53 x1 d) x0 9 = d x0 9 → mpP ((st_206_53 x0 r53 x1 d) (x0 + 1)) → mwP ((st_206_53 x0 r53 x1 d) (x0 + 1)) → ((st_206_53 x0 r53 x1 d) (x0 + 1) 0 ≤ 999) → Safe (st_206_53 x0 r53 x1 d) → K (.inl none) (st_206_53 x0 r53 x1 d)) : tRun E 206 (53, [.inr (11, x0), .inl (0, x1)], [], 0, 0, d) K := by
  refine t_206_53 ?_
  have w8 := r_11_f9 hS hx0
  have w9 := r_11_f10 hS hx0
  refine ⟨⟨m_inR (by omega) (by omega), m_inR (by omega) (by omega)⟩, fun c0 => ?_, fun c0 => ?_⟩
  · refine k_197 hS hx0 (by omega) (by omega) (fun e1 F1 k1_0 n1_0 n1_1 n1_2 hS1 => ?_)
    refine t_206_96 ?_
    have w8 := r_11_f9 hS1 hx0
    have w9 := r_11_f10 hS1 hx0
    refine ⟨by omega, ?_⟩
    have hS2 : Safe (mset (g_197 x0 0 99999 d) (x0 + 1) 1 (v_197 x0 0 99999 d)) := smh_1 hS1 hx0 _ rfl (by omega)
    refine k_195 hS2 hx0 (fun F2 k2_0 n2_0 n2_1 n2_2 hS3 => ?_)
    refine t_206_101 ?_
    have w8 := r_11_f9 hS3 hx0
    have w9 := r_11_f10 hS3 hx0
    refine k_204 hS3 hx0 (by omega) (mpP.of (mh_7 hS hx0 _ rfl) (show ∀ i : Int, i = 7 ∨ (12 ≤ i ∧ i < 420 ∧ (i - 12) % 68 = 2) → (g_195 x0 (mset (g_197 x0 0 99999 d) (x0 + 1) 1 (v_197 x0 0 99999 d))) (x0 + 1) i = d (x0 + 1) i from fun i hi => ((congrFun (F2 (x0 + 1) (by omega)) i).trans (mset_ni (by omega))).trans (congrFun (F1 (x0 + 1) (by omega)) i)) hmp) (fun F3 k3_0 Q3 P3hmp n3_0 n3_1 hS4 => ?_)
    refine t_206_106 ?_
    have w8 := r_11_f9 hS4 hx0
    have w9 := r_11_f10 hS4 hx0
    refine k_204 hS4 hx0 (by omega) P3hmp (fun F4 k4_0 Q4 P4hmp n4_0 n4_1 hS5 => ?_)
    refine t_206_111 ?_
    have w8 := r_11_f9 hS5 hx0
    have w9 := r_11_f10 hS5 hx0
    have q1 : (g_204 x0 0 (g_204 x0 1 (g_195 x0 (mset (g_197 x0 0 99999 d) (x0 + 1) 1 (v_197 x0 0 99999 d))))) (x0 + 1) 0 = d (x0 + 1) 0 := ((((Q4 0 (by omega)).trans (Q3 0 (by omega))).trans (congrFun (F2 (x0 + 1) (by omega)) 0)).trans (mset_ni (by omega))).trans (congrFun (F1 (x0 + 1) (by omega)) 0)
    refine k_205 hS5 hx0 P4hmp (mwP.of (fun i hi => Q4 i (by omega)) (mwP.of (fun i hi => Q3 i (by omega)) (mwP.eq (F2 (x0 + 1) (by omega)) (mwP.ne (fun t t0 t1 => by omega) (mwP.eq (F1 (x0 + 1) (by omega)) hmw))))) (by omega) (fun F5 k5_0 P5hmp P5hmw n5_0 hS6 => ?_)
    refine t_206_115 ?_
    have w8 := r_11_f9 hS6 hx0
    have w9 := r_11_f10 hS6 hx0
    have q2 := r_11_f13 hS6 hx0
    refine ⟨m_inR (by omega) (by omega), fun c1 => ?_, fun c1 => ?_⟩
    · refine t_206_146 ?_
      have w8 := r_11_f9 hS6 hx0
      have w9 := r_11_f10 hS6 hx0
      have y0 : st_206_53 x0 r53 x1 d = g_205 x0 (g_204 x0 0 (g_204 x0 1 (g_195 x0 (mset (g_197 x0 0 99999 d) (x0 + 1) 1 (v_197 x0 0 99999 d))))) := by simp only [st_206_53, if_neg (show ¬ x1 < 5 from Int.not_lt.mpr c0), if_neg (show ¬ (g_205 x0 (g_204 x0 0 (g_204 x0 1 (g_195 x0 (mset (g_197 x0 0 99999 d) (x0 + 1) 1 (v_197 x0 0 99999 d)))))) x0 13 = 0 from c1)]
      rw [y0] at h
      exact h (show ∀ b : Int, (b < x0 ∨ x0 + 1 < b) → (g_205 x0 (g_204 x0 0 (g_204 x0 1 (g_195 x0 (mset (g_197 x0 0 99999 d) (x0 + 1) 1 (v_197 x0 0 99999 d)))))) b = d b from fun b hb => (F5 b (by omega)).trans ((F4 b (by omega)).trans ((F3 b (by omega)).trans ((F2 b (by omega)).trans ((mset_ne (by omega)).trans (F1 b (by omega))))))) (show (g_205 x0 (g_204 x0 0 (g_204 x0 1 (g_195 x0 (mset (g_197 x0 0 99999 d) (x0 + 1) 1 (v_197 x0 0 99999 d)))))) x0 9 = d x0 9 from (((((k5_0).trans (k4_0)).trans (k3_0)).trans (k2_0)).trans (congrFun (mset_ne (by omega)) 9)).trans (k1_0)) P5hmp P5hmw (show (g_205 x0 (g_204 x0 0 (g_204 x0 1 (g_195 x0 (mset (g_197 x0 0 99999 d) (x0 + 1) 1 (v_197 x0 0 99999 d)))))) (x0 + 1) 0 ≤ 999 by omega) hS6
    · refine k_189 hS6 hx0 (fun F6 k6_0 n6_0 n6_1 hS7 => ?_)
      refine t_206_126 ?_
      have w8 := r_11_f9 hS7 hx0
      have w9 := r_11_f10 hS7 hx0
      rw [k6_0]
      rw [k5_0]
      rw [k4_0]
      rw [k3_0]
      rw [k2_0]
      rw [mset_ni (d := g_197 x0 0 99999 d) (a := x0 + 1) (i := (1 : Int)) (v := v_197 x0 0 99999 d) (b := x0) (j := (9 : Int)) (by omega)]
      rw [k1_0]
      have q3 := r_11_f10 hS7 hx0
      have q4 := r_11_f9 hS hx0
      refine ⟨⟨m_inR (by omega) (by omega), m_inR (by omega) (by omega)⟩, fun c2 => ?_, fun c2 => ?_⟩
      · refine t_206_146 ?_
        have w8 := r_11_f9 hS7 hx0
        have w9 := r_11_f10 hS7 hx0
        have q5 : (g_189 x0 (g_205 x0 (g_204 x0 0 (g_204 x0 1 (g_195 x0 (mset (g_197 x0 0 99999 d) (x0 + 1) 1 (v_197 x0 0 99999 d))))))) (x0 + 1) 0 = (g_205 x0 (g_204 x0 0 (g_204 x0 1 (g_195 x0 (mset (g_197 x0 0 99999 d) (x0 + 1) 1 (v_197 x0 0 99999 d)))))) (x0 + 1) 0 := congrFun (F6 (x0 + 1) (by omega)) 0
        have y0 : st_206_53 x0 r53 x1 d = g_189 x0 (g_205 x0 (g_204 x0 0 (g_204 x0 1 (g_195 x0 (mset (g_197 x0 0 99999 d) (x0 + 1) 1 (v_197 x0 0 99999 d)))))) := by simp only [st_206_53, if_neg (show ¬ x1 < 5 from Int.not_lt.mpr c0), if_pos (show (g_205 x0 (g_204 x0 0 (g_204 x0 1 (g_195 x0 (mset (g_197 x0 0 99999 d) (x0 + 1) 1 (v_197 x0 0 99999 d)))))) x0 13 = 0 from c1), if_neg (show ¬ (g_189 x0 (g_205 x0 (g_204 x0 0 (g_204 x0 1 (g_195 x0 (mset (g_197 x0 0 99999 d) (x0 + 1) 1 (v_197 x0 0 99999 d))))))) x0 10 < d x0 9 from Int.not_lt.mpr c2)]
        rw [y0] at h
        exact h (show ∀ b : Int, (b < x0 ∨ x0 + 1 < b) → (g_189 x0 (g_205 x0 (g_204 x0 0 (g_204 x0 1 (g_195 x0 (mset (g_197 x0 0 99999 d) (x0 + 1) 1 (v_197 x0 0 99999 d))))))) b = d b from fun b hb => (F6 b (by omega)).trans ((F5 b (by omega)).trans ((F4 b (by omega)).trans ((F3 b (by omega)).trans ((F2 b (by omega)).trans ((mset_ne (by omega)).trans (F1 b (by omega)))))))) (show (g_189 x0 (g_205 x0 (g_204 x0 0 (g_204 x0 1 (g_195 x0 (mset (g_197 x0 0 99999 d) (x0 + 1) 1 (v_197 x0 0 99999 d))))))) x0 9 = d x0 9 from ((((((k6_0).trans (k5_0)).trans (k4_0)).trans (k3_0)).trans (k2_0)).trans (congrFun (mset_ne (by omega)) 9)).trans (k1_0)) (mpP.of (mh_7 hS6 hx0 _ rfl) (show ∀ i : Int, i = 7 ∨ (12 ≤ i ∧ i < 420 ∧ (i - 12) % 68 = 2) → (g_189 x0 (g_205 x0 (g_204 x0 0 (g_204 x0 1 (g_195 x0 (mset (g_197 x0 0 99999 d) (x0 + 1) 1 (v_197 x0 0 99999 d))))))) (x0 + 1) i = (g_205 x0 (g_204 x0 0 (g_204 x0 1 (g_195 x0 (mset (g_197 x0 0 99999 d) (x0 + 1) 1 (v_197 x0 0 99999 d)))))) (x0 + 1) i from fun i hi => congrFun (F6 (x0 + 1) (by omega)) i) P5hmp) (mwP.eq (F6 (x0 + 1) (by omega)) P5hmw) (show (g_189 x0 (g_205 x0 (g_204 x0 0 (g_204 x0 1 (g_195 x0 (mset (g_197 x0 0 99999 d) (x0 + 1) 1 (v_197 x0 0 99999 d))))))) (x0 + 1) 0 ≤ 999 by omega) hS7
      · refine k_188 hS7 hx0 (by omega) (by omega) (fun F7 k7_0 n7_0 n7_1 n7_2 hS8 => ?_)
        refine t_206_146 ?_
        have w8 := r_11_f9 hS8 hx0
        have w9 := r_11_f10 hS8 hx0
        have q6 : (g_188 x0 1 ((g_189 x0 (g_205 x0 (g_204 x0 0 (g_204 x0 1 (g_195 x0 (mset (g_197 x0 0 99999 d) (x0 + 1) 1 (v_197 x0 0 99999 d))))))) x0 10) (g_189 x0 (g_205 x0 (g_204 x0 0 (g_204 x0 1 (g_195 x0 (mset (g_197 x0 0 99999 d) (x0 + 1) 1 (v_197 x0 0 99999 d)))))))) (x0 + 1) 0 = (g_205 x0 (g_204 x0 0 (g_204 x0 1 (g_195 x0 (mset (g_197 x0 0 99999 d) (x0 + 1) 1 (v_197 x0 0 99999 d)))))) (x0 + 1) 0 := (congrFun (F7 (x0 + 1) (by omega)) 0).trans (congrFun (F6 (x0 + 1) (by omega)) 0)
        have y0 : st_206_53 x0 r53 x1 d = g_188 x0 1 ((g_189 x0 (g_205 x0 (g_204 x0 0 (g_204 x0 1 (g_195 x0 (mset (g_197 x0 0 99999 d) (x0 + 1) 1 (v_197 x0 0 99999 d))))))) x0 10) (g_189 x0 (g_205 x0 (g_204 x0 0 (g_204 x0 1 (g_195 x0 (mset (g_197 x0 0 99999 d) (x0 + 1) 1 (v_197 x0 0 99999 d))))))) := by simp only [st_206_53, if_neg (show ¬ x1 < 5 from Int.not_lt.mpr c0), if_pos (show (g_205 x0 (g_204 x0 0 (g_204 x0 1 (g_195 x0 (mset (g_197 x0 0 99999 d) (x0 + 1) 1 (v_197 x0 0 99999 d)))))) x0 13 = 0 from c1), if_pos (show (g_189 x0 (g_205 x0 (g_204 x0 0 (g_204 x0 1 (g_195 x0 (mset (g_197 x0 0 99999 d) (x0 + 1) 1 (v_197 x0 0 99999 d))))))) x0 10 < d x0 9 from c2)]
        rw [y0] at h
        exact h (show ∀ b : Int, (b < x0 ∨ x0 + 1 < b) → (g_188 x0 1 ((g_189 x0 (g_205 x0 (g_204 x0 0 (g_204 x0 1 (g_195 x0 (mset (g_197 x0 0 99999 d) (x0 + 1) 1 (v_197 x0 0 99999 d))))))) x0 10) (g_189 x0 (g_205 x0 (g_204 x0 0 (g_204 x0 1 (g_195 x0 (mset (g_197 x0 0 99999 d) (x0 + 1) 1 (v_197 x0 0 99999 d)))))))) b = d b from fun b hb => (F7 b (by omega)).trans ((F6 b (by omega)).trans ((F5 b (by omega)).trans ((F4 b (by omega)).trans ((F3 b (by omega)).trans ((F2 b (by omega)).trans ((mset_ne (by omega)).trans (F1 b (by omega))))))))) (show (g_188 x0 1 ((g_189 x0 (g_205 x0 (g_204 x0 0 (g_204 x0 1 (g_195 x0 (mset (g_197 x0 0 99999 d) (x0 + 1) 1 (v_197 x0 0 99999 d))))))) x0 10) (g_189 x0 (g_205 x0 (g_204 x0 0 (g_204 x0 1 (g_195 x0 (mset (g_197 x0 0 99999 d) (x0 + 1) 1 (v_197 x0 0 99999 d)))))))) x0 9 = d x0 9 from (((((((k7_0).trans (k6_0)).trans (k5_0)).trans (k4_0)).trans (k3_0)).trans (k2_0)).trans (congrFun (mset_ne (by omega)) 9)).trans (k1_0)) (mpP.of (mh_7 hS6 hx0 _ rfl) (show ∀ i : Int, i = 7 ∨ (12 ≤ i ∧ i < 420 ∧ (i - 12) % 68 = 2) → (g_188 x0 1 ((g_189 x0 (g_205 x0 (g_204 x0 0 (g_204 x0 1 (g_195 x0 (mset (g_197 x0 0 99999 d) (x0 + 1) 1 (v_197 x0 0 99999 d))))))) x0 10) (g_189 x0 (g_205 x0 (g_204 x0 0 (g_204 x0 1 (g_195 x0 (mset (g_197 x0 0 99999 d) (x0 + 1) 1 (v_197 x0 0 99999 d)))))))) (x0 + 1) i = (g_205 x0 (g_204 x0 0 (g_204 x0 1 (g_195 x0 (mset (g_197 x0 0 99999 d) (x0 + 1) 1 (v_197 x0 0 99999 d)))))) (x0 + 1) i from fun i hi => (congrFun (F7 (x0 + 1) (by omega)) i).trans (congrFun (F6 (x0 + 1) (by omega)) i)) P5hmp) (mwP.eq (F7 (x0 + 1) (by omega)) (mwP.eq (F6 (x0 + 1) (by omega)) P5hmw)) (show (g_188 x0 1 ((g_189 x0 (g_205 x0 (g_204 x0 0 (g_204 x0 1 (g_195 x0 (mset (g_197 x0 0 99999 d) (x0 + 1) 1 (v_197 x0 0 99999 d))))))) x0 10) (g_189 x0 (g_205 x0 (g_204 x0 0 (g_204 x0 1 (g_195 x0 (mset (g_197 x0 0 99999 d) (x0 + 1) 1 (v_197 x0 0 99999 d)))))))) (x0 + 1) 0 ≤ 999 by omega) hS8
  · refine k_291 hS (m_inR (by omega) (by omega)) (fun e2 => ?_)
    refine t_206_70 ?_
    have w8 := r_11_f9 hS hx0
    have w9 := r_11_f10 hS hx0
    refine k_292 hS (m_inR (by omega) (by omega)) (fun e3 => ?_)
    refine t_206_74 ?_
    have w8 := r_11_f9 hS hx0
    have w9 := r_11_f10 hS hx0
    refine k_197 hS hx0 (by omega) (by omega) (fun e4 F8 k8_0 n8_0 n8_1 n8_2 hS9 => ?_)
    refine t_206_77 ?_
    have w8 := r_11_f9 hS9 hx0
    have w9 := r_11_f10 hS9 hx0
    refine ⟨by omega, ?_⟩
    have hS10 : Safe (mset (g_197 x0 (v_291 x1 d) (v_292 x1 d) d) (x0 + 1) (2 + x1) (v_197 x0 (v_291 x1 d) (v_292 x1 d) d)) := smstg hS9 hx0 x1 (2 + x1) (by omega) (by omega) (by omega)
    have q7 : (mset (g_197 x0 (v_291 x1 d) (v_292 x1 d) d) (x0 + 1) (2 + x1) (v_197 x0 (v_291 x1 d) (v_292 x1 d) d)) (x0 + 1) 0 = d (x0 + 1) 0 := (mset_ni (by omega)).trans (congrFun (F8 (x0 + 1) (by omega)) 0)
    refine ih53 (x1 + 1)  (mset (g_197 x0 (v_291 x1 d) (v_292 x1 d) d) (x0 + 1) (2 + x1) (v_197 x0 (v_291 x1 d) (v_292 x1 d) d)) hS10 (by omega) (mpP.of (mh_7 hS hx0 _ rfl) (show ∀ i : Int, i = 7 ∨ (12 ≤ i ∧ i < 420 ∧ (i - 12) % 68 = 2) → (mset (g_197 x0 (v_291 x1 d) (v_292 x1 d) d) (x0 + 1) (2 + x1) (v_197 x0 (v_291 x1 d) (v_292 x1 d) d)) (x0 + 1) i = d (x0 + 1) i from fun i hi => (mset_ni (by omega)).trans (congrFun (F8 (x0 + 1) (by omega)) i)) hmp) (mwP.ne (fun t t0 t1 => by omega) (mwP.eq (F8 (x0 + 1) (by omega)) hmw)) (by omega) (by omega) (by omega) ?_
    intro F k0 P_hmp P_hmw n0 hS_
    have y0 : st_206_53 x0 r53 x1 d = r53 (x1 + 1) (mset (g_197 x0 (v_291 x1 d) (v_292 x1 d) d) (x0 + 1) (2 + x1) (v_197 x0 (v_291 x1 d) (v_292 x1 d) d)) := by simp only [st_206_53, if_pos (show x1 < 5 from c0)]
    rw [y0] at h
    exact h (fun b hb => (F b hb).trans ((show ∀ b : Int, (b < x0 ∨ x0 + 1 < b) → (mset (g_197 x0 (v_291 x1 d) (v_292 x1 d) d) (x0 + 1) (2 + x1) (v_197 x0 (v_291 x1 d) (v_292 x1 d) d)) b = d b from fun b hb => (mset_ne (by omega)).trans (F8 b (by omega))) b hb)) (k0.trans ((congrFun (mset_ne (by omega)) 9).trans (k8_0))) P_hmp P_hmw (by omega) hS_
theorem l_206_53 {E : mO × tW} {K : tK} {x0 : Int} (hx0 : mdB x0) : ∀ (n : Nat) (x1 : Int) (d : mD), Safe d → (0 ≤ x1 ∧ x1 ≤ 5) → (mpP (d (x0 + 1))) → (mwP (d (x0 + 1))) → (d (x0 + 1) 0 ≤ 999) → 5 - x1 ≤ (n : Int) → ((∀ b : Int, (b < x0 ∨ x0 + 1 < b) → (lp_206_53 x0 n x1 d) b = d b) → (lp_206_53 x0 n x1 d) x0 9 = d x0 9 → mpP ((lp_206_53 x0 n x1 d) (x0 + 1)) → mwP ((lp_206_53 x0 n x1 d) (x0 + 1)) → ((lp_206_53 x0 n x1 d) (x0 + 1) 0 ≤ 999) → Safe (lp_206_53 x0 n x1 d) → K (.inl none) (lp_206_53 x0 n x1 d)) → tRun E 206 (53, [.inr (11, x0), .inl (0, x1)], [], 0, 0, d) K := by
  intro n
  induction n with
  | zero =>
    intro x1  d hS i0 hmp hmw i3 hm  h
    exact ls_206_53 hx0 0 _ (fun _  _ _ _ _ _ _ m0 m1 _ => absurd m1 (by omega)) x1  d hS i0 hmp hmw i3 hm  h
  | succ n ih =>
    intro x1  d hS i0 hmp hmw i3 hm  h
    exact ls_206_53 hx0 ((n + 1 : Nat) : Int) _ (fun x1  d hS i0 hmp hmw i3  m0 m1 h => ih x1  d hS i0 hmp hmw i3 (by omega)  h) x1  d hS i0 hmp hmw i3 hm  h
def st_206_12 (x0 : Int) (r12 : Int → mD → mD) (x1 : Int) (d : mD) : mD := if x1 < 3116 then r12 (x1 + 1) (mset d (x0 + 1) x1 0) else if v_194 x0 40216062 d = 0 then lp_206_53 x0 (5 - 0 : Int).toNat 0 (g_188 x0 1 ((g_194 x0 40216062 d) x0 10) (g_194 x0 40216062 d)) else lp_206_53 x0 (5 - 0 : Int).toNat 0 (g_194 x0 40216062 d)
def lp_206_12 (x0 : Int) : Nat → Int → mD → mD
  | 0 => st_206_12 x0 (fun _ d => d)
  | n + 1 => st_206_12 x0 (lp_206_12 x0 n)
theorem ls_206_12 {E : mO × tW} {K : tK} {x0 : Int} (hx0 : mdB x0) (N12 : Int) (r12 : Int → mD → mD) (ih12 : ∀ (x1 : Int) (d : mD), Safe d → (0 ≤ x1 ∧ x1 ≤ 3116) → (zP (d (x0 + 1)) x1) → 0 ≤ 3116 - x1 → 3116 - x1 < N12 → ((∀ b : Int, (b < x0 ∨ x0 + 1 < b) → (r12 x1 d) b = d b) → (r12 x1 d) x0 9 = d x0 9 → mpP ((r12 x1 d) (x0 + 1)) → mwP ((r12 x1 d) (x0 + 1)) → ((r12 x1 d) (x0 + 1) 0 ≤ 999) → Safe (r12 x1 d) → K (.inl none) (r12 x1 d)) → tRun E 206 (12, [.inr (11, x0), .inl (0, x1)], [], 0, 0, d) K) (x1 : Int) (d : mD) (hS : Safe d) (i0 : 0 ≤ x1 ∧ x1 ≤ 3116) (hz : zP (d (x0 + 1)) x1) (hm : 3116 - x1 ≤ N12) (h : (∀ b : Int, (b < x0 ∨ x0 + 1 < b) → (st_206_12 x0 r12 x1 d) b = d b) → (st_206_12 x0 r12 x1 d) x0 9 = d x0 9 → mpP ((st_206_12 x0 r12 x1 d) (x0 + 1)) → mwP ((st_206_12 x0 r12 x1 d) (x0 + 1)) → ((st_206_12 x0 r12 x1 d) (x0 + 1) 0 ≤ 999) → Safe (st_206_12 x0 r12 x1 d) → K (.inl none) (st_206_12 x0 r12 x1 d)) : tRun E 206 (12, [.inr (11, x0), .inl (0, x1)], [], 0, 0, d) K := by
  refine t_206_12 ?_
  have w8 := r_11_f9 hS hx0
  have w9 := r_11_f10 hS hx0
  refine ⟨⟨m_inR (by omega) (by omega), m_inR (by omega) (by omega)⟩, fun c0 => ?_, fun c0 => ?_⟩
  · refine k_194 hS hx0 (by omega) (fun e5 F9 k9_0 n9_0 n9_1 n9_2 hS11 => ?_)
    refine t_206_39 ?_
    have hmp : mpP (d (x0 + 1)) := mpP.z hz (by omega)
    have hmw : mwP (d (x0 + 1)) := mwP.z hz (by omega)
    have w0 : d (x0 + 1) 0 = 0 := hz 0 (by omega) (by omega)
    have w8 := r_11_f9 hS11 hx0
    have w9 := r_11_f10 hS11 hx0
    refine ⟨m_inR (by omega) (by omega), fun c1 => ?_, fun c1 => ?_⟩
    · refine t_206_51 ?_
      have w8 := r_11_f9 hS11 hx0
      have w9 := r_11_f10 hS11 hx0
      have q8 : (g_194 x0 40216062 d) (x0 + 1) 0 = d (x0 + 1) 0 := congrFun (F9 (x0 + 1) (by omega)) 0
      refine l_206_53 hx0 (5 - 0 : Int).toNat 0  (g_194 x0 40216062 d) hS11 (by omega) (mpP.of (mh_7 hS hx0 _ rfl) (show ∀ i : Int, i = 7 ∨ (12 ≤ i ∧ i < 420 ∧ (i - 12) % 68 = 2) → (g_194 x0 40216062 d) (x0 + 1) i = d (x0 + 1) i from fun i hi => congrFun (F9 (x0 + 1) (by omega)) i) hmp) (mwP.eq (F9 (x0 + 1) (by omega)) hmw) (by omega) (by omega) ?_
      intro F k0 P_hmp P_hmw n0 hS_
      have y0 : st_206_12 x0 r12 x1 d = lp_206_53 x0 (5 - 0 : Int).toNat 0 (g_194 x0 40216062 d) := by simp only [st_206_12, if_neg (show ¬ x1 < 3116 from Int.not_lt.mpr c0), if_neg (show ¬ v_194 x0 40216062 d = 0 from c1)]
      rw [y0] at h
      exact h (fun b hb => (F b hb).trans ((show ∀ b : Int, (b < x0 ∨ x0 + 1 < b) → (g_194 x0 40216062 d) b = d b from fun b hb => F9 b (by omega)) b hb)) (k0.trans (k9_0)) P_hmp P_hmw (by omega) hS_
    · have q9 := r_11_f10 hS11 hx0
      refine k_188 hS11 hx0 (by omega) (by omega) (fun F10 k10_0 n10_0 n10_1 n10_2 hS12 => ?_)
      refine t_206_51 ?_
      have w8 := r_11_f9 hS12 hx0
      have w9 := r_11_f10 hS12 hx0
      have q10 : (g_188 x0 1 ((g_194 x0 40216062 d) x0 10) (g_194 x0 40216062 d)) (x0 + 1) 0 = d (x0 + 1) 0 := (congrFun (F10 (x0 + 1) (by omega)) 0).trans (congrFun (F9 (x0 + 1) (by omega)) 0)
      refine l_206_53 hx0 (5 - 0 : Int).toNat 0  (g_188 x0 1 ((g_194 x0 40216062 d) x0 10) (g_194 x0 40216062 d)) hS12 (by omega) (mpP.of (mh_7 hS hx0 _ rfl) (show ∀ i : Int, i = 7 ∨ (12 ≤ i ∧ i < 420 ∧ (i - 12) % 68 = 2) → (g_188 x0 1 ((g_194 x0 40216062 d) x0 10) (g_194 x0 40216062 d)) (x0 + 1) i = d (x0 + 1) i from fun i hi => (congrFun (F10 (x0 + 1) (by omega)) i).trans (congrFun (F9 (x0 + 1) (by omega)) i)) hmp) (mwP.eq (F10 (x0 + 1) (by omega)) (mwP.eq (F9 (x0 + 1) (by omega)) hmw)) (by omega) (by omega) ?_
      intro F k0 P_hmp P_hmw n0 hS_
      have y0 : st_206_12 x0 r12 x1 d = lp_206_53 x0 (5 - 0 : Int).toNat 0 (g_188 x0 1 ((g_194 x0 40216062 d) x0 10) (g_194 x0 40216062 d)) := by simp only [st_206_12, if_neg (show ¬ x1 < 3116 from Int.not_lt.mpr c0), if_pos (show v_194 x0 40216062 d = 0 from c1)]
      rw [y0] at h
      exact h (fun b hb => (F b hb).trans ((show ∀ b : Int, (b < x0 ∨ x0 + 1 < b) → (g_188 x0 1 ((g_194 x0 40216062 d) x0 10) (g_194 x0 40216062 d)) b = d b from fun b hb => (F10 b (by omega)).trans (F9 b (by omega))) b hb)) (k0.trans ((k10_0).trans (k9_0))) P_hmp P_hmw (by omega) hS_
  · refine ⟨by omega, ?_⟩
    have hS13 : Safe (mset d (x0 + 1) x1 0) := smz hS hx0 x1
    refine ih12 (x1 + 1)  (mset d (x0 + 1) x1 0) hS13 (by omega) (zP.s hz) (by omega) (by omega) ?_
    intro F k0 P_hmp P_hmw n0 hS_
    have y0 : st_206_12 x0 r12 x1 d = r12 (x1 + 1) (mset d (x0 + 1) x1 0) := by simp only [st_206_12, if_pos (show x1 < 3116 from c0)]
    rw [y0] at h
    exact h (fun b hb => (F b hb).trans ((show ∀ b : Int, (b < x0 ∨ x0 + 1 < b) → (mset d (x0 + 1) x1 0) b = d b from fun b hb => mset_ne (by omega)) b hb)) (k0.trans (congrFun (mset_ne (by omega)) 9)) P_hmp P_hmw (by omega) hS_
theorem l_206_12 {E : mO × tW} {K : tK} {x0 : Int} (hx0 : mdB x0) : ∀ (n : Nat) (x1 : Int) (d : mD), Safe d → (0 ≤ x1 ∧ x1 ≤ 3116) → (zP (d (x0 + 1)) x1) → 3116 - x1 ≤ (n : Int) → ((∀ b : Int, (b < x0 ∨ x0 + 1 < b) → (lp_206_12 x0 n x1 d) b = d b) → (lp_206_12 x0 n x1 d) x0 9 = d x0 9 → mpP ((lp_206_12 x0 n x1 d) (x0 + 1)) → mwP ((lp_206_12 x0 n x1 d) (x0 + 1)) → ((lp_206_12 x0 n x1 d) (x0 + 1) 0 ≤ 999) → Safe (lp_206_12 x0 n x1 d) → K (.inl none) (lp_206_12 x0 n x1 d)) → tRun E 206 (12, [.inr (11, x0), .inl (0, x1)], [], 0, 0, d) K := by
  intro n
  induction n with
  | zero =>
    intro x1  d hS i0 hz hm  h
    exact ls_206_12 hx0 0 _ (fun _  _ _ _ _ m0 m1 _ => absurd m1 (by omega)) x1  d hS i0 hz hm  h
  | succ n ih =>
    intro x1  d hS i0 hz hm  h
    exact ls_206_12 hx0 ((n + 1 : Nat) : Int) _ (fun x1  d hS i0 hz  m0 m1 h => ih x1  d hS i0 hz (by omega)  h) x1  d hS i0 hz hm  h
def g_206 (x0 : Int) (d : mD) : mD := lp_206_12 x0 (3116 - 0 : Int).toNat 0 (mset (mset d x0 10 0) x0 13 0)
theorem k_206 {E : mO × tW} {K : tK} {d : mD} {x0 : Int} (hS : Safe d) (hx0 : mdB x0) (h : (∀ b : Int, (b < x0 ∨ x0 + 1 < b) → (g_206 x0 d) b = d b) → (g_206 x0 d) x0 9 = d x0 9 → mpP ((g_206 x0 d) (x0 + 1)) → mwP ((g_206 x0 d) (x0 + 1)) → ((g_206 x0 d) (x0 + 1) 0 ≤ 999) → Safe (g_206 x0 d) → K (.inl none) (g_206 x0 d)) : tCall E 206 [.inr (11, x0)] d K := by
  refine t_206_0 ?_
  have w8 := r_11_f9 hS hx0
  have w9 := r_11_f10 hS hx0
  have hS14 : Safe (mset d x0 10 0) := s_11_f10 hS hx0 (by omega)
  refine ⟨by omega, ?_⟩
  have hS15 : Safe (mset (mset d x0 10 0) x0 13 0) := s_11_f13 hS14 hx0 (by omega)
  refine l_206_12 hx0 (3116 - 0 : Int).toNat 0  (mset (mset d x0 10 0) x0 13 0) hS15 (by omega) (fun i h0 h1 => absurd h1 (by omega)) (by omega) ?_
  intro F k0 P_hmp P_hmw n0 hS_
  have q11 : (mset (mset d x0 10 0) x0 13 0) (x0 + 1) 0 = d (x0 + 1) 0 := (congrFun (mset_ne (by omega)) 0).trans (congrFun (mset_ne (by omega)) 0)
  have y0 : g_206 x0 d = lp_206_12 x0 (3116 - 0 : Int).toNat 0 (mset (mset d x0 10 0) x0 13 0) := by simp only [g_206]
  rw [y0] at h
  exact h (fun b hb => (F b hb).trans ((show ∀ b : Int, (b < x0 ∨ x0 + 1 < b) → (mset (mset d x0 10 0) x0 13 0) b = d b from fun b hb => (mset_ne (by omega)).trans (mset_ne (by omega))) b hb)) (k0.trans ((mset_ni (by omega)).trans (mset_ni (by omega)))) P_hmp P_hmw (by omega) hS_
def st_207_71 (x0 : Int) (r71 : Int → mD → Int × mD) (x1 : Int) (d : mD) : Int × mD := if x1 < 3116 then r71 (x1 + 1) (mset d (x0 + 1) x1 (d (x0 + 5) x1)) else (0, d)
def lp_207_71 (x0 : Int) : Nat → Int → mD → Int × mD
  | 0 => st_207_71 x0 (fun _ d => (0, d))
  | n + 1 => st_207_71 x0 (lp_207_71 x0 n)
set_option maxRecDepth 20000 in
theorem ls_207_71 {E : mO × tW} {K : tK} {x0 : Int} (hx0 : mdB x0) (N71 : Int) (r71 : Int → mD → Int × mD) (ih71 : ∀ (x1 : Int) (d : mD), Safe d → (0 ≤ x1 ∧ x1 ≤ 3116) → 0 ≤ 3116 - x1 → 3116 - x1 < N71 → ((∀ b : Int, (b < x0 ∨ x0 + 1 < b) ∧ (b < x0 + 5 ∨ x0 + 6 < b) → (r71 x1 d).2 b = d b) → Safe (r71 x1 d).2 → K (.inl (some (0, (r71 x1 d).1))) (r71 x1 d).2) → tRun E 207 (71, [.inr (11, x0), .inl (0, x1)], [], 0, 0, d) K) (x1 : Int) (d : mD) (hS : Safe d) (i0 : 0 ≤ x1 ∧ x1 ≤ 3116) (hm : 3116 - x1 ≤ N71) (h : (∀ b : Int, (b < x0 ∨ x0 + 1 < b) ∧ (b < x0 + 5 ∨ x0 + 6 < b) → (st_207_71 x0 r71 x1 d).2 b = d b) → Safe (st_207_71 x0 r71 x1 d).2 → K (.inl (some (0, (st_207_71 x0 r71 x1 d).1))) (st_207_71 x0 r71 x1 d).2) : tRun E 207 (71, [.inr (11, x0), .inl (0, x1)], [], 0, 0, d) K := by
  refine t_207_71 ?_
  refine ⟨⟨m_inR (by omega) (by omega), m_inR (by omega) (by omega)⟩, fun c0 => ?_, fun c0 => ?_⟩
  · have y0 : st_207_71 x0 r71 x1 d = (0, d) := by simp only [st_207_71, if_neg (show ¬ x1 < 3116 from Int.not_lt.mpr c0)]
    rw [y0] at h
    dsimp only at h
    exact h (show ∀ b : Int, (b < x0 ∨ x0 + 1 < b) ∧ (b < x0 + 5 ∨ x0 + 6 < b) → d b = d b from fun _ _ => rfl) hS
  · refine ⟨by omega, by omega, ?_⟩
    have hS1 : Safe (mset d (x0 + 1) x1 (d (x0 + 5) x1)) := sr_1 hS hx0 (j := x1) (by omega) (rr_5 hS hx0 x1)
    refine ih71 (x1 + 1)  (mset d (x0 + 1) x1 (d (x0 + 5) x1)) hS1 (by omega) (by omega) (by omega) ?_
    intro F hS_
    have y0 : st_207_71 x0 r71 x1 d = r71 (x1 + 1) (mset d (x0 + 1) x1 (d (x0 + 5) x1)) := by simp only [st_207_71, if_pos (show x1 < 3116 from c0)]
    rw [y0] at h
    exact h (fun b hb => (F b hb).trans ((show ∀ b : Int, (b < x0 ∨ x0 + 1 < b) ∧ (b < x0 + 5 ∨ x0 + 6 < b) → (mset d (x0 + 1) x1 (d (x0 + 5) x1)) b = d b from fun b hb => mset_ne (by omega)) b hb)) hS_
set_option maxRecDepth 20000 in
theorem l_207_71 {E : mO × tW} {K : tK} {x0 : Int} (hx0 : mdB x0) : ∀ (n : Nat) (x1 : Int) (d : mD), Safe d → (0 ≤ x1 ∧ x1 ≤ 3116) → 3116 - x1 ≤ (n : Int) → ((∀ b : Int, (b < x0 ∨ x0 + 1 < b) ∧ (b < x0 + 5 ∨ x0 + 6 < b) → (lp_207_71 x0 n x1 d).2 b = d b) → Safe (lp_207_71 x0 n x1 d).2 → K (.inl (some (0, (lp_207_71 x0 n x1 d).1))) (lp_207_71 x0 n x1 d).2) → tRun E 207 (71, [.inr (11, x0), .inl (0, x1)], [], 0, 0, d) K := by
  intro n
  induction n with
  | zero =>
    intro x1  d hS i0 hm  h
    exact ls_207_71 hx0 0 _ (fun _  _ _ _ m0 m1 _ => absurd m1 (by omega)) x1  d hS i0 hm  h
  | succ n ih =>
    intro x1  d hS i0 hm  h
    exact ls_207_71 hx0 ((n + 1 : Nat) : Int) _ (fun x1  d hS i0  m0 m1 h => ih x1  d hS i0 (by omega)  h) x1  d hS i0 hm  h
def st_207_12 (x0 : Int) (r12 : Int → mD → Int × mD) (x1 : Int) (d : mD) : Int × mD := if x1 < 3116 then r12 (x1 + 1) (mset d (x0 + 5) x1 (d (x0 + 1) x1)) else if (g_206 x0 d) x0 13 = 0 then ((g_206 x0 d) (x0 + 1) 8, mset (mset (mset (mset (mset (g_206 x0 d) x0 9 0) x0 0 0) x0 7 0) (x0 + 6) 0 0) (x0 + 6) 1 0) else lp_207_71 x0 (3116 - 0 : Int).toNat 0 (mset (mset (g_206 x0 d) x0 9 0) x0 0 1)
def lp_207_12 (x0 : Int) : Nat → Int → mD → Int × mD
  | 0 => st_207_12 x0 (fun _ d => (0, d))
  | n + 1 => st_207_12 x0 (lp_207_12 x0 n)
set_option maxRecDepth 20000 in
theorem ls_207_12 {E : mO × tW} {K : tK} {x0 : Int} (hx0 : mdB x0) (N12 : Int) (r12 : Int → mD → Int × mD) (ih12 : ∀ (x1 : Int) (d : mD), Safe d → (0 ≤ x1 ∧ x1 ≤ 3116) → 0 ≤ 3116 - x1 → 3116 - x1 < N12 → ((∀ b : Int, (b < x0 ∨ x0 + 1 < b) ∧ (b < x0 + 5 ∨ x0 + 6 < b) → (r12 x1 d).2 b = d b) → Safe (r12 x1 d).2 → K (.inl (some (0, (r12 x1 d).1))) (r12 x1 d).2) → tRun E 207 (12, [.inr (11, x0), .inl (0, x1)], [], 0, 0, d) K) (x1 : Int) (d : mD) (hS : Safe d) (i0 : 0 ≤ x1 ∧ x1 ≤ 3116) (hm : 3116 - x1 ≤ N12) (h : (∀ b : Int, (b < x0 ∨ x0 + 1 < b) ∧ (b < x0 + 5 ∨ x0 + 6 < b) → (st_207_12 x0 r12 x1 d).2 b = d b) → Safe (st_207_12 x0 r12 x1 d).2 → K (.inl (some (0, (st_207_12 x0 r12 x1 d).1))) (st_207_12 x0 r12 x1 d).2) : tRun E 207 (12, [.inr (11, x0), .inl (0, x1)], [], 0, 0, d) K := by
  refine t_207_12 ?_
  refine ⟨⟨m_inR (by omega) (by omega), m_inR (by omega) (by omega)⟩, fun c0 => ?_, fun c0 => ?_⟩
  · refine k_206 hS hx0 (fun F1 k1_0 P1hmp P1hmw n1_0 hS2 => ?_)
    refine t_207_41 ?_
    have hS3 : Safe (mset (g_206 x0 d) x0 9 0) := s_11_f9 hS2 hx0 (by omega)
    rw [mset_ni (d := g_206 x0 d) (a := x0) (i := (9 : Int)) (v := (0 : Int)) (b := x0) (j := (13 : Int)) (by omega)]
    have q1 := r_11_f13 hS2 hx0
    refine ⟨m_inR (by omega) (by omega), fun c1 => ?_, fun c1 => ?_⟩
    · have hS4 : Safe (mset (mset (g_206 x0 d) x0 9 0) x0 0 0) := s_11_f0 hS3 hx0 (by omega)
      rw [mset_eq (d := mset (g_206 x0 d) x0 9 0) (a := x0) (i := (0 : Int)) (v := (0 : Int))]
      refine ⟨m_inR (by omega) (by omega), fun c2 => ?_, fun c2 => ?_⟩
      · have hS5 : Safe (mset (mset (mset (g_206 x0 d) x0 9 0) x0 0 0) x0 7 0) := s_11_f7 hS4 hx0 (by omega)
        refine ⟨by omega, ?_⟩
        have hS6 : Safe (mset (mset (mset (mset (g_206 x0 d) x0 9 0) x0 0 0) x0 7 0) (x0 + 6) 0 0) := s_11_6 hS5 hx0 (by omega)
        refine ⟨by omega, ?_⟩
        have hS7 : Safe (mset (mset (mset (mset (mset (g_206 x0 d) x0 9 0) x0 0 0) x0 7 0) (x0 + 6) 0 0) (x0 + 6) 1 0) := s_11_6 hS6 hx0 (by omega)
        rw [mset_ni (d := mset (mset (mset (mset (g_206 x0 d) x0 9 0) x0 0 0) x0 7 0) (x0 + 6) 0 0) (a := x0 + 6) (i := (1 : Int)) (v := (0 : Int)) (b := x0 + 1) (j := (8 : Int)) (by omega)]
        rw [mset_ni (d := mset (mset (mset (g_206 x0 d) x0 9 0) x0 0 0) x0 7 0) (a := x0 + 6) (i := (0 : Int)) (v := (0 : Int)) (b := x0 + 1) (j := (8 : Int)) (by omega)]
        rw [mset_ni (d := mset (mset (g_206 x0 d) x0 9 0) x0 0 0) (a := x0) (i := (7 : Int)) (v := (0 : Int)) (b := x0 + 1) (j := (8 : Int)) (by omega)]
        rw [mset_ni (d := mset (g_206 x0 d) x0 9 0) (a := x0) (i := (0 : Int)) (v := (0 : Int)) (b := x0 + 1) (j := (8 : Int)) (by omega)]
        rw [mset_ni (d := g_206 x0 d) (a := x0) (i := (9 : Int)) (v := (0 : Int)) (b := x0 + 1) (j := (8 : Int)) (by omega)]
        have q2 := mh_8 hS2 hx0 _ rfl
        refine ⟨by omega, ?_⟩
        have y0 : st_207_12 x0 r12 x1 d = ((g_206 x0 d) (x0 + 1) 8, mset (mset (mset (mset (mset (g_206 x0 d) x0 9 0) x0 0 0) x0 7 0) (x0 + 6) 0 0) (x0 + 6) 1 0) := by simp only [st_207_12, if_neg (show ¬ x1 < 3116 from Int.not_lt.mpr c0), if_pos (show (g_206 x0 d) x0 13 = 0 from c1), if_neg (show ¬ (0 : Int) < 0 from Int.not_lt.mpr c2)]
        rw [y0] at h
        dsimp only at h
        exact h (show ∀ b : Int, (b < x0 ∨ x0 + 1 < b) ∧ (b < x0 + 5 ∨ x0 + 6 < b) → (mset (mset (mset (mset (mset (g_206 x0 d) x0 9 0) x0 0 0) x0 7 0) (x0 + 6) 0 0) (x0 + 6) 1 0) b = d b from fun b hb => (mset_ne (by omega)).trans ((mset_ne (by omega)).trans ((mset_ne (by omega)).trans ((mset_ne (by omega)).trans ((mset_ne (by omega)).trans (F1 b (by omega))))))) hS7
      · exact (show False by omega).elim
    · have hS8 : Safe (mset (mset (g_206 x0 d) x0 9 0) x0 0 1) := s_11_f0 hS3 hx0 (by omega)
      rw [mset_eq (d := mset (g_206 x0 d) x0 9 0) (a := x0) (i := (0 : Int)) (v := (1 : Int))]
      refine ⟨m_inR (by omega) (by omega), fun c2 => ?_, fun c2 => ?_⟩
      · exact (show False by omega).elim
      · refine l_207_71 hx0 (3116 - 0 : Int).toNat 0  (mset (mset (g_206 x0 d) x0 9 0) x0 0 1) hS8 (by omega) (by omega) ?_
        intro F hS_
        have y0 : st_207_12 x0 r12 x1 d = lp_207_71 x0 (3116 - 0 : Int).toNat 0 (mset (mset (g_206 x0 d) x0 9 0) x0 0 1) := by simp only [st_207_12, if_neg (show ¬ x1 < 3116 from Int.not_lt.mpr c0), if_neg (show ¬ (g_206 x0 d) x0 13 = 0 from c1), if_pos (show (0 : Int) < 1 from c2)]
        rw [y0] at h
        exact h (fun b hb => (F b hb).trans ((show ∀ b : Int, (b < x0 ∨ x0 + 1 < b) ∧ (b < x0 + 5 ∨ x0 + 6 < b) → (mset (mset (g_206 x0 d) x0 9 0) x0 0 1) b = d b from fun b hb => (mset_ne (by omega)).trans ((mset_ne (by omega)).trans (F1 b (by omega)))) b hb)) hS_
  · refine ⟨by omega, by omega, ?_⟩
    have hS9 : Safe (mset d (x0 + 5) x1 (d (x0 + 1) x1)) := sr_5 hS hx0 (j := x1) (by omega) (rr_1 hS hx0 x1)
    refine ih12 (x1 + 1)  (mset d (x0 + 5) x1 (d (x0 + 1) x1)) hS9 (by omega) (by omega) (by omega) ?_
    intro F hS_
    have y0 : st_207_12 x0 r12 x1 d = r12 (x1 + 1) (mset d (x0 + 5) x1 (d (x0 + 1) x1)) := by simp only [st_207_12, if_pos (show x1 < 3116 from c0)]
    rw [y0] at h
    exact h (fun b hb => (F b hb).trans ((show ∀ b : Int, (b < x0 ∨ x0 + 1 < b) ∧ (b < x0 + 5 ∨ x0 + 6 < b) → (mset d (x0 + 5) x1 (d (x0 + 1) x1)) b = d b from fun b hb => mset_ne (by omega)) b hb)) hS_
set_option maxRecDepth 20000 in
theorem l_207_12 {E : mO × tW} {K : tK} {x0 : Int} (hx0 : mdB x0) : ∀ (n : Nat) (x1 : Int) (d : mD), Safe d → (0 ≤ x1 ∧ x1 ≤ 3116) → 3116 - x1 ≤ (n : Int) → ((∀ b : Int, (b < x0 ∨ x0 + 1 < b) ∧ (b < x0 + 5 ∨ x0 + 6 < b) → (lp_207_12 x0 n x1 d).2 b = d b) → Safe (lp_207_12 x0 n x1 d).2 → K (.inl (some (0, (lp_207_12 x0 n x1 d).1))) (lp_207_12 x0 n x1 d).2) → tRun E 207 (12, [.inr (11, x0), .inl (0, x1)], [], 0, 0, d) K := by
  intro n
  induction n with
  | zero =>
    intro x1  d hS i0 hm  h
    exact ls_207_12 hx0 0 _ (fun _  _ _ _ m0 m1 _ => absurd m1 (by omega)) x1  d hS i0 hm  h
  | succ n ih =>
    intro x1  d hS i0 hm  h
    exact ls_207_12 hx0 ((n + 1 : Nat) : Int) _ (fun x1  d hS i0  m0 m1 h => ih x1  d hS i0 (by omega)  h) x1  d hS i0 hm  h
def f_207 (x0 : Int) (d : mD) : Int × mD := lp_207_12 x0 (3116 - 0 : Int).toNat 0 (mset (mset d x0 11 0) x0 12 ((-1)))
def v_207 (x0 : Int) (d : mD) : Int := (f_207 x0 d).1
def g_207 (x0 : Int) (d : mD) : mD := (f_207 x0 d).2
set_option maxRecDepth 20000 in
theorem k_207 {E : mO × tW} {K : tK} {d : mD} {x0 : Int} (hS : Safe d) (hx0 : mdB x0) (h : (∀ b : Int, (b < x0 ∨ x0 + 1 < b) ∧ (b < x0 + 5 ∨ x0 + 6 < b) → (g_207 x0 d) b = d b) → Safe (g_207 x0 d) → K (.inl (some (0, (v_207 x0 d)))) (g_207 x0 d)) : tCall E 207 [.inr (11, x0)] d K := by
  simp only [v_207, g_207] at h
  refine t_207_0 ?_
  have hS10 : Safe (mset d x0 11 0) := s_11_f11 hS hx0 (by omega)
  have hS11 : Safe (mset (mset d x0 11 0) x0 12 ((-1))) := s_11_f12 hS10 hx0 (by omega)
  refine l_207_12 hx0 (3116 - 0 : Int).toNat 0  (mset (mset d x0 11 0) x0 12 ((-1))) hS11 (by omega) (by omega) ?_
  intro F hS_
  have y0 : f_207 x0 d = lp_207_12 x0 (3116 - 0 : Int).toNat 0 (mset (mset d x0 11 0) x0 12 ((-1))) := by simp only [f_207]
  rw [y0] at h
  exact h (fun b hb => (F b hb).trans ((show ∀ b : Int, (b < x0 ∨ x0 + 1 < b) ∧ (b < x0 + 5 ∨ x0 + 6 < b) → (mset (mset d x0 11 0) x0 12 ((-1))) b = d b from fun b hb => (mset_ne (by omega)).trans (mset_ne (by omega))) b hb)) hS_
