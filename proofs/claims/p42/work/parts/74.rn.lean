/-! ===== contracts of the reference's methods: printed by a program of mine ===== -/
def st_206_53 (x0 : Int) (r53 : Int → mD → mD) (x1 : Int) (d : mD) : mD := if x1 < 5 then r53 (x1 + 1) (mset (g_197 x0 (v_291 x1 d) (v_292 x1 d) d) (x0 + 1) (2 + x1) (v_197 x0 (v_291 x1 d) (v_292 x1 d) d)) else if (g_205 x0 (g_204 x0 0 (g_204 x0 1 (g_195 x0 (mset (g_197 x0 0 99999 d) (x0 + 1) 1 (v_197 x0 0 99999 d)))))) x0 13 = 0 then (if (g_189 x0 (g_205 x0 (g_204 x0 0 (g_204 x0 1 (g_195 x0 (mset (g_197 x0 0 99999 d) (x0 + 1) 1 (v_197 x0 0 99999 d))))))) x0 10 < d x0 9 then g_188 x0 1 ((g_189 x0 (g_205 x0 (g_204 x0 0 (g_204 x0 1 (g_195 x0 (mset (g_197 x0 0 99999 d) (x0 + 1) 1 (v_197 x0 0 99999 d))))))) x0 10) (g_189 x0 (g_205 x0 (g_204 x0 0 (g_204 x0 1 (g_195 x0 (mset (g_197 x0 0 99999 d) (x0 + 1) 1 (v_197 x0 0 99999 d))))))) else g_189 x0 (g_205 x0 (g_204 x0 0 (g_204 x0 1 (g_195 x0 (mset (g_197 x0 0 99999 d) (x0 + 1) 1 (v_197 x0 0 99999 d))))))) else g_205 x0 (g_204 x0 0 (g_204 x0 1 (g_195 x0 (mset (g_197 x0 0 99999 d) (x0 + 1) 1 (v_197 x0 0 99999 d)))))
def lp_206_53 (x0 : Int) : Nat → Int → mD → mD
  | 0 => st_206_53 x0 (fun _ d => d)
  | n + 1 => st_206_53 x0 (lp_206_53 x0 n)
theorem ls_206_53 {E : mO × tW} {K : tK} {x0 : Int} (hx0 : mdB x0) (N53 : Int) (r53 : Int → mD → mD) (ih53 : ∀ (x1 : Int) (d : mD), Safe d → (0 ≤ x1 ∧ x1 ≤ 5) → (mpP (d (x0 + 1))) → (mwP (d (x0 + 1))) → (d (x0 + 1) 0 ≤ 999) → 0 ≤ 5 - x1 → 5 - x1 < N53 → ((∀ b : Int, (b < x0 ∨ x0 + 1 < b) → (r53 x1 d) b = d b) → (r53 x1 d) x0 9 = d x0 9 → mpP ((r53 x1 d) (x0 + 1)) → mwP ((r53 x1 d) (x0 + 1)) → ((r53 x1 d) (x0 + 1) 0 ≤ 999) → Safe (r53 x1 d) → K (.inl none) (r53 x1 d)) → tRun E 206 (53, [.inr (11, x0), .inl (0, x1)], [], 0, 0, d) K) (x1 : Int) (d : mD) (hS : Safe d) (i0 : 0 ≤ x1 ∧ x1 ≤ 5) (hmp : mpP (d (x0 + 1))) (hmw : mwP (d (x0 + 1))) (i3 : d (x0 + 1) 0 ≤ 999) (hm : 5 - x1 ≤ N53) (h : (∀ b : Int, (b < x0 ∨ x0 + 1 < b) → (st_206_53 x0 r53 x1 d) b = d b) → (st_206_53 x0 r53 x1 d) x0 9 = d x0 9 → mpP ((st_206_53 x0 r53 x1 d) (x0 + 1)) → mwP ((st_206_53 x0 r53 x1 d) (x0 + 1)) → ((st_206_53 x0 r53 x1 d) (x0 + 1) 0 ≤ 999) → Safe (st_206_53 x0 r53 x1 d) → K (.inl none) (st_206_53 x0 r53 x1 d)) : tRun E 206 (53, [.inr (11, x0), .inl (0, x1)], [], 0, 0, d) K := by
  refine t_206_53 ?_
  have w8 := r_11_f9 hS hx0
  have w9 := r_11_f10 hS hx0
  refine ⟨⟨m_inR (by omega) (by omega), m_inR (by omega) (by omega)⟩, fun c0 => ?_, fun c0 => ?_⟩
  · refine k_197 hS hx0 (by omega) (by omega) (fun e1 F1 k1_0 n1_0 n1_1 n1_2 hS1 => ?_)
    refine t_206_96 ?_
    have w8 := r_11_f9 hS1 hx0
    have w9 := r_11_f10 hS1 hx0
    refine ⟨by omega, ?_⟩
    have hS2 : Safe (mset (g_197 x0 0 99999 d) (x0 + 1) 1 (v_197 x0 0 99999 d)) := smh_1 hS1 hx0 _ rfl (by omega)
    refine k_195 hS2 hx0 (fun F2 k2_0 n2_0 n2_1 n2_2 hS3 => ?_)
    refine t_206_101 ?_
    have w8 := r_11_f9 hS3 hx0
    have w9 := r_11_f10 hS3 hx0
    refine k_204 hS3 hx0 (by omega) (mpP.of (mh_7 hS hx0 _ rfl) (show ∀ i : Int, i = 7 ∨ (12 ≤ i ∧ i < 420 ∧ (i - 12) % 68 = 2) → (g_195 x0 (mset (g_197 x0 0 99999 d) (x0 + 1) 1 (v_197 x0 0 99999 d))) (x0 + 1) i = d (x0 + 1) i from fun i hi => ((congrFun (F2 (x0 + 1) (by omega)) i).trans (mset_ni (by omega))).trans (congrFun (F1 (x0 + 1) (by omega)) i)) hmp) (fun F3 k3_0 Q3 P3hmp n3_0 n3_1 hS4 => ?_)
    refine t_206_106 ?_
    have w8 := r_11_f9 hS4 hx0
    have w9 := r_11_f10 hS4 hx0
    refine k_204 hS4 hx0 (by omega) P3hmp (fun F4 k4_0 Q4 P4hmp n4_0 n4_1 hS5 => ?_)
    refine t_206_111 ?_
    have w8 := r_11_f9 hS5 hx0
    have w9 := r_11_f10 hS5 hx0
    have q1 : (g_204 x0 0 (g_204 x0 1 (g_195 x0 (mset (g_197 x0 0 99999 d) (x0 + 1) 1 (v_197 x0 0 99999 d))))) (x0 + 1) 0 = d (x0 + 1) 0 := ((((Q4 0 (by omega)).trans (Q3 0 (by omega))).trans (congrFun (F2 (x0 + 1) (by omega)) 0)).trans (mset_ni (by omega))).trans (congrFun (F1 (x0 + 1) (by omega)) 0)
    refine k_205 hS5 hx0 P4hmp (mwP.of (fun i hi => Q4 i (by omega)) (mwP.of (fun i hi => Q3 i (by omega)) (mwP.eq (F2 (x0 + 1) (by omega)) (mwP.ne (fun t t0 t1 => by omega) (mwP.eq (F1 (x0 + 1) (by omega)) hmw))))) (by omega) (fun F5 k5_0 P5hmp P5hmw n5_0 hS6 => ?_)
    refine t_206_115 ?_
    have w8 := r_11_f9 hS6 hx0
    have w9 := r_11_f10 hS6 hx0
    have q2 := r_11_f13 hS6 hx0
    refine ⟨m_inR (by omega) (by omega), fun c1 => ?_, fun c1 => ?_⟩
    · refine t_206_146 ?_
      have w8 := r_11_f9 hS6 hx0
      have w9 := r_11_f10 hS6 hx0
      have y0 : st_206_53 x0 r53 x1 d = g_205 x0 (g_204 x0 0 (g_204 x0 1 (g_195 x0 (mset (g_197 x0 0 99999 d) (x0 + 1) 1 (v_197 x0 0 99999 d))))) := by simp only [st_206_53, if_neg (show ¬ x1 < 5 from Int.not_lt.mpr c0), if_neg (show ¬ (g_205 x0 (g_204 x0 0 (g_204 x0 1 (g_195 x0 (mset (g_197 x0 0 99999 d) (x0 + 1) 1 (v_197 x0 0 99999 d)))))) x0 13 = 0 from c1)]
      rw [y0] at h
      exact h (show ∀ b : Int, (b < x0 ∨ x0 + 1 < b) → (g_205 x0 (g_204 x0 0 (g_204 x0 1 (g_195 x0 (mset (g_197 x0 0 99999 d) (x0 + 1) 1 (v_197 x0 0 99999 d)))))) b = d b from fun b hb => (F5 b (by omega)).trans ((F4 b (by omega)).trans ((F3 b (by omega)).trans ((F2 b (by omega)).trans ((mset_ne (by omega)).trans (F1 b (by omega))))))) (show (g_205 x0 (g_204 x0 0 (g_204 x0 1 (g_195 x0 (mset (g_197 x0 0 99999 d) (x0 + 1) 1 (v_197 x0 0 99999 d)))))) x0 9 = d x0 9 from (((((k5_0).trans (k4_0)).trans (k3_0)).trans (k2_0)).trans (congrFun (mset_ne (by omega)) 9)).trans (k1_0)) P5hmp P5hmw (show (g_205 x0 (g_204 x0 0 (g_204 x0 1 (g_195 x0 (mset (g_197 x0 0 99999 d) (x0 + 1) 1 (v_197 x0 0 99999 d)))))) (x0 + 1) 0 ≤ 999 by omega) hS6
    · refine k_189 hS6 hx0 (fun F6 k6_0 n6_0 n6_1 hS7 => ?_)
      refine t_206_126 ?_
      have w8 := r_11_f9 hS7 hx0
      have w9 := r_11_f10 hS7 hx0
      rw [k6_0]
      rw [k5_0]
      rw [k4_0]
      rw [k3_0]
      rw [k2_0]
      rw [mset_ni (d := g_197 x0 0 99999 d) (a := x0 + 1) (i := (1 : Int)) (v := v_197 x0 0 99999 d) (b := x0) (j := (9 : Int)) (by omega)]
      rw [k1_0]
      have q3 := r_11_f10 hS7 hx0
      have q4 := r_11_f9 hS hx0
      refine ⟨⟨m_inR (by omega) (by omega), m_inR (by omega) (by omega)⟩, fun c2 => ?_, fun c2 => ?_⟩
      · refine t_206_146 ?_
        have w8 := r_11_f9 hS7 hx0
        have w9 := r_11_f10 hS7 hx0
        have q5 : (g_189 x0 (g_205 x0 (g_204 x0 0 (g_204 x0 1 (g_195 x0 (mset (g_197 x0 0 99999 d) (x0 + 1) 1 (v_197 x0 0 99999 d))))))) (x0 + 1) 0 = (g_205 x0 (g_204 x0 0 (g_204 x0 1 (g_195 x0 (mset (g_197 x0 0 99999 d) (x0 + 1) 1 (v_197 x0 0 99999 d)))))) (x0 + 1) 0 := congrFun (F6 (x0 + 1) (by omega)) 0
        have y0 : st_206_53 x0 r53 x1 d = g_189 x0 (g_205 x0 (g_204 x0 0 (g_204 x0 1 (g_195 x0 (mset (g_197 x0 0 99999 d) (x0 + 1) 1 (v_197 x0 0 99999 d)))))) := by simp only [st_206_53, if_neg (show ¬ x1 < 5 from Int.not_lt.mpr c0), if_pos (show (g_205 x0 (g_204 x0 0 (g_204 x0 1 (g_195 x0 (mset (g_197 x0 0 99999 d) (x0 + 1) 1 (v_197 x0 0 99999 d)))))) x0 13 = 0 from c1), if_neg (show ¬ (g_189 x0 (g_205 x0 (g_204 x0 0 (g_204 x0 1 (g_195 x0 (mset (g_197 x0 0 99999 d) (x0 + 1) 1 (v_197 x0 0 99999 d))))))) x0 10 < d x0 9 from Int.not_lt.mpr c2)]
        rw [y0] at h
        exact h (show ∀ b : Int, (b < x0 ∨ x0 + 1 < b) → (g_189 x0 (g_205 x0 (g_204 x0 0 (g_204 x0 1 (g_195 x0 (mset (g_197 x0 0 99999 d) (x0 + 1) 1 (v_197 x0 0 99999 d))))))) b = d b from fun b hb => (F6 b (by omega)).trans ((F5 b (by omega)).trans ((F4 b (by omega)).trans ((F3 b (by omega)).trans ((F2 b (by omega)).trans ((mset_ne (by omega)).trans (F1 b (by omega)))))))) (show (g_189 x0 (g_205 x0 (g_204 x0 0 (g_204 x0 1 (g_195 x0 (mset (g_197 x0 0 99999 d) (x0 + 1) 1 (v_197 x0 0 99999 d))))))) x0 9 = d x0 9 from ((((((k6_0).trans (k5_0)).trans (k4_0)).trans (k3_0)).trans (k2_0)).trans (congrFun (mset_ne (by omega)) 9)).trans (k1_0)) (mpP.of (mh_7 hS6 hx0 _ rfl) (show ∀ i : Int, i = 7 ∨ (12 ≤ i ∧ i < 420 ∧ (i - 12) % 68 = 2) → (g_189 x0 (g_205 x0 (g_204 x0 0 (g_204 x0 1 (g_195 x0 (mset (g_197 x0 0 99999 d) (x0 + 1) 1 (v_197 x0 0 99999 d))))))) (x0 + 1) i = (g_205 x0 (g_204 x0 0 (g_204 x0 1 (g_195 x0 (mset (g_197 x0 0 99999 d) (x0 + 1) 1 (v_197 x0 0 99999 d)))))) (x0 + 1) i from fun i hi => congrFun (F6 (x0 + 1) (by omega)) i) P5hmp) (mwP.eq (F6 (x0 + 1) (by omega)) P5hmw) (show (g_189 x0 (g_205 x0 (g_204 x0 0 (g_204 x0 1 (g_195 x0 (mset (g_197 x0 0 99999 d) (x0 + 1) 1 (v_197 x0 0 99999 d))))))) (x0 + 1) 0 ≤ 999 by omega) hS7
      · refine k_188 hS7 hx0 (by omega) (by omega) (fun F7 k7_0 n7_0 n7_1 n7_2 hS8 => ?_)
        refine t_206_146 ?_
        have w8 := r_11_f9 hS8 hx0
        have w9 := r_11_f10 hS8 hx0
        have q6 : (g_188 x0 1 ((g_189 x0 (g_205 x0 (g_204 x0 0 (g_204 x0 1 (g_195 x0 (mset (g_197 x0 0 99999 d) (x0 + 1) 1 (v_197 x0 0 99999 d))))))) x0 10) (g_189 x0 (g_205 x0 (g_204 x0 0 (g_204 x0 1 (g_195 x0 (mset (g_197 x0 0 99999 d) (x0 + 1) 1 (v_197 x0 0 99999 d)))))))) (x0 + 1) 0 = (g_205 x0 (g_204 x0 0 (g_204 x0 1 (g_195 x0 (mset (g_197 x0 0 99999 d) (x0 + 1) 1 (v_197 x0 0 99999 d)))))) (x0 + 1) 0 := (congrFun (F7 (x0 + 1) (by omega)) 0).trans (congrFun (F6 (x0 + 1) (by omega)) 0)
        have y0 : st_206_53 x0 r53 x1 d = g_188 x0 1 ((g_189 x0 (g_205 x0 (g_204 x0 0 (g_204 x0 1 (g_195 x0 (mset (g_197 x0 0 99999 d) (x0 + 1) 1 (v_197 x0 0 99999 d))))))) x0 10) (g_189 x0 (g_205 x0 (g_204 x0 0 (g_204 x0 1 (g_195 x0 (mset (g_197 x0 0 99999 d) (x0 + 1) 1 (v_197 x0 0 99999 d))))))) := by simp only [st_206_53, if_neg (show ¬ x1 < 5 from Int.not_lt.mpr c0), if_pos (show (g_205 x0 (g_204 x0 0 (g_204 x0 1 (g_195 x0 (mset (g_197 x0 0 99999 d) (x0 + 1) 1 (v_197 x0 0 99999 d)))))) x0 13 = 0 from c1), if_pos (show (g_189 x0 (g_205 x0 (g_204 x0 0 (g_204 x0 1 (g_195 x0 (mset (g_197 x0 0 99999 d) (x0 + 1) 1 (v_197 x0 0 99999 d))))))) x0 10 < d x0 9 from c2)]
        rw [y0] at h
        exact h (show ∀ b : Int, (b < x0 ∨ x0 + 1 < b) → (g_188 x0 1 ((g_189 x0 (g_205 x0 (g_204 x0 0 (g_204 x0 1 (g_195 x0 (mset (g_197 x0 0 99999 d) (x0 + 1) 1 (v_197 x0 0 99999 d))))))) x0 10) (g_189 x0 (g_205 x0 (g_204 x0 0 (g_204 x0 1 (g_195 x0 (mset (g_197 x0 0 99999 d) (x0 + 1) 1 (v_197 x0 0 99999 d)))))))) b = d b from fun b hb => (F7 b (by omega)).trans ((F6 b (by omega)).trans ((F5 b (by omega)).trans ((F4 b (by omega)).trans ((F3 b (by omega)).trans ((F2 b (by omega)).trans ((mset_ne (by omega)).trans (F1 b (by omega))))))))) (show (g_188 x0 1 ((g_189 x0 (g_205 x0 (g_204 x0 0 (g_204 x0 1 (g_195 x0 (mset (g_197 x0 0 99999 d) (x0 + 1) 1 (v_197 x0 0 99999 d))))))) x0 10) (g_189 x0 (g_205 x0 (g_204 x0 0 (g_204 x0 1 (g_195 x0 (mset (g_197 x0 0 99999 d) (x0 + 1) 1 (v_197 x0 0 99999 d)))))))) x0 9 = d x0 9 from (((((((k7_0).trans (k6_0)).trans (k5_0)).trans (k4_0)).trans (k3_0)).trans (k2_0)).trans (congrFun (mset_ne (by omega)) 9)).trans (k1_0)) (mpP.of (mh_7 hS6 hx0 _ rfl) (show ∀ i : Int, i = 7 ∨ (12 ≤ i ∧ i < 420 ∧ (i - 12) % 68 = 2) → (g_188 x0 1 ((g_189 x0 (g_205 x0 (g_204 x0 0 (g_204 x0 1 (g_195 x0 (mset (g_197 x0 0 99999 d) (x0 + 1) 1 (v_197 x0 0 99999 d))))))) x0 10) (g_189 x0 (g_205 x0 (g_204 x0 0 (g_204 x0 1 (g_195 x0 (mset (g_197 x0 0 99999 d) (x0 + 1) 1 (v_197 x0 0 99999 d)))))))) (x0 + 1) i = (g_205 x0 (g_204 x0 0 (g_204 x0 1 (g_195 x0 (mset (g_197 x0 0 99999 d) (x0 + 1) 1 (v_197 x0 0 99999 d)))))) (x0 + 1) i from fun i hi => (congrFun (F7 (x0 + 1) (by omega)) i).trans (congrFun (F6 (x0 + 1) (by omega)) i)) P5hmp) (mwP.eq (F7 (x0 + 1) (by omega)) (mwP.eq (F6 (x0 + 1) (by omega)) P5hmw)) (show (g_188 x0 1 ((g_189 x0 (g_205 x0 (g_204 x0 0 (g_204 x0 1 (g_195 x0 (mset (g_197 x0 0 99999 d) (x0 + 1) 1 (v_197 x0 0 99999 d))))))) x0 10) (g_189 x0 (g_205 x0 (g_204 x0 0 (g_204 x0 1 (g_195 x0 (mset (g_197 x0 0 99999 d) (x0 + 1) 1 (v_197 x0 0 99999 d)))))))) (x0 + 1) 0 ≤ 999 by omega) hS8
  · refine k_291 hS (m_inR (by omega) (by omega)) (fun e2 => ?_)
    refine t_206_70 ?_
    have w8 := r_11_f9 hS hx0
    have w9 := r_11_f10 hS hx0
    refine k_292 hS (m_inR (by omega) (by omega)) (fun e3 => ?_)
    refine t_206_74 ?_
    have w8 := r_11_f9 hS hx0
    have w9 := r_11_f10 hS hx0
    refine k_197 hS hx0 (by omega) (by omega) (fun e4 F8 k8_0 n8_0 n8_1 n8_2 hS9 => ?_)
    refine t_206_77 ?_
    have w8 := r_11_f9 hS9 hx0
    have w9 := r_11_f10 hS9 hx0
    refine ⟨by omega, ?_⟩
    have hS10 : Safe (mset (g_197 x0 (v_291 x1 d) (v_292 x1 d) d) (x0 + 1) (2 + x1) (v_197 x0 (v_291 x1 d) (v_292 x1 d) d)) := smstg hS9 hx0 x1 (2 + x1) (by omega) (by omega) (by omega)
    have q7 : (mset (g_197 x0 (v_291 x1 d) (v_292 x1 d) d) (x0 + 1) (2 + x1) (v_197 x0 (v_291 x1 d) (v_292 x1 d) d)) (x0 + 1) 0 = d (x0 + 1) 0 := (mset_ni (by omega)).trans (congrFun (F8 (x0 + 1) (by omega)) 0)
    refine ih53 (x1 + 1)  (mset (g_197 x0 (v_291 x1 d) (v_292 x1 d) d) (x0 + 1) (2 + x1) (v_197 x0 (v_291 x1 d) (v_292 x1 d) d)) hS10 (by omega) (mpP.of (mh_7 hS hx0 _ rfl) (show ∀ i : Int, i = 7 ∨ (12 ≤ i ∧ i < 420 ∧ (i - 12) % 68 = 2) → (mset (g_197 x0 (v_291 x1 d) (v_292 x1 d) d) (x0 + 1) (2 + x1) (v_197 x0 (v_291 x1 d) (v_292 x1 d) d)) (x0 + 1) i = d (x0 + 1) i from fun i hi => (mset_ni (by omega)).trans (congrFun (F8 (x0 + 1) (by omega)) i)) hmp) (mwP.ne (fun t t0 t1 => by omega) (mwP.eq (F8 (x0 + 1) (by omega)) hmw)) (by omega) (by omega) (by omega) ?_
    intro F k0 P_hmp P_hmw n0 hS_
    have y0 : st_206_53 x0 r53 x1 d = r53 (x1 + 1) (mset (g_197 x0 (v_291 x1 d) (v_292 x1 d) d) (x0 + 1) (2 + x1) (v_197 x0 (v_291 x1 d) (v_292 x1 d) d)) := by simp only [st_206_53, if_pos (show x1 < 5 from c0)]
    rw [y0] at h
    exact h (fun b hb => (F b hb).trans ((show ∀ b : Int, (b < x0 ∨ x0 + 1 < b) → (mset (g_197 x0 (v_291 x1 d) (v_292 x1 d) d) (x0 + 1) (2 + x1) (v_197 x0 (v_291 x1 d) (v_292 x1 d) d)) b = d b from fun b hb => (mset_ne (by omega)).trans (F8 b (by omega))) b hb)) (k0.trans ((congrFun (mset_ne (by omega)) 9).trans (k8_0))) P_hmp P_hmw (by omega) hS_
theorem l_206_53 {E : mO × tW} {K : tK} {x0 : Int} (hx0 : mdB x0) : ∀ (n : Nat) (x1 : Int) (d : mD), Safe d → (0 ≤ x1 ∧ x1 ≤ 5) → (mpP (d (x0 + 1))) → (mwP (d (x0 + 1))) → (d (x0 + 1) 0 ≤ 999) → 5 - x1 ≤ (n : Int) → ((∀ b : Int, (b < x0 ∨ x0 + 1 < b) → (lp_206_53 x0 n x1 d) b = d b) → (lp_206_53 x0 n x1 d) x0 9 = d x0 9 → mpP ((lp_206_53 x0 n x1 d) (x0 + 1)) → mwP ((lp_206_53 x0 n x1 d) (x0 + 1)) → ((lp_206_53 x0 n x1 d) (x0 + 1) 0 ≤ 999) → Safe (lp_206_53 x0 n x1 d) → K (.inl none) (lp_206_53 x0 n x1 d)) → tRun E 206 (53, [.inr (11, x0), .inl (0, x1)], [], 0, 0, d) K := by
  intro n
  induction n with
  | zero =>
    intro x1  d hS i0 hmp hmw i3 hm  h
    exact ls_206_53 hx0 0 _ (fun _  _ _ _ _ _ _ m0 m1 _ => absurd m1 (by omega)) x1  d hS i0 hmp hmw i3 hm  h
  | succ n ih =>
    intro x1  d hS i0 hmp hmw i3 hm  h
    exact ls_206_53 hx0 ((n + 1 : Nat) : Int) _ (fun x1  d hS i0 hmp hmw i3  m0 m1 h => ih x1  d hS i0 hmp hmw i3 (by omega)  h) x1  d hS i0 hmp hmw i3 hm  h
def st_206_12 (x0 : Int) (r12 : Int → mD → mD) (x1 : Int) (d : mD) : mD := if x1 < 3116 then r12 (x1 + 1) (mset d (x0 + 1) x1 0) else if v_194 x0 40216062 d = 0 then lp_206_53 x0 (5 - 0 : Int).toNat 0 (g_188 x0 1 ((g_194 x0 40216062 d) x0 10) (g_194 x0 40216062 d)) else lp_206_53 x0 (5 - 0 : Int).toNat 0 (g_194 x0 40216062 d)
def lp_206_12 (x0 : Int) : Nat → Int → mD → mD
  | 0 => st_206_12 x0 (fun _ d => d)
  | n + 1 => st_206_12 x0 (lp_206_12 x0 n)
theorem ls_206_12 {E : mO × tW} {K : tK} {x0 : Int} (hx0 : mdB x0) (N12 : Int) (r12 : Int → mD → mD) (ih12 : ∀ (x1 : Int) (d : mD), Safe d → (0 ≤ x1 ∧ x1 ≤ 3116) → (zP (d (x0 + 1)) x1) → 0 ≤ 3116 - x1 → 3116 - x1 < N12 → ((∀ b : Int, (b < x0 ∨ x0 + 1 < b) → (r12 x1 d) b = d b) → (r12 x1 d) x0 9 = d x0 9 → mpP ((r12 x1 d) (x0 + 1)) → mwP ((r12 x1 d) (x0 + 1)) → ((r12 x1 d) (x0 + 1) 0 ≤ 999) → Safe (r12 x1 d) → K (.inl none) (r12 x1 d)) → tRun E 206 (12, [.inr (11, x0), .inl (0, x1)], [], 0, 0, d) K) (x1 : Int) (d : mD) (hS : Safe d) (i0 : 0 ≤ x1 ∧ x1 ≤ 3116) (hz : zP (d (x0 + 1)) x1) (hm : 3116 - x1 ≤ N12) (h : (∀ b : Int, (b < x0 ∨ x0 + 1 < b) → (st_206_12 x0 r12 x1 d) b = d b) → (st_206_12 x0 r12 x1 d) x0 9 = d x0 9 → mpP ((st_206_12 x0 r12 x1 d) (x0 + 1)) → mwP ((st_206_12 x0 r12 x1 d) (x0 + 1)) → ((st_206_12 x0 r12 x1 d) (x0 + 1) 0 ≤ 999) → Safe (st_206_12 x0 r12 x1 d) → K (.inl none) (st_206_12 x0 r12 x1 d)) : tRun E 206 (12, [.inr (11, x0), .inl (0, x1)], [], 0, 0, d) K := by
  refine t_206_12 ?_
  have w8 := r_11_f9 hS hx0
  have w9 := r_11_f10 hS hx0
  refine ⟨⟨m_inR (by omega) (by omega), m_inR (by omega) (by omega)⟩, fun c0 => ?_, fun c0 => ?_⟩
  · refine k_194 hS hx0 (by omega) (fun e5 F9 k9_0 n9_0 n9_1 n9_2 hS11 => ?_)
    refine t_206_39 ?_
    have hmp : mpP (d (x0 + 1)) := mpP.z hz (by omega)
    have hmw : mwP (d (x0 + 1)) := mwP.z hz (by omega)
    have w0 : d (x0 + 1) 0 = 0 := hz 0 (by omega) (by omega)
    have w8 := r_11_f9 hS11 hx0
    have w9 := r_11_f10 hS11 hx0
    refine ⟨m_inR (by omega) (by omega), fun c1 => ?_, fun c1 => ?_⟩
    · refine t_206_51 ?_
      have w8 := r_11_f9 hS11 hx0
      have w9 := r_11_f10 hS11 hx0
      have q8 : (g_194 x0 40216062 d) (x0 + 1) 0 = d (x0 + 1) 0 := congrFun (F9 (x0 + 1) (by omega)) 0
      refine l_206_53 hx0 (5 - 0 : Int).toNat 0  (g_194 x0 40216062 d) hS11 (by omega) (mpP.of (mh_7 hS hx0 _ rfl) (show ∀ i : Int, i = 7 ∨ (12 ≤ i ∧ i < 420 ∧ (i - 12) % 68 = 2) → (g_194 x0 40216062 d) (x0 + 1) i = d (x0 + 1) i from fun i hi => congrFun (F9 (x0 + 1) (by omega)) i) hmp) (mwP.eq (F9 (x0 + 1) (by omega)) hmw) (by omega) (by omega) ?_
      intro F k0 P_hmp P_hmw n0 hS_
      have y0 : st_206_12 x0 r12 x1 d = lp_206_53 x0 (5 - 0 : Int).toNat 0 (g_194 x0 40216062 d) := by simp only [st_206_12, if_neg (show ¬ x1 < 3116 from Int.not_lt.mpr c0), if_neg (show ¬ v_194 x0 40216062 d = 0 from c1)]
      rw [y0] at h
      exact h (fun b hb => (F b hb).trans ((show ∀ b : Int, (b < x0 ∨ x0 + 1 < b) → (g_194 x0 40216062 d) b = d b from fun b hb => F9 b (by omega)) b hb)) (k0.trans (k9_0)) P_hmp P_hmw (by omega) hS_
    · have q9 := r_11_f10 hS11 hx0
      refine k_188 hS11 hx0 (by omega) (by omega) (fun F10 k10_0 n10_0 n10_1 n10_2 hS12 => ?_)
      refine t_206_51 ?_
      have w8 := r_11_f9 hS12 hx0
      have w9 := r_11_f10 hS12 hx0
      have q10 : (g_188 x0 1 ((g_194 x0 40216062 d) x0 10) (g_194 x0 40216062 d)) (x0 + 1) 0 = d (x0 + 1) 0 := (congrFun (F10 (x0 + 1) (by omega)) 0).trans (congrFun (F9 (x0 + 1) (by omega)) 0)
      refine l_206_53 hx0 (5 - 0 : Int).toNat 0  (g_188 x0 1 ((g_194 x0 40216062 d) x0 10) (g_194 x0 40216062 d)) hS12 (by omega) (mpP.of (mh_7 hS hx0 _ rfl) (show ∀ i : Int, i = 7 ∨ (12 ≤ i ∧ i < 420 ∧ (i - 12) % 68 = 2) → (g_188 x0 1 ((g_194 x0 40216062 d) x0 10) (g_194 x0 40216062 d)) (x0 + 1) i = d (x0 + 1) i from fun i hi => (congrFun (F10 (x0 + 1) (by omega)) i).trans (congrFun (F9 (x0 + 1) (by omega)) i)) hmp) (mwP.eq (F10 (x0 + 1) (by omega)) (mwP.eq (F9 (x0 + 1) (by omega)) hmw)) (by omega) (by omega) ?_
      intro F k0 P_hmp P_hmw n0 hS_
      have y0 : st_206_12 x0 r12 x1 d = lp_206_53 x0 (5 - 0 : Int).toNat 0 (g_188 x0 1 ((g_194 x0 40216062 d) x0 10) (g_194 x0 40216062 d)) := by simp only [st_206_12, if_neg (show ¬ x1 < 3116 from Int.not_lt.mpr c0), if_pos (show v_194 x0 40216062 d = 0 from c1)]
      rw [y0] at h
      exact h (fun b hb => (F b hb).trans ((show ∀ b : Int, (b < x0 ∨ x0 + 1 < b) → (g_188 x0 1 ((g_194 x0 40216062 d) x0 10) (g_194 x0 40216062 d)) b = d b from fun b hb => (F10 b (by omega)).trans (F9 b (by omega))) b hb)) (k0.trans ((k10_0).trans (k9_0))) P_hmp P_hmw (by omega) hS_
  · refine ⟨by omega, ?_⟩
    have hS13 : Safe (mset d (x0 + 1) x1 0) := smz hS hx0 x1
    refine ih12 (x1 + 1)  (mset d (x0 + 1) x1 0) hS13 (by omega) (zP.s hz) (by omega) (by omega) ?_
    intro F k0 P_hmp P_hmw n0 hS_
    have y0 : st_206_12 x0 r12 x1 d = r12 (x1 + 1) (mset d (x0 + 1) x1 0) := by simp only [st_206_12, if_pos (show x1 < 3116 from c0)]
    rw [y0] at h
    exact h (fun b hb => (F b hb).trans ((show ∀ b : Int, (b < x0 ∨ x0 + 1 < b) → (mset d (x0 + 1) x1 0) b = d b from fun b hb => mset_ne (by omega)) b hb)) (k0.trans (congrFun (mset_ne (by omega)) 9)) P_hmp P_hmw (by omega) hS_
theorem l_206_12 {E : mO × tW} {K : tK} {x0 : Int} (hx0 : mdB x0) : ∀ (n : Nat) (x1 : Int) (d : mD), Safe d → (0 ≤ x1 ∧ x1 ≤ 3116) → (zP (d (x0 + 1)) x1) → 3116 - x1 ≤ (n : Int) → ((∀ b : Int, (b < x0 ∨ x0 + 1 < b) → (lp_206_12 x0 n x1 d) b = d b) → (lp_206_12 x0 n x1 d) x0 9 = d x0 9 → mpP ((lp_206_12 x0 n x1 d) (x0 + 1)) → mwP ((lp_206_12 x0 n x1 d) (x0 + 1)) → ((lp_206_12 x0 n x1 d) (x0 + 1) 0 ≤ 999) → Safe (lp_206_12 x0 n x1 d) → K (.inl none) (lp_206_12 x0 n x1 d)) → tRun E 206 (12, [.inr (11, x0), .inl (0, x1)], [], 0, 0, d) K := by
  intro n
  induction n with
  | zero =>
    intro x1  d hS i0 hz hm  h
    exact ls_206_12 hx0 0 _ (fun _  _ _ _ _ m0 m1 _ => absurd m1 (by omega)) x1  d hS i0 hz hm  h
  | succ n ih =>
    intro x1  d hS i0 hz hm  h
    exact ls_206_12 hx0 ((n + 1 : Nat) : Int) _ (fun x1  d hS i0 hz  m0 m1 h => ih x1  d hS i0 hz (by omega)  h) x1  d hS i0 hz hm  h
def g_206 (x0 : Int) (d : mD) : mD := lp_206_12 x0 (3116 - 0 : Int).toNat 0 (mset (mset d x0 10 0) x0 13 0)
theorem k_206 {E : mO × tW} {K : tK} {d : mD} {x0 : Int} (hS : Safe d) (hx0 : mdB x0) (h : (∀ b : Int, (b < x0 ∨ x0 + 1 < b) → (g_206 x0 d) b = d b) → (g_206 x0 d) x0 9 = d x0 9 → mpP ((g_206 x0 d) (x0 + 1)) → mwP ((g_206 x0 d) (x0 + 1)) → ((g_206 x0 d) (x0 + 1) 0 ≤ 999) → Safe (g_206 x0 d) → K (.inl none) (g_206 x0 d)) : tCall E 206 [.inr (11, x0)] d K := by
  refine t_206_0 ?_
  have w8 := r_11_f9 hS hx0
  have w9 := r_11_f10 hS hx0
  have hS14 : Safe (mset d x0 10 0) := s_11_f10 hS hx0 (by omega)
  refine ⟨by omega, ?_⟩
  have hS15 : Safe (mset (mset d x0 10 0) x0 13 0) := s_11_f13 hS14 hx0 (by omega)
  refine l_206_12 hx0 (3116 - 0 : Int).toNat 0  (mset (mset d x0 10 0) x0 13 0) hS15 (by omega) (fun i h0 h1 => absurd h1 (by omega)) (by omega) ?_
  intro F k0 P_hmp P_hmw n0 hS_
  have q11 : (mset (mset d x0 10 0) x0 13 0) (x0 + 1) 0 = d (x0 + 1) 0 := (congrFun (mset_ne (by omega)) 0).trans (congrFun (mset_ne (by omega)) 0)
  have y0 : g_206 x0 d = lp_206_12 x0 (3116 - 0 : Int).toNat 0 (mset (mset d x0 10 0) x0 13 0) := by simp only [g_206]
  rw [y0] at h
  exact h (fun b hb => (F b hb).trans ((show ∀ b : Int, (b < x0 ∨ x0 + 1 < b) → (mset (mset d x0 10 0) x0 13 0) b = d b from fun b hb => (mset_ne (by omega)).trans (mset_ne (by omega))) b hb)) (k0.trans ((mset_ni (by omega)).trans (mset_ni (by omega)))) P_hmp P_hmw (by omega) hS_
def st_207_71 (x0 : Int) (r71 : Int → mD → Int × mD) (x1 : Int) (d : mD) : Int × mD := if x1 < 3116 then r71 (x1 + 1) (mset d (x0 + 1) x1 (d (x0 + 5) x1)) else (0, d)
def lp_207_71 (x0 : Int) : Nat → Int → mD → Int × mD
  | 0 => st_207_71 x0 (fun _ d => (0, d))
  | n + 1 => st_207_71 x0 (lp_207_71 x0 n)
set_option maxRecDepth 20000 in
theorem ls_207_71 {E : mO × tW} {K : tK} {x0 : Int} (hx0 : mdB x0) (N71 : Int) (r71 : Int → mD → Int × mD) (ih71 : ∀ (x1 : Int) (d : mD), Safe d → (0 ≤ x1 ∧ x1 ≤ 3116) → 0 ≤ 3116 - x1 → 3116 - x1 < N71 → ((∀ b : Int, (b < x0 ∨ x0 + 1 < b) ∧ (b < x0 + 5 ∨ x0 + 6 < b) → (r71 x1 d).2 b = d b) → Safe (r71 x1 d).2 → K (.inl (some (0, (r71 x1 d).1))) (r71 x1 d).2) → tRun E 207 (71, [.inr (11, x0), .inl (0, x1)], [], 0, 0, d) K) (x1 : Int) (d : mD) (hS : Safe d) (i0 : 0 ≤ x1 ∧ x1 ≤ 3116) (hm : 3116 - x1 ≤ N71) (h : (∀ b : Int, (b < x0 ∨ x0 + 1 < b) ∧ (b < x0 + 5 ∨ x0 + 6 < b) → (st_207_71 x0 r71 x1 d).2 b = d b) → Safe (st_207_71 x0 r71 x1 d).2 → K (.inl (some (0, (st_207_71 x0 r71 x1 d).1))) (st_207_71 x0 r71 x1 d).2) : tRun E 207 (71, [.inr (11, x0), .inl (0, x1)], [], 0, 0, d) K := by
  refine t_207_71 ?_
  refine ⟨⟨m_inR (by omega) (by omega), m_inR (by omega) (by omega)⟩, fun c0 => ?_, fun c0 => ?_⟩
  · have y0 : st_207_71 x0 r71 x1 d = (0, d) := by simp only [st_207_71, if_neg (show ¬ x1 < 3116 from Int.not_lt.mpr c0)]
    rw [y0] at h
    dsimp only at h
    exact h (show ∀ b : Int, (b < x0 ∨ x0 + 1 < b) ∧ (b < x0 + 5 ∨ x0 + 6 < b) → d b = d b from fun _ _ => rfl) hS
  · refine ⟨by omega, by omega, ?_⟩
    have hS1 : Safe (mset d (x0 + 1) x1 (d (x0 + 5) x1)) := sr_1 hS hx0 (j := x1) (by omega) (rr_5 hS hx0 x1)
    refine ih71 (x1 + 1)  (mset d (x0 + 1) x1 (d (x0 + 5) x1)) hS1 (by omega) (by omega) (by omega) ?_
    intro F hS_
    have y0 : st_207_71 x0 r71 x1 d = r71 (x1 + 1) (mset d (x0 + 1) x1 (d (x0 + 5) x1)) := by simp only [st_207_71, if_pos (show x1 < 3116 from c0)]
    rw [y0] at h
    exact h (fun b hb => (F b hb).trans ((show ∀ b : Int, (b < x0 ∨ x0 + 1 < b) ∧ (b < x0 + 5 ∨ x0 + 6 < b) → (mset d (x0 + 1) x1 (d (x0 + 5) x1)) b = d b from fun b hb => mset_ne (by omega)) b hb)) hS_
set_option maxRecDepth 20000 in
theorem l_207_71 {E : mO × tW} {K : tK} {x0 : Int} (hx0 : mdB x0) : ∀ (n : Nat) (x1 : Int) (d : mD), Safe d → (0 ≤ x1 ∧ x1 ≤ 3116) → 3116 - x1 ≤ (n : Int) → ((∀ b : Int, (b < x0 ∨ x0 + 1 < b) ∧ (b < x0 + 5 ∨ x0 + 6 < b) → (lp_207_71 x0 n x1 d).2 b = d b) → Safe (lp_207_71 x0 n x1 d).2 → K (.inl (some (0, (lp_207_71 x0 n x1 d).1))) (lp_207_71 x0 n x1 d).2) → tRun E 207 (71, [.inr (11, x0), .inl (0, x1)], [], 0, 0, d) K := by
  intro n
  induction n with
  | zero =>
    intro x1  d hS i0 hm  h
    exact ls_207_71 hx0 0 _ (fun _  _ _ _ m0 m1 _ => absurd m1 (by omega)) x1  d hS i0 hm  h
  | succ n ih =>
    intro x1  d hS i0 hm  h
    exact ls_207_71 hx0 ((n + 1 : Nat) : Int) _ (fun x1  d hS i0  m0 m1 h => ih x1  d hS i0 (by omega)  h) x1  d hS i0 hm  h
def st_207_12 (x0 : Int) (r12 : Int → mD → Int × mD) (x1 : Int) (d : mD) : Int × mD := if x1 < 3116 then r12 (x1 + 1) (mset d (x0 + 5) x1 (d (x0 + 1) x1)) else if (g_206 x0 d) x0 13 = 0 then ((g_206 x0 d) (x0 + 1) 8, mset (mset (mset (mset (mset (g_206 x0 d) x0 9 0) x0 0 0) x0 7 0) (x0 + 6) 0 0) (x0 + 6) 1 0) else lp_207_71 x0 (3116 - 0 : Int).toNat 0 (mset (mset (g_206 x0 d) x0 9 0) x0 0 1)
def lp_207_12 (x0 : Int) : Nat → Int → mD → Int × mD
  | 0 => st_207_12 x0 (fun _ d => (0, d))
  | n + 1 => st_207_12 x0 (lp_207_12 x0 n)
set_option maxRecDepth 20000 in
theorem ls_207_12 {E : mO × tW} {K : tK} {x0 : Int} (hx0 : mdB x0) (N12 : Int) (r12 : Int → mD → Int × mD) (ih12 : ∀ (x1 : Int) (d : mD), Safe d → (0 ≤ x1 ∧ x1 ≤ 3116) → 0 ≤ 3116 - x1 → 3116 - x1 < N12 → ((∀ b : Int, (b < x0 ∨ x0 + 1 < b) ∧ (b < x0 + 5 ∨ x0 + 6 < b) → (r12 x1 d).2 b = d b) → Safe (r12 x1 d).2 → K (.inl (some (0, (r12 x1 d).1))) (r12 x1 d).2) → tRun E 207 (12, [.inr (11, x0), .inl (0, x1)], [], 0, 0, d) K) (x1 : Int) (d : mD) (hS : Safe d) (i0 : 0 ≤ x1 ∧ x1 ≤ 3116) (hm : 3116 - x1 ≤ N12) (h : (∀ b : Int, (b < x0 ∨ x0 + 1 < b) ∧ (b < x0 + 5 ∨ x0 + 6 < b) → (st_207_12 x0 r12 x1 d).2 b = d b) → Safe (st_207_12 x0 r12 x1 d).2 → K (.inl (some (0, (st_207_12 x0 r12 x1 d).1))) (st_207_12 x0 r12 x1 d).2) : tRun E 207 (12, [.inr (11, x0), .inl (0, x1)], [], 0, 0, d) K := by
  refine t_207_12 ?_
  refine ⟨⟨m_inR (by omega) (by omega), m_inR (by omega) (by omega)⟩, fun c0 => ?_, fun c0 => ?_⟩
  · refine k_206 hS hx0 (fun F1 k1_0 P1hmp P1hmw n1_0 hS2 => ?_)
    refine t_207_41 ?_
    have hS3 : Safe (mset (g_206 x0 d) x0 9 0) := s_11_f9 hS2 hx0 (by omega)
    rw [mset_ni (d := g_206 x0 d) (a := x0) (i := (9 : Int)) (v := (0 : Int)) (b := x0) (j := (13 : Int)) (by omega)]
    have q1 := r_11_f13 hS2 hx0
    refine ⟨m_inR (by omega) (by omega), fun c1 => ?_, fun c1 => ?_⟩
    · have hS4 : Safe (mset (mset (g_206 x0 d) x0 9 0) x0 0 0) := s_11_f0 hS3 hx0 (by omega)
      rw [mset_eq (d := mset (g_206 x0 d) x0 9 0) (a := x0) (i := (0 : Int)) (v := (0 : Int))]
      refine ⟨m_inR (by omega) (by omega), fun c2 => ?_, fun c2 => ?_⟩
      · have hS5 : Safe (mset (mset (mset (g_206 x0 d) x0 9 0) x0 0 0) x0 7 0) := s_11_f7 hS4 hx0 (by omega)
        refine ⟨by omega, ?_⟩
        have hS6 : Safe (mset (mset (mset (mset (g_206 x0 d) x0 9 0) x0 0 0) x0 7 0) (x0 + 6) 0 0) := s_11_6 hS5 hx0 (by omega)
        refine ⟨by omega, ?_⟩
        have hS7 : Safe (mset (mset (mset (mset (mset (g_206 x0 d) x0 9 0) x0 0 0) x0 7 0) (x0 + 6) 0 0) (x0 + 6) 1 0) := s_11_6 hS6 hx0 (by omega)
        rw [mset_ni (d := mset (mset (mset (mset (g_206 x0 d) x0 9 0) x0 0 0) x0 7 0) (x0 + 6) 0 0) (a := x0 + 6) (i := (1 : Int)) (v := (0 : Int)) (b := x0 + 1) (j := (8 : Int)) (by omega)]
        rw [mset_ni (d := mset (mset (mset (g_206 x0 d) x0 9 0) x0 0 0) x0 7 0) (a := x0 + 6) (i := (0 : Int)) (v := (0 : Int)) (b := x0 + 1) (j := (8 : Int)) (by omega)]
        rw [mset_ni (d := mset (mset (g_206 x0 d) x0 9 0) x0 0 0) (a := x0) (i := (7 : Int)) (v := (0 : Int)) (b := x0 + 1) (j := (8 : Int)) (by omega)]
        rw [mset_ni (d := mset (g_206 x0 d) x0 9 0) (a := x0) (i := (0 : Int)) (v := (0 : Int)) (b := x0 + 1) (j := (8 : Int)) (by omega)]
        rw [mset_ni (d := g_206 x0 d) (a := x0) (i := (9 : Int)) (v := (0 : Int)) (b := x0 + 1) (j := (8 : Int)) (by omega)]
        have q2 := mh_8 hS2 hx0 _ rfl
        refine ⟨by omega, ?_⟩
        have y0 : st_207_12 x0 r12 x1 d = ((g_206 x0 d) (x0 + 1) 8, mset (mset (mset (mset (mset (g_206 x0 d) x0 9 0) x0 0 0) x0 7 0) (x0 + 6) 0 0) (x0 + 6) 1 0) := by simp only [st_207_12, if_neg (show ¬ x1 < 3116 from Int.not_lt.mpr c0), if_pos (show (g_206 x0 d) x0 13 = 0 from c1), if_neg (show ¬ (0 : Int) < 0 from Int.not_lt.mpr c2)]
        rw [y0] at h
        dsimp only at h
        exact h (show ∀ b : Int, (b < x0 ∨ x0 + 1 < b) ∧ (b < x0 + 5 ∨ x0 + 6 < b) → (mset (mset (mset (mset (mset (g_206 x0 d) x0 9 0) x0 0 0) x0 7 0) (x0 + 6) 0 0) (x0 + 6) 1 0) b = d b from fun b hb => (mset_ne (by omega)).trans ((mset_ne (by omega)).trans ((mset_ne (by omega)).trans ((mset_ne (by omega)).trans ((mset_ne (by omega)).trans (F1 b (by omega))))))) hS7
      · exact (show False by omega).elim
    · have hS8 : Safe (mset (mset (g_206 x0 d) x0 9 0) x0 0 1) := s_11_f0 hS3 hx0 (by omega)
      rw [mset_eq (d := mset (g_206 x0 d) x0 9 0) (a := x0) (i := (0 : Int)) (v := (1 : Int))]
      refine ⟨m_inR (by omega) (by omega), fun c2 => ?_, fun c2 => ?_⟩
      · exact (show False by omega).elim
      · refine l_207_71 hx0 (3116 - 0 : Int).toNat 0  (mset (mset (g_206 x0 d) x0 9 0) x0 0 1) hS8 (by omega) (by omega) ?_
        intro F hS_
        have y0 : st_207_12 x0 r12 x1 d = lp_207_71 x0 (3116 - 0 : Int).toNat 0 (mset (mset (g_206 x0 d) x0 9 0) x0 0 1) := by simp only [st_207_12, if_neg (show ¬ x1 < 3116 from Int.not_lt.mpr c0), if_neg (show ¬ (g_206 x0 d) x0 13 = 0 from c1), if_pos (show (0 : Int) < 1 from c2)]
        rw [y0] at h
        exact h (fun b hb => (F b hb).trans ((show ∀ b : Int, (b < x0 ∨ x0 + 1 < b) ∧ (b < x0 + 5 ∨ x0 + 6 < b) → (mset (mset (g_206 x0 d) x0 9 0) x0 0 1) b = d b from fun b hb => (mset_ne (by omega)).trans ((mset_ne (by omega)).trans (F1 b (by omega)))) b hb)) hS_
  · refine ⟨by omega, by omega, ?_⟩
    have hS9 : Safe (mset d (x0 + 5) x1 (d (x0 + 1) x1)) := sr_5 hS hx0 (j := x1) (by omega) (rr_1 hS hx0 x1)
    refine ih12 (x1 + 1)  (mset d (x0 + 5) x1 (d (x0 + 1) x1)) hS9 (by omega) (by omega) (by omega) ?_
    intro F hS_
    have y0 : st_207_12 x0 r12 x1 d = r12 (x1 + 1) (mset d (x0 + 5) x1 (d (x0 + 1) x1)) := by simp only [st_207_12, if_pos (show x1 < 3116 from c0)]
    rw [y0] at h
    exact h (fun b hb => (F b hb).trans ((show ∀ b : Int, (b < x0 ∨ x0 + 1 < b) ∧ (b < x0 + 5 ∨ x0 + 6 < b) → (mset d (x0 + 5) x1 (d (x0 + 1) x1)) b = d b from fun b hb => mset_ne (by omega)) b hb)) hS_
set_option maxRecDepth 20000 in
theorem l_207_12 {E : mO × tW} {K : tK} {x0 : Int} (hx0 : mdB x0) : ∀ (n : Nat) (x1 : Int) (d : mD), Safe d → (0 ≤ x1 ∧ x1 ≤ 3116) → 3116 - x1 ≤ (n : Int) → ((∀ b : Int, (b < x0 ∨ x0 + 1 < b) ∧ (b < x0 + 5 ∨ x0 + 6 < b) → (lp_207_12 x0 n x1 d).2 b = d b) → Safe (lp_207_12 x0 n x1 d).2 → K (.inl (some (0, (lp_207_12 x0 n x1 d).1))) (lp_207_12 x0 n x1 d).2) → tRun E 207 (12, [.inr (11, x0), .inl (0, x1)], [], 0, 0, d) K := by
  intro n
  induction n with
  | zero =>
    intro x1  d hS i0 hm  h
    exact ls_207_12 hx0 0 _ (fun _  _ _ _ m0 m1 _ => absurd m1 (by omega)) x1  d hS i0 hm  h
  | succ n ih =>
    intro x1  d hS i0 hm  h
    exact ls_207_12 hx0 ((n + 1 : Nat) : Int) _ (fun x1  d hS i0  m0 m1 h => ih x1  d hS i0 (by omega)  h) x1  d hS i0 hm  h
def f_207 (x0 : Int) (d : mD) : Int × mD := lp_207_12 x0 (3116 - 0 : Int).toNat 0 (mset (mset d x0 11 0) x0 12 ((-1)))
def v_207 (x0 : Int) (d : mD) : Int := (f_207 x0 d).1
def g_207 (x0 : Int) (d : mD) : mD := (f_207 x0 d).2
set_option maxRecDepth 20000 in
theorem k_207 {E : mO × tW} {K : tK} {d : mD} {x0 : Int} (hS : Safe d) (hx0 : mdB x0) (h : (∀ b : Int, (b < x0 ∨ x0 + 1 < b) ∧ (b < x0 + 5 ∨ x0 + 6 < b) → (g_207 x0 d) b = d b) → Safe (g_207 x0 d) → K (.inl (some (0, (v_207 x0 d)))) (g_207 x0 d)) : tCall E 207 [.inr (11, x0)] d K := by
  simp only [v_207, g_207] at h
  refine t_207_0 ?_
  have hS10 : Safe (mset d x0 11 0) := s_11_f11 hS hx0 (by omega)
  have hS11 : Safe (mset (mset d x0 11 0) x0 12 ((-1))) := s_11_f12 hS10 hx0 (by omega)
  refine l_207_12 hx0 (3116 - 0 : Int).toNat 0  (mset (mset d x0 11 0) x0 12 ((-1))) hS11 (by omega) (by omega) ?_
  intro F hS_
  have y0 : f_207 x0 d = lp_207_12 x0 (3116 - 0 : Int).toNat 0 (mset (mset d x0 11 0) x0 12 ((-1))) := by simp only [f_207]
  rw [y0] at h
  exact h (fun b hb => (F b hb).trans ((show ∀ b : Int, (b < x0 ∨ x0 + 1 < b) ∧ (b < x0 + 5 ∨ x0 + 6 < b) → (mset (mset d x0 11 0) x0 12 ((-1))) b = d b from fun b hb => (mset_ne (by omega)).trans (mset_ne (by omega))) b hb)) hS_
/-! ===== contracts of the reader and the loader: printed by a program of mine ===== -/
def v_55 (x0 x1 : Int) (d : mD) : Int := if d x0 1 = 0 then (if d x0 3 - d x0 2 = tsl x1 then (if (List.range (tsl x1).toNat).all (fun i => decide (d (x0 + 1 + 1) (d x0 2 + (i : Int)) = tsc x1 (i : Int))) = true then 1 else 0) else 0) else 0
def W55 (E : mO × tW) : Prop := ∀ {K : tK} {d : mD} {x0 x1 : Int}, Safe d → reB x0 → 0 ≤ x1 ∧ x1 ≤ 6 → ((0 ≤ v_55 x0 x1 d ∧ v_55 x0 x1 d ≤ 1) → K (.inl (some (0, v_55 x0 x1 d))) d) → tCall E 55 [.inr (5, x0), .inl (5, x1)] d K
theorem k_55 {E : mO × tW} {K : tK} {d : mD} {x0 x1 : Int} (hW : W55 E) (hS : Safe d) (hx0 : reB x0) (hk : 0 ≤ x1 ∧ x1 ≤ 6) (h : (0 ≤ v_55 x0 x1 d ∧ v_55 x0 x1 d ≤ 1) → K (.inl (some (0, v_55 x0 x1 d))) d) : tCall E 55 [.inr (5, x0), .inl (5, x1)] d K := hW hS hx0 hk h
theorem irng {c : Prop} [Decidable c] {a b : Int} (ha : 0 ≤ a ∧ a ≤ 127) (hb : 0 ≤ b ∧ b ≤ 127) : 0 ≤ (if c then a else b) ∧ (if c then a else b) ≤ 127 := by
  split
  · exact ha
  · exact hb
theorem tsc_r (k i : Int) : 0 ≤ tsc k i ∧ tsc k i ≤ 127 := by
  unfold tsc
  repeat' (refine irng ?_ ?_)
  all_goals exact ⟨by decide, by decide⟩
theorem w55l {E : mO × tW} {K : tK} {d : mD} {x0 x1 : Int} (hS : Safe d) (hx0 : reB x0) (hk : 0 ≤ x1 ∧ x1 ≤ 6) (hl : d x0 3 - d x0 2 = tsl x1) (k1 : (∀ j, 0 ≤ j → j < tsl x1 → d (x0 + 1 + 1) (d x0 2 + j) = tsc x1 j) → K (.inl (some (0, 1))) d) (k0 : ¬ (∀ j, 0 ≤ j → j < tsl x1 → d (x0 + 1 + 1) (d x0 2 + j) = tsc x1 j) → K (.inl (some (0, 0))) d) : ∀ (n : Nat) (x2 : Int), 0 ≤ x2 → tsl x1 - x2 = (n : Int) → (∀ j, 0 ≤ j → j < x2 → d (x0 + 1 + 1) (d x0 2 + j) = tsc x1 j) → tRun E 55 (27, [.inr (5, x0), .inl (5, x1), .inl (0, x2)], [], 0, 0, d) K := by
  have ht := tsl_rng x1 hk.1 (by omega)
  have w2 := r_5_f2 hS hx0
  have w3 := r_5_f3 hS hx0
  intro n
  induction n with
  | zero =>
    intro x2 h0 hn hj
    exact t_55_27 ⟨by omega, ⟨m_inR (by omega) (by omega), m_inR (by omega) (by omega)⟩, fun _ => ⟨Or.inr rfl, k1 (fun j a b => hj j a (by omega))⟩, fun c => absurd c (by omega)⟩
  | succ n ih =>
    intro x2 h0 hn hj
    have w := r_7_1 hS (reB.tx hx0) (d x0 2 + x2) (by omega)
    have u := tsc_r x1 x2
    refine t_55_27 ⟨by omega, ⟨m_inR (by omega) (by omega), m_inR (by omega) (by omega)⟩, fun c => absurd c (by omega), fun _ => ⟨by omega, by omega, ⟨m_inR (by omega) (by omega), m_inR (by omega) (by omega)⟩, fun e => ?_, fun ne => ⟨Or.inl rfl, k0 (fun a => ne (a x2 h0 (by omega)))⟩⟩⟩
    refine ih (x2 + 1) (by omega) (by omega) (fun j a b => ?_)
    by_cases c : j = x2
    · rw [c]; exact e
    · exact hj j a (by omega)
theorem v55_1 {d : mD} {x0 x1 : Int} (h0 : d x0 1 = 0) (hl : d x0 3 - d x0 2 = tsl x1) (h : ∀ j, 0 ≤ j → j < tsl x1 → d (x0 + 1 + 1) (d x0 2 + j) = tsc x1 j) : v_55 x0 x1 d = 1 := by
  unfold v_55
  rw [if_pos h0, if_pos hl, if_pos]
  refine List.all_eq_true.mpr (fun i hi => ?_)
  have := List.mem_range.mp hi
  exact decide_eq_true (h i (by omega) (by omega))
theorem v55_0 {d : mD} {x0 x1 : Int} (h : ¬ (d x0 1 = 0 ∧ d x0 3 - d x0 2 = tsl x1 ∧ ∀ j, 0 ≤ j → j < tsl x1 → d (x0 + 1 + 1) (d x0 2 + j) = tsc x1 j)) : v_55 x0 x1 d = 0 := by
  unfold v_55
  split
  · rename_i h0
    split
    · rename_i hl
      split
      · rename_i ha
        refine absurd ⟨h0, hl, fun j a b => ?_⟩ h
        have := of_decide_eq_true (List.all_eq_true.mp ha j.toNat (List.mem_range.mpr (by omega)))
        rw [show ((j.toNat : Nat) : Int) = j by omega] at this
        exact this
      · rfl
    · rfl
  · rfl
theorem w55 {E : mO × tW} : W55 E := by
  intro K d x0 x1 hS hx0 hk h
  have ht := tsl_rng x1 hk.1 (by omega)
  have w1 := r_5_f1 hS hx0
  have w2 := r_5_f2 hS hx0
  have w3 := r_5_f3 hS hx0
  have z : ¬ (d x0 1 = 0 ∧ d x0 3 - d x0 2 = tsl x1 ∧ ∀ j, 0 ≤ j → j < tsl x1 → d (x0 + 1 + 1) (d x0 2 + j) = tsc x1 j) → K (.inl (some (0, 0))) d := fun n => by
    have e := v55_0 n
    rw [e] at h
    exact h ⟨by decide, by decide⟩
  refine t_55_0 ⟨m_inR (by omega) (by omega), fun n => ⟨Or.inl rfl, z (fun a => n a.1)⟩, fun h0 => ⟨by omega, ⟨m_inR (by omega) (by omega), m_inR (by omega) (by omega)⟩, fun hl => ?_, fun n => ⟨Or.inl rfl, z (fun a => n a.2.1)⟩⟩⟩
  refine w55l hS hx0 hk hl (fun a => ?_) (fun n => z (fun a => n a.2.2)) (tsl x1).toNat 0 (by decide) (by omega) (fun j a b => absurd b (by omega))
  have e := v55_1 h0 hl a
  rw [e] at h
  exact h ⟨by decide, by decide⟩
def st_53_0 (x0 : Int) (r0 : mD → mD) (d : mD) : mD := if d x0 3 < d (x0 + 1) 1 then (if v_91 (x0 + 1) (d x0 3) d = 0 then mset d x0 1 0 else r0 (mset d x0 3 ((d x0 3) + 1))) else mset d x0 1 0
def lp_53_0 (x0 : Int) : Nat → mD → mD
  | 0 => st_53_0 x0 (fun d => d)
  | n + 1 => st_53_0 x0 (lp_53_0 x0 n)
theorem ls_53_0 {E : mO × tW} {K : tK} {x0 : Int} (hx0 : reB x0) (N0 : Int) (r0 : mD → mD) (ih0 : ∀ (d : mD), Safe d → 0 ≤ 1000 - d x0 3 → 1000 - d x0 3 < N0 → ((∀ b : Int, (b < x0 ∨ x0 < b) → (r0  d) b = d b) → Safe (r0  d) → K (.inl none) (r0  d)) → tRun E 53 (0, [.inr (5, x0)], [], 0, 0, d) K) (d : mD) (hS : Safe d) (hm : 1000 - d x0 3 ≤ N0) (h : (∀ b : Int, (b < x0 ∨ x0 < b) → (st_53_0 x0 r0 d) b = d b) → Safe (st_53_0 x0 r0 d) → K (.inl none) (st_53_0 x0 r0 d)) : tRun E 53 (0, [.inr (5, x0)], [], 0, 0, d) K := by
  refine t_53_0 ?_
  have w8 := r_5_f2 hS hx0
  have w9 := r_5_f3 hS hx0
  have w7 := r_7_f1 hS (reB.tx hx0)
  have q1 := r_5_f3 hS hx0
  have q2 := r_7_f1 hS (reB.tx hx0)
  refine ⟨⟨m_inR (by omega) (by omega), m_inR (by omega) (by omega)⟩, fun c0 => ?_, fun c0 => ?_⟩
  · have hS1 : Safe (mset d x0 1 0) := s_5_f1 hS hx0 (by omega)
    have y0 : st_53_0 x0 r0 d = mset d x0 1 0 := by simp only [st_53_0, if_neg (show ¬ d x0 3 < d (x0 + 1) 1 from Int.not_lt.mpr c0)]
    rw [y0] at h
    exact h (show ∀ b : Int, (b < x0 ∨ x0 < b) → (mset d x0 1 0) b = d b from fun b hb => mset_ne (by omega)) hS1
  · refine k_91 hS (reB.tx hx0) (by omega) (fun e1 => ?_)
    refine t_53_25 ?_
    have w8 := r_5_f2 hS hx0
    have w9 := r_5_f3 hS hx0
    have w7 := r_7_f1 hS (reB.tx hx0)
    refine ⟨m_inR (by omega) (by omega), fun c1 => ?_, fun c1 => ?_⟩
    · have hS2 : Safe (mset d x0 1 0) := s_5_f1 hS hx0 (by omega)
      have y0 : st_53_0 x0 r0 d = mset d x0 1 0 := by simp only [st_53_0, if_pos (show d x0 3 < d (x0 + 1) 1 from c0), if_pos (show v_91 (x0 + 1) (d x0 3) d = 0 from c1)]
      rw [y0] at h
      exact h (show ∀ b : Int, (b < x0 ∨ x0 < b) → (mset d x0 1 0) b = d b from fun b hb => mset_ne (by omega)) hS2
    · have hS3 : Safe (mset d x0 3 ((d x0 3) + 1)) := s_5_f3 hS hx0 (by omega)
      have q3 := r_5_f3 hS3 hx0
      have q4 : (mset d x0 3 ((d x0 3) + 1)) x0 3 = (d x0 3) + 1 := mset_eq
      refine ih0   (mset d x0 3 ((d x0 3) + 1)) hS3 (by omega) (by omega) ?_
      intro F hS_
      have y0 : st_53_0 x0 r0 d = r0 (mset d x0 3 ((d x0 3) + 1)) := by simp only [st_53_0, if_pos (show d x0 3 < d (x0 + 1) 1 from c0), if_neg (show ¬ v_91 (x0 + 1) (d x0 3) d = 0 from c1)]
      rw [y0] at h
      exact h (fun b hb => (F b hb).trans ((show ∀ b : Int, (b < x0 ∨ x0 < b) → (mset d x0 3 ((d x0 3) + 1)) b = d b from fun b hb => mset_ne (by omega)) b hb)) hS_
theorem l_53_0 {E : mO × tW} {K : tK} {x0 : Int} (hx0 : reB x0) : ∀ (n : Nat) (d : mD), Safe d → 1000 - d x0 3 ≤ (n : Int) → ((∀ b : Int, (b < x0 ∨ x0 < b) → (lp_53_0 x0 n d) b = d b) → Safe (lp_53_0 x0 n d) → K (.inl none) (lp_53_0 x0 n d)) → tRun E 53 (0, [.inr (5, x0)], [], 0, 0, d) K := by
  intro n
  induction n with
  | zero =>
    intro   d hS  hm  h
    exact ls_53_0 hx0 0 _ (fun   _ _  m0 m1 _ => absurd m1 (by omega))   d hS  hm  h
  | succ n ih =>
    intro   d hS  hm  h
    exact ls_53_0 hx0 ((n + 1 : Nat) : Int) _ (fun   d hS   m0 m1 h => ih   d hS  (by omega)  h)   d hS  hm  h
def g_53 (x0 : Int) (d : mD) : mD := lp_53_0 x0 (1000 - d x0 3 : Int).toNat d
theorem k_53 {E : mO × tW} {K : tK} {d : mD} {x0 : Int} (hS : Safe d) (hx0 : reB x0) (h : (∀ b : Int, (b < x0 ∨ x0 < b) → (g_53 x0 d) b = d b) → Safe (g_53 x0 d) → K (.inl none) (g_53 x0 d)) : tCall E 53 [.inr (5, x0)] d K := by
  have q5 := r_5_f3 hS hx0
  refine l_53_0 hx0 (1000 - d x0 3 : Int).toNat   d hS (by omega) ?_
  intro F hS_
  have y0 : g_53 x0 d = lp_53_0 x0 (1000 - d x0 3 : Int).toNat d := by simp only [g_53]
  rw [y0] at h
  exact h F hS_
def st_54_5 (x0 : Int) (r5 : mD → mD) (d : mD) : mD := if d x0 3 < d (x0 + 1) 1 then (if v_92 (x0 + 1) (d x0 3) d = 0 then (if (5 : Int) < (d x0 3) - (d x0 2) then mset d x0 1 4 else mset d x0 1 1) else if (d x0 3) - (d x0 2) < 5 then r5 (mset (mset d x0 4 ((((d x0 4) * 10) + (d (x0 + 1 + 1) (d x0 3))) - 48)) x0 3 ((d x0 3) + 1)) else r5 (mset d x0 3 ((d x0 3) + 1))) else if (5 : Int) < (d x0 3) - (d x0 2) then mset d x0 1 4 else mset d x0 1 1
def lp_54_5 (x0 : Int) : Nat → mD → mD
  | 0 => st_54_5 x0 (fun d => d)
  | n + 1 => st_54_5 x0 (lp_54_5 x0 n)
theorem ls_54_5 {E : mO × tW} {K : tK} {x0 : Int} (hx0 : reB x0) (N5 : Int) (r5 : mD → mD) (ih5 : ∀ (d : mD), Safe d → (0 ≤ d x0 4) → ((d x0 3 = d x0 2 + 0 ∧ d x0 4 ≤ 0) ∨ (d x0 3 = d x0 2 + 1 ∧ d x0 4 ≤ 9) ∨ (d x0 3 = d x0 2 + 2 ∧ d x0 4 ≤ 99) ∨ (d x0 3 = d x0 2 + 3 ∧ d x0 4 ≤ 999) ∨ (d x0 3 = d x0 2 + 4 ∧ d x0 4 ≤ 9999) ∨ (d x0 2 + 5 ≤ d x0 3 ∧ d x0 4 ≤ 99999)) → 0 ≤ 1000 - d x0 3 → 1000 - d x0 3 < N5 → ((∀ b : Int, (b < x0 ∨ x0 < b) → (r5  d) b = d b) → Safe (r5  d) → K (.inl none) (r5  d)) → tRun E 54 (5, [.inr (5, x0)], [], 0, 0, d) K) (d : mD) (hS : Safe d) (i0 : 0 ≤ d x0 4) (i1 : (d x0 3 = d x0 2 + 0 ∧ d x0 4 ≤ 0) ∨ (d x0 3 = d x0 2 + 1 ∧ d x0 4 ≤ 9) ∨ (d x0 3 = d x0 2 + 2 ∧ d x0 4 ≤ 99) ∨ (d x0 3 = d x0 2 + 3 ∧ d x0 4 ≤ 999) ∨ (d x0 3 = d x0 2 + 4 ∧ d x0 4 ≤ 9999) ∨ (d x0 2 + 5 ≤ d x0 3 ∧ d x0 4 ≤ 99999)) (hm : 1000 - d x0 3 ≤ N5) (h : (∀ b : Int, (b < x0 ∨ x0 < b) → (st_54_5 x0 r5 d) b = d b) → Safe (st_54_5 x0 r5 d) → K (.inl none) (st_54_5 x0 r5 d)) : tRun E 54 (5, [.inr (5, x0)], [], 0, 0, d) K := by
  refine t_54_5 ?_
  have w8 := r_5_f2 hS hx0
  have w9 := r_5_f3 hS hx0
  have w7 := r_7_f1 hS (reB.tx hx0)
  have q1 := r_5_f3 hS hx0
  have q2 := r_7_f1 hS (reB.tx hx0)
  refine ⟨⟨m_inR (by omega) (by omega), m_inR (by omega) (by omega)⟩, fun c0 => ?_, fun c0 => ?_⟩
  · have q3 := r_5_f2 hS hx0
    refine ⟨⟨m_inR (by omega) (by omega), m_inR (by omega) (by omega)⟩, fun c1 => ?_, fun c1 => ?_⟩
    · have hS1 : Safe (mset d x0 1 1) := s_5_f1 hS hx0 (by omega)
      have y0 : st_54_5 x0 r5 d = mset d x0 1 1 := by simp only [st_54_5, if_neg (show ¬ d x0 3 < d (x0 + 1) 1 from Int.not_lt.mpr c0), if_neg (show ¬ (5 : Int) < (d x0 3) - (d x0 2) from Int.not_lt.mpr c1)]
      rw [y0] at h
      exact h (show ∀ b : Int, (b < x0 ∨ x0 < b) → (mset d x0 1 1) b = d b from fun b hb => mset_ne (by omega)) hS1
    · have hS2 : Safe (mset d x0 1 4) := s_5_f1 hS hx0 (by omega)
      have y0 : st_54_5 x0 r5 d = mset d x0 1 4 := by simp only [st_54_5, if_neg (show ¬ d x0 3 < d (x0 + 1) 1 from Int.not_lt.mpr c0), if_pos (show (5 : Int) < (d x0 3) - (d x0 2) from c1)]
      rw [y0] at h
      exact h (show ∀ b : Int, (b < x0 ∨ x0 < b) → (mset d x0 1 4) b = d b from fun b hb => mset_ne (by omega)) hS2
  · refine k_92 hS (reB.tx hx0) (by omega) (fun e1 => ?_)
    refine t_54_30 ?_
    have w8 := r_5_f2 hS hx0
    have w9 := r_5_f3 hS hx0
    have w7 := r_7_f1 hS (reB.tx hx0)
    refine ⟨m_inR (by omega) (by omega), fun c1 => ?_, fun c1 => ?_⟩
    · have q4 := r_5_f2 hS hx0
      refine ⟨⟨m_inR (by omega) (by omega), m_inR (by omega) (by omega)⟩, fun c2 => ?_, fun c2 => ?_⟩
      · have hS3 : Safe (mset d x0 1 1) := s_5_f1 hS hx0 (by omega)
        have y0 : st_54_5 x0 r5 d = mset d x0 1 1 := by simp only [st_54_5, if_pos (show d x0 3 < d (x0 + 1) 1 from c0), if_pos (show v_92 (x0 + 1) (d x0 3) d = 0 from c1), if_neg (show ¬ (5 : Int) < (d x0 3) - (d x0 2) from Int.not_lt.mpr c2)]
        rw [y0] at h
        exact h (show ∀ b : Int, (b < x0 ∨ x0 < b) → (mset d x0 1 1) b = d b from fun b hb => mset_ne (by omega)) hS3
      · have hS4 : Safe (mset d x0 1 4) := s_5_f1 hS hx0 (by omega)
        have y0 : st_54_5 x0 r5 d = mset d x0 1 4 := by simp only [st_54_5, if_pos (show d x0 3 < d (x0 + 1) 1 from c0), if_pos (show v_92 (x0 + 1) (d x0 3) d = 0 from c1), if_pos (show (5 : Int) < (d x0 3) - (d x0 2) from c2)]
        rw [y0] at h
        exact h (show ∀ b : Int, (b < x0 ∨ x0 < b) → (mset d x0 1 4) b = d b from fun b hb => mset_ne (by omega)) hS4
    · have q5 := r_5_f2 hS hx0
      refine ⟨⟨m_inR (by omega) (by omega), m_inR (by omega) (by omega)⟩, fun c2 => ?_, fun c2 => ?_⟩
      · have hS5 : Safe (mset d x0 3 ((d x0 3) + 1)) := s_5_f3 hS hx0 (by omega)
        have q6 := r_5_f3 hS5 hx0
        have q7 : (mset d x0 3 ((d x0 3) + 1)) x0 4 = d x0 4 := mset_ni (by omega)
        have q8 : (mset d x0 3 ((d x0 3) + 1)) x0 3 = (d x0 3) + 1 := mset_eq
        have q9 : (mset d x0 3 ((d x0 3) + 1)) x0 2 = d x0 2 := mset_ni (by omega)
        refine ih5   (mset d x0 3 ((d x0 3) + 1)) hS5 (by omega) (by omega) (by omega) (by omega) ?_
        intro F hS_
        have y0 : st_54_5 x0 r5 d = r5 (mset d x0 3 ((d x0 3) + 1)) := by simp only [st_54_5, if_pos (show d x0 3 < d (x0 + 1) 1 from c0), if_neg (show ¬ v_92 (x0 + 1) (d x0 3) d = 0 from c1), if_neg (show ¬ (d x0 3) - (d x0 2) < 5 from Int.not_lt.mpr c2)]
        rw [y0] at h
        exact h (fun b hb => (F b hb).trans ((show ∀ b : Int, (b < x0 ∨ x0 < b) → (mset d x0 3 ((d x0 3) + 1)) b = d b from fun b hb => mset_ne (by omega)) b hb)) hS_
      · have q10 := r_5_f4 hS hx0
        have q11 := r_7_1 hS (reB.tx hx0) (d x0 3)
        refine ⟨by omega, ?_⟩
        have hS6 : Safe (mset d x0 4 ((((d x0 4) * 10) + (d (x0 + 1 + 1) (d x0 3))) - 48)) := s_5_f4 hS hx0 (by omega)
        try rw [mset_ni (d := d) (a := x0) (i := (4 : Int)) (v := (((d x0 4) * 10) + (d (x0 + 1 + 1) (d x0 3))) - 48) (b := x0) (j := (3 : Int)) (by omega)]
        have hS7 : Safe (mset (mset d x0 4 ((((d x0 4) * 10) + (d (x0 + 1 + 1) (d x0 3))) - 48)) x0 3 ((d x0 3) + 1)) := s_5_f3 hS6 hx0 (by omega)
        have q12 := r_5_f3 hS7 hx0
        have q13 : (mset (mset d x0 4 ((((d x0 4) * 10) + (d (x0 + 1 + 1) (d x0 3))) - 48)) x0 3 ((d x0 3) + 1)) x0 4 = (((d x0 4) * 10) + (d (x0 + 1 + 1) (d x0 3))) - 48 := (mset_ni (by omega)).trans (mset_eq)
        have q14 : (mset (mset d x0 4 ((((d x0 4) * 10) + (d (x0 + 1 + 1) (d x0 3))) - 48)) x0 3 ((d x0 3) + 1)) x0 3 = (d x0 3) + 1 := mset_eq
        have q15 : (mset (mset d x0 4 ((((d x0 4) * 10) + (d (x0 + 1 + 1) (d x0 3))) - 48)) x0 3 ((d x0 3) + 1)) x0 2 = d x0 2 := (mset_ni (by omega)).trans (mset_ni (by omega))
        refine ih5   (mset (mset d x0 4 ((((d x0 4) * 10) + (d (x0 + 1 + 1) (d x0 3))) - 48)) x0 3 ((d x0 3) + 1)) hS7 (by omega) (by omega) (by omega) (by omega) ?_
        intro F hS_
        have y0 : st_54_5 x0 r5 d = r5 (mset (mset d x0 4 ((((d x0 4) * 10) + (d (x0 + 1 + 1) (d x0 3))) - 48)) x0 3 ((d x0 3) + 1)) := by simp only [st_54_5, if_pos (show d x0 3 < d (x0 + 1) 1 from c0), if_neg (show ¬ v_92 (x0 + 1) (d x0 3) d = 0 from c1), if_pos (show (d x0 3) - (d x0 2) < 5 from c2)]
        rw [y0] at h
        exact h (fun b hb => (F b hb).trans ((show ∀ b : Int, (b < x0 ∨ x0 < b) → (mset (mset d x0 4 ((((d x0 4) * 10) + (d (x0 + 1 + 1) (d x0 3))) - 48)) x0 3 ((d x0 3) + 1)) b = d b from fun b hb => (mset_ne (by omega)).trans (mset_ne (by omega))) b hb)) hS_
theorem l_54_5 {E : mO × tW} {K : tK} {x0 : Int} (hx0 : reB x0) : ∀ (n : Nat) (d : mD), Safe d → (0 ≤ d x0 4) → ((d x0 3 = d x0 2 + 0 ∧ d x0 4 ≤ 0) ∨ (d x0 3 = d x0 2 + 1 ∧ d x0 4 ≤ 9) ∨ (d x0 3 = d x0 2 + 2 ∧ d x0 4 ≤ 99) ∨ (d x0 3 = d x0 2 + 3 ∧ d x0 4 ≤ 999) ∨ (d x0 3 = d x0 2 + 4 ∧ d x0 4 ≤ 9999) ∨ (d x0 2 + 5 ≤ d x0 3 ∧ d x0 4 ≤ 99999)) → 1000 - d x0 3 ≤ (n : Int) → ((∀ b : Int, (b < x0 ∨ x0 < b) → (lp_54_5 x0 n d) b = d b) → Safe (lp_54_5 x0 n d) → K (.inl none) (lp_54_5 x0 n d)) → tRun E 54 (5, [.inr (5, x0)], [], 0, 0, d) K := by
  intro n
  induction n with
  | zero =>
    intro   d hS i0 i1 hm  h
    exact ls_54_5 hx0 0 _ (fun   _ _ _ _ m0 m1 _ => absurd m1 (by omega))   d hS i0 i1 hm  h
  | succ n ih =>
    intro   d hS i0 i1 hm  h
    exact ls_54_5 hx0 ((n + 1 : Nat) : Int) _ (fun   d hS i0 i1  m0 m1 h => ih   d hS i0 i1 (by omega)  h)   d hS i0 i1 hm  h
def g_54 (x0 : Int) (d : mD) : mD := lp_54_5 x0 (1000 - (mset d x0 4 0) x0 3 : Int).toNat (mset d x0 4 0)
theorem k_54 {E : mO × tW} {K : tK} {d : mD} {x0 : Int} (hS : Safe d) (hx0 : reB x0) (hze : d x0 3 = d x0 2) (h : (∀ b : Int, (b < x0 ∨ x0 < b) → (g_54 x0 d) b = d b) → Safe (g_54 x0 d) → K (.inl none) (g_54 x0 d)) : tCall E 54 [.inr (5, x0)] d K := by
  refine t_54_0 ?_
  have w8 := r_5_f2 hS hx0
  have w9 := r_5_f3 hS hx0
  have w7 := r_7_f1 hS (reB.tx hx0)
  have hS8 : Safe (mset d x0 4 0) := s_5_f4 hS hx0 (by omega)
  have q16 := r_5_f3 hS8 hx0
  have q17 : (mset d x0 4 0) x0 4 = 0 := mset_eq
  have q18 : (mset d x0 4 0) x0 3 = d x0 3 := mset_ni (by omega)
  have q19 : (mset d x0 4 0) x0 2 = d x0 2 := mset_ni (by omega)
  refine l_54_5 hx0 (1000 - (mset d x0 4 0) x0 3 : Int).toNat   (mset d x0 4 0) hS8 (by omega) (by omega) (by omega) ?_
  intro F hS_
  have y0 : g_54 x0 d = lp_54_5 x0 (1000 - (mset d x0 4 0) x0 3 : Int).toNat (mset d x0 4 0) := by simp only [g_54]
  rw [y0] at h
  exact h (fun b hb => (F b hb).trans ((show ∀ b : Int, (b < x0 ∨ x0 < b) → (mset d x0 4 0) b = d b from fun b hb => mset_ne (by omega)) b hb)) hS_
def st_52_8 (x0 : Int) (r8 : mD → mD) (d : mD) : mD := if d x0 2 < d (x0 + 1) 1 then (if v_90 (x0 + 1) (d x0 2) d = 0 then (if v_91 (x0 + 1) (d x0 2) (mset d x0 3 (d x0 2)) = 0 then (if v_92 (x0 + 1) (d x0 2) (mset d x0 3 (d x0 2)) = 0 then (if d (x0 + 1 + 1) (d x0 2) = 59 then mset (mset (mset d x0 3 (d x0 2)) x0 1 2) x0 3 ((d x0 2) + 1) else mset (mset (mset d x0 3 (d x0 2)) x0 1 4) x0 3 ((d x0 2) + 1)) else g_54 x0 (mset d x0 3 (d x0 2))) else g_53 x0 (mset d x0 3 (d x0 2))) else r8 (mset d x0 2 ((d x0 2) + 1))) else mset (mset d x0 3 (d x0 2)) x0 1 3
def lp_52_8 (x0 : Int) : Nat → mD → mD
  | 0 => st_52_8 x0 (fun d => d)
  | n + 1 => st_52_8 x0 (lp_52_8 x0 n)
theorem ls_52_8 {E : mO × tW} {K : tK} {x0 : Int} (hx0 : reB x0) (N8 : Int) (r8 : mD → mD) (ih8 : ∀ (d : mD), Safe d → 0 ≤ 1000 - d x0 2 → 1000 - d x0 2 < N8 → ((∀ b : Int, (b < x0 ∨ x0 < b) → (r8  d) b = d b) → Safe (r8  d) → K (.inl none) (r8  d)) → tRun E 52 (8, [.inr (5, x0)], [], 0, 0, d) K) (d : mD) (hS : Safe d) (hm : 1000 - d x0 2 ≤ N8) (h : (∀ b : Int, (b < x0 ∨ x0 < b) → (st_52_8 x0 r8 d) b = d b) → Safe (st_52_8 x0 r8 d) → K (.inl none) (st_52_8 x0 r8 d)) : tRun E 52 (8, [.inr (5, x0)], [], 0, 0, d) K := by
  refine t_52_8 ?_
  have w8 := r_5_f2 hS hx0
  have w9 := r_5_f3 hS hx0
  have w7 := r_7_f1 hS (reB.tx hx0)
  have q1 := r_5_f2 hS hx0
  have q2 := r_7_f1 hS (reB.tx hx0)
  refine ⟨⟨m_inR (by omega) (by omega), m_inR (by omega) (by omega)⟩, fun c0 => ?_, fun c0 => ?_⟩
  · have hS1 : Safe (mset d x0 3 (d x0 2)) := s_5_f3 hS hx0 (by omega)
    try rw [mset_ni (d := d) (a := x0) (i := (3 : Int)) (v := d x0 2) (b := x0) (j := (2 : Int)) (by omega)]
    try rw [mset_ni (d := d) (a := x0) (i := (3 : Int)) (v := d x0 2) (b := x0 + 1) (j := (1 : Int)) (by omega)]
    refine ⟨⟨m_inR (by omega) (by omega), m_inR (by omega) (by omega)⟩, fun c1 => ?_, fun c1 => ?_⟩
    · exact (show False by omega).elim
    · have hS2 : Safe (mset (mset d x0 3 (d x0 2)) x0 1 3) := s_5_f1 hS1 hx0 (by omega)
      have y0 : st_52_8 x0 r8 d = mset (mset d x0 3 (d x0 2)) x0 1 3 := by simp only [st_52_8, if_neg (show ¬ d x0 2 < d (x0 + 1) 1 from Int.not_lt.mpr c0), if_neg (show ¬ d x0 2 < d (x0 + 1) 1 from Int.not_lt.mpr c1)]
      rw [y0] at h
      exact h (show ∀ b : Int, (b < x0 ∨ x0 < b) → (mset (mset d x0 3 (d x0 2)) x0 1 3) b = d b from fun b hb => (mset_ne (by omega)).trans (mset_ne (by omega))) hS2
  · refine k_90 hS (reB.tx hx0) (by omega) (fun e1 => ?_)
    refine t_52_33 ?_
    have w8 := r_5_f2 hS hx0
    have w9 := r_5_f3 hS hx0
    have w7 := r_7_f1 hS (reB.tx hx0)
    refine ⟨m_inR (by omega) (by omega), fun c1 => ?_, fun c1 => ?_⟩
    · have hS3 : Safe (mset d x0 3 (d x0 2)) := s_5_f3 hS hx0 (by omega)
      try rw [mset_ni (d := d) (a := x0) (i := (3 : Int)) (v := d x0 2) (b := x0) (j := (2 : Int)) (by omega)]
      try rw [mset_ni (d := d) (a := x0) (i := (3 : Int)) (v := d x0 2) (b := x0 + 1) (j := (1 : Int)) (by omega)]
      refine ⟨⟨m_inR (by omega) (by omega), m_inR (by omega) (by omega)⟩, fun c2 => ?_, fun c2 => ?_⟩
      · try rw [mset_ni (d := d) (a := x0) (i := (3 : Int)) (v := d x0 2) (b := x0) (j := (2 : Int)) (by omega)]
        refine k_91 hS3 (reB.tx hx0) (by omega) (fun e2 => ?_)
        refine t_52_90 ?_
        have w8 := r_5_f2 hS3 hx0
        have w9 := r_5_f3 hS3 hx0
        have w7 := r_7_f1 hS3 (reB.tx hx0)
        refine ⟨m_inR (by omega) (by omega), fun c3 => ?_, fun c3 => ?_⟩
        · try rw [mset_ni (d := d) (a := x0) (i := (3 : Int)) (v := d x0 2) (b := x0) (j := (2 : Int)) (by omega)]
          refine k_92 hS3 (reB.tx hx0) (by omega) (fun e3 => ?_)
          refine t_52_111 ?_
          have w8 := r_5_f2 hS3 hx0
          have w9 := r_5_f3 hS3 hx0
          have w7 := r_7_f1 hS3 (reB.tx hx0)
          refine ⟨m_inR (by omega) (by omega), fun c4 => ?_, fun c4 => ?_⟩
          · try rw [mset_ni (d := d) (a := x0) (i := (3 : Int)) (v := d x0 2) (b := x0) (j := (2 : Int)) (by omega)]
            try rw [mset_ne (d := d) (a := x0) (i := (3 : Int)) (v := d x0 2) (b := x0 + 1 + 1) (by omega)]
            have q3 := r_7_1 hS (reB.tx hx0) (d x0 2)
            refine ⟨by omega, ⟨m_inR (by omega) (by omega), m_inR (by omega) (by omega)⟩, fun c5 => ?_, fun c5 => ?_⟩
            · have hS4 : Safe (mset (mset d x0 3 (d x0 2)) x0 1 4) := s_5_f1 hS3 hx0 (by omega)
              try rw [mset_ni (d := mset d x0 3 (d x0 2)) (a := x0) (i := (1 : Int)) (v := (4 : Int)) (b := x0) (j := (3 : Int)) (by omega)]
              try rw [mset_eq (d := d) (a := x0) (i := (3 : Int)) (v := d x0 2)]
              have hS5 : Safe (mset (mset (mset d x0 3 (d x0 2)) x0 1 4) x0 3 ((d x0 2) + 1)) := s_5_f3 hS4 hx0 (by omega)
              have y0 : st_52_8 x0 r8 d = mset (mset (mset d x0 3 (d x0 2)) x0 1 4) x0 3 ((d x0 2) + 1) := by simp only [st_52_8, if_pos (show d x0 2 < d (x0 + 1) 1 from c0), if_pos (show v_90 (x0 + 1) (d x0 2) d = 0 from c1), if_pos (show d x0 2 < d (x0 + 1) 1 from c2), if_pos (show v_91 (x0 + 1) (d x0 2) (mset d x0 3 (d x0 2)) = 0 from c3), if_pos (show v_92 (x0 + 1) (d x0 2) (mset d x0 3 (d x0 2)) = 0 from c4), if_neg (show ¬ d (x0 + 1 + 1) (d x0 2) = 59 from c5)]
              rw [y0] at h
              exact h (show ∀ b : Int, (b < x0 ∨ x0 < b) → (mset (mset (mset d x0 3 (d x0 2)) x0 1 4) x0 3 ((d x0 2) + 1)) b = d b from fun b hb => (mset_ne (by omega)).trans ((mset_ne (by omega)).trans (mset_ne (by omega)))) hS5
            · have hS6 : Safe (mset (mset d x0 3 (d x0 2)) x0 1 2) := s_5_f1 hS3 hx0 (by omega)
              try rw [mset_ni (d := mset d x0 3 (d x0 2)) (a := x0) (i := (1 : Int)) (v := (2 : Int)) (b := x0) (j := (3 : Int)) (by omega)]
              try rw [mset_eq (d := d) (a := x0) (i := (3 : Int)) (v := d x0 2)]
              have hS7 : Safe (mset (mset (mset d x0 3 (d x0 2)) x0 1 2) x0 3 ((d x0 2) + 1)) := s_5_f3 hS6 hx0 (by omega)
              have y0 : st_52_8 x0 r8 d = mset (mset (mset d x0 3 (d x0 2)) x0 1 2) x0 3 ((d x0 2) + 1) := by simp only [st_52_8, if_pos (show d x0 2 < d (x0 + 1) 1 from c0), if_pos (show v_90 (x0 + 1) (d x0 2) d = 0 from c1), if_pos (show d x0 2 < d (x0 + 1) 1 from c2), if_pos (show v_91 (x0 + 1) (d x0 2) (mset d x0 3 (d x0 2)) = 0 from c3), if_pos (show v_92 (x0 + 1) (d x0 2) (mset d x0 3 (d x0 2)) = 0 from c4), if_pos (show d (x0 + 1 + 1) (d x0 2) = 59 from c5)]
              rw [y0] at h
              exact h (show ∀ b : Int, (b < x0 ∨ x0 < b) → (mset (mset (mset d x0 3 (d x0 2)) x0 1 2) x0 3 ((d x0 2) + 1)) b = d b from fun b hb => (mset_ne (by omega)).trans ((mset_ne (by omega)).trans (mset_ne (by omega)))) hS7
          · have q4 : (mset d x0 3 (d x0 2)) x0 3 = d x0 2 := mset_eq
            have q5 : (mset d x0 3 (d x0 2)) x0 2 = d x0 2 := mset_ni (by omega)
            refine k_54 hS3 hx0 (by omega) (fun F1 hS8 => ?_)
            refine t_52_118 ?_
            have w8 := r_5_f2 hS8 hx0
            have w9 := r_5_f3 hS8 hx0
            have w7 := r_7_f1 hS8 (reB.tx hx0)
            have y0 : st_52_8 x0 r8 d = g_54 x0 (mset d x0 3 (d x0 2)) := by simp only [st_52_8, if_pos (show d x0 2 < d (x0 + 1) 1 from c0), if_pos (show v_90 (x0 + 1) (d x0 2) d = 0 from c1), if_pos (show d x0 2 < d (x0 + 1) 1 from c2), if_pos (show v_91 (x0 + 1) (d x0 2) (mset d x0 3 (d x0 2)) = 0 from c3), if_neg (show ¬ v_92 (x0 + 1) (d x0 2) (mset d x0 3 (d x0 2)) = 0 from c4)]
            rw [y0] at h
            exact h (show ∀ b : Int, (b < x0 ∨ x0 < b) → (g_54 x0 (mset d x0 3 (d x0 2))) b = d b from fun b hb => (F1 b (by omega)).trans (mset_ne (by omega))) hS8
        · refine k_53 hS3 hx0 (fun F2 hS9 => ?_)
          refine t_52_97 ?_
          have w8 := r_5_f2 hS9 hx0
          have w9 := r_5_f3 hS9 hx0
          have w7 := r_7_f1 hS9 (reB.tx hx0)
          have y0 : st_52_8 x0 r8 d = g_53 x0 (mset d x0 3 (d x0 2)) := by simp only [st_52_8, if_pos (show d x0 2 < d (x0 + 1) 1 from c0), if_pos (show v_90 (x0 + 1) (d x0 2) d = 0 from c1), if_pos (show d x0 2 < d (x0 + 1) 1 from c2), if_neg (show ¬ v_91 (x0 + 1) (d x0 2) (mset d x0 3 (d x0 2)) = 0 from c3)]
          rw [y0] at h
          exact h (show ∀ b : Int, (b < x0 ∨ x0 < b) → (g_53 x0 (mset d x0 3 (d x0 2))) b = d b from fun b hb => (F2 b (by omega)).trans (mset_ne (by omega))) hS9
      · exact (show False by omega).elim
    · have hS10 : Safe (mset d x0 2 ((d x0 2) + 1)) := s_5_f2 hS hx0 (by omega)
      have q6 := r_5_f2 hS10 hx0
      have q7 : (mset d x0 2 ((d x0 2) + 1)) x0 2 = (d x0 2) + 1 := mset_eq
      refine ih8   (mset d x0 2 ((d x0 2) + 1)) hS10 (by omega) (by omega) ?_
      intro F hS_
      have y0 : st_52_8 x0 r8 d = r8 (mset d x0 2 ((d x0 2) + 1)) := by simp only [st_52_8, if_pos (show d x0 2 < d (x0 + 1) 1 from c0), if_neg (show ¬ v_90 (x0 + 1) (d x0 2) d = 0 from c1)]
      rw [y0] at h
      exact h (fun b hb => (F b hb).trans ((show ∀ b : Int, (b < x0 ∨ x0 < b) → (mset d x0 2 ((d x0 2) + 1)) b = d b from fun b hb => mset_ne (by omega)) b hb)) hS_
theorem l_52_8 {E : mO × tW} {K : tK} {x0 : Int} (hx0 : reB x0) : ∀ (n : Nat) (d : mD), Safe d → 1000 - d x0 2 ≤ (n : Int) → ((∀ b : Int, (b < x0 ∨ x0 < b) → (lp_52_8 x0 n d) b = d b) → Safe (lp_52_8 x0 n d) → K (.inl none) (lp_52_8 x0 n d)) → tRun E 52 (8, [.inr (5, x0)], [], 0, 0, d) K := by
  intro n
  induction n with
  | zero =>
    intro   d hS  hm  h
    exact ls_52_8 hx0 0 _ (fun   _ _  m0 m1 _ => absurd m1 (by omega))   d hS  hm  h
  | succ n ih =>
    intro   d hS  hm  h
    exact ls_52_8 hx0 ((n + 1 : Nat) : Int) _ (fun   d hS   m0 m1 h => ih   d hS  (by omega)  h)   d hS  hm  h
def g_52 (x0 : Int) (d : mD) : mD := lp_52_8 x0 (1000 - (mset d x0 2 (d x0 3)) x0 2 : Int).toNat (mset d x0 2 (d x0 3))
theorem k_52 {E : mO × tW} {K : tK} {d : mD} {x0 : Int} (hS : Safe d) (hx0 : reB x0) (h : (∀ b : Int, (b < x0 ∨ x0 < b) → (g_52 x0 d) b = d b) → Safe (g_52 x0 d) → K (.inl none) (g_52 x0 d)) : tCall E 52 [.inr (5, x0)] d K := by
  refine t_52_0 ?_
  have w8 := r_5_f2 hS hx0
  have w9 := r_5_f3 hS hx0
  have w7 := r_7_f1 hS (reB.tx hx0)
  have q8 := r_5_f3 hS hx0
  have hS11 : Safe (mset d x0 2 (d x0 3)) := s_5_f2 hS hx0 (by omega)
  have q9 := r_5_f2 hS11 hx0
  have q10 : (mset d x0 2 (d x0 3)) x0 2 = d x0 3 := mset_eq
  refine l_52_8 hx0 (1000 - (mset d x0 2 (d x0 3)) x0 2 : Int).toNat   (mset d x0 2 (d x0 3)) hS11 (by omega) ?_
  intro F hS_
  have y0 : g_52 x0 d = lp_52_8 x0 (1000 - (mset d x0 2 (d x0 3)) x0 2 : Int).toNat (mset d x0 2 (d x0 3)) := by simp only [g_52]
  rw [y0] at h
  exact h (fun b hb => (F b hb).trans ((show ∀ b : Int, (b < x0 ∨ x0 < b) → (mset d x0 2 (d x0 3)) b = d b from fun b hb => mset_ne (by omega)) b hb)) hS_
def g_51 (x0 : Int) (d : mD) : mD := g_52 x0 (mset d x0 3 0)
theorem k_51 {E : mO × tW} {K : tK} {d : mD} {x0 : Int} (hS : Safe d) (hx0 : reB x0) (h : (∀ b : Int, (b < x0 ∨ x0 < b) → (g_51 x0 d) b = d b) → Safe (g_51 x0 d) → K (.inl none) (g_51 x0 d)) : tCall E 51 [.inr (5, x0)] d K := by
  refine t_51_0 ?_
  have w8 := r_5_f2 hS hx0
  have w9 := r_5_f3 hS hx0
  have w7 := r_7_f1 hS (reB.tx hx0)
  have hS1 : Safe (mset d x0 3 0) := s_5_f3 hS hx0 (by omega)
  refine k_52 hS1 hx0 (fun F1 hS2 => ?_)
  refine t_51_9 ?_
  have w8 := r_5_f2 hS2 hx0
  have w9 := r_5_f3 hS2 hx0
  have w7 := r_7_f1 hS2 (reB.tx hx0)
  have y0 : g_51 x0 d = g_52 x0 (mset d x0 3 0) := by simp only [g_51]
  rw [y0] at h
  exact h (show ∀ b : Int, (b < x0 ∨ x0 < b) → (g_52 x0 (mset d x0 3 0)) b = d b from fun b hb => (F1 b (by omega)).trans (mset_ne (by omega))) hS2
def v_56 (x0 : Int) (d : mD) : Int := if d x0 1 = 0 then v_93 (x0 + 1) (d x0 2) (d x0 3) d else (-1)
theorem k_56 {E : mO × tW} {K : tK} {d : mD} {x0 : Int} (hS : Safe d) (hx0 : reB x0) (h : (-1 ≤ (v_56 x0 d) ∧ (v_56 x0 d) ≤ 1073741823) → K (.inl (some (0, (v_56 x0 d)))) d) : tCall E 56 [.inr (5, x0)] d K := by
  refine t_56_0 ?_
  have w8 := r_5_f2 hS hx0
  have w9 := r_5_f3 hS hx0
  have w7 := r_7_f1 hS (reB.tx hx0)
  have q1 := r_5_f1 hS hx0
  refine ⟨m_inR (by omega) (by omega), fun c0 => ?_, fun c0 => ?_⟩
  · have y0 : v_56 x0 d = (-1) := by simp only [v_56, if_neg (show ¬ d x0 1 = 0 from c0)]
    rw [y0] at h
    exact h (show -1 ≤ ((-1 : Int)) ∧ ((-1 : Int)) ≤ 1073741823 from (by omega))
  · have q2 := r_5_f2 hS hx0
    have q3 := r_5_f3 hS hx0
    refine k_93 hS (reB.tx hx0) (by omega) (by omega) (fun e1 => ?_)
    refine t_56_22 ?_
    have w8 := r_5_f2 hS hx0
    have w9 := r_5_f3 hS hx0
    have w7 := r_7_f1 hS (reB.tx hx0)
    have y0 : v_56 x0 d = v_93 (x0 + 1) (d x0 2) (d x0 3) d := by simp only [v_56, if_pos (show d x0 1 = 0 from c0)]
    rw [y0] at h
    exact h (show -1 ≤ (v_93 (x0 + 1) (d x0 2) (d x0 3) d) ∧ (v_93 (x0 + 1) (d x0 2) (d x0 3) d) ≤ 1073741823 from (by omega))
/-! ===== contracts of the reader and the loader: printed by a program of mine ===== -/
theorem v91c {x : Int} {d d' : mD} (h : d' (x + 1) = d (x + 1)) (i : Int) : v_91 x i d' = v_91 x i d := by
  unfold v_91; rw [h]
theorem lp93c {x a b : Int} {d d' : mD} (h : d' (x + 1) = d (x + 1)) : ∀ (n : Nat) (y z : Int), lp_93_20 x a b n y z d' = lp_93_20 x a b n y z d := by
  intro n
  induction n with
  | zero => intro y z; show st_93_20 x a b _ y z d' = st_93_20 x a b _ y z d; unfold st_93_20; rw [v91c h, h]
  | succ n ih => intro y z; show st_93_20 x a b _ y z d' = st_93_20 x a b _ y z d; unfold st_93_20; rw [v91c h, h, ih]
theorem v56c {x : Int} {d d' : mD} (h0 : d' x = d x) (h : d' (x + 1 + 1) = d (x + 1 + 1)) : v_56 x d' = v_56 x d := by
  unfold v_56
  rw [h0]
  unfold v_93
  rw [lp93c h]
def v_32 (x0 x1 : Int) (d : mD) : Int := 0
def g_32 (x0 x1 : Int) (d : mD) : mD := mset (mset d x0 2 x1) x0 3 (d (x0 + 1) 2)
theorem k_32 {E : mO × tW} {K : tK} {d : mD} {x0 x1 : Int} (hS : Safe d) (hx0 : ldB x0) (p1 : 0 ≤ x1 ∧ x1 ≤ 6) (h : (0 ≤ (v_32 x0 x1 d) ∧ (v_32 x0 x1 d) ≤ 1) → (∀ b : Int, (b < x0 ∨ x0 < b) → (g_32 x0 x1 d) b = d b) → (g_32 x0 x1 d) x0 4 = d x0 4 → (g_32 x0 x1 d) x0 5 = d x0 5 → (g_32 x0 x1 d) x0 6 = d x0 6 → (g_32 x0 x1 d) (x0 + 4) 2 = d (x0 + 4) 2 → ((v_32 x0 x1 d) = 0) → Safe (g_32 x0 x1 d) → K (.inl (some (0, (v_32 x0 x1 d)))) (g_32 x0 x1 d)) : tCall E 32 [.inr (2, x0), .inl (0, x1)] d K := by
  refine t_32_0 ?_
  have w8 := r_5_f2 hS (ldB.re hx0)
  have hS1 : Safe (mset d x0 2 x1) := s_2_f2 hS hx0 (by omega)
  try rw [mset_ne (d := d) (a := x0) (i := (2 : Int)) (v := x1) (b := x0 + 1) (by omega)]
  have q1 := r_5_f2 hS (ldB.re hx0)
  have hS2 : Safe (mset (mset d x0 2 x1) x0 3 (d (x0 + 1) 2)) := s_2_f3 hS1 hx0 (by omega)
  refine ⟨by omega, ?_⟩
  have y0 : v_32 x0 x1 d = 0 := by simp only [v_32]
  have y1 : g_32 x0 x1 d = mset (mset d x0 2 x1) x0 3 (d (x0 + 1) 2) := by simp only [g_32]
  rw [y0] at h
  rw [y1] at h
  exact h (show 0 ≤ ((0 : Int)) ∧ ((0 : Int)) ≤ 1 from (by omega)) (show ∀ b : Int, (b < x0 ∨ x0 < b) → (mset (mset d x0 2 x1) x0 3 (d (x0 + 1) 2)) b = d b from fun b hb => (mset_ne (by omega)).trans (mset_ne (by omega))) (show (mset (mset d x0 2 x1) x0 3 (d (x0 + 1) 2)) x0 4 = d x0 4 from (mset_ni (by omega)).trans (mset_ni (by omega))) (show (mset (mset d x0 2 x1) x0 3 (d (x0 + 1) 2)) x0 5 = d x0 5 from (mset_ni (by omega)).trans (mset_ni (by omega))) (show (mset (mset d x0 2 x1) x0 3 (d (x0 + 1) 2)) x0 6 = d x0 6 from (mset_ni (by omega)).trans (mset_ni (by omega))) (show (mset (mset d x0 2 x1) x0 3 (d (x0 + 1) 2)) (x0 + 4) 2 = d (x0 + 4) 2 from (congrFun (mset_ne (by omega)) 2).trans (congrFun (mset_ne (by omega)) 2)) (show ((0 : Int)) = 0 by omega) hS2
def v_30 (x0 : Int) (d : mD) : Int := if d (x0 + 1) 1 = 2 then 1 else if v_32 x0 1 d = 0 then 0 else 1
def g_30 (x0 : Int) (d : mD) : mD := if d (x0 + 1) 1 = 2 then d else g_32 x0 1 d
theorem k_30 {E : mO × tW} {K : tK} {d : mD} {x0 : Int} (hS : Safe d) (hx0 : ldB x0) (h : (0 ≤ (v_30 x0 d) ∧ (v_30 x0 d) ≤ 1) → (∀ b : Int, (b < x0 ∨ x0 < b) → (g_30 x0 d) b = d b) → (g_30 x0 d) x0 4 = d x0 4 → (g_30 x0 d) x0 5 = d x0 5 → (g_30 x0 d) x0 6 = d x0 6 → (g_30 x0 d) (x0 + 4) 2 = d (x0 + 4) 2 → Safe (g_30 x0 d) → K (.inl (some (0, (v_30 x0 d)))) (g_30 x0 d)) : tCall E 30 [.inr (2, x0)] d K := by
  refine t_30_0 ?_
  have w8 := r_5_f2 hS (ldB.re hx0)
  have q1 := r_5_f1 hS (ldB.re hx0)
  refine ⟨⟨m_inR (by omega) (by omega), m_inR (by omega) (by omega)⟩, fun c0 => ?_, fun c0 => ?_⟩
  · refine ⟨by omega, ?_⟩
    have y0 : v_30 x0 d = 1 := by simp only [v_30, if_pos (show d (x0 + 1) 1 = 2 from c0)]
    have y1 : g_30 x0 d = d := by simp only [g_30, if_pos (show d (x0 + 1) 1 = 2 from c0)]
    rw [y0] at h
    rw [y1] at h
    exact h (show 0 ≤ ((1 : Int)) ∧ ((1 : Int)) ≤ 1 from (by omega)) (show ∀ b : Int, (b < x0 ∨ x0 < b) → d b = d b from fun _ _ => rfl) (show d x0 4 = d x0 4 from rfl) (show d x0 5 = d x0 5 from rfl) (show d x0 6 = d x0 6 from rfl) (show d (x0 + 4) 2 = d (x0 + 4) 2 from rfl) hS
  · refine k_32 hS hx0 (by omega) (fun e1 F1 k1_0 k1_1 k1_2 k1_3 n1_0 hS1 => ?_)
    refine t_30_16 ?_
    have w8 := r_5_f2 hS1 (ldB.re hx0)
    refine ⟨m_inR (by omega) (by omega), fun c1 => ?_, fun c1 => ?_⟩
    · refine ⟨by omega, ?_⟩
      have y0 : v_30 x0 d = 0 := by simp only [v_30, if_neg (show ¬ d (x0 + 1) 1 = 2 from c0), if_pos (show v_32 x0 1 d = 0 from c1)]
      have y1 : g_30 x0 d = g_32 x0 1 d := by simp only [g_30, if_neg (show ¬ d (x0 + 1) 1 = 2 from c0), if_pos (show v_32 x0 1 d = 0 from c1)]
      rw [y0] at h
      rw [y1] at h
      exact h (show 0 ≤ ((0 : Int)) ∧ ((0 : Int)) ≤ 1 from (by omega)) (show ∀ b : Int, (b < x0 ∨ x0 < b) → (g_32 x0 1 d) b = d b from fun b hb => F1 b (by omega)) (show (g_32 x0 1 d) x0 4 = d x0 4 from k1_0) (show (g_32 x0 1 d) x0 5 = d x0 5 from k1_1) (show (g_32 x0 1 d) x0 6 = d x0 6 from k1_2) (show (g_32 x0 1 d) (x0 + 4) 2 = d (x0 + 4) 2 from k1_3) hS1
    · refine ⟨by omega, ?_⟩
      have y0 : v_30 x0 d = 1 := by simp only [v_30, if_neg (show ¬ d (x0 + 1) 1 = 2 from c0), if_neg (show ¬ v_32 x0 1 d = 0 from c1)]
      have y1 : g_30 x0 d = g_32 x0 1 d := by simp only [g_30, if_neg (show ¬ d (x0 + 1) 1 = 2 from c0), if_neg (show ¬ v_32 x0 1 d = 0 from c1)]
      rw [y0] at h
      rw [y1] at h
      exact h (show 0 ≤ ((1 : Int)) ∧ ((1 : Int)) ≤ 1 from (by omega)) (show ∀ b : Int, (b < x0 ∨ x0 < b) → (g_32 x0 1 d) b = d b from fun b hb => F1 b (by omega)) (show (g_32 x0 1 d) x0 4 = d x0 4 from k1_0) (show (g_32 x0 1 d) x0 5 = d x0 5 from k1_1) (show (g_32 x0 1 d) x0 6 = d x0 6 from k1_2) (show (g_32 x0 1 d) (x0 + 4) 2 = d (x0 + 4) 2 from k1_3) hS1
def v_31 (x0 : Int) (d : mD) : Int := if v_30 x0 d = 0 then 0 else 1
def g_31 (x0 : Int) (d : mD) : mD := if v_30 x0 d = 0 then g_30 x0 d else g_52 (x0 + 1) (g_30 x0 d)
theorem k_31 {E : mO × tW} {K : tK} {d : mD} {x0 : Int} (hS : Safe d) (hx0 : ldB x0) (h : (0 ≤ (v_31 x0 d) ∧ (v_31 x0 d) ≤ 1) → (∀ b : Int, (b < x0 ∨ x0 + 1 < b) → (g_31 x0 d) b = d b) → (g_31 x0 d) x0 4 = d x0 4 → (g_31 x0 d) x0 5 = d x0 5 → (g_31 x0 d) x0 6 = d x0 6 → (g_31 x0 d) (x0 + 4) 2 = d (x0 + 4) 2 → Safe (g_31 x0 d) → K (.inl (some (0, (v_31 x0 d)))) (g_31 x0 d)) : tCall E 31 [.inr (2, x0)] d K := by
  refine t_31_0 ?_
  have w8 := r_5_f2 hS (ldB.re hx0)
  refine k_30 hS hx0 (fun e1 F1 k1_0 k1_1 k1_2 k1_3 hS1 => ?_)
  refine t_31_4 ?_
  have w8 := r_5_f2 hS1 (ldB.re hx0)
  refine ⟨m_inR (by omega) (by omega), fun c0 => ?_, fun c0 => ?_⟩
  · refine k_52 hS1 (ldB.re hx0) (fun F2 hS2 => ?_)
    refine t_31_16 ?_
    have w8 := r_5_f2 hS2 (ldB.re hx0)
    refine ⟨by omega, ?_⟩
    have y0 : v_31 x0 d = 1 := by simp only [v_31, if_neg (show ¬ v_30 x0 d = 0 from c0)]
    have y1 : g_31 x0 d = g_52 (x0 + 1) (g_30 x0 d) := by simp only [g_31, if_neg (show ¬ v_30 x0 d = 0 from c0)]
    rw [y0] at h
    rw [y1] at h
    exact h (show 0 ≤ ((1 : Int)) ∧ ((1 : Int)) ≤ 1 from (by omega)) (show ∀ b : Int, (b < x0 ∨ x0 + 1 < b) → (g_52 (x0 + 1) (g_30 x0 d)) b = d b from fun b hb => (F2 b (by omega)).trans (F1 b (by omega))) (show (g_52 (x0 + 1) (g_30 x0 d)) x0 4 = d x0 4 from (congrFun (F2 x0 (by omega)) 4).trans (k1_0)) (show (g_52 (x0 + 1) (g_30 x0 d)) x0 5 = d x0 5 from (congrFun (F2 x0 (by omega)) 5).trans (k1_1)) (show (g_52 (x0 + 1) (g_30 x0 d)) x0 6 = d x0 6 from (congrFun (F2 x0 (by omega)) 6).trans (k1_2)) (show (g_52 (x0 + 1) (g_30 x0 d)) (x0 + 4) 2 = d (x0 + 4) 2 from (congrFun (F2 (x0 + 4) (by omega)) 2).trans (k1_3)) hS2
  · refine ⟨by omega, ?_⟩
    have y0 : v_31 x0 d = 0 := by simp only [v_31, if_pos (show v_30 x0 d = 0 from c0)]
    have y1 : g_31 x0 d = g_30 x0 d := by simp only [g_31, if_pos (show v_30 x0 d = 0 from c0)]
    rw [y0] at h
    rw [y1] at h
    exact h (show 0 ≤ ((0 : Int)) ∧ ((0 : Int)) ≤ 1 from (by omega)) (show ∀ b : Int, (b < x0 ∨ x0 + 1 < b) → (g_30 x0 d) b = d b from fun b hb => F1 b (by omega)) (show (g_30 x0 d) x0 4 = d x0 4 from k1_0) (show (g_30 x0 d) x0 5 = d x0 5 from k1_1) (show (g_30 x0 d) x0 6 = d x0 6 from k1_2) (show (g_30 x0 d) (x0 + 4) 2 = d (x0 + 4) 2 from k1_3) hS1
def v_24 (x0 x1 : Int) (d : mD) : Int := if v_55 (x0 + 1) x1 d = 0 then v_32 x0 1 d else 1
def g_24 (x0 x1 : Int) (d : mD) : mD := if v_55 (x0 + 1) x1 d = 0 then g_32 x0 1 d else g_52 (x0 + 1) d
theorem k_24 {E : mO × tW} {K : tK} {d : mD} {x0 x1 : Int} (hW : W55 E) (hS : Safe d) (hx0 : ldB x0) (hk : 0 ≤ x1 ∧ x1 ≤ 6) (h : (0 ≤ (v_24 x0 x1 d) ∧ (v_24 x0 x1 d) ≤ 1) → (∀ b : Int, (b < x0 ∨ x0 + 1 < b) → (g_24 x0 x1 d) b = d b) → (g_24 x0 x1 d) x0 4 = d x0 4 → (g_24 x0 x1 d) x0 5 = d x0 5 → (g_24 x0 x1 d) x0 6 = d x0 6 → (g_24 x0 x1 d) (x0 + 4) 2 = d (x0 + 4) 2 → Safe (g_24 x0 x1 d) → K (.inl (some (0, (v_24 x0 x1 d)))) (g_24 x0 x1 d)) : tCall E 24 [.inr (2, x0), .inl (5, x1)] d K := by
  refine t_24_0 ?_
  have w8 := r_5_f2 hS (ldB.re hx0)
  refine k_55 hW hS (ldB.re hx0) (by omega) (fun e1 => ?_)
  refine t_24_8 ?_
  have w8 := r_5_f2 hS (ldB.re hx0)
  refine ⟨m_inR (by omega) (by omega), fun c0 => ?_, fun c0 => ?_⟩
  · refine k_52 hS (ldB.re hx0) (fun F1 hS1 => ?_)
    refine t_24_24 ?_
    have w8 := r_5_f2 hS1 (ldB.re hx0)
    refine ⟨by omega, ?_⟩
    have y0 : v_24 x0 x1 d = 1 := by simp only [v_24, if_neg (show ¬ v_55 (x0 + 1) x1 d = 0 from c0)]
    have y1 : g_24 x0 x1 d = g_52 (x0 + 1) d := by simp only [g_24, if_neg (show ¬ v_55 (x0 + 1) x1 d = 0 from c0)]
    rw [y0] at h
    rw [y1] at h
    exact h (show 0 ≤ ((1 : Int)) ∧ ((1 : Int)) ≤ 1 from (by omega)) (show ∀ b : Int, (b < x0 ∨ x0 + 1 < b) → (g_52 (x0 + 1) d) b = d b from fun b hb => F1 b (by omega)) (show (g_52 (x0 + 1) d) x0 4 = d x0 4 from congrFun (F1 x0 (by omega)) 4) (show (g_52 (x0 + 1) d) x0 5 = d x0 5 from congrFun (F1 x0 (by omega)) 5) (show (g_52 (x0 + 1) d) x0 6 = d x0 6 from congrFun (F1 x0 (by omega)) 6) (show (g_52 (x0 + 1) d) (x0 + 4) 2 = d (x0 + 4) 2 from congrFun (F1 (x0 + 4) (by omega)) 2) hS1
  · refine k_32 hS hx0 (by omega) (fun e2 F2 k2_0 k2_1 k2_2 k2_3 n2_0 hS2 => ?_)
    refine t_24_16 ?_
    have w8 := r_5_f2 hS2 (ldB.re hx0)
    refine ⟨by omega, ?_⟩
    have y0 : v_24 x0 x1 d = v_32 x0 1 d := by simp only [v_24, if_pos (show v_55 (x0 + 1) x1 d = 0 from c0)]
    have y1 : g_24 x0 x1 d = g_32 x0 1 d := by simp only [g_24, if_pos (show v_55 (x0 + 1) x1 d = 0 from c0)]
    rw [y0] at h
    rw [y1] at h
    exact h (show 0 ≤ (v_32 x0 1 d) ∧ (v_32 x0 1 d) ≤ 1 from (by omega)) (show ∀ b : Int, (b < x0 ∨ x0 + 1 < b) → (g_32 x0 1 d) b = d b from fun b hb => F2 b (by omega)) (show (g_32 x0 1 d) x0 4 = d x0 4 from k2_0) (show (g_32 x0 1 d) x0 5 = d x0 5 from k2_1) (show (g_32 x0 1 d) x0 6 = d x0 6 from k2_2) (show (g_32 x0 1 d) (x0 + 4) 2 = d (x0 + 4) 2 from k2_3) hS2
def v_25 (x0 x1 x2 : Int) (d : mD) : Int := if d (x0 + 1) 1 = 1 then (if d (x0 + 1) 4 < x1 then v_32 x0 2 d else if x2 < d (x0 + 1) 4 then v_32 x0 2 d else 1) else v_32 x0 1 d
def g_25 (x0 x1 x2 : Int) (d : mD) : mD := if d (x0 + 1) 1 = 1 then (if d (x0 + 1) 4 < x1 then g_32 x0 2 d else if x2 < d (x0 + 1) 4 then g_32 x0 2 d else g_52 (x0 + 1) (mset d x0 4 (d (x0 + 1) 4))) else g_32 x0 1 d
theorem k_25 {E : mO × tW} {K : tK} {d : mD} {x0 x1 x2 : Int} (hS : Safe d) (hx0 : ldB x0) (p1 : 0 ≤ x1 ∧ x1 ≤ 99999) (p2 : 0 ≤ x2 ∧ x2 ≤ 99999) (h : (0 ≤ (v_25 x0 x1 x2 d) ∧ (v_25 x0 x1 x2 d) ≤ 1) → (∀ b : Int, (b < x0 ∨ x0 + 1 < b) → (g_25 x0 x1 x2 d) b = d b) → (g_25 x0 x1 x2 d) x0 5 = d x0 5 → (g_25 x0 x1 x2 d) x0 6 = d x0 6 → (g_25 x0 x1 x2 d) (x0 + 4) 2 = d (x0 + 4) 2 → ((v_25 x0 x1 x2 d) = 0 ∨ (x1 ≤ (g_25 x0 x1 x2 d) x0 4 ∧ (g_25 x0 x1 x2 d) x0 4 ≤ x2)) → Safe (g_25 x0 x1 x2 d) → K (.inl (some (0, (v_25 x0 x1 x2 d)))) (g_25 x0 x1 x2 d)) : tCall E 25 [.inr (2, x0), .inl (0, x1), .inl (0, x2)] d K := by
  refine t_25_0 ?_
  have w8 := r_5_f2 hS (ldB.re hx0)
  have q1 := r_5_f1 hS (ldB.re hx0)
  refine ⟨⟨m_inR (by omega) (by omega), m_inR (by omega) (by omega)⟩, fun c0 => ?_, fun c0 => ?_⟩
  · have q2 := r_5_f4 hS (ldB.re hx0)
    refine ⟨⟨m_inR (by omega) (by omega), m_inR (by omega) (by omega)⟩, fun c1 => ?_, fun c1 => ?_⟩
    · refine k_32 hS hx0 (by omega) (fun e1 F1 k1_0 k1_1 k1_2 k1_3 n1_0 hS1 => ?_)
      refine t_25_44 ?_
      have w8 := r_5_f2 hS1 (ldB.re hx0)
      refine ⟨by omega, ?_⟩
      have q3 : (g_32 x0 2 d) x0 4 = d x0 4 := k1_0
      have y0 : v_25 x0 x1 x2 d = v_32 x0 2 d := by simp only [v_25, if_pos (show d (x0 + 1) 1 = 1 from c0), if_pos (show d (x0 + 1) 4 < x1 from c1)]
      have y1 : g_25 x0 x1 x2 d = g_32 x0 2 d := by simp only [g_25, if_pos (show d (x0 + 1) 1 = 1 from c0), if_pos (show d (x0 + 1) 4 < x1 from c1)]
      rw [y0] at h
      rw [y1] at h
      exact h (show 0 ≤ (v_32 x0 2 d) ∧ (v_32 x0 2 d) ≤ 1 from (by omega)) (show ∀ b : Int, (b < x0 ∨ x0 + 1 < b) → (g_32 x0 2 d) b = d b from fun b hb => F1 b (by omega)) (show (g_32 x0 2 d) x0 5 = d x0 5 from k1_1) (show (g_32 x0 2 d) x0 6 = d x0 6 from k1_2) (show (g_32 x0 2 d) (x0 + 4) 2 = d (x0 + 4) 2 from k1_3) (show (v_32 x0 2 d) = 0 ∨ (x1 ≤ (g_32 x0 2 d) x0 4 ∧ (g_32 x0 2 d) x0 4 ≤ x2) by omega) hS1
    · refine ⟨⟨m_inR (by omega) (by omega), m_inR (by omega) (by omega)⟩, fun c2 => ?_, fun c2 => ?_⟩
      · have hS2 : Safe (mset d x0 4 (d (x0 + 1) 4)) := s_2_f4 hS hx0 (by omega)
        refine k_52 hS2 (ldB.re hx0) (fun F2 hS3 => ?_)
        refine t_25_63 ?_
        have w8 := r_5_f2 hS3 (ldB.re hx0)
        refine ⟨by omega, ?_⟩
        have q4 : (g_52 (x0 + 1) (mset d x0 4 (d (x0 + 1) 4))) x0 4 = d (x0 + 1) 4 := (congrFun (F2 x0 (by omega)) 4).trans (mset_eq)
        have y0 : v_25 x0 x1 x2 d = 1 := by simp only [v_25, if_pos (show d (x0 + 1) 1 = 1 from c0), if_neg (show ¬ d (x0 + 1) 4 < x1 from Int.not_lt.mpr c1), if_neg (show ¬ x2 < d (x0 + 1) 4 from Int.not_lt.mpr c2)]
        have y1 : g_25 x0 x1 x2 d = g_52 (x0 + 1) (mset d x0 4 (d (x0 + 1) 4)) := by simp only [g_25, if_pos (show d (x0 + 1) 1 = 1 from c0), if_neg (show ¬ d (x0 + 1) 4 < x1 from Int.not_lt.mpr c1), if_neg (show ¬ x2 < d (x0 + 1) 4 from Int.not_lt.mpr c2)]
        rw [y0] at h
        rw [y1] at h
        exact h (show 0 ≤ ((1 : Int)) ∧ ((1 : Int)) ≤ 1 from (by omega)) (show ∀ b : Int, (b < x0 ∨ x0 + 1 < b) → (g_52 (x0 + 1) (mset d x0 4 (d (x0 + 1) 4))) b = d b from fun b hb => (F2 b (by omega)).trans (mset_ne (by omega))) (show (g_52 (x0 + 1) (mset d x0 4 (d (x0 + 1) 4))) x0 5 = d x0 5 from (congrFun (F2 x0 (by omega)) 5).trans (mset_ni (by omega))) (show (g_52 (x0 + 1) (mset d x0 4 (d (x0 + 1) 4))) x0 6 = d x0 6 from (congrFun (F2 x0 (by omega)) 6).trans (mset_ni (by omega))) (show (g_52 (x0 + 1) (mset d x0 4 (d (x0 + 1) 4))) (x0 + 4) 2 = d (x0 + 4) 2 from (congrFun (F2 (x0 + 4) (by omega)) 2).trans (congrFun (mset_ne (by omega)) 2)) (show ((1 : Int)) = 0 ∨ (x1 ≤ (g_52 (x0 + 1) (mset d x0 4 (d (x0 + 1) 4))) x0 4 ∧ (g_52 (x0 + 1) (mset d x0 4 (d (x0 + 1) 4))) x0 4 ≤ x2) by omega) hS3
      · refine k_32 hS hx0 (by omega) (fun e2 F3 k3_0 k3_1 k3_2 k3_3 n3_0 hS4 => ?_)
        refine t_25_44 ?_
        have w8 := r_5_f2 hS4 (ldB.re hx0)
        refine ⟨by omega, ?_⟩
        have q5 : (g_32 x0 2 d) x0 4 = d x0 4 := k3_0
        have y0 : v_25 x0 x1 x2 d = v_32 x0 2 d := by simp only [v_25, if_pos (show d (x0 + 1) 1 = 1 from c0), if_neg (show ¬ d (x0 + 1) 4 < x1 from Int.not_lt.mpr c1), if_pos (show x2 < d (x0 + 1) 4 from c2)]
        have y1 : g_25 x0 x1 x2 d = g_32 x0 2 d := by simp only [g_25, if_pos (show d (x0 + 1) 1 = 1 from c0), if_neg (show ¬ d (x0 + 1) 4 < x1 from Int.not_lt.mpr c1), if_pos (show x2 < d (x0 + 1) 4 from c2)]
        rw [y0] at h
        rw [y1] at h
        exact h (show 0 ≤ (v_32 x0 2 d) ∧ (v_32 x0 2 d) ≤ 1 from (by omega)) (show ∀ b : Int, (b < x0 ∨ x0 + 1 < b) → (g_32 x0 2 d) b = d b from fun b hb => F3 b (by omega)) (show (g_32 x0 2 d) x0 5 = d x0 5 from k3_1) (show (g_32 x0 2 d) x0 6 = d x0 6 from k3_2) (show (g_32 x0 2 d) (x0 + 4) 2 = d (x0 + 4) 2 from k3_3) (show (v_32 x0 2 d) = 0 ∨ (x1 ≤ (g_32 x0 2 d) x0 4 ∧ (g_32 x0 2 d) x0 4 ≤ x2) by omega) hS4
  · refine k_32 hS hx0 (by omega) (fun e3 F4 k4_0 k4_1 k4_2 k4_3 n4_0 hS5 => ?_)
    refine t_25_16 ?_
    have w8 := r_5_f2 hS5 (ldB.re hx0)
    refine ⟨by omega, ?_⟩
    have q6 : (g_32 x0 1 d) x0 4 = d x0 4 := k4_0
    have y0 : v_25 x0 x1 x2 d = v_32 x0 1 d := by simp only [v_25, if_neg (show ¬ d (x0 + 1) 1 = 1 from c0)]
    have y1 : g_25 x0 x1 x2 d = g_32 x0 1 d := by simp only [g_25, if_neg (show ¬ d (x0 + 1) 1 = 1 from c0)]
    rw [y0] at h
    rw [y1] at h
    exact h (show 0 ≤ (v_32 x0 1 d) ∧ (v_32 x0 1 d) ≤ 1 from (by omega)) (show ∀ b : Int, (b < x0 ∨ x0 + 1 < b) → (g_32 x0 1 d) b = d b from fun b hb => F4 b (by omega)) (show (g_32 x0 1 d) x0 5 = d x0 5 from k4_1) (show (g_32 x0 1 d) x0 6 = d x0 6 from k4_2) (show (g_32 x0 1 d) (x0 + 4) 2 = d (x0 + 4) 2 from k4_3) (show (v_32 x0 1 d) = 0 ∨ (x1 ≤ (g_32 x0 1 d) x0 4 ∧ (g_32 x0 1 d) x0 4 ≤ x2) by omega) hS5
def v_26 (x0 : Int) (d : mD) : Int := if v_56 (x0 + 1) d = (-1) then v_32 x0 1 (mset d x0 5 (v_56 (x0 + 1) d)) else 1
def g_26 (x0 : Int) (d : mD) : mD := if v_56 (x0 + 1) d = (-1) then g_32 x0 1 (mset d x0 5 (v_56 (x0 + 1) d)) else g_52 (x0 + 1) (mset d x0 5 (v_56 (x0 + 1) d))
theorem k_26 {E : mO × tW} {K : tK} {d : mD} {x0 : Int} (hS : Safe d) (hx0 : ldB x0) (h : (0 ≤ (v_26 x0 d) ∧ (v_26 x0 d) ≤ 1) → (∀ b : Int, (b < x0 ∨ x0 + 1 < b) → (g_26 x0 d) b = d b) → (g_26 x0 d) x0 4 = d x0 4 → (g_26 x0 d) x0 6 = d x0 6 → (g_26 x0 d) (x0 + 4) 2 = d (x0 + 4) 2 → ((v_26 x0 d) = 0 ∨ (0 ≤ (g_26 x0 d) x0 5 ∧ ¬ v_56 (x0 + 1) d = -1)) → Safe (g_26 x0 d) → K (.inl (some (0, (v_26 x0 d)))) (g_26 x0 d)) : tCall E 26 [.inr (2, x0)] d K := by
  refine t_26_0 ?_
  have w8 := r_5_f2 hS (ldB.re hx0)
  refine k_56 hS (ldB.re hx0) (fun e1 => ?_)
  refine t_26_8 ?_
  have w8 := r_5_f2 hS (ldB.re hx0)
  have hS1 : Safe (mset d x0 5 (v_56 (x0 + 1) d)) := s_2_f5 hS hx0 (by omega)
  try rw [mset_eq (d := d) (a := x0) (i := (5 : Int)) (v := v_56 (x0 + 1) d)]
  refine ⟨⟨m_inR (by omega) (by omega), m_inR (by omega) (by omega)⟩, fun c0 => ?_, fun c0 => ?_⟩
  · refine k_52 hS1 (ldB.re hx0) (fun F1 hS2 => ?_)
    refine t_26_32 ?_
    have w8 := r_5_f2 hS2 (ldB.re hx0)
    refine ⟨by omega, ?_⟩
    have q1 : (g_52 (x0 + 1) (mset d x0 5 (v_56 (x0 + 1) d))) x0 5 = v_56 (x0 + 1) d := (congrFun (F1 x0 (by omega)) 5).trans (mset_eq)
    have y0 : v_26 x0 d = 1 := by simp only [v_26, if_neg (show ¬ v_56 (x0 + 1) d = (-1) from c0)]
    have y1 : g_26 x0 d = g_52 (x0 + 1) (mset d x0 5 (v_56 (x0 + 1) d)) := by simp only [g_26, if_neg (show ¬ v_56 (x0 + 1) d = (-1) from c0)]
    rw [y0] at h
    rw [y1] at h
    exact h (show 0 ≤ ((1 : Int)) ∧ ((1 : Int)) ≤ 1 from (by omega)) (show ∀ b : Int, (b < x0 ∨ x0 + 1 < b) → (g_52 (x0 + 1) (mset d x0 5 (v_56 (x0 + 1) d))) b = d b from fun b hb => (F1 b (by omega)).trans (mset_ne (by omega))) (show (g_52 (x0 + 1) (mset d x0 5 (v_56 (x0 + 1) d))) x0 4 = d x0 4 from (congrFun (F1 x0 (by omega)) 4).trans (mset_ni (by omega))) (show (g_52 (x0 + 1) (mset d x0 5 (v_56 (x0 + 1) d))) x0 6 = d x0 6 from (congrFun (F1 x0 (by omega)) 6).trans (mset_ni (by omega))) (show (g_52 (x0 + 1) (mset d x0 5 (v_56 (x0 + 1) d))) (x0 + 4) 2 = d (x0 + 4) 2 from (congrFun (F1 (x0 + 4) (by omega)) 2).trans (congrFun (mset_ne (by omega)) 2)) (show ((1 : Int)) = 0 ∨ (0 ≤ (g_52 (x0 + 1) (mset d x0 5 (v_56 (x0 + 1) d))) x0 5 ∧ ¬ v_56 (x0 + 1) d = -1) by omega) hS2
  · refine k_32 hS1 hx0 (by omega) (fun e2 F2 k2_0 k2_1 k2_2 k2_3 n2_0 hS3 => ?_)
    refine t_26_24 ?_
    have w8 := r_5_f2 hS3 (ldB.re hx0)
    refine ⟨by omega, ?_⟩
    have q2 : (g_32 x0 1 (mset d x0 5 (v_56 (x0 + 1) d))) x0 5 = v_56 (x0 + 1) d := (k2_1).trans (mset_eq)
    have y0 : v_26 x0 d = v_32 x0 1 (mset d x0 5 (v_56 (x0 + 1) d)) := by simp only [v_26, if_pos (show v_56 (x0 + 1) d = (-1) from c0)]
    have y1 : g_26 x0 d = g_32 x0 1 (mset d x0 5 (v_56 (x0 + 1) d)) := by simp only [g_26, if_pos (show v_56 (x0 + 1) d = (-1) from c0)]
    rw [y0] at h
    rw [y1] at h
    exact h (show 0 ≤ (v_32 x0 1 (mset d x0 5 (v_56 (x0 + 1) d))) ∧ (v_32 x0 1 (mset d x0 5 (v_56 (x0 + 1) d))) ≤ 1 from (by omega)) (show ∀ b : Int, (b < x0 ∨ x0 + 1 < b) → (g_32 x0 1 (mset d x0 5 (v_56 (x0 + 1) d))) b = d b from fun b hb => (F2 b (by omega)).trans (mset_ne (by omega))) (show (g_32 x0 1 (mset d x0 5 (v_56 (x0 + 1) d))) x0 4 = d x0 4 from (k2_0).trans (mset_ni (by omega))) (show (g_32 x0 1 (mset d x0 5 (v_56 (x0 + 1) d))) x0 6 = d x0 6 from (k2_2).trans (mset_ni (by omega))) (show (g_32 x0 1 (mset d x0 5 (v_56 (x0 + 1) d))) (x0 + 4) 2 = d (x0 + 4) 2 from (k2_3).trans (congrFun (mset_ne (by omega)) 2)) (show (v_32 x0 1 (mset d x0 5 (v_56 (x0 + 1) d))) = 0 ∨ (0 ≤ (g_32 x0 1 (mset d x0 5 (v_56 (x0 + 1) d))) x0 5 ∧ ¬ v_56 (x0 + 1) d = -1) by omega) hS3
def v_27 (x0 : Int) (d : mD) : Int := if v_56 (x0 + 1) (mset d x0 6 (v_48 (x0 + 4 + 10) (v_56 (x0 + 1) d) d)) = (-1) then v_26 x0 (mset d x0 6 (v_48 (x0 + 4 + 10) (v_56 (x0 + 1) d) d)) else if v_48 (x0 + 4 + 10) (v_56 (x0 + 1) d) d = (-1) then v_32 x0 4 (mset d x0 6 (v_48 (x0 + 4 + 10) (v_56 (x0 + 1) d) d)) else v_26 x0 (mset d x0 6 (v_48 (x0 + 4 + 10) (v_56 (x0 + 1) d) d))
def g_27 (x0 : Int) (d : mD) : mD := if v_56 (x0 + 1) (mset d x0 6 (v_48 (x0 + 4 + 10) (v_56 (x0 + 1) d) d)) = (-1) then g_26 x0 (mset d x0 6 (v_48 (x0 + 4 + 10) (v_56 (x0 + 1) d) d)) else if v_48 (x0 + 4 + 10) (v_56 (x0 + 1) d) d = (-1) then g_32 x0 4 (mset d x0 6 (v_48 (x0 + 4 + 10) (v_56 (x0 + 1) d) d)) else g_26 x0 (mset d x0 6 (v_48 (x0 + 4 + 10) (v_56 (x0 + 1) d) d))
theorem k_27 {E : mO × tW} {K : tK} {d : mD} {x0 : Int} (hS : Safe d) (hx0 : ldB x0) (h : (0 ≤ (v_27 x0 d) ∧ (v_27 x0 d) ≤ 1) → (∀ b : Int, (b < x0 ∨ x0 + 1 < b) → (g_27 x0 d) b = d b) → (g_27 x0 d) x0 4 = d x0 4 → (g_27 x0 d) (x0 + 4) 2 = d (x0 + 4) 2 → ((v_27 x0 d) = 0 ∨ (0 ≤ (g_27 x0 d) x0 6 ∧ (g_27 x0 d) x0 6 ≤ 15)) → Safe (g_27 x0 d) → K (.inl (some (0, (v_27 x0 d)))) (g_27 x0 d)) : tCall E 27 [.inr (2, x0)] d K := by
  refine t_27_0 ?_
  have w8 := r_5_f2 hS (ldB.re hx0)
  refine k_56 hS (ldB.re hx0) (fun e1 => ?_)
  refine t_27_15 ?_
  have w8 := r_5_f2 hS (ldB.re hx0)
  refine k_48 hS (stB.pe (ldB.st hx0)) (m_inR (by omega) (by omega)) (fun e2 => ?_)
  refine t_27_18 ?_
  have w8 := r_5_f2 hS (ldB.re hx0)
  have hS1 : Safe (mset d x0 6 (v_48 (x0 + 4 + 10) (v_56 (x0 + 1) d) d)) := s_2_f6 hS hx0 (by omega)
  refine k_56 hS1 (ldB.re hx0) (fun e3 => ?_)
  refine t_27_28 ?_
  have w8 := r_5_f2 hS1 (ldB.re hx0)
  refine ⟨⟨m_inR (by omega) (by omega), m_inR (by omega) (by omega)⟩, fun c0 => ?_, fun c0 => ?_⟩
  · refine k_26 hS1 hx0 (fun e4 F1 k1_0 k1_1 k1_2 n1_0 hS2 => ?_)
    refine t_27_50 ?_
    have w8 := r_5_f2 hS2 (ldB.re hx0)
    refine ⟨by omega, ?_⟩
    have q1 : (g_26 x0 (mset d x0 6 (v_48 (x0 + 4 + 10) (v_56 (x0 + 1) d) d))) x0 6 = v_48 (x0 + 4 + 10) (v_56 (x0 + 1) d) d := (k1_1).trans (mset_eq)
    have y0 : v_27 x0 d = v_26 x0 (mset d x0 6 (v_48 (x0 + 4 + 10) (v_56 (x0 + 1) d) d)) := by simp only [v_27, if_pos (show v_56 (x0 + 1) (mset d x0 6 (v_48 (x0 + 4 + 10) (v_56 (x0 + 1) d) d)) = (-1) from c0)]
    have y1 : g_27 x0 d = g_26 x0 (mset d x0 6 (v_48 (x0 + 4 + 10) (v_56 (x0 + 1) d) d)) := by simp only [g_27, if_pos (show v_56 (x0 + 1) (mset d x0 6 (v_48 (x0 + 4 + 10) (v_56 (x0 + 1) d) d)) = (-1) from c0)]
    rw [y0] at h
    rw [y1] at h
    exact h (show 0 ≤ (v_26 x0 (mset d x0 6 (v_48 (x0 + 4 + 10) (v_56 (x0 + 1) d) d))) ∧ (v_26 x0 (mset d x0 6 (v_48 (x0 + 4 + 10) (v_56 (x0 + 1) d) d))) ≤ 1 from (by omega)) (show ∀ b : Int, (b < x0 ∨ x0 + 1 < b) → (g_26 x0 (mset d x0 6 (v_48 (x0 + 4 + 10) (v_56 (x0 + 1) d) d))) b = d b from fun b hb => (F1 b (by omega)).trans (mset_ne (by omega))) (show (g_26 x0 (mset d x0 6 (v_48 (x0 + 4 + 10) (v_56 (x0 + 1) d) d))) x0 4 = d x0 4 from (k1_0).trans (mset_ni (by omega))) (show (g_26 x0 (mset d x0 6 (v_48 (x0 + 4 + 10) (v_56 (x0 + 1) d) d))) (x0 + 4) 2 = d (x0 + 4) 2 from (k1_2).trans (congrFun (mset_ne (by omega)) 2)) (show (v_26 x0 (mset d x0 6 (v_48 (x0 + 4 + 10) (v_56 (x0 + 1) d) d))) = 0 ∨ (0 ≤ (g_26 x0 (mset d x0 6 (v_48 (x0 + 4 + 10) (v_56 (x0 + 1) d) d))) x0 6 ∧ (g_26 x0 (mset d x0 6 (v_48 (x0 + 4 + 10) (v_56 (x0 + 1) d) d))) x0 6 ≤ 15) by omega) hS2
  · try rw [mset_eq (d := d) (a := x0) (i := (6 : Int)) (v := v_48 (x0 + 4 + 10) (v_56 (x0 + 1) d) d)]
    refine ⟨⟨m_inR (by omega) (by omega), m_inR (by omega) (by omega)⟩, fun c1 => ?_, fun c1 => ?_⟩
    · refine k_26 hS1 hx0 (fun e5 F2 k2_0 k2_1 k2_2 n2_0 hS3 => ?_)
      refine t_27_50 ?_
      have w8 := r_5_f2 hS3 (ldB.re hx0)
      refine ⟨by omega, ?_⟩
      have q2 : (g_26 x0 (mset d x0 6 (v_48 (x0 + 4 + 10) (v_56 (x0 + 1) d) d))) x0 6 = v_48 (x0 + 4 + 10) (v_56 (x0 + 1) d) d := (k2_1).trans (mset_eq)
      have y0 : v_27 x0 d = v_26 x0 (mset d x0 6 (v_48 (x0 + 4 + 10) (v_56 (x0 + 1) d) d)) := by simp only [v_27, if_neg (show ¬ v_56 (x0 + 1) (mset d x0 6 (v_48 (x0 + 4 + 10) (v_56 (x0 + 1) d) d)) = (-1) from c0), if_neg (show ¬ v_48 (x0 + 4 + 10) (v_56 (x0 + 1) d) d = (-1) from c1)]
      have y1 : g_27 x0 d = g_26 x0 (mset d x0 6 (v_48 (x0 + 4 + 10) (v_56 (x0 + 1) d) d)) := by simp only [g_27, if_neg (show ¬ v_56 (x0 + 1) (mset d x0 6 (v_48 (x0 + 4 + 10) (v_56 (x0 + 1) d) d)) = (-1) from c0), if_neg (show ¬ v_48 (x0 + 4 + 10) (v_56 (x0 + 1) d) d = (-1) from c1)]
      rw [y0] at h
      rw [y1] at h
      exact h (show 0 ≤ (v_26 x0 (mset d x0 6 (v_48 (x0 + 4 + 10) (v_56 (x0 + 1) d) d))) ∧ (v_26 x0 (mset d x0 6 (v_48 (x0 + 4 + 10) (v_56 (x0 + 1) d) d))) ≤ 1 from (by omega)) (show ∀ b : Int, (b < x0 ∨ x0 + 1 < b) → (g_26 x0 (mset d x0 6 (v_48 (x0 + 4 + 10) (v_56 (x0 + 1) d) d))) b = d b from fun b hb => (F2 b (by omega)).trans (mset_ne (by omega))) (show (g_26 x0 (mset d x0 6 (v_48 (x0 + 4 + 10) (v_56 (x0 + 1) d) d))) x0 4 = d x0 4 from (k2_0).trans (mset_ni (by omega))) (show (g_26 x0 (mset d x0 6 (v_48 (x0 + 4 + 10) (v_56 (x0 + 1) d) d))) (x0 + 4) 2 = d (x0 + 4) 2 from (k2_2).trans (congrFun (mset_ne (by omega)) 2)) (show (v_26 x0 (mset d x0 6 (v_48 (x0 + 4 + 10) (v_56 (x0 + 1) d) d))) = 0 ∨ (0 ≤ (g_26 x0 (mset d x0 6 (v_48 (x0 + 4 + 10) (v_56 (x0 + 1) d) d))) x0 6 ∧ (g_26 x0 (mset d x0 6 (v_48 (x0 + 4 + 10) (v_56 (x0 + 1) d) d))) x0 6 ≤ 15) by omega) hS3
    · refine k_32 hS1 hx0 (by omega) (fun e6 F3 k3_0 k3_1 k3_2 k3_3 n3_0 hS4 => ?_)
      refine t_27_45 ?_
      have w8 := r_5_f2 hS4 (ldB.re hx0)
      refine ⟨by omega, ?_⟩
      have q3 : (g_32 x0 4 (mset d x0 6 (v_48 (x0 + 4 + 10) (v_56 (x0 + 1) d) d))) x0 6 = v_48 (x0 + 4 + 10) (v_56 (x0 + 1) d) d := (k3_2).trans (mset_eq)
      have y0 : v_27 x0 d = v_32 x0 4 (mset d x0 6 (v_48 (x0 + 4 + 10) (v_56 (x0 + 1) d) d)) := by simp only [v_27, if_neg (show ¬ v_56 (x0 + 1) (mset d x0 6 (v_48 (x0 + 4 + 10) (v_56 (x0 + 1) d) d)) = (-1) from c0), if_pos (show v_48 (x0 + 4 + 10) (v_56 (x0 + 1) d) d = (-1) from c1)]
      have y1 : g_27 x0 d = g_32 x0 4 (mset d x0 6 (v_48 (x0 + 4 + 10) (v_56 (x0 + 1) d) d)) := by simp only [g_27, if_neg (show ¬ v_56 (x0 + 1) (mset d x0 6 (v_48 (x0 + 4 + 10) (v_56 (x0 + 1) d) d)) = (-1) from c0), if_pos (show v_48 (x0 + 4 + 10) (v_56 (x0 + 1) d) d = (-1) from c1)]
      rw [y0] at h
      rw [y1] at h
      exact h (show 0 ≤ (v_32 x0 4 (mset d x0 6 (v_48 (x0 + 4 + 10) (v_56 (x0 + 1) d) d))) ∧ (v_32 x0 4 (mset d x0 6 (v_48 (x0 + 4 + 10) (v_56 (x0 + 1) d) d))) ≤ 1 from (by omega)) (show ∀ b : Int, (b < x0 ∨ x0 + 1 < b) → (g_32 x0 4 (mset d x0 6 (v_48 (x0 + 4 + 10) (v_56 (x0 + 1) d) d))) b = d b from fun b hb => (F3 b (by omega)).trans (mset_ne (by omega))) (show (g_32 x0 4 (mset d x0 6 (v_48 (x0 + 4 + 10) (v_56 (x0 + 1) d) d))) x0 4 = d x0 4 from (k3_0).trans (mset_ni (by omega))) (show (g_32 x0 4 (mset d x0 6 (v_48 (x0 + 4 + 10) (v_56 (x0 + 1) d) d))) (x0 + 4) 2 = d (x0 + 4) 2 from (k3_3).trans (congrFun (mset_ne (by omega)) 2)) (show (v_32 x0 4 (mset d x0 6 (v_48 (x0 + 4 + 10) (v_56 (x0 + 1) d) d))) = 0 ∨ (0 ≤ (g_32 x0 4 (mset d x0 6 (v_48 (x0 + 4 + 10) (v_56 (x0 + 1) d) d))) x0 6 ∧ (g_32 x0 4 (mset d x0 6 (v_48 (x0 + 4 + 10) (v_56 (x0 + 1) d) d))) x0 6 ≤ 15) by omega) hS4
def v_28 (x0 : Int) (d : mD) : Int := if v_56 (x0 + 1) (mset d x0 6 (v_36 (x0 + 4 + 2) (v_56 (x0 + 1) d) d)) = (-1) then v_26 x0 (mset d x0 6 (v_36 (x0 + 4 + 2) (v_56 (x0 + 1) d) d)) else if v_36 (x0 + 4 + 2) (v_56 (x0 + 1) d) d = (-1) then v_32 x0 4 (mset d x0 6 (v_36 (x0 + 4 + 2) (v_56 (x0 + 1) d) d)) else v_26 x0 (mset d x0 6 (v_36 (x0 + 4 + 2) (v_56 (x0 + 1) d) d))
def g_28 (x0 : Int) (d : mD) : mD := if v_56 (x0 + 1) (mset d x0 6 (v_36 (x0 + 4 + 2) (v_56 (x0 + 1) d) d)) = (-1) then g_26 x0 (mset d x0 6 (v_36 (x0 + 4 + 2) (v_56 (x0 + 1) d) d)) else if v_36 (x0 + 4 + 2) (v_56 (x0 + 1) d) d = (-1) then g_32 x0 4 (mset d x0 6 (v_36 (x0 + 4 + 2) (v_56 (x0 + 1) d) d)) else g_26 x0 (mset d x0 6 (v_36 (x0 + 4 + 2) (v_56 (x0 + 1) d) d))
theorem k_28 {E : mO × tW} {K : tK} {d : mD} {x0 : Int} (hS : Safe d) (hx0 : ldB x0) (h : (0 ≤ (v_28 x0 d) ∧ (v_28 x0 d) ≤ 1) → (∀ b : Int, (b < x0 ∨ x0 + 1 < b) → (g_28 x0 d) b = d b) → (g_28 x0 d) x0 4 = d x0 4 → (g_28 x0 d) (x0 + 4) 2 = d (x0 + 4) 2 → ((v_28 x0 d) = 0 ∨ (0 ≤ (g_28 x0 d) x0 6 ∧ (g_28 x0 d) x0 6 ≤ 5)) → Safe (g_28 x0 d) → K (.inl (some (0, (v_28 x0 d)))) (g_28 x0 d)) : tCall E 28 [.inr (2, x0)] d K := by
  refine t_28_0 ?_
  have w8 := r_5_f2 hS (ldB.re hx0)
  refine k_56 hS (ldB.re hx0) (fun e1 => ?_)
  refine t_28_15 ?_
  have w8 := r_5_f2 hS (ldB.re hx0)
  refine k_36 hS (stB.of (ldB.st hx0)) (m_inR (by omega) (by omega)) (fun e2 => ?_)
  refine t_28_18 ?_
  have w8 := r_5_f2 hS (ldB.re hx0)
  have hS1 : Safe (mset d x0 6 (v_36 (x0 + 4 + 2) (v_56 (x0 + 1) d) d)) := s_2_f6 hS hx0 (by omega)
  refine k_56 hS1 (ldB.re hx0) (fun e3 => ?_)
  refine t_28_28 ?_
  have w8 := r_5_f2 hS1 (ldB.re hx0)
  refine ⟨⟨m_inR (by omega) (by omega), m_inR (by omega) (by omega)⟩, fun c0 => ?_, fun c0 => ?_⟩
  · refine k_26 hS1 hx0 (fun e4 F1 k1_0 k1_1 k1_2 n1_0 hS2 => ?_)
    refine t_28_50 ?_
    have w8 := r_5_f2 hS2 (ldB.re hx0)
    refine ⟨by omega, ?_⟩
    have q1 : (g_26 x0 (mset d x0 6 (v_36 (x0 + 4 + 2) (v_56 (x0 + 1) d) d))) x0 6 = v_36 (x0 + 4 + 2) (v_56 (x0 + 1) d) d := (k1_1).trans (mset_eq)
    have y0 : v_28 x0 d = v_26 x0 (mset d x0 6 (v_36 (x0 + 4 + 2) (v_56 (x0 + 1) d) d)) := by simp only [v_28, if_pos (show v_56 (x0 + 1) (mset d x0 6 (v_36 (x0 + 4 + 2) (v_56 (x0 + 1) d) d)) = (-1) from c0)]
    have y1 : g_28 x0 d = g_26 x0 (mset d x0 6 (v_36 (x0 + 4 + 2) (v_56 (x0 + 1) d) d)) := by simp only [g_28, if_pos (show v_56 (x0 + 1) (mset d x0 6 (v_36 (x0 + 4 + 2) (v_56 (x0 + 1) d) d)) = (-1) from c0)]
    rw [y0] at h
    rw [y1] at h
    exact h (show 0 ≤ (v_26 x0 (mset d x0 6 (v_36 (x0 + 4 + 2) (v_56 (x0 + 1) d) d))) ∧ (v_26 x0 (mset d x0 6 (v_36 (x0 + 4 + 2) (v_56 (x0 + 1) d) d))) ≤ 1 from (by omega)) (show ∀ b : Int, (b < x0 ∨ x0 + 1 < b) → (g_26 x0 (mset d x0 6 (v_36 (x0 + 4 + 2) (v_56 (x0 + 1) d) d))) b = d b from fun b hb => (F1 b (by omega)).trans (mset_ne (by omega))) (show (g_26 x0 (mset d x0 6 (v_36 (x0 + 4 + 2) (v_56 (x0 + 1) d) d))) x0 4 = d x0 4 from (k1_0).trans (mset_ni (by omega))) (show (g_26 x0 (mset d x0 6 (v_36 (x0 + 4 + 2) (v_56 (x0 + 1) d) d))) (x0 + 4) 2 = d (x0 + 4) 2 from (k1_2).trans (congrFun (mset_ne (by omega)) 2)) (show (v_26 x0 (mset d x0 6 (v_36 (x0 + 4 + 2) (v_56 (x0 + 1) d) d))) = 0 ∨ (0 ≤ (g_26 x0 (mset d x0 6 (v_36 (x0 + 4 + 2) (v_56 (x0 + 1) d) d))) x0 6 ∧ (g_26 x0 (mset d x0 6 (v_36 (x0 + 4 + 2) (v_56 (x0 + 1) d) d))) x0 6 ≤ 5) by omega) hS2
  · try rw [mset_eq (d := d) (a := x0) (i := (6 : Int)) (v := v_36 (x0 + 4 + 2) (v_56 (x0 + 1) d) d)]
    refine ⟨⟨m_inR (by omega) (by omega), m_inR (by omega) (by omega)⟩, fun c1 => ?_, fun c1 => ?_⟩
    · refine k_26 hS1 hx0 (fun e5 F2 k2_0 k2_1 k2_2 n2_0 hS3 => ?_)
      refine t_28_50 ?_
      have w8 := r_5_f2 hS3 (ldB.re hx0)
      refine ⟨by omega, ?_⟩
      have q2 : (g_26 x0 (mset d x0 6 (v_36 (x0 + 4 + 2) (v_56 (x0 + 1) d) d))) x0 6 = v_36 (x0 + 4 + 2) (v_56 (x0 + 1) d) d := (k2_1).trans (mset_eq)
      have y0 : v_28 x0 d = v_26 x0 (mset d x0 6 (v_36 (x0 + 4 + 2) (v_56 (x0 + 1) d) d)) := by simp only [v_28, if_neg (show ¬ v_56 (x0 + 1) (mset d x0 6 (v_36 (x0 + 4 + 2) (v_56 (x0 + 1) d) d)) = (-1) from c0), if_neg (show ¬ v_36 (x0 + 4 + 2) (v_56 (x0 + 1) d) d = (-1) from c1)]
      have y1 : g_28 x0 d = g_26 x0 (mset d x0 6 (v_36 (x0 + 4 + 2) (v_56 (x0 + 1) d) d)) := by simp only [g_28, if_neg (show ¬ v_56 (x0 + 1) (mset d x0 6 (v_36 (x0 + 4 + 2) (v_56 (x0 + 1) d) d)) = (-1) from c0), if_neg (show ¬ v_36 (x0 + 4 + 2) (v_56 (x0 + 1) d) d = (-1) from c1)]
      rw [y0] at h
      rw [y1] at h
      exact h (show 0 ≤ (v_26 x0 (mset d x0 6 (v_36 (x0 + 4 + 2) (v_56 (x0 + 1) d) d))) ∧ (v_26 x0 (mset d x0 6 (v_36 (x0 + 4 + 2) (v_56 (x0 + 1) d) d))) ≤ 1 from (by omega)) (show ∀ b : Int, (b < x0 ∨ x0 + 1 < b) → (g_26 x0 (mset d x0 6 (v_36 (x0 + 4 + 2) (v_56 (x0 + 1) d) d))) b = d b from fun b hb => (F2 b (by omega)).trans (mset_ne (by omega))) (show (g_26 x0 (mset d x0 6 (v_36 (x0 + 4 + 2) (v_56 (x0 + 1) d) d))) x0 4 = d x0 4 from (k2_0).trans (mset_ni (by omega))) (show (g_26 x0 (mset d x0 6 (v_36 (x0 + 4 + 2) (v_56 (x0 + 1) d) d))) (x0 + 4) 2 = d (x0 + 4) 2 from (k2_2).trans (congrFun (mset_ne (by omega)) 2)) (show (v_26 x0 (mset d x0 6 (v_36 (x0 + 4 + 2) (v_56 (x0 + 1) d) d))) = 0 ∨ (0 ≤ (g_26 x0 (mset d x0 6 (v_36 (x0 + 4 + 2) (v_56 (x0 + 1) d) d))) x0 6 ∧ (g_26 x0 (mset d x0 6 (v_36 (x0 + 4 + 2) (v_56 (x0 + 1) d) d))) x0 6 ≤ 5) by omega) hS3
    · refine k_32 hS1 hx0 (by omega) (fun e6 F3 k3_0 k3_1 k3_2 k3_3 n3_0 hS4 => ?_)
      refine t_28_45 ?_
      have w8 := r_5_f2 hS4 (ldB.re hx0)
      refine ⟨by omega, ?_⟩
      have q3 : (g_32 x0 4 (mset d x0 6 (v_36 (x0 + 4 + 2) (v_56 (x0 + 1) d) d))) x0 6 = v_36 (x0 + 4 + 2) (v_56 (x0 + 1) d) d := (k3_2).trans (mset_eq)
      have y0 : v_28 x0 d = v_32 x0 4 (mset d x0 6 (v_36 (x0 + 4 + 2) (v_56 (x0 + 1) d) d)) := by simp only [v_28, if_neg (show ¬ v_56 (x0 + 1) (mset d x0 6 (v_36 (x0 + 4 + 2) (v_56 (x0 + 1) d) d)) = (-1) from c0), if_pos (show v_36 (x0 + 4 + 2) (v_56 (x0 + 1) d) d = (-1) from c1)]
      have y1 : g_28 x0 d = g_32 x0 4 (mset d x0 6 (v_36 (x0 + 4 + 2) (v_56 (x0 + 1) d) d)) := by simp only [g_28, if_neg (show ¬ v_56 (x0 + 1) (mset d x0 6 (v_36 (x0 + 4 + 2) (v_56 (x0 + 1) d) d)) = (-1) from c0), if_pos (show v_36 (x0 + 4 + 2) (v_56 (x0 + 1) d) d = (-1) from c1)]
      rw [y0] at h
      rw [y1] at h
      exact h (show 0 ≤ (v_32 x0 4 (mset d x0 6 (v_36 (x0 + 4 + 2) (v_56 (x0 + 1) d) d))) ∧ (v_32 x0 4 (mset d x0 6 (v_36 (x0 + 4 + 2) (v_56 (x0 + 1) d) d))) ≤ 1 from (by omega)) (show ∀ b : Int, (b < x0 ∨ x0 + 1 < b) → (g_32 x0 4 (mset d x0 6 (v_36 (x0 + 4 + 2) (v_56 (x0 + 1) d) d))) b = d b from fun b hb => (F3 b (by omega)).trans (mset_ne (by omega))) (show (g_32 x0 4 (mset d x0 6 (v_36 (x0 + 4 + 2) (v_56 (x0 + 1) d) d))) x0 4 = d x0 4 from (k3_0).trans (mset_ni (by omega))) (show (g_32 x0 4 (mset d x0 6 (v_36 (x0 + 4 + 2) (v_56 (x0 + 1) d) d))) (x0 + 4) 2 = d (x0 + 4) 2 from (k3_3).trans (congrFun (mset_ne (by omega)) 2)) (show (v_32 x0 4 (mset d x0 6 (v_36 (x0 + 4 + 2) (v_56 (x0 + 1) d) d))) = 0 ∨ (0 ≤ (g_32 x0 4 (mset d x0 6 (v_36 (x0 + 4 + 2) (v_56 (x0 + 1) d) d))) x0 6 ∧ (g_32 x0 4 (mset d x0 6 (v_36 (x0 + 4 + 2) (v_56 (x0 + 1) d) d))) x0 6 ≤ 5) by omega) hS4
def v_29 (x0 : Int) (d : mD) : Int := if v_48 (x0 + 4 + 10) (v_56 (x0 + 1) d) d = (-1) then (if v_56 (x0 + 1) (mset d x0 6 ((-1))) = (-1) then v_26 x0 (mset d x0 6 ((-1))) else v_32 x0 4 (mset d x0 6 ((-1)))) else if v_56 (x0 + 1) (mset d x0 6 (v_100 (x0 + 4 + 49) (v_48 (x0 + 4 + 10) (v_56 (x0 + 1) d) d) d)) = (-1) then v_26 x0 (mset d x0 6 (v_100 (x0 + 4 + 49) (v_48 (x0 + 4 + 10) (v_56 (x0 + 1) d) d) d)) else if v_100 (x0 + 4 + 49) (v_48 (x0 + 4 + 10) (v_56 (x0 + 1) d) d) d = (-1) then v_32 x0 4 (mset d x0 6 (v_100 (x0 + 4 + 49) (v_48 (x0 + 4 + 10) (v_56 (x0 + 1) d) d) d)) else v_26 x0 (mset d x0 6 (v_100 (x0 + 4 + 49) (v_48 (x0 + 4 + 10) (v_56 (x0 + 1) d) d) d))
def g_29 (x0 : Int) (d : mD) : mD := if v_48 (x0 + 4 + 10) (v_56 (x0 + 1) d) d = (-1) then (if v_56 (x0 + 1) (mset d x0 6 ((-1))) = (-1) then g_26 x0 (mset d x0 6 ((-1))) else g_32 x0 4 (mset d x0 6 ((-1)))) else if v_56 (x0 + 1) (mset d x0 6 (v_100 (x0 + 4 + 49) (v_48 (x0 + 4 + 10) (v_56 (x0 + 1) d) d) d)) = (-1) then g_26 x0 (mset d x0 6 (v_100 (x0 + 4 + 49) (v_48 (x0 + 4 + 10) (v_56 (x0 + 1) d) d) d)) else if v_100 (x0 + 4 + 49) (v_48 (x0 + 4 + 10) (v_56 (x0 + 1) d) d) d = (-1) then g_32 x0 4 (mset d x0 6 (v_100 (x0 + 4 + 49) (v_48 (x0 + 4 + 10) (v_56 (x0 + 1) d) d) d)) else g_26 x0 (mset d x0 6 (v_100 (x0 + 4 + 49) (v_48 (x0 + 4 + 10) (v_56 (x0 + 1) d) d) d))
theorem k_29 {E : mO × tW} {K : tK} {d : mD} {x0 : Int} (hS : Safe d) (hx0 : ldB x0) (h : (0 ≤ (v_29 x0 d) ∧ (v_29 x0 d) ≤ 1) → (∀ b : Int, (b < x0 ∨ x0 + 1 < b) → (g_29 x0 d) b = d b) → (g_29 x0 d) x0 4 = d x0 4 → (g_29 x0 d) (x0 + 4) 2 = d (x0 + 4) 2 → ((v_29 x0 d) = 0 ∨ (0 ≤ (g_29 x0 d) x0 6 ∧ (g_29 x0 d) x0 6 ≤ 59)) → Safe (g_29 x0 d) → K (.inl (some (0, (v_29 x0 d)))) (g_29 x0 d)) : tCall E 29 [.inr (2, x0)] d K := by
  refine t_29_0 ?_
  have w8 := r_5_f2 hS (ldB.re hx0)
  refine k_56 hS (ldB.re hx0) (fun e1 => ?_)
  refine t_29_14 ?_
  have w8 := r_5_f2 hS (ldB.re hx0)
  refine k_48 hS (stB.pe (ldB.st hx0)) (m_inR (by omega) (by omega)) (fun e2 => ?_)
  refine t_29_17 ?_
  have w8 := r_5_f2 hS (ldB.re hx0)
  refine ⟨⟨m_inR (by omega) (by omega), m_inR (by omega) (by omega)⟩, fun c0 => ?_, fun c0 => ?_⟩
  · refine k_100 hS (stB.ti (ldB.st hx0)) (m_inR (by omega) (by omega)) (fun e3 => ?_)
    refine t_29_39 ?_
    have w8 := r_5_f2 hS (ldB.re hx0)
    have hS1 : Safe (mset d x0 6 (v_100 (x0 + 4 + 49) (v_48 (x0 + 4 + 10) (v_56 (x0 + 1) d) d) d)) := s_2_f6 hS hx0 (by omega)
    refine k_56 hS1 (ldB.re hx0) (fun e4 => ?_)
    refine t_29_49 ?_
    have w8 := r_5_f2 hS1 (ldB.re hx0)
    refine ⟨⟨m_inR (by omega) (by omega), m_inR (by omega) (by omega)⟩, fun c1 => ?_, fun c1 => ?_⟩
    · refine k_26 hS1 hx0 (fun e5 F1 k1_0 k1_1 k1_2 n1_0 hS2 => ?_)
      refine t_29_71 ?_
      have w8 := r_5_f2 hS2 (ldB.re hx0)
      refine ⟨by omega, ?_⟩
      have q1 : (g_26 x0 (mset d x0 6 (v_100 (x0 + 4 + 49) (v_48 (x0 + 4 + 10) (v_56 (x0 + 1) d) d) d))) x0 6 = v_100 (x0 + 4 + 49) (v_48 (x0 + 4 + 10) (v_56 (x0 + 1) d) d) d := (k1_1).trans (mset_eq)
      have y0 : v_29 x0 d = v_26 x0 (mset d x0 6 (v_100 (x0 + 4 + 49) (v_48 (x0 + 4 + 10) (v_56 (x0 + 1) d) d) d)) := by simp only [v_29, if_neg (show ¬ v_48 (x0 + 4 + 10) (v_56 (x0 + 1) d) d = (-1) from c0), if_pos (show v_56 (x0 + 1) (mset d x0 6 (v_100 (x0 + 4 + 49) (v_48 (x0 + 4 + 10) (v_56 (x0 + 1) d) d) d)) = (-1) from c1)]
      have y1 : g_29 x0 d = g_26 x0 (mset d x0 6 (v_100 (x0 + 4 + 49) (v_48 (x0 + 4 + 10) (v_56 (x0 + 1) d) d) d)) := by simp only [g_29, if_neg (show ¬ v_48 (x0 + 4 + 10) (v_56 (x0 + 1) d) d = (-1) from c0), if_pos (show v_56 (x0 + 1) (mset d x0 6 (v_100 (x0 + 4 + 49) (v_48 (x0 + 4 + 10) (v_56 (x0 + 1) d) d) d)) = (-1) from c1)]
      rw [y0] at h
      rw [y1] at h
      exact h (show 0 ≤ (v_26 x0 (mset d x0 6 (v_100 (x0 + 4 + 49) (v_48 (x0 + 4 + 10) (v_56 (x0 + 1) d) d) d))) ∧ (v_26 x0 (mset d x0 6 (v_100 (x0 + 4 + 49) (v_48 (x0 + 4 + 10) (v_56 (x0 + 1) d) d) d))) ≤ 1 from (by omega)) (show ∀ b : Int, (b < x0 ∨ x0 + 1 < b) → (g_26 x0 (mset d x0 6 (v_100 (x0 + 4 + 49) (v_48 (x0 + 4 + 10) (v_56 (x0 + 1) d) d) d))) b = d b from fun b hb => (F1 b (by omega)).trans (mset_ne (by omega))) (show (g_26 x0 (mset d x0 6 (v_100 (x0 + 4 + 49) (v_48 (x0 + 4 + 10) (v_56 (x0 + 1) d) d) d))) x0 4 = d x0 4 from (k1_0).trans (mset_ni (by omega))) (show (g_26 x0 (mset d x0 6 (v_100 (x0 + 4 + 49) (v_48 (x0 + 4 + 10) (v_56 (x0 + 1) d) d) d))) (x0 + 4) 2 = d (x0 + 4) 2 from (k1_2).trans (congrFun (mset_ne (by omega)) 2)) (show (v_26 x0 (mset d x0 6 (v_100 (x0 + 4 + 49) (v_48 (x0 + 4 + 10) (v_56 (x0 + 1) d) d) d))) = 0 ∨ (0 ≤ (g_26 x0 (mset d x0 6 (v_100 (x0 + 4 + 49) (v_48 (x0 + 4 + 10) (v_56 (x0 + 1) d) d) d))) x0 6 ∧ (g_26 x0 (mset d x0 6 (v_100 (x0 + 4 + 49) (v_48 (x0 + 4 + 10) (v_56 (x0 + 1) d) d) d))) x0 6 ≤ 59) by omega) hS2
    · try rw [mset_eq (d := d) (a := x0) (i := (6 : Int)) (v := v_100 (x0 + 4 + 49) (v_48 (x0 + 4 + 10) (v_56 (x0 + 1) d) d) d)]
      refine ⟨⟨m_inR (by omega) (by omega), m_inR (by omega) (by omega)⟩, fun c2 => ?_, fun c2 => ?_⟩
      · refine k_26 hS1 hx0 (fun e6 F2 k2_0 k2_1 k2_2 n2_0 hS3 => ?_)
        refine t_29_71 ?_
        have w8 := r_5_f2 hS3 (ldB.re hx0)
        refine ⟨by omega, ?_⟩
        have q2 : (g_26 x0 (mset d x0 6 (v_100 (x0 + 4 + 49) (v_48 (x0 + 4 + 10) (v_56 (x0 + 1) d) d) d))) x0 6 = v_100 (x0 + 4 + 49) (v_48 (x0 + 4 + 10) (v_56 (x0 + 1) d) d) d := (k2_1).trans (mset_eq)
        have y0 : v_29 x0 d = v_26 x0 (mset d x0 6 (v_100 (x0 + 4 + 49) (v_48 (x0 + 4 + 10) (v_56 (x0 + 1) d) d) d)) := by simp only [v_29, if_neg (show ¬ v_48 (x0 + 4 + 10) (v_56 (x0 + 1) d) d = (-1) from c0), if_neg (show ¬ v_56 (x0 + 1) (mset d x0 6 (v_100 (x0 + 4 + 49) (v_48 (x0 + 4 + 10) (v_56 (x0 + 1) d) d) d)) = (-1) from c1), if_neg (show ¬ v_100 (x0 + 4 + 49) (v_48 (x0 + 4 + 10) (v_56 (x0 + 1) d) d) d = (-1) from c2)]
        have y1 : g_29 x0 d = g_26 x0 (mset d x0 6 (v_100 (x0 + 4 + 49) (v_48 (x0 + 4 + 10) (v_56 (x0 + 1) d) d) d)) := by simp only [g_29, if_neg (show ¬ v_48 (x0 + 4 + 10) (v_56 (x0 + 1) d) d = (-1) from c0), if_neg (show ¬ v_56 (x0 + 1) (mset d x0 6 (v_100 (x0 + 4 + 49) (v_48 (x0 + 4 + 10) (v_56 (x0 + 1) d) d) d)) = (-1) from c1), if_neg (show ¬ v_100 (x0 + 4 + 49) (v_48 (x0 + 4 + 10) (v_56 (x0 + 1) d) d) d = (-1) from c2)]
        rw [y0] at h
        rw [y1] at h
        exact h (show 0 ≤ (v_26 x0 (mset d x0 6 (v_100 (x0 + 4 + 49) (v_48 (x0 + 4 + 10) (v_56 (x0 + 1) d) d) d))) ∧ (v_26 x0 (mset d x0 6 (v_100 (x0 + 4 + 49) (v_48 (x0 + 4 + 10) (v_56 (x0 + 1) d) d) d))) ≤ 1 from (by omega)) (show ∀ b : Int, (b < x0 ∨ x0 + 1 < b) → (g_26 x0 (mset d x0 6 (v_100 (x0 + 4 + 49) (v_48 (x0 + 4 + 10) (v_56 (x0 + 1) d) d) d))) b = d b from fun b hb => (F2 b (by omega)).trans (mset_ne (by omega))) (show (g_26 x0 (mset d x0 6 (v_100 (x0 + 4 + 49) (v_48 (x0 + 4 + 10) (v_56 (x0 + 1) d) d) d))) x0 4 = d x0 4 from (k2_0).trans (mset_ni (by omega))) (show (g_26 x0 (mset d x0 6 (v_100 (x0 + 4 + 49) (v_48 (x0 + 4 + 10) (v_56 (x0 + 1) d) d) d))) (x0 + 4) 2 = d (x0 + 4) 2 from (k2_2).trans (congrFun (mset_ne (by omega)) 2)) (show (v_26 x0 (mset d x0 6 (v_100 (x0 + 4 + 49) (v_48 (x0 + 4 + 10) (v_56 (x0 + 1) d) d) d))) = 0 ∨ (0 ≤ (g_26 x0 (mset d x0 6 (v_100 (x0 + 4 + 49) (v_48 (x0 + 4 + 10) (v_56 (x0 + 1) d) d) d))) x0 6 ∧ (g_26 x0 (mset d x0 6 (v_100 (x0 + 4 + 49) (v_48 (x0 + 4 + 10) (v_56 (x0 + 1) d) d) d))) x0 6 ≤ 59) by omega) hS3
      · refine k_32 hS1 hx0 (by omega) (fun e7 F3 k3_0 k3_1 k3_2 k3_3 n3_0 hS4 => ?_)
        refine t_29_66 ?_
        have w8 := r_5_f2 hS4 (ldB.re hx0)
        refine ⟨by omega, ?_⟩
        have q3 : (g_32 x0 4 (mset d x0 6 (v_100 (x0 + 4 + 49) (v_48 (x0 + 4 + 10) (v_56 (x0 + 1) d) d) d))) x0 6 = v_100 (x0 + 4 + 49) (v_48 (x0 + 4 + 10) (v_56 (x0 + 1) d) d) d := (k3_2).trans (mset_eq)
        have y0 : v_29 x0 d = v_32 x0 4 (mset d x0 6 (v_100 (x0 + 4 + 49) (v_48 (x0 + 4 + 10) (v_56 (x0 + 1) d) d) d)) := by simp only [v_29, if_neg (show ¬ v_48 (x0 + 4 + 10) (v_56 (x0 + 1) d) d = (-1) from c0), if_neg (show ¬ v_56 (x0 + 1) (mset d x0 6 (v_100 (x0 + 4 + 49) (v_48 (x0 + 4 + 10) (v_56 (x0 + 1) d) d) d)) = (-1) from c1), if_pos (show v_100 (x0 + 4 + 49) (v_48 (x0 + 4 + 10) (v_56 (x0 + 1) d) d) d = (-1) from c2)]
        have y1 : g_29 x0 d = g_32 x0 4 (mset d x0 6 (v_100 (x0 + 4 + 49) (v_48 (x0 + 4 + 10) (v_56 (x0 + 1) d) d) d)) := by simp only [g_29, if_neg (show ¬ v_48 (x0 + 4 + 10) (v_56 (x0 + 1) d) d = (-1) from c0), if_neg (show ¬ v_56 (x0 + 1) (mset d x0 6 (v_100 (x0 + 4 + 49) (v_48 (x0 + 4 + 10) (v_56 (x0 + 1) d) d) d)) = (-1) from c1), if_pos (show v_100 (x0 + 4 + 49) (v_48 (x0 + 4 + 10) (v_56 (x0 + 1) d) d) d = (-1) from c2)]
        rw [y0] at h
        rw [y1] at h
        exact h (show 0 ≤ (v_32 x0 4 (mset d x0 6 (v_100 (x0 + 4 + 49) (v_48 (x0 + 4 + 10) (v_56 (x0 + 1) d) d) d))) ∧ (v_32 x0 4 (mset d x0 6 (v_100 (x0 + 4 + 49) (v_48 (x0 + 4 + 10) (v_56 (x0 + 1) d) d) d))) ≤ 1 from (by omega)) (show ∀ b : Int, (b < x0 ∨ x0 + 1 < b) → (g_32 x0 4 (mset d x0 6 (v_100 (x0 + 4 + 49) (v_48 (x0 + 4 + 10) (v_56 (x0 + 1) d) d) d))) b = d b from fun b hb => (F3 b (by omega)).trans (mset_ne (by omega))) (show (g_32 x0 4 (mset d x0 6 (v_100 (x0 + 4 + 49) (v_48 (x0 + 4 + 10) (v_56 (x0 + 1) d) d) d))) x0 4 = d x0 4 from (k3_0).trans (mset_ni (by omega))) (show (g_32 x0 4 (mset d x0 6 (v_100 (x0 + 4 + 49) (v_48 (x0 + 4 + 10) (v_56 (x0 + 1) d) d) d))) (x0 + 4) 2 = d (x0 + 4) 2 from (k3_3).trans (congrFun (mset_ne (by omega)) 2)) (show (v_32 x0 4 (mset d x0 6 (v_100 (x0 + 4 + 49) (v_48 (x0 + 4 + 10) (v_56 (x0 + 1) d) d) d))) = 0 ∨ (0 ≤ (g_32 x0 4 (mset d x0 6 (v_100 (x0 + 4 + 49) (v_48 (x0 + 4 + 10) (v_56 (x0 + 1) d) d) d))) x0 6 ∧ (g_32 x0 4 (mset d x0 6 (v_100 (x0 + 4 + 49) (v_48 (x0 + 4 + 10) (v_56 (x0 + 1) d) d) d))) x0 6 ≤ 59) by omega) hS4
  · refine t_29_39 ?_
    have w8 := r_5_f2 hS (ldB.re hx0)
    have hS5 : Safe (mset d x0 6 ((-1))) := s_2_f6 hS hx0 (by omega)
    refine k_56 hS5 (ldB.re hx0) (fun e8 => ?_)
    refine t_29_49 ?_
    have w8 := r_5_f2 hS5 (ldB.re hx0)
    refine ⟨⟨m_inR (by omega) (by omega), m_inR (by omega) (by omega)⟩, fun c1 => ?_, fun c1 => ?_⟩
    · refine k_26 hS5 hx0 (fun e9 F4 k4_0 k4_1 k4_2 n4_0 hS6 => ?_)
      refine t_29_71 ?_
      have w8 := r_5_f2 hS6 (ldB.re hx0)
      refine ⟨by omega, ?_⟩
      have q4 : (g_26 x0 (mset d x0 6 ((-1)))) x0 6 = (-1) := (k4_1).trans (mset_eq)
      have y0 : v_29 x0 d = v_26 x0 (mset d x0 6 ((-1))) := by simp only [v_29, if_pos (show v_48 (x0 + 4 + 10) (v_56 (x0 + 1) d) d = (-1) from c0), if_pos (show v_56 (x0 + 1) (mset d x0 6 ((-1))) = (-1) from c1)]
      have y1 : g_29 x0 d = g_26 x0 (mset d x0 6 ((-1))) := by simp only [g_29, if_pos (show v_48 (x0 + 4 + 10) (v_56 (x0 + 1) d) d = (-1) from c0), if_pos (show v_56 (x0 + 1) (mset d x0 6 ((-1))) = (-1) from c1)]
      rw [y0] at h
      rw [y1] at h
      exact h (show 0 ≤ (v_26 x0 (mset d x0 6 ((-1)))) ∧ (v_26 x0 (mset d x0 6 ((-1)))) ≤ 1 from (by omega)) (show ∀ b : Int, (b < x0 ∨ x0 + 1 < b) → (g_26 x0 (mset d x0 6 ((-1)))) b = d b from fun b hb => (F4 b (by omega)).trans (mset_ne (by omega))) (show (g_26 x0 (mset d x0 6 ((-1)))) x0 4 = d x0 4 from (k4_0).trans (mset_ni (by omega))) (show (g_26 x0 (mset d x0 6 ((-1)))) (x0 + 4) 2 = d (x0 + 4) 2 from (k4_2).trans (congrFun (mset_ne (by omega)) 2)) (show (v_26 x0 (mset d x0 6 ((-1)))) = 0 ∨ (0 ≤ (g_26 x0 (mset d x0 6 ((-1)))) x0 6 ∧ (g_26 x0 (mset d x0 6 ((-1)))) x0 6 ≤ 59) by omega) hS6
    · try rw [mset_eq (d := d) (a := x0) (i := (6 : Int)) (v := (-1 : Int))]
      refine ⟨⟨m_inR (by omega) (by omega), m_inR (by omega) (by omega)⟩, fun c2 => ?_, fun c2 => ?_⟩
      · exact (show False by omega).elim
      · refine k_32 hS5 hx0 (by omega) (fun e10 F5 k5_0 k5_1 k5_2 k5_3 n5_0 hS7 => ?_)
        refine t_29_66 ?_
        have w8 := r_5_f2 hS7 (ldB.re hx0)
        refine ⟨by omega, ?_⟩
        have q5 : (g_32 x0 4 (mset d x0 6 ((-1)))) x0 6 = (-1) := (k5_2).trans (mset_eq)
        have y0 : v_29 x0 d = v_32 x0 4 (mset d x0 6 ((-1))) := by simp only [v_29, if_pos (show v_48 (x0 + 4 + 10) (v_56 (x0 + 1) d) d = (-1) from c0), if_neg (show ¬ v_56 (x0 + 1) (mset d x0 6 ((-1))) = (-1) from c1), if_pos (show (-1 : Int) = (-1) from c2)]
        have y1 : g_29 x0 d = g_32 x0 4 (mset d x0 6 ((-1))) := by simp only [g_29, if_pos (show v_48 (x0 + 4 + 10) (v_56 (x0 + 1) d) d = (-1) from c0), if_neg (show ¬ v_56 (x0 + 1) (mset d x0 6 ((-1))) = (-1) from c1), if_pos (show (-1 : Int) = (-1) from c2)]
        rw [y0] at h
        rw [y1] at h
        exact h (show 0 ≤ (v_32 x0 4 (mset d x0 6 ((-1)))) ∧ (v_32 x0 4 (mset d x0 6 ((-1)))) ≤ 1 from (by omega)) (show ∀ b : Int, (b < x0 ∨ x0 + 1 < b) → (g_32 x0 4 (mset d x0 6 ((-1)))) b = d b from fun b hb => (F5 b (by omega)).trans (mset_ne (by omega))) (show (g_32 x0 4 (mset d x0 6 ((-1)))) x0 4 = d x0 4 from (k5_0).trans (mset_ni (by omega))) (show (g_32 x0 4 (mset d x0 6 ((-1)))) (x0 + 4) 2 = d (x0 + 4) 2 from (k5_3).trans (congrFun (mset_ne (by omega)) 2)) (show (v_32 x0 4 (mset d x0 6 ((-1)))) = 0 ∨ (0 ≤ (g_32 x0 4 (mset d x0 6 ((-1)))) x0 6 ∧ (g_32 x0 4 (mset d x0 6 ((-1)))) x0 6 ≤ 59) by omega) hS7
