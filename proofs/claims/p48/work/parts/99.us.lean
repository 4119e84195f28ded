/-! ===== contracts once more, with the queues of living offices alone: printed by a program of mine ===== -/
def qoP (f : Int → Int) : Prop := ∀ o, 0 ≤ o → o ≤ 5 → o < f 7 → f (12 + 68 * o + 5) ≤ 30
theorem qoP.of {f g : Int → Int} (Q : ∀ i : Int, i = 7 ∨ (12 ≤ i ∧ i < 420 ∧ (i - 12) % 68 = 5) → f i = g i) (h : qoP g) : qoP f := by
  intro o h0 h1 h2
  rw [Q 7 (by omega)] at h2
  rw [Q _ (by omega)]
  exact h o h0 h1 h2
theorem kq_267 {E : mO × tW} {K : tK} {d : mD} {x0 x1 : Int} (hS : Safe d) (hx0 : mdB x0) (p1 : 0 ≤ x1 ∧ x1 ≤ 5) (hmp : mpP (d (x0 + 1))) (ht : d (x0 + 1) 0 ≤ 999) (hqq : qoP (d (x0 + 1))) (hn : d (x0 + 1) 9 ≤ 60) (h7 : x1 < d (x0 + 1) 7) (h : (0 ≤ (v_267 x0 x1 d) ∧ (v_267 x0 x1 d) ≤ 201) → (∀ b : Int, (b < x0 + 1 ∨ x0 + 1 < b) ∧ (b < x0 + 4 ∨ x0 + 4 < b) → (g_267 x0 x1 d) b = d b) → (∀ i : Int, 0 ≤ i ∧ i < 3116 → (g_267 x0 x1 d) (x0 + 1) i = d (x0 + 1) i) → Safe (g_267 x0 x1 d) → K (.inl (some (0, (v_267 x0 x1 d)))) (g_267 x0 x1 d)) : tCall E 267 [.inr (11, x0), .inl (0, x1)] d K := by
  refine t_267_0 ?_
  have w0 := mh_0 hS hx0 _ rfl
  have w7 := mh_7 hS hx0 _ rfl
  have w8 := mh_8 hS hx0 _ rfl
  have w9 := mh_9 hS hx0 _ rfl
  have w10 := mh_10 hS hx0 _ rfl
  have w11 := mh_11 hS hx0 _ rfl
  have w1 := hqq x1 (by omega) (by omega) (by omega)
  refine k_177 hS ?_
  refine t_267_8 ?_
  have q1 := mo_4 hS hx0 x1 ((12 + (68 * x1)) + 4) (by omega) (by omega)
  refine ⟨by omega, m_inR (by omega) (by omega), fun c0 => ?_, fun c0 => ?_⟩
  · refine k_255 hS hx0 (fun F1 K1_0 hS1 => ?_)
    refine t_267_22 ?_
    have q2 : (g_255 x0 d) (x0 + 1) 9 = d (x0 + 1) 9 := congrFun (F1 (x0 + 1) (by omega)) 9
    have q3 : (g_255 x0 d) (x0 + 1) (12 + 68 * x1 + 5) = d (x0 + 1) (12 + 68 * x1 + 5) := congrFun (F1 (x0 + 1) (by omega)) (12 + 68 * x1 + 5)
    refine k_224 hS1 hx0 (by omega) (by omega) (by omega) (by omega) (fun e1 F2 Q2 hS2 => ?_)
    refine t_267_29 ?_
    have q4 : (g_224 x0 0 x1 (g_255 x0 d)) (x0 + 1) 0 = d (x0 + 1) 0 := (Q2 0 (by omega)).trans (congrFun (F1 (x0 + 1) (by omega)) 0)
    refine k_263 hS2 hx0 (by omega) (mpP.of (mh_7 hS hx0 _ rfl) (show ∀ i : Int, i = 7 ∨ (12 ≤ i ∧ i < 420 ∧ (i - 12) % 68 = 2) → (g_224 x0 0 x1 (g_255 x0 d)) (x0 + 1) i = d (x0 + 1) i from fun i hi => (Q2 i (by omega)).trans (congrFun (F1 (x0 + 1) (by omega)) i)) hmp) (by omega) (fun e2 F3 Q3 hS3 => ?_)
    refine t_267_32 ?_
    refine k_256 hS3 hx0 (fun F4 K4_0 hS4 => ?_)
    refine t_267_37 ?_
    have y0 : v_267 x0 x1 d = v_263 x0 (v_224 x0 0 x1 (g_255 x0 d)) (g_224 x0 0 x1 (g_255 x0 d)) := by simp only [v_267, if_neg (show ¬ d (x0 + 1) ((12 + (68 * x1)) + 4) = 0 from c0)]
    have y1 : g_267 x0 x1 d = g_256 x0 (g_263 x0 (v_224 x0 0 x1 (g_255 x0 d)) (g_224 x0 0 x1 (g_255 x0 d))) := by simp only [g_267, if_neg (show ¬ d (x0 + 1) ((12 + (68 * x1)) + 4) = 0 from c0)]
    rw [y0] at h
    rw [y1] at h
    exact h (show 0 ≤ (v_263 x0 (v_224 x0 0 x1 (g_255 x0 d)) (g_224 x0 0 x1 (g_255 x0 d))) ∧ (v_263 x0 (v_224 x0 0 x1 (g_255 x0 d)) (g_224 x0 0 x1 (g_255 x0 d))) ≤ 201 from (by omega)) (show ∀ b : Int, (b < x0 + 1 ∨ x0 + 1 < b) ∧ (b < x0 + 4 ∨ x0 + 4 < b) → (g_256 x0 (g_263 x0 (v_224 x0 0 x1 (g_255 x0 d)) (g_224 x0 0 x1 (g_255 x0 d)))) b = d b from fun b hb => (F4 b (by omega)).trans ((F3 b (by omega)).trans ((F2 b (by omega)).trans (F1 b (by omega))))) (show ∀ i : Int, 0 ≤ i ∧ i < 3116 → (g_256 x0 (g_263 x0 (v_224 x0 0 x1 (g_255 x0 d)) (g_224 x0 0 x1 (g_255 x0 d)))) (x0 + 1) i = d (x0 + 1) i from fun i hi => (((K4_0 i (by omega) (by omega)).trans (congrFun (F3 (x0 + 4) (by omega)) i)).trans (congrFun (F2 (x0 + 4) (by omega)) i)).trans (K1_0 i (by omega) (by omega))) hS4
  · have y0 : v_267 x0 x1 d = 201 := by simp only [v_267, if_pos (show d (x0 + 1) ((12 + (68 * x1)) + 4) = 0 from c0)]
    have y1 : g_267 x0 x1 d = d := by simp only [g_267, if_pos (show d (x0 + 1) ((12 + (68 * x1)) + 4) = 0 from c0)]
    rw [y0] at h
    rw [y1] at h
    exact h (show 0 ≤ ((201 : Int)) ∧ ((201 : Int)) ≤ 201 from (by omega)) (show ∀ b : Int, (b < x0 + 1 ∨ x0 + 1 < b) ∧ (b < x0 + 4 ∨ x0 + 4 < b) → d b = d b from fun _ _ => rfl) (show ∀ i : Int, 0 ≤ i ∧ i < 3116 → d (x0 + 1) i = d (x0 + 1) i from fun _ _ => rfl) hS
theorem kq_268 {E : mO × tW} {K : tK} {d : mD} {x0 x1 : Int} (hS : Safe d) (hx0 : mdB x0) (p1 : -2147483648 ≤ x1 ∧ x1 ≤ 2147483647) (hmp : mpP (d (x0 + 1))) (ht : d (x0 + 1) 0 ≤ 999) (hqq : qoP (d (x0 + 1))) (hn : d (x0 + 1) 9 ≤ 60) (h : (∀ b : Int, (b < x0 ∨ x0 + 1 < b) ∧ (b < x0 + 4 ∨ x0 + 4 < b) → (g_268 x0 x1 d) b = d b) → Safe (g_268 x0 x1 d) → K (.inl (some (0, (v_268 x0 x1 d)))) (g_268 x0 x1 d)) : tCall E 268 [.inr (11, x0), .inl (0, x1)] d K := by
  refine t_268_0 ?_
  have w0 := mh_0 hS hx0 _ rfl
  have w7 := mh_7 hS hx0 _ rfl
  have w8 := mh_8 hS hx0 _ rfl
  have w9 := mh_9 hS hx0 _ rfl
  have w10 := mh_10 hS hx0 _ rfl
  have w11 := mh_11 hS hx0 _ rfl
  refine k_236 hS hx0 (m_inR (by omega) (by omega)) (fun e1 => ?_)
  refine t_268_6 ?_
  refine ⟨m_inR (by omega) (by omega), fun c0 => ?_, fun c0 => ?_⟩
  · have hS1 : Safe (mset d x0 0 1) := s_11_f0 hS hx0 (by omega)
    rw [mset_eq (d := d) (a := x0) (i := (0 : Int)) (v := (1 : Int))]
    refine ⟨m_inR (by omega) (by omega), fun c1 => ?_, fun c1 => ?_⟩
    · exact (show False by omega).elim
    · have y0 : v_268 x0 x1 d = 0 := by simp only [v_268, if_pos (show v_236 x0 x1 d = 0 from c0), if_pos (show (0 : Int) < 1 from c1)]
      have y1 : g_268 x0 x1 d = mset d x0 0 1 := by simp only [g_268, if_pos (show v_236 x0 x1 d = 0 from c0), if_pos (show (0 : Int) < 1 from c1)]
      rw [y0] at h
      rw [y1] at h
      exact h (show ∀ b : Int, (b < x0 ∨ x0 + 1 < b) ∧ (b < x0 + 4 ∨ x0 + 4 < b) → (mset d x0 0 1) b = d b from fun b hb => mset_ne (by omega)) hS1
  · have hS2 : Safe (mset d x0 0 0) := s_11_f0 hS hx0 (by omega)
    rw [mset_eq (d := d) (a := x0) (i := (0 : Int)) (v := (0 : Int))]
    refine ⟨m_inR (by omega) (by omega), fun c1 => ?_, fun c1 => ?_⟩
    · have q1 : (mset d x0 0 0) (x0 + 1) 0 = d (x0 + 1) 0 := congrFun (mset_ne (by omega)) 0
      have q2 : (mset d x0 0 0) (x0 + 1) 9 = d (x0 + 1) 9 := congrFun (mset_ne (by omega)) 9
      have q3 : (mset d x0 0 0) (x0 + 1) 7 = d (x0 + 1) 7 := congrFun (mset_ne (by omega)) 7
      refine kq_267 hS2 hx0 (by omega) (mpP.of (mh_7 hS hx0 _ rfl) (show ∀ i : Int, i = 7 ∨ (12 ≤ i ∧ i < 420 ∧ (i - 12) % 68 = 2) → (mset d x0 0 0) (x0 + 1) i = d (x0 + 1) i from fun i hi => congrFun (mset_ne (by omega)) i) hmp) (by omega) (qoP.of (show ∀ i : Int, i = 7 ∨ (12 ≤ i ∧ i < 420 ∧ (i - 12) % 68 = 5) → (mset d x0 0 0) (x0 + 1) i = d (x0 + 1) i from fun i hi => congrFun (mset_ne (by omega)) i) hqq) (by omega) (by omega) (fun e2 F1 Q1 hS3 => ?_)
      refine t_268_31 ?_
      refine ⟨⟨m_inR (by omega) (by omega), m_inR (by omega) (by omega)⟩, fun c2 => ?_, fun c2 => ?_⟩
      · have hS4 : Safe (mset (g_267 x0 x1 (mset d x0 0 0)) x0 0 0) := s_11_f0 hS3 hx0 (by omega)
        rw [mset_eq (d := g_267 x0 x1 (mset d x0 0 0)) (a := x0) (i := (0 : Int)) (v := (0 : Int))]
        refine ⟨m_inR (by omega) (by omega), fun c3 => ?_, fun c3 => ?_⟩
        · have y0 : v_268 x0 x1 d = v_267 x0 x1 (mset d x0 0 0) := by simp only [v_268, if_neg (show ¬ v_236 x0 x1 d = 0 from c0), if_neg (show ¬ (0 : Int) < 0 from Int.not_lt.mpr c1), if_neg (show ¬ (200 : Int) < v_267 x0 x1 (mset d x0 0 0) from Int.not_lt.mpr c2), if_neg (show ¬ (0 : Int) < 0 from Int.not_lt.mpr c3)]
          have y1 : g_268 x0 x1 d = mset (g_267 x0 x1 (mset d x0 0 0)) x0 0 0 := by simp only [g_268, if_neg (show ¬ v_236 x0 x1 d = 0 from c0), if_neg (show ¬ (0 : Int) < 0 from Int.not_lt.mpr c1), if_neg (show ¬ (200 : Int) < v_267 x0 x1 (mset d x0 0 0) from Int.not_lt.mpr c2), if_neg (show ¬ (0 : Int) < 0 from Int.not_lt.mpr c3)]
          rw [y0] at h
          rw [y1] at h
          exact h (show ∀ b : Int, (b < x0 ∨ x0 + 1 < b) ∧ (b < x0 + 4 ∨ x0 + 4 < b) → (mset (g_267 x0 x1 (mset d x0 0 0)) x0 0 0) b = d b from fun b hb => (mset_ne (by omega)).trans ((F1 b (by omega)).trans (mset_ne (by omega)))) hS4
        · exact (show False by omega).elim
      · have hS5 : Safe (mset (g_267 x0 x1 (mset d x0 0 0)) x0 0 2) := s_11_f0 hS3 hx0 (by omega)
        rw [mset_eq (d := g_267 x0 x1 (mset d x0 0 0)) (a := x0) (i := (0 : Int)) (v := (2 : Int))]
        refine ⟨m_inR (by omega) (by omega), fun c3 => ?_, fun c3 => ?_⟩
        · exact (show False by omega).elim
        · have y0 : v_268 x0 x1 d = 0 := by simp only [v_268, if_neg (show ¬ v_236 x0 x1 d = 0 from c0), if_neg (show ¬ (0 : Int) < 0 from Int.not_lt.mpr c1), if_pos (show (200 : Int) < v_267 x0 x1 (mset d x0 0 0) from c2), if_pos (show (0 : Int) < 2 from c3)]
          have y1 : g_268 x0 x1 d = mset (g_267 x0 x1 (mset d x0 0 0)) x0 0 2 := by simp only [g_268, if_neg (show ¬ v_236 x0 x1 d = 0 from c0), if_neg (show ¬ (0 : Int) < 0 from Int.not_lt.mpr c1), if_pos (show (200 : Int) < v_267 x0 x1 (mset d x0 0 0) from c2), if_pos (show (0 : Int) < 2 from c3)]
          rw [y0] at h
          rw [y1] at h
          exact h (show ∀ b : Int, (b < x0 ∨ x0 + 1 < b) ∧ (b < x0 + 4 ∨ x0 + 4 < b) → (mset (g_267 x0 x1 (mset d x0 0 0)) x0 0 2) b = d b from fun b hb => (mset_ne (by omega)).trans ((F1 b (by omega)).trans (mset_ne (by omega)))) hS5
    · exact (show False by omega).elim
theorem lsq_269_8 {E : mO × tW} {K : tK} {x0 : Int} (hx0 : mdB x0) (N8 : Int) (r8 : Int → Int → Int → mD → Int × mD) (ih8 : ∀ (x1 x2 x3 : Int) (v4 : tV) (d : mD), Safe d → (0 ≤ x3 ∧ x3 ≤ 6) → (-1 ≤ x1 ∧ x1 ≤ 5) → (0 ≤ x2 ∧ x2 ≤ 201) → (mpP (d (x0 + 1))) → (d (x0 + 1) 0 ≤ 999) → (qoP (d (x0 + 1))) → (d (x0 + 1) 9 ≤ 60) → 0 ≤ 6 - x3 → 6 - x3 < N8 → ((∀ b : Int, (b < x0 ∨ x0 + 1 < b) ∧ (b < x0 + 4 ∨ x0 + 4 < b) → (r8 x1 x2 x3 d).2 b = d b) → Safe (r8 x1 x2 x3 d).2 → K (.inl (some (0, (r8 x1 x2 x3 d).1))) (r8 x1 x2 x3 d).2) → tRun E 269 (8, [.inr (11, x0), .inl (0, x1), .inl (0, x2), .inl (0, x3), v4], [], 0, 0, d) K) (x1 x2 x3 : Int) (v4 : tV) (d : mD) (hS : Safe d) (i0 : 0 ≤ x3 ∧ x3 ≤ 6) (i1 : -1 ≤ x1 ∧ x1 ≤ 5) (i2 : 0 ≤ x2 ∧ x2 ≤ 201) (hmp : mpP (d (x0 + 1))) (i4 : d (x0 + 1) 0 ≤ 999) (hqq : qoP (d (x0 + 1))) (i6 : d (x0 + 1) 9 ≤ 60) (hm : 6 - x3 ≤ N8) (h : (∀ b : Int, (b < x0 ∨ x0 + 1 < b) ∧ (b < x0 + 4 ∨ x0 + 4 < b) → (st_269_8 x0 r8 x1 x2 x3 d).2 b = d b) → Safe (st_269_8 x0 r8 x1 x2 x3 d).2 → K (.inl (some (0, (st_269_8 x0 r8 x1 x2 x3 d).1))) (st_269_8 x0 r8 x1 x2 x3 d).2) : tRun E 269 (8, [.inr (11, x0), .inl (0, x1), .inl (0, x2), .inl (0, x3), v4], [], 0, 0, d) K := by
  refine t_269_8 ?_
  have q1 := mh_7 hS hx0 _ rfl
  refine ⟨by omega, ⟨m_inR (by omega) (by omega), m_inR (by omega) (by omega)⟩, fun c0 => ?_, fun c0 => ?_⟩
  · refine ⟨⟨m_inR (by omega) (by omega), m_inR (by omega) (by omega)⟩, fun c1 => ?_, fun c1 => ?_⟩
    · have hS1 : Safe (mset d x0 0 0) := s_11_f0 hS hx0 (by omega)
      rw [mset_eq (d := d) (a := x0) (i := (0 : Int)) (v := (0 : Int))]
      refine ⟨m_inR (by omega) (by omega), fun c2 => ?_, fun c2 => ?_⟩
      · have y0 : st_269_8 x0 r8 x1 x2 x3 d = (x1, mset d x0 0 0) := by simp only [st_269_8, if_neg (show ¬ x3 < d (x0 + 1) 7 from Int.not_lt.mpr c0), if_neg (show ¬ x1 = (-1) from c1), if_neg (show ¬ (0 : Int) < 0 from Int.not_lt.mpr c2)]
        rw [y0] at h
        exact h (show ∀ b : Int, (b < x0 ∨ x0 + 1 < b) ∧ (b < x0 + 4 ∨ x0 + 4 < b) → (mset d x0 0 0) b = d b from fun b hb => mset_ne (by omega)) hS1
      · exact (show False by omega).elim
    · have hS2 : Safe (mset d x0 0 1) := s_11_f0 hS hx0 (by omega)
      rw [mset_eq (d := d) (a := x0) (i := (0 : Int)) (v := (1 : Int))]
      refine ⟨m_inR (by omega) (by omega), fun c2 => ?_, fun c2 => ?_⟩
      · exact (show False by omega).elim
      · have y0 : st_269_8 x0 r8 x1 x2 x3 d = (0, mset d x0 0 1) := by simp only [st_269_8, if_neg (show ¬ x3 < d (x0 + 1) 7 from Int.not_lt.mpr c0), if_pos (show x1 = (-1) from c1), if_pos (show (0 : Int) < 1 from c2)]
        rw [y0] at h
        exact h (show ∀ b : Int, (b < x0 ∨ x0 + 1 < b) ∧ (b < x0 + 4 ∨ x0 + 4 < b) → (mset d x0 0 1) b = d b from fun b hb => mset_ne (by omega)) hS2
  · refine kq_267 hS hx0 (by omega) hmp (by omega) hqq (by omega) (by omega) (fun e1 F1 Q1 hS3 => ?_)
    refine t_269_24 ?_
    refine ⟨⟨m_inR (by omega) (by omega), m_inR (by omega) (by omega)⟩, fun c1 => ?_, fun c1 => ?_⟩
    · refine ⟨⟨m_inR (by omega) (by omega), m_inR (by omega) (by omega)⟩, fun c2 => ?_, fun c2 => ?_⟩
      · have q2 : (g_267 x0 x3 d) (x0 + 1) 0 = d (x0 + 1) 0 := Q1 0 (by omega)
        have q3 : (g_267 x0 x3 d) (x0 + 1) 9 = d (x0 + 1) 9 := Q1 9 (by omega)
        refine ih8 x1 x2 (x3 + 1) (.inl (0, v_267 x0 x3 d)) (g_267 x0 x3 d) hS3 (by omega) (by omega) (by omega) (mpP.of (mh_7 hS hx0 _ rfl) (show ∀ i : Int, i = 7 ∨ (12 ≤ i ∧ i < 420 ∧ (i - 12) % 68 = 2) → (g_267 x0 x3 d) (x0 + 1) i = d (x0 + 1) i from fun i hi => Q1 i (by omega)) hmp) (by omega) (qoP.of (show ∀ i : Int, i = 7 ∨ (12 ≤ i ∧ i < 420 ∧ (i - 12) % 68 = 5) → (g_267 x0 x3 d) (x0 + 1) i = d (x0 + 1) i from fun i hi => Q1 i (by omega)) hqq) (by omega) (by omega) (by omega) ?_
        intro F hS_
        have y0 : st_269_8 x0 r8 x1 x2 x3 d = r8 x1 x2 (x3 + 1) (g_267 x0 x3 d) := by simp only [st_269_8, if_pos (show x3 < d (x0 + 1) 7 from c0), if_neg (show ¬ v_267 x0 x3 d < x2 from Int.not_lt.mpr c1), if_neg (show ¬ v_267 x0 x3 d < x2 from Int.not_lt.mpr c2)]
        rw [y0] at h
        exact h (fun b hb => (F b hb).trans ((show ∀ b : Int, (b < x0 ∨ x0 + 1 < b) ∧ (b < x0 + 4 ∨ x0 + 4 < b) → (g_267 x0 x3 d) b = d b from fun b hb => F1 b (by omega)) b hb)) hS_
      · exact (show False by omega).elim
    · refine ⟨⟨m_inR (by omega) (by omega), m_inR (by omega) (by omega)⟩, fun c2 => ?_, fun c2 => ?_⟩
      · exact (show False by omega).elim
      · have q4 : (g_267 x0 x3 d) (x0 + 1) 0 = d (x0 + 1) 0 := Q1 0 (by omega)
        have q5 : (g_267 x0 x3 d) (x0 + 1) 9 = d (x0 + 1) 9 := Q1 9 (by omega)
        refine ih8 x3 (v_267 x0 x3 d) (x3 + 1) (.inl (0, v_267 x0 x3 d)) (g_267 x0 x3 d) hS3 (by omega) (by omega) (by omega) (mpP.of (mh_7 hS hx0 _ rfl) (show ∀ i : Int, i = 7 ∨ (12 ≤ i ∧ i < 420 ∧ (i - 12) % 68 = 2) → (g_267 x0 x3 d) (x0 + 1) i = d (x0 + 1) i from fun i hi => Q1 i (by omega)) hmp) (by omega) (qoP.of (show ∀ i : Int, i = 7 ∨ (12 ≤ i ∧ i < 420 ∧ (i - 12) % 68 = 5) → (g_267 x0 x3 d) (x0 + 1) i = d (x0 + 1) i from fun i hi => Q1 i (by omega)) hqq) (by omega) (by omega) (by omega) ?_
        intro F hS_
        have y0 : st_269_8 x0 r8 x1 x2 x3 d = r8 x3 (v_267 x0 x3 d) (x3 + 1) (g_267 x0 x3 d) := by simp only [st_269_8, if_pos (show x3 < d (x0 + 1) 7 from c0), if_pos (show v_267 x0 x3 d < x2 from c1), if_pos (show v_267 x0 x3 d < x2 from c2)]
        rw [y0] at h
        exact h (fun b hb => (F b hb).trans ((show ∀ b : Int, (b < x0 ∨ x0 + 1 < b) ∧ (b < x0 + 4 ∨ x0 + 4 < b) → (g_267 x0 x3 d) b = d b from fun b hb => F1 b (by omega)) b hb)) hS_
theorem lq_269_8 {E : mO × tW} {K : tK} {x0 : Int} (hx0 : mdB x0) : ∀ (n : Nat) (x1 x2 x3 : Int) (v4 : tV) (d : mD), Safe d → (0 ≤ x3 ∧ x3 ≤ 6) → (-1 ≤ x1 ∧ x1 ≤ 5) → (0 ≤ x2 ∧ x2 ≤ 201) → (mpP (d (x0 + 1))) → (d (x0 + 1) 0 ≤ 999) → (qoP (d (x0 + 1))) → (d (x0 + 1) 9 ≤ 60) → 6 - x3 ≤ (n : Int) → ((∀ b : Int, (b < x0 ∨ x0 + 1 < b) ∧ (b < x0 + 4 ∨ x0 + 4 < b) → (lp_269_8 x0 n x1 x2 x3 d).2 b = d b) → Safe (lp_269_8 x0 n x1 x2 x3 d).2 → K (.inl (some (0, (lp_269_8 x0 n x1 x2 x3 d).1))) (lp_269_8 x0 n x1 x2 x3 d).2) → tRun E 269 (8, [.inr (11, x0), .inl (0, x1), .inl (0, x2), .inl (0, x3), v4], [], 0, 0, d) K := by
  intro n
  induction n with
  | zero =>
    intro x1 x2 x3 v4 d hS i0 i1 i2 hmp i4 hqq i6 hm  h
    exact lsq_269_8 hx0 0 _ (fun _ _ _ _ _ _ _ _ _ _ _ _ _ m0 m1 _ => absurd m1 (by omega)) x1 x2 x3 v4 d hS i0 i1 i2 hmp i4 hqq i6 hm  h
  | succ n ih =>
    intro x1 x2 x3 v4 d hS i0 i1 i2 hmp i4 hqq i6 hm  h
    exact lsq_269_8 hx0 ((n + 1 : Nat) : Int) _ (fun x1 x2 x3 v4 d hS i0 i1 i2 hmp i4 hqq i6  m0 m1 h => ih x1 x2 x3 v4 d hS i0 i1 i2 hmp i4 hqq i6 (by omega)  h) x1 x2 x3 v4 d hS i0 i1 i2 hmp i4 hqq i6 hm  h
theorem kq_269 {E : mO × tW} {K : tK} {d : mD} {x0 : Int} (hS : Safe d) (hx0 : mdB x0) (hmp : mpP (d (x0 + 1))) (ht : d (x0 + 1) 0 ≤ 999) (hqq : qoP (d (x0 + 1))) (hn : d (x0 + 1) 9 ≤ 60) (h : (∀ b : Int, (b < x0 ∨ x0 + 1 < b) ∧ (b < x0 + 4 ∨ x0 + 4 < b) → (g_269 x0 d) b = d b) → Safe (g_269 x0 d) → K (.inl (some (0, (v_269 x0 d)))) (g_269 x0 d)) : tCall E 269 [.inr (11, x0)] d K := by
  simp only [v_269, g_269] at h
  refine t_269_0 ?_
  have w0 := mh_0 hS hx0 _ rfl
  have w7 := mh_7 hS hx0 _ rfl
  have w8 := mh_8 hS hx0 _ rfl
  have w9 := mh_9 hS hx0 _ rfl
  have w10 := mh_10 hS hx0 _ rfl
  have w11 := mh_11 hS hx0 _ rfl
  refine lq_269_8 hx0 (6 - 0 : Int).toNat ((-1)) 201 0 tu d hS (by omega) (by omega) (by omega) hmp (by omega) hqq (by omega) (by omega) ?_
  intro F hS_
  have y0 : f_269 x0 d = lp_269_8 x0 (6 - 0 : Int).toNat ((-1)) 201 0 d := by simp only [f_269]
  rw [y0] at h
  exact h F hS_
theorem lsq_272_89 {E : mO × tW} {K : tK} {x0 x1 x2 : Int} (hx0 : mdB x0) (p1 : -2147483648 ≤ x1 ∧ x1 ≤ 2147483647) (p2 : -2147483648 ≤ x2 ∧ x2 ≤ 2147483647) (N89 : Int) (r89 : Int → Int → Int → mD → Int × mD) (ih89 : ∀ (x3 x4 x5 : Int) (v6 v7 : tV) (d : mD), Safe d → (0 ≤ x5 ∧ x5 ≤ 61) → (0 ≤ x4 ∧ x4 ≤ 1300) → 0 ≤ 61 - x5 → 61 - x5 < N89 → ((∀ b : Int, (b < x0 ∨ x0 + 1 < b) ∧ (b < x0 + 4 ∨ x0 + 4 < b) → (r89 x3 x4 x5 d).2 b = d b) → Safe (r89 x3 x4 x5 d).2 → K (.inl (some (0, (r89 x3 x4 x5 d).1))) (r89 x3 x4 x5 d).2) → tRun E 272 (89, [.inr (11, x0), .inl (0, x1), .inl (0, x2), .inl (0, x3), .inl (0, x4), .inl (0, x5), v6, v7], [], 0, 0, d) K) (x3 x4 x5 : Int) (v6 v7 : tV) (d : mD) (hS : Safe d) (i0 : 0 ≤ x5 ∧ x5 ≤ 61) (i1 : 0 ≤ x4 ∧ x4 ≤ 1300) (hm : 61 - x5 ≤ N89) (h : (∀ b : Int, (b < x0 ∨ x0 + 1 < b) ∧ (b < x0 + 4 ∨ x0 + 4 < b) → (st_272_89 x0 x1 x2 r89 x3 x4 x5 d).2 b = d b) → Safe (st_272_89 x0 x1 x2 r89 x3 x4 x5 d).2 → K (.inl (some (0, (st_272_89 x0 x1 x2 r89 x3 x4 x5 d).1))) (st_272_89 x0 x1 x2 r89 x3 x4 x5 d).2) : tRun E 272 (89, [.inr (11, x0), .inl (0, x1), .inl (0, x2), .inl (0, x3), .inl (0, x4), .inl (0, x5), v6, v7], [], 0, 0, d) K := by
  refine t_272_89 ?_
  have w9 := as4 hS hx0 x5
  have q1 := mh_9 hS hx0 _ rfl
  refine ⟨by omega, ⟨m_inR (by omega) (by omega), m_inR (by omega) (by omega)⟩, fun c0 => ?_, fun c0 => ?_⟩
  · refine k_271 hS hx0 (fun e1 => ?_)
    refine t_272_206 ?_
    refine ⟨m_inR (by omega) (by omega), fun c1 => ?_, fun c1 => ?_⟩
    · have hS1 : Safe (mset d x0 0 0) := s_11_f0 hS hx0 (by omega)
      refine k_256 hS1 hx0 (fun F1 K1_0 hS2 => ?_)
      refine t_272_221 ?_
      rw [F1 x0 (by omega)]
      rw [mset_eq (d := d) (a := x0) (i := (0 : Int)) (v := (0 : Int))]
      refine ⟨m_inR (by omega) (by omega), fun c2 => ?_, fun c2 => ?_⟩
      · have y0 : st_272_89 x0 x1 x2 r89 x3 x4 x5 d = (x4, g_256 x0 (mset d x0 0 0)) := by simp only [st_272_89, if_neg (show ¬ x5 < d (x0 + 1) 9 from Int.not_lt.mpr c0), if_neg (show ¬ (0 : Int) < v_271 x0 d from Int.not_lt.mpr c1), if_neg (show ¬ (0 : Int) < 0 from Int.not_lt.mpr c2)]
        rw [y0] at h
        exact h (show ∀ b : Int, (b < x0 ∨ x0 + 1 < b) ∧ (b < x0 + 4 ∨ x0 + 4 < b) → (g_256 x0 (mset d x0 0 0)) b = d b from fun b hb => (F1 b (by omega)).trans (mset_ne (by omega))) hS2
      · exact (show False by omega).elim
    · have hS3 : Safe (mset d x0 0 3) := s_11_f0 hS hx0 (by omega)
      refine k_256 hS3 hx0 (fun F2 K2_0 hS4 => ?_)
      refine t_272_221 ?_
      rw [F2 x0 (by omega)]
      rw [mset_eq (d := d) (a := x0) (i := (0 : Int)) (v := (3 : Int))]
      refine ⟨m_inR (by omega) (by omega), fun c2 => ?_, fun c2 => ?_⟩
      · exact (show False by omega).elim
      · have y0 : st_272_89 x0 x1 x2 r89 x3 x4 x5 d = (0, g_256 x0 (mset d x0 0 3)) := by simp only [st_272_89, if_neg (show ¬ x5 < d (x0 + 1) 9 from Int.not_lt.mpr c0), if_pos (show (0 : Int) < v_271 x0 d from c1), if_pos (show (0 : Int) < 3 from c2)]
        rw [y0] at h
        exact h (show ∀ b : Int, (b < x0 ∨ x0 + 1 < b) ∧ (b < x0 + 4 ∨ x0 + 4 < b) → (g_256 x0 (mset d x0 0 3)) b = d b from fun b hb => (F2 b (by omega)).trans (mset_ne (by omega))) hS4
  · refine k_179 hS ?_
    refine t_272_106 ?_
    refine ⟨by omega, m_inR (by omega) (by omega), fun c1 => ?_, fun c1 => ?_⟩
    · refine ⟨m_inR (by omega) (by omega), fun c2 => ?_, fun c2 => ?_⟩
      · refine ih89 x3 x4 (x5 + 1) (.inl (0, 452 + (24 * x5))) (.inl (0, 0)) d hS (by omega) (by omega) (by omega) (by omega) ?_
        intro F hS_
        have y0 : st_272_89 x0 x1 x2 r89 x3 x4 x5 d = r89 x3 x4 (x5 + 1) d := by simp only [st_272_89, if_pos (show x5 < d (x0 + 1) 9 from c0), if_neg (show ¬ d (x0 + 4) ((452 + (24 * x5)) + 4) = 0 from c1), if_pos (show (0 : Int) = 0 from c2)]
        rw [y0] at h
        exact h F hS_
      · exact (show False by omega).elim
    · have q2 := mt_4 hS hx0 x5 ((452 + (24 * x5)) + 4) (by omega) (by omega)
      refine ⟨by omega, ⟨m_inR (by omega) (by omega), m_inR (by omega) (by omega)⟩, fun c2 => ?_, fun c2 => ?_⟩
      · refine ⟨m_inR (by omega) (by omega), fun c3 => ?_, fun c3 => ?_⟩
        · refine ih89 x3 x4 (x5 + 1) (.inl (0, 452 + (24 * x5))) (.inl (0, 0)) d hS (by omega) (by omega) (by omega) (by omega) ?_
          intro F hS_
          have y0 : st_272_89 x0 x1 x2 r89 x3 x4 x5 d = r89 x3 x4 (x5 + 1) d := by simp only [st_272_89, if_pos (show x5 < d (x0 + 1) 9 from c0), if_pos (show d (x0 + 4) ((452 + (24 * x5)) + 4) = 0 from c1), if_neg (show ¬ d (x0 + 1) ((452 + (24 * x5)) + 4) = 1 from c2), if_pos (show (0 : Int) = 0 from c3)]
          rw [y0] at h
          exact h F hS_
        · exact (show False by omega).elim
      · refine ⟨m_inR (by omega) (by omega), fun c3 => ?_, fun c3 => ?_⟩
        · exact (show False by omega).elim
        · have q3 := mt_3 hS hx0 x5 ((452 + (24 * x5)) + 3) (by omega) (by omega)
          have q4 := mt_2 hS hx0 x5 ((452 + (24 * x5)) + 2) (by omega) (by omega)
          refine ⟨by omega, by omega, ⟨m_inR (by omega) (by omega), m_inR (by omega) (by omega)⟩, fun c4 => ?_, fun c4 => ?_⟩
          · refine ih89 x3 x4 (x5 + 1) (.inl (0, 452 + (24 * x5))) (.inl (0, 1)) d hS (by omega) (by omega) (by omega) (by omega) ?_
            intro F hS_
            have y0 : st_272_89 x0 x1 x2 r89 x3 x4 x5 d = r89 x3 x4 (x5 + 1) d := by simp only [st_272_89, if_pos (show x5 < d (x0 + 1) 9 from c0), if_pos (show d (x0 + 4) ((452 + (24 * x5)) + 4) = 0 from c1), if_pos (show d (x0 + 1) ((452 + (24 * x5)) + 4) = 1 from c2), if_neg (show ¬ (1 : Int) = 0 from c3), if_neg (show ¬ x4 < (d (x0 + 1) ((452 + (24 * x5)) + 3)) - (d (x0 + 1) ((452 + (24 * x5)) + 2)) from Int.not_lt.mpr c4)]
            rw [y0] at h
            exact h F hS_
          · refine ⟨by omega, by omega, ?_⟩
            refine ih89 x3 ((d (x0 + 1) ((452 + (24 * x5)) + 3)) - (d (x0 + 1) ((452 + (24 * x5)) + 2))) (x5 + 1) (.inl (0, 452 + (24 * x5))) (.inl (0, 1)) d hS (by omega) (by omega) (by omega) (by omega) ?_
            intro F hS_
            have y0 : st_272_89 x0 x1 x2 r89 x3 x4 x5 d = r89 x3 ((d (x0 + 1) ((452 + (24 * x5)) + 3)) - (d (x0 + 1) ((452 + (24 * x5)) + 2))) (x5 + 1) d := by simp only [st_272_89, if_pos (show x5 < d (x0 + 1) 9 from c0), if_pos (show d (x0 + 4) ((452 + (24 * x5)) + 4) = 0 from c1), if_pos (show d (x0 + 1) ((452 + (24 * x5)) + 4) = 1 from c2), if_neg (show ¬ (1 : Int) = 0 from c3), if_pos (show x4 < (d (x0 + 1) ((452 + (24 * x5)) + 3)) - (d (x0 + 1) ((452 + (24 * x5)) + 2)) from c4)]
            rw [y0] at h
            exact h F hS_
theorem lq_272_89 {E : mO × tW} {K : tK} {x0 x1 x2 : Int} (hx0 : mdB x0) (p1 : -2147483648 ≤ x1 ∧ x1 ≤ 2147483647) (p2 : -2147483648 ≤ x2 ∧ x2 ≤ 2147483647) : ∀ (n : Nat) (x3 x4 x5 : Int) (v6 v7 : tV) (d : mD), Safe d → (0 ≤ x5 ∧ x5 ≤ 61) → (0 ≤ x4 ∧ x4 ≤ 1300) → 61 - x5 ≤ (n : Int) → ((∀ b : Int, (b < x0 ∨ x0 + 1 < b) ∧ (b < x0 + 4 ∨ x0 + 4 < b) → (lp_272_89 x0 x1 x2 n x3 x4 x5 d).2 b = d b) → Safe (lp_272_89 x0 x1 x2 n x3 x4 x5 d).2 → K (.inl (some (0, (lp_272_89 x0 x1 x2 n x3 x4 x5 d).1))) (lp_272_89 x0 x1 x2 n x3 x4 x5 d).2) → tRun E 272 (89, [.inr (11, x0), .inl (0, x1), .inl (0, x2), .inl (0, x3), .inl (0, x4), .inl (0, x5), v6, v7], [], 0, 0, d) K := by
  intro n
  induction n with
  | zero =>
    intro x3 x4 x5 v6 v7 d hS i0 i1 hm  h
    exact lsq_272_89 hx0 p1 p2 0 _ (fun _ _ _ _ _ _ _ _ _ m0 m1 _ => absurd m1 (by omega)) x3 x4 x5 v6 v7 d hS i0 i1 hm  h
  | succ n ih =>
    intro x3 x4 x5 v6 v7 d hS i0 i1 hm  h
    exact lsq_272_89 hx0 p1 p2 ((n + 1 : Nat) : Int) _ (fun x3 x4 x5 v6 v7 d hS i0 i1  m0 m1 h => ih x3 x4 x5 v6 v7 d hS i0 i1 (by omega)  h) x3 x4 x5 v6 v7 d hS i0 i1 hm  h
theorem lsq_272_59 {E : mO × tW} {K : tK} {x0 x1 x2 : Int} (hx0 : mdB x0) (p1 : -2147483648 ≤ x1 ∧ x1 ≤ 2147483647) (p2 : -2147483648 ≤ x2 ∧ x2 ≤ 2147483647) (N59 : Int) (r59 : Int → mD → Int × mD) (ih59 : ∀ (x3 : Int) (d : mD), Safe d → (0 ≤ x3 ∧ x3 ≤ 200) → (d (x0 + 1) 0 + (200 - x3) ≤ 1200) → (mpP (d (x0 + 1))) → 0 ≤ 200 - x3 → 200 - x3 < N59 → ((∀ b : Int, (b < x0 ∨ x0 + 1 < b) ∧ (b < x0 + 4 ∨ x0 + 4 < b) → (r59 x3 d).2 b = d b) → Safe (r59 x3 d).2 → K (.inl (some (0, (r59 x3 d).1))) (r59 x3 d).2) → tRun E 272 (59, [.inr (11, x0), .inl (0, x1), .inl (0, x2), .inl (0, x3), tu, tu, tu, tu], [], 0, 0, d) K) (x3 : Int) (d : mD) (hS : Safe d) (i0 : 0 ≤ x3 ∧ x3 ≤ 200) (i1 : d (x0 + 1) 0 + (200 - x3) ≤ 1200) (hmp : mpP (d (x0 + 1))) (hm : 200 - x3 ≤ N59) (h : (∀ b : Int, (b < x0 ∨ x0 + 1 < b) ∧ (b < x0 + 4 ∨ x0 + 4 < b) → (st_272_59 x0 x1 x2 r59 x3 d).2 b = d b) → Safe (st_272_59 x0 x1 x2 r59 x3 d).2 → K (.inl (some (0, (st_272_59 x0 x1 x2 r59 x3 d).1))) (st_272_59 x0 x1 x2 r59 x3 d).2) : tRun E 272 (59, [.inr (11, x0), .inl (0, x1), .inl (0, x2), .inl (0, x3), tu, tu, tu, tu], [], 0, 0, d) K := by
  refine t_272_59 ?_
  refine ⟨⟨m_inR (by omega) (by omega), m_inR (by omega) (by omega)⟩, fun c0 => ?_, fun c0 => ?_⟩
  · refine lq_272_89 hx0 p1 p2 (61 - 0 : Int).toNat x3 0 0 tu tu d hS (by omega) (by omega) (by omega) ?_
    intro F hS_
    have y0 : st_272_59 x0 x1 x2 r59 x3 d = lp_272_89 x0 x1 x2 (61 - 0 : Int).toNat x3 0 0 d := by simp only [st_272_59, if_neg (show ¬ x3 < 200 from Int.not_lt.mpr c0)]
    rw [y0] at h
    exact h F hS_
  · refine k_271 hS hx0 (fun e2 => ?_)
    refine t_272_70 ?_
    refine ⟨m_inR (by omega) (by omega), fun c1 => ?_, fun c1 => ?_⟩
    · refine lq_272_89 hx0 p1 p2 (61 - 0 : Int).toNat x3 0 0 tu tu d hS (by omega) (by omega) (by omega) ?_
      intro F hS_
      have y0 : st_272_59 x0 x1 x2 r59 x3 d = lp_272_89 x0 x1 x2 (61 - 0 : Int).toNat x3 0 0 d := by simp only [st_272_59, if_pos (show x3 < 200 from c0), if_neg (show ¬ (0 : Int) < v_271 x0 d from Int.not_lt.mpr c1)]
      rw [y0] at h
      exact h F hS_
    · refine k_223 hS hx0 hmp (by omega) (fun F3 Q3 n3_0 hS5 => ?_)
      refine t_272_77 ?_
      refine ih59 (x3 + 1)  (g_223 x0 d) hS5 (by omega) (by omega) (mpP.of (mh_7 hS hx0 _ rfl) (show ∀ i : Int, i = 7 ∨ (12 ≤ i ∧ i < 420 ∧ (i - 12) % 68 = 2) → (g_223 x0 d) (x0 + 1) i = d (x0 + 1) i from fun i hi => Q3 i (by omega)) hmp) (by omega) (by omega) ?_
      intro F hS_
      have y0 : st_272_59 x0 x1 x2 r59 x3 d = r59 (x3 + 1) (g_223 x0 d) := by simp only [st_272_59, if_pos (show x3 < 200 from c0), if_pos (show (0 : Int) < v_271 x0 d from c1)]
      rw [y0] at h
      exact h (fun b hb => (F b hb).trans ((show ∀ b : Int, (b < x0 ∨ x0 + 1 < b) ∧ (b < x0 + 4 ∨ x0 + 4 < b) → (g_223 x0 d) b = d b from fun b hb => F3 b (by omega)) b hb)) hS_
theorem lq_272_59 {E : mO × tW} {K : tK} {x0 x1 x2 : Int} (hx0 : mdB x0) (p1 : -2147483648 ≤ x1 ∧ x1 ≤ 2147483647) (p2 : -2147483648 ≤ x2 ∧ x2 ≤ 2147483647) : ∀ (n : Nat) (x3 : Int) (d : mD), Safe d → (0 ≤ x3 ∧ x3 ≤ 200) → (d (x0 + 1) 0 + (200 - x3) ≤ 1200) → (mpP (d (x0 + 1))) → 200 - x3 ≤ (n : Int) → ((∀ b : Int, (b < x0 ∨ x0 + 1 < b) ∧ (b < x0 + 4 ∨ x0 + 4 < b) → (lp_272_59 x0 x1 x2 n x3 d).2 b = d b) → Safe (lp_272_59 x0 x1 x2 n x3 d).2 → K (.inl (some (0, (lp_272_59 x0 x1 x2 n x3 d).1))) (lp_272_59 x0 x1 x2 n x3 d).2) → tRun E 272 (59, [.inr (11, x0), .inl (0, x1), .inl (0, x2), .inl (0, x3), tu, tu, tu, tu], [], 0, 0, d) K := by
  intro n
  induction n with
  | zero =>
    intro x3  d hS i0 i1 hmp hm  h
    exact lsq_272_59 hx0 p1 p2 0 _ (fun _  _ _ _ _ _ m0 m1 _ => absurd m1 (by omega)) x3  d hS i0 i1 hmp hm  h
  | succ n ih =>
    intro x3  d hS i0 i1 hmp hm  h
    exact lsq_272_59 hx0 p1 p2 ((n + 1 : Nat) : Int) _ (fun x3  d hS i0 i1 hmp  m0 m1 h => ih x3  d hS i0 i1 hmp (by omega)  h) x3  d hS i0 i1 hmp hm  h
theorem kq_272 {E : mO × tW} {K : tK} {d : mD} {x0 x1 x2 : Int} (hS : Safe d) (hx0 : mdB x0) (p1 : -2147483648 ≤ x1 ∧ x1 ≤ 2147483647) (p2 : -2147483648 ≤ x2 ∧ x2 ≤ 2147483647) (hmp : mpP (d (x0 + 1))) (ht : d (x0 + 1) 0 ≤ 999) (hqq : qoP (d (x0 + 1))) (h : (∀ b : Int, (b < x0 ∨ x0 + 1 < b) ∧ (b < x0 + 4 ∨ x0 + 4 < b) → (g_272 x0 x1 x2 d) b = d b) → Safe (g_272 x0 x1 x2 d) → K (.inl (some (0, (v_272 x0 x1 x2 d)))) (g_272 x0 x1 x2 d)) : tCall E 272 [.inr (11, x0), .inl (0, x1), .inl (0, x2)] d K := by
  simp only [v_272, g_272] at h
  refine t_272_0 ?_
  have w0 := mh_0 hS hx0 _ rfl
  have w7 := mh_7 hS hx0 _ rfl
  have w8 := mh_8 hS hx0 _ rfl
  have w9 := mh_9 hS hx0 _ rfl
  have w10 := mh_10 hS hx0 _ rfl
  have w11 := mh_11 hS hx0 _ rfl
  refine k_236 hS hx0 (m_inR (by omega) (by omega)) (fun e3 => ?_)
  refine t_272_6 ?_
  refine ⟨m_inR (by omega) (by omega), fun c0 => ?_, fun c0 => ?_⟩
  · have hS6 : Safe (mset d x0 0 1) := s_11_f0 hS hx0 (by omega)
    rw [mset_eq (d := d) (a := x0) (i := (0 : Int)) (v := (1 : Int))]
    refine ⟨m_inR (by omega) (by omega), fun c1 => ?_, fun c1 => ?_⟩
    · exact (show False by omega).elim
    · have y0 : f_272 x0 x1 x2 d = (0, mset d x0 0 1) := by simp only [f_272, if_pos (show v_236 x0 x1 d = 0 from c0), if_pos (show (0 : Int) < 1 from c1)]
      rw [y0] at h
      exact h (show ∀ b : Int, (b < x0 ∨ x0 + 1 < b) ∧ (b < x0 + 4 ∨ x0 + 4 < b) → (mset d x0 0 1) b = d b from fun b hb => mset_ne (by omega)) hS6
  · refine k_236 hS hx0 (m_inR (by omega) (by omega)) (fun e4 => ?_)
    refine t_272_14 ?_
    refine ⟨m_inR (by omega) (by omega), fun c1 => ?_, fun c1 => ?_⟩
    · refine k_270 hS hx0 (by omega) (by omega) (fun e5 => ?_)
      refine t_272_27 ?_
      refine ⟨m_inR (by omega) (by omega), fun c2 => ?_, fun c2 => ?_⟩
      · have hS7 : Safe (mset d x0 0 2) := s_11_f0 hS hx0 (by omega)
        rw [mset_eq (d := d) (a := x0) (i := (0 : Int)) (v := (2 : Int))]
        refine ⟨m_inR (by omega) (by omega), fun c3 => ?_, fun c3 => ?_⟩
        · exact (show False by omega).elim
        · have y0 : f_272 x0 x1 x2 d = (0, mset d x0 0 2) := by simp only [f_272, if_neg (show ¬ v_236 x0 x1 d = 0 from c0), if_neg (show ¬ v_236 x0 x2 d = 0 from c1), if_pos (show v_270 x0 x1 x2 d = 0 from c2), if_pos (show (0 : Int) < 2 from c3)]
          rw [y0] at h
          exact h (show ∀ b : Int, (b < x0 ∨ x0 + 1 < b) ∧ (b < x0 + 4 ∨ x0 + 4 < b) → (mset d x0 0 2) b = d b from fun b hb => mset_ne (by omega)) hS7
      · have hS8 : Safe (mset d x0 0 0) := s_11_f0 hS hx0 (by omega)
        rw [mset_eq (d := d) (a := x0) (i := (0 : Int)) (v := (0 : Int))]
        refine ⟨m_inR (by omega) (by omega), fun c3 => ?_, fun c3 => ?_⟩
        · refine k_255 hS8 hx0 (fun F4 K4_0 hS9 => ?_)
          refine t_272_51 ?_
          have q5 : (g_255 x0 (mset d x0 0 0)) (x0 + 1) (12 + 68 * x1 + 5) = d (x0 + 1) (12 + 68 * x1 + 5) := (congrFun (F4 (x0 + 1) (by omega)) (12 + 68 * x1 + 5)).trans (congrFun (mset_ne (by omega)) (12 + 68 * x1 + 5))
          have q6 : (g_255 x0 (mset d x0 0 0)) (x0 + 1) (12 + 68 * x2 + 5) = d (x0 + 1) (12 + 68 * x2 + 5) := (congrFun (F4 (x0 + 1) (by omega)) (12 + 68 * x2 + 5)).trans (congrFun (mset_ne (by omega)) (12 + 68 * x2 + 5))
          refine k_229 hS9 hx0 (by omega) (by omega) (by have u1 := hqq x1 (by omega) (by omega) (by omega); have u2 := hqq x2 (by omega) (by omega) (by omega); omega) (by omega) (fun F5 Q5 hS10 => ?_)
          refine t_272_57 ?_
          have q7 : (g_229 x0 x1 x2 (g_255 x0 (mset d x0 0 0))) (x0 + 1) 0 = d (x0 + 1) 0 := ((Q5 0 (by omega)).trans (congrFun (F4 (x0 + 1) (by omega)) 0)).trans (congrFun (mset_ne (by omega)) 0)
          refine lq_272_59 hx0 p1 p2 (200 - 0 : Int).toNat 0  (g_229 x0 x1 x2 (g_255 x0 (mset d x0 0 0))) hS10 (by omega) (by omega) (mpP.of (mh_7 hS hx0 _ rfl) (show ∀ i : Int, i = 7 ∨ (12 ≤ i ∧ i < 420 ∧ (i - 12) % 68 = 2) → (g_229 x0 x1 x2 (g_255 x0 (mset d x0 0 0))) (x0 + 1) i = d (x0 + 1) i from fun i hi => ((Q5 i (by omega)).trans (congrFun (F4 (x0 + 1) (by omega)) i)).trans (congrFun (mset_ne (by omega)) i)) hmp) (by omega) ?_
          intro F hS_
          have y0 : f_272 x0 x1 x2 d = lp_272_59 x0 x1 x2 (200 - 0 : Int).toNat 0 (g_229 x0 x1 x2 (g_255 x0 (mset d x0 0 0))) := by simp only [f_272, if_neg (show ¬ v_236 x0 x1 d = 0 from c0), if_neg (show ¬ v_236 x0 x2 d = 0 from c1), if_neg (show ¬ v_270 x0 x1 x2 d = 0 from c2), if_neg (show ¬ (0 : Int) < 0 from Int.not_lt.mpr c3)]
          rw [y0] at h
          exact h (fun b hb => (F b hb).trans ((show ∀ b : Int, (b < x0 ∨ x0 + 1 < b) ∧ (b < x0 + 4 ∨ x0 + 4 < b) → (g_229 x0 x1 x2 (g_255 x0 (mset d x0 0 0))) b = d b from fun b hb => (F5 b (by omega)).trans ((F4 b (by omega)).trans (mset_ne (by omega)))) b hb)) hS_
        · exact (show False by omega).elim
    · have hS11 : Safe (mset d x0 0 1) := s_11_f0 hS hx0 (by omega)
      rw [mset_eq (d := d) (a := x0) (i := (0 : Int)) (v := (1 : Int))]
      refine ⟨m_inR (by omega) (by omega), fun c2 => ?_, fun c2 => ?_⟩
      · exact (show False by omega).elim
      · have y0 : f_272 x0 x1 x2 d = (0, mset d x0 0 1) := by simp only [f_272, if_neg (show ¬ v_236 x0 x1 d = 0 from c0), if_pos (show v_236 x0 x2 d = 0 from c1), if_pos (show (0 : Int) < 1 from c2)]
        rw [y0] at h
        exact h (show ∀ b : Int, (b < x0 ∨ x0 + 1 < b) ∧ (b < x0 + 4 ∨ x0 + 4 < b) → (mset d x0 0 1) b = d b from fun b hb => mset_ne (by omega)) hS11
theorem kq_288 {E : mO × tW} {K : tK} {d : mD} {x0 x1 x2 : Int} (hS : Safe d) (hx0 : mdB x0) (p1 : -2147483648 ≤ x1 ∧ x1 ≤ 2147483647) (p2 : -2147483648 ≤ x2 ∧ x2 ≤ 2147483647) (hqq : qoP (d (x0 + 1))) (h : (∀ b : Int, (b < x0 ∨ x0 + 2 < b) → (g_288 x0 x1 x2 d) b = d b) → Safe (g_288 x0 x1 x2 d) → K (.inl (some (0, (v_288 x0 x1 x2 d)))) (g_288 x0 x1 x2 d)) : tCall E 288 [.inr (11, x0), .inl (0, x1), .inl (0, x2)] d K := by
  refine t_288_0 ?_
  have w0 := mh_0 hS hx0 _ rfl
  have w7 := mh_7 hS hx0 _ rfl
  have w8 := mh_8 hS hx0 _ rfl
  have w9 := mh_9 hS hx0 _ rfl
  have w10 := mh_10 hS hx0 _ rfl
  have w11 := mh_11 hS hx0 _ rfl
  refine k_236 hS hx0 (m_inR (by omega) (by omega)) (fun e1 => ?_)
  refine t_288_6 ?_
  refine ⟨m_inR (by omega) (by omega), fun c0 => ?_, fun c0 => ?_⟩
  · have hS1 : Safe (mset d x0 0 1) := s_11_f0 hS hx0 (by omega)
    rw [mset_eq (d := d) (a := x0) (i := (0 : Int)) (v := (1 : Int))]
    refine ⟨m_inR (by omega) (by omega), fun c1 => ?_, fun c1 => ?_⟩
    · exact (show False by omega).elim
    · have y0 : v_288 x0 x1 x2 d = 0 := by simp only [v_288, if_pos (show v_236 x0 x1 d = 0 from c0), if_pos (show (0 : Int) < 1 from c1)]
      have y1 : g_288 x0 x1 x2 d = mset d x0 0 1 := by simp only [g_288, if_pos (show v_236 x0 x1 d = 0 from c0), if_pos (show (0 : Int) < 1 from c1)]
      rw [y0] at h
      rw [y1] at h
      exact h (show ∀ b : Int, (b < x0 ∨ x0 + 2 < b) → (mset d x0 0 1) b = d b from fun b hb => mset_ne (by omega)) hS1
  · refine k_236 hS hx0 (m_inR (by omega) (by omega)) (fun e2 => ?_)
    refine t_288_14 ?_
    refine ⟨m_inR (by omega) (by omega), fun c1 => ?_, fun c1 => ?_⟩
    · refine k_270 hS hx0 (by omega) (by omega) (fun e3 => ?_)
      refine t_288_27 ?_
      refine ⟨m_inR (by omega) (by omega), fun c2 => ?_, fun c2 => ?_⟩
      · have hS2 : Safe (mset d x0 0 2) := s_11_f0 hS hx0 (by omega)
        rw [mset_eq (d := d) (a := x0) (i := (0 : Int)) (v := (2 : Int))]
        refine ⟨m_inR (by omega) (by omega), fun c3 => ?_, fun c3 => ?_⟩
        · exact (show False by omega).elim
        · have y0 : v_288 x0 x1 x2 d = 0 := by simp only [v_288, if_neg (show ¬ v_236 x0 x1 d = 0 from c0), if_neg (show ¬ v_236 x0 x2 d = 0 from c1), if_pos (show v_270 x0 x1 x2 d = 0 from c2), if_pos (show (0 : Int) < 2 from c3)]
          have y1 : g_288 x0 x1 x2 d = mset d x0 0 2 := by simp only [g_288, if_neg (show ¬ v_236 x0 x1 d = 0 from c0), if_neg (show ¬ v_236 x0 x2 d = 0 from c1), if_pos (show v_270 x0 x1 x2 d = 0 from c2), if_pos (show (0 : Int) < 2 from c3)]
          rw [y0] at h
          rw [y1] at h
          exact h (show ∀ b : Int, (b < x0 ∨ x0 + 2 < b) → (mset d x0 0 2) b = d b from fun b hb => mset_ne (by omega)) hS2
      · have hS3 : Safe (mset d x0 0 0) := s_11_f0 hS hx0 (by omega)
        rw [mset_eq (d := d) (a := x0) (i := (0 : Int)) (v := (0 : Int))]
        refine ⟨m_inR (by omega) (by omega), fun c3 => ?_, fun c3 => ?_⟩
        · refine k_278 hS3 hx0 (fun F1 hS4 => ?_)
          refine t_288_51 ?_
          have q1 : (g_278 x0 (mset d x0 0 0)) (x0 + 1) (12 + 68 * x1 + 5) = d (x0 + 1) (12 + 68 * x1 + 5) := (congrFun (F1 (x0 + 1) (by omega)) (12 + 68 * x1 + 5)).trans (congrFun (mset_ne (by omega)) (12 + 68 * x1 + 5))
          have q2 : (g_278 x0 (mset d x0 0 0)) (x0 + 1) (12 + 68 * x2 + 5) = d (x0 + 1) (12 + 68 * x2 + 5) := (congrFun (F1 (x0 + 1) (by omega)) (12 + 68 * x2 + 5)).trans (congrFun (mset_ne (by omega)) (12 + 68 * x2 + 5))
          refine k_229 hS4 hx0 (by omega) (by omega) (by have u1 := hqq x1 (by omega) (by omega) (by omega); have u2 := hqq x2 (by omega) (by omega) (by omega); omega) (by omega) (fun F2 Q2 hS5 => ?_)
          refine t_288_57 ?_
          refine k_177 hS5 ?_
          refine t_288_65 ?_
          have q3 := mo_5 hS5 hx0 x2 ((12 + (68 * x2)) + 5) (by omega) (by omega)
          refine ⟨by omega, ?_⟩
          have y0 : v_288 x0 x1 x2 d = (g_229 x0 x1 x2 (g_278 x0 (mset d x0 0 0))) (x0 + 1) ((12 + (68 * x2)) + 5) := by simp only [v_288, if_neg (show ¬ v_236 x0 x1 d = 0 from c0), if_neg (show ¬ v_236 x0 x2 d = 0 from c1), if_neg (show ¬ v_270 x0 x1 x2 d = 0 from c2), if_neg (show ¬ (0 : Int) < 0 from Int.not_lt.mpr c3)]
          have y1 : g_288 x0 x1 x2 d = g_229 x0 x1 x2 (g_278 x0 (mset d x0 0 0)) := by simp only [g_288, if_neg (show ¬ v_236 x0 x1 d = 0 from c0), if_neg (show ¬ v_236 x0 x2 d = 0 from c1), if_neg (show ¬ v_270 x0 x1 x2 d = 0 from c2), if_neg (show ¬ (0 : Int) < 0 from Int.not_lt.mpr c3)]
          rw [y0] at h
          rw [y1] at h
          exact h (show ∀ b : Int, (b < x0 ∨ x0 + 2 < b) → (g_229 x0 x1 x2 (g_278 x0 (mset d x0 0 0))) b = d b from fun b hb => (F2 b (by omega)).trans ((F1 b (by omega)).trans (mset_ne (by omega)))) hS5
        · exact (show False by omega).elim
    · have hS6 : Safe (mset d x0 0 1) := s_11_f0 hS hx0 (by omega)
      rw [mset_eq (d := d) (a := x0) (i := (0 : Int)) (v := (1 : Int))]
      refine ⟨m_inR (by omega) (by omega), fun c2 => ?_, fun c2 => ?_⟩
      · exact (show False by omega).elim
      · have y0 : v_288 x0 x1 x2 d = 0 := by simp only [v_288, if_neg (show ¬ v_236 x0 x1 d = 0 from c0), if_pos (show v_236 x0 x2 d = 0 from c1), if_pos (show (0 : Int) < 1 from c2)]
        have y1 : g_288 x0 x1 x2 d = mset d x0 0 1 := by simp only [g_288, if_neg (show ¬ v_236 x0 x1 d = 0 from c0), if_pos (show v_236 x0 x2 d = 0 from c1), if_pos (show (0 : Int) < 1 from c2)]
        rw [y0] at h
        rw [y1] at h
        exact h (show ∀ b : Int, (b < x0 ∨ x0 + 2 < b) → (mset d x0 0 1) b = d b from fun b hb => mset_ne (by omega)) hS6
/-! ===== load keeps the rows' two witnesses ===== -/
theorem safe207 {E : mO × tW} {d e2 : mD} (hT : TKL E) (hS : Safe d) (hh : tSh E.2 d) (a1 : ∀ b, ¬ b = 769 → ¬ b = 774 → e2 b = d b) (a2 : ∀ j, ¬ j = 11 → ¬ j = 12 → e2 769 j = d 769 j) (a3 : e2 769 11 = 0 ∧ e2 769 12 = -1) (a4 : ∀ i, 0 ≤ i → i < 3116 → e2 774 i = d 770 i) (a5 : ∀ i, 3116 ≤ i → e2 774 i = d 774 i) : Safe e2 ∧ tSh E.2 e2 := by
  have hS1 : Safe (mset (mset d 769 11 0) 769 12 (-1)) := s_11_f12 (s_11_f11 hS rfl (by decide)) rfl (by decide)
  have k11 : E.2.1 769 = ((363 / 32 : Nat) : Int) := tobj (hT.t 11 769 (by decide)) (by decide)
  have hh1 : tSh E.2 (mset (mset d 769 11 0) 769 12 (-1)) := (hh.setF (g := 363) (v := 0) k11 (by decide) (by decide)).setF (g := 364) (v := -1) k11 (by decide) (by decide)
  have e9 : e2 769 = mset (mset d 769 11 0) 769 12 (-1) 769 := by
    funext j
    by_cases c : j = 12
    · rw [ms_e rfl c, c]
      exact a3.2
    · rw [ms_i c]
      by_cases c2 : j = 11
      · rw [ms_e rfl c2, c2]
        exact a3.1
      · rw [ms_i c2]
        exact a2 j c2 c
  have eo : ∀ b, b ≠ 774 → e2 b = mset (mset d 769 11 0) 769 12 (-1) b := fun b hb => by
    by_cases c : b = 769
    · rw [c]; exact e9
    · rw [a1 b c hb]
      funext j
      rw [ms_a c, ms_a c]
  generalize mset (mset d 769 11 0) 769 12 (-1) = u at *
  refine ⟨fun a i h0 => ?_, ?_⟩
  · by_cases c : a = 774
    · rw [c]
      by_cases q : i < 3116
      · rw [a4 i h0 q]
        have := hS 770 i h0
        exact this
      · rw [a5 i (by omega)]
        exact hS 774 i h0
    · rw [eo a c]
      exact hS1 a i h0
  · obtain ⟨p1, p2⟩ := hh.1 769 357 (by decide) (by decide) k11 (by decide)
    have p2 : tokV E.2 (.inr (25, 774)) := p2
    exact hh1.oth (t := 25) p2.2.1 (by decide) (by decide) eo
theorem rpLoad {E : mO × tW} {d : mD} (hT : TKL E) (hI : Inv E d) (hS1 : Safe (g_303 0 778 d)) (hh1 : tSh E.2 (g_303 0 778 d)) (hf : ∀ b, 642 < b → ¬ b = 778 → g_303 0 778 d b = d b) (r : RP d) (he : ER (g_207 769 (g_303 0 778 d))) : RP (g_207 769 (g_303 0 778 d)) := by
  refine ⟨?_, he⟩
  clear he
  obtain ⟨hS, hh, hi⟩ := hI
  have h70 := hf 770 (by decide) (by decide)
  have h71 := hf 771 (by decide) (by decide)
  have h72 := hf 772 (by decide) (by decide)
  have h75 := hf 775 (by decide) (by decide)
  have h69 := hf 769 (by decide) (by decide)
  have h76 := hf 776 (by decide) (by decide)
  generalize g_303 0 778 d = D at *
  obtain ⟨e2, a1, a2, a3, a4, a6, a5⟩ := f207 (d := D)
  obtain ⟨s1, s2⟩ := safe207 hT hS1 hh1 a1 a2 a3 a4 a6
  have ht : TextR d e2 := hi.2.2.2.fr rfl rfl (by rw [a2 9 (by decide) (by decide), h69]) (by rw [a1 776 (by decide) (by decide), h76])
  obtain ⟨p1, p2, p3, p4, p5, p6, p7⟩ := p_206 (E := E) (x0 := 769) s1 rfl ⟨hT.t 11 769 (by decide), trivial⟩ s2
  unfold g_207
  rw [a5]
  by_cases c : g_206 769 e2 769 13 = 0
  · rw [if_pos c]
    dsimp only
    refine RW.new ?_ ?_ ?_ ?_
    · have e : mset (mset (mset (mset (mset (g_206 769 e2) 769 9 0) 769 0 0) 769 7 0) 775 0 0) 775 1 0 770 = g_206 769 e2 770 := by
        funext j
        rw [ms_a (by decide), ms_a (by decide), ms_a (by decide), ms_a (by decide), ms_a (by decide)]
      rw [e]
      exact p5
    · rw [ms_a (by decide), ms_a (by decide), ms_e rfl rfl]
    · rw [ms_i (by decide), ms_e rfl rfl]
    · exact ms_e rfl rfl
  · rw [if_neg c]
    obtain ⟨Z, b1, b2, b3⟩ := back207 (d := mset (mset (g_206 769 e2) 769 9 0) 769 0 1)
    rw [b1]
    dsimp only
    have z : ∀ b, ¬ b = 769 → ¬ b = 770 → Z b = g_206 769 e2 b := fun b x y => by
      rw [b2 b y]
      funext j
      rw [ms_a x, ms_a x]
    have q7 : g_206 769 e2 769 7 = d 769 7 := by
      obtain ⟨D', l1, -⟩ := loadAll hT.1 hT.k (y := 778) ht hS hh
      rw [l1.2.2 7 (by decide), a2 7 (by decide) (by decide), h69]
    refine r.1.q (fun i x y => ?_) ?_ (fun b hb => ?_)
    · rw [b3 i x y, ms_a (by decide), ms_a (by decide), p2 774 (by decide), a4 i x y, h70]
    · rw [b2 769 (by decide), ms_i (by decide), ms_i (by decide), q7]
    · rw [z b (by omega) (by omega), p2 b (by omega), a1 b (by omega) (by omega)]
      rcases hb with hb | hb | hb
      · rw [hb]; exact h71
      · rw [hb]; exact h72
      · rw [hb]; exact h75
/-! ===== after each call: in step again (the pieces printed by a program of mine) ===== -/
theorem pq_268 {E : mO × tW} {d : mD} {x0 x1 : Int} (hS : Safe d) (hx0 : mdB x0) (p1 : -2147483648 ≤ x1 ∧ x1 ≤ 2147483647) (hmp : mpP (d (x0 + 1))) (ht : d (x0 + 1) 0 ≤ 999) (hqq : qoP (d (x0 + 1))) (hn : d (x0 + 1) 9 ≤ 60) (ha : tokL E.2 [.inr (11, x0), .inl (0, x1)]) (hh : tSh E.2 d) : tSh E.2 (g_268 x0 x1 d) ∧ ((∀ b : Int, (b < x0 ∨ x0 + 1 < b) ∧ (b < x0 + 4 ∨ x0 + 4 < b) → (g_268 x0 x1 d) b = d b)) ∧ (Safe (g_268 x0 x1 d)) :=
  tAdq (E := E) ha hh (kq_268 hS hx0 p1 hmp ht hqq hn (fun z0 z1 => fun hsh => ⟨hsh, z0, z1⟩))
theorem pq_269 {E : mO × tW} {d : mD} {x0 : Int} (hS : Safe d) (hx0 : mdB x0) (hmp : mpP (d (x0 + 1))) (ht : d (x0 + 1) 0 ≤ 999) (hqq : qoP (d (x0 + 1))) (hn : d (x0 + 1) 9 ≤ 60) (ha : tokL E.2 [.inr (11, x0)]) (hh : tSh E.2 d) : tSh E.2 (g_269 x0 d) ∧ ((∀ b : Int, (b < x0 ∨ x0 + 1 < b) ∧ (b < x0 + 4 ∨ x0 + 4 < b) → (g_269 x0 d) b = d b)) ∧ (Safe (g_269 x0 d)) :=
  tAdq (E := E) ha hh (kq_269 hS hx0 hmp ht hqq hn (fun z0 z1 => fun hsh => ⟨hsh, z0, z1⟩))
theorem pq_272 {E : mO × tW} {d : mD} {x0 x1 x2 : Int} (hS : Safe d) (hx0 : mdB x0) (p1 : -2147483648 ≤ x1 ∧ x1 ≤ 2147483647) (p2 : -2147483648 ≤ x2 ∧ x2 ≤ 2147483647) (hmp : mpP (d (x0 + 1))) (ht : d (x0 + 1) 0 ≤ 999) (hqq : qoP (d (x0 + 1))) (ha : tokL E.2 [.inr (11, x0), .inl (0, x1), .inl (0, x2)]) (hh : tSh E.2 d) : tSh E.2 (g_272 x0 x1 x2 d) ∧ ((∀ b : Int, (b < x0 ∨ x0 + 1 < b) ∧ (b < x0 + 4 ∨ x0 + 4 < b) → (g_272 x0 x1 x2 d) b = d b)) ∧ (Safe (g_272 x0 x1 x2 d)) :=
  tAdq (E := E) ha hh (kq_272 hS hx0 p1 p2 hmp ht hqq (fun z0 z1 => fun hsh => ⟨hsh, z0, z1⟩))
theorem pq_288 {E : mO × tW} {d : mD} {x0 x1 x2 : Int} (hS : Safe d) (hx0 : mdB x0) (p1 : -2147483648 ≤ x1 ∧ x1 ≤ 2147483647) (p2 : -2147483648 ≤ x2 ∧ x2 ≤ 2147483647) (hqq : qoP (d (x0 + 1))) (ha : tokL E.2 [.inr (11, x0), .inl (0, x1), .inl (0, x2)]) (hh : tSh E.2 d) : tSh E.2 (g_288 x0 x1 x2 d) ∧ ((∀ b : Int, (b < x0 ∨ x0 + 2 < b) → (g_288 x0 x1 x2 d) b = d b)) ∧ (Safe (g_288 x0 x1 x2 d)) :=
  tAdq (E := E) ha hh (kq_288 hS hx0 p1 p2 hqq (fun z0 z1 => fun hsh => ⟨hsh, z0, z1⟩))
def Inv2 (E : mO × tW) (d : mD) : Prop := Inv E d ∧ RP d
theorem n7691 : (769 : Int) + 1 = 770 := by decide
theorem qoI {w : Row} (hg : GG w) : qoP w := fun o a _ c => Int.le_trans (hg.2.1 o a c).2.2.2.2.1.2 (by decide)
theorem rkI {w : Row} (hg : GG w) : rkP w := Int.le_of_eq hg.2.2.2.2.2.2.1
theorem puI {d : mD} {p : Int} (h : OKR 1 d (d 770)) : puR 0 p d := by
  by_cases c : 0 ≤ p ∧ p < d 770 8
  · have := purse h.1 h.2.2.1 h.2.2.2.2 c.1 c.2
    have : 0 ≤ d 13 p ∧ d 13 p ≤ 19800 := this
    refine Or.inr (Or.inr ?_)
    rw [n01, show (1 : Int) + 10 = 11 by decide, show (11 : Int) + 2 = 13 by decide]
    omega
  · have o8 : d 11 0 = d 770 8 := h.2.2.2.2.2.2.2.1.1
    unfold puR
    rw [n01, show (1 : Int) + 10 = 11 by decide, o8]
    omega
theorem hwqI {d D : mD} {t : Int} (h : OKR 1 d (d 770)) (e : D 770 = d 770) : t < 0 ∨ D (769 + 1) 9 ≤ t ∨ ¬ D (769 + 1) (452 + 24 * t + 4) = 0 ∨ (0 ≤ v_221 769 t D ∧ 1 ≤ D (769 + 1) (12 + 68 * D (769 + 1) (452 + 24 * t + 1) + 5)) := by
  rw [n7691, m_v_221, e]
  by_cases c : 0 ≤ t ∧ t < d 770 9
  · by_cases c2 : d 770 (452 + 24 * t + 4) = 0
    · obtain ⟨-, p2, p3, -⟩ := placeIn h.1 h.2.2.2.2 c c2
      exact Or.inr (Or.inr (Or.inr ⟨p2, by omega⟩))
    · exact Or.inr (Or.inr (Or.inl c2))
  · omega
theorem opLoad {E : mO × tW} {d : mD} (hT : TKL E) (hI : Inv E d) : OPR d (g_303 0 778 d) (g_207 769 (g_303 0 778 d)) (v_303 0 778 d) (v_207 769 (g_303 0 778 d)) := by
  obtain ⟨hS, hh, hi⟩ := id hI
  obtain ⟨p1, p2, p3, p4⟩ := p_303 (E := E) (x0 := 0) (x1 := 778) hT.1 hT.2.1 hS rfl rfl ⟨hT.t 10 0 (by decide), hT.t 30 778 (by decide), trivial⟩ hh
  have hf : ∀ b, 642 < b → ¬ b = 778 → g_303 0 778 d b = d b := fun b x y => p3 b (by omega)
  obtain ⟨q1, q2, -, q4⟩ := load303 hT.1 hT.k hi hS hh hf hi.2.1.1
  refine ⟨q2, ?_, fun z => ?_, fun r => rpLoad hT hI p4 p1 hf r q4⟩
  · rcases q1 with ⟨a, b, c, e⟩ | ⟨a, b⟩
    · omega
    · omega
  · rcases q1 with ⟨a, b, c, e⟩ | ⟨a, b⟩
    · exact ⟨b.symm, inI.of (by omega)⟩
    · omega
theorem iv_0 {E : mO × tW} {d : mD} {a0 : Int} {a1 : Int} {a2 : Int} {a3 : Int} {a4 : Int} (hT : TKL E) (h : Inv2 E d) (h0 : inI a0) (h1 : inI a1) (h2 : inI a2) (h3 : inI a3) (h4 : inI a4) : Safe (g_301 0 a0 a1 a2 a3 a4 778 d) ∧ (g_301 0 a0 a1 a2 a3 a4 778 d) 770 = d 770 ∧ Inv2 E (g_186 769 a0 a1 a2 a3 a4 (g_301 0 a0 a1 a2 a3 a4 778 d)) ∧ (g_186 769 a0 a1 a2 a3 a4 (g_301 0 a0 a1 a2 a3 a4 778 d)) 778 = (g_301 0 a0 a1 a2 a3 a4 778 d) 778 ∧ (0 ≤ (v_301 0 a0 a1 a2 a3 a4 778 d) ∧ (v_301 0 a0 a1 a2 a3 a4 778 d) ≤ 3) ∧ OPR d (g_301 0 a0 a1 a2 a3 a4 778 d) (g_186 769 a0 a1 a2 a3 a4 (g_301 0 a0 a1 a2 a3 a4 778 d)) (v_301 0 a0 a1 a2 a3 a4 778 d) (v_186 769 a0 a1 a2 a3 a4 (g_301 0 a0 a1 a2 a3 a4 778 d)) := by
  have hg := h.1.2.2.1.1
  have pw := p_301 (E := E) (d := d) (x0 := 0) (x1 := a0) (x2 := a1) (x3 := a2) (x4 := a3) (x5 := a4) (x6 := 778) h.1.1 rfl rfl h0 h1 h2 h3 h4 ⟨hT.t 10 0 (by decide), trivial, trivial, trivial, trivial, trivial, hT.t 30 778 (by decide), trivial⟩ h.1.2.1
  have hS1 := pw.2.2.2
  have hh1 := pw.1
  have F1 := pw.2.2.1
  have e70 : (g_301 0 a0 a1 a2 a3 a4 778 d) 770 = d 770 := F1 770 (by decide)
  have pr := p_186 (E := E) (d := (g_301 0 a0 a1 a2 a3 a4 778 d)) (x0 := 769) (x1 := a0) (x2 := a1) (x3 := a2) (x4 := a3) (x5 := a4) hS1 rfl h0 h1 h2 h3 h4 ⟨hT.t 11 769 (by decide), trivial, trivial, trivial, trivial, trivial, trivial⟩ hh1
  have hS2 := pr.2.2.2
  have hh2 := pr.1
  have e78 : (g_186 769 a0 a1 a2 a3 a4 (g_301 0 a0 a1 a2 a3 a4 778 d)) 778 = (g_301 0 a0 a1 a2 a3 a4 778 d) 778 := pr.2.2.1 778 (by decide)
  have rv := pw.2.1
  have op : OPR d (g_301 0 a0 a1 a2 a3 a4 778 d) (g_186 769 a0 a1 a2 a3 a4 (g_301 0 a0 a1 a2 a3 a4 778 d)) (v_301 0 a0 a1 a2 a3 a4 778 d) (v_186 769 a0 a1 a2 a3 a4 (g_301 0 a0 a1 a2 a3 a4 778 d)) := opApp h.1.2.2
  exact ⟨hS1, e70, ⟨⟨hS2, hh2, op.1⟩, op.2.2.2 h.2⟩, e78, rv, op⟩
theorem iv_1 {E : mO × tW} {d : mD} {a0 : Int} (hT : TKL E) (h : Inv2 E d) (h0 : inI a0) : Safe (g_302 0 a0 778 d) ∧ (g_302 0 a0 778 d) 770 = d 770 ∧ Inv2 E (g_187 769 a0 (g_302 0 a0 778 d)) ∧ (g_187 769 a0 (g_302 0 a0 778 d)) 778 = (g_302 0 a0 778 d) 778 ∧ (0 ≤ (v_302 0 a0 778 d) ∧ (v_302 0 a0 778 d) ≤ 3) ∧ OPR d (g_302 0 a0 778 d) (g_187 769 a0 (g_302 0 a0 778 d)) (v_302 0 a0 778 d) (v_187 769 a0 (g_302 0 a0 778 d)) := by
  have hg := h.1.2.2.1.1
  have pw := p_302 (E := E) (d := d) (x0 := 0) (x1 := a0) (x2 := 778) h.1.1 rfl rfl h0 ⟨hT.t 10 0 (by decide), trivial, hT.t 30 778 (by decide), trivial⟩ h.1.2.1
  have hS1 := pw.2.2.2
  have hh1 := pw.1
  have F1 := pw.2.2.1
  have e70 : (g_302 0 a0 778 d) 770 = d 770 := F1 770 (by decide)
  have pr := p_187 (E := E) (d := (g_302 0 a0 778 d)) (x0 := 769) (x1 := a0) hS1 rfl h0 ⟨hT.t 11 769 (by decide), trivial, trivial⟩ hh1
  have hS2 := pr.2.2.2
  have hh2 := pr.1
  have e78 : (g_187 769 a0 (g_302 0 a0 778 d)) 778 = (g_302 0 a0 778 d) 778 := pr.2.2.1 778 (by decide)
  have rv := pw.2.1
  have op : OPR d (g_302 0 a0 778 d) (g_187 769 a0 (g_302 0 a0 778 d)) (v_302 0 a0 778 d) (v_187 769 a0 (g_302 0 a0 778 d)) := opTrunc h.1.2.2
  exact ⟨hS1, e70, ⟨⟨hS2, hh2, op.1⟩, op.2.2.2 h.2⟩, e78, rv, op⟩
theorem iv_2 {E : mO × tW} {d : mD}  (hT : TKL E) (h : Inv2 E d) : Safe (g_303 0 778 d) ∧ (g_303 0 778 d) 770 = d 770 ∧ Inv2 E (g_207 769 (g_303 0 778 d)) ∧ (g_207 769 (g_303 0 778 d)) 778 = (g_303 0 778 d) 778 ∧ (0 ≤ (v_303 0 778 d) ∧ (v_303 0 778 d) ≤ 3) ∧ OPR d (g_303 0 778 d) (g_207 769 (g_303 0 778 d)) (v_303 0 778 d) (v_207 769 (g_303 0 778 d)) := by
  have hg := h.1.2.2.1.1
  have pw := p_303 (E := E) (d := d) (x0 := 0) (x1 := 778) hT.1 hT.2.1 h.1.1 rfl rfl ⟨hT.t 10 0 (by decide), hT.t 30 778 (by decide), trivial⟩ h.1.2.1
  have hS1 := pw.2.2.2
  have hh1 := pw.1
  have F1 := pw.2.2.1
  have e70 : (g_303 0 778 d) 770 = d 770 := F1 770 (by decide)
  have pr := p_207 (E := E) (d := (g_303 0 778 d)) (x0 := 769) hS1 rfl ⟨hT.t 11 769 (by decide), trivial⟩ hh1
  have hS2 := pr.2.2
  have hh2 := pr.1
  have e78 : (g_207 769 (g_303 0 778 d)) 778 = (g_303 0 778 d) 778 := pr.2.1 778 (by decide)
  have rv := pw.2.1
  have op : OPR d (g_303 0 778 d) (g_207 769 (g_303 0 778 d)) (v_303 0 778 d) (v_207 769 (g_303 0 778 d)) := opLoad hT h.1
  exact ⟨hS1, e70, ⟨⟨hS2, hh2, op.1⟩, op.2.2.2 h.2⟩, e78, rv, op⟩
theorem iv_3 {E : mO × tW} {d : mD}  (hT : TKL E) (h : Inv2 E d) : Safe d ∧ d 770 = d 770 ∧ Inv2 E (g_208 769 d) ∧ (g_208 769 d) 778 = d 778 := by
  have hg := h.1.2.2.1.1
  have hS1 := h.1.1
  have hh1 := h.1.2.1
  have e70 : d 770 = d 770 := rfl
  have pr := p_208 (E := E) (d := d) (x0 := 769) hS1 rfl ⟨hT.t 11 769 (by decide), trivial⟩ hh1
  have hS2 := pr.2.2
  have hh2 := pr.1
  have e78 : (g_208 769 d) 778 = d 778 := pr.2.1 778 (by decide)
  have q : QR d (g_208 769 d) := q_208.qr
  exact ⟨hS1, e70, ⟨⟨hS2, hh2, h.1.2.2.qr (fun _ _ _ _ => rfl) q⟩, q.rp h.2 rfl rfl (fun _ _ => rfl)⟩, e78⟩
theorem iv_4 {E : mO × tW} {d : mD}  (hT : TKL E) (h : Inv2 E d) : Safe d ∧ d 770 = d 770 ∧ Inv2 E (g_209 769 d) ∧ (g_209 769 d) 778 = d 778 := by
  have hg := h.1.2.2.1.1
  have hS1 := h.1.1
  have hh1 := h.1.2.1
  have e70 : d 770 = d 770 := rfl
  have pr := p_209 (E := E) (d := d) (x0 := 769) hS1 rfl ⟨hT.t 11 769 (by decide), trivial⟩ hh1
  have hS2 := pr.2.2
  have hh2 := pr.1
  have e78 : (g_209 769 d) 778 = d 778 := pr.2.1 778 (by decide)
  have q : QR d (g_209 769 d) := q_209.qr
  exact ⟨hS1, e70, ⟨⟨hS2, hh2, h.1.2.2.qr (fun _ _ _ _ => rfl) q⟩, q.rp h.2 rfl rfl (fun _ _ => rfl)⟩, e78⟩
theorem iv_5 {E : mO × tW} {d : mD} {a0 : Int} (hT : TKL E) (h : Inv2 E d) (h0 : 0 ≤ a0 ∧ a0 ≤ 1) : Safe (g_304 0 a0 778 d) ∧ (g_304 0 a0 778 d) 770 = d 770 ∧ Inv2 E (g_211 769 a0 (g_304 0 a0 778 d)) ∧ (g_211 769 a0 (g_304 0 a0 778 d)) 778 = (g_304 0 a0 778 d) 778 ∧ (0 ≤ (v_304 0 a0 778 d) ∧ (v_304 0 a0 778 d) ≤ 3) ∧ OPR d (g_304 0 a0 778 d) (g_211 769 a0 (g_304 0 a0 778 d)) (v_304 0 a0 778 d) (v_211 769 a0 (g_304 0 a0 778 d)) := by
  have hg := h.1.2.2.1.1
  have pw := p_304 (E := E) (d := d) (x0 := 0) (x1 := a0) (x2 := 778) h.1.1 rfl rfl ⟨by omega, by omega⟩ ⟨hT.t 10 0 (by decide), trivial, hT.t 30 778 (by decide), trivial⟩ h.1.2.1
  have hS1 := pw.2.2.2
  have hh1 := pw.1
  have F1 := pw.2.2.1
  have e70 : (g_304 0 a0 778 d) 770 = d 770 := F1 770 (by decide)
  have pr := p_211 (E := E) (d := (g_304 0 a0 778 d)) (x0 := 769) (x1 := a0) hS1 rfl h0 ⟨hT.t 11 769 (by decide), trivial, trivial⟩ hh1
  have hS2 := pr.2.2
  have hh2 := pr.1
  have e78 : (g_211 769 a0 (g_304 0 a0 778 d)) 778 = (g_304 0 a0 778 d) 778 := pr.2.1 778 (by decide)
  have rv := pw.2.1
  have op : OPR d (g_304 0 a0 778 d) (g_211 769 a0 (g_304 0 a0 778 d)) (v_304 0 a0 778 d) (v_211 769 a0 (g_304 0 a0 778 d)) := opFind h.1.2.2
  exact ⟨hS1, e70, ⟨⟨hS2, hh2, op.1⟩, op.2.2.2 h.2⟩, e78, rv, op⟩
theorem iv_6 {E : mO × tW} {d : mD} {a0 : Int} (hT : TKL E) (h : Inv2 E d) (h0 : inI a0) : Safe (g_305 0 a0 778 d) ∧ (g_305 0 a0 778 d) 770 = d 770 ∧ Inv2 E (g_239 769 a0 (g_305 0 a0 778 d)) ∧ (g_239 769 a0 (g_305 0 a0 778 d)) 778 = (g_305 0 a0 778 d) 778 ∧ (0 ≤ (v_305 0 a0 778 d) ∧ (v_305 0 a0 778 d) ≤ 3) := by
  have hg := h.1.2.2.1.1
  have pw := p_305 (E := E) (d := d) (x0 := 0) (x1 := a0) (x2 := 778) h.1.1 rfl rfl h0 ⟨hT.t 10 0 (by decide), trivial, hT.t 30 778 (by decide), trivial⟩ h.1.2.1
  have hS1 := pw.2.2.2
  have hh1 := pw.1
  have F1 := pw.2.2.1
  have e70 : (g_305 0 a0 778 d) 770 = d 770 := F1 770 (by decide)
  have pr := p_239 (E := E) (d := (g_305 0 a0 778 d)) (x0 := 769) (x1 := a0) hS1 rfl h0 ⟨hT.t 11 769 (by decide), trivial, trivial⟩ hh1
  have hS2 := pr.2.2
  have hh2 := pr.1
  have e78 : (g_239 769 a0 (g_305 0 a0 778 d)) 778 = (g_305 0 a0 778 d) 778 := pr.2.1 778 (by decide)
  have rv := pw.2.1
  have q : QR (g_305 0 a0 778 d) (g_239 769 a0 (g_305 0 a0 778 d)) := q_239.qr
  have c : QC d (g_305 0 a0 778 d) := fun b x y z => F1 b (by omega)
  exact ⟨hS1, e70, ⟨⟨hS2, hh2, h.1.2.2.qr c q⟩, q.rp h.2 e70 (by rw [F1 769 (by decide)]) (fun b hb => F1 b (by omega))⟩, e78, rv⟩
theorem iv_7 {E : mO × tW} {d : mD} {a0 : Int} (hT : TKL E) (h : Inv2 E d) (h0 : inI a0) : Safe (g_306 0 a0 778 d) ∧ (g_306 0 a0 778 d) 770 = d 770 ∧ Inv2 E (g_240 769 a0 (g_306 0 a0 778 d)) ∧ (g_240 769 a0 (g_306 0 a0 778 d)) 778 = (g_306 0 a0 778 d) 778 ∧ (0 ≤ (v_306 0 a0 778 d) ∧ (v_306 0 a0 778 d) ≤ 3) := by
  have hg := h.1.2.2.1.1
  have pw := p_306 (E := E) (d := d) (x0 := 0) (x1 := a0) (x2 := 778) h.1.1 rfl rfl h0 ⟨hT.t 10 0 (by decide), trivial, hT.t 30 778 (by decide), trivial⟩ h.1.2.1
  have hS1 := pw.2.2.2
  have hh1 := pw.1
  have F1 := pw.2.2.1
  have e70 : (g_306 0 a0 778 d) 770 = d 770 := F1 770 (by decide)
  have pr := p_240 (E := E) (d := (g_306 0 a0 778 d)) (x0 := 769) (x1 := a0) hS1 rfl h0 ⟨hT.t 11 769 (by decide), trivial, trivial⟩ hh1
  have hS2 := pr.2.2
  have hh2 := pr.1
  have e78 : (g_240 769 a0 (g_306 0 a0 778 d)) 778 = (g_306 0 a0 778 d) 778 := pr.2.1 778 (by decide)
  have rv := pw.2.1
  have q : QR (g_306 0 a0 778 d) (g_240 769 a0 (g_306 0 a0 778 d)) := q_240.qr
  have c : QC d (g_306 0 a0 778 d) := fun b x y z => F1 b (by omega)
  exact ⟨hS1, e70, ⟨⟨hS2, hh2, h.1.2.2.qr c q⟩, q.rp h.2 e70 (by rw [F1 769 (by decide)]) (fun b hb => F1 b (by omega))⟩, e78, rv⟩
theorem iv_8 {E : mO × tW} {d : mD} {a0 : Int} {a1 : Int} (hT : TKL E) (h : Inv2 E d) (h0 : inI a0) (h1 : inI a1) : Safe (g_307 0 a0 a1 778 d) ∧ (g_307 0 a0 a1 778 d) 770 = d 770 ∧ Inv2 E (g_241 769 a0 a1 (g_307 0 a0 a1 778 d)) ∧ (g_241 769 a0 a1 (g_307 0 a0 a1 778 d)) 778 = (g_307 0 a0 a1 778 d) 778 ∧ (0 ≤ (v_307 0 a0 a1 778 d) ∧ (v_307 0 a0 a1 778 d) ≤ 3) := by
  have hg := h.1.2.2.1.1
  have pw := p_307 (E := E) (d := d) (x0 := 0) (x1 := a0) (x2 := a1) (x3 := 778) h.1.1 rfl rfl h0 h1 ⟨hT.t 10 0 (by decide), trivial, trivial, hT.t 30 778 (by decide), trivial⟩ h.1.2.1
  have hS1 := pw.2.2.2
  have hh1 := pw.1
  have F1 := pw.2.2.1
  have e70 : (g_307 0 a0 a1 778 d) 770 = d 770 := F1 770 (by decide)
  have pr := p_241 (E := E) (d := (g_307 0 a0 a1 778 d)) (x0 := 769) (x1 := a0) (x2 := a1) hS1 rfl h0 h1 ⟨hT.t 11 769 (by decide), trivial, trivial, trivial⟩ hh1
  have hS2 := pr.2.2
  have hh2 := pr.1
  have e78 : (g_241 769 a0 a1 (g_307 0 a0 a1 778 d)) 778 = (g_307 0 a0 a1 778 d) 778 := pr.2.1 778 (by decide)
  have rv := pw.2.1
  have q : QR (g_307 0 a0 a1 778 d) (g_241 769 a0 a1 (g_307 0 a0 a1 778 d)) := q_241.qr
  have c : QC d (g_307 0 a0 a1 778 d) := fun b x y z => F1 b (by omega)
  exact ⟨hS1, e70, ⟨⟨hS2, hh2, h.1.2.2.qr c q⟩, q.rp h.2 e70 (by rw [F1 769 (by decide)]) (fun b hb => F1 b (by omega))⟩, e78, rv⟩
theorem iv_9 {E : mO × tW} {d : mD} {a0 : Int} {a1 : Int} (hT : TKL E) (h : Inv2 E d) (h0 : inI a0) (h1 : inI a1) : Safe (g_308 0 a0 a1 778 d) ∧ (g_308 0 a0 a1 778 d) 770 = d 770 ∧ Inv2 E (g_242 769 a0 a1 (g_308 0 a0 a1 778 d)) ∧ (g_242 769 a0 a1 (g_308 0 a0 a1 778 d)) 778 = (g_308 0 a0 a1 778 d) 778 ∧ (0 ≤ (v_308 0 a0 a1 778 d) ∧ (v_308 0 a0 a1 778 d) ≤ 3) := by
  have hg := h.1.2.2.1.1
  have pw := p_308 (E := E) (d := d) (x0 := 0) (x1 := a0) (x2 := a1) (x3 := 778) h.1.1 rfl rfl h0 h1 ⟨hT.t 10 0 (by decide), trivial, trivial, hT.t 30 778 (by decide), trivial⟩ h.1.2.1
  have hS1 := pw.2.2.2
  have hh1 := pw.1
  have F1 := pw.2.2.1
  have e70 : (g_308 0 a0 a1 778 d) 770 = d 770 := F1 770 (by decide)
  have pr := p_242 (E := E) (d := (g_308 0 a0 a1 778 d)) (x0 := 769) (x1 := a0) (x2 := a1) hS1 rfl h0 h1 ⟨hT.t 11 769 (by decide), trivial, trivial, trivial⟩ hh1
  have hS2 := pr.2.2
  have hh2 := pr.1
  have e78 : (g_242 769 a0 a1 (g_308 0 a0 a1 778 d)) 778 = (g_308 0 a0 a1 778 d) 778 := pr.2.1 778 (by decide)
  have rv := pw.2.1
  have q : QR (g_308 0 a0 a1 778 d) (g_242 769 a0 a1 (g_308 0 a0 a1 778 d)) := q_242.qr
  have c : QC d (g_308 0 a0 a1 778 d) := fun b x y z => F1 b (by omega)
  exact ⟨hS1, e70, ⟨⟨hS2, hh2, h.1.2.2.qr c q⟩, q.rp h.2 e70 (by rw [F1 769 (by decide)]) (fun b hb => F1 b (by omega))⟩, e78, rv⟩
theorem iv_10 {E : mO × tW} {d : mD} {a0 : Int} {a1 : Int} (hT : TKL E) (h : Inv2 E d) (h0 : inI a0) (h1 : inI a1) : Safe (g_309 0 a0 a1 778 d) ∧ (g_309 0 a0 a1 778 d) 770 = d 770 ∧ Inv2 E (g_246 769 a0 a1 (g_309 0 a0 a1 778 d)) ∧ (g_246 769 a0 a1 (g_309 0 a0 a1 778 d)) 778 = (g_309 0 a0 a1 778 d) 778 ∧ (0 ≤ (v_309 0 a0 a1 778 d) ∧ (v_309 0 a0 a1 778 d) ≤ 3) := by
  have hg := h.1.2.2.1.1
  have pw := p_309 (E := E) (d := d) (x0 := 0) (x1 := a0) (x2 := a1) (x3 := 778) h.1.1 rfl rfl h0 h1 (puI h.1.2.2.1) ⟨hT.t 10 0 (by decide), trivial, trivial, hT.t 30 778 (by decide), trivial⟩ h.1.2.1
  have hS1 := pw.2.2.2
  have hh1 := pw.1
  have F1 := pw.2.2.1
  have e70 : (g_309 0 a0 a1 778 d) 770 = d 770 := F1 770 (by decide)
  have pr := p_246 (E := E) (d := (g_309 0 a0 a1 778 d)) (x0 := 769) (x1 := a0) (x2 := a1) hS1 rfl h0 h1 ⟨hT.t 11 769 (by decide), trivial, trivial, trivial⟩ hh1
  have hS2 := pr.2.2
  have hh2 := pr.1
  have e78 : (g_246 769 a0 a1 (g_309 0 a0 a1 778 d)) 778 = (g_309 0 a0 a1 778 d) 778 := pr.2.1 778 (by decide)
  have rv := pw.2.1
  have q : QR (g_309 0 a0 a1 778 d) (g_246 769 a0 a1 (g_309 0 a0 a1 778 d)) := q_246.qr
  have c : QC d (g_309 0 a0 a1 778 d) := fun b x y z => F1 b (by omega)
  exact ⟨hS1, e70, ⟨⟨hS2, hh2, h.1.2.2.qr c q⟩, q.rp h.2 e70 (by rw [F1 769 (by decide)]) (fun b hb => F1 b (by omega))⟩, e78, rv⟩
theorem iv_11 {E : mO × tW} {d : mD} {a0 : Int} {a1 : Int} (hT : TKL E) (h : Inv2 E d) (h0 : inI a0) (h1 : inI a1) : Safe (g_310 0 a0 a1 778 d) ∧ (g_310 0 a0 a1 778 d) 770 = d 770 ∧ Inv2 E (g_247 769 a0 a1 (g_310 0 a0 a1 778 d)) ∧ (g_247 769 a0 a1 (g_310 0 a0 a1 778 d)) 778 = (g_310 0 a0 a1 778 d) 778 ∧ (0 ≤ (v_310 0 a0 a1 778 d) ∧ (v_310 0 a0 a1 778 d) ≤ 3) := by
  have hg := h.1.2.2.1.1
  have pw := p_310 (E := E) (d := d) (x0 := 0) (x1 := a0) (x2 := a1) (x3 := 778) h.1.1 rfl rfl h0 h1 ⟨hT.t 10 0 (by decide), trivial, trivial, hT.t 30 778 (by decide), trivial⟩ h.1.2.1
  have hS1 := pw.2.2.2
  have hh1 := pw.1
  have F1 := pw.2.2.1
  have e70 : (g_310 0 a0 a1 778 d) 770 = d 770 := F1 770 (by decide)
  have pr := p_247 (E := E) (d := (g_310 0 a0 a1 778 d)) (x0 := 769) (x1 := a0) (x2 := a1) hS1 rfl h0 h1 ⟨hT.t 11 769 (by decide), trivial, trivial, trivial⟩ hh1
  have hS2 := pr.2.2
  have hh2 := pr.1
  have e78 : (g_247 769 a0 a1 (g_310 0 a0 a1 778 d)) 778 = (g_310 0 a0 a1 778 d) 778 := pr.2.1 778 (by decide)
  have rv := pw.2.1
  have q : QR (g_310 0 a0 a1 778 d) (g_247 769 a0 a1 (g_310 0 a0 a1 778 d)) := q_247.qr
  have c : QC d (g_310 0 a0 a1 778 d) := fun b x y z => F1 b (by omega)
  exact ⟨hS1, e70, ⟨⟨hS2, hh2, h.1.2.2.qr c q⟩, q.rp h.2 e70 (by rw [F1 769 (by decide)]) (fun b hb => F1 b (by omega))⟩, e78, rv⟩
theorem iv_12 {E : mO × tW} {d : mD} {a0 : Int} {a1 : Int} (hT : TKL E) (h : Inv2 E d) (h0 : inI a0) (h1 : inI a1) : Safe (g_311 0 a0 a1 778 d) ∧ (g_311 0 a0 a1 778 d) 770 = d 770 ∧ Inv2 E (g_248 769 a0 a1 (g_311 0 a0 a1 778 d)) ∧ (g_248 769 a0 a1 (g_311 0 a0 a1 778 d)) 778 = (g_311 0 a0 a1 778 d) 778 ∧ (0 ≤ (v_311 0 a0 a1 778 d) ∧ (v_311 0 a0 a1 778 d) ≤ 3) := by
  have hg := h.1.2.2.1.1
  have pw := p_311 (E := E) (d := d) (x0 := 0) (x1 := a0) (x2 := a1) (x3 := 778) h.1.1 rfl rfl h0 h1 ⟨hT.t 10 0 (by decide), trivial, trivial, hT.t 30 778 (by decide), trivial⟩ h.1.2.1
  have hS1 := pw.2.2.2
  have hh1 := pw.1
  have F1 := pw.2.2.1
  have e70 : (g_311 0 a0 a1 778 d) 770 = d 770 := F1 770 (by decide)
  have pr := p_248 (E := E) (d := (g_311 0 a0 a1 778 d)) (x0 := 769) (x1 := a0) (x2 := a1) hS1 rfl h0 h1 ⟨hT.t 11 769 (by decide), trivial, trivial, trivial⟩ hh1
  have hS2 := pr.2.2
  have hh2 := pr.1
  have e78 : (g_248 769 a0 a1 (g_311 0 a0 a1 778 d)) 778 = (g_311 0 a0 a1 778 d) 778 := pr.2.1 778 (by decide)
  have rv := pw.2.1
  have q : QR (g_311 0 a0 a1 778 d) (g_248 769 a0 a1 (g_311 0 a0 a1 778 d)) := q_248.qr
  have c : QC d (g_311 0 a0 a1 778 d) := fun b x y z => F1 b (by omega)
  exact ⟨hS1, e70, ⟨⟨hS2, hh2, h.1.2.2.qr c q⟩, q.rp h.2 e70 (by rw [F1 769 (by decide)]) (fun b hb => F1 b (by omega))⟩, e78, rv⟩
theorem iv_13 {E : mO × tW} {d : mD} {a0 : Int} {a1 : Int} (hT : TKL E) (h : Inv2 E d) (h0 : inI a0) (h1 : inI a1) : Safe (g_312 0 a0 a1 778 d) ∧ (g_312 0 a0 a1 778 d) 770 = d 770 ∧ Inv2 E (g_249 769 a0 a1 (g_312 0 a0 a1 778 d)) ∧ (g_249 769 a0 a1 (g_312 0 a0 a1 778 d)) 778 = (g_312 0 a0 a1 778 d) 778 ∧ (0 ≤ (v_312 0 a0 a1 778 d) ∧ (v_312 0 a0 a1 778 d) ≤ 3) := by
  have hg := h.1.2.2.1.1
  have pw := p_312 (E := E) (d := d) (x0 := 0) (x1 := a0) (x2 := a1) (x3 := 778) h.1.1 rfl rfl h0 h1 ⟨hT.t 10 0 (by decide), trivial, trivial, hT.t 30 778 (by decide), trivial⟩ h.1.2.1
  have hS1 := pw.2.2.2
  have hh1 := pw.1
  have F1 := pw.2.2.1
  have e70 : (g_312 0 a0 a1 778 d) 770 = d 770 := F1 770 (by decide)
  have pr := p_249 (E := E) (d := (g_312 0 a0 a1 778 d)) (x0 := 769) (x1 := a0) (x2 := a1) hS1 rfl h0 h1 ⟨hT.t 11 769 (by decide), trivial, trivial, trivial⟩ hh1
  have hS2 := pr.2.2.2
  have hh2 := pr.1
  have e78 : (g_249 769 a0 a1 (g_312 0 a0 a1 778 d)) 778 = (g_312 0 a0 a1 778 d) 778 := pr.2.2.1 778 (by decide)
  have rv := pw.2.1
  have q : QR (g_312 0 a0 a1 778 d) (g_249 769 a0 a1 (g_312 0 a0 a1 778 d)) := q_249.qr
  have c : QC d (g_312 0 a0 a1 778 d) := fun b x y z => F1 b (by omega)
  exact ⟨hS1, e70, ⟨⟨hS2, hh2, h.1.2.2.qr c q⟩, q.rp h.2 e70 (by rw [F1 769 (by decide)]) (fun b hb => F1 b (by omega))⟩, e78, rv⟩
theorem iv_14 {E : mO × tW} {d : mD} {a0 : Int} {a1 : Int} (hT : TKL E) (h : Inv2 E d) (h0 : inI a0) (h1 : inI a1) : Safe (g_313 0 a0 a1 778 d) ∧ (g_313 0 a0 a1 778 d) 770 = d 770 ∧ Inv2 E (g_251 769 a0 a1 (g_313 0 a0 a1 778 d)) ∧ (g_251 769 a0 a1 (g_313 0 a0 a1 778 d)) 778 = (g_313 0 a0 a1 778 d) 778 ∧ (0 ≤ (v_313 0 a0 a1 778 d) ∧ (v_313 0 a0 a1 778 d) ≤ 3) := by
  have hg := h.1.2.2.1.1
  have pw := p_313 (E := E) (d := d) (x0 := 0) (x1 := a0) (x2 := a1) (x3 := 778) h.1.1 rfl rfl h0 h1 ⟨hT.t 10 0 (by decide), trivial, trivial, hT.t 30 778 (by decide), trivial⟩ h.1.2.1
  have hS1 := pw.2.2.2
  have hh1 := pw.1
  have F1 := pw.2.2.1
  have e70 : (g_313 0 a0 a1 778 d) 770 = d 770 := F1 770 (by decide)
  have pr := p_251 (E := E) (d := (g_313 0 a0 a1 778 d)) (x0 := 769) (x1 := a0) (x2 := a1) hS1 rfl h0 h1 ⟨hT.t 11 769 (by decide), trivial, trivial, trivial⟩ hh1
  have hS2 := pr.2.2
  have hh2 := pr.1
  have e78 : (g_251 769 a0 a1 (g_313 0 a0 a1 778 d)) 778 = (g_313 0 a0 a1 778 d) 778 := pr.2.1 778 (by decide)
  have rv := pw.2.1
  have q : QR (g_313 0 a0 a1 778 d) (g_251 769 a0 a1 (g_313 0 a0 a1 778 d)) := q_251.qr
  have c : QC d (g_313 0 a0 a1 778 d) := fun b x y z => F1 b (by omega)
  exact ⟨hS1, e70, ⟨⟨hS2, hh2, h.1.2.2.qr c q⟩, q.rp h.2 e70 (by rw [F1 769 (by decide)]) (fun b hb => F1 b (by omega))⟩, e78, rv⟩
theorem iv_15 {E : mO × tW} {d : mD} {a0 : Int} {a1 : Int} (hT : TKL E) (h : Inv2 E d) (h0 : inI a0) (h1 : inI a1) : Safe (g_314 0 a0 a1 778 d) ∧ (g_314 0 a0 a1 778 d) 770 = d 770 ∧ Inv2 E (g_252 769 a0 a1 (g_314 0 a0 a1 778 d)) ∧ (g_252 769 a0 a1 (g_314 0 a0 a1 778 d)) 778 = (g_314 0 a0 a1 778 d) 778 ∧ (0 ≤ (v_314 0 a0 a1 778 d) ∧ (v_314 0 a0 a1 778 d) ≤ 3) := by
  have hg := h.1.2.2.1.1
  have pw := p_314 (E := E) (d := d) (x0 := 0) (x1 := a0) (x2 := a1) (x3 := 778) h.1.1 rfl rfl h0 h1 ⟨hT.t 10 0 (by decide), trivial, trivial, hT.t 30 778 (by decide), trivial⟩ h.1.2.1
  have hS1 := pw.2.2.2
  have hh1 := pw.1
  have F1 := pw.2.2.1
  have e70 : (g_314 0 a0 a1 778 d) 770 = d 770 := F1 770 (by decide)
  have pr := p_252 (E := E) (d := (g_314 0 a0 a1 778 d)) (x0 := 769) (x1 := a0) (x2 := a1) hS1 rfl h0 h1 ⟨hT.t 11 769 (by decide), trivial, trivial, trivial⟩ hh1
  have hS2 := pr.2.2
  have hh2 := pr.1
  have e78 : (g_252 769 a0 a1 (g_314 0 a0 a1 778 d)) 778 = (g_314 0 a0 a1 778 d) 778 := pr.2.1 778 (by decide)
  have rv := pw.2.1
  have q : QR (g_314 0 a0 a1 778 d) (g_252 769 a0 a1 (g_314 0 a0 a1 778 d)) := q_252.qr
  have c : QC d (g_314 0 a0 a1 778 d) := fun b x y z => F1 b (by omega)
  exact ⟨hS1, e70, ⟨⟨hS2, hh2, h.1.2.2.qr c q⟩, q.rp h.2 e70 (by rw [F1 769 (by decide)]) (fun b hb => F1 b (by omega))⟩, e78, rv⟩
theorem iv_16 {E : mO × tW} {d : mD} {a0 : Int} {a1 : Int} (hT : TKL E) (h : Inv2 E d) (h0 : inI a0) (h1 : inI a1) : Safe (g_315 0 a0 a1 778 d) ∧ (g_315 0 a0 a1 778 d) 770 = d 770 ∧ Inv2 E (g_253 769 a0 a1 (g_315 0 a0 a1 778 d)) ∧ (g_253 769 a0 a1 (g_315 0 a0 a1 778 d)) 778 = (g_315 0 a0 a1 778 d) 778 ∧ (0 ≤ (v_315 0 a0 a1 778 d) ∧ (v_315 0 a0 a1 778 d) ≤ 3) := by
  have hg := h.1.2.2.1.1
  have pw := p_315 (E := E) (d := d) (x0 := 0) (x1 := a0) (x2 := a1) (x3 := 778) h.1.1 rfl rfl h0 h1 ⟨hT.t 10 0 (by decide), trivial, trivial, hT.t 30 778 (by decide), trivial⟩ h.1.2.1
  have hS1 := pw.2.2.2
  have hh1 := pw.1
  have F1 := pw.2.2.1
  have e70 : (g_315 0 a0 a1 778 d) 770 = d 770 := F1 770 (by decide)
  have pr := p_253 (E := E) (d := (g_315 0 a0 a1 778 d)) (x0 := 769) (x1 := a0) (x2 := a1) hS1 rfl h0 h1 ⟨hT.t 11 769 (by decide), trivial, trivial, trivial⟩ hh1
  have hS2 := pr.2.2
  have hh2 := pr.1
  have e78 : (g_253 769 a0 a1 (g_315 0 a0 a1 778 d)) 778 = (g_315 0 a0 a1 778 d) 778 := pr.2.1 778 (by decide)
  have rv := pw.2.1
  have q : QR (g_315 0 a0 a1 778 d) (g_253 769 a0 a1 (g_315 0 a0 a1 778 d)) := q_253.qr
  have c : QC d (g_315 0 a0 a1 778 d) := fun b x y z => F1 b (by omega)
  exact ⟨hS1, e70, ⟨⟨hS2, hh2, h.1.2.2.qr c q⟩, q.rp h.2 e70 (by rw [F1 769 (by decide)]) (fun b hb => F1 b (by omega))⟩, e78, rv⟩
theorem iv_17 {E : mO × tW} {d : mD} {a0 : Int} {a1 : Int} (hT : TKL E) (h : Inv2 E d) (h0 : inI a0) (h1 : inI a1) : Safe (g_316 0 a0 a1 778 d) ∧ (g_316 0 a0 a1 778 d) 770 = d 770 ∧ Inv2 E (g_254 769 a0 a1 (g_316 0 a0 a1 778 d)) ∧ (g_254 769 a0 a1 (g_316 0 a0 a1 778 d)) 778 = (g_316 0 a0 a1 778 d) 778 ∧ (0 ≤ (v_316 0 a0 a1 778 d) ∧ (v_316 0 a0 a1 778 d) ≤ 3) := by
  have hg := h.1.2.2.1.1
  have pw := p_316 (E := E) (d := d) (x0 := 0) (x1 := a0) (x2 := a1) (x3 := 778) h.1.1 rfl rfl h0 h1 ⟨hT.t 10 0 (by decide), trivial, trivial, hT.t 30 778 (by decide), trivial⟩ h.1.2.1
  have hS1 := pw.2.2.2
  have hh1 := pw.1
  have F1 := pw.2.2.1
  have e70 : (g_316 0 a0 a1 778 d) 770 = d 770 := F1 770 (by decide)
  have pr := p_254 (E := E) (d := (g_316 0 a0 a1 778 d)) (x0 := 769) (x1 := a0) (x2 := a1) hS1 rfl h0 h1 ⟨hT.t 11 769 (by decide), trivial, trivial, trivial⟩ hh1
  have hS2 := pr.2.2.2
  have hh2 := pr.1
  have e78 : (g_254 769 a0 a1 (g_316 0 a0 a1 778 d)) 778 = (g_316 0 a0 a1 778 d) 778 := pr.2.2.1 778 (by decide)
  have rv := pw.2.1
  have q : QR (g_316 0 a0 a1 778 d) (g_254 769 a0 a1 (g_316 0 a0 a1 778 d)) := q_254.qr
  have c : QC d (g_316 0 a0 a1 778 d) := fun b x y z => F1 b (by omega)
  exact ⟨hS1, e70, ⟨⟨hS2, hh2, h.1.2.2.qr c q⟩, q.rp h.2 e70 (by rw [F1 769 (by decide)]) (fun b hb => F1 b (by omega))⟩, e78, rv⟩
theorem iv_18 {E : mO × tW} {d : mD} {a0 : Int} (hT : TKL E) (h : Inv2 E d) (h0 : inI a0) : Safe (g_317 0 a0 778 d) ∧ (g_317 0 a0 778 d) 770 = d 770 ∧ Inv2 E (g_257 769 a0 (g_317 0 a0 778 d)) ∧ (g_257 769 a0 (g_317 0 a0 778 d)) 778 = (g_317 0 a0 778 d) 778 ∧ (0 ≤ (v_317 0 a0 778 d) ∧ (v_317 0 a0 778 d) ≤ 3) := by
  have hg := h.1.2.2.1.1
  have pw := p_317 (E := E) (d := d) (x0 := 0) (x1 := a0) (x2 := 778) h.1.1 rfl rfl h0 ⟨hT.t 10 0 (by decide), trivial, hT.t 30 778 (by decide), trivial⟩ h.1.2.1
  have hS1 := pw.2.2.2
  have hh1 := pw.1
  have F1 := pw.2.2.1
  have e70 : (g_317 0 a0 778 d) 770 = d 770 := F1 770 (by decide)
  have pr := p_257 (E := E) (d := (g_317 0 a0 778 d)) (x0 := 769) (x1 := a0) hS1 rfl h0 ⟨hT.t 11 769 (by decide), trivial, trivial⟩ hh1
  have hS2 := pr.2.2
  have hh2 := pr.1
  have e78 : (g_257 769 a0 (g_317 0 a0 778 d)) 778 = (g_317 0 a0 778 d) 778 := pr.2.1 778 (by decide)
  have rv := pw.2.1
  have q : QR (g_317 0 a0 778 d) (g_257 769 a0 (g_317 0 a0 778 d)) := q_257
  have c : QC d (g_317 0 a0 778 d) := fun b x y z => F1 b (by omega)
  exact ⟨hS1, e70, ⟨⟨hS2, hh2, h.1.2.2.qr c q⟩, q.rp h.2 e70 (by rw [F1 769 (by decide)]) (fun b hb => F1 b (by omega))⟩, e78, rv⟩
theorem iv_19 {E : mO × tW} {d : mD}  (hT : TKL E) (h : Inv2 E d) : Safe d ∧ d 770 = d 770 ∧ Inv2 E (g_258 769 d) ∧ (g_258 769 d) 778 = d 778 := by
  have hg := h.1.2.2.1.1
  have hS1 := h.1.1
  have hh1 := h.1.2.1
  have e70 : d 770 = d 770 := rfl
  have pr := p_258 (E := E) (d := d) (x0 := 769) hS1 rfl ⟨hT.t 11 769 (by decide), trivial⟩ hh1
  have hS2 := pr.2.2
  have hh2 := pr.1
  have e78 : (g_258 769 d) 778 = d 778 := pr.2.1 778 (by decide)
  have q : QR d (g_258 769 d) := q_258.qr
  exact ⟨hS1, e70, ⟨⟨hS2, hh2, h.1.2.2.qr (fun _ _ _ _ => rfl) q⟩, q.rp h.2 rfl rfl (fun _ _ => rfl)⟩, e78⟩
theorem iv_20 {E : mO × tW} {d : mD}  (hT : TKL E) (h : Inv2 E d) : Safe d ∧ d 770 = d 770 ∧ Inv2 E (g_259 769 d) ∧ (g_259 769 d) 778 = d 778 := by
  have hg := h.1.2.2.1.1
  have hS1 := h.1.1
  have hh1 := h.1.2.1
  have e70 : d 770 = d 770 := rfl
  have pr := p_259 (E := E) (d := d) (x0 := 769) hS1 rfl ⟨hT.t 11 769 (by decide), trivial⟩ hh1
  have hS2 := pr.2.2
  have hh2 := pr.1
  have e78 : (g_259 769 d) 778 = d 778 := pr.2.1 778 (by decide)
  have q : QR d (g_259 769 d) := q_259.qr
  exact ⟨hS1, e70, ⟨⟨hS2, hh2, h.1.2.2.qr (fun _ _ _ _ => rfl) q⟩, q.rp h.2 rfl rfl (fun _ _ => rfl)⟩, e78⟩
theorem iv_21 {E : mO × tW} {d : mD}  (hT : TKL E) (h : Inv2 E d) : Safe (g_139 0 d) ∧ (g_139 0 d) 770 = d 770 ∧ Inv2 E (g_260 769 (g_139 0 d)) ∧ (g_260 769 (g_139 0 d)) 778 = (g_139 0 d) 778 := by
  have hg := h.1.2.2.1.1
  have pw := p_139 (E := E) (d := d) (x0 := 0) h.1.1 rfl ⟨hT.t 10 0 (by decide), trivial⟩ h.1.2.1
  have hS1 := pw.2.2
  have hh1 := pw.1
  have F1 := pw.2.1
  have e70 : (g_139 0 d) 770 = d 770 := F1 770 (by decide)
  have pr := p_260 (E := E) (d := (g_139 0 d)) (x0 := 769) hS1 rfl ⟨hT.t 11 769 (by decide), trivial⟩ hh1
  have hS2 := pr.2.2
  have hh2 := pr.1
  have e78 : (g_260 769 (g_139 0 d)) 778 = (g_139 0 d) 778 := pr.2.1 778 (by decide)
  have q : QR (g_139 0 d) (g_260 769 (g_139 0 d)) := q_260.qr
  have c : QC d (g_139 0 d) := fun b x y z => F1 b (by omega)
  exact ⟨hS1, e70, ⟨⟨hS2, hh2, h.1.2.2.qr c q⟩, q.rp h.2 e70 (by rw [F1 769 (by decide)]) (fun b hb => F1 b (by omega))⟩, e78⟩
theorem iv_22 {E : mO × tW} {d : mD}  (hT : TKL E) (h : Inv2 E d) : Safe (g_140 0 d) ∧ (g_140 0 d) 770 = d 770 ∧ Inv2 E (g_261 769 (g_140 0 d)) ∧ (g_261 769 (g_140 0 d)) 778 = (g_140 0 d) 778 := by
  have hg := h.1.2.2.1.1
  have pw := p_140 (E := E) (d := d) (x0 := 0) h.1.1 rfl ⟨hT.t 10 0 (by decide), trivial⟩ h.1.2.1
  have hS1 := pw.2.2.2
  have hh1 := pw.1
  have F1 := pw.2.2.1
  have e70 : (g_140 0 d) 770 = d 770 := F1 770 (by decide)
  have pr := p_261 (E := E) (d := (g_140 0 d)) (x0 := 769) hS1 rfl ⟨hT.t 11 769 (by decide), trivial⟩ hh1
  have hS2 := pr.2.2
  have hh2 := pr.1
  have e78 : (g_261 769 (g_140 0 d)) 778 = (g_140 0 d) 778 := pr.2.1 778 (by decide)
  have q : QR (g_140 0 d) (g_261 769 (g_140 0 d)) := q_261.qr
  have c : QC d (g_140 0 d) := fun b x y z => F1 b (by omega)
  exact ⟨hS1, e70, ⟨⟨hS2, hh2, h.1.2.2.qr c q⟩, q.rp h.2 e70 (by rw [F1 769 (by decide)]) (fun b hb => F1 b (by omega))⟩, e78⟩
theorem iv_23 {E : mO × tW} {d : mD}  (hT : TKL E) (h : Inv2 E d) : Safe d ∧ d 770 = d 770 ∧ Inv2 E (g_262 769 d) ∧ (g_262 769 d) 778 = d 778 := by
  have hg := h.1.2.2.1.1
  have hS1 := h.1.1
  have hh1 := h.1.2.1
  have e70 : d 770 = d 770 := rfl
  have pr := p_262 (E := E) (d := d) (x0 := 769) hS1 rfl ⟨hT.t 11 769 (by decide), trivial⟩ hh1
  have hS2 := pr.2.2
  have hh2 := pr.1
  have e78 : (g_262 769 d) 778 = d 778 := pr.2.1 778 (by decide)
  have q : QR d (g_262 769 d) := q_262.qr
  exact ⟨hS1, e70, ⟨⟨hS2, hh2, h.1.2.2.qr (fun _ _ _ _ => rfl) q⟩, q.rp h.2 rfl rfl (fun _ _ => rfl)⟩, e78⟩
theorem iv_24 {E : mO × tW} {d : mD} {a0 : Int} (hT : TKL E) (h : Inv2 E d) (h0 : inI a0) : Safe (g_318 0 a0 778 d) ∧ (g_318 0 a0 778 d) 770 = d 770 ∧ Inv2 E (g_264 769 a0 (g_318 0 a0 778 d)) ∧ (g_264 769 a0 (g_318 0 a0 778 d)) 778 = (g_318 0 a0 778 d) 778 ∧ (0 ≤ (v_318 0 a0 778 d) ∧ (v_318 0 a0 778 d) ≤ 3) := by
  have hg := h.1.2.2.1.1
  have pw := p_318 (E := E) (d := d) (x0 := 0) (x1 := a0) (x2 := 778) h.1.1 rfl rfl h0 ⟨hT.t 10 0 (by decide), trivial, hT.t 30 778 (by decide), trivial⟩ h.1.2.1
  have hS1 := pw.2.2.2
  have hh1 := pw.1
  have F1 := pw.2.2.1
  have e70 : (g_318 0 a0 778 d) 770 = d 770 := F1 770 (by decide)
  have pr := p_264 (E := E) (d := (g_318 0 a0 778 d)) (x0 := 769) (x1 := a0) hS1 rfl h0 (by rw [n7691, e70]; exact mpI hg) (by rw [n7691, e70]; exact h.1.2.2.1.2.2.2.1) ⟨hT.t 11 769 (by decide), trivial, trivial⟩ hh1
  have hS2 := pr.2.2
  have hh2 := pr.1
  have e78 : (g_264 769 a0 (g_318 0 a0 778 d)) 778 = (g_318 0 a0 778 d) 778 := pr.2.1 778 (by decide)
  have rv := pw.2.1
  have q : QR (g_318 0 a0 778 d) (g_264 769 a0 (g_318 0 a0 778 d)) := q_264
  have c : QC d (g_318 0 a0 778 d) := fun b x y z => F1 b (by omega)
  exact ⟨hS1, e70, ⟨⟨hS2, hh2, h.1.2.2.qr c q⟩, q.rp h.2 e70 (by rw [F1 769 (by decide)]) (fun b hb => F1 b (by omega))⟩, e78, rv⟩
theorem iv_25 {E : mO × tW} {d : mD} {a0 : Int} {a1 : Int} (hT : TKL E) (h : Inv2 E d) (h0 : inI a0) (h1 : inI a1) : Safe (g_319 0 a0 a1 778 d) ∧ (g_319 0 a0 a1 778 d) 770 = d 770 ∧ Inv2 E (g_265 769 a0 a1 (g_319 0 a0 a1 778 d)) ∧ (g_265 769 a0 a1 (g_319 0 a0 a1 778 d)) 778 = (g_319 0 a0 a1 778 d) 778 ∧ (0 ≤ (v_319 0 a0 a1 778 d) ∧ (v_319 0 a0 a1 778 d) ≤ 3) := by
  have hg := h.1.2.2.1.1
  have pw := p_319 (E := E) (d := d) (x0 := 0) (x1 := a0) (x2 := a1) (x3 := 778) h.1.1 rfl rfl h0 h1 ⟨hT.t 10 0 (by decide), trivial, trivial, hT.t 30 778 (by decide), trivial⟩ h.1.2.1
  have hS1 := pw.2.2.2
  have hh1 := pw.1
  have F1 := pw.2.2.1
  have e70 : (g_319 0 a0 a1 778 d) 770 = d 770 := F1 770 (by decide)
  have pr := p_265 (E := E) (d := (g_319 0 a0 a1 778 d)) (x0 := 769) (x1 := a0) (x2 := a1) hS1 rfl h0 h1 (by rw [n7691, e70]; exact mpI hg) (by rw [n7691, e70]; exact h.1.2.2.1.2.2.2.1) ⟨hT.t 11 769 (by decide), trivial, trivial, trivial⟩ hh1
  have hS2 := pr.2.2
  have hh2 := pr.1
  have e78 : (g_265 769 a0 a1 (g_319 0 a0 a1 778 d)) 778 = (g_319 0 a0 a1 778 d) 778 := pr.2.1 778 (by decide)
  have rv := pw.2.1
  have q : QR (g_319 0 a0 a1 778 d) (g_265 769 a0 a1 (g_319 0 a0 a1 778 d)) := q_265
  have c : QC d (g_319 0 a0 a1 778 d) := fun b x y z => F1 b (by omega)
  exact ⟨hS1, e70, ⟨⟨hS2, hh2, h.1.2.2.qr c q⟩, q.rp h.2 e70 (by rw [F1 769 (by decide)]) (fun b hb => F1 b (by omega))⟩, e78, rv⟩
theorem iv_26 {E : mO × tW} {d : mD} {a0 : Int} (hT : TKL E) (h : Inv2 E d) (h0 : inI a0) : Safe (g_320 0 a0 778 d) ∧ (g_320 0 a0 778 d) 770 = d 770 ∧ Inv2 E (g_266 769 a0 (g_320 0 a0 778 d)) ∧ (g_266 769 a0 (g_320 0 a0 778 d)) 778 = (g_320 0 a0 778 d) 778 ∧ (0 ≤ (v_320 0 a0 778 d) ∧ (v_320 0 a0 778 d) ≤ 3) := by
  have hg := h.1.2.2.1.1
  have pw := p_320 (E := E) (d := d) (x0 := 0) (x1 := a0) (x2 := 778) h.1.1 rfl rfl h0 ⟨hT.t 10 0 (by decide), trivial, hT.t 30 778 (by decide), trivial⟩ h.1.2.1
  have hS1 := pw.2.2.2
  have hh1 := pw.1
  have F1 := pw.2.2.1
  have e70 : (g_320 0 a0 778 d) 770 = d 770 := F1 770 (by decide)
  have pr := p_266 (E := E) (d := (g_320 0 a0 778 d)) (x0 := 769) (x1 := a0) hS1 rfl h0 (by rw [n7691, e70]; exact mpI hg) (by rw [n7691, e70]; exact h.1.2.2.1.2.2.2.1) ⟨hT.t 11 769 (by decide), trivial, trivial⟩ hh1
  have hS2 := pr.2.2
  have hh2 := pr.1
  have e78 : (g_266 769 a0 (g_320 0 a0 778 d)) 778 = (g_320 0 a0 778 d) 778 := pr.2.1 778 (by decide)
  have rv := pw.2.1
  have q : QR (g_320 0 a0 778 d) (g_266 769 a0 (g_320 0 a0 778 d)) := q_266
  have c : QC d (g_320 0 a0 778 d) := fun b x y z => F1 b (by omega)
  exact ⟨hS1, e70, ⟨⟨hS2, hh2, h.1.2.2.qr c q⟩, q.rp h.2 e70 (by rw [F1 769 (by decide)]) (fun b hb => F1 b (by omega))⟩, e78, rv⟩
theorem iv_27 {E : mO × tW} {d : mD} {a0 : Int} (hT : TKL E) (h : Inv2 E d) (h0 : inI a0) : Safe (g_321 0 a0 778 d) ∧ (g_321 0 a0 778 d) 770 = d 770 ∧ Inv2 E (g_268 769 a0 (g_321 0 a0 778 d)) ∧ (g_268 769 a0 (g_321 0 a0 778 d)) 778 = (g_321 0 a0 778 d) 778 ∧ (0 ≤ (v_321 0 a0 778 d) ∧ (v_321 0 a0 778 d) ≤ 3) := by
  have hg := h.1.2.2.1.1
  have pw := p_321 (E := E) (d := d) (x0 := 0) (x1 := a0) (x2 := 778) h.1.1 rfl rfl h0 ⟨hT.t 10 0 (by decide), trivial, hT.t 30 778 (by decide), trivial⟩ h.1.2.1
  have hS1 := pw.2.2.2
  have hh1 := pw.1
  have F1 := pw.2.2.1
  have e70 : (g_321 0 a0 778 d) 770 = d 770 := F1 770 (by decide)
  have pr := pq_268 (E := E) (d := (g_321 0 a0 778 d)) (x0 := 769) (x1 := a0) hS1 rfl h0 (by rw [n7691, e70]; exact mpI hg) (by rw [n7691, e70]; exact h.1.2.2.1.2.2.2.1) (by rw [n7691, e70]; exact qoI hg) (by rw [n7691, e70]; exact hg.1.2.2.1.2) ⟨hT.t 11 769 (by decide), trivial, trivial⟩ hh1
  have hS2 := pr.2.2
  have hh2 := pr.1
  have e78 : (g_268 769 a0 (g_321 0 a0 778 d)) 778 = (g_321 0 a0 778 d) 778 := pr.2.1 778 (by decide)
  have rv := pw.2.1
  have q : QR (g_321 0 a0 778 d) (g_268 769 a0 (g_321 0 a0 778 d)) := q_268
  have c : QC d (g_321 0 a0 778 d) := fun b x y z => F1 b (by omega)
  exact ⟨hS1, e70, ⟨⟨hS2, hh2, h.1.2.2.qr c q⟩, q.rp h.2 e70 (by rw [F1 769 (by decide)]) (fun b hb => F1 b (by omega))⟩, e78, rv⟩
theorem iv_28 {E : mO × tW} {d : mD}  (hT : TKL E) (h : Inv2 E d) : Safe (g_322 0 778 d) ∧ (g_322 0 778 d) 770 = d 770 ∧ Inv2 E (g_269 769 (g_322 0 778 d)) ∧ (g_269 769 (g_322 0 778 d)) 778 = (g_322 0 778 d) 778 ∧ (0 ≤ (v_322 0 778 d) ∧ (v_322 0 778 d) ≤ 3) := by
  have hg := h.1.2.2.1.1
  have pw := p_322 (E := E) (d := d) (x0 := 0) (x1 := 778) h.1.1 rfl rfl ⟨hT.t 10 0 (by decide), hT.t 30 778 (by decide), trivial⟩ h.1.2.1
  have hS1 := pw.2.2.2
  have hh1 := pw.1
  have F1 := pw.2.2.1
  have e70 : (g_322 0 778 d) 770 = d 770 := F1 770 (by decide)
  have pr := pq_269 (E := E) (d := (g_322 0 778 d)) (x0 := 769) hS1 rfl (by rw [n7691, e70]; exact mpI hg) (by rw [n7691, e70]; exact h.1.2.2.1.2.2.2.1) (by rw [n7691, e70]; exact qoI hg) (by rw [n7691, e70]; exact hg.1.2.2.1.2) ⟨hT.t 11 769 (by decide), trivial⟩ hh1
  have hS2 := pr.2.2
  have hh2 := pr.1
  have e78 : (g_269 769 (g_322 0 778 d)) 778 = (g_322 0 778 d) 778 := pr.2.1 778 (by decide)
  have rv := pw.2.1
  have q : QR (g_322 0 778 d) (g_269 769 (g_322 0 778 d)) := q_269
  have c : QC d (g_322 0 778 d) := fun b x y z => F1 b (by omega)
  exact ⟨hS1, e70, ⟨⟨hS2, hh2, h.1.2.2.qr c q⟩, q.rp h.2 e70 (by rw [F1 769 (by decide)]) (fun b hb => F1 b (by omega))⟩, e78, rv⟩
theorem iv_29 {E : mO × tW} {d : mD} {a0 : Int} {a1 : Int} (hT : TKL E) (h : Inv2 E d) (h0 : inI a0) (h1 : inI a1) : Safe (g_323 0 a0 a1 778 d) ∧ (g_323 0 a0 a1 778 d) 770 = d 770 ∧ Inv2 E (g_272 769 a0 a1 (g_323 0 a0 a1 778 d)) ∧ (g_272 769 a0 a1 (g_323 0 a0 a1 778 d)) 778 = (g_323 0 a0 a1 778 d) 778 ∧ (0 ≤ (v_323 0 a0 a1 778 d) ∧ (v_323 0 a0 a1 778 d) ≤ 3) := by
  have hg := h.1.2.2.1.1
  have pw := p_323 (E := E) (d := d) (x0 := 0) (x1 := a0) (x2 := a1) (x3 := 778) h.1.1 rfl rfl h0 h1 ⟨hT.t 10 0 (by decide), trivial, trivial, hT.t 30 778 (by decide), trivial⟩ h.1.2.1
  have hS1 := pw.2.2.2
  have hh1 := pw.1
  have F1 := pw.2.2.1
  have e70 : (g_323 0 a0 a1 778 d) 770 = d 770 := F1 770 (by decide)
  have pr := pq_272 (E := E) (d := (g_323 0 a0 a1 778 d)) (x0 := 769) (x1 := a0) (x2 := a1) hS1 rfl h0 h1 (by rw [n7691, e70]; exact mpI hg) (by rw [n7691, e70]; exact h.1.2.2.1.2.2.2.1) (by rw [n7691, e70]; exact qoI hg) ⟨hT.t 11 769 (by decide), trivial, trivial, trivial⟩ hh1
  have hS2 := pr.2.2
  have hh2 := pr.1
  have e78 : (g_272 769 a0 a1 (g_323 0 a0 a1 778 d)) 778 = (g_323 0 a0 a1 778 d) 778 := pr.2.1 778 (by decide)
  have rv := pw.2.1
  have q : QR (g_323 0 a0 a1 778 d) (g_272 769 a0 a1 (g_323 0 a0 a1 778 d)) := q_272 (cm := d) (by rw [e70]; exact h.1.2.2.1)
  have c : QC d (g_323 0 a0 a1 778 d) := fun b x y z => F1 b (by omega)
  exact ⟨hS1, e70, ⟨⟨hS2, hh2, h.1.2.2.qr c q⟩, q.rp h.2 e70 (by rw [F1 769 (by decide)]) (fun b hb => F1 b (by omega))⟩, e78, rv⟩
theorem iv_30 {E : mO × tW} {d : mD} {a0 : Int} (hT : TKL E) (h : Inv2 E d) (h0 : inI a0) : Safe (g_324 0 a0 778 d) ∧ (g_324 0 a0 778 d) 770 = d 770 ∧ Inv2 E (g_276 769 a0 (g_324 0 a0 778 d)) ∧ (g_276 769 a0 (g_324 0 a0 778 d)) 778 = (g_324 0 a0 778 d) 778 ∧ (0 ≤ (v_324 0 a0 778 d) ∧ (v_324 0 a0 778 d) ≤ 3) := by
  have hg := h.1.2.2.1.1
  have pw := p_324 (E := E) (d := d) (x0 := 0) (x1 := a0) (x2 := 778) h.1.1 rfl rfl h0 ⟨hT.t 10 0 (by decide), trivial, hT.t 30 778 (by decide), trivial⟩ h.1.2.1
  have hS1 := pw.2.2.2
  have hh1 := pw.1
  have F1 := pw.2.2.1
  have e70 : (g_324 0 a0 778 d) 770 = d 770 := F1 770 (by decide)
  have pr := p_276 (E := E) (d := (g_324 0 a0 778 d)) (x0 := 769) (x1 := a0) hS1 rfl h0 ⟨hT.t 11 769 (by decide), trivial, trivial⟩ hh1
  have hS2 := pr.2.2
  have hh2 := pr.1
  have e78 : (g_276 769 a0 (g_324 0 a0 778 d)) 778 = (g_324 0 a0 778 d) 778 := pr.2.1 778 (by decide)
  have rv := pw.2.1
  have q : QR (g_324 0 a0 778 d) (g_276 769 a0 (g_324 0 a0 778 d)) := q_276.qr
  have c : QC d (g_324 0 a0 778 d) := fun b x y z => F1 b (by omega)
  exact ⟨hS1, e70, ⟨⟨hS2, hh2, h.1.2.2.qr c q⟩, q.rp h.2 e70 (by rw [F1 769 (by decide)]) (fun b hb => F1 b (by omega))⟩, e78, rv⟩
theorem iv_31 {E : mO × tW} {d : mD} {a0 : Int} (hT : TKL E) (h : Inv2 E d) (h0 : inI a0) : Safe (g_325 0 a0 778 d) ∧ (g_325 0 a0 778 d) 770 = d 770 ∧ Inv2 E (g_277 769 a0 (g_325 0 a0 778 d)) ∧ (g_277 769 a0 (g_325 0 a0 778 d)) 778 = (g_325 0 a0 778 d) 778 ∧ (0 ≤ (v_325 0 a0 778 d) ∧ (v_325 0 a0 778 d) ≤ 3) := by
  have hg := h.1.2.2.1.1
  have pw := p_325 (E := E) (d := d) (x0 := 0) (x1 := a0) (x2 := 778) h.1.1 rfl rfl h0 ⟨hT.t 10 0 (by decide), trivial, hT.t 30 778 (by decide), trivial⟩ h.1.2.1
  have hS1 := pw.2.2.2
  have hh1 := pw.1
  have F1 := pw.2.2.1
  have e70 : (g_325 0 a0 778 d) 770 = d 770 := F1 770 (by decide)
  have pr := p_277 (E := E) (d := (g_325 0 a0 778 d)) (x0 := 769) (x1 := a0) hS1 rfl h0 ⟨hT.t 11 769 (by decide), trivial, trivial⟩ hh1
  have hS2 := pr.2.2
  have hh2 := pr.1
  have e78 : (g_277 769 a0 (g_325 0 a0 778 d)) 778 = (g_325 0 a0 778 d) 778 := pr.2.1 778 (by decide)
  have rv := pw.2.1
  have q : QR (g_325 0 a0 778 d) (g_277 769 a0 (g_325 0 a0 778 d)) := q_277.qr
  have c : QC d (g_325 0 a0 778 d) := fun b x y z => F1 b (by omega)
  exact ⟨hS1, e70, ⟨⟨hS2, hh2, h.1.2.2.qr c q⟩, q.rp h.2 e70 (by rw [F1 769 (by decide)]) (fun b hb => F1 b (by omega))⟩, e78, rv⟩
theorem iv_32 {E : mO × tW} {d : mD} {a0 : Int} {a1 : Int} (hT : TKL E) (h : Inv2 E d) (h0 : inI a0) (h1 : inI a1) : Safe (g_326 0 a0 a1 778 d) ∧ (g_326 0 a0 a1 778 d) 770 = d 770 ∧ Inv2 E (g_279 769 a0 a1 (g_326 0 a0 a1 778 d)) ∧ (g_279 769 a0 a1 (g_326 0 a0 a1 778 d)) 778 = (g_326 0 a0 a1 778 d) 778 ∧ (0 ≤ (v_326 0 a0 a1 778 d) ∧ (v_326 0 a0 a1 778 d) ≤ 3) ∧ OPR d (g_326 0 a0 a1 778 d) (g_279 769 a0 a1 (g_326 0 a0 a1 778 d)) (v_326 0 a0 a1 778 d) (v_279 769 a0 a1 (g_326 0 a0 a1 778 d)) := by
  have hg := h.1.2.2.1.1
  have pw := p_326 (E := E) (d := d) (x0 := 0) (x1 := a0) (x2 := a1) (x3 := 778) h.1.1 rfl rfl h0 h1 ⟨hT.t 10 0 (by decide), trivial, trivial, hT.t 30 778 (by decide), trivial⟩ h.1.2.1
  have hS1 := pw.2.2.2
  have hh1 := pw.1
  have F1 := pw.2.2.1
  have e70 : (g_326 0 a0 a1 778 d) 770 = d 770 := F1 770 (by decide)
  have pr := p_279 (E := E) (d := (g_326 0 a0 a1 778 d)) (x0 := 769) (x1 := a0) (x2 := a1) hS1 rfl h0 h1 ⟨hT.t 11 769 (by decide), trivial, trivial, trivial⟩ hh1
  have hS2 := pr.2.2
  have hh2 := pr.1
  have e78 : (g_279 769 a0 a1 (g_326 0 a0 a1 778 d)) 778 = (g_326 0 a0 a1 778 d) 778 := pr.2.1 778 (by decide)
  have rv := pw.2.1
  have op : OPR d (g_326 0 a0 a1 778 d) (g_279 769 a0 a1 (g_326 0 a0 a1 778 d)) (v_326 0 a0 a1 778 d) (v_279 769 a0 a1 (g_326 0 a0 a1 778 d)) := opJoin hT h.1
  exact ⟨hS1, e70, ⟨⟨hS2, hh2, op.1⟩, op.2.2.2 h.2⟩, e78, rv, op⟩
theorem iv_33 {E : mO × tW} {d : mD} {a0 : Int} (hT : TKL E) (h : Inv2 E d) (h0 : inI a0) : Safe (g_327 0 a0 778 d) ∧ (g_327 0 a0 778 d) 770 = d 770 ∧ Inv2 E (g_280 769 a0 (g_327 0 a0 778 d)) ∧ (g_280 769 a0 (g_327 0 a0 778 d)) 778 = (g_327 0 a0 778 d) 778 ∧ (0 ≤ (v_327 0 a0 778 d) ∧ (v_327 0 a0 778 d) ≤ 3) ∧ OPR d (g_327 0 a0 778 d) (g_280 769 a0 (g_327 0 a0 778 d)) (v_327 0 a0 778 d) (v_280 769 a0 (g_327 0 a0 778 d)) := by
  have hg := h.1.2.2.1.1
  have pw := p_327 (E := E) (d := d) (x0 := 0) (x1 := a0) (x2 := 778) h.1.1 rfl rfl h0 ⟨hT.t 10 0 (by decide), trivial, hT.t 30 778 (by decide), trivial⟩ h.1.2.1
  have hS1 := pw.2.2.2
  have hh1 := pw.1
  have F1 := pw.2.2.1
  have e70 : (g_327 0 a0 778 d) 770 = d 770 := F1 770 (by decide)
  have pr := p_280 (E := E) (d := (g_327 0 a0 778 d)) (x0 := 769) (x1 := a0) hS1 rfl h0 (hwqI h.1.2.2.1 e70) ⟨hT.t 11 769 (by decide), trivial, trivial⟩ hh1
  have hS2 := pr.2.2
  have hh2 := pr.1
  have e78 : (g_280 769 a0 (g_327 0 a0 778 d)) 778 = (g_327 0 a0 778 d) 778 := pr.2.1 778 (by decide)
  have rv := pw.2.1
  have op : OPR d (g_327 0 a0 778 d) (g_280 769 a0 (g_327 0 a0 778 d)) (v_327 0 a0 778 d) (v_280 769 a0 (g_327 0 a0 778 d)) := opLeave hT h.1
  exact ⟨hS1, e70, ⟨⟨hS2, hh2, op.1⟩, op.2.2.2 h.2⟩, e78, rv, op⟩
theorem iv_34 {E : mO × tW} {d : mD} {a0 : Int} (hT : TKL E) (h : Inv2 E d) (h0 : inI a0) : Safe (g_328 0 a0 778 d) ∧ (g_328 0 a0 778 d) 770 = d 770 ∧ Inv2 E (g_282 769 a0 (g_328 0 a0 778 d)) ∧ (g_282 769 a0 (g_328 0 a0 778 d)) 778 = (g_328 0 a0 778 d) 778 ∧ (0 ≤ (v_328 0 a0 778 d) ∧ (v_328 0 a0 778 d) ≤ 3) ∧ OPR d (g_328 0 a0 778 d) (g_282 769 a0 (g_328 0 a0 778 d)) (v_328 0 a0 778 d) (v_282 769 a0 (g_328 0 a0 778 d)) := by
  have hg := h.1.2.2.1.1
  have pw := p_328 (E := E) (d := d) (x0 := 0) (x1 := a0) (x2 := 778) h.1.1 rfl rfl h0 ⟨hT.t 10 0 (by decide), trivial, hT.t 30 778 (by decide), trivial⟩ h.1.2.1
  have hS1 := pw.2.2.2
  have hh1 := pw.1
  have F1 := pw.2.2.1
  have e70 : (g_328 0 a0 778 d) 770 = d 770 := F1 770 (by decide)
  have pr := p_282 (E := E) (d := (g_328 0 a0 778 d)) (x0 := 769) (x1 := a0) hS1 rfl h0 (by rw [n7691, e70]; exact mpI hg) ⟨hT.t 11 769 (by decide), trivial, trivial⟩ hh1
  have hS2 := pr.2.2
  have hh2 := pr.1
  have e78 : (g_282 769 a0 (g_328 0 a0 778 d)) 778 = (g_328 0 a0 778 d) 778 := pr.2.1 778 (by decide)
  have rv := pw.2.1
  have op : OPR d (g_328 0 a0 778 d) (g_282 769 a0 (g_328 0 a0 778 d)) (v_328 0 a0 778 d) (v_282 769 a0 (g_328 0 a0 778 d)) := opPass hT h.1
  exact ⟨hS1, e70, ⟨⟨hS2, hh2, op.1⟩, op.2.2.2 h.2⟩, e78, rv, op⟩
theorem iv_35 {E : mO × tW} {d : mD} {a0 : Int} (hT : TKL E) (h : Inv2 E d) (h0 : inI a0) : Safe (g_329 0 a0 778 d) ∧ (g_329 0 a0 778 d) 770 = d 770 ∧ Inv2 E (g_283 769 a0 (g_329 0 a0 778 d)) ∧ (g_283 769 a0 (g_329 0 a0 778 d)) 778 = (g_329 0 a0 778 d) 778 ∧ (0 ≤ (v_329 0 a0 778 d) ∧ (v_329 0 a0 778 d) ≤ 3) ∧ OPR d (g_329 0 a0 778 d) (g_283 769 a0 (g_329 0 a0 778 d)) (v_329 0 a0 778 d) (v_283 769 a0 (g_329 0 a0 778 d)) := by
  have hg := h.1.2.2.1.1
  have pw := p_329 (E := E) (d := d) (x0 := 0) (x1 := a0) (x2 := 778) h.1.1 rfl rfl h0 ⟨hT.t 10 0 (by decide), trivial, hT.t 30 778 (by decide), trivial⟩ h.1.2.1
  have hS1 := pw.2.2.2
  have hh1 := pw.1
  have F1 := pw.2.2.1
  have e70 : (g_329 0 a0 778 d) 770 = d 770 := F1 770 (by decide)
  have pr := p_283 (E := E) (d := (g_329 0 a0 778 d)) (x0 := 769) (x1 := a0) hS1 rfl h0 (by rw [n7691, e70]; exact mpI hg) (by rw [n7691, e70]; exact h.2.1.1) ⟨hT.t 11 769 (by decide), trivial, trivial⟩ hh1
  have hS2 := pr.2.2
  have hh2 := pr.1
  have e78 : (g_283 769 a0 (g_329 0 a0 778 d)) 778 = (g_329 0 a0 778 d) 778 := pr.2.1 778 (by decide)
  have rv := pw.2.1
  have op : OPR d (g_329 0 a0 778 d) (g_283 769 a0 (g_329 0 a0 778 d)) (v_329 0 a0 778 d) (v_283 769 a0 (g_329 0 a0 778 d)) := opClaim hT h.1
  exact ⟨hS1, e70, ⟨⟨hS2, hh2, op.1⟩, op.2.2.2 h.2⟩, e78, rv, op⟩
theorem iv_36 {E : mO × tW} {d : mD} {a0 : Int} {a1 : Int} (hT : TKL E) (h : Inv2 E d) (h0 : inI a0) (h1 : inI a1) : Safe (g_330 0 a0 a1 778 d) ∧ (g_330 0 a0 a1 778 d) 770 = d 770 ∧ Inv2 E (g_284 769 a0 a1 (g_330 0 a0 a1 778 d)) ∧ (g_284 769 a0 a1 (g_330 0 a0 a1 778 d)) 778 = (g_330 0 a0 a1 778 d) 778 ∧ (0 ≤ (v_330 0 a0 a1 778 d) ∧ (v_330 0 a0 a1 778 d) ≤ 3) ∧ OPR d (g_330 0 a0 a1 778 d) (g_284 769 a0 a1 (g_330 0 a0 a1 778 d)) (v_330 0 a0 a1 778 d) (v_284 769 a0 a1 (g_330 0 a0 a1 778 d)) := by
  have hg := h.1.2.2.1.1
  have pw := p_330 (E := E) (d := d) (x0 := 0) (x1 := a0) (x2 := a1) (x3 := 778) h.1.1 rfl rfl h0 h1 ⟨hT.t 10 0 (by decide), trivial, trivial, hT.t 30 778 (by decide), trivial⟩ h.1.2.1
  have hS1 := pw.2.2.2
  have hh1 := pw.1
  have F1 := pw.2.2.1
  have e70 : (g_330 0 a0 a1 778 d) 770 = d 770 := F1 770 (by decide)
  have pr := p_284 (E := E) (d := (g_330 0 a0 a1 778 d)) (x0 := 769) (x1 := a0) (x2 := a1) hS1 rfl h0 h1 (by rw [n7691, e70]; exact mpI hg) (by rw [n7691, e70]; exact h.2.1.1) ⟨hT.t 11 769 (by decide), trivial, trivial, trivial⟩ hh1
  have hS2 := pr.2.2
  have hh2 := pr.1
  have e78 : (g_284 769 a0 a1 (g_330 0 a0 a1 778 d)) 778 = (g_330 0 a0 a1 778 d) 778 := pr.2.1 778 (by decide)
  have rv := pw.2.1
  have op : OPR d (g_330 0 a0 a1 778 d) (g_284 769 a0 a1 (g_330 0 a0 a1 778 d)) (v_330 0 a0 a1 778 d) (v_284 769 a0 a1 (g_330 0 a0 a1 778 d)) := opWit hT h.1
  exact ⟨hS1, e70, ⟨⟨hS2, hh2, op.1⟩, op.2.2.2 h.2⟩, e78, rv, op⟩
theorem iv_37 {E : mO × tW} {d : mD} {a0 : Int} {a1 : Int} {a2 : Int} (hT : TKL E) (h : Inv2 E d) (h0 : inI a0) (h1 : inI a1) (h2 : inI a2) : Safe (g_331 0 a0 a1 a2 778 d) ∧ (g_331 0 a0 a1 a2 778 d) 770 = d 770 ∧ Inv2 E (g_285 769 a0 a1 a2 (g_331 0 a0 a1 a2 778 d)) ∧ (g_285 769 a0 a1 a2 (g_331 0 a0 a1 a2 778 d)) 778 = (g_331 0 a0 a1 a2 778 d) 778 ∧ (0 ≤ (v_331 0 a0 a1 a2 778 d) ∧ (v_331 0 a0 a1 a2 778 d) ≤ 3) ∧ OPR d (g_331 0 a0 a1 a2 778 d) (g_285 769 a0 a1 a2 (g_331 0 a0 a1 a2 778 d)) (v_331 0 a0 a1 a2 778 d) (v_285 769 a0 a1 a2 (g_331 0 a0 a1 a2 778 d)) := by
  have hg := h.1.2.2.1.1
  have pw := p_331 (E := E) (d := d) (x0 := 0) (x1 := a0) (x2 := a1) (x3 := a2) (x4 := 778) h.1.1 rfl rfl h0 h1 h2 ⟨hT.t 10 0 (by decide), trivial, trivial, trivial, hT.t 30 778 (by decide), trivial⟩ h.1.2.1
  have hS1 := pw.2.2.2
  have hh1 := pw.1
  have F1 := pw.2.2.1
  have e70 : (g_331 0 a0 a1 a2 778 d) 770 = d 770 := F1 770 (by decide)
  have pr := p_285 (E := E) (d := (g_331 0 a0 a1 a2 778 d)) (x0 := 769) (x1 := a0) (x2 := a1) (x3 := a2) hS1 rfl h0 h1 h2 ⟨hT.t 11 769 (by decide), trivial, trivial, trivial, trivial⟩ hh1
  have hS2 := pr.2.2
  have hh2 := pr.1
  have e78 : (g_285 769 a0 a1 a2 (g_331 0 a0 a1 a2 778 d)) 778 = (g_331 0 a0 a1 a2 778 d) 778 := pr.2.1 778 (by decide)
  have rv := pw.2.1
  have op : OPR d (g_331 0 a0 a1 a2 778 d) (g_285 769 a0 a1 a2 (g_331 0 a0 a1 a2 778 d)) (v_331 0 a0 a1 a2 778 d) (v_285 769 a0 a1 a2 (g_331 0 a0 a1 a2 778 d)) := opGive hT h.1
  exact ⟨hS1, e70, ⟨⟨hS2, hh2, op.1⟩, op.2.2.2 h.2⟩, e78, rv, op⟩
theorem iv_38 {E : mO × tW} {d : mD} {a0 : Int} {a1 : Int} (hT : TKL E) (h : Inv2 E d) (h0 : inI a0) (h1 : inI a1) : Safe (g_332 0 a0 a1 778 d) ∧ (g_332 0 a0 a1 778 d) 770 = d 770 ∧ Inv2 E (g_286 769 a0 a1 (g_332 0 a0 a1 778 d)) ∧ (g_286 769 a0 a1 (g_332 0 a0 a1 778 d)) 778 = (g_332 0 a0 a1 778 d) 778 ∧ (0 ≤ (v_332 0 a0 a1 778 d) ∧ (v_332 0 a0 a1 778 d) ≤ 3) ∧ OPR d (g_332 0 a0 a1 778 d) (g_286 769 a0 a1 (g_332 0 a0 a1 778 d)) (v_332 0 a0 a1 778 d) (v_286 769 a0 a1 (g_332 0 a0 a1 778 d)) := by
  have hg := h.1.2.2.1.1
  have pw := p_332 (E := E) (d := d) (x0 := 0) (x1 := a0) (x2 := a1) (x3 := 778) h.1.1 rfl rfl h0 h1 ⟨hT.t 10 0 (by decide), trivial, trivial, hT.t 30 778 (by decide), trivial⟩ h.1.2.1
  have hS1 := pw.2.2.2
  have hh1 := pw.1
  have F1 := pw.2.2.1
  have e70 : (g_332 0 a0 a1 778 d) 770 = d 770 := F1 770 (by decide)
  have pr := p_286 (E := E) (d := (g_332 0 a0 a1 778 d)) (x0 := 769) (x1 := a0) (x2 := a1) hS1 rfl h0 h1 (by rw [n7691, e70]; exact rkI hg) ⟨hT.t 11 769 (by decide), trivial, trivial, trivial⟩ hh1
  have hS2 := pr.2.2
  have hh2 := pr.1
  have e78 : (g_286 769 a0 a1 (g_332 0 a0 a1 778 d)) 778 = (g_332 0 a0 a1 778 d) 778 := pr.2.1 778 (by decide)
  have rv := pw.2.1
  have op : OPR d (g_332 0 a0 a1 778 d) (g_286 769 a0 a1 (g_332 0 a0 a1 778 d)) (v_332 0 a0 a1 778 d) (v_286 769 a0 a1 (g_332 0 a0 a1 778 d)) := opOffer hT h.1
  exact ⟨hS1, e70, ⟨⟨hS2, hh2, op.1⟩, op.2.2.2 h.2⟩, e78, rv, op⟩
theorem iv_39 {E : mO × tW} {d : mD} {a0 : Int} (hT : TKL E) (h : Inv2 E d) (h0 : inI a0) : Safe (g_333 0 a0 778 d) ∧ (g_333 0 a0 778 d) 770 = d 770 ∧ Inv2 E (g_287 769 a0 (g_333 0 a0 778 d)) ∧ (g_287 769 a0 (g_333 0 a0 778 d)) 778 = (g_333 0 a0 778 d) 778 ∧ (0 ≤ (v_333 0 a0 778 d) ∧ (v_333 0 a0 778 d) ≤ 3) ∧ OPR d (g_333 0 a0 778 d) (g_287 769 a0 (g_333 0 a0 778 d)) (v_333 0 a0 778 d) (v_287 769 a0 (g_333 0 a0 778 d)) := by
  have hg := h.1.2.2.1.1
  have pw := p_333 (E := E) (d := d) (x0 := 0) (x1 := a0) (x2 := 778) h.1.1 rfl rfl h0 ⟨hT.t 10 0 (by decide), trivial, hT.t 30 778 (by decide), trivial⟩ h.1.2.1
  have hS1 := pw.2.2.2
  have hh1 := pw.1
  have F1 := pw.2.2.1
  have e70 : (g_333 0 a0 778 d) 770 = d 770 := F1 770 (by decide)
  have pr := p_287 (E := E) (d := (g_333 0 a0 778 d)) (x0 := 769) (x1 := a0) hS1 rfl h0 ⟨hT.t 11 769 (by decide), trivial, trivial⟩ hh1
  have hS2 := pr.2.2
  have hh2 := pr.1
  have e78 : (g_287 769 a0 (g_333 0 a0 778 d)) 778 = (g_333 0 a0 778 d) 778 := pr.2.1 778 (by decide)
  have rv := pw.2.1
  have op : OPR d (g_333 0 a0 778 d) (g_287 769 a0 (g_333 0 a0 778 d)) (v_333 0 a0 778 d) (v_287 769 a0 (g_333 0 a0 778 d)) := opDep hT h.1
  exact ⟨hS1, e70, ⟨⟨hS2, hh2, op.1⟩, op.2.2.2 h.2⟩, e78, rv, op⟩
theorem iv_40 {E : mO × tW} {d : mD} {a0 : Int} {a1 : Int} (hT : TKL E) (h : Inv2 E d) (h0 : inI a0) (h1 : inI a1) : Safe (g_334 0 a0 a1 778 d) ∧ (g_334 0 a0 a1 778 d) 770 = d 770 ∧ Inv2 E (g_288 769 a0 a1 (g_334 0 a0 a1 778 d)) ∧ (g_288 769 a0 a1 (g_334 0 a0 a1 778 d)) 778 = (g_334 0 a0 a1 778 d) 778 ∧ (0 ≤ (v_334 0 a0 a1 778 d) ∧ (v_334 0 a0 a1 778 d) ≤ 3) ∧ OPR d (g_334 0 a0 a1 778 d) (g_288 769 a0 a1 (g_334 0 a0 a1 778 d)) (v_334 0 a0 a1 778 d) (v_288 769 a0 a1 (g_334 0 a0 a1 778 d)) := by
  have hg := h.1.2.2.1.1
  have pw := p_334 (E := E) (d := d) (x0 := 0) (x1 := a0) (x2 := a1) (x3 := 778) h.1.1 rfl rfl h0 h1 ⟨hT.t 10 0 (by decide), trivial, trivial, hT.t 30 778 (by decide), trivial⟩ h.1.2.1
  have hS1 := pw.2.2.2
  have hh1 := pw.1
  have F1 := pw.2.2.1
  have e70 : (g_334 0 a0 a1 778 d) 770 = d 770 := F1 770 (by decide)
  have pr := pq_288 (E := E) (d := (g_334 0 a0 a1 778 d)) (x0 := 769) (x1 := a0) (x2 := a1) hS1 rfl h0 h1 (by rw [n7691, e70]; exact qoI hg) ⟨hT.t 11 769 (by decide), trivial, trivial, trivial⟩ hh1
  have hS2 := pr.2.2
  have hh2 := pr.1
  have e78 : (g_288 769 a0 a1 (g_334 0 a0 a1 778 d)) 778 = (g_334 0 a0 a1 778 d) 778 := pr.2.1 778 (by decide)
  have rv := pw.2.1
  have op : OPR d (g_334 0 a0 a1 778 d) (g_288 769 a0 a1 (g_334 0 a0 a1 778 d)) (v_334 0 a0 a1 778 d) (v_288 769 a0 a1 (g_334 0 a0 a1 778 d)) := opMerge hT h.1
  exact ⟨hS1, e70, ⟨⟨hS2, hh2, op.1⟩, op.2.2.2 h.2⟩, e78, rv, op⟩
theorem iv_41 {E : mO × tW} {d : mD} {a0 : Int} (hT : TKL E) (h : Inv2 E d) (h0 : inI a0) : Safe (g_335 0 a0 778 d) ∧ (g_335 0 a0 778 d) 770 = d 770 ∧ Inv2 E (g_289 769 a0 (g_335 0 a0 778 d)) ∧ (g_289 769 a0 (g_335 0 a0 778 d)) 778 = (g_335 0 a0 778 d) 778 ∧ (0 ≤ (v_335 0 a0 778 d) ∧ (v_335 0 a0 778 d) ≤ 3) ∧ OPR d (g_335 0 a0 778 d) (g_289 769 a0 (g_335 0 a0 778 d)) (v_335 0 a0 778 d) (v_289 769 a0 (g_335 0 a0 778 d)) := by
  have hg := h.1.2.2.1.1
  have pw := p_335 (E := E) (d := d) (x0 := 0) (x1 := a0) (x2 := 778) h.1.1 rfl rfl h0 ⟨hT.t 10 0 (by decide), trivial, hT.t 30 778 (by decide), trivial⟩ h.1.2.1
  have hS1 := pw.2.2.2
  have hh1 := pw.1
  have F1 := pw.2.2.1
  have e70 : (g_335 0 a0 778 d) 770 = d 770 := F1 770 (by decide)
  have pr := p_289 (E := E) (d := (g_335 0 a0 778 d)) (x0 := 769) (x1 := a0) hS1 rfl h0 ⟨hT.t 11 769 (by decide), trivial, trivial⟩ hh1
  have hS2 := pr.2.2
  have hh2 := pr.1
  have e78 : (g_289 769 a0 (g_335 0 a0 778 d)) 778 = (g_335 0 a0 778 d) 778 := pr.2.1 778 (by decide)
  have rv := pw.2.1
  have op : OPR d (g_335 0 a0 778 d) (g_289 769 a0 (g_335 0 a0 778 d)) (v_335 0 a0 778 d) (v_289 769 a0 (g_335 0 a0 778 d)) := opOpen hT h.1
  exact ⟨hS1, e70, ⟨⟨hS2, hh2, op.1⟩, op.2.2.2 h.2⟩, e78, rv, op⟩
theorem iv_42 {E : mO × tW} {d : mD}  (hT : TKL E) (h : Inv2 E d) : Safe (g_336 0 778 d) ∧ (g_336 0 778 d) 770 = d 770 ∧ Inv2 E (g_290 769 (g_336 0 778 d)) ∧ (g_290 769 (g_336 0 778 d)) 778 = (g_336 0 778 d) 778 ∧ (0 ≤ (v_336 0 778 d) ∧ (v_336 0 778 d) ≤ 3) ∧ OPR d (g_336 0 778 d) (g_290 769 (g_336 0 778 d)) (v_336 0 778 d) (v_290 769 (g_336 0 778 d)) := by
  have hg := h.1.2.2.1.1
  have pw := p_336 (E := E) (d := d) (x0 := 0) (x1 := 778) h.1.1 rfl rfl ⟨hT.t 10 0 (by decide), hT.t 30 778 (by decide), trivial⟩ h.1.2.1
  have hS1 := pw.2.2.2
  have hh1 := pw.1
  have F1 := pw.2.2.1
  have e70 : (g_336 0 778 d) 770 = d 770 := F1 770 (by decide)
  have pr := p_290 (E := E) (d := (g_336 0 778 d)) (x0 := 769) hS1 rfl ⟨hT.t 11 769 (by decide), trivial⟩ hh1
  have hS2 := pr.2.2
  have hh2 := pr.1
  have e78 : (g_290 769 (g_336 0 778 d)) 778 = (g_336 0 778 d) 778 := pr.2.1 778 (by decide)
  have rv := pw.2.1
  have op : OPR d (g_336 0 778 d) (g_290 769 (g_336 0 778 d)) (v_336 0 778 d) (v_290 769 (g_336 0 778 d)) := opAddP h.1.2.2
  exact ⟨hS1, e70, ⟨⟨hS2, hh2, op.1⟩, op.2.2.2 h.2⟩, e78, rv, op⟩
theorem iv_43 {E : mO × tW} {d : mD} {a0 : Int} {a1 : Int} (hT : TKL E) (h : Inv2 E d) (h0 : inI a0) (h1 : inI a1) : Safe (g_337 0 a0 a1 778 d) ∧ (g_337 0 a0 a1 778 d) 770 = d 770 ∧ Inv2 E (g_293 769 a0 a1 (g_337 0 a0 a1 778 d)) ∧ (g_293 769 a0 a1 (g_337 0 a0 a1 778 d)) 778 = (g_337 0 a0 a1 778 d) 778 ∧ (0 ≤ (v_337 0 a0 a1 778 d) ∧ (v_337 0 a0 a1 778 d) ≤ 3) ∧ OPR d (g_337 0 a0 a1 778 d) (g_293 769 a0 a1 (g_337 0 a0 a1 778 d)) (v_337 0 a0 a1 778 d) (v_293 769 a0 a1 (g_337 0 a0 a1 778 d)) := by
  have hg := h.1.2.2.1.1
  have pw := p_337 (E := E) (d := d) (x0 := 0) (x1 := a0) (x2 := a1) (x3 := 778) hT.1 h.1.1 rfl rfl h0 h1 ⟨hT.t 10 0 (by decide), trivial, trivial, hT.t 30 778 (by decide), trivial⟩ h.1.2.1
  have hS1 := pw.2.2.2
  have hh1 := pw.1
  have F1 := pw.2.2.1
  have e70 : (g_337 0 a0 a1 778 d) 770 = d 770 := F1 770 (by decide)
  have pr := p_293 (E := E) (d := (g_337 0 a0 a1 778 d)) (x0 := 769) (x1 := a0) (x2 := a1) hS1 rfl h0 h1 ⟨hT.t 11 769 (by decide), trivial, trivial, trivial⟩ hh1
  have hS2 := pr.2.2
  have hh2 := pr.1
  have e78 : (g_293 769 a0 a1 (g_337 0 a0 a1 778 d)) 778 = (g_337 0 a0 a1 778 d) 778 := pr.2.1 778 (by decide)
  have rv := pw.2.1
  have op : OPR d (g_337 0 a0 a1 778 d) (g_293 769 a0 a1 (g_337 0 a0 a1 778 d)) (v_337 0 a0 a1 778 d) (v_293 769 a0 a1 (g_337 0 a0 a1 778 d)) := opSet hT h.1
  exact ⟨hS1, e70, ⟨⟨hS2, hh2, op.1⟩, op.2.2.2 h.2⟩, e78, rv, op⟩
theorem iv_44 {E : mO × tW} {d : mD}  (hT : TKL E) (h : Inv2 E d) : Safe (g_338 0 778 d) ∧ (g_338 0 778 d) 770 = d 770 ∧ Inv2 E (g_294 769 (g_338 0 778 d)) ∧ (g_294 769 (g_338 0 778 d)) 778 = (g_338 0 778 d) 778 ∧ (0 ≤ (v_338 0 778 d) ∧ (v_338 0 778 d) ≤ 3) ∧ OPR d (g_338 0 778 d) (g_294 769 (g_338 0 778 d)) (v_338 0 778 d) (v_294 769 (g_338 0 778 d)) := by
  have hg := h.1.2.2.1.1
  have pw := p_338 (E := E) (d := d) (x0 := 0) (x1 := 778) h.1.1 rfl rfl ⟨hT.t 10 0 (by decide), hT.t 30 778 (by decide), trivial⟩ h.1.2.1
  have hS1 := pw.2.2.2
  have hh1 := pw.1
  have F1 := pw.2.2.1
  have e70 : (g_338 0 778 d) 770 = d 770 := F1 770 (by decide)
  have pr := p_294 (E := E) (d := (g_338 0 778 d)) (x0 := 769) hS1 rfl ⟨hT.t 11 769 (by decide), trivial⟩ hh1
  have hS2 := pr.2.2
  have hh2 := pr.1
  have e78 : (g_294 769 (g_338 0 778 d)) 778 = (g_338 0 778 d) 778 := pr.2.1 778 (by decide)
  have rv := pw.2.1
  have op : OPR d (g_338 0 778 d) (g_294 769 (g_338 0 778 d)) (v_338 0 778 d) (v_294 769 (g_338 0 778 d)) := opUndo h.1.2.2
  exact ⟨hS1, e70, ⟨⟨hS2, hh2, op.1⟩, op.2.2.2 h.2⟩, e78, rv, op⟩
theorem iv_45 {E : mO × tW} {d : mD} {a0 : Int} (hT : TKL E) (h : Inv2 E d) (h0 : inI a0) : Safe (g_339 0 a0 d) ∧ (g_339 0 a0 d) 770 = d 770 ∧ Inv2 E (g_295 769 a0 (g_339 0 a0 d)) ∧ (g_295 769 a0 (g_339 0 a0 d)) 778 = (g_339 0 a0 d) 778 ∧ (0 ≤ (v_339 0 a0 d) ∧ (v_339 0 a0 d) ≤ 3) ∧ OPV d (g_295 769 a0 (g_339 0 a0 d)) (v_339 0 a0 d) := by
  have hg := h.1.2.2.1.1
  have pw := p_339 (E := E) (d := d) (x0 := 0) (x1 := a0) h.1.1 rfl h0 ⟨hT.t 10 0 (by decide), trivial, trivial⟩ h.1.2.1
  have hS1 := pw.2.2.2
  have hh1 := pw.1
  have F1 := pw.2.2.1
  have e70 : (g_339 0 a0 d) 770 = d 770 := F1 770 (by decide)
  have pr := p_295 (E := E) (d := (g_339 0 a0 d)) (x0 := 769) (x1 := a0) hS1 rfl h0 ⟨hT.t 11 769 (by decide), trivial, trivial⟩ hh1
  have hS2 := pr.2.2
  have hh2 := pr.1
  have e78 : (g_295 769 a0 (g_339 0 a0 d)) 778 = (g_339 0 a0 d) 778 := pr.2.1 778 (by decide)
  have rv := pw.2.1
  have op : OPV d (g_295 769 a0 (g_339 0 a0 d)) (v_339 0 a0 d) := opSave h.1.2.2
  exact ⟨hS1, e70, ⟨⟨hS2, hh2, op.1⟩, op.2.2 h.2⟩, e78, rv, op⟩
theorem iv_46 {E : mO × tW} {d : mD} {a0 : Int} (hT : TKL E) (h : Inv2 E d) (h0 : inI a0) : Safe (g_340 0 a0 d) ∧ (g_340 0 a0 d) 770 = d 770 ∧ Inv2 E (g_296 769 a0 (g_340 0 a0 d)) ∧ (g_296 769 a0 (g_340 0 a0 d)) 778 = (g_340 0 a0 d) 778 ∧ (0 ≤ (v_340 0 a0 d) ∧ (v_340 0 a0 d) ≤ 3) ∧ OPV d (g_296 769 a0 (g_340 0 a0 d)) (v_340 0 a0 d) := by
  have hg := h.1.2.2.1.1
  have pw := p_340 (E := E) (d := d) (x0 := 0) (x1 := a0) h.1.1 rfl h0 ⟨hT.t 10 0 (by decide), trivial, trivial⟩ h.1.2.1
  have hS1 := pw.2.2.2
  have hh1 := pw.1
  have F1 := pw.2.2.1
  have e70 : (g_340 0 a0 d) 770 = d 770 := F1 770 (by decide)
  have pr := p_296 (E := E) (d := (g_340 0 a0 d)) (x0 := 769) (x1 := a0) hS1 rfl h0 ⟨hT.t 11 769 (by decide), trivial, trivial⟩ hh1
  have hS2 := pr.2.2
  have hh2 := pr.1
  have e78 : (g_296 769 a0 (g_340 0 a0 d)) 778 = (g_340 0 a0 d) 778 := pr.2.1 778 (by decide)
  have rv := pw.2.1
  have op : OPV d (g_296 769 a0 (g_340 0 a0 d)) (v_340 0 a0 d) := opRest h.1.2.2
  exact ⟨hS1, e70, ⟨⟨hS2, hh2, op.1⟩, op.2.2 h.2⟩, e78, rv, op⟩
