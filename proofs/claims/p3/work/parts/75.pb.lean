/-! ===== contracts of the reader and the loader: printed by a program of mine ===== -/
theorem v91c {x : Int} {d d' : mD} (h : d' (x + 1) = d (x + 1)) (i : Int) : v_91 x i d' = v_91 x i d := by
  unfold v_91; rw [h]
theorem lp93c {x a b : Int} {d d' : mD} (h : d' (x + 1) = d (x + 1)) : ∀ (n : Nat) (y z : Int), lp_93_20 x a b n y z d' = lp_93_20 x a b n y z d := by
  intro n
  induction n with
  | zero => intro y z; show st_93_20 x a b _ y z d' = st_93_20 x a b _ y z d; unfold st_93_20; rw [v91c h, h]
  | succ n ih => intro y z; show st_93_20 x a b _ y z d' = st_93_20 x a b _ y z d; unfold st_93_20; rw [v91c h, h, ih]
theorem v56c {x : Int} {d d' : mD} (h0 : d' x = d x) (h : d' (x + 1 + 1) = d (x + 1 + 1)) : v_56 x d' = v_56 x d := by
  unfold v_56
  rw [h0]
  unfold v_93
  rw [lp93c h]
def v_32 (x0 x1 : Int) (d : mD) : Int := 0
def g_32 (x0 x1 : Int) (d : mD) : mD := mset (mset d x0 2 x1) x0 3 (d (x0 + 1) 2)
theorem k_32 {E : mO × tW} {K : tK} {d : mD} {x0 x1 : Int} (hS : Safe d) (hx0 : ldB x0) (p1 : 0 ≤ x1 ∧ x1 ≤ 6) (h : (0 ≤ (v_32 x0 x1 d) ∧ (v_32 x0 x1 d) ≤ 1) → (∀ b : Int, (b < x0 ∨ x0 < b) → (g_32 x0 x1 d) b = d b) → (g_32 x0 x1 d) x0 4 = d x0 4 → (g_32 x0 x1 d) x0 5 = d x0 5 → (g_32 x0 x1 d) x0 6 = d x0 6 → (g_32 x0 x1 d) (x0 + 4) 2 = d (x0 + 4) 2 → ((v_32 x0 x1 d) = 0) → Safe (g_32 x0 x1 d) → K (.inl (some (0, (v_32 x0 x1 d)))) (g_32 x0 x1 d)) : tCall E 32 [.inr (2, x0), .inl (0, x1)] d K := by
  refine t_32_0 ?_
  have w8 := r_5_f2 hS (ldB.re hx0)
  have hS1 : Safe (mset d x0 2 x1) := s_2_f2 hS hx0 (by omega)
  try rw [mset_ne (d := d) (a := x0) (i := (2 : Int)) (v := x1) (b := x0 + 1) (by omega)]
  have q1 := r_5_f2 hS (ldB.re hx0)
  have hS2 : Safe (mset (mset d x0 2 x1) x0 3 (d (x0 + 1) 2)) := s_2_f3 hS1 hx0 (by omega)
  refine ⟨by omega, ?_⟩
  have y0 : v_32 x0 x1 d = 0 := by simp only [v_32]
  have y1 : g_32 x0 x1 d = mset (mset d x0 2 x1) x0 3 (d (x0 + 1) 2) := by simp only [g_32]
  rw [y0] at h
  rw [y1] at h
  exact h (show 0 ≤ ((0 : Int)) ∧ ((0 : Int)) ≤ 1 from (by omega)) (show ∀ b : Int, (b < x0 ∨ x0 < b) → (mset (mset d x0 2 x1) x0 3 (d (x0 + 1) 2)) b = d b from fun b hb => (mset_ne (by omega)).trans (mset_ne (by omega))) (show (mset (mset d x0 2 x1) x0 3 (d (x0 + 1) 2)) x0 4 = d x0 4 from (mset_ni (by omega)).trans (mset_ni (by omega))) (show (mset (mset d x0 2 x1) x0 3 (d (x0 + 1) 2)) x0 5 = d x0 5 from (mset_ni (by omega)).trans (mset_ni (by omega))) (show (mset (mset d x0 2 x1) x0 3 (d (x0 + 1) 2)) x0 6 = d x0 6 from (mset_ni (by omega)).trans (mset_ni (by omega))) (show (mset (mset d x0 2 x1) x0 3 (d (x0 + 1) 2)) (x0 + 4) 2 = d (x0 + 4) 2 from (congrFun (mset_ne (by omega)) 2).trans (congrFun (mset_ne (by omega)) 2)) (show ((0 : Int)) = 0 by omega) hS2
def v_30 (x0 : Int) (d : mD) : Int := if d (x0 + 1) 1 = 2 then 1 else if v_32 x0 1 d = 0 then 0 else 1
def g_30 (x0 : Int) (d : mD) : mD := if d (x0 + 1) 1 = 2 then d else g_32 x0 1 d
theorem k_30 {E : mO × tW} {K : tK} {d : mD} {x0 : Int} (hS : Safe d) (hx0 : ldB x0) (h : (0 ≤ (v_30 x0 d) ∧ (v_30 x0 d) ≤ 1) → (∀ b : Int, (b < x0 ∨ x0 < b) → (g_30 x0 d) b = d b) → (g_30 x0 d) x0 4 = d x0 4 → (g_30 x0 d) x0 5 = d x0 5 → (g_30 x0 d) x0 6 = d x0 6 → (g_30 x0 d) (x0 + 4) 2 = d (x0 + 4) 2 → Safe (g_30 x0 d) → K (.inl (some (0, (v_30 x0 d)))) (g_30 x0 d)) : tCall E 30 [.inr (2, x0)] d K := by
  refine t_30_0 ?_
  have w8 := r_5_f2 hS (ldB.re hx0)
  have q1 := r_5_f1 hS (ldB.re hx0)
  refine ⟨⟨m_inR (by omega) (by omega), m_inR (by omega) (by omega)⟩, fun c0 => ?_, fun c0 => ?_⟩
  · refine ⟨by omega, ?_⟩
    have y0 : v_30 x0 d = 1 := by simp only [v_30, if_pos (show d (x0 + 1) 1 = 2 from c0)]
    have y1 : g_30 x0 d = d := by simp only [g_30, if_pos (show d (x0 + 1) 1 = 2 from c0)]
    rw [y0] at h
    rw [y1] at h
    exact h (show 0 ≤ ((1 : Int)) ∧ ((1 : Int)) ≤ 1 from (by omega)) (show ∀ b : Int, (b < x0 ∨ x0 < b) → d b = d b from fun _ _ => rfl) (show d x0 4 = d x0 4 from rfl) (show d x0 5 = d x0 5 from rfl) (show d x0 6 = d x0 6 from rfl) (show d (x0 + 4) 2 = d (x0 + 4) 2 from rfl) hS
  · refine k_32 hS hx0 (by omega) (fun e1 F1 k1_0 k1_1 k1_2 k1_3 n1_0 hS1 => ?_)
    refine t_30_16 ?_
    have w8 := r_5_f2 hS1 (ldB.re hx0)
    refine ⟨m_inR (by omega) (by omega), fun c1 => ?_, fun c1 => ?_⟩
    · refine ⟨by omega, ?_⟩
      have y0 : v_30 x0 d = 0 := by simp only [v_30, if_neg (show ¬ d (x0 + 1) 1 = 2 from c0), if_pos (show v_32 x0 1 d = 0 from c1)]
      have y1 : g_30 x0 d = g_32 x0 1 d := by simp only [g_30, if_neg (show ¬ d (x0 + 1) 1 = 2 from c0), if_pos (show v_32 x0 1 d = 0 from c1)]
      rw [y0] at h
      rw [y1] at h
      exact h (show 0 ≤ ((0 : Int)) ∧ ((0 : Int)) ≤ 1 from (by omega)) (show ∀ b : Int, (b < x0 ∨ x0 < b) → (g_32 x0 1 d) b = d b from fun b hb => F1 b (by omega)) (show (g_32 x0 1 d) x0 4 = d x0 4 from k1_0) (show (g_32 x0 1 d) x0 5 = d x0 5 from k1_1) (show (g_32 x0 1 d) x0 6 = d x0 6 from k1_2) (show (g_32 x0 1 d) (x0 + 4) 2 = d (x0 + 4) 2 from k1_3) hS1
    · refine ⟨by omega, ?_⟩
      have y0 : v_30 x0 d = 1 := by simp only [v_30, if_neg (show ¬ d (x0 + 1) 1 = 2 from c0), if_neg (show ¬ v_32 x0 1 d = 0 from c1)]
      have y1 : g_30 x0 d = g_32 x0 1 d := by simp only [g_30, if_neg (show ¬ d (x0 + 1) 1 = 2 from c0), if_neg (show ¬ v_32 x0 1 d = 0 from c1)]
      rw [y0] at h
      rw [y1] at h
      exact h (show 0 ≤ ((1 : Int)) ∧ ((1 : Int)) ≤ 1 from (by omega)) (show ∀ b : Int, (b < x0 ∨ x0 < b) → (g_32 x0 1 d) b = d b from fun b hb => F1 b (by omega)) (show (g_32 x0 1 d) x0 4 = d x0 4 from k1_0) (show (g_32 x0 1 d) x0 5 = d x0 5 from k1_1) (show (g_32 x0 1 d) x0 6 = d x0 6 from k1_2) (show (g_32 x0 1 d) (x0 + 4) 2 = d (x0 + 4) 2 from k1_3) hS1
def v_31 (x0 : Int) (d : mD) : Int := if v_30 x0 d = 0 then 0 else 1
def g_31 (x0 : Int) (d : mD) : mD := if v_30 x0 d = 0 then g_30 x0 d else g_52 (x0 + 1) (g_30 x0 d)
theorem k_31 {E : mO × tW} {K : tK} {d : mD} {x0 : Int} (hS : Safe d) (hx0 : ldB x0) (h : (0 ≤ (v_31 x0 d) ∧ (v_31 x0 d) ≤ 1) → (∀ b : Int, (b < x0 ∨ x0 + 1 < b) → (g_31 x0 d) b = d b) → (g_31 x0 d) x0 4 = d x0 4 → (g_31 x0 d) x0 5 = d x0 5 → (g_31 x0 d) x0 6 = d x0 6 → (g_31 x0 d) (x0 + 4) 2 = d (x0 + 4) 2 → Safe (g_31 x0 d) → K (.inl (some (0, (v_31 x0 d)))) (g_31 x0 d)) : tCall E 31 [.inr (2, x0)] d K := by
  refine t_31_0 ?_
  have w8 := r_5_f2 hS (ldB.re hx0)
  refine k_30 hS hx0 (fun e1 F1 k1_0 k1_1 k1_2 k1_3 hS1 => ?_)
  refine t_31_4 ?_
  have w8 := r_5_f2 hS1 (ldB.re hx0)
  refine ⟨m_inR (by omega) (by omega), fun c0 => ?_, fun c0 => ?_⟩
  · refine k_52 hS1 (ldB.re hx0) (fun F2 hS2 => ?_)
    refine t_31_16 ?_
    have w8 := r_5_f2 hS2 (ldB.re hx0)
    refine ⟨by omega, ?_⟩
    have y0 : v_31 x0 d = 1 := by simp only [v_31, if_neg (show ¬ v_30 x0 d = 0 from c0)]
    have y1 : g_31 x0 d = g_52 (x0 + 1) (g_30 x0 d) := by simp only [g_31, if_neg (show ¬ v_30 x0 d = 0 from c0)]
    rw [y0] at h
    rw [y1] at h
    exact h (show 0 ≤ ((1 : Int)) ∧ ((1 : Int)) ≤ 1 from (by omega)) (show ∀ b : Int, (b < x0 ∨ x0 + 1 < b) → (g_52 (x0 + 1) (g_30 x0 d)) b = d b from fun b hb => (F2 b (by omega)).trans (F1 b (by omega))) (show (g_52 (x0 + 1) (g_30 x0 d)) x0 4 = d x0 4 from (congrFun (F2 x0 (by omega)) 4).trans (k1_0)) (show (g_52 (x0 + 1) (g_30 x0 d)) x0 5 = d x0 5 from (congrFun (F2 x0 (by omega)) 5).trans (k1_1)) (show (g_52 (x0 + 1) (g_30 x0 d)) x0 6 = d x0 6 from (congrFun (F2 x0 (by omega)) 6).trans (k1_2)) (show (g_52 (x0 + 1) (g_30 x0 d)) (x0 + 4) 2 = d (x0 + 4) 2 from (congrFun (F2 (x0 + 4) (by omega)) 2).trans (k1_3)) hS2
  · refine ⟨by omega, ?_⟩
    have y0 : v_31 x0 d = 0 := by simp only [v_31, if_pos (show v_30 x0 d = 0 from c0)]
    have y1 : g_31 x0 d = g_30 x0 d := by simp only [g_31, if_pos (show v_30 x0 d = 0 from c0)]
    rw [y0] at h
    rw [y1] at h
    exact h (show 0 ≤ ((0 : Int)) ∧ ((0 : Int)) ≤ 1 from (by omega)) (show ∀ b : Int, (b < x0 ∨ x0 + 1 < b) → (g_30 x0 d) b = d b from fun b hb => F1 b (by omega)) (show (g_30 x0 d) x0 4 = d x0 4 from k1_0) (show (g_30 x0 d) x0 5 = d x0 5 from k1_1) (show (g_30 x0 d) x0 6 = d x0 6 from k1_2) (show (g_30 x0 d) (x0 + 4) 2 = d (x0 + 4) 2 from k1_3) hS1
def v_24 (x0 x1 : Int) (d : mD) : Int := if v_55 (x0 + 1) x1 d = 0 then v_32 x0 1 d else 1
def g_24 (x0 x1 : Int) (d : mD) : mD := if v_55 (x0 + 1) x1 d = 0 then g_32 x0 1 d else g_52 (x0 + 1) d
theorem k_24 {E : mO × tW} {K : tK} {d : mD} {x0 x1 : Int} (hW : W55 E) (hS : Safe d) (hx0 : ldB x0) (hk : 0 ≤ x1 ∧ x1 ≤ 6) (h : (0 ≤ (v_24 x0 x1 d) ∧ (v_24 x0 x1 d) ≤ 1) → (∀ b : Int, (b < x0 ∨ x0 + 1 < b) → (g_24 x0 x1 d) b = d b) → (g_24 x0 x1 d) x0 4 = d x0 4 → (g_24 x0 x1 d) x0 5 = d x0 5 → (g_24 x0 x1 d) x0 6 = d x0 6 → (g_24 x0 x1 d) (x0 + 4) 2 = d (x0 + 4) 2 → Safe (g_24 x0 x1 d) → K (.inl (some (0, (v_24 x0 x1 d)))) (g_24 x0 x1 d)) : tCall E 24 [.inr (2, x0), .inl (5, x1)] d K := by
  refine t_24_0 ?_
  have w8 := r_5_f2 hS (ldB.re hx0)
  refine k_55 hW hS (ldB.re hx0) (by omega) (fun e1 => ?_)
  refine t_24_8 ?_
  have w8 := r_5_f2 hS (ldB.re hx0)
  refine ⟨m_inR (by omega) (by omega), fun c0 => ?_, fun c0 => ?_⟩
  · refine k_52 hS (ldB.re hx0) (fun F1 hS1 => ?_)
    refine t_24_24 ?_
    have w8 := r_5_f2 hS1 (ldB.re hx0)
    refine ⟨by omega, ?_⟩
    have y0 : v_24 x0 x1 d = 1 := by simp only [v_24, if_neg (show ¬ v_55 (x0 + 1) x1 d = 0 from c0)]
    have y1 : g_24 x0 x1 d = g_52 (x0 + 1) d := by simp only [g_24, if_neg (show ¬ v_55 (x0 + 1) x1 d = 0 from c0)]
    rw [y0] at h
    rw [y1] at h
    exact h (show 0 ≤ ((1 : Int)) ∧ ((1 : Int)) ≤ 1 from (by omega)) (show ∀ b : Int, (b < x0 ∨ x0 + 1 < b) → (g_52 (x0 + 1) d) b = d b from fun b hb => F1 b (by omega)) (show (g_52 (x0 + 1) d) x0 4 = d x0 4 from congrFun (F1 x0 (by omega)) 4) (show (g_52 (x0 + 1) d) x0 5 = d x0 5 from congrFun (F1 x0 (by omega)) 5) (show (g_52 (x0 + 1) d) x0 6 = d x0 6 from congrFun (F1 x0 (by omega)) 6) (show (g_52 (x0 + 1) d) (x0 + 4) 2 = d (x0 + 4) 2 from congrFun (F1 (x0 + 4) (by omega)) 2) hS1
  · refine k_32 hS hx0 (by omega) (fun e2 F2 k2_0 k2_1 k2_2 k2_3 n2_0 hS2 => ?_)
    refine t_24_16 ?_
    have w8 := r_5_f2 hS2 (ldB.re hx0)
    refine ⟨by omega, ?_⟩
    have y0 : v_24 x0 x1 d = v_32 x0 1 d := by simp only [v_24, if_pos (show v_55 (x0 + 1) x1 d = 0 from c0)]
    have y1 : g_24 x0 x1 d = g_32 x0 1 d := by simp only [g_24, if_pos (show v_55 (x0 + 1) x1 d = 0 from c0)]
    rw [y0] at h
    rw [y1] at h
    exact h (show 0 ≤ (v_32 x0 1 d) ∧ (v_32 x0 1 d) ≤ 1 from (by omega)) (show ∀ b : Int, (b < x0 ∨ x0 + 1 < b) → (g_32 x0 1 d) b = d b from fun b hb => F2 b (by omega)) (show (g_32 x0 1 d) x0 4 = d x0 4 from k2_0) (show (g_32 x0 1 d) x0 5 = d x0 5 from k2_1) (show (g_32 x0 1 d) x0 6 = d x0 6 from k2_2) (show (g_32 x0 1 d) (x0 + 4) 2 = d (x0 + 4) 2 from k2_3) hS2
def v_25 (x0 x1 x2 : Int) (d : mD) : Int := if d (x0 + 1) 1 = 1 then (if d (x0 + 1) 4 < x1 then v_32 x0 2 d else if x2 < d (x0 + 1) 4 then v_32 x0 2 d else 1) else v_32 x0 1 d
def g_25 (x0 x1 x2 : Int) (d : mD) : mD := if d (x0 + 1) 1 = 1 then (if d (x0 + 1) 4 < x1 then g_32 x0 2 d else if x2 < d (x0 + 1) 4 then g_32 x0 2 d else g_52 (x0 + 1) (mset d x0 4 (d (x0 + 1) 4))) else g_32 x0 1 d
theorem k_25 {E : mO × tW} {K : tK} {d : mD} {x0 x1 x2 : Int} (hS : Safe d) (hx0 : ldB x0) (p1 : 0 ≤ x1 ∧ x1 ≤ 99999) (p2 : 0 ≤ x2 ∧ x2 ≤ 99999) (h : (0 ≤ (v_25 x0 x1 x2 d) ∧ (v_25 x0 x1 x2 d) ≤ 1) → (∀ b : Int, (b < x0 ∨ x0 + 1 < b) → (g_25 x0 x1 x2 d) b = d b) → (g_25 x0 x1 x2 d) x0 5 = d x0 5 → (g_25 x0 x1 x2 d) x0 6 = d x0 6 → (g_25 x0 x1 x2 d) (x0 + 4) 2 = d (x0 + 4) 2 → ((v_25 x0 x1 x2 d) = 0 ∨ (x1 ≤ (g_25 x0 x1 x2 d) x0 4 ∧ (g_25 x0 x1 x2 d) x0 4 ≤ x2)) → Safe (g_25 x0 x1 x2 d) → K (.inl (some (0, (v_25 x0 x1 x2 d)))) (g_25 x0 x1 x2 d)) : tCall E 25 [.inr (2, x0), .inl (0, x1), .inl (0, x2)] d K := by
  refine t_25_0 ?_
  have w8 := r_5_f2 hS (ldB.re hx0)
  have q1 := r_5_f1 hS (ldB.re hx0)
  refine ⟨⟨m_inR (by omega) (by omega), m_inR (by omega) (by omega)⟩, fun c0 => ?_, fun c0 => ?_⟩
  · have q2 := r_5_f4 hS (ldB.re hx0)
    refine ⟨⟨m_inR (by omega) (by omega), m_inR (by omega) (by omega)⟩, fun c1 => ?_, fun c1 => ?_⟩
    · refine k_32 hS hx0 (by omega) (fun e1 F1 k1_0 k1_1 k1_2 k1_3 n1_0 hS1 => ?_)
      refine t_25_44 ?_
      have w8 := r_5_f2 hS1 (ldB.re hx0)
      refine ⟨by omega, ?_⟩
      have q3 : (g_32 x0 2 d) x0 4 = d x0 4 := k1_0
      have y0 : v_25 x0 x1 x2 d = v_32 x0 2 d := by simp only [v_25, if_pos (show d (x0 + 1) 1 = 1 from c0), if_pos (show d (x0 + 1) 4 < x1 from c1)]
      have y1 : g_25 x0 x1 x2 d = g_32 x0 2 d := by simp only [g_25, if_pos (show d (x0 + 1) 1 = 1 from c0), if_pos (show d (x0 + 1) 4 < x1 from c1)]
      rw [y0] at h
      rw [y1] at h
      exact h (show 0 ≤ (v_32 x0 2 d) ∧ (v_32 x0 2 d) ≤ 1 from (by omega)) (show ∀ b : Int, (b < x0 ∨ x0 + 1 < b) → (g_32 x0 2 d) b = d b from fun b hb => F1 b (by omega)) (show (g_32 x0 2 d) x0 5 = d x0 5 from k1_1) (show (g_32 x0 2 d) x0 6 = d x0 6 from k1_2) (show (g_32 x0 2 d) (x0 + 4) 2 = d (x0 + 4) 2 from k1_3) (show (v_32 x0 2 d) = 0 ∨ (x1 ≤ (g_32 x0 2 d) x0 4 ∧ (g_32 x0 2 d) x0 4 ≤ x2) by omega) hS1
    · refine ⟨⟨m_inR (by omega) (by omega), m_inR (by omega) (by omega)⟩, fun c2 => ?_, fun c2 => ?_⟩
      · have hS2 : Safe (mset d x0 4 (d (x0 + 1) 4)) := s_2_f4 hS hx0 (by omega)
        refine k_52 hS2 (ldB.re hx0) (fun F2 hS3 => ?_)
        refine t_25_63 ?_
        have w8 := r_5_f2 hS3 (ldB.re hx0)
        refine ⟨by omega, ?_⟩
        have q4 : (g_52 (x0 + 1) (mset d x0 4 (d (x0 + 1) 4))) x0 4 = d (x0 + 1) 4 := (congrFun (F2 x0 (by omega)) 4).trans (mset_eq)
        have y0 : v_25 x0 x1 x2 d = 1 := by simp only [v_25, if_pos (show d (x0 + 1) 1 = 1 from c0), if_neg (show ¬ d (x0 + 1) 4 < x1 from Int.not_lt.mpr c1), if_neg (show ¬ x2 < d (x0 + 1) 4 from Int.not_lt.mpr c2)]
        have y1 : g_25 x0 x1 x2 d = g_52 (x0 + 1) (mset d x0 4 (d (x0 + 1) 4)) := by simp only [g_25, if_pos (show d (x0 + 1) 1 = 1 from c0), if_neg (show ¬ d (x0 + 1) 4 < x1 from Int.not_lt.mpr c1), if_neg (show ¬ x2 < d (x0 + 1) 4 from Int.not_lt.mpr c2)]
        rw [y0] at h
        rw [y1] at h
        exact h (show 0 ≤ ((1 : Int)) ∧ ((1 : Int)) ≤ 1 from (by omega)) (show ∀ b : Int, (b < x0 ∨ x0 + 1 < b) → (g_52 (x0 + 1) (mset d x0 4 (d (x0 + 1) 4))) b = d b from fun b hb => (F2 b (by omega)).trans (mset_ne (by omega))) (show (g_52 (x0 + 1) (mset d x0 4 (d (x0 + 1) 4))) x0 5 = d x0 5 from (congrFun (F2 x0 (by omega)) 5).trans (mset_ni (by omega))) (show (g_52 (x0 + 1) (mset d x0 4 (d (x0 + 1) 4))) x0 6 = d x0 6 from (congrFun (F2 x0 (by omega)) 6).trans (mset_ni (by omega))) (show (g_52 (x0 + 1) (mset d x0 4 (d (x0 + 1) 4))) (x0 + 4) 2 = d (x0 + 4) 2 from (congrFun (F2 (x0 + 4) (by omega)) 2).trans (congrFun (mset_ne (by omega)) 2)) (show ((1 : Int)) = 0 ∨ (x1 ≤ (g_52 (x0 + 1) (mset d x0 4 (d (x0 + 1) 4))) x0 4 ∧ (g_52 (x0 + 1) (mset d x0 4 (d (x0 + 1) 4))) x0 4 ≤ x2) by omega) hS3
      · refine k_32 hS hx0 (by omega) (fun e2 F3 k3_0 k3_1 k3_2 k3_3 n3_0 hS4 => ?_)
        refine t_25_44 ?_
        have w8 := r_5_f2 hS4 (ldB.re hx0)
        refine ⟨by omega, ?_⟩
        have q5 : (g_32 x0 2 d) x0 4 = d x0 4 := k3_0
        have y0 : v_25 x0 x1 x2 d = v_32 x0 2 d := by simp only [v_25, if_pos (show d (x0 + 1) 1 = 1 from c0), if_neg (show ¬ d (x0 + 1) 4 < x1 from Int.not_lt.mpr c1), if_pos (show x2 < d (x0 + 1) 4 from c2)]
        have y1 : g_25 x0 x1 x2 d = g_32 x0 2 d := by simp only [g_25, if_pos (show d (x0 + 1) 1 = 1 from c0), if_neg (show ¬ d (x0 + 1) 4 < x1 from Int.not_lt.mpr c1), if_pos (show x2 < d (x0 + 1) 4 from c2)]
        rw [y0] at h
        rw [y1] at h
        exact h (show 0 ≤ (v_32 x0 2 d) ∧ (v_32 x0 2 d) ≤ 1 from (by omega)) (show ∀ b : Int, (b < x0 ∨ x0 + 1 < b) → (g_32 x0 2 d) b = d b from fun b hb => F3 b (by omega)) (show (g_32 x0 2 d) x0 5 = d x0 5 from k3_1) (show (g_32 x0 2 d) x0 6 = d x0 6 from k3_2) (show (g_32 x0 2 d) (x0 + 4) 2 = d (x0 + 4) 2 from k3_3) (show (v_32 x0 2 d) = 0 ∨ (x1 ≤ (g_32 x0 2 d) x0 4 ∧ (g_32 x0 2 d) x0 4 ≤ x2) by omega) hS4
  · refine k_32 hS hx0 (by omega) (fun e3 F4 k4_0 k4_1 k4_2 k4_3 n4_0 hS5 => ?_)
    refine t_25_16 ?_
    have w8 := r_5_f2 hS5 (ldB.re hx0)
    refine ⟨by omega, ?_⟩
    have q6 : (g_32 x0 1 d) x0 4 = d x0 4 := k4_0
    have y0 : v_25 x0 x1 x2 d = v_32 x0 1 d := by simp only [v_25, if_neg (show ¬ d (x0 + 1) 1 = 1 from c0)]
    have y1 : g_25 x0 x1 x2 d = g_32 x0 1 d := by simp only [g_25, if_neg (show ¬ d (x0 + 1) 1 = 1 from c0)]
    rw [y0] at h
    rw [y1] at h
    exact h (show 0 ≤ (v_32 x0 1 d) ∧ (v_32 x0 1 d) ≤ 1 from (by omega)) (show ∀ b : Int, (b < x0 ∨ x0 + 1 < b) → (g_32 x0 1 d) b = d b from fun b hb => F4 b (by omega)) (show (g_32 x0 1 d) x0 5 = d x0 5 from k4_1) (show (g_32 x0 1 d) x0 6 = d x0 6 from k4_2) (show (g_32 x0 1 d) (x0 + 4) 2 = d (x0 + 4) 2 from k4_3) (show (v_32 x0 1 d) = 0 ∨ (x1 ≤ (g_32 x0 1 d) x0 4 ∧ (g_32 x0 1 d) x0 4 ≤ x2) by omega) hS5
def v_26 (x0 : Int) (d : mD) : Int := if v_56 (x0 + 1) d = (-1) then v_32 x0 1 (mset d x0 5 (v_56 (x0 + 1) d)) else 1
def g_26 (x0 : Int) (d : mD) : mD := if v_56 (x0 + 1) d = (-1) then g_32 x0 1 (mset d x0 5 (v_56 (x0 + 1) d)) else g_52 (x0 + 1) (mset d x0 5 (v_56 (x0 + 1) d))
theorem k_26 {E : mO × tW} {K : tK} {d : mD} {x0 : Int} (hS : Safe d) (hx0 : ldB x0) (h : (0 ≤ (v_26 x0 d) ∧ (v_26 x0 d) ≤ 1) → (∀ b : Int, (b < x0 ∨ x0 + 1 < b) → (g_26 x0 d) b = d b) → (g_26 x0 d) x0 4 = d x0 4 → (g_26 x0 d) x0 6 = d x0 6 → (g_26 x0 d) (x0 + 4) 2 = d (x0 + 4) 2 → ((v_26 x0 d) = 0 ∨ (0 ≤ (g_26 x0 d) x0 5 ∧ ¬ v_56 (x0 + 1) d = -1)) → Safe (g_26 x0 d) → K (.inl (some (0, (v_26 x0 d)))) (g_26 x0 d)) : tCall E 26 [.inr (2, x0)] d K := by
  refine t_26_0 ?_
  have w8 := r_5_f2 hS (ldB.re hx0)
  refine k_56 hS (ldB.re hx0) (fun e1 => ?_)
  refine t_26_8 ?_
  have w8 := r_5_f2 hS (ldB.re hx0)
  have hS1 : Safe (mset d x0 5 (v_56 (x0 + 1) d)) := s_2_f5 hS hx0 (by omega)
  try rw [mset_eq (d := d) (a := x0) (i := (5 : Int)) (v := v_56 (x0 + 1) d)]
  refine ⟨⟨m_inR (by omega) (by omega), m_inR (by omega) (by omega)⟩, fun c0 => ?_, fun c0 => ?_⟩
  · refine k_52 hS1 (ldB.re hx0) (fun F1 hS2 => ?_)
    refine t_26_32 ?_
    have w8 := r_5_f2 hS2 (ldB.re hx0)
    refine ⟨by omega, ?_⟩
    have q1 : (g_52 (x0 + 1) (mset d x0 5 (v_56 (x0 + 1) d))) x0 5 = v_56 (x0 + 1) d := (congrFun (F1 x0 (by omega)) 5).trans (mset_eq)
    have y0 : v_26 x0 d = 1 := by simp only [v_26, if_neg (show ¬ v_56 (x0 + 1) d = (-1) from c0)]
    have y1 : g_26 x0 d = g_52 (x0 + 1) (mset d x0 5 (v_56 (x0 + 1) d)) := by simp only [g_26, if_neg (show ¬ v_56 (x0 + 1) d = (-1) from c0)]
    rw [y0] at h
    rw [y1] at h
    exact h (show 0 ≤ ((1 : Int)) ∧ ((1 : Int)) ≤ 1 from (by omega)) (show ∀ b : Int, (b < x0 ∨ x0 + 1 < b) → (g_52 (x0 + 1) (mset d x0 5 (v_56 (x0 + 1) d))) b = d b from fun b hb => (F1 b (by omega)).trans (mset_ne (by omega))) (show (g_52 (x0 + 1) (mset d x0 5 (v_56 (x0 + 1) d))) x0 4 = d x0 4 from (congrFun (F1 x0 (by omega)) 4).trans (mset_ni (by omega))) (show (g_52 (x0 + 1) (mset d x0 5 (v_56 (x0 + 1) d))) x0 6 = d x0 6 from (congrFun (F1 x0 (by omega)) 6).trans (mset_ni (by omega))) (show (g_52 (x0 + 1) (mset d x0 5 (v_56 (x0 + 1) d))) (x0 + 4) 2 = d (x0 + 4) 2 from (congrFun (F1 (x0 + 4) (by omega)) 2).trans (congrFun (mset_ne (by omega)) 2)) (show ((1 : Int)) = 0 ∨ (0 ≤ (g_52 (x0 + 1) (mset d x0 5 (v_56 (x0 + 1) d))) x0 5 ∧ ¬ v_56 (x0 + 1) d = -1) by omega) hS2
  · refine k_32 hS1 hx0 (by omega) (fun e2 F2 k2_0 k2_1 k2_2 k2_3 n2_0 hS3 => ?_)
    refine t_26_24 ?_
    have w8 := r_5_f2 hS3 (ldB.re hx0)
    refine ⟨by omega, ?_⟩
    have q2 : (g_32 x0 1 (mset d x0 5 (v_56 (x0 + 1) d))) x0 5 = v_56 (x0 + 1) d := (k2_1).trans (mset_eq)
    have y0 : v_26 x0 d = v_32 x0 1 (mset d x0 5 (v_56 (x0 + 1) d)) := by simp only [v_26, if_pos (show v_56 (x0 + 1) d = (-1) from c0)]
    have y1 : g_26 x0 d = g_32 x0 1 (mset d x0 5 (v_56 (x0 + 1) d)) := by simp only [g_26, if_pos (show v_56 (x0 + 1) d = (-1) from c0)]
    rw [y0] at h
    rw [y1] at h
    exact h (show 0 ≤ (v_32 x0 1 (mset d x0 5 (v_56 (x0 + 1) d))) ∧ (v_32 x0 1 (mset d x0 5 (v_56 (x0 + 1) d))) ≤ 1 from (by omega)) (show ∀ b : Int, (b < x0 ∨ x0 + 1 < b) → (g_32 x0 1 (mset d x0 5 (v_56 (x0 + 1) d))) b = d b from fun b hb => (F2 b (by omega)).trans (mset_ne (by omega))) (show (g_32 x0 1 (mset d x0 5 (v_56 (x0 + 1) d))) x0 4 = d x0 4 from (k2_0).trans (mset_ni (by omega))) (show (g_32 x0 1 (mset d x0 5 (v_56 (x0 + 1) d))) x0 6 = d x0 6 from (k2_2).trans (mset_ni (by omega))) (show (g_32 x0 1 (mset d x0 5 (v_56 (x0 + 1) d))) (x0 + 4) 2 = d (x0 + 4) 2 from (k2_3).trans (congrFun (mset_ne (by omega)) 2)) (show (v_32 x0 1 (mset d x0 5 (v_56 (x0 + 1) d))) = 0 ∨ (0 ≤ (g_32 x0 1 (mset d x0 5 (v_56 (x0 + 1) d))) x0 5 ∧ ¬ v_56 (x0 + 1) d = -1) by omega) hS3
def v_27 (x0 : Int) (d : mD) : Int := if v_56 (x0 + 1) (mset d x0 6 (v_48 (x0 + 4 + 10) (v_56 (x0 + 1) d) d)) = (-1) then v_26 x0 (mset d x0 6 (v_48 (x0 + 4 + 10) (v_56 (x0 + 1) d) d)) else if v_48 (x0 + 4 + 10) (v_56 (x0 + 1) d) d = (-1) then v_32 x0 4 (mset d x0 6 (v_48 (x0 + 4 + 10) (v_56 (x0 + 1) d) d)) else v_26 x0 (mset d x0 6 (v_48 (x0 + 4 + 10) (v_56 (x0 + 1) d) d))
def g_27 (x0 : Int) (d : mD) : mD := if v_56 (x0 + 1) (mset d x0 6 (v_48 (x0 + 4 + 10) (v_56 (x0 + 1) d) d)) = (-1) then g_26 x0 (mset d x0 6 (v_48 (x0 + 4 + 10) (v_56 (x0 + 1) d) d)) else if v_48 (x0 + 4 + 10) (v_56 (x0 + 1) d) d = (-1) then g_32 x0 4 (mset d x0 6 (v_48 (x0 + 4 + 10) (v_56 (x0 + 1) d) d)) else g_26 x0 (mset d x0 6 (v_48 (x0 + 4 + 10) (v_56 (x0 + 1) d) d))
theorem k_27 {E : mO × tW} {K : tK} {d : mD} {x0 : Int} (hS : Safe d) (hx0 : ldB x0) (h : (0 ≤ (v_27 x0 d) ∧ (v_27 x0 d) ≤ 1) → (∀ b : Int, (b < x0 ∨ x0 + 1 < b) → (g_27 x0 d) b = d b) → (g_27 x0 d) x0 4 = d x0 4 → (g_27 x0 d) (x0 + 4) 2 = d (x0 + 4) 2 → ((v_27 x0 d) = 0 ∨ (0 ≤ (g_27 x0 d) x0 6 ∧ (g_27 x0 d) x0 6 ≤ 15)) → Safe (g_27 x0 d) → K (.inl (some (0, (v_27 x0 d)))) (g_27 x0 d)) : tCall E 27 [.inr (2, x0)] d K := by
  refine t_27_0 ?_
  have w8 := r_5_f2 hS (ldB.re hx0)
  refine k_56 hS (ldB.re hx0) (fun e1 => ?_)
  refine t_27_15 ?_
  have w8 := r_5_f2 hS (ldB.re hx0)
  refine k_48 hS (stB.pe (ldB.st hx0)) (m_inR (by omega) (by omega)) (fun e2 => ?_)
  refine t_27_18 ?_
  have w8 := r_5_f2 hS (ldB.re hx0)
  have hS1 : Safe (mset d x0 6 (v_48 (x0 + 4 + 10) (v_56 (x0 + 1) d) d)) := s_2_f6 hS hx0 (by omega)
  refine k_56 hS1 (ldB.re hx0) (fun e3 => ?_)
  refine t_27_28 ?_
  have w8 := r_5_f2 hS1 (ldB.re hx0)
  refine ⟨⟨m_inR (by omega) (by omega), m_inR (by omega) (by omega)⟩, fun c0 => ?_, fun c0 => ?_⟩
  · refine k_26 hS1 hx0 (fun e4 F1 k1_0 k1_1 k1_2 n1_0 hS2 => ?_)
    refine t_27_50 ?_
    have w8 := r_5_f2 hS2 (ldB.re hx0)
    refine ⟨by omega, ?_⟩
    have q1 : (g_26 x0 (mset d x0 6 (v_48 (x0 + 4 + 10) (v_56 (x0 + 1) d) d))) x0 6 = v_48 (x0 + 4 + 10) (v_56 (x0 + 1) d) d := (k1_1).trans (mset_eq)
    have y0 : v_27 x0 d = v_26 x0 (mset d x0 6 (v_48 (x0 + 4 + 10) (v_56 (x0 + 1) d) d)) := by simp only [v_27, if_pos (show v_56 (x0 + 1) (mset d x0 6 (v_48 (x0 + 4 + 10) (v_56 (x0 + 1) d) d)) = (-1) from c0)]
    have y1 : g_27 x0 d = g_26 x0 (mset d x0 6 (v_48 (x0 + 4 + 10) (v_56 (x0 + 1) d) d)) := by simp only [g_27, if_pos (show v_56 (x0 + 1) (mset d x0 6 (v_48 (x0 + 4 + 10) (v_56 (x0 + 1) d) d)) = (-1) from c0)]
    rw [y0] at h
    rw [y1] at h
    exact h (show 0 ≤ (v_26 x0 (mset d x0 6 (v_48 (x0 + 4 + 10) (v_56 (x0 + 1) d) d))) ∧ (v_26 x0 (mset d x0 6 (v_48 (x0 + 4 + 10) (v_56 (x0 + 1) d) d))) ≤ 1 from (by omega)) (show ∀ b : Int, (b < x0 ∨ x0 + 1 < b) → (g_26 x0 (mset d x0 6 (v_48 (x0 + 4 + 10) (v_56 (x0 + 1) d) d))) b = d b from fun b hb => (F1 b (by omega)).trans (mset_ne (by omega))) (show (g_26 x0 (mset d x0 6 (v_48 (x0 + 4 + 10) (v_56 (x0 + 1) d) d))) x0 4 = d x0 4 from (k1_0).trans (mset_ni (by omega))) (show (g_26 x0 (mset d x0 6 (v_48 (x0 + 4 + 10) (v_56 (x0 + 1) d) d))) (x0 + 4) 2 = d (x0 + 4) 2 from (k1_2).trans (congrFun (mset_ne (by omega)) 2)) (show (v_26 x0 (mset d x0 6 (v_48 (x0 + 4 + 10) (v_56 (x0 + 1) d) d))) = 0 ∨ (0 ≤ (g_26 x0 (mset d x0 6 (v_48 (x0 + 4 + 10) (v_56 (x0 + 1) d) d))) x0 6 ∧ (g_26 x0 (mset d x0 6 (v_48 (x0 + 4 + 10) (v_56 (x0 + 1) d) d))) x0 6 ≤ 15) by omega) hS2
  · try rw [mset_eq (d := d) (a := x0) (i := (6 : Int)) (v := v_48 (x0 + 4 + 10) (v_56 (x0 + 1) d) d)]
    refine ⟨⟨m_inR (by omega) (by omega), m_inR (by omega) (by omega)⟩, fun c1 => ?_, fun c1 => ?_⟩
    · refine k_26 hS1 hx0 (fun e5 F2 k2_0 k2_1 k2_2 n2_0 hS3 => ?_)
      refine t_27_50 ?_
      have w8 := r_5_f2 hS3 (ldB.re hx0)
      refine ⟨by omega, ?_⟩
      have q2 : (g_26 x0 (mset d x0 6 (v_48 (x0 + 4 + 10) (v_56 (x0 + 1) d) d))) x0 6 = v_48 (x0 + 4 + 10) (v_56 (x0 + 1) d) d := (k2_1).trans (mset_eq)
      have y0 : v_27 x0 d = v_26 x0 (mset d x0 6 (v_48 (x0 + 4 + 10) (v_56 (x0 + 1) d) d)) := by simp only [v_27, if_neg (show ¬ v_56 (x0 + 1) (mset d x0 6 (v_48 (x0 + 4 + 10) (v_56 (x0 + 1) d) d)) = (-1) from c0), if_neg (show ¬ v_48 (x0 + 4 + 10) (v_56 (x0 + 1) d) d = (-1) from c1)]
      have y1 : g_27 x0 d = g_26 x0 (mset d x0 6 (v_48 (x0 + 4 + 10) (v_56 (x0 + 1) d) d)) := by simp only [g_27, if_neg (show ¬ v_56 (x0 + 1) (mset d x0 6 (v_48 (x0 + 4 + 10) (v_56 (x0 + 1) d) d)) = (-1) from c0), if_neg (show ¬ v_48 (x0 + 4 + 10) (v_56 (x0 + 1) d) d = (-1) from c1)]
      rw [y0] at h
      rw [y1] at h
      exact h (show 0 ≤ (v_26 x0 (mset d x0 6 (v_48 (x0 + 4 + 10) (v_56 (x0 + 1) d) d))) ∧ (v_26 x0 (mset d x0 6 (v_48 (x0 + 4 + 10) (v_56 (x0 + 1) d) d))) ≤ 1 from (by omega)) (show ∀ b : Int, (b < x0 ∨ x0 + 1 < b) → (g_26 x0 (mset d x0 6 (v_48 (x0 + 4 + 10) (v_56 (x0 + 1) d) d))) b = d b from fun b hb => (F2 b (by omega)).trans (mset_ne (by omega))) (show (g_26 x0 (mset d x0 6 (v_48 (x0 + 4 + 10) (v_56 (x0 + 1) d) d))) x0 4 = d x0 4 from (k2_0).trans (mset_ni (by omega))) (show (g_26 x0 (mset d x0 6 (v_48 (x0 + 4 + 10) (v_56 (x0 + 1) d) d))) (x0 + 4) 2 = d (x0 + 4) 2 from (k2_2).trans (congrFun (mset_ne (by omega)) 2)) (show (v_26 x0 (mset d x0 6 (v_48 (x0 + 4 + 10) (v_56 (x0 + 1) d) d))) = 0 ∨ (0 ≤ (g_26 x0 (mset d x0 6 (v_48 (x0 + 4 + 10) (v_56 (x0 + 1) d) d))) x0 6 ∧ (g_26 x0 (mset d x0 6 (v_48 (x0 + 4 + 10) (v_56 (x0 + 1) d) d))) x0 6 ≤ 15) by omega) hS3
    · refine k_32 hS1 hx0 (by omega) (fun e6 F3 k3_0 k3_1 k3_2 k3_3 n3_0 hS4 => ?_)
      refine t_27_45 ?_
      have w8 := r_5_f2 hS4 (ldB.re hx0)
      refine ⟨by omega, ?_⟩
      have q3 : (g_32 x0 4 (mset d x0 6 (v_48 (x0 + 4 + 10) (v_56 (x0 + 1) d) d))) x0 6 = v_48 (x0 + 4 + 10) (v_56 (x0 + 1) d) d := (k3_2).trans (mset_eq)
      have y0 : v_27 x0 d = v_32 x0 4 (mset d x0 6 (v_48 (x0 + 4 + 10) (v_56 (x0 + 1) d) d)) := by simp only [v_27, if_neg (show ¬ v_56 (x0 + 1) (mset d x0 6 (v_48 (x0 + 4 + 10) (v_56 (x0 + 1) d) d)) = (-1) from c0), if_pos (show v_48 (x0 + 4 + 10) (v_56 (x0 + 1) d) d = (-1) from c1)]
      have y1 : g_27 x0 d = g_32 x0 4 (mset d x0 6 (v_48 (x0 + 4 + 10) (v_56 (x0 + 1) d) d)) := by simp only [g_27, if_neg (show ¬ v_56 (x0 + 1) (mset d x0 6 (v_48 (x0 + 4 + 10) (v_56 (x0 + 1) d) d)) = (-1) from c0), if_pos (show v_48 (x0 + 4 + 10) (v_56 (x0 + 1) d) d = (-1) from c1)]
      rw [y0] at h
      rw [y1] at h
      exact h (show 0 ≤ (v_32 x0 4 (mset d x0 6 (v_48 (x0 + 4 + 10) (v_56 (x0 + 1) d) d))) ∧ (v_32 x0 4 (mset d x0 6 (v_48 (x0 + 4 + 10) (v_56 (x0 + 1) d) d))) ≤ 1 from (by omega)) (show ∀ b : Int, (b < x0 ∨ x0 + 1 < b) → (g_32 x0 4 (mset d x0 6 (v_48 (x0 + 4 + 10) (v_56 (x0 + 1) d) d))) b = d b from fun b hb => (F3 b (by omega)).trans (mset_ne (by omega))) (show (g_32 x0 4 (mset d x0 6 (v_48 (x0 + 4 + 10) (v_56 (x0 + 1) d) d))) x0 4 = d x0 4 from (k3_0).trans (mset_ni (by omega))) (show (g_32 x0 4 (mset d x0 6 (v_48 (x0 + 4 + 10) (v_56 (x0 + 1) d) d))) (x0 + 4) 2 = d (x0 + 4) 2 from (k3_3).trans (congrFun (mset_ne (by omega)) 2)) (show (v_32 x0 4 (mset d x0 6 (v_48 (x0 + 4 + 10) (v_56 (x0 + 1) d) d))) = 0 ∨ (0 ≤ (g_32 x0 4 (mset d x0 6 (v_48 (x0 + 4 + 10) (v_56 (x0 + 1) d) d))) x0 6 ∧ (g_32 x0 4 (mset d x0 6 (v_48 (x0 + 4 + 10) (v_56 (x0 + 1) d) d))) x0 6 ≤ 15) by omega) hS4
def v_28 (x0 : Int) (d : mD) : Int := if v_56 (x0 + 1) (mset d x0 6 (v_36 (x0 + 4 + 2) (v_56 (x0 + 1) d) d)) = (-1) then v_26 x0 (mset d x0 6 (v_36 (x0 + 4 + 2) (v_56 (x0 + 1) d) d)) else if v_36 (x0 + 4 + 2) (v_56 (x0 + 1) d) d = (-1) then v_32 x0 4 (mset d x0 6 (v_36 (x0 + 4 + 2) (v_56 (x0 + 1) d) d)) else v_26 x0 (mset d x0 6 (v_36 (x0 + 4 + 2) (v_56 (x0 + 1) d) d))
def g_28 (x0 : Int) (d : mD) : mD := if v_56 (x0 + 1) (mset d x0 6 (v_36 (x0 + 4 + 2) (v_56 (x0 + 1) d) d)) = (-1) then g_26 x0 (mset d x0 6 (v_36 (x0 + 4 + 2) (v_56 (x0 + 1) d) d)) else if v_36 (x0 + 4 + 2) (v_56 (x0 + 1) d) d = (-1) then g_32 x0 4 (mset d x0 6 (v_36 (x0 + 4 + 2) (v_56 (x0 + 1) d) d)) else g_26 x0 (mset d x0 6 (v_36 (x0 + 4 + 2) (v_56 (x0 + 1) d) d))
theorem k_28 {E : mO × tW} {K : tK} {d : mD} {x0 : Int} (hS : Safe d) (hx0 : ldB x0) (h : (0 ≤ (v_28 x0 d) ∧ (v_28 x0 d) ≤ 1) → (∀ b : Int, (b < x0 ∨ x0 + 1 < b) → (g_28 x0 d) b = d b) → (g_28 x0 d) x0 4 = d x0 4 → (g_28 x0 d) (x0 + 4) 2 = d (x0 + 4) 2 → ((v_28 x0 d) = 0 ∨ (0 ≤ (g_28 x0 d) x0 6 ∧ (g_28 x0 d) x0 6 ≤ 5)) → Safe (g_28 x0 d) → K (.inl (some (0, (v_28 x0 d)))) (g_28 x0 d)) : tCall E 28 [.inr (2, x0)] d K := by
  refine t_28_0 ?_
  have w8 := r_5_f2 hS (ldB.re hx0)
  refine k_56 hS (ldB.re hx0) (fun e1 => ?_)
  refine t_28_15 ?_
  have w8 := r_5_f2 hS (ldB.re hx0)
  refine k_36 hS (stB.of (ldB.st hx0)) (m_inR (by omega) (by omega)) (fun e2 => ?_)
  refine t_28_18 ?_
  have w8 := r_5_f2 hS (ldB.re hx0)
  have hS1 : Safe (mset d x0 6 (v_36 (x0 + 4 + 2) (v_56 (x0 + 1) d) d)) := s_2_f6 hS hx0 (by omega)
  refine k_56 hS1 (ldB.re hx0) (fun e3 => ?_)
  refine t_28_28 ?_
  have w8 := r_5_f2 hS1 (ldB.re hx0)
  refine ⟨⟨m_inR (by omega) (by omega), m_inR (by omega) (by omega)⟩, fun c0 => ?_, fun c0 => ?_⟩
  · refine k_26 hS1 hx0 (fun e4 F1 k1_0 k1_1 k1_2 n1_0 hS2 => ?_)
    refine t_28_50 ?_
    have w8 := r_5_f2 hS2 (ldB.re hx0)
    refine ⟨by omega, ?_⟩
    have q1 : (g_26 x0 (mset d x0 6 (v_36 (x0 + 4 + 2) (v_56 (x0 + 1) d) d))) x0 6 = v_36 (x0 + 4 + 2) (v_56 (x0 + 1) d) d := (k1_1).trans (mset_eq)
    have y0 : v_28 x0 d = v_26 x0 (mset d x0 6 (v_36 (x0 + 4 + 2) (v_56 (x0 + 1) d) d)) := by simp only [v_28, if_pos (show v_56 (x0 + 1) (mset d x0 6 (v_36 (x0 + 4 + 2) (v_56 (x0 + 1) d) d)) = (-1) from c0)]
    have y1 : g_28 x0 d = g_26 x0 (mset d x0 6 (v_36 (x0 + 4 + 2) (v_56 (x0 + 1) d) d)) := by simp only [g_28, if_pos (show v_56 (x0 + 1) (mset d x0 6 (v_36 (x0 + 4 + 2) (v_56 (x0 + 1) d) d)) = (-1) from c0)]
    rw [y0] at h
    rw [y1] at h
    exact h (show 0 ≤ (v_26 x0 (mset d x0 6 (v_36 (x0 + 4 + 2) (v_56 (x0 + 1) d) d))) ∧ (v_26 x0 (mset d x0 6 (v_36 (x0 + 4 + 2) (v_56 (x0 + 1) d) d))) ≤ 1 from (by omega)) (show ∀ b : Int, (b < x0 ∨ x0 + 1 < b) → (g_26 x0 (mset d x0 6 (v_36 (x0 + 4 + 2) (v_56 (x0 + 1) d) d))) b = d b from fun b hb => (F1 b (by omega)).trans (mset_ne (by omega))) (show (g_26 x0 (mset d x0 6 (v_36 (x0 + 4 + 2) (v_56 (x0 + 1) d) d))) x0 4 = d x0 4 from (k1_0).trans (mset_ni (by omega))) (show (g_26 x0 (mset d x0 6 (v_36 (x0 + 4 + 2) (v_56 (x0 + 1) d) d))) (x0 + 4) 2 = d (x0 + 4) 2 from (k1_2).trans (congrFun (mset_ne (by omega)) 2)) (show (v_26 x0 (mset d x0 6 (v_36 (x0 + 4 + 2) (v_56 (x0 + 1) d) d))) = 0 ∨ (0 ≤ (g_26 x0 (mset d x0 6 (v_36 (x0 + 4 + 2) (v_56 (x0 + 1) d) d))) x0 6 ∧ (g_26 x0 (mset d x0 6 (v_36 (x0 + 4 + 2) (v_56 (x0 + 1) d) d))) x0 6 ≤ 5) by omega) hS2
  · try rw [mset_eq (d := d) (a := x0) (i := (6 : Int)) (v := v_36 (x0 + 4 + 2) (v_56 (x0 + 1) d) d)]
    refine ⟨⟨m_inR (by omega) (by omega), m_inR (by omega) (by omega)⟩, fun c1 => ?_, fun c1 => ?_⟩
    · refine k_26 hS1 hx0 (fun e5 F2 k2_0 k2_1 k2_2 n2_0 hS3 => ?_)
      refine t_28_50 ?_
      have w8 := r_5_f2 hS3 (ldB.re hx0)
      refine ⟨by omega, ?_⟩
      have q2 : (g_26 x0 (mset d x0 6 (v_36 (x0 + 4 + 2) (v_56 (x0 + 1) d) d))) x0 6 = v_36 (x0 + 4 + 2) (v_56 (x0 + 1) d) d := (k2_1).trans (mset_eq)
      have y0 : v_28 x0 d = v_26 x0 (mset d x0 6 (v_36 (x0 + 4 + 2) (v_56 (x0 + 1) d) d)) := by simp only [v_28, if_neg (show ¬ v_56 (x0 + 1) (mset d x0 6 (v_36 (x0 + 4 + 2) (v_56 (x0 + 1) d) d)) = (-1) from c0), if_neg (show ¬ v_36 (x0 + 4 + 2) (v_56 (x0 + 1) d) d = (-1) from c1)]
      have y1 : g_28 x0 d = g_26 x0 (mset d x0 6 (v_36 (x0 + 4 + 2) (v_56 (x0 + 1) d) d)) := by simp only [g_28, if_neg (show ¬ v_56 (x0 + 1) (mset d x0 6 (v_36 (x0 + 4 + 2) (v_56 (x0 + 1) d) d)) = (-1) from c0), if_neg (show ¬ v_36 (x0 + 4 + 2) (v_56 (x0 + 1) d) d = (-1) from c1)]
      rw [y0] at h
      rw [y1] at h
      exact h (show 0 ≤ (v_26 x0 (mset d x0 6 (v_36 (x0 + 4 + 2) (v_56 (x0 + 1) d) d))) ∧ (v_26 x0 (mset d x0 6 (v_36 (x0 + 4 + 2) (v_56 (x0 + 1) d) d))) ≤ 1 from (by omega)) (show ∀ b : Int, (b < x0 ∨ x0 + 1 < b) → (g_26 x0 (mset d x0 6 (v_36 (x0 + 4 + 2) (v_56 (x0 + 1) d) d))) b = d b from fun b hb => (F2 b (by omega)).trans (mset_ne (by omega))) (show (g_26 x0 (mset d x0 6 (v_36 (x0 + 4 + 2) (v_56 (x0 + 1) d) d))) x0 4 = d x0 4 from (k2_0).trans (mset_ni (by omega))) (show (g_26 x0 (mset d x0 6 (v_36 (x0 + 4 + 2) (v_56 (x0 + 1) d) d))) (x0 + 4) 2 = d (x0 + 4) 2 from (k2_2).trans (congrFun (mset_ne (by omega)) 2)) (show (v_26 x0 (mset d x0 6 (v_36 (x0 + 4 + 2) (v_56 (x0 + 1) d) d))) = 0 ∨ (0 ≤ (g_26 x0 (mset d x0 6 (v_36 (x0 + 4 + 2) (v_56 (x0 + 1) d) d))) x0 6 ∧ (g_26 x0 (mset d x0 6 (v_36 (x0 + 4 + 2) (v_56 (x0 + 1) d) d))) x0 6 ≤ 5) by omega) hS3
    · refine k_32 hS1 hx0 (by omega) (fun e6 F3 k3_0 k3_1 k3_2 k3_3 n3_0 hS4 => ?_)
      refine t_28_45 ?_
      have w8 := r_5_f2 hS4 (ldB.re hx0)
      refine ⟨by omega, ?_⟩
      have q3 : (g_32 x0 4 (mset d x0 6 (v_36 (x0 + 4 + 2) (v_56 (x0 + 1) d) d))) x0 6 = v_36 (x0 + 4 + 2) (v_56 (x0 + 1) d) d := (k3_2).trans (mset_eq)
      have y0 : v_28 x0 d = v_32 x0 4 (mset d x0 6 (v_36 (x0 + 4 + 2) (v_56 (x0 + 1) d) d)) := by simp only [v_28, if_neg (show ¬ v_56 (x0 + 1) (mset d x0 6 (v_36 (x0 + 4 + 2) (v_56 (x0 + 1) d) d)) = (-1) from c0), if_pos (show v_36 (x0 + 4 + 2) (v_56 (x0 + 1) d) d = (-1) from c1)]
      have y1 : g_28 x0 d = g_32 x0 4 (mset d x0 6 (v_36 (x0 + 4 + 2) (v_56 (x0 + 1) d) d)) := by simp only [g_28, if_neg (show ¬ v_56 (x0 + 1) (mset d x0 6 (v_36 (x0 + 4 + 2) (v_56 (x0 + 1) d) d)) = (-1) from c0), if_pos (show v_36 (x0 + 4 + 2) (v_56 (x0 + 1) d) d = (-1) from c1)]
      rw [y0] at h
      rw [y1] at h
      exact h (show 0 ≤ (v_32 x0 4 (mset d x0 6 (v_36 (x0 + 4 + 2) (v_56 (x0 + 1) d) d))) ∧ (v_32 x0 4 (mset d x0 6 (v_36 (x0 + 4 + 2) (v_56 (x0 + 1) d) d))) ≤ 1 from (by omega)) (show ∀ b : Int, (b < x0 ∨ x0 + 1 < b) → (g_32 x0 4 (mset d x0 6 (v_36 (x0 + 4 + 2) (v_56 (x0 + 1) d) d))) b = d b from fun b hb => (F3 b (by omega)).trans (mset_ne (by omega))) (show (g_32 x0 4 (mset d x0 6 (v_36 (x0 + 4 + 2) (v_56 (x0 + 1) d) d))) x0 4 = d x0 4 from (k3_0).trans (mset_ni (by omega))) (show (g_32 x0 4 (mset d x0 6 (v_36 (x0 + 4 + 2) (v_56 (x0 + 1) d) d))) (x0 + 4) 2 = d (x0 + 4) 2 from (k3_3).trans (congrFun (mset_ne (by omega)) 2)) (show (v_32 x0 4 (mset d x0 6 (v_36 (x0 + 4 + 2) (v_56 (x0 + 1) d) d))) = 0 ∨ (0 ≤ (g_32 x0 4 (mset d x0 6 (v_36 (x0 + 4 + 2) (v_56 (x0 + 1) d) d))) x0 6 ∧ (g_32 x0 4 (mset d x0 6 (v_36 (x0 + 4 + 2) (v_56 (x0 + 1) d) d))) x0 6 ≤ 5) by omega) hS4
def v_29 (x0 : Int) (d : mD) : Int := if v_48 (x0 + 4 + 10) (v_56 (x0 + 1) d) d = (-1) then (if v_56 (x0 + 1) (mset d x0 6 ((-1))) = (-1) then v_26 x0 (mset d x0 6 ((-1))) else v_32 x0 4 (mset d x0 6 ((-1)))) else if v_56 (x0 + 1) (mset d x0 6 (v_100 (x0 + 4 + 49) (v_48 (x0 + 4 + 10) (v_56 (x0 + 1) d) d) d)) = (-1) then v_26 x0 (mset d x0 6 (v_100 (x0 + 4 + 49) (v_48 (x0 + 4 + 10) (v_56 (x0 + 1) d) d) d)) else if v_100 (x0 + 4 + 49) (v_48 (x0 + 4 + 10) (v_56 (x0 + 1) d) d) d = (-1) then v_32 x0 4 (mset d x0 6 (v_100 (x0 + 4 + 49) (v_48 (x0 + 4 + 10) (v_56 (x0 + 1) d) d) d)) else v_26 x0 (mset d x0 6 (v_100 (x0 + 4 + 49) (v_48 (x0 + 4 + 10) (v_56 (x0 + 1) d) d) d))
def g_29 (x0 : Int) (d : mD) : mD := if v_48 (x0 + 4 + 10) (v_56 (x0 + 1) d) d = (-1) then (if v_56 (x0 + 1) (mset d x0 6 ((-1))) = (-1) then g_26 x0 (mset d x0 6 ((-1))) else g_32 x0 4 (mset d x0 6 ((-1)))) else if v_56 (x0 + 1) (mset d x0 6 (v_100 (x0 + 4 + 49) (v_48 (x0 + 4 + 10) (v_56 (x0 + 1) d) d) d)) = (-1) then g_26 x0 (mset d x0 6 (v_100 (x0 + 4 + 49) (v_48 (x0 + 4 + 10) (v_56 (x0 + 1) d) d) d)) else if v_100 (x0 + 4 + 49) (v_48 (x0 + 4 + 10) (v_56 (x0 + 1) d) d) d = (-1) then g_32 x0 4 (mset d x0 6 (v_100 (x0 + 4 + 49) (v_48 (x0 + 4 + 10) (v_56 (x0 + 1) d) d) d)) else g_26 x0 (mset d x0 6 (v_100 (x0 + 4 + 49) (v_48 (x0 + 4 + 10) (v_56 (x0 + 1) d) d) d))
theorem k_29 {E : mO × tW} {K : tK} {d : mD} {x0 : Int} (hS : Safe d) (hx0 : ldB x0) (h : (0 ≤ (v_29 x0 d) ∧ (v_29 x0 d) ≤ 1) → (∀ b : Int, (b < x0 ∨ x0 + 1 < b) → (g_29 x0 d) b = d b) → (g_29 x0 d) x0 4 = d x0 4 → (g_29 x0 d) (x0 + 4) 2 = d (x0 + 4) 2 → ((v_29 x0 d) = 0 ∨ (0 ≤ (g_29 x0 d) x0 6 ∧ (g_29 x0 d) x0 6 ≤ 59)) → Safe (g_29 x0 d) → K (.inl (some (0, (v_29 x0 d)))) (g_29 x0 d)) : tCall E 29 [.inr (2, x0)] d K := by
  refine t_29_0 ?_
  have w8 := r_5_f2 hS (ldB.re hx0)
  refine k_56 hS (ldB.re hx0) (fun e1 => ?_)
  refine t_29_14 ?_
  have w8 := r_5_f2 hS (ldB.re hx0)
  refine k_48 hS (stB.pe (ldB.st hx0)) (m_inR (by omega) (by omega)) (fun e2 => ?_)
  refine t_29_17 ?_
  have w8 := r_5_f2 hS (ldB.re hx0)
  refine ⟨⟨m_inR (by omega) (by omega), m_inR (by omega) (by omega)⟩, fun c0 => ?_, fun c0 => ?_⟩
  · refine k_100 hS (stB.ti (ldB.st hx0)) (m_inR (by omega) (by omega)) (fun e3 => ?_)
    refine t_29_39 ?_
    have w8 := r_5_f2 hS (ldB.re hx0)
    have hS1 : Safe (mset d x0 6 (v_100 (x0 + 4 + 49) (v_48 (x0 + 4 + 10) (v_56 (x0 + 1) d) d) d)) := s_2_f6 hS hx0 (by omega)
    refine k_56 hS1 (ldB.re hx0) (fun e4 => ?_)
    refine t_29_49 ?_
    have w8 := r_5_f2 hS1 (ldB.re hx0)
    refine ⟨⟨m_inR (by omega) (by omega), m_inR (by omega) (by omega)⟩, fun c1 => ?_, fun c1 => ?_⟩
    · refine k_26 hS1 hx0 (fun e5 F1 k1_0 k1_1 k1_2 n1_0 hS2 => ?_)
      refine t_29_71 ?_
      have w8 := r_5_f2 hS2 (ldB.re hx0)
      refine ⟨by omega, ?_⟩
      have q1 : (g_26 x0 (mset d x0 6 (v_100 (x0 + 4 + 49) (v_48 (x0 + 4 + 10) (v_56 (x0 + 1) d) d) d))) x0 6 = v_100 (x0 + 4 + 49) (v_48 (x0 + 4 + 10) (v_56 (x0 + 1) d) d) d := (k1_1).trans (mset_eq)
      have y0 : v_29 x0 d = v_26 x0 (mset d x0 6 (v_100 (x0 + 4 + 49) (v_48 (x0 + 4 + 10) (v_56 (x0 + 1) d) d) d)) := by simp only [v_29, if_neg (show ¬ v_48 (x0 + 4 + 10) (v_56 (x0 + 1) d) d = (-1) from c0), if_pos (show v_56 (x0 + 1) (mset d x0 6 (v_100 (x0 + 4 + 49) (v_48 (x0 + 4 + 10) (v_56 (x0 + 1) d) d) d)) = (-1) from c1)]
      have y1 : g_29 x0 d = g_26 x0 (mset d x0 6 (v_100 (x0 + 4 + 49) (v_48 (x0 + 4 + 10) (v_56 (x0 + 1) d) d) d)) := by simp only [g_29, if_neg (show ¬ v_48 (x0 + 4 + 10) (v_56 (x0 + 1) d) d = (-1) from c0), if_pos (show v_56 (x0 + 1) (mset d x0 6 (v_100 (x0 + 4 + 49) (v_48 (x0 + 4 + 10) (v_56 (x0 + 1) d) d) d)) = (-1) from c1)]
      rw [y0] at h
      rw [y1] at h
      exact h (show 0 ≤ (v_26 x0 (mset d x0 6 (v_100 (x0 + 4 + 49) (v_48 (x0 + 4 + 10) (v_56 (x0 + 1) d) d) d))) ∧ (v_26 x0 (mset d x0 6 (v_100 (x0 + 4 + 49) (v_48 (x0 + 4 + 10) (v_56 (x0 + 1) d) d) d))) ≤ 1 from (by omega)) (show ∀ b : Int, (b < x0 ∨ x0 + 1 < b) → (g_26 x0 (mset d x0 6 (v_100 (x0 + 4 + 49) (v_48 (x0 + 4 + 10) (v_56 (x0 + 1) d) d) d))) b = d b from fun b hb => (F1 b (by omega)).trans (mset_ne (by omega))) (show (g_26 x0 (mset d x0 6 (v_100 (x0 + 4 + 49) (v_48 (x0 + 4 + 10) (v_56 (x0 + 1) d) d) d))) x0 4 = d x0 4 from (k1_0).trans (mset_ni (by omega))) (show (g_26 x0 (mset d x0 6 (v_100 (x0 + 4 + 49) (v_48 (x0 + 4 + 10) (v_56 (x0 + 1) d) d) d))) (x0 + 4) 2 = d (x0 + 4) 2 from (k1_2).trans (congrFun (mset_ne (by omega)) 2)) (show (v_26 x0 (mset d x0 6 (v_100 (x0 + 4 + 49) (v_48 (x0 + 4 + 10) (v_56 (x0 + 1) d) d) d))) = 0 ∨ (0 ≤ (g_26 x0 (mset d x0 6 (v_100 (x0 + 4 + 49) (v_48 (x0 + 4 + 10) (v_56 (x0 + 1) d) d) d))) x0 6 ∧ (g_26 x0 (mset d x0 6 (v_100 (x0 + 4 + 49) (v_48 (x0 + 4 + 10) (v_56 (x0 + 1) d) d) d))) x0 6 ≤ 59) by omega) hS2
    · try rw [mset_eq (d := d) (a := x0) (i := (6 : Int)) (v := v_100 (x0 + 4 + 49) (v_48 (x0 + 4 + 10) (v_56 (x0 + 1) d) d) d)]
      refine ⟨⟨m_inR (by omega) (by omega), m_inR (by omega) (by omega)⟩, fun c2 => ?_, fun c2 => ?_⟩
      · refine k_26 hS1 hx0 (fun e6 F2 k2_0 k2_1 k2_2 n2_0 hS3 => ?_)
        refine t_29_71 ?_
        have w8 := r_5_f2 hS3 (ldB.re hx0)
        refine ⟨by omega, ?_⟩
        have q2 : (g_26 x0 (mset d x0 6 (v_100 (x0 + 4 + 49) (v_48 (x0 + 4 + 10) (v_56 (x0 + 1) d) d) d))) x0 6 = v_100 (x0 + 4 + 49) (v_48 (x0 + 4 + 10) (v_56 (x0 + 1) d) d) d := (k2_1).trans (mset_eq)
        have y0 : v_29 x0 d = v_26 x0 (mset d x0 6 (v_100 (x0 + 4 + 49) (v_48 (x0 + 4 + 10) (v_56 (x0 + 1) d) d) d)) := by simp only [v_29, if_neg (show ¬ v_48 (x0 + 4 + 10) (v_56 (x0 + 1) d) d = (-1) from c0), if_neg (show ¬ v_56 (x0 + 1) (mset d x0 6 (v_100 (x0 + 4 + 49) (v_48 (x0 + 4 + 10) (v_56 (x0 + 1) d) d) d)) = (-1) from c1), if_neg (show ¬ v_100 (x0 + 4 + 49) (v_48 (x0 + 4 + 10) (v_56 (x0 + 1) d) d) d = (-1) from c2)]
        have y1 : g_29 x0 d = g_26 x0 (mset d x0 6 (v_100 (x0 + 4 + 49) (v_48 (x0 + 4 + 10) (v_56 (x0 + 1) d) d) d)) := by simp only [g_29, if_neg (show ¬ v_48 (x0 + 4 + 10) (v_56 (x0 + 1) d) d = (-1) from c0), if_neg (show ¬ v_56 (x0 + 1) (mset d x0 6 (v_100 (x0 + 4 + 49) (v_48 (x0 + 4 + 10) (v_56 (x0 + 1) d) d) d)) = (-1) from c1), if_neg (show ¬ v_100 (x0 + 4 + 49) (v_48 (x0 + 4 + 10) (v_56 (x0 + 1) d) d) d = (-1) from c2)]
        rw [y0] at h
        rw [y1] at h
        exact h (show 0 ≤ (v_26 x0 (mset d x0 6 (v_100 (x0 + 4 + 49) (v_48 (x0 + 4 + 10) (v_56 (x0 + 1) d) d) d))) ∧ (v_26 x0 (mset d x0 6 (v_100 (x0 + 4 + 49) (v_48 (x0 + 4 + 10) (v_56 (x0 + 1) d) d) d))) ≤ 1 from (by omega)) (show ∀ b : Int, (b < x0 ∨ x0 + 1 < b) → (g_26 x0 (mset d x0 6 (v_100 (x0 + 4 + 49) (v_48 (x0 + 4 + 10) (v_56 (x0 + 1) d) d) d))) b = d b from fun b hb => (F2 b (by omega)).trans (mset_ne (by omega))) (show (g_26 x0 (mset d x0 6 (v_100 (x0 + 4 + 49) (v_48 (x0 + 4 + 10) (v_56 (x0 + 1) d) d) d))) x0 4 = d x0 4 from (k2_0).trans (mset_ni (by omega))) (show (g_26 x0 (mset d x0 6 (v_100 (x0 + 4 + 49) (v_48 (x0 + 4 + 10) (v_56 (x0 + 1) d) d) d))) (x0 + 4) 2 = d (x0 + 4) 2 from (k2_2).trans (congrFun (mset_ne (by omega)) 2)) (show (v_26 x0 (mset d x0 6 (v_100 (x0 + 4 + 49) (v_48 (x0 + 4 + 10) (v_56 (x0 + 1) d) d) d))) = 0 ∨ (0 ≤ (g_26 x0 (mset d x0 6 (v_100 (x0 + 4 + 49) (v_48 (x0 + 4 + 10) (v_56 (x0 + 1) d) d) d))) x0 6 ∧ (g_26 x0 (mset d x0 6 (v_100 (x0 + 4 + 49) (v_48 (x0 + 4 + 10) (v_56 (x0 + 1) d) d) d))) x0 6 ≤ 59) by omega) hS3
      · refine k_32 hS1 hx0 (by omega) (fun e7 F3 k3_0 k3_1 k3_2 k3_3 n3_0 hS4 => ?_)
        refine t_29_66 ?_
        have w8 := r_5_f2 hS4 (ldB.re hx0)
        refine ⟨by omega, ?_⟩
        have q3 : (g_32 x0 4 (mset d x0 6 (v_100 (x0 + 4 + 49) (v_48 (x0 + 4 + 10) (v_56 (x0 + 1) d) d) d))) x0 6 = v_100 (x0 + 4 + 49) (v_48 (x0 + 4 + 10) (v_56 (x0 + 1) d) d) d := (k3_2).trans (mset_eq)
        have y0 : v_29 x0 d = v_32 x0 4 (mset d x0 6 (v_100 (x0 + 4 + 49) (v_48 (x0 + 4 + 10) (v_56 (x0 + 1) d) d) d)) := by simp only [v_29, if_neg (show ¬ v_48 (x0 + 4 + 10) (v_56 (x0 + 1) d) d = (-1) from c0), if_neg (show ¬ v_56 (x0 + 1) (mset d x0 6 (v_100 (x0 + 4 + 49) (v_48 (x0 + 4 + 10) (v_56 (x0 + 1) d) d) d)) = (-1) from c1), if_pos (show v_100 (x0 + 4 + 49) (v_48 (x0 + 4 + 10) (v_56 (x0 + 1) d) d) d = (-1) from c2)]
        have y1 : g_29 x0 d = g_32 x0 4 (mset d x0 6 (v_100 (x0 + 4 + 49) (v_48 (x0 + 4 + 10) (v_56 (x0 + 1) d) d) d)) := by simp only [g_29, if_neg (show ¬ v_48 (x0 + 4 + 10) (v_56 (x0 + 1) d) d = (-1) from c0), if_neg (show ¬ v_56 (x0 + 1) (mset d x0 6 (v_100 (x0 + 4 + 49) (v_48 (x0 + 4 + 10) (v_56 (x0 + 1) d) d) d)) = (-1) from c1), if_pos (show v_100 (x0 + 4 + 49) (v_48 (x0 + 4 + 10) (v_56 (x0 + 1) d) d) d = (-1) from c2)]
        rw [y0] at h
        rw [y1] at h
        exact h (show 0 ≤ (v_32 x0 4 (mset d x0 6 (v_100 (x0 + 4 + 49) (v_48 (x0 + 4 + 10) (v_56 (x0 + 1) d) d) d))) ∧ (v_32 x0 4 (mset d x0 6 (v_100 (x0 + 4 + 49) (v_48 (x0 + 4 + 10) (v_56 (x0 + 1) d) d) d))) ≤ 1 from (by omega)) (show ∀ b : Int, (b < x0 ∨ x0 + 1 < b) → (g_32 x0 4 (mset d x0 6 (v_100 (x0 + 4 + 49) (v_48 (x0 + 4 + 10) (v_56 (x0 + 1) d) d) d))) b = d b from fun b hb => (F3 b (by omega)).trans (mset_ne (by omega))) (show (g_32 x0 4 (mset d x0 6 (v_100 (x0 + 4 + 49) (v_48 (x0 + 4 + 10) (v_56 (x0 + 1) d) d) d))) x0 4 = d x0 4 from (k3_0).trans (mset_ni (by omega))) (show (g_32 x0 4 (mset d x0 6 (v_100 (x0 + 4 + 49) (v_48 (x0 + 4 + 10) (v_56 (x0 + 1) d) d) d))) (x0 + 4) 2 = d (x0 + 4) 2 from (k3_3).trans (congrFun (mset_ne (by omega)) 2)) (show (v_32 x0 4 (mset d x0 6 (v_100 (x0 + 4 + 49) (v_48 (x0 + 4 + 10) (v_56 (x0 + 1) d) d) d))) = 0 ∨ (0 ≤ (g_32 x0 4 (mset d x0 6 (v_100 (x0 + 4 + 49) (v_48 (x0 + 4 + 10) (v_56 (x0 + 1) d) d) d))) x0 6 ∧ (g_32 x0 4 (mset d x0 6 (v_100 (x0 + 4 + 49) (v_48 (x0 + 4 + 10) (v_56 (x0 + 1) d) d) d))) x0 6 ≤ 59) by omega) hS4
  · refine t_29_39 ?_
    have w8 := r_5_f2 hS (ldB.re hx0)
    have hS5 : Safe (mset d x0 6 ((-1))) := s_2_f6 hS hx0 (by omega)
    refine k_56 hS5 (ldB.re hx0) (fun e8 => ?_)
    refine t_29_49 ?_
    have w8 := r_5_f2 hS5 (ldB.re hx0)
    refine ⟨⟨m_inR (by omega) (by omega), m_inR (by omega) (by omega)⟩, fun c1 => ?_, fun c1 => ?_⟩
    · refine k_26 hS5 hx0 (fun e9 F4 k4_0 k4_1 k4_2 n4_0 hS6 => ?_)
      refine t_29_71 ?_
      have w8 := r_5_f2 hS6 (ldB.re hx0)
      refine ⟨by omega, ?_⟩
      have q4 : (g_26 x0 (mset d x0 6 ((-1)))) x0 6 = (-1) := (k4_1).trans (mset_eq)
      have y0 : v_29 x0 d = v_26 x0 (mset d x0 6 ((-1))) := by simp only [v_29, if_pos (show v_48 (x0 + 4 + 10) (v_56 (x0 + 1) d) d = (-1) from c0), if_pos (show v_56 (x0 + 1) (mset d x0 6 ((-1))) = (-1) from c1)]
      have y1 : g_29 x0 d = g_26 x0 (mset d x0 6 ((-1))) := by simp only [g_29, if_pos (show v_48 (x0 + 4 + 10) (v_56 (x0 + 1) d) d = (-1) from c0), if_pos (show v_56 (x0 + 1) (mset d x0 6 ((-1))) = (-1) from c1)]
      rw [y0] at h
      rw [y1] at h
      exact h (show 0 ≤ (v_26 x0 (mset d x0 6 ((-1)))) ∧ (v_26 x0 (mset d x0 6 ((-1)))) ≤ 1 from (by omega)) (show ∀ b : Int, (b < x0 ∨ x0 + 1 < b) → (g_26 x0 (mset d x0 6 ((-1)))) b = d b from fun b hb => (F4 b (by omega)).trans (mset_ne (by omega))) (show (g_26 x0 (mset d x0 6 ((-1)))) x0 4 = d x0 4 from (k4_0).trans (mset_ni (by omega))) (show (g_26 x0 (mset d x0 6 ((-1)))) (x0 + 4) 2 = d (x0 + 4) 2 from (k4_2).trans (congrFun (mset_ne (by omega)) 2)) (show (v_26 x0 (mset d x0 6 ((-1)))) = 0 ∨ (0 ≤ (g_26 x0 (mset d x0 6 ((-1)))) x0 6 ∧ (g_26 x0 (mset d x0 6 ((-1)))) x0 6 ≤ 59) by omega) hS6
    · try rw [mset_eq (d := d) (a := x0) (i := (6 : Int)) (v := (-1 : Int))]
      refine ⟨⟨m_inR (by omega) (by omega), m_inR (by omega) (by omega)⟩, fun c2 => ?_, fun c2 => ?_⟩
      · exact (show False by omega).elim
      · refine k_32 hS5 hx0 (by omega) (fun e10 F5 k5_0 k5_1 k5_2 k5_3 n5_0 hS7 => ?_)
        refine t_29_66 ?_
        have w8 := r_5_f2 hS7 (ldB.re hx0)
        refine ⟨by omega, ?_⟩
        have q5 : (g_32 x0 4 (mset d x0 6 ((-1)))) x0 6 = (-1) := (k5_2).trans (mset_eq)
        have y0 : v_29 x0 d = v_32 x0 4 (mset d x0 6 ((-1))) := by simp only [v_29, if_pos (show v_48 (x0 + 4 + 10) (v_56 (x0 + 1) d) d = (-1) from c0), if_neg (show ¬ v_56 (x0 + 1) (mset d x0 6 ((-1))) = (-1) from c1), if_pos (show (-1 : Int) = (-1) from c2)]
        have y1 : g_29 x0 d = g_32 x0 4 (mset d x0 6 ((-1))) := by simp only [g_29, if_pos (show v_48 (x0 + 4 + 10) (v_56 (x0 + 1) d) d = (-1) from c0), if_neg (show ¬ v_56 (x0 + 1) (mset d x0 6 ((-1))) = (-1) from c1), if_pos (show (-1 : Int) = (-1) from c2)]
        rw [y0] at h
        rw [y1] at h
        exact h (show 0 ≤ (v_32 x0 4 (mset d x0 6 ((-1)))) ∧ (v_32 x0 4 (mset d x0 6 ((-1)))) ≤ 1 from (by omega)) (show ∀ b : Int, (b < x0 ∨ x0 + 1 < b) → (g_32 x0 4 (mset d x0 6 ((-1)))) b = d b from fun b hb => (F5 b (by omega)).trans (mset_ne (by omega))) (show (g_32 x0 4 (mset d x0 6 ((-1)))) x0 4 = d x0 4 from (k5_0).trans (mset_ni (by omega))) (show (g_32 x0 4 (mset d x0 6 ((-1)))) (x0 + 4) 2 = d (x0 + 4) 2 from (k5_3).trans (congrFun (mset_ne (by omega)) 2)) (show (v_32 x0 4 (mset d x0 6 ((-1)))) = 0 ∨ (0 ≤ (g_32 x0 4 (mset d x0 6 ((-1)))) x0 6 ∧ (g_32 x0 4 (mset d x0 6 ((-1)))) x0 6 ≤ 59) by omega) hS7
