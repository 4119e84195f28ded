/-! ===== contracts of the reader and the loader: printed by a program of mine ===== -/
theorem v91c {x : Int} {d d' : mD} (h : d' (x + 1) = d (x + 1)) (i : Int) : v_91 x i d' = v_91 x i d := by
  unfold v_91; rw [h]
theorem lp93c {x a b : Int} {d d' : mD} (h : d' (x + 1) = d (x + 1)) : ∀ (n : Nat) (y z : Int), lp_93_20 x a b n y z d' = lp_93_20 x a b n y z d := by
  intro n
  induction n with
  | zero => intro y z; show st_93_20 x a b _ y z d' = st_93_20 x a b _ y z d; unfold st_93_20; rw [v91c h, h]
  | succ n ih => intro y z; show st_93_20 x a b _ y z d' = st_93_20 x a b _ y z d; unfold st_93_20; rw [v91c h, h, ih]
theorem v56c {x : Int} {d d' : mD} (h0 : d' x = d x) (h : d' (x + 1 + 1) = d (x + 1 + 1)) : v_56 x d' = v_56 x d := by
  unfold v_56
  rw [h0]
  unfold v_93
  rw [lp93c h]
def v_32 (x0 x1 : Int) (d : mD) : Int := 0
def g_32 (x0 x1 : Int) (d : mD) : mD := mset (mset d x0 2 x1) x0 3 (d (x0 + 1) 2)
theorem k_32 {E : mO × tW} {K : tK} {d : mD} {x0 x1 : Int} (hS : Safe d) (hx0 : ldB x0) (p1 : 0 ≤ x1 ∧ x1 ≤ 6) (h : (0 ≤ (v_32 x0 x1 d) ∧ (v_32 x0 x1 d) ≤ 1) → (∀ b : Int, (b < x0 ∨ x0 < b) → (g_32 x0 x1 d) b = d b) → (g_32 x0 x1 d) x0 4 = d x0 4 → (g_32 x0 x1 d) x0 5 = d x0 5 → (g_32 x0 x1 d) x0 6 = d x0 6 → (g_32 x0 x1 d) (x0 + 4) 2 = d (x0 + 4) 2 → ((v_32 x0 x1 d) = 0) → Safe (g_32 x0 x1 d) → K (.inl (some (0, (v_32 x0 x1 d)))) (g_32 x0 x1 d)) : tCall E 32 [.inr (2, x0), .inl (0, x1)] d K := by
  refine t_32_0 ?_
  have w8 := r_5_f2 hS (ldB.re hx0)
  have hS1 : Safe (mset d x0 2 x1) := s_2_f2 hS hx0 (by omega)
  try rw [mset_ne (d := d) (a := x0) (i := (2 : Int)) (v := x1) (b := x0 + 1) (by omega)]
  have q1 := r_5_f2 hS (ldB.re hx0)
  have hS2 : Safe (mset (mset d x0 2 x1) x0 3 (d (x0 + 1) 2)) := s_2_f3 hS1 hx0 (by omega)
  refine ⟨by omega, ?_⟩
  have y0 : v_32 x0 x1 d = 0 := by simp only [v_32]
  have y1 : g_32 x0 x1 d = mset (mset d x0 2 x1) x0 3 (d (x0 + 1) 2) := by simp only [g_32]
  rw [y0] at h
  rw [y1] at h
  exact h (show 0 ≤ ((0 : Int)) ∧ ((0 : Int)) ≤ 1 from (by omega)) (show ∀ b : Int, (b < x0 ∨ x0 < b) → (mset (mset d x0 2 x1) x0 3 (d (x0 + 1) 2)) b = d b from fun b hb => (mset_ne (by omega)).trans (mset_ne (by omega))) (show (mset (mset d x0 2 x1) x0 3 (d (x0 + 1) 2)) x0 4 = d x0 4 from (mset_ni (by omega)).trans (mset_ni (by omega))) (show (mset (mset d x0 2 x1) x0 3 (d (x0 + 1) 2)) x0 5 = d x0 5 from (mset_ni (by omega)).trans (mset_ni (by omega))) (show (mset (mset d x0 2 x1) x0 3 (d (x0 + 1) 2)) x0 6 = d x0 6 from (mset_ni (by omega)).trans (mset_ni (by omega))) (show (mset (mset d x0 2 x1) x0 3 (d (x0 + 1) 2)) (x0 + 4) 2 = d (x0 + 4) 2 from (congrFun (mset_ne (by omega)) 2).trans (congrFun (mset_ne (by omega)) 2)) (show ((0 : Int)) = 0 by omega) hS2
def v_30 (x0 : Int) (d : mD) : Int := if d (x0 + 1) 1 = 2 then 1 else if v_32 x0 1 d = 0 then 0 else 1
def g_30 (x0 : Int) (d : mD) : mD := if d (x0 + 1) 1 = 2 then d else g_32 x0 1 d
theorem k_30 {E : mO × tW} {K : tK} {d : mD} {x0 : Int} (hS : Safe d) (hx0 : ldB x0) (h : (0 ≤ (v_30 x0 d) ∧ (v_30 x0 d) ≤ 1) → (∀ b : Int, (b < x0 ∨ x0 < b) → (g_30 x0 d) b = d b) → (g_30 x0 d) x0 4 = d x0 4 → (g_30 x0 d) x0 5 = d x0 5 → (g_30 x0 d) x0 6 = d x0 6 → (g_30 x0 d) (x0 + 4) 2 = d (x0 + 4) 2 → Safe (g_30 x0 d) → K (.inl (some (0, (v_30 x0 d)))) (g_30 x0 d)) : tCall E 30 [.inr (2, x0)] d K := by
  refine t_30_0 ?_
  have w8 := r_5_f2 hS (ldB.re hx0)
  have q1 := r_5_f1 hS (ldB.re hx0)
  refine ⟨⟨m_inR (by omega) (by omega), m_inR (by omega) (by omega)⟩, fun c0 => ?_, fun c0 => ?_⟩
  · refine ⟨by omega, ?_⟩
    have y0 : v_30 x0 d = 1 := by simp only [v_30, if_pos (show d (x0 + 1) 1 = 2 from c0)]
    have y1 : g_30 x0 d = d := by simp only [g_30, if_pos (show d (x0 + 1) 1 = 2 from c0)]
    rw [y0] at h
    rw [y1] at h
    exact h (show 0 ≤ ((1 : Int)) ∧ ((1 : Int)) ≤ 1 from (by omega)) (show ∀ b : Int, (b < x0 ∨ x0 < b) → d b = d b from fun _ _ => rfl) (show d x0 4 = d x0 4 from rfl) (show d x0 5 = d x0 5 from rfl) (show d x0 6 = d x0 6 from rfl) (show d (x0 + 4) 2 = d (x0 + 4) 2 from rfl) hS
  · refine k_32 hS hx0 (by omega) (fun e1 F1 k1_0 k1_1 k1_2 k1_3 n1_0 hS1 => ?_)
    refine t_30_16 ?_
    have w8 := r_5_f2 hS1 (ldB.re hx0)
    refine ⟨m_inR (by omega) (by omega), fun c1 => ?_, fun c1 => ?_⟩
    · refine ⟨by omega, ?_⟩
      have y0 : v_30 x0 d = 0 := by simp only [v_30, if_neg (show ¬ d (x0 + 1) 1 = 2 from c0), if_pos (show v_32 x0 1 d = 0 from c1)]
      have y1 : g_30 x0 d = g_32 x0 1 d := by simp only [g_30, if_neg (show ¬ d (x0 + 1) 1 = 2 from c0), if_pos (show v_32 x0 1 d = 0 from c1)]
      rw [y0] at h
      rw [y1] at h
      exact h (show 0 ≤ ((0 : Int)) ∧ ((0 : Int)) ≤ 1 from (by omega)) (show ∀ b : Int, (b < x0 ∨ x0 < b) → (g_32 x0 1 d) b = d b from fun b hb => F1 b (by omega)) (show (g_32 x0 1 d) x0 4 = d x0 4 from k1_0) (show (g_32 x0 1 d) x0 5 = d x0 5 from k1_1) (show (g_32 x0 1 d) x0 6 = d x0 6 from k1_2) (show (g_32 x0 1 d) (x0 + 4) 2 = d (x0 + 4) 2 from k1_3) hS1
    · refine ⟨by omega, ?_⟩
      have y0 : v_30 x0 d = 1 := by simp only [v_30, if_neg (show ¬ d (x0 + 1) 1 = 2 from c0), if_neg (show ¬ v_32 x0 1 d = 0 from c1)]
      have y1 : g_30 x0 d = g_32 x0 1 d := by simp only [g_30, if_neg (show ¬ d (x0 + 1) 1 = 2 from c0), if_neg (show ¬ v_32 x0 1 d = 0 from c1)]
      rw [y0] at h
      rw [y1] at h
      exact h (show 0 ≤ ((1 : Int)) ∧ ((1 : Int)) ≤ 1 from (by omega)) (show ∀ b : Int, (b < x0 ∨ x0 < b) → (g_32 x0 1 d) b = d b from fun b hb => F1 b (by omega)) (show (g_32 x0 1 d) x0 4 = d x0 4 from k1_0) (show (g_32 x0 1 d) x0 5 = d x0 5 from k1_1) (show (g_32 x0 1 d) x0 6 = d x0 6 from k1_2) (show (g_32 x0 1 d) (x0 + 4) 2 = d (x0 + 4) 2 from k1_3) hS1
def v_31 (x0 : Int) (d : mD) : Int := if v_30 x0 d = 0 then 0 else 1
def g_31 (x0 : Int) (d : mD) : mD := if v_30 x0 d = 0 then g_30 x0 d else g_52 (x0 + 1) (g_30 x0 d)
theorem k_31 {E : mO × tW} {K : tK} {d : mD} {x0 : Int} (hS : Safe d) (hx0 : ldB x0) (h : (0 ≤ (v_31 x0 d) ∧ (v_31 x0 d) ≤ 1) → (∀ b : Int, (b < x0 ∨ x0 + 1 < b) → (g_31 x0 d) b = d b) → (g_31 x0 d) x0 4 = d x0 4 → (g_31 x0 d) x0 5 = d x0 5 → (g_31 x0 d) x0 6 = d x0 6 → (g_31 x0 d) (x0 + 4) 2 = d (x0 + 4) 2 → Safe (g_31 x0 d) → K (.inl (some (0, (v_31 x0 d)))) (g_31 x0 d)) : tCall E 31 [.inr (2, x0)] d K := by
  refine t_31_0 ?_
  have w8 := r_5_f2 hS (ldB.re hx0)
  refine k_30 hS hx0 (fun e1 F1 k1_0 k1_1 k1_2 k1_3 hS1 => ?_)
  refine t_31_4 ?_
  have w8 := r_5_f2 hS1 (ldB.re hx0)
  refine ⟨m_inR (by omega) (by omega), fun c0 => ?_, fun c0 => ?_⟩
  · refine k_52 hS1 (ldB.re hx0) (fun F2 hS2 => ?_)
    refine t_31_16 ?_
    have w8 := r_5_f2 hS2 (ldB.re hx0)
    refine ⟨by omega, ?_⟩
    have y0 : v_31 x0 d = 1 := by simp only [v_31, if_neg (show ¬ v_30 x0 d = 0 from c0)]
    have y1 : g_31 x0 d = g_52 (x0 + 1) (g_30 x0 d) := by simp only [g_31, if_neg (show ¬ v_30 x0 d = 0 from c0)]
    rw [y0] at h
    rw [y1] at h
    exact h (show 0 ≤ ((1 : Int)) ∧ ((1 : Int)) ≤ 1 from (by omega)) (show ∀ b : Int, (b < x0 ∨ x0 + 1 < b) → (g_52 (x0 + 1) (g_30 x0 d)) b = d b from fun b hb => (F2 b (by omega)).trans (F1 b (by omega))) (show (g_52 (x0 + 1) (g_30 x0 d)) x0 4 = d x0 4 from (congrFun (F2 x0 (by omega)) 4).trans (k1_0)) (show (g_52 (x0 + 1) (g_30 x0 d)) x0 5 = d x0 5 from (congrFun (F2 x0 (by omega)) 5).trans (k1_1)) (show (g_52 (x0 + 1) (g_30 x0 d)) x0 6 = d x0 6 from (congrFun (F2 x0 (by omega)) 6).trans (k1_2)) (show (g_52 (x0 + 1) (g_30 x0 d)) (x0 + 4) 2 = d (x0 + 4) 2 from (congrFun (F2 (x0 + 4) (by omega)) 2).trans (k1_3)) hS2
  · refine ⟨by omega, ?_⟩
    have y0 : v_31 x0 d = 0 := by simp only [v_31, if_pos (show v_30 x0 d = 0 from c0)]
    have y1 : g_31 x0 d = g_30 x0 d := by simp only [g_31, if_pos (show v_30 x0 d = 0 from c0)]
    rw [y0] at h
    rw [y1] at h
    exact h (show 0 ≤ ((0 : Int)) ∧ ((0 : Int)) ≤ 1 from (by omega)) (show ∀ b : Int, (b < x0 ∨ x0 + 1 < b) → (g_30 x0 d) b = d b from fun b hb => F1 b (by omega)) (show (g_30 x0 d) x0 4 = d x0 4 from k1_0) (show (g_30 x0 d) x0 5 = d x0 5 from k1_1) (show (g_30 x0 d) x0 6 = d x0 6 from k1_2) (show (g_30 x0 d) (x0 + 4) 2 = d (x0 + 4) 2 from k1_3) hS1
def v_24 (x0 x1 : Int) (d : mD) : Int := if v_55 (x0 + 1) x1 d = 0 then v_32 x0 1 d else 1
def g_24 (x0 x1 : Int) (d : mD) : mD := if v_55 (x0 + 1) x1 d = 0 then g_32 x0 1 d else g_52 (x0 + 1) d
theorem k_24 {E : mO × tW} {K : tK} {d : mD} {x0 x1 : Int} (hW : W55 E) (hS : Safe d) (hx0 : ldB x0) (hk : 0 ≤ x1 ∧ x1 ≤ 6) (h : (0 ≤ (v_24 x0 x1 d) ∧ (v_24 x0 x1 d) ≤ 1) → (∀ b : Int, (b < x0 ∨ x0 + 1 < b) → (g_24 x0 x1 d) b = d b) → (g_24 x0 x1 d) x0 4 = d x0 4 → (g_24 x0 x1 d) x0 5 = d x0 5 → (g_24 x0 x1 d) x0 6 = d x0 6 → (g_24 x0 x1 d) (x0 + 4) 2 = d (x0 + 4) 2 → Safe (g_24 x0 x1 d) → K (.inl (some (0, (v_24 x0 x1 d)))) (g_24 x0 x1 d)) : tCall E 24 [.inr (2, x0), .inl (5, x1)] d K := by
  refine t_24_0 ?_
  have w8 := r_5_f2 hS (ldB.re hx0)
  refine k_55 hW hS (ldB.re hx0) (by omega) (fun e1 => ?_)
  refine t_24_8 ?_
  have w8 := r_5_f2 hS (ldB.re hx0)
  refine ⟨m_inR (by omega) (by omega), fun c0 => ?_, fun c0 => ?_⟩
  · refine k_52 hS (ldB.re hx0) (fun F1 hS1 => ?_)
    refine t_24_24 ?_
    have w8 := r_5_f2 hS1 (ldB.re hx0)
    refine ⟨by omega, ?_⟩
    have y0 : v_24 x0 x1 d = 1 := by simp only [v_24, if_neg (show ¬ v_55 (x0 + 1) x1 d = 0 from c0)]
    have y1 : g_24 x0 x1 d = g_52 (x0 + 1) d := by simp only [g_24, if_neg (show ¬ v_55 (x0 + 1) x1 d = 0 from c0)]
    rw [y0] at h
    rw [y1] at h
    exact h (show 0 ≤ ((1 : Int)) ∧ ((1 : Int)) ≤ 1 from (by omega)) (show ∀ b : Int, (b < x0 ∨ x0 + 1 < b) → (g_52 (x0 + 1) d) b = d b from fun b hb => F1 b (by omega)) (show (g_52 (x0 + 1) d) x0 4 = d x0 4 from congrFun (F1 x0 (by omega)) 4) (show (g_52 (x0 + 1) d) x0 5 = d x0 5 from congrFun (F1 x0 (by omega)) 5) (show (g_52 (x0 + 1) d) x0 6 = d x0 6 from congrFun (F1 x0 (by omega)) 6) (show (g_52 (x0 + 1) d) (x0 + 4) 2 = d (x0 + 4) 2 from congrFun (F1 (x0 + 4) (by omega)) 2) hS1
  · refine k_32 hS hx0 (by omega) (fun e2 F2 k2_0 k2_1 k2_2 k2_3 n2_0 hS2 => ?_)
    refine t_24_16 ?_
    have w8 := r_5_f2 hS2 (ldB.re hx0)
    refine ⟨by omega, ?_⟩
    have y0 : v_24 x0 x1 d = v_32 x0 1 d := by simp only [v_24, if_pos (show v_55 (x0 + 1) x1 d = 0 from c0)]
    have y1 : g_24 x0 x1 d = g_32 x0 1 d := by simp only [g_24, if_pos (show v_55 (x0 + 1) x1 d = 0 from c0)]
    rw [y0] at h
    rw [y1] at h
    exact h (show 0 ≤ (v_32 x0 1 d) ∧ (v_32 x0 1 d) ≤ 1 from (by omega)) (show ∀ b : Int, (b < x0 ∨ x0 + 1 < b) → (g_32 x0 1 d) b = d b from fun b hb => F2 b (by omega)) (show (g_32 x0 1 d) x0 4 = d x0 4 from k2_0) (show (g_32 x0 1 d) x0 5 = d x0 5 from k2_1) (show (g_32 x0 1 d) x0 6 = d x0 6 from k2_2) (show (g_32 x0 1 d) (x0 + 4) 2 = d (x0 + 4) 2 from k2_3) hS2
def v_25 (x0 x1 x2 : Int) (d : mD) : Int := if d (x0 + 1) 1 = 1 then (if d (x0 + 1) 4 < x1 then v_32 x0 2 d else if x2 < d (x0 + 1) 4 then v_32 x0 2 d else 1) else v_32 x0 1 d
def g_25 (x0 x1 x2 : Int) (d : mD) : mD := if d (x0 + 1) 1 = 1 then (if d (x0 + 1) 4 < x1 then g_32 x0 2 d else if x2 < d (x0 + 1) 4 then g_32 x0 2 d else g_52 (x0 + 1) (mset d x0 4 (d (x0 + 1) 4))) else g_32 x0 1 d
theorem k_25 {E : mO × tW} {K : tK} {d : mD} {x0 x1 x2 : Int} (hS : Safe d) (hx0 : ldB x0) (p1 : 0 ≤ x1 ∧ x1 ≤ 99999) (p2 : 0 ≤ x2 ∧ x2 ≤ 99999) (h : (0 ≤ (v_25 x0 x1 x2 d) ∧ (v_25 x0 x1 x2 d) ≤ 1) → (∀ b : Int, (b < x0 ∨ x0 + 1 < b) → (g_25 x0 x1 x2 d) b = d b) → (g_25 x0 x1 x2 d) x0 5 = d x0 5 → (g_25 x0 x1 x2 d) x0 6 = d x0 6 → (g_25 x0 x1 x2 d) (x0 + 4) 2 = d (x0 + 4) 2 → ((v_25 x0 x1 x2 d) = 0 ∨ (x1 ≤ (g_25 x0 x1 x2 d) x0 4 ∧ (g_25 x0 x1 x2 d) x0 4 ≤ x2)) → Safe (g_25 x0 x1 x2 d) → K (.inl (some (0, (v_25 x0 x1 x2 d)))) (g_25 x0 x1 x2 d)) : tCall E 25 [.inr (2, x0), .inl (0, x1), .inl (0, x2)] d K := by
  refine t_25_0 ?_
  have w8 := r_5_f2 hS (ldB.re hx0)
  have q1 := r_5_f1 hS (ldB.re hx0)
  refine ⟨⟨m_inR (by omega) (by omega), m_inR (by omega) (by omega)⟩, fun c0 => ?_, fun c0 => ?_⟩
  · have q2 := r_5_f4 hS (ldB.re hx0)
    refine ⟨⟨m_inR (by omega) (by omega), m_inR (by omega) (by omega)⟩, fun c1 => ?_, fun c1 => ?_⟩
    · refine k_32 hS hx0 (by omega) (fun e1 F1 k1_0 k1_1 k1_2 k1_3 n1_0 hS1 => ?_)
      refine t_25_44 ?_
      have w8 := r_5_f2 hS1 (ldB.re hx0)
      refine ⟨by omega, ?_⟩
      have q3 : (g_32 x0 2 d) x0 4 = d x0 4 := k1_0
      have y0 : v_25 x0 x1 x2 d = v_32 x0 2 d := by simp only [v_25, if_pos (show d (x0 + 1) 1 = 1 from c0), if_pos (show d (x0 + 1) 4 < x1 from c1)]
      have y1 : g_25 x0 x1 x2 d = g_32 x0 2 d := by simp only [g_25, if_pos (show d (x0 + 1) 1 = 1 from c0), if_pos (show d (x0 + 1) 4 < x1 from c1)]
      rw [y0] at h
      rw [y1] at h
      exact h (show 0 ≤ (v_32 x0 2 d) ∧ (v_32 x0 2 d) ≤ 1 from (by omega)) (show ∀ b : Int, (b < x0 ∨ x0 + 1 < b) → (g_32 x0 2 d) b = d b from fun b hb => F1 b (by omega)) (show (g_32 x0 2 d) x0 5 = d x0 5 from k1_1) (show (g_32 x0 2 d) x0 6 = d x0 6 from k1_2) (show (g_32 x0 2 d) (x0 + 4) 2 = d (x0 + 4) 2 from k1_3) (show (v_32 x0 2 d) = 0 ∨ (x1 ≤ (g_32 x0 2 d) x0 4 ∧ (g_32 x0 2 d) x0 4 ≤ x2) by omega) hS1
    · refine ⟨⟨m_inR (by omega) (by omega), m_inR (by omega) (by omega)⟩, fun c2 => ?_, fun c2 => ?_⟩
      · have hS2 : Safe (mset d x0 4 (d (x0 + 1) 4)) := s_2_f4 hS hx0 (by omega)
        refine k_52 hS2 (ldB.re hx0) (fun F2 hS3 => ?_)
        refine t_25_63 ?_
        have w8 := r_5_f2 hS3 (ldB.re hx0)
        refine ⟨by omega, ?_⟩
        have q4 : (g_52 (x0 + 1) (mset d x0 4 (d (x0 + 1) 4))) x0 4 = d (x0 + 1) 4 := (congrFun (F2 x0 (by omega)) 4).trans (mset_eq)
        have y0 : v_25 x0 x1 x2 d = 1 := by simp only [v_25, if_pos (show d (x0 + 1) 1 = 1 from c0), if_neg (show ¬ d (x0 + 1) 4 < x1 from Int.not_lt.mpr c1), if_neg (show ¬ x2 < d (x0 + 1) 4 from Int.not_lt.mpr c2)]
        have y1 : g_25 x0 x1 x2 d = g_52 (x0 + 1) (mset d x0 4 (d (x0 + 1) 4)) := by simp only [g_25, if_pos (show d (x0 + 1) 1 = 1 from c0), if_neg (show ¬ d (x0 + 1) 4 < x1 from Int.not_lt.mpr c1), if_neg (show ¬ x2 < d (x0 + 1) 4 from Int.not_lt.mpr c2)]
        rw [y0] at h
        rw [y1] at h
        exact h (show 0 ≤ ((1 : Int)) ∧ ((1 : Int)) ≤ 1 from (by omega)) (show ∀ b : Int, (b < x0 ∨ x0 + 1 < b) → (g_52 (x0 + 1) (mset d x0 4 (d (x0 + 1) 4))) b = d b from fun b hb => (F2 b (by omega)).trans (mset_ne (by omega))) (show (g_52 (x0 + 1) (mset d x0 4 (d (x0 + 1) 4))) x0 5 = d x0 5 from (congrFun (F2 x0 (by omega)) 5).trans (mset_ni (by omega))) (show (g_52 (x0 + 1) (mset d x0 4 (d (x0 + 1) 4))) x0 6 = d x0 6 from (congrFun (F2 x0 (by omega)) 6).trans (mset_ni (by omega))) (show (g_52 (x0 + 1) (mset d x0 4 (d (x0 + 1) 4))) (x0 + 4) 2 = d (x0 + 4) 2 from (congrFun (F2 (x0 + 4) (by omega)) 2).trans (congrFun (mset_ne (by omega)) 2)) (show ((1 : Int)) = 0 ∨ (x1 ≤ (g_52 (x0 + 1) (mset d x0 4 (d (x0 + 1) 4))) x0 4 ∧ (g_52 (x0 + 1) (mset d x0 4 (d (x0 + 1) 4))) x0 4 ≤ x2) by omega) hS3
      · refine k_32 hS hx0 (by omega) (fun e2 F3 k3_0 k3_1 k3_2 k3_3 n3_0 hS4 => ?_)
        refine t_25_44 ?_
        have w8 := r_5_f2 hS4 (ldB.re hx0)
        refine ⟨by omega, ?_⟩
        have q5 : (g_32 x0 2 d) x0 4 = d x0 4 := k3_0
        have y0 : v_25 x0 x1 x2 d = v_32 x0 2 d := by simp only [v_25, if_pos (show d (x0 + 1) 1 = 1 from c0), if_neg (show ¬ d (x0 + 1) 4 < x1 from Int.not_lt.mpr c1), if_pos (show x2 < d (x0 + 1) 4 from c2)]
        have y1 : g_25 x0 x1 x2 d = g_32 x0 2 d := by simp only [g_25, if_pos (show d (x0 + 1) 1 = 1 from c0), if_neg (show ¬ d (x0 + 1) 4 < x1 from Int.not_lt.mpr c1), if_pos (show x2 < d (x0 + 1) 4 from c2)]
        rw [y0] at h
        rw [y1] at h
        exact h (show 0 ≤ (v_32 x0 2 d) ∧ (v_32 x0 2 d) ≤ 1 from (by omega)) (show ∀ b : Int, (b < x0 ∨ x0 + 1 < b) → (g_32 x0 2 d) b = d b from fun b hb => F3 b (by omega)) (show (g_32 x0 2 d) x0 5 = d x0 5 from k3_1) (show (g_32 x0 2 d) x0 6 = d x0 6 from k3_2) (show (g_32 x0 2 d) (x0 + 4) 2 = d (x0 + 4) 2 from k3_3) (show (v_32 x0 2 d) = 0 ∨ (x1 ≤ (g_32 x0 2 d) x0 4 ∧ (g_32 x0 2 d) x0 4 ≤ x2) by omega) hS4
  · refine k_32 hS hx0 (by omega) (fun e3 F4 k4_0 k4_1 k4_2 k4_3 n4_0 hS5 => ?_)
    refine t_25_16 ?_
    have w8 := r_5_f2 hS5 (ldB.re hx0)
    refine ⟨by omega, ?_⟩
    have q6 : (g_32 x0 1 d) x0 4 = d x0 4 := k4_0
    have y0 : v_25 x0 x1 x2 d = v_32 x0 1 d := by simp only [v_25, if_neg (show ¬ d (x0 + 1) 1 = 1 from c0)]
    have y1 : g_25 x0 x1 x2 d = g_32 x0 1 d := by simp only [g_25, if_neg (show ¬ d (x0 + 1) 1 = 1 from c0)]
    rw [y0] at h
    rw [y1] at h
    exact h (show 0 ≤ (v_32 x0 1 d) ∧ (v_32 x0 1 d) ≤ 1 from (by omega)) (show ∀ b : Int, (b < x0 ∨ x0 + 1 < b) → (g_32 x0 1 d) b = d b from fun b hb => F4 b (by omega)) (show (g_32 x0 1 d) x0 5 = d x0 5 from k4_1) (show (g_32 x0 1 d) x0 6 = d x0 6 from k4_2) (show (g_32 x0 1 d) (x0 + 4) 2 = d (x0 + 4) 2 from k4_3) (show (v_32 x0 1 d) = 0 ∨ (x1 ≤ (g_32 x0 1 d) x0 4 ∧ (g_32 x0 1 d) x0 4 ≤ x2) by omega) hS5
def v_26 (x0 : Int) (d : mD) : Int := if v_56 (x0 + 1) d = (-1) then v_32 x0 1 (mset d x0 5 (v_56 (x0 + 1) d)) else 1
def g_26 (x0 : Int) (d : mD) : mD := if v_56 (x0 + 1) d = (-1) then g_32 x0 1 (mset d x0 5 (v_56 (x0 + 1) d)) else g_52 (x0 + 1) (mset d x0 5 (v_56 (x0 + 1) d))
theorem k_26 {E : mO × tW} {K : tK} {d : mD} {x0 : Int} (hS : Safe d) (hx0 : ldB x0) (h : (0 ≤ (v_26 x0 d) ∧ (v_26 x0 d) ≤ 1) → (∀ b : Int, (b < x0 ∨ x0 + 1 < b) → (g_26 x0 d) b = d b) → (g_26 x0 d) x0 4 = d x0 4 → (g_26 x0 d) x0 6 = d x0 6 → (g_26 x0 d) (x0 + 4) 2 = d (x0 + 4) 2 → ((v_26 x0 d) = 0 ∨ (0 ≤ (g_26 x0 d) x0 5 ∧ ¬ v_56 (x0 + 1) d = -1)) → Safe (g_26 x0 d) → K (.inl (some (0, (v_26 x0 d)))) (g_26 x0 d)) : tCall E 26 [.inr (2, x0)] d K := by
  refine t_26_0 ?_
  have w8 := r_5_f2 hS (ldB.re hx0)
  refine k_56 hS (ldB.re hx0) (fun e1 => ?_)
  refine t_26_8 ?_
  have w8 := r_5_f2 hS (ldB.re hx0)
  have hS1 : Safe (mset d x0 5 (v_56 (x0 + 1) d)) := s_2_f5 hS hx0 (by omega)
  try rw [mset_eq (d := d) (a := x0) (i := (5 : Int)) (v := v_56 (x0 + 1) d)]
  refine ⟨⟨m_inR (by omega) (by omega), m_inR (by omega) (by omega)⟩, fun c0 => ?_, fun c0 => ?_⟩
  · refine k_52 hS1 (ldB.re hx0) (fun F1 hS2 => ?_)
    refine t_26_32 ?_
    have w8 := r_5_f2 hS2 (ldB.re hx0)
    refine ⟨by omega, ?_⟩
    have q1 : (g_52 (x0 + 1) (mset d x0 5 (v_56 (x0 + 1) d))) x0 5 = v_56 (x0 + 1) d := (congrFun (F1 x0 (by omega)) 5).trans (mset_eq)
    have y0 : v_26 x0 d = 1 := by simp only [v_26, if_neg (show ¬ v_56 (x0 + 1) d = (-1) from c0)]
    have y1 : g_26 x0 d = g_52 (x0 + 1) (mset d x0 5 (v_56 (x0 + 1) d)) := by simp only [g_26, if_neg (show ¬ v_56 (x0 + 1) d = (-1) from c0)]
    rw [y0] at h
    rw [y1] at h
    exact h (show 0 ≤ ((1 : Int)) ∧ ((1 : Int)) ≤ 1 from (by omega)) (show ∀ b : Int, (b < x0 ∨ x0 + 1 < b) → (g_52 (x0 + 1) (mset d x0 5 (v_56 (x0 + 1) d))) b = d b from fun b hb => (F1 b (by omega)).trans (mset_ne (by omega))) (show (g_52 (x0 + 1) (mset d x0 5 (v_56 (x0 + 1) d))) x0 4 = d x0 4 from (congrFun (F1 x0 (by omega)) 4).trans (mset_ni (by omega))) (show (g_52 (x0 + 1) (mset d x0 5 (v_56 (x0 + 1) d))) x0 6 = d x0 6 from (congrFun (F1 x0 (by omega)) 6).trans (mset_ni (by omega))) (show (g_52 (x0 + 1) (mset d x0 5 (v_56 (x0 + 1) d))) (x0 + 4) 2 = d (x0 + 4) 2 from (congrFun (F1 (x0 + 4) (by omega)) 2).trans (congrFun (mset_ne (by omega)) 2)) (show ((1 : Int)) = 0 ∨ (0 ≤ (g_52 (x0 + 1) (mset d x0 5 (v_56 (x0 + 1) d))) x0 5 ∧ ¬ v_56 (x0 + 1) d = -1) by omega) hS2
  · refine k_32 hS1 hx0 (by omega) (fun e2 F2 k2_0 k2_1 k2_2 k2_3 n2_0 hS3 => ?_)
    refine t_26_24 ?_
    have w8 := r_5_f2 hS3 (ldB.re hx0)
    refine ⟨by omega, ?_⟩
    have q2 : (g_32 x0 1 (mset d x0 5 (v_56 (x0 + 1) d))) x0 5 = v_56 (x0 + 1) d := (k2_1).trans (mset_eq)
    have y0 : v_26 x0 d = v_32 x0 1 (mset d x0 5 (v_56 (x0 + 1) d)) := by simp only [v_26, if_pos (show v_56 (x0 + 1) d = (-1) from c0)]
    have y1 : g_26 x0 d = g_32 x0 1 (mset d x0 5 (v_56 (x0 + 1) d)) := by simp only [g_26, if_pos (show v_56 (x0 + 1) d = (-1) from c0)]
    rw [y0] at h
    rw [y1] at h
    exact h (show 0 ≤ (v_32 x0 1 (mset d x0 5 (v_56 (x0 + 1) d))) ∧ (v_32 x0 1 (mset d x0 5 (v_56 (x0 + 1) d))) ≤ 1 from (by omega)) (show ∀ b : Int, (b < x0 ∨ x0 + 1 < b) → (g_32 x0 1 (mset d x0 5 (v_56 (x0 + 1) d))) b = d b from fun b hb => (F2 b (by omega)).trans (mset_ne (by omega))) (show (g_32 x0 1 (mset d x0 5 (v_56 (x0 + 1) d))) x0 4 = d x0 4 from (k2_0).trans (mset_ni (by omega))) (show (g_32 x0 1 (mset d x0 5 (v_56 (x0 + 1) d))) x0 6 = d x0 6 from (k2_2).trans (mset_ni (by omega))) (show (g_32 x0 1 (mset d x0 5 (v_56 (x0 + 1) d))) (x0 + 4) 2 = d (x0 + 4) 2 from (k2_3).trans (congrFun (mset_ne (by omega)) 2)) (show (v_32 x0 1 (mset d x0 5 (v_56 (x0 + 1) d))) = 0 ∨ (0 ≤ (g_32 x0 1 (mset d x0 5 (v_56 (x0 + 1) d))) x0 5 ∧ ¬ v_56 (x0 + 1) d = -1) by omega) hS3
def v_27 (x0 : Int) (d : mD) : Int := if v_56 (x0 + 1) (mset d x0 6 (v_48 (x0 + 4 + 10) (v_56 (x0 + 1) d) d)) = (-1) then v_26 x0 (mset d x0 6 (v_48 (x0 + 4 + 10) (v_56 (x0 + 1) d) d)) else if v_48 (x0 + 4 + 10) (v_56 (x0 + 1) d) d = (-1) then v_32 x0 4 (mset d x0 6 (v_48 (x0 + 4 + 10) (v_56 (x0 + 1) d) d)) else v_26 x0 (mset d x0 6 (v_48 (x0 + 4 + 10) (v_56 (x0 + 1) d) d))
def g_27 (x0 : Int) (d : mD) : mD := if v_56 (x0 + 1) (mset d x0 6 (v_48 (x0 + 4 + 10) (v_56 (x0 + 1) d) d)) = (-1) then g_26 x0 (mset d x0 6 (v_48 (x0 + 4 + 10) (v_56 (x0 + 1) d) d)) else if v_48 (x0 + 4 + 10) (v_56 (x0 + 1) d) d = (-1) then g_32 x0 4 (mset d x0 6 (v_48 (x0 + 4 + 10) (v_56 (x0 + 1) d) d)) else g_26 x0 (mset d x0 6 (v_48 (x0 + 4 + 10) (v_56 (x0 + 1) d) d))
theorem k_27 {E : mO × tW} {K : tK} {d : mD} {x0 : Int} (hS : Safe d) (hx0 : ldB x0) (h : (0 ≤ (v_27 x0 d) ∧ (v_27 x0 d) ≤ 1) → (∀ b : Int, (b < x0 ∨ x0 + 1 < b) → (g_27 x0 d) b = d b) → (g_27 x0 d) x0 4 = d x0 4 → (g_27 x0 d) (x0 + 4) 2 = d (x0 + 4) 2 → ((v_27 x0 d) = 0 ∨ (0 ≤ (g_27 x0 d) x0 6 ∧ (g_27 x0 d) x0 6 ≤ 15)) → Safe (g_27 x0 d) → K (.inl (some (0, (v_27 x0 d)))) (g_27 x0 d)) : tCall E 27 [.inr (2, x0)] d K := by
  refine t_27_0 ?_
  have w8 := r_5_f2 hS (ldB.re hx0)
  refine k_56 hS (ldB.re hx0) (fun e1 => ?_)
  refine t_27_15 ?_
  have w8 := r_5_f2 hS (ldB.re hx0)
  refine k_48 hS (stB.pe (ldB.st hx0)) (m_inR (by omega) (by omega)) (fun e2 => ?_)
  refine t_27_18 ?_
  have w8 := r_5_f2 hS (ldB.re hx0)
  have hS1 : Safe (mset d x0 6 (v_48 (x0 + 4 + 10) (v_56 (x0 + 1) d) d)) := s_2_f6 hS hx0 (by omega)
  refine k_56 hS1 (ldB.re hx0) (fun e3 => ?_)
  refine t_27_28 ?_
  have w8 := r_5_f2 hS1 (ldB.re hx0)
  refine ⟨⟨m_inR (by omega) (by omega), m_inR (by omega) (by omega)⟩, fun c0 => ?_, fun c0 => ?_⟩
  · refine k_26 hS1 hx0 (fun e4 F1 k1_0 k1_1 k1_2 n1_0 hS2 => ?_)
    refine t_27_50 ?_
    have w8 := r_5_f2 hS2 (ldB.re hx0)
    refine ⟨by omega, ?_⟩
    have q1 : (g_26 x0 (mset d x0 6 (v_48 (x0 + 4 + 10) (v_56 (x0 + 1) d) d))) x0 6 = v_48 (x0 + 4 + 10) (v_56 (x0 + 1) d) d := (k1_1).trans (mset_eq)
    have y0 : v_27 x0 d = v_26 x0 (mset d x0 6 (v_48 (x0 + 4 + 10) (v_56 (x0 + 1) d) d)) := by simp only [v_27, if_pos (show v_56 (x0 + 1) (mset d x0 6 (v_48 (x0 + 4 + 10) (v_56 (x0 + 1) d) d)) = (-1) from c0)]
    have y1 : g_27 x0 d = g_26 x0 (mset d x0 6 (v_48 (x0 + 4 + 10) (v_56 (x0 + 1) d) d)) := by simp only [g_27, if_pos (show v_56 (x0 + 1) (mset d x0 6 (v_48 (x0 + 4 + 10) (v_56 (x0 + 1) d) d)) = (-1) from c0)]
    rw [y0] at h
    rw [y1] at h
    exact h (show 0 ≤ (v_26 x0 (mset d x0 6 (v_48 (x0 + 4 + 10) (v_56 (x0 + 1) d) d))) ∧ (v_26 x0 (mset d x0 6 (v_48 (x0 + 4 + 10) (v_56 (x0 + 1) d) d))) ≤ 1 from (by omega)) (show ∀ b : Int, (b < x0 ∨ x0 + 1 < b) → (g_26 x0 (mset d x0 6 (v_48 (x0 + 4 + 10) (v_56 (x0 + 1) d) d))) b = d b from fun b hb => (F1 b (by omega)).trans (mset_ne (by omega))) (show (g_26 x0 (mset d x0 6 (v_48 (x0 + 4 + 10) (v_56 (x0 + 1) d) d))) x0 4 = d x0 4 from (k1_0).trans (mset_ni (by omega))) (show (g_26 x0 (mset d x0 6 (v_48 (x0 + 4 + 10) (v_56 (x0 + 1) d) d))) (x0 + 4) 2 = d (x0 + 4) 2 from (k1_2).trans (congrFun (mset_ne (by omega)) 2)) (show (v_26 x0 (mset d x0 6 (v_48 (x0 + 4 + 10) (v_56 (x0 + 1) d) d))) = 0 ∨ (0 ≤ (g_26 x0 (mset d x0 6 (v_48 (x0 + 4 + 10) (v_56 (x0 + 1) d) d))) x0 6 ∧ (g_26 x0 (mset d x0 6 (v_48 (x0 + 4 + 10) (v_56 (x0 + 1) d) d))) x0 6 ≤ 15) by omega) hS2
  · try rw [mset_eq (d := d) (a := x0) (i := (6 : Int)) (v := v_48 (x0 + 4 + 10) (v_56 (x0 + 1) d) d)]
    refine ⟨⟨m_inR (by omega) (by omega), m_inR (by omega) (by omega)⟩, fun c1 => ?_, fun c1 => ?_⟩
    · refine k_26 hS1 hx0 (fun e5 F2 k2_0 k2_1 k2_2 n2_0 hS3 => ?_)
      refine t_27_50 ?_
      have w8 := r_5_f2 hS3 (ldB.re hx0)
      refine ⟨by omega, ?_⟩
      have q2 : (g_26 x0 (mset d x0 6 (v_48 (x0 + 4 + 10) (v_56 (x0 + 1) d) d))) x0 6 = v_48 (x0 + 4 + 10) (v_56 (x0 + 1) d) d := (k2_1).trans (mset_eq)
      have y0 : v_27 x0 d = v_26 x0 (mset d x0 6 (v_48 (x0 + 4 + 10) (v_56 (x0 + 1) d) d)) := by simp only [v_27, if_neg (show ¬ v_56 (x0 + 1) (mset d x0 6 (v_48 (x0 + 4 + 10) (v_56 (x0 + 1) d) d)) = (-1) from c0), if_neg (show ¬ v_48 (x0 + 4 + 10) (v_56 (x0 + 1) d) d = (-1) from c1)]
      have y1 : g_27 x0 d = g_26 x0 (mset d x0 6 (v_48 (x0 + 4 + 10) (v_56 (x0 + 1) d) d)) := by simp only [g_27, if_neg (show ¬ v_56 (x0 + 1) (mset d x0 6 (v_48 (x0 + 4 + 10) (v_56 (x0 + 1) d) d)) = (-1) from c0), if_neg (show ¬ v_48 (x0 + 4 + 10) (v_56 (x0 + 1) d) d = (-1) from c1)]
      rw [y0] at h
      rw [y1] at h
      exact h (show 0 ≤ (v_26 x0 (mset d x0 6 (v_48 (x0 + 4 + 10) (v_56 (x0 + 1) d) d))) ∧ (v_26 x0 (mset d x0 6 (v_48 (x0 + 4 + 10) (v_56 (x0 + 1) d) d))) ≤ 1 from (by omega)) (show ∀ b : Int, (b < x0 ∨ x0 + 1 < b) → (g_26 x0 (mset d x0 6 (v_48 (x0 + 4 + 10) (v_56 (x0 + 1) d) d))) b = d b from fun b hb => (F2 b (by omega)).trans (mset_ne (by omega))) (show (g_26 x0 (mset d x0 6 (v_48 (x0 + 4 + 10) (v_56 (x0 + 1) d) d))) x0 4 = d x0 4 from (k2_0).trans (mset_ni (by omega))) (show (g_26 x0 (mset d x0 6 (v_48 (x0 + 4 + 10) (v_56 (x0 + 1) d) d))) (x0 + 4) 2 = d (x0 + 4) 2 from (k2_2).trans (congrFun (mset_ne (by omega)) 2)) (show (v_26 x0 (mset d x0 6 (v_48 (x0 + 4 + 10) (v_56 (x0 + 1) d) d))) = 0 ∨ (0 ≤ (g_26 x0 (mset d x0 6 (v_48 (x0 + 4 + 10) (v_56 (x0 + 1) d) d))) x0 6 ∧ (g_26 x0 (mset d x0 6 (v_48 (x0 + 4 + 10) (v_56 (x0 + 1) d) d))) x0 6 ≤ 15) by omega) hS3
    · refine k_32 hS1 hx0 (by omega) (fun e6 F3 k3_0 k3_1 k3_2 k3_3 n3_0 hS4 => ?_)
      refine t_27_45 ?_
      have w8 := r_5_f2 hS4 (ldB.re hx0)
      refine ⟨by omega, ?_⟩
      have q3 : (g_32 x0 4 (mset d x0 6 (v_48 (x0 + 4 + 10) (v_56 (x0 + 1) d) d))) x0 6 = v_48 (x0 + 4 + 10) (v_56 (x0 + 1) d) d := (k3_2).trans (mset_eq)
      have y0 : v_27 x0 d = v_32 x0 4 (mset d x0 6 (v_48 (x0 + 4 + 10) (v_56 (x0 + 1) d) d)) := by simp only [v_27, if_neg (show ¬ v_56 (x0 + 1) (mset d x0 6 (v_48 (x0 + 4 + 10) (v_56 (x0 + 1) d) d)) = (-1) from c0), if_pos (show v_48 (x0 + 4 + 10) (v_56 (x0 + 1) d) d = (-1) from c1)]
      have y1 : g_27 x0 d = g_32 x0 4 (mset d x0 6 (v_48 (x0 + 4 + 10) (v_56 (x0 + 1) d) d)) := by simp only [g_27, if_neg (show ¬ v_56 (x0 + 1) (mset d x0 6 (v_48 (x0 + 4 + 10) (v_56 (x0 + 1) d) d)) = (-1) from c0), if_pos (show v_48 (x0 + 4 + 10) (v_56 (x0 + 1) d) d = (-1) from c1)]
      rw [y0] at h
      rw [y1] at h
      exact h (show 0 ≤ (v_32 x0 4 (mset d x0 6 (v_48 (x0 + 4 + 10) (v_56 (x0 + 1) d) d))) ∧ (v_32 x0 4 (mset d x0 6 (v_48 (x0 + 4 + 10) (v_56 (x0 + 1) d) d))) ≤ 1 from (by omega)) (show ∀ b : Int, (b < x0 ∨ x0 + 1 < b) → (g_32 x0 4 (mset d x0 6 (v_48 (x0 + 4 + 10) (v_56 (x0 + 1) d) d))) b = d b from fun b hb => (F3 b (by omega)).trans (mset_ne (by omega))) (show (g_32 x0 4 (mset d x0 6 (v_48 (x0 + 4 + 10) (v_56 (x0 + 1) d) d))) x0 4 = d x0 4 from (k3_0).trans (mset_ni (by omega))) (show (g_32 x0 4 (mset d x0 6 (v_48 (x0 + 4 + 10) (v_56 (x0 + 1) d) d))) (x0 + 4) 2 = d (x0 + 4) 2 from (k3_3).trans (congrFun (mset_ne (by omega)) 2)) (show (v_32 x0 4 (mset d x0 6 (v_48 (x0 + 4 + 10) (v_56 (x0 + 1) d) d))) = 0 ∨ (0 ≤ (g_32 x0 4 (mset d x0 6 (v_48 (x0 + 4 + 10) (v_56 (x0 + 1) d) d))) x0 6 ∧ (g_32 x0 4 (mset d x0 6 (v_48 (x0 + 4 + 10) (v_56 (x0 + 1) d) d))) x0 6 ≤ 15) by omega) hS4
def v_28 (x0 : Int) (d : mD) : Int := if v_56 (x0 + 1) (mset d x0 6 (v_36 (x0 + 4 + 2) (v_56 (x0 + 1) d) d)) = (-1) then v_26 x0 (mset d x0 6 (v_36 (x0 + 4 + 2) (v_56 (x0 + 1) d) d)) else if v_36 (x0 + 4 + 2) (v_56 (x0 + 1) d) d = (-1) then v_32 x0 4 (mset d x0 6 (v_36 (x0 + 4 + 2) (v_56 (x0 + 1) d) d)) else v_26 x0 (mset d x0 6 (v_36 (x0 + 4 + 2) (v_56 (x0 + 1) d) d))
def g_28 (x0 : Int) (d : mD) : mD := if v_56 (x0 + 1) (mset d x0 6 (v_36 (x0 + 4 + 2) (v_56 (x0 + 1) d) d)) = (-1) then g_26 x0 (mset d x0 6 (v_36 (x0 + 4 + 2) (v_56 (x0 + 1) d) d)) else if v_36 (x0 + 4 + 2) (v_56 (x0 + 1) d) d = (-1) then g_32 x0 4 (mset d x0 6 (v_36 (x0 + 4 + 2) (v_56 (x0 + 1) d) d)) else g_26 x0 (mset d x0 6 (v_36 (x0 + 4 + 2) (v_56 (x0 + 1) d) d))
theorem k_28 {E : mO × tW} {K : tK} {d : mD} {x0 : Int} (hS : Safe d) (hx0 : ldB x0) (h : (0 ≤ (v_28 x0 d) ∧ (v_28 x0 d) ≤ 1) → (∀ b : Int, (b < x0 ∨ x0 + 1 < b) → (g_28 x0 d) b = d b) → (g_28 x0 d) x0 4 = d x0 4 → (g_28 x0 d) (x0 + 4) 2 = d (x0 + 4) 2 → ((v_28 x0 d) = 0 ∨ (0 ≤ (g_28 x0 d) x0 6 ∧ (g_28 x0 d) x0 6 ≤ 5)) → Safe (g_28 x0 d) → K (.inl (some (0, (v_28 x0 d)))) (g_28 x0 d)) : tCall E 28 [.inr (2, x0)] d K := by
  refine t_28_0 ?_
  have w8 := r_5_f2 hS (ldB.re hx0)
  refine k_56 hS (ldB.re hx0) (fun e1 => ?_)
  refine t_28_15 ?_
  have w8 := r_5_f2 hS (ldB.re hx0)
  refine k_36 hS (stB.of (ldB.st hx0)) (m_inR (by omega) (by omega)) (fun e2 => ?_)
  refine t_28_18 ?_
  have w8 := r_5_f2 hS (ldB.re hx0)
  have hS1 : Safe (mset d x0 6 (v_36 (x0 + 4 + 2) (v_56 (x0 + 1) d) d)) := s_2_f6 hS hx0 (by omega)
  refine k_56 hS1 (ldB.re hx0) (fun e3 => ?_)
  refine t_28_28 ?_
  have w8 := r_5_f2 hS1 (ldB.re hx0)
  refine ⟨⟨m_inR (by omega) (by omega), m_inR (by omega) (by omega)⟩, fun c0 => ?_, fun c0 => ?_⟩
  · refine k_26 hS1 hx0 (fun e4 F1 k1_0 k1_1 k1_2 n1_0 hS2 => ?_)
    refine t_28_50 ?_
    have w8 := r_5_f2 hS2 (ldB.re hx0)
    refine ⟨by omega, ?_⟩
    have q1 : (g_26 x0 (mset d x0 6 (v_36 (x0 + 4 + 2) (v_56 (x0 + 1) d) d))) x0 6 = v_36 (x0 + 4 + 2) (v_56 (x0 + 1) d) d := (k1_1).trans (mset_eq)
    have y0 : v_28 x0 d = v_26 x0 (mset d x0 6 (v_36 (x0 + 4 + 2) (v_56 (x0 + 1) d) d)) := by simp only [v_28, if_pos (show v_56 (x0 + 1) (mset d x0 6 (v_36 (x0 + 4 + 2) (v_56 (x0 + 1) d) d)) = (-1) from c0)]
    have y1 : g_28 x0 d = g_26 x0 (mset d x0 6 (v_36 (x0 + 4 + 2) (v_56 (x0 + 1) d) d)) := by simp only [g_28, if_pos (show v_56 (x0 + 1) (mset d x0 6 (v_36 (x0 + 4 + 2) (v_56 (x0 + 1) d) d)) = (-1) from c0)]
    rw [y0] at h
    rw [y1] at h
    exact h (show 0 ≤ (v_26 x0 (mset d x0 6 (v_36 (x0 + 4 + 2) (v_56 (x0 + 1) d) d))) ∧ (v_26 x0 (mset d x0 6 (v_36 (x0 + 4 + 2) (v_56 (x0 + 1) d) d))) ≤ 1 from (by omega)) (show ∀ b : Int, (b < x0 ∨ x0 + 1 < b) → (g_26 x0 (mset d x0 6 (v_36 (x0 + 4 + 2) (v_56 (x0 + 1) d) d))) b = d b from fun b hb => (F1 b (by omega)).trans (mset_ne (by omega))) (show (g_26 x0 (mset d x0 6 (v_36 (x0 + 4 + 2) (v_56 (x0 + 1) d) d))) x0 4 = d x0 4 from (k1_0).trans (mset_ni (by omega))) (show (g_26 x0 (mset d x0 6 (v_36 (x0 + 4 + 2) (v_56 (x0 + 1) d) d))) (x0 + 4) 2 = d (x0 + 4) 2 from (k1_2).trans (congrFun (mset_ne (by omega)) 2)) (show (v_26 x0 (mset d x0 6 (v_36 (x0 + 4 + 2) (v_56 (x0 + 1) d) d))) = 0 ∨ (0 ≤ (g_26 x0 (mset d x0 6 (v_36 (x0 + 4 + 2) (v_56 (x0 + 1) d) d))) x0 6 ∧ (g_26 x0 (mset d x0 6 (v_36 (x0 + 4 + 2) (v_56 (x0 + 1) d) d))) x0 6 ≤ 5) by omega) hS2
  · try rw [mset_eq (d := d) (a := x0) (i := (6 : Int)) (v := v_36 (x0 + 4 + 2) (v_56 (x0 + 1) d) d)]
    refine ⟨⟨m_inR (by omega) (by omega), m_inR (by omega) (by omega)⟩, fun c1 => ?_, fun c1 => ?_⟩
    · refine k_26 hS1 hx0 (fun e5 F2 k2_0 k2_1 k2_2 n2_0 hS3 => ?_)
      refine t_28_50 ?_
      have w8 := r_5_f2 hS3 (ldB.re hx0)
      refine ⟨by omega, ?_⟩
      have q2 : (g_26 x0 (mset d x0 6 (v_36 (x0 + 4 + 2) (v_56 (x0 + 1) d) d))) x0 6 = v_36 (x0 + 4 + 2) (v_56 (x0 + 1) d) d := (k2_1).trans (mset_eq)
      have y0 : v_28 x0 d = v_26 x0 (mset d x0 6 (v_36 (x0 + 4 + 2) (v_56 (x0 + 1) d) d)) := by simp only [v_28, if_neg (show ¬ v_56 (x0 + 1) (mset d x0 6 (v_36 (x0 + 4 + 2) (v_56 (x0 + 1) d) d)) = (-1) from c0), if_neg (show ¬ v_36 (x0 + 4 + 2) (v_56 (x0 + 1) d) d = (-1) from c1)]
      have y1 : g_28 x0 d = g_26 x0 (mset d x0 6 (v_36 (x0 + 4 + 2) (v_56 (x0 + 1) d) d)) := by simp only [g_28, if_neg (show ¬ v_56 (x0 + 1) (mset d x0 6 (v_36 (x0 + 4 + 2) (v_56 (x0 + 1) d) d)) = (-1) from c0), if_neg (show ¬ v_36 (x0 + 4 + 2) (v_56 (x0 + 1) d) d = (-1) from c1)]
      rw [y0] at h
      rw [y1] at h
      exact h (show 0 ≤ (v_26 x0 (mset d x0 6 (v_36 (x0 + 4 + 2) (v_56 (x0 + 1) d) d))) ∧ (v_26 x0 (mset d x0 6 (v_36 (x0 + 4 + 2) (v_56 (x0 + 1) d) d))) ≤ 1 from (by omega)) (show ∀ b : Int, (b < x0 ∨ x0 + 1 < b) → (g_26 x0 (mset d x0 6 (v_36 (x0 + 4 + 2) (v_56 (x0 + 1) d) d))) b = d b from fun b hb => (F2 b (by omega)).trans (mset_ne (by omega))) (show (g_26 x0 (mset d x0 6 (v_36 (x0 + 4 + 2) (v_56 (x0 + 1) d) d))) x0 4 = d x0 4 from (k2_0).trans (mset_ni (by omega))) (show (g_26 x0 (mset d x0 6 (v_36 (x0 + 4 + 2) (v_56 (x0 + 1) d) d))) (x0 + 4) 2 = d (x0 + 4) 2 from (k2_2).trans (congrFun (mset_ne (by omega)) 2)) (show (v_26 x0 (mset d x0 6 (v_36 (x0 + 4 + 2) (v_56 (x0 + 1) d) d))) = 0 ∨ (0 ≤ (g_26 x0 (mset d x0 6 (v_36 (x0 + 4 + 2) (v_56 (x0 + 1) d) d))) x0 6 ∧ (g_26 x0 (mset d x0 6 (v_36 (x0 + 4 + 2) (v_56 (x0 + 1) d) d))) x0 6 ≤ 5) by omega) hS3
    · refine k_32 hS1 hx0 (by omega) (fun e6 F3 k3_0 k3_1 k3_2 k3_3 n3_0 hS4 => ?_)
      refine t_28_45 ?_
      have w8 := r_5_f2 hS4 (ldB.re hx0)
      refine ⟨by omega, ?_⟩
      have q3 : (g_32 x0 4 (mset d x0 6 (v_36 (x0 + 4 + 2) (v_56 (x0 + 1) d) d))) x0 6 = v_36 (x0 + 4 + 2) (v_56 (x0 + 1) d) d := (k3_2).trans (mset_eq)
      have y0 : v_28 x0 d = v_32 x0 4 (mset d x0 6 (v_36 (x0 + 4 + 2) (v_56 (x0 + 1) d) d)) := by simp only [v_28, if_neg (show ¬ v_56 (x0 + 1) (mset d x0 6 (v_36 (x0 + 4 + 2) (v_56 (x0 + 1) d) d)) = (-1) from c0), if_pos (show v_36 (x0 + 4 + 2) (v_56 (x0 + 1) d) d = (-1) from c1)]
      have y1 : g_28 x0 d = g_32 x0 4 (mset d x0 6 (v_36 (x0 + 4 + 2) (v_56 (x0 + 1) d) d)) := by simp only [g_28, if_neg (show ¬ v_56 (x0 + 1) (mset d x0 6 (v_36 (x0 + 4 + 2) (v_56 (x0 + 1) d) d)) = (-1) from c0), if_pos (show v_36 (x0 + 4 + 2) (v_56 (x0 + 1) d) d = (-1) from c1)]
      rw [y0] at h
      rw [y1] at h
      exact h (show 0 ≤ (v_32 x0 4 (mset d x0 6 (v_36 (x0 + 4 + 2) (v_56 (x0 + 1) d) d))) ∧ (v_32 x0 4 (mset d x0 6 (v_36 (x0 + 4 + 2) (v_56 (x0 + 1) d) d))) ≤ 1 from (by omega)) (show ∀ b : Int, (b < x0 ∨ x0 + 1 < b) → (g_32 x0 4 (mset d x0 6 (v_36 (x0 + 4 + 2) (v_56 (x0 + 1) d) d))) b = d b from fun b hb => (F3 b (by omega)).trans (mset_ne (by omega))) (show (g_32 x0 4 (mset d x0 6 (v_36 (x0 + 4 + 2) (v_56 (x0 + 1) d) d))) x0 4 = d x0 4 from (k3_0).trans (mset_ni (by omega))) (show (g_32 x0 4 (mset d x0 6 (v_36 (x0 + 4 + 2) (v_56 (x0 + 1) d) d))) (x0 + 4) 2 = d (x0 + 4) 2 from (k3_3).trans (congrFun (mset_ne (by omega)) 2)) (show (v_32 x0 4 (mset d x0 6 (v_36 (x0 + 4 + 2) (v_56 (x0 + 1) d) d))) = 0 ∨ (0 ≤ (g_32 x0 4 (mset d x0 6 (v_36 (x0 + 4 + 2) (v_56 (x0 + 1) d) d))) x0 6 ∧ (g_32 x0 4 (mset d x0 6 (v_36 (x0 + 4 + 2) (v_56 (x0 + 1) d) d))) x0 6 ≤ 5) by omega) hS4
def v_29 (x0 : Int) (d : mD) : Int := if v_48 (x0 + 4 + 10) (v_56 (x0 + 1) d) d = (-1) then (if v_56 (x0 + 1) (mset d x0 6 ((-1))) = (-1) then v_26 x0 (mset d x0 6 ((-1))) else v_32 x0 4 (mset d x0 6 ((-1)))) else if v_56 (x0 + 1) (mset d x0 6 (v_100 (x0 + 4 + 49) (v_48 (x0 + 4 + 10) (v_56 (x0 + 1) d) d) d)) = (-1) then v_26 x0 (mset d x0 6 (v_100 (x0 + 4 + 49) (v_48 (x0 + 4 + 10) (v_56 (x0 + 1) d) d) d)) else if v_100 (x0 + 4 + 49) (v_48 (x0 + 4 + 10) (v_56 (x0 + 1) d) d) d = (-1) then v_32 x0 4 (mset d x0 6 (v_100 (x0 + 4 + 49) (v_48 (x0 + 4 + 10) (v_56 (x0 + 1) d) d) d)) else v_26 x0 (mset d x0 6 (v_100 (x0 + 4 + 49) (v_48 (x0 + 4 + 10) (v_56 (x0 + 1) d) d) d))
def g_29 (x0 : Int) (d : mD) : mD := if v_48 (x0 + 4 + 10) (v_56 (x0 + 1) d) d = (-1) then (if v_56 (x0 + 1) (mset d x0 6 ((-1))) = (-1) then g_26 x0 (mset d x0 6 ((-1))) else g_32 x0 4 (mset d x0 6 ((-1)))) else if v_56 (x0 + 1) (mset d x0 6 (v_100 (x0 + 4 + 49) (v_48 (x0 + 4 + 10) (v_56 (x0 + 1) d) d) d)) = (-1) then g_26 x0 (mset d x0 6 (v_100 (x0 + 4 + 49) (v_48 (x0 + 4 + 10) (v_56 (x0 + 1) d) d) d)) else if v_100 (x0 + 4 + 49) (v_48 (x0 + 4 + 10) (v_56 (x0 + 1) d) d) d = (-1) then g_32 x0 4 (mset d x0 6 (v_100 (x0 + 4 + 49) (v_48 (x0 + 4 + 10) (v_56 (x0 + 1) d) d) d)) else g_26 x0 (mset d x0 6 (v_100 (x0 + 4 + 49) (v_48 (x0 + 4 + 10) (v_56 (x0 + 1) d) d) d))
theorem k_29 {E : mO × tW} {K : tK} {d : mD} {x0 : Int} (hS : Safe d) (hx0 : ldB x0) (h : (0 ≤ (v_29 x0 d) ∧ (v_29 x0 d) ≤ 1) → (∀ b : Int, (b < x0 ∨ x0 + 1 < b) → (g_29 x0 d) b = d b) → (g_29 x0 d) x0 4 = d x0 4 → (g_29 x0 d) (x0 + 4) 2 = d (x0 + 4) 2 → ((v_29 x0 d) = 0 ∨ (0 ≤ (g_29 x0 d) x0 6 ∧ (g_29 x0 d) x0 6 ≤ 59)) → Safe (g_29 x0 d) → K (.inl (some (0, (v_29 x0 d)))) (g_29 x0 d)) : tCall E 29 [.inr (2, x0)] d K := by
  refine t_29_0 ?_
  have w8 := r_5_f2 hS (ldB.re hx0)
  refine k_56 hS (ldB.re hx0) (fun e1 => ?_)
  refine t_29_14 ?_
  have w8 := r_5_f2 hS (ldB.re hx0)
  refine k_48 hS (stB.pe (ldB.st hx0)) (m_inR (by omega) (by omega)) (fun e2 => ?_)
  refine t_29_17 ?_
  have w8 := r_5_f2 hS (ldB.re hx0)
  refine ⟨⟨m_inR (by omega) (by omega), m_inR (by omega) (by omega)⟩, fun c0 => ?_, fun c0 => ?_⟩
  · refine k_100 hS (stB.ti (ldB.st hx0)) (m_inR (by omega) (by omega)) (fun e3 => ?_)
    refine t_29_39 ?_
    have w8 := r_5_f2 hS (ldB.re hx0)
    have hS1 : Safe (mset d x0 6 (v_100 (x0 + 4 + 49) (v_48 (x0 + 4 + 10) (v_56 (x0 + 1) d) d) d)) := s_2_f6 hS hx0 (by omega)
    refine k_56 hS1 (ldB.re hx0) (fun e4 => ?_)
    refine t_29_49 ?_
    have w8 := r_5_f2 hS1 (ldB.re hx0)
    refine ⟨⟨m_inR (by omega) (by omega), m_inR (by omega) (by omega)⟩, fun c1 => ?_, fun c1 => ?_⟩
    · refine k_26 hS1 hx0 (fun e5 F1 k1_0 k1_1 k1_2 n1_0 hS2 => ?_)
      refine t_29_71 ?_
      have w8 := r_5_f2 hS2 (ldB.re hx0)
      refine ⟨by omega, ?_⟩
      have q1 : (g_26 x0 (mset d x0 6 (v_100 (x0 + 4 + 49) (v_48 (x0 + 4 + 10) (v_56 (x0 + 1) d) d) d))) x0 6 = v_100 (x0 + 4 + 49) (v_48 (x0 + 4 + 10) (v_56 (x0 + 1) d) d) d := (k1_1).trans (mset_eq)
      have y0 : v_29 x0 d = v_26 x0 (mset d x0 6 (v_100 (x0 + 4 + 49) (v_48 (x0 + 4 + 10) (v_56 (x0 + 1) d) d) d)) := by simp only [v_29, if_neg (show ¬ v_48 (x0 + 4 + 10) (v_56 (x0 + 1) d) d = (-1) from c0), if_pos (show v_56 (x0 + 1) (mset d x0 6 (v_100 (x0 + 4 + 49) (v_48 (x0 + 4 + 10) (v_56 (x0 + 1) d) d) d)) = (-1) from c1)]
      have y1 : g_29 x0 d = g_26 x0 (mset d x0 6 (v_100 (x0 + 4 + 49) (v_48 (x0 + 4 + 10) (v_56 (x0 + 1) d) d) d)) := by simp only [g_29, if_neg (show ¬ v_48 (x0 + 4 + 10) (v_56 (x0 + 1) d) d = (-1) from c0), if_pos (show v_56 (x0 + 1) (mset d x0 6 (v_100 (x0 + 4 + 49) (v_48 (x0 + 4 + 10) (v_56 (x0 + 1) d) d) d)) = (-1) from c1)]
      rw [y0] at h
      rw [y1] at h
      exact h (show 0 ≤ (v_26 x0 (mset d x0 6 (v_100 (x0 + 4 + 49) (v_48 (x0 + 4 + 10) (v_56 (x0 + 1) d) d) d))) ∧ (v_26 x0 (mset d x0 6 (v_100 (x0 + 4 + 49) (v_48 (x0 + 4 + 10) (v_56 (x0 + 1) d) d) d))) ≤ 1 from (by omega)) (show ∀ b : Int, (b < x0 ∨ x0 + 1 < b) → (g_26 x0 (mset d x0 6 (v_100 (x0 + 4 + 49) (v_48 (x0 + 4 + 10) (v_56 (x0 + 1) d) d) d))) b = d b from fun b hb => (F1 b (by omega)).trans (mset_ne (by omega))) (show (g_26 x0 (mset d x0 6 (v_100 (x0 + 4 + 49) (v_48 (x0 + 4 + 10) (v_56 (x0 + 1) d) d) d))) x0 4 = d x0 4 from (k1_0).trans (mset_ni (by omega))) (show (g_26 x0 (mset d x0 6 (v_100 (x0 + 4 + 49) (v_48 (x0 + 4 + 10) (v_56 (x0 + 1) d) d) d))) (x0 + 4) 2 = d (x0 + 4) 2 from (k1_2).trans (congrFun (mset_ne (by omega)) 2)) (show (v_26 x0 (mset d x0 6 (v_100 (x0 + 4 + 49) (v_48 (x0 + 4 + 10) (v_56 (x0 + 1) d) d) d))) = 0 ∨ (0 ≤ (g_26 x0 (mset d x0 6 (v_100 (x0 + 4 + 49) (v_48 (x0 + 4 + 10) (v_56 (x0 + 1) d) d) d))) x0 6 ∧ (g_26 x0 (mset d x0 6 (v_100 (x0 + 4 + 49) (v_48 (x0 + 4 + 10) (v_56 (x0 + 1) d) d) d))) x0 6 ≤ 59) by omega) hS2
    · try rw [mset_eq (d := d) (a := x0) (i := (6 : Int)) (v := v_100 (x0 + 4 + 49) (v_48 (x0 + 4 + 10) (v_56 (x0 + 1) d) d) d)]
      refine ⟨⟨m_inR (by omega) (by omega), m_inR (by omega) (by omega)⟩, fun c2 => ?_, fun c2 => ?_⟩
      · refine k_26 hS1 hx0 (fun e6 F2 k2_0 k2_1 k2_2 n2_0 hS3 => ?_)
        refine t_29_71 ?_
        have w8 := r_5_f2 hS3 (ldB.re hx0)
        refine ⟨by omega, ?_⟩
        have q2 : (g_26 x0 (mset d x0 6 (v_100 (x0 + 4 + 49) (v_48 (x0 + 4 + 10) (v_56 (x0 + 1) d) d) d))) x0 6 = v_100 (x0 + 4 + 49) (v_48 (x0 + 4 + 10) (v_56 (x0 + 1) d) d) d := (k2_1).trans (mset_eq)
        have y0 : v_29 x0 d = v_26 x0 (mset d x0 6 (v_100 (x0 + 4 + 49) (v_48 (x0 + 4 + 10) (v_56 (x0 + 1) d) d) d)) := by simp only [v_29, if_neg (show ¬ v_48 (x0 + 4 + 10) (v_56 (x0 + 1) d) d = (-1) from c0), if_neg (show ¬ v_56 (x0 + 1) (mset d x0 6 (v_100 (x0 + 4 + 49) (v_48 (x0 + 4 + 10) (v_56 (x0 + 1) d) d) d)) = (-1) from c1), if_neg (show ¬ v_100 (x0 + 4 + 49) (v_48 (x0 + 4 + 10) (v_56 (x0 + 1) d) d) d = (-1) from c2)]
        have y1 : g_29 x0 d = g_26 x0 (mset d x0 6 (v_100 (x0 + 4 + 49) (v_48 (x0 + 4 + 10) (v_56 (x0 + 1) d) d) d)) := by simp only [g_29, if_neg (show ¬ v_48 (x0 + 4 + 10) (v_56 (x0 + 1) d) d = (-1) from c0), if_neg (show ¬ v_56 (x0 + 1) (mset d x0 6 (v_100 (x0 + 4 + 49) (v_48 (x0 + 4 + 10) (v_56 (x0 + 1) d) d) d)) = (-1) from c1), if_neg (show ¬ v_100 (x0 + 4 + 49) (v_48 (x0 + 4 + 10) (v_56 (x0 + 1) d) d) d = (-1) from c2)]
        rw [y0] at h
        rw [y1] at h
        exact h (show 0 ≤ (v_26 x0 (mset d x0 6 (v_100 (x0 + 4 + 49) (v_48 (x0 + 4 + 10) (v_56 (x0 + 1) d) d) d))) ∧ (v_26 x0 (mset d x0 6 (v_100 (x0 + 4 + 49) (v_48 (x0 + 4 + 10) (v_56 (x0 + 1) d) d) d))) ≤ 1 from (by omega)) (show ∀ b : Int, (b < x0 ∨ x0 + 1 < b) → (g_26 x0 (mset d x0 6 (v_100 (x0 + 4 + 49) (v_48 (x0 + 4 + 10) (v_56 (x0 + 1) d) d) d))) b = d b from fun b hb => (F2 b (by omega)).trans (mset_ne (by omega))) (show (g_26 x0 (mset d x0 6 (v_100 (x0 + 4 + 49) (v_48 (x0 + 4 + 10) (v_56 (x0 + 1) d) d) d))) x0 4 = d x0 4 from (k2_0).trans (mset_ni (by omega))) (show (g_26 x0 (mset d x0 6 (v_100 (x0 + 4 + 49) (v_48 (x0 + 4 + 10) (v_56 (x0 + 1) d) d) d))) (x0 + 4) 2 = d (x0 + 4) 2 from (k2_2).trans (congrFun (mset_ne (by omega)) 2)) (show (v_26 x0 (mset d x0 6 (v_100 (x0 + 4 + 49) (v_48 (x0 + 4 + 10) (v_56 (x0 + 1) d) d) d))) = 0 ∨ (0 ≤ (g_26 x0 (mset d x0 6 (v_100 (x0 + 4 + 49) (v_48 (x0 + 4 + 10) (v_56 (x0 + 1) d) d) d))) x0 6 ∧ (g_26 x0 (mset d x0 6 (v_100 (x0 + 4 + 49) (v_48 (x0 + 4 + 10) (v_56 (x0 + 1) d) d) d))) x0 6 ≤ 59) by omega) hS3
      · refine k_32 hS1 hx0 (by omega) (fun e7 F3 k3_0 k3_1 k3_2 k3_3 n3_0 hS4 => ?_)
        refine t_29_66 ?_
        have w8 := r_5_f2 hS4 (ldB.re hx0)
        refine ⟨by omega, ?_⟩
        have q3 : (g_32 x0 4 (mset d x0 6 (v_100 (x0 + 4 + 49) (v_48 (x0 + 4 + 10) (v_56 (x0 + 1) d) d) d))) x0 6 = v_100 (x0 + 4 + 49) (v_48 (x0 + 4 + 10) (v_56 (x0 + 1) d) d) d := (k3_2).trans (mset_eq)
        have y0 : v_29 x0 d = v_32 x0 4 (mset d x0 6 (v_100 (x0 + 4 + 49) (v_48 (x0 + 4 + 10) (v_56 (x0 + 1) d) d) d)) := by simp only [v_29, if_neg (show ¬ v_48 (x0 + 4 + 10) (v_56 (x0 + 1) d) d = (-1) from c0), if_neg (show ¬ v_56 (x0 + 1) (mset d x0 6 (v_100 (x0 + 4 + 49) (v_48 (x0 + 4 + 10) (v_56 (x0 + 1) d) d) d)) = (-1) from c1), if_pos (show v_100 (x0 + 4 + 49) (v_48 (x0 + 4 + 10) (v_56 (x0 + 1) d) d) d = (-1) from c2)]
        have y1 : g_29 x0 d = g_32 x0 4 (mset d x0 6 (v_100 (x0 + 4 + 49) (v_48 (x0 + 4 + 10) (v_56 (x0 + 1) d) d) d)) := by simp only [g_29, if_neg (show ¬ v_48 (x0 + 4 + 10) (v_56 (x0 + 1) d) d = (-1) from c0), if_neg (show ¬ v_56 (x0 + 1) (mset d x0 6 (v_100 (x0 + 4 + 49) (v_48 (x0 + 4 + 10) (v_56 (x0 + 1) d) d) d)) = (-1) from c1), if_pos (show v_100 (x0 + 4 + 49) (v_48 (x0 + 4 + 10) (v_56 (x0 + 1) d) d) d = (-1) from c2)]
        rw [y0] at h
        rw [y1] at h
        exact h (show 0 ≤ (v_32 x0 4 (mset d x0 6 (v_100 (x0 + 4 + 49) (v_48 (x0 + 4 + 10) (v_56 (x0 + 1) d) d) d))) ∧ (v_32 x0 4 (mset d x0 6 (v_100 (x0 + 4 + 49) (v_48 (x0 + 4 + 10) (v_56 (x0 + 1) d) d) d))) ≤ 1 from (by omega)) (show ∀ b : Int, (b < x0 ∨ x0 + 1 < b) → (g_32 x0 4 (mset d x0 6 (v_100 (x0 + 4 + 49) (v_48 (x0 + 4 + 10) (v_56 (x0 + 1) d) d) d))) b = d b from fun b hb => (F3 b (by omega)).trans (mset_ne (by omega))) (show (g_32 x0 4 (mset d x0 6 (v_100 (x0 + 4 + 49) (v_48 (x0 + 4 + 10) (v_56 (x0 + 1) d) d) d))) x0 4 = d x0 4 from (k3_0).trans (mset_ni (by omega))) (show (g_32 x0 4 (mset d x0 6 (v_100 (x0 + 4 + 49) (v_48 (x0 + 4 + 10) (v_56 (x0 + 1) d) d) d))) (x0 + 4) 2 = d (x0 + 4) 2 from (k3_3).trans (congrFun (mset_ne (by omega)) 2)) (show (v_32 x0 4 (mset d x0 6 (v_100 (x0 + 4 + 49) (v_48 (x0 + 4 + 10) (v_56 (x0 + 1) d) d) d))) = 0 ∨ (0 ≤ (g_32 x0 4 (mset d x0 6 (v_100 (x0 + 4 + 49) (v_48 (x0 + 4 + 10) (v_56 (x0 + 1) d) d) d))) x0 6 ∧ (g_32 x0 4 (mset d x0 6 (v_100 (x0 + 4 + 49) (v_48 (x0 + 4 + 10) (v_56 (x0 + 1) d) d) d))) x0 6 ≤ 59) by omega) hS4
  · refine t_29_39 ?_
    have w8 := r_5_f2 hS (ldB.re hx0)
    have hS5 : Safe (mset d x0 6 ((-1))) := s_2_f6 hS hx0 (by omega)
    refine k_56 hS5 (ldB.re hx0) (fun e8 => ?_)
    refine t_29_49 ?_
    have w8 := r_5_f2 hS5 (ldB.re hx0)
    refine ⟨⟨m_inR (by omega) (by omega), m_inR (by omega) (by omega)⟩, fun c1 => ?_, fun c1 => ?_⟩
    · refine k_26 hS5 hx0 (fun e9 F4 k4_0 k4_1 k4_2 n4_0 hS6 => ?_)
      refine t_29_71 ?_
      have w8 := r_5_f2 hS6 (ldB.re hx0)
      refine ⟨by omega, ?_⟩
      have q4 : (g_26 x0 (mset d x0 6 ((-1)))) x0 6 = (-1) := (k4_1).trans (mset_eq)
      have y0 : v_29 x0 d = v_26 x0 (mset d x0 6 ((-1))) := by simp only [v_29, if_pos (show v_48 (x0 + 4 + 10) (v_56 (x0 + 1) d) d = (-1) from c0), if_pos (show v_56 (x0 + 1) (mset d x0 6 ((-1))) = (-1) from c1)]
      have y1 : g_29 x0 d = g_26 x0 (mset d x0 6 ((-1))) := by simp only [g_29, if_pos (show v_48 (x0 + 4 + 10) (v_56 (x0 + 1) d) d = (-1) from c0), if_pos (show v_56 (x0 + 1) (mset d x0 6 ((-1))) = (-1) from c1)]
      rw [y0] at h
      rw [y1] at h
      exact h (show 0 ≤ (v_26 x0 (mset d x0 6 ((-1)))) ∧ (v_26 x0 (mset d x0 6 ((-1)))) ≤ 1 from (by omega)) (show ∀ b : Int, (b < x0 ∨ x0 + 1 < b) → (g_26 x0 (mset d x0 6 ((-1)))) b = d b from fun b hb => (F4 b (by omega)).trans (mset_ne (by omega))) (show (g_26 x0 (mset d x0 6 ((-1)))) x0 4 = d x0 4 from (k4_0).trans (mset_ni (by omega))) (show (g_26 x0 (mset d x0 6 ((-1)))) (x0 + 4) 2 = d (x0 + 4) 2 from (k4_2).trans (congrFun (mset_ne (by omega)) 2)) (show (v_26 x0 (mset d x0 6 ((-1)))) = 0 ∨ (0 ≤ (g_26 x0 (mset d x0 6 ((-1)))) x0 6 ∧ (g_26 x0 (mset d x0 6 ((-1)))) x0 6 ≤ 59) by omega) hS6
    · try rw [mset_eq (d := d) (a := x0) (i := (6 : Int)) (v := (-1 : Int))]
      refine ⟨⟨m_inR (by omega) (by omega), m_inR (by omega) (by omega)⟩, fun c2 => ?_, fun c2 => ?_⟩
      · exact (show False by omega).elim
      · refine k_32 hS5 hx0 (by omega) (fun e10 F5 k5_0 k5_1 k5_2 k5_3 n5_0 hS7 => ?_)
        refine t_29_66 ?_
        have w8 := r_5_f2 hS7 (ldB.re hx0)
        refine ⟨by omega, ?_⟩
        have q5 : (g_32 x0 4 (mset d x0 6 ((-1)))) x0 6 = (-1) := (k5_2).trans (mset_eq)
        have y0 : v_29 x0 d = v_32 x0 4 (mset d x0 6 ((-1))) := by simp only [v_29, if_pos (show v_48 (x0 + 4 + 10) (v_56 (x0 + 1) d) d = (-1) from c0), if_neg (show ¬ v_56 (x0 + 1) (mset d x0 6 ((-1))) = (-1) from c1), if_pos (show (-1 : Int) = (-1) from c2)]
        have y1 : g_29 x0 d = g_32 x0 4 (mset d x0 6 ((-1))) := by simp only [g_29, if_pos (show v_48 (x0 + 4 + 10) (v_56 (x0 + 1) d) d = (-1) from c0), if_neg (show ¬ v_56 (x0 + 1) (mset d x0 6 ((-1))) = (-1) from c1), if_pos (show (-1 : Int) = (-1) from c2)]
        rw [y0] at h
        rw [y1] at h
        exact h (show 0 ≤ (v_32 x0 4 (mset d x0 6 ((-1)))) ∧ (v_32 x0 4 (mset d x0 6 ((-1)))) ≤ 1 from (by omega)) (show ∀ b : Int, (b < x0 ∨ x0 + 1 < b) → (g_32 x0 4 (mset d x0 6 ((-1)))) b = d b from fun b hb => (F5 b (by omega)).trans (mset_ne (by omega))) (show (g_32 x0 4 (mset d x0 6 ((-1)))) x0 4 = d x0 4 from (k5_0).trans (mset_ni (by omega))) (show (g_32 x0 4 (mset d x0 6 ((-1)))) (x0 + 4) 2 = d (x0 + 4) 2 from (k5_3).trans (congrFun (mset_ne (by omega)) 2)) (show (v_32 x0 4 (mset d x0 6 ((-1)))) = 0 ∨ (0 ≤ (g_32 x0 4 (mset d x0 6 ((-1)))) x0 6 ∧ (g_32 x0 4 (mset d x0 6 ((-1)))) x0 6 ≤ 59) by omega) hS7
/-! ===== contracts of the reader and the loader: printed by a program of mine ===== -/
def olds (k i : Int) : Int := if k = 0 then (if i = 2 then 1 else if i = 3 then 1 else if i = 4 then 1 else 0) else (if i = 0 then 9 else if i = 1 then 3 else if i = 2 then 9 else if i = 3 then 20 else if i = 4 then 99 else 0)
theorem olds_r0 (i : Int) : 0 ≤ olds 0 i ∧ olds 0 i ≤ 1 := by
  unfold olds; rw [if_pos rfl]; (repeat' split) <;> omega
theorem olds_r1 (i : Int) : 0 ≤ olds 1 i ∧ olds 1 i ≤ 99 := by
  unfold olds; rw [if_neg (by decide)]; (repeat' split) <;> omega
theorem EOK.at0 {E : mO × tW} (h : EOK E) {i : Int} (hi : 0 ≤ i ∧ i ≤ 4) : E.1.2 0 i = olds 0 i := by
  obtain ⟨-, -, h1, h2⟩ := h
  have h : i = 0 ∨ i = 1 ∨ i = 2 ∨ i = 3 ∨ i = 4 := by omega
  unfold olds
  rcases h with h | h | h | h | h <;> subst h <;> simp [h1]
theorem EOK.at1 {E : mO × tW} (h : EOK E) {i : Int} (hi : 0 ≤ i ∧ i ≤ 4) : E.1.2 1 i = olds 1 i := by
  obtain ⟨-, -, h1, h2⟩ := h
  have h : i = 0 ∨ i = 1 ∨ i = 2 ∨ i = 3 ∨ i = 4 := by omega
  unfold olds
  rcases h with h | h | h | h | h <;> subst h <;> simp [h2]
def g_13 (x0 : Int) (d : mD) : mD := g_51 (x0 + 1) (g_58 (x0 + 4) (mset (mset d x0 2 0) x0 3 ((-1))))
theorem k_13 {E : mO × tW} {K : tK} {d : mD} {x0 : Int} (hS : Safe d) (hx0 : ldB x0) (h : (∀ b : Int, (b < x0 ∨ x0 + 1 < b) ∧ (b < x0 + 4 ∨ x0 + 4 < b) ∧ (b < x0 + 6 ∨ x0 + 6 < b) ∧ (b < x0 + 14 ∨ x0 + 14 < b) ∧ (b < x0 + 53 ∨ x0 + 53 < b) ∧ (b < x0 + 61 ∨ x0 + 61 < b) → (g_13 x0 d) b = d b) → ((g_13 x0 d) (x0 + 4) 2 = 0) → Safe (g_13 x0 d) → K (.inl none) (g_13 x0 d)) : tCall E 13 [.inr (2, x0)] d K := by
  refine t_13_0 ?_
  have w8 := r_5_f2 hS (ldB.re hx0)
  have hS1 : Safe (mset d x0 2 0) := s_2_f2 hS hx0 (by omega)
  have hS2 : Safe (mset (mset d x0 2 0) x0 3 ((-1))) := s_2_f3 hS1 hx0 (by omega)
  refine k_58 hS2 (ldB.st hx0) (fun F1 n1_0 hS3 => ?_)
  refine t_13_17 ?_
  have w8 := r_5_f2 hS3 (ldB.re hx0)
  refine k_51 hS3 (ldB.re hx0) (fun F2 hS4 => ?_)
  refine t_13_24 ?_
  have w8 := r_5_f2 hS4 (ldB.re hx0)
  have q1 : (g_51 (x0 + 1) (g_58 (x0 + 4) (mset (mset d x0 2 0) x0 3 ((-1))))) (x0 + 4) 2 = (g_58 (x0 + 4) (mset (mset d x0 2 0) x0 3 ((-1)))) (x0 + 4) 2 := congrFun (F2 (x0 + 4) (by omega)) 2
  have y0 : g_13 x0 d = g_51 (x0 + 1) (g_58 (x0 + 4) (mset (mset d x0 2 0) x0 3 ((-1)))) := by simp only [g_13]
  rw [y0] at h
  exact h (show ∀ b : Int, (b < x0 ∨ x0 + 1 < b) ∧ (b < x0 + 4 ∨ x0 + 4 < b) ∧ (b < x0 + 6 ∨ x0 + 6 < b) ∧ (b < x0 + 14 ∨ x0 + 14 < b) ∧ (b < x0 + 53 ∨ x0 + 53 < b) ∧ (b < x0 + 61 ∨ x0 + 61 < b) → (g_51 (x0 + 1) (g_58 (x0 + 4) (mset (mset d x0 2 0) x0 3 ((-1))))) b = d b from fun b hb => (F2 b (by omega)).trans ((F1 b (by omega)).trans ((mset_ne (by omega)).trans (mset_ne (by omega))))) (show (g_51 (x0 + 1) (g_58 (x0 + 4) (mset (mset d x0 2 0) x0 3 ((-1))))) (x0 + 4) 2 = 0 by omega) hS4
def st_14_13 (x0 : Int) (r13 : Int → mD → Int × mD) (x1 : Int) (d : mD) : Int × mD := if x1 < 5 then (if v_25 x0 (olds 0 x1) (olds 1 x1) d = 0 then (0, g_25 x0 (olds 0 x1) (olds 1 x1) d) else r13 (x1 + 1) (mset (g_25 x0 (olds 0 x1) (olds 1 x1) d) (x0 + 4 + 1) x1 ((g_25 x0 (olds 0 x1) (olds 1 x1) d) x0 4))) else if v_25 x0 0 99999 d = 0 then (0, g_25 x0 0 99999 d) else (v_31 x0 (mset (g_25 x0 0 99999 d) (x0 + 4) 1 ((g_25 x0 0 99999 d) x0 4)), g_31 x0 (mset (g_25 x0 0 99999 d) (x0 + 4) 1 ((g_25 x0 0 99999 d) x0 4)))
def lp_14_13 (x0 : Int) : Nat → Int → mD → Int × mD
  | 0 => st_14_13 x0 (fun _ d => (0, d))
  | n + 1 => st_14_13 x0 (lp_14_13 x0 n)
theorem ls_14_13 {E : mO × tW} {K : tK} {x0 : Int} (hE : EOK E) (hW : W55 E) (hx0 : ldB x0) (N13 : Int) (r13 : Int → mD → Int × mD) (ih13 : ∀ (x1 : Int) (d : mD), Safe d → (0 ≤ x1 ∧ x1 ≤ 5) → (d (x0 + 4) 2 ≤ 999) → 0 ≤ 5 - x1 → 5 - x1 < N13 → ((0 ≤ (r13 x1 d).1 ∧ (r13 x1 d).1 ≤ 1) → (∀ b : Int, (b < x0 ∨ x0 + 1 < b) ∧ (b < x0 + 4 ∨ x0 + 5 < b) → (r13 x1 d).2 b = d b) → ((r13 x1 d).2 (x0 + 4) 2 ≤ 999) → Safe (r13 x1 d).2 → K (.inl (some (0, (r13 x1 d).1))) (r13 x1 d).2) → tRun E 14 (13, [.inr (2, x0), .inl (0, x1)], [], 0, 0, d) K) (x1 : Int) (d : mD) (hS : Safe d) (i0 : 0 ≤ x1 ∧ x1 ≤ 5) (i1 : d (x0 + 4) 2 ≤ 999) (hm : 5 - x1 ≤ N13) (h : (0 ≤ (st_14_13 x0 r13 x1 d).1 ∧ (st_14_13 x0 r13 x1 d).1 ≤ 1) → (∀ b : Int, (b < x0 ∨ x0 + 1 < b) ∧ (b < x0 + 4 ∨ x0 + 5 < b) → (st_14_13 x0 r13 x1 d).2 b = d b) → ((st_14_13 x0 r13 x1 d).2 (x0 + 4) 2 ≤ 999) → Safe (st_14_13 x0 r13 x1 d).2 → K (.inl (some (0, (st_14_13 x0 r13 x1 d).1))) (st_14_13 x0 r13 x1 d).2) : tRun E 14 (13, [.inr (2, x0), .inl (0, x1)], [], 0, 0, d) K := by
  refine t_14_13 ?_
  have w8 := r_5_f2 hS (ldB.re hx0)
  refine ⟨⟨m_inR (by omega) (by omega), m_inR (by omega) (by omega)⟩, fun c0 => ?_, fun c0 => ?_⟩
  · refine k_25 hS hx0 (by omega) (by omega) (fun e1 F1 k1_0 k1_1 k1_2 n1_0 hS1 => ?_)
    refine t_14_63 ?_
    have w8 := r_5_f2 hS1 (ldB.re hx0)
    refine ⟨m_inR (by omega) (by omega), fun c1 => ?_, fun c1 => ?_⟩
    · have q1 := r_2_f4 hS1 hx0
      have hS2 : Safe (mset (g_25 x0 0 99999 d) (x0 + 4) 1 ((g_25 x0 0 99999 d) x0 4)) := s_6_f1 hS1 (ldB.st hx0) (by omega)
      refine k_31 hS2 hx0 (fun e2 F2 k2_0 k2_1 k2_2 k2_3 hS3 => ?_)
      refine t_14_83 ?_
      have w8 := r_5_f2 hS3 (ldB.re hx0)
      refine ⟨by omega, ?_⟩
      have q2 : (g_31 x0 (mset (g_25 x0 0 99999 d) (x0 + 4) 1 ((g_25 x0 0 99999 d) x0 4))) (x0 + 4) 2 = d (x0 + 4) 2 := ((k2_3).trans (mset_ni (by omega))).trans (k1_2)
      have y0 : st_14_13 x0 r13 x1 d = (v_31 x0 (mset (g_25 x0 0 99999 d) (x0 + 4) 1 ((g_25 x0 0 99999 d) x0 4)), g_31 x0 (mset (g_25 x0 0 99999 d) (x0 + 4) 1 ((g_25 x0 0 99999 d) x0 4))) := by simp only [st_14_13, if_neg (show ¬ x1 < 5 from Int.not_lt.mpr c0), if_neg (show ¬ v_25 x0 0 99999 d = 0 from c1)]
      rw [y0] at h
      exact h (show 0 ≤ (v_31 x0 (mset (g_25 x0 0 99999 d) (x0 + 4) 1 ((g_25 x0 0 99999 d) x0 4))) ∧ (v_31 x0 (mset (g_25 x0 0 99999 d) (x0 + 4) 1 ((g_25 x0 0 99999 d) x0 4))) ≤ 1 from (by omega)) (show ∀ b : Int, (b < x0 ∨ x0 + 1 < b) ∧ (b < x0 + 4 ∨ x0 + 5 < b) → (g_31 x0 (mset (g_25 x0 0 99999 d) (x0 + 4) 1 ((g_25 x0 0 99999 d) x0 4))) b = d b from fun b hb => (F2 b (by omega)).trans ((mset_ne (by omega)).trans (F1 b (by omega)))) (show (g_31 x0 (mset (g_25 x0 0 99999 d) (x0 + 4) 1 ((g_25 x0 0 99999 d) x0 4))) (x0 + 4) 2 ≤ 999 by omega) hS3
    · refine ⟨by omega, ?_⟩
      have q3 : (g_25 x0 0 99999 d) (x0 + 4) 2 = d (x0 + 4) 2 := k1_2
      have y0 : st_14_13 x0 r13 x1 d = (0, g_25 x0 0 99999 d) := by simp only [st_14_13, if_neg (show ¬ x1 < 5 from Int.not_lt.mpr c0), if_pos (show v_25 x0 0 99999 d = 0 from c1)]
      rw [y0] at h
      exact h (show 0 ≤ ((0 : Int)) ∧ ((0 : Int)) ≤ 1 from (by omega)) (show ∀ b : Int, (b < x0 ∨ x0 + 1 < b) ∧ (b < x0 + 4 ∨ x0 + 5 < b) → (g_25 x0 0 99999 d) b = d b from fun b hb => F1 b (by omega)) (show (g_25 x0 0 99999 d) (x0 + 4) 2 ≤ 999 by omega) hS1
  · try rw [EOK.at0 hE (i := x1) (by omega)]
    try rw [EOK.at1 hE (i := x1) (by omega)]
    refine ⟨(by have := hE.1; have := hE.2.1; omega), (by have := hE.1; have := hE.2.1; omega), ?_⟩
    have q4 := olds_r0 x1
    have q5 := olds_r1 x1
    refine k_25 hS hx0 (by omega) (by omega) (fun e3 F3 k3_0 k3_1 k3_2 n3_0 hS4 => ?_)
    refine t_14_32 ?_
    have w8 := r_5_f2 hS4 (ldB.re hx0)
    refine ⟨m_inR (by omega) (by omega), fun c1 => ?_, fun c1 => ?_⟩
    · have q6 := r_2_f4 hS4 hx0
      refine ⟨by omega, ?_⟩
      have hS5 : Safe (mset (g_25 x0 (olds 0 x1) (olds 1 x1) d) (x0 + 4 + 1) x1 ((g_25 x0 (olds 0 x1) (olds 1 x1) d) x0 4)) := s_6_1 hS4 (ldB.st hx0) (by omega)
      have q7 : (mset (g_25 x0 (olds 0 x1) (olds 1 x1) d) (x0 + 4 + 1) x1 ((g_25 x0 (olds 0 x1) (olds 1 x1) d) x0 4)) (x0 + 4) 2 = d (x0 + 4) 2 := (congrFun (mset_ne (by omega)) 2).trans (k3_2)
      refine ih13 (x1 + 1)  (mset (g_25 x0 (olds 0 x1) (olds 1 x1) d) (x0 + 4 + 1) x1 ((g_25 x0 (olds 0 x1) (olds 1 x1) d) x0 4)) hS5 (by omega) (by omega) (by omega) (by omega) ?_
      intro e F n0 hS_
      have y0 : st_14_13 x0 r13 x1 d = r13 (x1 + 1) (mset (g_25 x0 (olds 0 x1) (olds 1 x1) d) (x0 + 4 + 1) x1 ((g_25 x0 (olds 0 x1) (olds 1 x1) d) x0 4)) := by simp only [st_14_13, if_pos (show x1 < 5 from c0), if_neg (show ¬ v_25 x0 (olds 0 x1) (olds 1 x1) d = 0 from c1)]
      rw [y0] at h
      exact h e (fun b hb => (F b hb).trans ((show ∀ b : Int, (b < x0 ∨ x0 + 1 < b) ∧ (b < x0 + 4 ∨ x0 + 5 < b) → (mset (g_25 x0 (olds 0 x1) (olds 1 x1) d) (x0 + 4 + 1) x1 ((g_25 x0 (olds 0 x1) (olds 1 x1) d) x0 4)) b = d b from fun b hb => (mset_ne (by omega)).trans (F3 b (by omega))) b hb)) (by omega) hS_
    · refine ⟨by omega, ?_⟩
      have q8 : (g_25 x0 (olds 0 x1) (olds 1 x1) d) (x0 + 4) 2 = d (x0 + 4) 2 := k3_2
      have y0 : st_14_13 x0 r13 x1 d = (0, g_25 x0 (olds 0 x1) (olds 1 x1) d) := by simp only [st_14_13, if_pos (show x1 < 5 from c0), if_pos (show v_25 x0 (olds 0 x1) (olds 1 x1) d = 0 from c1)]
      rw [y0] at h
      exact h (show 0 ≤ ((0 : Int)) ∧ ((0 : Int)) ≤ 1 from (by omega)) (show ∀ b : Int, (b < x0 ∨ x0 + 1 < b) ∧ (b < x0 + 4 ∨ x0 + 5 < b) → (g_25 x0 (olds 0 x1) (olds 1 x1) d) b = d b from fun b hb => F3 b (by omega)) (show (g_25 x0 (olds 0 x1) (olds 1 x1) d) (x0 + 4) 2 ≤ 999 by omega) hS4
theorem l_14_13 {E : mO × tW} {K : tK} {x0 : Int} (hE : EOK E) (hW : W55 E) (hx0 : ldB x0) : ∀ (n : Nat) (x1 : Int) (d : mD), Safe d → (0 ≤ x1 ∧ x1 ≤ 5) → (d (x0 + 4) 2 ≤ 999) → 5 - x1 ≤ (n : Int) → ((0 ≤ (lp_14_13 x0 n x1 d).1 ∧ (lp_14_13 x0 n x1 d).1 ≤ 1) → (∀ b : Int, (b < x0 ∨ x0 + 1 < b) ∧ (b < x0 + 4 ∨ x0 + 5 < b) → (lp_14_13 x0 n x1 d).2 b = d b) → ((lp_14_13 x0 n x1 d).2 (x0 + 4) 2 ≤ 999) → Safe (lp_14_13 x0 n x1 d).2 → K (.inl (some (0, (lp_14_13 x0 n x1 d).1))) (lp_14_13 x0 n x1 d).2) → tRun E 14 (13, [.inr (2, x0), .inl (0, x1)], [], 0, 0, d) K := by
  intro n
  induction n with
  | zero =>
    intro x1  d hS i0 i1 hm  h
    exact ls_14_13 hE hW hx0 0 _ (fun _  _ _ _ _ m0 m1 _ => absurd m1 (by omega)) x1  d hS i0 i1 hm  h
  | succ n ih =>
    intro x1  d hS i0 i1 hm  h
    exact ls_14_13 hE hW hx0 ((n + 1 : Nat) : Int) _ (fun x1  d hS i0 i1  m0 m1 h => ih x1  d hS i0 i1 (by omega)  h) x1  d hS i0 i1 hm  h
def f_14 (x0 : Int) (d : mD) : Int × mD := if v_24 x0 0 d = 0 then (0, g_24 x0 0 d) else lp_14_13 x0 (5 - 0 : Int).toNat 0 (g_24 x0 0 d)
def v_14 (x0 : Int) (d : mD) : Int := (f_14 x0 d).1
def g_14 (x0 : Int) (d : mD) : mD := (f_14 x0 d).2
theorem k_14 {E : mO × tW} {K : tK} {d : mD} {x0 : Int} (hE : EOK E) (hW : W55 E) (hS : Safe d) (hx0 : ldB x0) (ht : d (x0 + 4) 2 ≤ 999) (h : (0 ≤ (v_14 x0 d) ∧ (v_14 x0 d) ≤ 1) → (∀ b : Int, (b < x0 ∨ x0 + 1 < b) ∧ (b < x0 + 4 ∨ x0 + 5 < b) → (g_14 x0 d) b = d b) → ((g_14 x0 d) (x0 + 4) 2 ≤ 999) → Safe (g_14 x0 d) → K (.inl (some (0, (v_14 x0 d)))) (g_14 x0 d)) : tCall E 14 [.inr (2, x0)] d K := by
  simp only [v_14, g_14] at h
  refine t_14_0 ?_
  have w8 := r_5_f2 hS (ldB.re hx0)
  refine k_24 hW hS hx0 (by omega) (fun e4 F4 k4_0 k4_1 k4_2 k4_3 hS6 => ?_)
  refine t_14_6 ?_
  have w8 := r_5_f2 hS6 (ldB.re hx0)
  refine ⟨m_inR (by omega) (by omega), fun c0 => ?_, fun c0 => ?_⟩
  · have q9 : (g_24 x0 0 d) (x0 + 4) 2 = d (x0 + 4) 2 := k4_3
    refine l_14_13 hE hW hx0 (5 - 0 : Int).toNat 0  (g_24 x0 0 d) hS6 (by omega) (by omega) (by omega) ?_
    intro e F n0 hS_
    have y0 : f_14 x0 d = lp_14_13 x0 (5 - 0 : Int).toNat 0 (g_24 x0 0 d) := by simp only [f_14, if_neg (show ¬ v_24 x0 0 d = 0 from c0)]
    rw [y0] at h
    exact h e (fun b hb => (F b hb).trans ((show ∀ b : Int, (b < x0 ∨ x0 + 1 < b) ∧ (b < x0 + 4 ∨ x0 + 5 < b) → (g_24 x0 0 d) b = d b from fun b hb => F4 b (by omega)) b hb)) (by omega) hS_
  · refine ⟨by omega, ?_⟩
    have q10 : (g_24 x0 0 d) (x0 + 4) 2 = d (x0 + 4) 2 := k4_3
    have y0 : f_14 x0 d = (0, g_24 x0 0 d) := by simp only [f_14, if_pos (show v_24 x0 0 d = 0 from c0)]
    rw [y0] at h
    exact h (show 0 ≤ ((0 : Int)) ∧ ((0 : Int)) ≤ 1 from (by omega)) (show ∀ b : Int, (b < x0 ∨ x0 + 1 < b) ∧ (b < x0 + 4 ∨ x0 + 5 < b) → (g_24 x0 0 d) b = d b from fun b hb => F4 b (by omega)) (show (g_24 x0 0 d) (x0 + 4) 2 ≤ 999 by omega) hS6
def v_16 (x0 : Int) (d : mD) : Int := if d (x0 + 4 + 2) 0 < 6 then (if v_56 (x0 + 1) (g_52 (x0 + 1) d) = (-1) then (if v_26 x0 (g_52 (x0 + 1) d) = 0 then 0 else if v_25 x0 1 4 (g_26 x0 (g_52 (x0 + 1) d)) = 0 then 0 else if v_25 x0 1 6 (g_25 x0 1 4 (g_26 x0 (g_52 (x0 + 1) d))) = 0 then 0 else if v_25 x0 1 20 (g_25 x0 1 6 (g_25 x0 1 4 (g_26 x0 (g_52 (x0 + 1) d)))) = 0 then 0 else if v_31 x0 (g_25 x0 1 20 (g_25 x0 1 6 (g_25 x0 1 4 (g_26 x0 (g_52 (x0 + 1) d))))) = 0 then 0 else 1) else if v_36 (x0 + 4 + 2) (v_56 (x0 + 1) (g_52 (x0 + 1) d)) (g_52 (x0 + 1) d) = (-1) then (if v_26 x0 (g_52 (x0 + 1) d) = 0 then 0 else if v_25 x0 1 4 (g_26 x0 (g_52 (x0 + 1) d)) = 0 then 0 else if v_25 x0 1 6 (g_25 x0 1 4 (g_26 x0 (g_52 (x0 + 1) d))) = 0 then 0 else if v_25 x0 1 20 (g_25 x0 1 6 (g_25 x0 1 4 (g_26 x0 (g_52 (x0 + 1) d)))) = 0 then 0 else if v_31 x0 (g_25 x0 1 20 (g_25 x0 1 6 (g_25 x0 1 4 (g_26 x0 (g_52 (x0 + 1) d))))) = 0 then 0 else 1) else v_32 x0 3 (g_52 (x0 + 1) d)) else v_32 x0 5 d
def g_16 (x0 : Int) (d : mD) : mD := if d (x0 + 4 + 2) 0 < 6 then (if v_56 (x0 + 1) (g_52 (x0 + 1) d) = (-1) then (if v_26 x0 (g_52 (x0 + 1) d) = 0 then g_26 x0 (g_52 (x0 + 1) d) else if v_25 x0 1 4 (g_26 x0 (g_52 (x0 + 1) d)) = 0 then g_25 x0 1 4 (g_26 x0 (g_52 (x0 + 1) d)) else if v_25 x0 1 6 (g_25 x0 1 4 (g_26 x0 (g_52 (x0 + 1) d))) = 0 then g_25 x0 1 6 (g_25 x0 1 4 (g_26 x0 (g_52 (x0 + 1) d))) else if v_25 x0 1 20 (g_25 x0 1 6 (g_25 x0 1 4 (g_26 x0 (g_52 (x0 + 1) d)))) = 0 then g_25 x0 1 20 (g_25 x0 1 6 (g_25 x0 1 4 (g_26 x0 (g_52 (x0 + 1) d)))) else if v_31 x0 (g_25 x0 1 20 (g_25 x0 1 6 (g_25 x0 1 4 (g_26 x0 (g_52 (x0 + 1) d))))) = 0 then g_31 x0 (g_25 x0 1 20 (g_25 x0 1 6 (g_25 x0 1 4 (g_26 x0 (g_52 (x0 + 1) d))))) else g_35 (x0 + 4 + 2) ((g_26 x0 (g_52 (x0 + 1) d)) x0 5) ((g_25 x0 1 4 (g_26 x0 (g_52 (x0 + 1) d))) x0 4) ((g_25 x0 1 6 (g_25 x0 1 4 (g_26 x0 (g_52 (x0 + 1) d)))) x0 4) ((g_25 x0 1 20 (g_25 x0 1 6 (g_25 x0 1 4 (g_26 x0 (g_52 (x0 + 1) d))))) x0 4) (g_31 x0 (g_25 x0 1 20 (g_25 x0 1 6 (g_25 x0 1 4 (g_26 x0 (g_52 (x0 + 1) d))))))) else if v_36 (x0 + 4 + 2) (v_56 (x0 + 1) (g_52 (x0 + 1) d)) (g_52 (x0 + 1) d) = (-1) then (if v_26 x0 (g_52 (x0 + 1) d) = 0 then g_26 x0 (g_52 (x0 + 1) d) else if v_25 x0 1 4 (g_26 x0 (g_52 (x0 + 1) d)) = 0 then g_25 x0 1 4 (g_26 x0 (g_52 (x0 + 1) d)) else if v_25 x0 1 6 (g_25 x0 1 4 (g_26 x0 (g_52 (x0 + 1) d))) = 0 then g_25 x0 1 6 (g_25 x0 1 4 (g_26 x0 (g_52 (x0 + 1) d))) else if v_25 x0 1 20 (g_25 x0 1 6 (g_25 x0 1 4 (g_26 x0 (g_52 (x0 + 1) d)))) = 0 then g_25 x0 1 20 (g_25 x0 1 6 (g_25 x0 1 4 (g_26 x0 (g_52 (x0 + 1) d)))) else if v_31 x0 (g_25 x0 1 20 (g_25 x0 1 6 (g_25 x0 1 4 (g_26 x0 (g_52 (x0 + 1) d))))) = 0 then g_31 x0 (g_25 x0 1 20 (g_25 x0 1 6 (g_25 x0 1 4 (g_26 x0 (g_52 (x0 + 1) d))))) else g_35 (x0 + 4 + 2) ((g_26 x0 (g_52 (x0 + 1) d)) x0 5) ((g_25 x0 1 4 (g_26 x0 (g_52 (x0 + 1) d))) x0 4) ((g_25 x0 1 6 (g_25 x0 1 4 (g_26 x0 (g_52 (x0 + 1) d)))) x0 4) ((g_25 x0 1 20 (g_25 x0 1 6 (g_25 x0 1 4 (g_26 x0 (g_52 (x0 + 1) d))))) x0 4) (g_31 x0 (g_25 x0 1 20 (g_25 x0 1 6 (g_25 x0 1 4 (g_26 x0 (g_52 (x0 + 1) d))))))) else g_32 x0 3 (g_52 (x0 + 1) d)) else g_32 x0 5 d
theorem k_16 {E : mO × tW} {K : tK} {d : mD} {x0 : Int} (hS : Safe d) (hx0 : ldB x0) (ht : d (x0 + 4) 2 ≤ 999) (h : (0 ≤ (v_16 x0 d) ∧ (v_16 x0 d) ≤ 1) → (∀ b : Int, (b < x0 ∨ x0 + 1 < b) ∧ (b < x0 + 6 ∨ x0 + 12 < b) → (g_16 x0 d) b = d b) → ((g_16 x0 d) (x0 + 4) 2 ≤ 999) → Safe (g_16 x0 d) → K (.inl (some (0, (v_16 x0 d)))) (g_16 x0 d)) : tCall E 16 [.inr (2, x0)] d K := by
  refine t_16_0 ?_
  have w8 := r_5_f2 hS (ldB.re hx0)
  have q1 := r_3_f0 hS (stB.of (ldB.st hx0))
  refine ⟨⟨m_inR (by omega) (by omega), m_inR (by omega) (by omega)⟩, fun c0 => ?_, fun c0 => ?_⟩
  · refine k_52 hS (ldB.re hx0) (fun F1 hS1 => ?_)
    refine t_16_30 ?_
    have w8 := r_5_f2 hS1 (ldB.re hx0)
    refine k_56 hS1 (ldB.re hx0) (fun e1 => ?_)
    refine t_16_37 ?_
    have w8 := r_5_f2 hS1 (ldB.re hx0)
    refine ⟨⟨m_inR (by omega) (by omega), m_inR (by omega) (by omega)⟩, fun c1 => ?_, fun c1 => ?_⟩
    · refine k_26 hS1 hx0 (fun e2 F2 k2_0 k2_1 k2_2 n2_0 hS2 => ?_)
      refine t_16_66 ?_
      have w8 := r_5_f2 hS2 (ldB.re hx0)
      refine ⟨m_inR (by omega) (by omega), fun c2 => ?_, fun c2 => ?_⟩
      · refine k_25 hS2 hx0 (by omega) (by omega) (fun e3 F3 k3_0 k3_1 k3_2 n3_0 hS3 => ?_)
        refine t_16_82 ?_
        have w8 := r_5_f2 hS3 (ldB.re hx0)
        refine ⟨m_inR (by omega) (by omega), fun c3 => ?_, fun c3 => ?_⟩
        · refine k_25 hS3 hx0 (by omega) (by omega) (fun e4 F4 k4_0 k4_1 k4_2 n4_0 hS4 => ?_)
          refine t_16_99 ?_
          have w8 := r_5_f2 hS4 (ldB.re hx0)
          refine ⟨m_inR (by omega) (by omega), fun c4 => ?_, fun c4 => ?_⟩
          · refine k_25 hS4 hx0 (by omega) (by omega) (fun e5 F5 k5_0 k5_1 k5_2 n5_0 hS5 => ?_)
            refine t_16_117 ?_
            have w8 := r_5_f2 hS5 (ldB.re hx0)
            refine ⟨m_inR (by omega) (by omega), fun c5 => ?_, fun c5 => ?_⟩
            · refine ⟨by omega, ?_⟩
              have q2 : (g_25 x0 1 20 (g_25 x0 1 6 (g_25 x0 1 4 (g_26 x0 (g_52 (x0 + 1) d))))) (x0 + 4) 2 = d (x0 + 4) 2 := ((((k5_2).trans (k4_2)).trans (k3_2)).trans (k2_2)).trans (congrFun (F1 (x0 + 4) (by omega)) 2)
              have y0 : v_16 x0 d = 0 := by simp only [v_16, if_pos (show d (x0 + 4 + 2) 0 < 6 from c0), if_pos (show v_56 (x0 + 1) (g_52 (x0 + 1) d) = (-1) from c1), if_neg (show ¬ v_26 x0 (g_52 (x0 + 1) d) = 0 from c2), if_neg (show ¬ v_25 x0 1 4 (g_26 x0 (g_52 (x0 + 1) d)) = 0 from c3), if_neg (show ¬ v_25 x0 1 6 (g_25 x0 1 4 (g_26 x0 (g_52 (x0 + 1) d))) = 0 from c4), if_pos (show v_25 x0 1 20 (g_25 x0 1 6 (g_25 x0 1 4 (g_26 x0 (g_52 (x0 + 1) d)))) = 0 from c5)]
              have y1 : g_16 x0 d = g_25 x0 1 20 (g_25 x0 1 6 (g_25 x0 1 4 (g_26 x0 (g_52 (x0 + 1) d)))) := by simp only [g_16, if_pos (show d (x0 + 4 + 2) 0 < 6 from c0), if_pos (show v_56 (x0 + 1) (g_52 (x0 + 1) d) = (-1) from c1), if_neg (show ¬ v_26 x0 (g_52 (x0 + 1) d) = 0 from c2), if_neg (show ¬ v_25 x0 1 4 (g_26 x0 (g_52 (x0 + 1) d)) = 0 from c3), if_neg (show ¬ v_25 x0 1 6 (g_25 x0 1 4 (g_26 x0 (g_52 (x0 + 1) d))) = 0 from c4), if_pos (show v_25 x0 1 20 (g_25 x0 1 6 (g_25 x0 1 4 (g_26 x0 (g_52 (x0 + 1) d)))) = 0 from c5)]
              rw [y0] at h
              rw [y1] at h
              exact h (show 0 ≤ ((0 : Int)) ∧ ((0 : Int)) ≤ 1 from (by omega)) (show ∀ b : Int, (b < x0 ∨ x0 + 1 < b) ∧ (b < x0 + 6 ∨ x0 + 12 < b) → (g_25 x0 1 20 (g_25 x0 1 6 (g_25 x0 1 4 (g_26 x0 (g_52 (x0 + 1) d))))) b = d b from fun b hb => (F5 b (by omega)).trans ((F4 b (by omega)).trans ((F3 b (by omega)).trans ((F2 b (by omega)).trans (F1 b (by omega)))))) (show (g_25 x0 1 20 (g_25 x0 1 6 (g_25 x0 1 4 (g_26 x0 (g_52 (x0 + 1) d))))) (x0 + 4) 2 ≤ 999 by omega) hS5
            · refine k_31 hS5 hx0 (fun e6 F6 k6_0 k6_1 k6_2 k6_3 hS6 => ?_)
              refine t_16_124 ?_
              have w8 := r_5_f2 hS6 (ldB.re hx0)
              refine ⟨m_inR (by omega) (by omega), fun c6 => ?_, fun c6 => ?_⟩
              · try rw [k6_0]
                have q3 := r_2_f5 hS2 hx0
                have q4 := r_2_f4 hS3 hx0
                have q5 := r_2_f4 hS4 hx0
                have q6 := r_2_f4 hS5 hx0
                refine k_35 hS6 (stB.of (ldB.st hx0)) (by omega) (by omega) (by omega) (by omega) (fun F7 hS7 => ?_)
                refine t_16_141 ?_
                have w8 := r_5_f2 hS7 (ldB.re hx0)
                refine ⟨by omega, ?_⟩
                have q7 : (g_35 (x0 + 4 + 2) ((g_26 x0 (g_52 (x0 + 1) d)) x0 5) ((g_25 x0 1 4 (g_26 x0 (g_52 (x0 + 1) d))) x0 4) ((g_25 x0 1 6 (g_25 x0 1 4 (g_26 x0 (g_52 (x0 + 1) d)))) x0 4) ((g_25 x0 1 20 (g_25 x0 1 6 (g_25 x0 1 4 (g_26 x0 (g_52 (x0 + 1) d))))) x0 4) (g_31 x0 (g_25 x0 1 20 (g_25 x0 1 6 (g_25 x0 1 4 (g_26 x0 (g_52 (x0 + 1) d))))))) (x0 + 4) 2 = d (x0 + 4) 2 := ((((((congrFun (F7 (x0 + 4) (by omega)) 2).trans (k6_3)).trans (k5_2)).trans (k4_2)).trans (k3_2)).trans (k2_2)).trans (congrFun (F1 (x0 + 4) (by omega)) 2)
                have y0 : v_16 x0 d = 1 := by simp only [v_16, if_pos (show d (x0 + 4 + 2) 0 < 6 from c0), if_pos (show v_56 (x0 + 1) (g_52 (x0 + 1) d) = (-1) from c1), if_neg (show ¬ v_26 x0 (g_52 (x0 + 1) d) = 0 from c2), if_neg (show ¬ v_25 x0 1 4 (g_26 x0 (g_52 (x0 + 1) d)) = 0 from c3), if_neg (show ¬ v_25 x0 1 6 (g_25 x0 1 4 (g_26 x0 (g_52 (x0 + 1) d))) = 0 from c4), if_neg (show ¬ v_25 x0 1 20 (g_25 x0 1 6 (g_25 x0 1 4 (g_26 x0 (g_52 (x0 + 1) d)))) = 0 from c5), if_neg (show ¬ v_31 x0 (g_25 x0 1 20 (g_25 x0 1 6 (g_25 x0 1 4 (g_26 x0 (g_52 (x0 + 1) d))))) = 0 from c6)]
                have y1 : g_16 x0 d = g_35 (x0 + 4 + 2) ((g_26 x0 (g_52 (x0 + 1) d)) x0 5) ((g_25 x0 1 4 (g_26 x0 (g_52 (x0 + 1) d))) x0 4) ((g_25 x0 1 6 (g_25 x0 1 4 (g_26 x0 (g_52 (x0 + 1) d)))) x0 4) ((g_25 x0 1 20 (g_25 x0 1 6 (g_25 x0 1 4 (g_26 x0 (g_52 (x0 + 1) d))))) x0 4) (g_31 x0 (g_25 x0 1 20 (g_25 x0 1 6 (g_25 x0 1 4 (g_26 x0 (g_52 (x0 + 1) d)))))) := by simp only [g_16, if_pos (show d (x0 + 4 + 2) 0 < 6 from c0), if_pos (show v_56 (x0 + 1) (g_52 (x0 + 1) d) = (-1) from c1), if_neg (show ¬ v_26 x0 (g_52 (x0 + 1) d) = 0 from c2), if_neg (show ¬ v_25 x0 1 4 (g_26 x0 (g_52 (x0 + 1) d)) = 0 from c3), if_neg (show ¬ v_25 x0 1 6 (g_25 x0 1 4 (g_26 x0 (g_52 (x0 + 1) d))) = 0 from c4), if_neg (show ¬ v_25 x0 1 20 (g_25 x0 1 6 (g_25 x0 1 4 (g_26 x0 (g_52 (x0 + 1) d)))) = 0 from c5), if_neg (show ¬ v_31 x0 (g_25 x0 1 20 (g_25 x0 1 6 (g_25 x0 1 4 (g_26 x0 (g_52 (x0 + 1) d))))) = 0 from c6)]
                rw [y0] at h
                rw [y1] at h
                exact h (show 0 ≤ ((1 : Int)) ∧ ((1 : Int)) ≤ 1 from (by omega)) (show ∀ b : Int, (b < x0 ∨ x0 + 1 < b) ∧ (b < x0 + 6 ∨ x0 + 12 < b) → (g_35 (x0 + 4 + 2) ((g_26 x0 (g_52 (x0 + 1) d)) x0 5) ((g_25 x0 1 4 (g_26 x0 (g_52 (x0 + 1) d))) x0 4) ((g_25 x0 1 6 (g_25 x0 1 4 (g_26 x0 (g_52 (x0 + 1) d)))) x0 4) ((g_25 x0 1 20 (g_25 x0 1 6 (g_25 x0 1 4 (g_26 x0 (g_52 (x0 + 1) d))))) x0 4) (g_31 x0 (g_25 x0 1 20 (g_25 x0 1 6 (g_25 x0 1 4 (g_26 x0 (g_52 (x0 + 1) d))))))) b = d b from fun b hb => (F7 b (by omega)).trans ((F6 b (by omega)).trans ((F5 b (by omega)).trans ((F4 b (by omega)).trans ((F3 b (by omega)).trans ((F2 b (by omega)).trans (F1 b (by omega)))))))) (show (g_35 (x0 + 4 + 2) ((g_26 x0 (g_52 (x0 + 1) d)) x0 5) ((g_25 x0 1 4 (g_26 x0 (g_52 (x0 + 1) d))) x0 4) ((g_25 x0 1 6 (g_25 x0 1 4 (g_26 x0 (g_52 (x0 + 1) d)))) x0 4) ((g_25 x0 1 20 (g_25 x0 1 6 (g_25 x0 1 4 (g_26 x0 (g_52 (x0 + 1) d))))) x0 4) (g_31 x0 (g_25 x0 1 20 (g_25 x0 1 6 (g_25 x0 1 4 (g_26 x0 (g_52 (x0 + 1) d))))))) (x0 + 4) 2 ≤ 999 by omega) hS7
              · refine ⟨by omega, ?_⟩
                have q8 : (g_31 x0 (g_25 x0 1 20 (g_25 x0 1 6 (g_25 x0 1 4 (g_26 x0 (g_52 (x0 + 1) d)))))) (x0 + 4) 2 = d (x0 + 4) 2 := (((((k6_3).trans (k5_2)).trans (k4_2)).trans (k3_2)).trans (k2_2)).trans (congrFun (F1 (x0 + 4) (by omega)) 2)
                have y0 : v_16 x0 d = 0 := by simp only [v_16, if_pos (show d (x0 + 4 + 2) 0 < 6 from c0), if_pos (show v_56 (x0 + 1) (g_52 (x0 + 1) d) = (-1) from c1), if_neg (show ¬ v_26 x0 (g_52 (x0 + 1) d) = 0 from c2), if_neg (show ¬ v_25 x0 1 4 (g_26 x0 (g_52 (x0 + 1) d)) = 0 from c3), if_neg (show ¬ v_25 x0 1 6 (g_25 x0 1 4 (g_26 x0 (g_52 (x0 + 1) d))) = 0 from c4), if_neg (show ¬ v_25 x0 1 20 (g_25 x0 1 6 (g_25 x0 1 4 (g_26 x0 (g_52 (x0 + 1) d)))) = 0 from c5), if_pos (show v_31 x0 (g_25 x0 1 20 (g_25 x0 1 6 (g_25 x0 1 4 (g_26 x0 (g_52 (x0 + 1) d))))) = 0 from c6)]
                have y1 : g_16 x0 d = g_31 x0 (g_25 x0 1 20 (g_25 x0 1 6 (g_25 x0 1 4 (g_26 x0 (g_52 (x0 + 1) d))))) := by simp only [g_16, if_pos (show d (x0 + 4 + 2) 0 < 6 from c0), if_pos (show v_56 (x0 + 1) (g_52 (x0 + 1) d) = (-1) from c1), if_neg (show ¬ v_26 x0 (g_52 (x0 + 1) d) = 0 from c2), if_neg (show ¬ v_25 x0 1 4 (g_26 x0 (g_52 (x0 + 1) d)) = 0 from c3), if_neg (show ¬ v_25 x0 1 6 (g_25 x0 1 4 (g_26 x0 (g_52 (x0 + 1) d))) = 0 from c4), if_neg (show ¬ v_25 x0 1 20 (g_25 x0 1 6 (g_25 x0 1 4 (g_26 x0 (g_52 (x0 + 1) d)))) = 0 from c5), if_pos (show v_31 x0 (g_25 x0 1 20 (g_25 x0 1 6 (g_25 x0 1 4 (g_26 x0 (g_52 (x0 + 1) d))))) = 0 from c6)]
                rw [y0] at h
                rw [y1] at h
                exact h (show 0 ≤ ((0 : Int)) ∧ ((0 : Int)) ≤ 1 from (by omega)) (show ∀ b : Int, (b < x0 ∨ x0 + 1 < b) ∧ (b < x0 + 6 ∨ x0 + 12 < b) → (g_31 x0 (g_25 x0 1 20 (g_25 x0 1 6 (g_25 x0 1 4 (g_26 x0 (g_52 (x0 + 1) d)))))) b = d b from fun b hb => (F6 b (by omega)).trans ((F5 b (by omega)).trans ((F4 b (by omega)).trans ((F3 b (by omega)).trans ((F2 b (by omega)).trans (F1 b (by omega))))))) (show (g_31 x0 (g_25 x0 1 20 (g_25 x0 1 6 (g_25 x0 1 4 (g_26 x0 (g_52 (x0 + 1) d)))))) (x0 + 4) 2 ≤ 999 by omega) hS6
          · refine ⟨by omega, ?_⟩
            have q9 : (g_25 x0 1 6 (g_25 x0 1 4 (g_26 x0 (g_52 (x0 + 1) d)))) (x0 + 4) 2 = d (x0 + 4) 2 := (((k4_2).trans (k3_2)).trans (k2_2)).trans (congrFun (F1 (x0 + 4) (by omega)) 2)
            have y0 : v_16 x0 d = 0 := by simp only [v_16, if_pos (show d (x0 + 4 + 2) 0 < 6 from c0), if_pos (show v_56 (x0 + 1) (g_52 (x0 + 1) d) = (-1) from c1), if_neg (show ¬ v_26 x0 (g_52 (x0 + 1) d) = 0 from c2), if_neg (show ¬ v_25 x0 1 4 (g_26 x0 (g_52 (x0 + 1) d)) = 0 from c3), if_pos (show v_25 x0 1 6 (g_25 x0 1 4 (g_26 x0 (g_52 (x0 + 1) d))) = 0 from c4)]
            have y1 : g_16 x0 d = g_25 x0 1 6 (g_25 x0 1 4 (g_26 x0 (g_52 (x0 + 1) d))) := by simp only [g_16, if_pos (show d (x0 + 4 + 2) 0 < 6 from c0), if_pos (show v_56 (x0 + 1) (g_52 (x0 + 1) d) = (-1) from c1), if_neg (show ¬ v_26 x0 (g_52 (x0 + 1) d) = 0 from c2), if_neg (show ¬ v_25 x0 1 4 (g_26 x0 (g_52 (x0 + 1) d)) = 0 from c3), if_pos (show v_25 x0 1 6 (g_25 x0 1 4 (g_26 x0 (g_52 (x0 + 1) d))) = 0 from c4)]
            rw [y0] at h
            rw [y1] at h
            exact h (show 0 ≤ ((0 : Int)) ∧ ((0 : Int)) ≤ 1 from (by omega)) (show ∀ b : Int, (b < x0 ∨ x0 + 1 < b) ∧ (b < x0 + 6 ∨ x0 + 12 < b) → (g_25 x0 1 6 (g_25 x0 1 4 (g_26 x0 (g_52 (x0 + 1) d)))) b = d b from fun b hb => (F4 b (by omega)).trans ((F3 b (by omega)).trans ((F2 b (by omega)).trans (F1 b (by omega))))) (show (g_25 x0 1 6 (g_25 x0 1 4 (g_26 x0 (g_52 (x0 + 1) d)))) (x0 + 4) 2 ≤ 999 by omega) hS4
        · refine ⟨by omega, ?_⟩
          have q10 : (g_25 x0 1 4 (g_26 x0 (g_52 (x0 + 1) d))) (x0 + 4) 2 = d (x0 + 4) 2 := ((k3_2).trans (k2_2)).trans (congrFun (F1 (x0 + 4) (by omega)) 2)
          have y0 : v_16 x0 d = 0 := by simp only [v_16, if_pos (show d (x0 + 4 + 2) 0 < 6 from c0), if_pos (show v_56 (x0 + 1) (g_52 (x0 + 1) d) = (-1) from c1), if_neg (show ¬ v_26 x0 (g_52 (x0 + 1) d) = 0 from c2), if_pos (show v_25 x0 1 4 (g_26 x0 (g_52 (x0 + 1) d)) = 0 from c3)]
          have y1 : g_16 x0 d = g_25 x0 1 4 (g_26 x0 (g_52 (x0 + 1) d)) := by simp only [g_16, if_pos (show d (x0 + 4 + 2) 0 < 6 from c0), if_pos (show v_56 (x0 + 1) (g_52 (x0 + 1) d) = (-1) from c1), if_neg (show ¬ v_26 x0 (g_52 (x0 + 1) d) = 0 from c2), if_pos (show v_25 x0 1 4 (g_26 x0 (g_52 (x0 + 1) d)) = 0 from c3)]
          rw [y0] at h
          rw [y1] at h
          exact h (show 0 ≤ ((0 : Int)) ∧ ((0 : Int)) ≤ 1 from (by omega)) (show ∀ b : Int, (b < x0 ∨ x0 + 1 < b) ∧ (b < x0 + 6 ∨ x0 + 12 < b) → (g_25 x0 1 4 (g_26 x0 (g_52 (x0 + 1) d))) b = d b from fun b hb => (F3 b (by omega)).trans ((F2 b (by omega)).trans (F1 b (by omega)))) (show (g_25 x0 1 4 (g_26 x0 (g_52 (x0 + 1) d))) (x0 + 4) 2 ≤ 999 by omega) hS3
      · refine ⟨by omega, ?_⟩
        have q11 : (g_26 x0 (g_52 (x0 + 1) d)) (x0 + 4) 2 = d (x0 + 4) 2 := (k2_2).trans (congrFun (F1 (x0 + 4) (by omega)) 2)
        have y0 : v_16 x0 d = 0 := by simp only [v_16, if_pos (show d (x0 + 4 + 2) 0 < 6 from c0), if_pos (show v_56 (x0 + 1) (g_52 (x0 + 1) d) = (-1) from c1), if_pos (show v_26 x0 (g_52 (x0 + 1) d) = 0 from c2)]
        have y1 : g_16 x0 d = g_26 x0 (g_52 (x0 + 1) d) := by simp only [g_16, if_pos (show d (x0 + 4 + 2) 0 < 6 from c0), if_pos (show v_56 (x0 + 1) (g_52 (x0 + 1) d) = (-1) from c1), if_pos (show v_26 x0 (g_52 (x0 + 1) d) = 0 from c2)]
        rw [y0] at h
        rw [y1] at h
        exact h (show 0 ≤ ((0 : Int)) ∧ ((0 : Int)) ≤ 1 from (by omega)) (show ∀ b : Int, (b < x0 ∨ x0 + 1 < b) ∧ (b < x0 + 6 ∨ x0 + 12 < b) → (g_26 x0 (g_52 (x0 + 1) d)) b = d b from fun b hb => (F2 b (by omega)).trans (F1 b (by omega))) (show (g_26 x0 (g_52 (x0 + 1) d)) (x0 + 4) 2 ≤ 999 by omega) hS2
    · refine k_56 hS1 (ldB.re hx0) (fun e7 => ?_)
      refine t_16_49 ?_
      have w8 := r_5_f2 hS1 (ldB.re hx0)
      refine k_36 hS1 (stB.of (ldB.st hx0)) (m_inR (by omega) (by omega)) (fun e8 => ?_)
      refine t_16_52 ?_
      have w8 := r_5_f2 hS1 (ldB.re hx0)
      refine ⟨⟨m_inR (by omega) (by omega), m_inR (by omega) (by omega)⟩, fun c2 => ?_, fun c2 => ?_⟩
      · refine k_26 hS1 hx0 (fun e9 F8 k8_0 k8_1 k8_2 n8_0 hS8 => ?_)
        refine t_16_66 ?_
        have w8 := r_5_f2 hS8 (ldB.re hx0)
        refine ⟨m_inR (by omega) (by omega), fun c3 => ?_, fun c3 => ?_⟩
        · refine k_25 hS8 hx0 (by omega) (by omega) (fun e10 F9 k9_0 k9_1 k9_2 n9_0 hS9 => ?_)
          refine t_16_82 ?_
          have w8 := r_5_f2 hS9 (ldB.re hx0)
          refine ⟨m_inR (by omega) (by omega), fun c4 => ?_, fun c4 => ?_⟩
          · refine k_25 hS9 hx0 (by omega) (by omega) (fun e11 F10 k10_0 k10_1 k10_2 n10_0 hS10 => ?_)
            refine t_16_99 ?_
            have w8 := r_5_f2 hS10 (ldB.re hx0)
            refine ⟨m_inR (by omega) (by omega), fun c5 => ?_, fun c5 => ?_⟩
            · refine k_25 hS10 hx0 (by omega) (by omega) (fun e12 F11 k11_0 k11_1 k11_2 n11_0 hS11 => ?_)
              refine t_16_117 ?_
              have w8 := r_5_f2 hS11 (ldB.re hx0)
              refine ⟨m_inR (by omega) (by omega), fun c6 => ?_, fun c6 => ?_⟩
              · refine ⟨by omega, ?_⟩
                have q12 : (g_25 x0 1 20 (g_25 x0 1 6 (g_25 x0 1 4 (g_26 x0 (g_52 (x0 + 1) d))))) (x0 + 4) 2 = d (x0 + 4) 2 := ((((k11_2).trans (k10_2)).trans (k9_2)).trans (k8_2)).trans (congrFun (F1 (x0 + 4) (by omega)) 2)
                have y0 : v_16 x0 d = 0 := by simp only [v_16, if_pos (show d (x0 + 4 + 2) 0 < 6 from c0), if_neg (show ¬ v_56 (x0 + 1) (g_52 (x0 + 1) d) = (-1) from c1), if_pos (show v_36 (x0 + 4 + 2) (v_56 (x0 + 1) (g_52 (x0 + 1) d)) (g_52 (x0 + 1) d) = (-1) from c2), if_neg (show ¬ v_26 x0 (g_52 (x0 + 1) d) = 0 from c3), if_neg (show ¬ v_25 x0 1 4 (g_26 x0 (g_52 (x0 + 1) d)) = 0 from c4), if_neg (show ¬ v_25 x0 1 6 (g_25 x0 1 4 (g_26 x0 (g_52 (x0 + 1) d))) = 0 from c5), if_pos (show v_25 x0 1 20 (g_25 x0 1 6 (g_25 x0 1 4 (g_26 x0 (g_52 (x0 + 1) d)))) = 0 from c6)]
                have y1 : g_16 x0 d = g_25 x0 1 20 (g_25 x0 1 6 (g_25 x0 1 4 (g_26 x0 (g_52 (x0 + 1) d)))) := by simp only [g_16, if_pos (show d (x0 + 4 + 2) 0 < 6 from c0), if_neg (show ¬ v_56 (x0 + 1) (g_52 (x0 + 1) d) = (-1) from c1), if_pos (show v_36 (x0 + 4 + 2) (v_56 (x0 + 1) (g_52 (x0 + 1) d)) (g_52 (x0 + 1) d) = (-1) from c2), if_neg (show ¬ v_26 x0 (g_52 (x0 + 1) d) = 0 from c3), if_neg (show ¬ v_25 x0 1 4 (g_26 x0 (g_52 (x0 + 1) d)) = 0 from c4), if_neg (show ¬ v_25 x0 1 6 (g_25 x0 1 4 (g_26 x0 (g_52 (x0 + 1) d))) = 0 from c5), if_pos (show v_25 x0 1 20 (g_25 x0 1 6 (g_25 x0 1 4 (g_26 x0 (g_52 (x0 + 1) d)))) = 0 from c6)]
                rw [y0] at h
                rw [y1] at h
                exact h (show 0 ≤ ((0 : Int)) ∧ ((0 : Int)) ≤ 1 from (by omega)) (show ∀ b : Int, (b < x0 ∨ x0 + 1 < b) ∧ (b < x0 + 6 ∨ x0 + 12 < b) → (g_25 x0 1 20 (g_25 x0 1 6 (g_25 x0 1 4 (g_26 x0 (g_52 (x0 + 1) d))))) b = d b from fun b hb => (F11 b (by omega)).trans ((F10 b (by omega)).trans ((F9 b (by omega)).trans ((F8 b (by omega)).trans (F1 b (by omega)))))) (show (g_25 x0 1 20 (g_25 x0 1 6 (g_25 x0 1 4 (g_26 x0 (g_52 (x0 + 1) d))))) (x0 + 4) 2 ≤ 999 by omega) hS11
              · refine k_31 hS11 hx0 (fun e13 F12 k12_0 k12_1 k12_2 k12_3 hS12 => ?_)
                refine t_16_124 ?_
                have w8 := r_5_f2 hS12 (ldB.re hx0)
                refine ⟨m_inR (by omega) (by omega), fun c7 => ?_, fun c7 => ?_⟩
                · try rw [k12_0]
                  have q13 := r_2_f5 hS8 hx0
                  have q14 := r_2_f4 hS9 hx0
                  have q15 := r_2_f4 hS10 hx0
                  have q16 := r_2_f4 hS11 hx0
                  refine k_35 hS12 (stB.of (ldB.st hx0)) (by omega) (by omega) (by omega) (by omega) (fun F13 hS13 => ?_)
                  refine t_16_141 ?_
                  have w8 := r_5_f2 hS13 (ldB.re hx0)
                  refine ⟨by omega, ?_⟩
                  have q17 : (g_35 (x0 + 4 + 2) ((g_26 x0 (g_52 (x0 + 1) d)) x0 5) ((g_25 x0 1 4 (g_26 x0 (g_52 (x0 + 1) d))) x0 4) ((g_25 x0 1 6 (g_25 x0 1 4 (g_26 x0 (g_52 (x0 + 1) d)))) x0 4) ((g_25 x0 1 20 (g_25 x0 1 6 (g_25 x0 1 4 (g_26 x0 (g_52 (x0 + 1) d))))) x0 4) (g_31 x0 (g_25 x0 1 20 (g_25 x0 1 6 (g_25 x0 1 4 (g_26 x0 (g_52 (x0 + 1) d))))))) (x0 + 4) 2 = d (x0 + 4) 2 := ((((((congrFun (F13 (x0 + 4) (by omega)) 2).trans (k12_3)).trans (k11_2)).trans (k10_2)).trans (k9_2)).trans (k8_2)).trans (congrFun (F1 (x0 + 4) (by omega)) 2)
                  have y0 : v_16 x0 d = 1 := by simp only [v_16, if_pos (show d (x0 + 4 + 2) 0 < 6 from c0), if_neg (show ¬ v_56 (x0 + 1) (g_52 (x0 + 1) d) = (-1) from c1), if_pos (show v_36 (x0 + 4 + 2) (v_56 (x0 + 1) (g_52 (x0 + 1) d)) (g_52 (x0 + 1) d) = (-1) from c2), if_neg (show ¬ v_26 x0 (g_52 (x0 + 1) d) = 0 from c3), if_neg (show ¬ v_25 x0 1 4 (g_26 x0 (g_52 (x0 + 1) d)) = 0 from c4), if_neg (show ¬ v_25 x0 1 6 (g_25 x0 1 4 (g_26 x0 (g_52 (x0 + 1) d))) = 0 from c5), if_neg (show ¬ v_25 x0 1 20 (g_25 x0 1 6 (g_25 x0 1 4 (g_26 x0 (g_52 (x0 + 1) d)))) = 0 from c6), if_neg (show ¬ v_31 x0 (g_25 x0 1 20 (g_25 x0 1 6 (g_25 x0 1 4 (g_26 x0 (g_52 (x0 + 1) d))))) = 0 from c7)]
                  have y1 : g_16 x0 d = g_35 (x0 + 4 + 2) ((g_26 x0 (g_52 (x0 + 1) d)) x0 5) ((g_25 x0 1 4 (g_26 x0 (g_52 (x0 + 1) d))) x0 4) ((g_25 x0 1 6 (g_25 x0 1 4 (g_26 x0 (g_52 (x0 + 1) d)))) x0 4) ((g_25 x0 1 20 (g_25 x0 1 6 (g_25 x0 1 4 (g_26 x0 (g_52 (x0 + 1) d))))) x0 4) (g_31 x0 (g_25 x0 1 20 (g_25 x0 1 6 (g_25 x0 1 4 (g_26 x0 (g_52 (x0 + 1) d)))))) := by simp only [g_16, if_pos (show d (x0 + 4 + 2) 0 < 6 from c0), if_neg (show ¬ v_56 (x0 + 1) (g_52 (x0 + 1) d) = (-1) from c1), if_pos (show v_36 (x0 + 4 + 2) (v_56 (x0 + 1) (g_52 (x0 + 1) d)) (g_52 (x0 + 1) d) = (-1) from c2), if_neg (show ¬ v_26 x0 (g_52 (x0 + 1) d) = 0 from c3), if_neg (show ¬ v_25 x0 1 4 (g_26 x0 (g_52 (x0 + 1) d)) = 0 from c4), if_neg (show ¬ v_25 x0 1 6 (g_25 x0 1 4 (g_26 x0 (g_52 (x0 + 1) d))) = 0 from c5), if_neg (show ¬ v_25 x0 1 20 (g_25 x0 1 6 (g_25 x0 1 4 (g_26 x0 (g_52 (x0 + 1) d)))) = 0 from c6), if_neg (show ¬ v_31 x0 (g_25 x0 1 20 (g_25 x0 1 6 (g_25 x0 1 4 (g_26 x0 (g_52 (x0 + 1) d))))) = 0 from c7)]
                  rw [y0] at h
                  rw [y1] at h
                  exact h (show 0 ≤ ((1 : Int)) ∧ ((1 : Int)) ≤ 1 from (by omega)) (show ∀ b : Int, (b < x0 ∨ x0 + 1 < b) ∧ (b < x0 + 6 ∨ x0 + 12 < b) → (g_35 (x0 + 4 + 2) ((g_26 x0 (g_52 (x0 + 1) d)) x0 5) ((g_25 x0 1 4 (g_26 x0 (g_52 (x0 + 1) d))) x0 4) ((g_25 x0 1 6 (g_25 x0 1 4 (g_26 x0 (g_52 (x0 + 1) d)))) x0 4) ((g_25 x0 1 20 (g_25 x0 1 6 (g_25 x0 1 4 (g_26 x0 (g_52 (x0 + 1) d))))) x0 4) (g_31 x0 (g_25 x0 1 20 (g_25 x0 1 6 (g_25 x0 1 4 (g_26 x0 (g_52 (x0 + 1) d))))))) b = d b from fun b hb => (F13 b (by omega)).trans ((F12 b (by omega)).trans ((F11 b (by omega)).trans ((F10 b (by omega)).trans ((F9 b (by omega)).trans ((F8 b (by omega)).trans (F1 b (by omega)))))))) (show (g_35 (x0 + 4 + 2) ((g_26 x0 (g_52 (x0 + 1) d)) x0 5) ((g_25 x0 1 4 (g_26 x0 (g_52 (x0 + 1) d))) x0 4) ((g_25 x0 1 6 (g_25 x0 1 4 (g_26 x0 (g_52 (x0 + 1) d)))) x0 4) ((g_25 x0 1 20 (g_25 x0 1 6 (g_25 x0 1 4 (g_26 x0 (g_52 (x0 + 1) d))))) x0 4) (g_31 x0 (g_25 x0 1 20 (g_25 x0 1 6 (g_25 x0 1 4 (g_26 x0 (g_52 (x0 + 1) d))))))) (x0 + 4) 2 ≤ 999 by omega) hS13
                · refine ⟨by omega, ?_⟩
                  have q18 : (g_31 x0 (g_25 x0 1 20 (g_25 x0 1 6 (g_25 x0 1 4 (g_26 x0 (g_52 (x0 + 1) d)))))) (x0 + 4) 2 = d (x0 + 4) 2 := (((((k12_3).trans (k11_2)).trans (k10_2)).trans (k9_2)).trans (k8_2)).trans (congrFun (F1 (x0 + 4) (by omega)) 2)
                  have y0 : v_16 x0 d = 0 := by simp only [v_16, if_pos (show d (x0 + 4 + 2) 0 < 6 from c0), if_neg (show ¬ v_56 (x0 + 1) (g_52 (x0 + 1) d) = (-1) from c1), if_pos (show v_36 (x0 + 4 + 2) (v_56 (x0 + 1) (g_52 (x0 + 1) d)) (g_52 (x0 + 1) d) = (-1) from c2), if_neg (show ¬ v_26 x0 (g_52 (x0 + 1) d) = 0 from c3), if_neg (show ¬ v_25 x0 1 4 (g_26 x0 (g_52 (x0 + 1) d)) = 0 from c4), if_neg (show ¬ v_25 x0 1 6 (g_25 x0 1 4 (g_26 x0 (g_52 (x0 + 1) d))) = 0 from c5), if_neg (show ¬ v_25 x0 1 20 (g_25 x0 1 6 (g_25 x0 1 4 (g_26 x0 (g_52 (x0 + 1) d)))) = 0 from c6), if_pos (show v_31 x0 (g_25 x0 1 20 (g_25 x0 1 6 (g_25 x0 1 4 (g_26 x0 (g_52 (x0 + 1) d))))) = 0 from c7)]
                  have y1 : g_16 x0 d = g_31 x0 (g_25 x0 1 20 (g_25 x0 1 6 (g_25 x0 1 4 (g_26 x0 (g_52 (x0 + 1) d))))) := by simp only [g_16, if_pos (show d (x0 + 4 + 2) 0 < 6 from c0), if_neg (show ¬ v_56 (x0 + 1) (g_52 (x0 + 1) d) = (-1) from c1), if_pos (show v_36 (x0 + 4 + 2) (v_56 (x0 + 1) (g_52 (x0 + 1) d)) (g_52 (x0 + 1) d) = (-1) from c2), if_neg (show ¬ v_26 x0 (g_52 (x0 + 1) d) = 0 from c3), if_neg (show ¬ v_25 x0 1 4 (g_26 x0 (g_52 (x0 + 1) d)) = 0 from c4), if_neg (show ¬ v_25 x0 1 6 (g_25 x0 1 4 (g_26 x0 (g_52 (x0 + 1) d))) = 0 from c5), if_neg (show ¬ v_25 x0 1 20 (g_25 x0 1 6 (g_25 x0 1 4 (g_26 x0 (g_52 (x0 + 1) d)))) = 0 from c6), if_pos (show v_31 x0 (g_25 x0 1 20 (g_25 x0 1 6 (g_25 x0 1 4 (g_26 x0 (g_52 (x0 + 1) d))))) = 0 from c7)]
                  rw [y0] at h
                  rw [y1] at h
                  exact h (show 0 ≤ ((0 : Int)) ∧ ((0 : Int)) ≤ 1 from (by omega)) (show ∀ b : Int, (b < x0 ∨ x0 + 1 < b) ∧ (b < x0 + 6 ∨ x0 + 12 < b) → (g_31 x0 (g_25 x0 1 20 (g_25 x0 1 6 (g_25 x0 1 4 (g_26 x0 (g_52 (x0 + 1) d)))))) b = d b from fun b hb => (F12 b (by omega)).trans ((F11 b (by omega)).trans ((F10 b (by omega)).trans ((F9 b (by omega)).trans ((F8 b (by omega)).trans (F1 b (by omega))))))) (show (g_31 x0 (g_25 x0 1 20 (g_25 x0 1 6 (g_25 x0 1 4 (g_26 x0 (g_52 (x0 + 1) d)))))) (x0 + 4) 2 ≤ 999 by omega) hS12
            · refine ⟨by omega, ?_⟩
              have q19 : (g_25 x0 1 6 (g_25 x0 1 4 (g_26 x0 (g_52 (x0 + 1) d)))) (x0 + 4) 2 = d (x0 + 4) 2 := (((k10_2).trans (k9_2)).trans (k8_2)).trans (congrFun (F1 (x0 + 4) (by omega)) 2)
              have y0 : v_16 x0 d = 0 := by simp only [v_16, if_pos (show d (x0 + 4 + 2) 0 < 6 from c0), if_neg (show ¬ v_56 (x0 + 1) (g_52 (x0 + 1) d) = (-1) from c1), if_pos (show v_36 (x0 + 4 + 2) (v_56 (x0 + 1) (g_52 (x0 + 1) d)) (g_52 (x0 + 1) d) = (-1) from c2), if_neg (show ¬ v_26 x0 (g_52 (x0 + 1) d) = 0 from c3), if_neg (show ¬ v_25 x0 1 4 (g_26 x0 (g_52 (x0 + 1) d)) = 0 from c4), if_pos (show v_25 x0 1 6 (g_25 x0 1 4 (g_26 x0 (g_52 (x0 + 1) d))) = 0 from c5)]
              have y1 : g_16 x0 d = g_25 x0 1 6 (g_25 x0 1 4 (g_26 x0 (g_52 (x0 + 1) d))) := by simp only [g_16, if_pos (show d (x0 + 4 + 2) 0 < 6 from c0), if_neg (show ¬ v_56 (x0 + 1) (g_52 (x0 + 1) d) = (-1) from c1), if_pos (show v_36 (x0 + 4 + 2) (v_56 (x0 + 1) (g_52 (x0 + 1) d)) (g_52 (x0 + 1) d) = (-1) from c2), if_neg (show ¬ v_26 x0 (g_52 (x0 + 1) d) = 0 from c3), if_neg (show ¬ v_25 x0 1 4 (g_26 x0 (g_52 (x0 + 1) d)) = 0 from c4), if_pos (show v_25 x0 1 6 (g_25 x0 1 4 (g_26 x0 (g_52 (x0 + 1) d))) = 0 from c5)]
              rw [y0] at h
              rw [y1] at h
              exact h (show 0 ≤ ((0 : Int)) ∧ ((0 : Int)) ≤ 1 from (by omega)) (show ∀ b : Int, (b < x0 ∨ x0 + 1 < b) ∧ (b < x0 + 6 ∨ x0 + 12 < b) → (g_25 x0 1 6 (g_25 x0 1 4 (g_26 x0 (g_52 (x0 + 1) d)))) b = d b from fun b hb => (F10 b (by omega)).trans ((F9 b (by omega)).trans ((F8 b (by omega)).trans (F1 b (by omega))))) (show (g_25 x0 1 6 (g_25 x0 1 4 (g_26 x0 (g_52 (x0 + 1) d)))) (x0 + 4) 2 ≤ 999 by omega) hS10
          · refine ⟨by omega, ?_⟩
            have q20 : (g_25 x0 1 4 (g_26 x0 (g_52 (x0 + 1) d))) (x0 + 4) 2 = d (x0 + 4) 2 := ((k9_2).trans (k8_2)).trans (congrFun (F1 (x0 + 4) (by omega)) 2)
            have y0 : v_16 x0 d = 0 := by simp only [v_16, if_pos (show d (x0 + 4 + 2) 0 < 6 from c0), if_neg (show ¬ v_56 (x0 + 1) (g_52 (x0 + 1) d) = (-1) from c1), if_pos (show v_36 (x0 + 4 + 2) (v_56 (x0 + 1) (g_52 (x0 + 1) d)) (g_52 (x0 + 1) d) = (-1) from c2), if_neg (show ¬ v_26 x0 (g_52 (x0 + 1) d) = 0 from c3), if_pos (show v_25 x0 1 4 (g_26 x0 (g_52 (x0 + 1) d)) = 0 from c4)]
            have y1 : g_16 x0 d = g_25 x0 1 4 (g_26 x0 (g_52 (x0 + 1) d)) := by simp only [g_16, if_pos (show d (x0 + 4 + 2) 0 < 6 from c0), if_neg (show ¬ v_56 (x0 + 1) (g_52 (x0 + 1) d) = (-1) from c1), if_pos (show v_36 (x0 + 4 + 2) (v_56 (x0 + 1) (g_52 (x0 + 1) d)) (g_52 (x0 + 1) d) = (-1) from c2), if_neg (show ¬ v_26 x0 (g_52 (x0 + 1) d) = 0 from c3), if_pos (show v_25 x0 1 4 (g_26 x0 (g_52 (x0 + 1) d)) = 0 from c4)]
            rw [y0] at h
            rw [y1] at h
            exact h (show 0 ≤ ((0 : Int)) ∧ ((0 : Int)) ≤ 1 from (by omega)) (show ∀ b : Int, (b < x0 ∨ x0 + 1 < b) ∧ (b < x0 + 6 ∨ x0 + 12 < b) → (g_25 x0 1 4 (g_26 x0 (g_52 (x0 + 1) d))) b = d b from fun b hb => (F9 b (by omega)).trans ((F8 b (by omega)).trans (F1 b (by omega)))) (show (g_25 x0 1 4 (g_26 x0 (g_52 (x0 + 1) d))) (x0 + 4) 2 ≤ 999 by omega) hS9
        · refine ⟨by omega, ?_⟩
          have q21 : (g_26 x0 (g_52 (x0 + 1) d)) (x0 + 4) 2 = d (x0 + 4) 2 := (k8_2).trans (congrFun (F1 (x0 + 4) (by omega)) 2)
          have y0 : v_16 x0 d = 0 := by simp only [v_16, if_pos (show d (x0 + 4 + 2) 0 < 6 from c0), if_neg (show ¬ v_56 (x0 + 1) (g_52 (x0 + 1) d) = (-1) from c1), if_pos (show v_36 (x0 + 4 + 2) (v_56 (x0 + 1) (g_52 (x0 + 1) d)) (g_52 (x0 + 1) d) = (-1) from c2), if_pos (show v_26 x0 (g_52 (x0 + 1) d) = 0 from c3)]
          have y1 : g_16 x0 d = g_26 x0 (g_52 (x0 + 1) d) := by simp only [g_16, if_pos (show d (x0 + 4 + 2) 0 < 6 from c0), if_neg (show ¬ v_56 (x0 + 1) (g_52 (x0 + 1) d) = (-1) from c1), if_pos (show v_36 (x0 + 4 + 2) (v_56 (x0 + 1) (g_52 (x0 + 1) d)) (g_52 (x0 + 1) d) = (-1) from c2), if_pos (show v_26 x0 (g_52 (x0 + 1) d) = 0 from c3)]
          rw [y0] at h
          rw [y1] at h
          exact h (show 0 ≤ ((0 : Int)) ∧ ((0 : Int)) ≤ 1 from (by omega)) (show ∀ b : Int, (b < x0 ∨ x0 + 1 < b) ∧ (b < x0 + 6 ∨ x0 + 12 < b) → (g_26 x0 (g_52 (x0 + 1) d)) b = d b from fun b hb => (F8 b (by omega)).trans (F1 b (by omega))) (show (g_26 x0 (g_52 (x0 + 1) d)) (x0 + 4) 2 ≤ 999 by omega) hS8
      · refine k_32 hS1 hx0 (by omega) (fun e14 F14 k14_0 k14_1 k14_2 k14_3 n14_0 hS14 => ?_)
        refine t_16_61 ?_
        have w8 := r_5_f2 hS14 (ldB.re hx0)
        refine ⟨by omega, ?_⟩
        have q22 : (g_32 x0 3 (g_52 (x0 + 1) d)) (x0 + 4) 2 = d (x0 + 4) 2 := (k14_3).trans (congrFun (F1 (x0 + 4) (by omega)) 2)
        have y0 : v_16 x0 d = v_32 x0 3 (g_52 (x0 + 1) d) := by simp only [v_16, if_pos (show d (x0 + 4 + 2) 0 < 6 from c0), if_neg (show ¬ v_56 (x0 + 1) (g_52 (x0 + 1) d) = (-1) from c1), if_neg (show ¬ v_36 (x0 + 4 + 2) (v_56 (x0 + 1) (g_52 (x0 + 1) d)) (g_52 (x0 + 1) d) = (-1) from c2)]
        have y1 : g_16 x0 d = g_32 x0 3 (g_52 (x0 + 1) d) := by simp only [g_16, if_pos (show d (x0 + 4 + 2) 0 < 6 from c0), if_neg (show ¬ v_56 (x0 + 1) (g_52 (x0 + 1) d) = (-1) from c1), if_neg (show ¬ v_36 (x0 + 4 + 2) (v_56 (x0 + 1) (g_52 (x0 + 1) d)) (g_52 (x0 + 1) d) = (-1) from c2)]
        rw [y0] at h
        rw [y1] at h
        exact h (show 0 ≤ (v_32 x0 3 (g_52 (x0 + 1) d)) ∧ (v_32 x0 3 (g_52 (x0 + 1) d)) ≤ 1 from (by omega)) (show ∀ b : Int, (b < x0 ∨ x0 + 1 < b) ∧ (b < x0 + 6 ∨ x0 + 12 < b) → (g_32 x0 3 (g_52 (x0 + 1) d)) b = d b from fun b hb => (F14 b (by omega)).trans (F1 b (by omega))) (show (g_32 x0 3 (g_52 (x0 + 1) d)) (x0 + 4) 2 ≤ 999 by omega) hS14
  · refine k_32 hS hx0 (by omega) (fun e15 F15 k15_0 k15_1 k15_2 k15_3 n15_0 hS15 => ?_)
    refine t_16_22 ?_
    have w8 := r_5_f2 hS15 (ldB.re hx0)
    refine ⟨by omega, ?_⟩
    have q23 : (g_32 x0 5 d) (x0 + 4) 2 = d (x0 + 4) 2 := k15_3
    have y0 : v_16 x0 d = v_32 x0 5 d := by simp only [v_16, if_neg (show ¬ d (x0 + 4 + 2) 0 < 6 from Int.not_lt.mpr c0)]
    have y1 : g_16 x0 d = g_32 x0 5 d := by simp only [g_16, if_neg (show ¬ d (x0 + 4 + 2) 0 < 6 from Int.not_lt.mpr c0)]
    rw [y0] at h
    rw [y1] at h
    exact h (show 0 ≤ (v_32 x0 5 d) ∧ (v_32 x0 5 d) ≤ 1 from (by omega)) (show ∀ b : Int, (b < x0 ∨ x0 + 1 < b) ∧ (b < x0 + 6 ∨ x0 + 12 < b) → (g_32 x0 5 d) b = d b from fun b hb => F15 b (by omega)) (show (g_32 x0 5 d) (x0 + 4) 2 ≤ 999 by omega) hS15
def st_15_20 (x0 : Int) (r20 : Int → mD → Int × mD) (x1 : Int) (d : mD) : Int × mD := if (6 : Int) < x1 then (1, d) else if v_55 (x0 + 1) 1 d = 0 then (1, d) else if v_16 x0 d = 0 then (0, g_16 x0 d) else r20 (x1 + 1) (g_16 x0 d)
def lp_15_20 (x0 : Int) : Nat → Int → mD → Int × mD
  | 0 => st_15_20 x0 (fun _ d => (0, d))
  | n + 1 => st_15_20 x0 (lp_15_20 x0 n)
theorem ls_15_20 {E : mO × tW} {K : tK} {x0 : Int} (hW : W55 E) (hx0 : ldB x0) (N20 : Int) (r20 : Int → mD → Int × mD) (ih20 : ∀ (x1 : Int) (d : mD), Safe d → (0 ≤ x1 ∧ x1 ≤ 7) → (d (x0 + 4) 2 ≤ 999) → 0 ≤ 7 - x1 → 7 - x1 < N20 → ((0 ≤ (r20 x1 d).1 ∧ (r20 x1 d).1 ≤ 1) → (∀ b : Int, (b < x0 ∨ x0 + 1 < b) ∧ (b < x0 + 6 ∨ x0 + 12 < b) → (r20 x1 d).2 b = d b) → ((r20 x1 d).2 (x0 + 4) 2 ≤ 999) → Safe (r20 x1 d).2 → K (.inl (some (0, (r20 x1 d).1))) (r20 x1 d).2) → tRun E 15 (20, [.inr (2, x0), .inl (0, x1)], [], 0, 0, d) K) (x1 : Int) (d : mD) (hS : Safe d) (i0 : 0 ≤ x1 ∧ x1 ≤ 7) (i1 : d (x0 + 4) 2 ≤ 999) (hm : 7 - x1 ≤ N20) (h : (0 ≤ (st_15_20 x0 r20 x1 d).1 ∧ (st_15_20 x0 r20 x1 d).1 ≤ 1) → (∀ b : Int, (b < x0 ∨ x0 + 1 < b) ∧ (b < x0 + 6 ∨ x0 + 12 < b) → (st_15_20 x0 r20 x1 d).2 b = d b) → ((st_15_20 x0 r20 x1 d).2 (x0 + 4) 2 ≤ 999) → Safe (st_15_20 x0 r20 x1 d).2 → K (.inl (some (0, (st_15_20 x0 r20 x1 d).1))) (st_15_20 x0 r20 x1 d).2) : tRun E 15 (20, [.inr (2, x0), .inl (0, x1)], [], 0, 0, d) K := by
  refine t_15_20 ?_
  have w8 := r_5_f2 hS (ldB.re hx0)
  refine ⟨⟨m_inR (by omega) (by omega), m_inR (by omega) (by omega)⟩, fun c0 => ?_, fun c0 => ?_⟩
  · refine ⟨by omega, ?_⟩
    have y0 : st_15_20 x0 r20 x1 d = (1, d) := by simp only [st_15_20, if_pos (show (6 : Int) < x1 from c0)]
    rw [y0] at h
    exact h (show 0 ≤ ((1 : Int)) ∧ ((1 : Int)) ≤ 1 from (by omega)) (show ∀ b : Int, (b < x0 ∨ x0 + 1 < b) ∧ (b < x0 + 6 ∨ x0 + 12 < b) → d b = d b from fun _ _ => rfl) (show d (x0 + 4) 2 ≤ 999 by omega) hS
  · refine k_55 hW hS (ldB.re hx0) (by omega) (fun e1 => ?_)
    refine t_15_35 ?_
    have w8 := r_5_f2 hS (ldB.re hx0)
    refine ⟨m_inR (by omega) (by omega), fun c1 => ?_, fun c1 => ?_⟩
    · refine ⟨by omega, ?_⟩
      have y0 : st_15_20 x0 r20 x1 d = (1, d) := by simp only [st_15_20, if_neg (show ¬ (6 : Int) < x1 from Int.not_lt.mpr c0), if_pos (show v_55 (x0 + 1) 1 d = 0 from c1)]
      rw [y0] at h
      exact h (show 0 ≤ ((1 : Int)) ∧ ((1 : Int)) ≤ 1 from (by omega)) (show ∀ b : Int, (b < x0 ∨ x0 + 1 < b) ∧ (b < x0 + 6 ∨ x0 + 12 < b) → d b = d b from fun _ _ => rfl) (show d (x0 + 4) 2 ≤ 999 by omega) hS
    · refine k_16 hS hx0 (by omega) (fun e2 F1 n1_0 hS1 => ?_)
      refine t_15_42 ?_
      have w8 := r_5_f2 hS1 (ldB.re hx0)
      refine ⟨m_inR (by omega) (by omega), fun c2 => ?_, fun c2 => ?_⟩
      · have q1 : (g_16 x0 d) (x0 + 4) 2 = d (x0 + 4) 2 := congrFun (F1 (x0 + 4) (by omega)) 2
        refine ih20 (x1 + 1)  (g_16 x0 d) hS1 (by omega) (by omega) (by omega) (by omega) ?_
        intro e F n0 hS_
        have y0 : st_15_20 x0 r20 x1 d = r20 (x1 + 1) (g_16 x0 d) := by simp only [st_15_20, if_neg (show ¬ (6 : Int) < x1 from Int.not_lt.mpr c0), if_neg (show ¬ v_55 (x0 + 1) 1 d = 0 from c1), if_neg (show ¬ v_16 x0 d = 0 from c2)]
        rw [y0] at h
        exact h e (fun b hb => (F b hb).trans ((show ∀ b : Int, (b < x0 ∨ x0 + 1 < b) ∧ (b < x0 + 6 ∨ x0 + 12 < b) → (g_16 x0 d) b = d b from fun b hb => F1 b (by omega)) b hb)) (by omega) hS_
      · refine ⟨by omega, ?_⟩
        have q2 : (g_16 x0 d) (x0 + 4) 2 = d (x0 + 4) 2 := congrFun (F1 (x0 + 4) (by omega)) 2
        have y0 : st_15_20 x0 r20 x1 d = (0, g_16 x0 d) := by simp only [st_15_20, if_neg (show ¬ (6 : Int) < x1 from Int.not_lt.mpr c0), if_neg (show ¬ v_55 (x0 + 1) 1 d = 0 from c1), if_pos (show v_16 x0 d = 0 from c2)]
        rw [y0] at h
        exact h (show 0 ≤ ((0 : Int)) ∧ ((0 : Int)) ≤ 1 from (by omega)) (show ∀ b : Int, (b < x0 ∨ x0 + 1 < b) ∧ (b < x0 + 6 ∨ x0 + 12 < b) → (g_16 x0 d) b = d b from fun b hb => F1 b (by omega)) (show (g_16 x0 d) (x0 + 4) 2 ≤ 999 by omega) hS1
theorem l_15_20 {E : mO × tW} {K : tK} {x0 : Int} (hW : W55 E) (hx0 : ldB x0) : ∀ (n : Nat) (x1 : Int) (d : mD), Safe d → (0 ≤ x1 ∧ x1 ≤ 7) → (d (x0 + 4) 2 ≤ 999) → 7 - x1 ≤ (n : Int) → ((0 ≤ (lp_15_20 x0 n x1 d).1 ∧ (lp_15_20 x0 n x1 d).1 ≤ 1) → (∀ b : Int, (b < x0 ∨ x0 + 1 < b) ∧ (b < x0 + 6 ∨ x0 + 12 < b) → (lp_15_20 x0 n x1 d).2 b = d b) → ((lp_15_20 x0 n x1 d).2 (x0 + 4) 2 ≤ 999) → Safe (lp_15_20 x0 n x1 d).2 → K (.inl (some (0, (lp_15_20 x0 n x1 d).1))) (lp_15_20 x0 n x1 d).2) → tRun E 15 (20, [.inr (2, x0), .inl (0, x1)], [], 0, 0, d) K := by
  intro n
  induction n with
  | zero =>
    intro x1  d hS i0 i1 hm  h
    exact ls_15_20 hW hx0 0 _ (fun _  _ _ _ _ m0 m1 _ => absurd m1 (by omega)) x1  d hS i0 i1 hm  h
  | succ n ih =>
    intro x1  d hS i0 i1 hm  h
    exact ls_15_20 hW hx0 ((n + 1 : Nat) : Int) _ (fun x1  d hS i0 i1  m0 m1 h => ih x1  d hS i0 i1 (by omega)  h) x1  d hS i0 i1 hm  h
def f_15 (x0 : Int) (d : mD) : Int × mD := if v_55 (x0 + 1) 1 d = 0 then (v_32 x0 1 d, g_32 x0 1 d) else lp_15_20 x0 (7 - 0 : Int).toNat 0 d
def v_15 (x0 : Int) (d : mD) : Int := (f_15 x0 d).1
def g_15 (x0 : Int) (d : mD) : mD := (f_15 x0 d).2
theorem k_15 {E : mO × tW} {K : tK} {d : mD} {x0 : Int} (hW : W55 E) (hS : Safe d) (hx0 : ldB x0) (ht : d (x0 + 4) 2 ≤ 999) (h : (0 ≤ (v_15 x0 d) ∧ (v_15 x0 d) ≤ 1) → (∀ b : Int, (b < x0 ∨ x0 + 1 < b) ∧ (b < x0 + 6 ∨ x0 + 12 < b) → (g_15 x0 d) b = d b) → ((g_15 x0 d) (x0 + 4) 2 ≤ 999) → Safe (g_15 x0 d) → K (.inl (some (0, (v_15 x0 d)))) (g_15 x0 d)) : tCall E 15 [.inr (2, x0)] d K := by
  simp only [v_15, g_15] at h
  refine t_15_0 ?_
  have w8 := r_5_f2 hS (ldB.re hx0)
  refine k_55 hW hS (ldB.re hx0) (by omega) (fun e3 => ?_)
  refine t_15_9 ?_
  have w8 := r_5_f2 hS (ldB.re hx0)
  refine ⟨m_inR (by omega) (by omega), fun c0 => ?_, fun c0 => ?_⟩
  · refine l_15_20 hW hx0 (7 - 0 : Int).toNat 0  d hS (by omega) (by omega) (by omega) ?_
    intro e F n0 hS_
    have y0 : f_15 x0 d = lp_15_20 x0 (7 - 0 : Int).toNat 0 d := by simp only [f_15, if_neg (show ¬ v_55 (x0 + 1) 1 d = 0 from c0)]
    rw [y0] at h
    exact h e F (by omega) hS_
  · refine k_32 hS hx0 (by omega) (fun e4 F2 k2_0 k2_1 k2_2 k2_3 n2_0 hS2 => ?_)
    refine t_15_17 ?_
    have w8 := r_5_f2 hS2 (ldB.re hx0)
    refine ⟨by omega, ?_⟩
    have q3 : (g_32 x0 1 d) (x0 + 4) 2 = d (x0 + 4) 2 := k2_3
    have y0 : f_15 x0 d = (v_32 x0 1 d, g_32 x0 1 d) := by simp only [f_15, if_pos (show v_55 (x0 + 1) 1 d = 0 from c0)]
    rw [y0] at h
    exact h (show 0 ≤ (v_32 x0 1 d) ∧ (v_32 x0 1 d) ≤ 1 from (by omega)) (show ∀ b : Int, (b < x0 ∨ x0 + 1 < b) ∧ (b < x0 + 6 ∨ x0 + 12 < b) → (g_32 x0 1 d) b = d b from fun b hb => F2 b (by omega)) (show (g_32 x0 1 d) (x0 + 4) 2 ≤ 999 by omega) hS2
def v_18 (x0 : Int) (d : mD) : Int := if d (x0 + 4 + 10) 0 < 16 then (if v_56 (x0 + 1) (g_52 (x0 + 1) d) = (-1) then (if v_26 x0 (g_52 (x0 + 1) d) = 0 then 0 else if v_31 x0 (g_26 x0 (g_52 (x0 + 1) d)) = 0 then 0 else 1) else if v_48 (x0 + 4 + 10) (v_56 (x0 + 1) (g_52 (x0 + 1) d)) (g_52 (x0 + 1) d) = (-1) then (if v_26 x0 (g_52 (x0 + 1) d) = 0 then 0 else if v_31 x0 (g_26 x0 (g_52 (x0 + 1) d)) = 0 then 0 else 1) else v_32 x0 3 (g_52 (x0 + 1) d)) else v_32 x0 5 d
def g_18 (x0 : Int) (d : mD) : mD := if d (x0 + 4 + 10) 0 < 16 then (if v_56 (x0 + 1) (g_52 (x0 + 1) d) = (-1) then (if v_26 x0 (g_52 (x0 + 1) d) = 0 then g_26 x0 (g_52 (x0 + 1) d) else if v_31 x0 (g_26 x0 (g_52 (x0 + 1) d)) = 0 then g_31 x0 (g_26 x0 (g_52 (x0 + 1) d)) else g_47 (x0 + 4 + 10) ((g_26 x0 (g_52 (x0 + 1) d)) x0 5) (g_31 x0 (g_26 x0 (g_52 (x0 + 1) d)))) else if v_48 (x0 + 4 + 10) (v_56 (x0 + 1) (g_52 (x0 + 1) d)) (g_52 (x0 + 1) d) = (-1) then (if v_26 x0 (g_52 (x0 + 1) d) = 0 then g_26 x0 (g_52 (x0 + 1) d) else if v_31 x0 (g_26 x0 (g_52 (x0 + 1) d)) = 0 then g_31 x0 (g_26 x0 (g_52 (x0 + 1) d)) else g_47 (x0 + 4 + 10) ((g_26 x0 (g_52 (x0 + 1) d)) x0 5) (g_31 x0 (g_26 x0 (g_52 (x0 + 1) d)))) else g_32 x0 3 (g_52 (x0 + 1) d)) else g_32 x0 5 d
theorem k_18 {E : mO × tW} {K : tK} {d : mD} {x0 : Int} (hS : Safe d) (hx0 : ldB x0) (ht : d (x0 + 4) 2 ≤ 999) (h : (0 ≤ (v_18 x0 d) ∧ (v_18 x0 d) ≤ 1) → (∀ b : Int, (b < x0 ∨ x0 + 1 < b) ∧ (b < x0 + 14 ∨ x0 + 19 < b) ∧ (b < x0 + 22 ∨ x0 + 52 < b) → (g_18 x0 d) b = d b) → ((g_18 x0 d) (x0 + 4) 2 ≤ 999) → Safe (g_18 x0 d) → K (.inl (some (0, (v_18 x0 d)))) (g_18 x0 d)) : tCall E 18 [.inr (2, x0)] d K := by
  refine t_18_0 ?_
  have w8 := r_5_f2 hS (ldB.re hx0)
  have q1 := r_4_f0 hS (stB.pe (ldB.st hx0))
  refine ⟨⟨m_inR (by omega) (by omega), m_inR (by omega) (by omega)⟩, fun c0 => ?_, fun c0 => ?_⟩
  · refine k_52 hS (ldB.re hx0) (fun F1 hS1 => ?_)
    refine t_18_28 ?_
    have w8 := r_5_f2 hS1 (ldB.re hx0)
    refine k_56 hS1 (ldB.re hx0) (fun e1 => ?_)
    refine t_18_35 ?_
    have w8 := r_5_f2 hS1 (ldB.re hx0)
    refine ⟨⟨m_inR (by omega) (by omega), m_inR (by omega) (by omega)⟩, fun c1 => ?_, fun c1 => ?_⟩
    · refine k_26 hS1 hx0 (fun e2 F2 k2_0 k2_1 k2_2 n2_0 hS2 => ?_)
      refine t_18_70 ?_
      have w8 := r_5_f2 hS2 (ldB.re hx0)
      refine ⟨m_inR (by omega) (by omega), fun c2 => ?_, fun c2 => ?_⟩
      · refine ⟨by omega, ?_⟩
        have q2 : (g_26 x0 (g_52 (x0 + 1) d)) (x0 + 4) 2 = d (x0 + 4) 2 := (k2_2).trans (congrFun (F1 (x0 + 4) (by omega)) 2)
        have y0 : v_18 x0 d = 0 := by simp only [v_18, if_pos (show d (x0 + 4 + 10) 0 < 16 from c0), if_pos (show v_56 (x0 + 1) (g_52 (x0 + 1) d) = (-1) from c1), if_pos (show v_26 x0 (g_52 (x0 + 1) d) = 0 from c2)]
        have y1 : g_18 x0 d = g_26 x0 (g_52 (x0 + 1) d) := by simp only [g_18, if_pos (show d (x0 + 4 + 10) 0 < 16 from c0), if_pos (show v_56 (x0 + 1) (g_52 (x0 + 1) d) = (-1) from c1), if_pos (show v_26 x0 (g_52 (x0 + 1) d) = 0 from c2)]
        rw [y0] at h
        rw [y1] at h
        exact h (show 0 ≤ ((0 : Int)) ∧ ((0 : Int)) ≤ 1 from (by omega)) (show ∀ b : Int, (b < x0 ∨ x0 + 1 < b) ∧ (b < x0 + 14 ∨ x0 + 19 < b) ∧ (b < x0 + 22 ∨ x0 + 52 < b) → (g_26 x0 (g_52 (x0 + 1) d)) b = d b from fun b hb => (F2 b (by omega)).trans (F1 b (by omega))) (show (g_26 x0 (g_52 (x0 + 1) d)) (x0 + 4) 2 ≤ 999 by omega) hS2
      · refine k_31 hS2 hx0 (fun e3 F3 k3_0 k3_1 k3_2 k3_3 hS3 => ?_)
        refine t_18_77 ?_
        have w8 := r_5_f2 hS3 (ldB.re hx0)
        refine ⟨m_inR (by omega) (by omega), fun c3 => ?_, fun c3 => ?_⟩
        · try rw [k3_1]
          have q3 := r_2_f5 hS2 hx0
          refine k_47 hS3 (stB.pe (ldB.st hx0)) (by omega) (fun F4 hS4 => ?_)
          refine t_18_96 ?_
          have w8 := r_5_f2 hS4 (ldB.re hx0)
          refine ⟨by omega, ?_⟩
          have q4 : (g_47 (x0 + 4 + 10) ((g_26 x0 (g_52 (x0 + 1) d)) x0 5) (g_31 x0 (g_26 x0 (g_52 (x0 + 1) d)))) (x0 + 4) 2 = d (x0 + 4) 2 := (((congrFun (F4 (x0 + 4) (by omega)) 2).trans (k3_3)).trans (k2_2)).trans (congrFun (F1 (x0 + 4) (by omega)) 2)
          have y0 : v_18 x0 d = 1 := by simp only [v_18, if_pos (show d (x0 + 4 + 10) 0 < 16 from c0), if_pos (show v_56 (x0 + 1) (g_52 (x0 + 1) d) = (-1) from c1), if_neg (show ¬ v_26 x0 (g_52 (x0 + 1) d) = 0 from c2), if_neg (show ¬ v_31 x0 (g_26 x0 (g_52 (x0 + 1) d)) = 0 from c3)]
          have y1 : g_18 x0 d = g_47 (x0 + 4 + 10) ((g_26 x0 (g_52 (x0 + 1) d)) x0 5) (g_31 x0 (g_26 x0 (g_52 (x0 + 1) d))) := by simp only [g_18, if_pos (show d (x0 + 4 + 10) 0 < 16 from c0), if_pos (show v_56 (x0 + 1) (g_52 (x0 + 1) d) = (-1) from c1), if_neg (show ¬ v_26 x0 (g_52 (x0 + 1) d) = 0 from c2), if_neg (show ¬ v_31 x0 (g_26 x0 (g_52 (x0 + 1) d)) = 0 from c3)]
          rw [y0] at h
          rw [y1] at h
          exact h (show 0 ≤ ((1 : Int)) ∧ ((1 : Int)) ≤ 1 from (by omega)) (show ∀ b : Int, (b < x0 ∨ x0 + 1 < b) ∧ (b < x0 + 14 ∨ x0 + 19 < b) ∧ (b < x0 + 22 ∨ x0 + 52 < b) → (g_47 (x0 + 4 + 10) ((g_26 x0 (g_52 (x0 + 1) d)) x0 5) (g_31 x0 (g_26 x0 (g_52 (x0 + 1) d)))) b = d b from fun b hb => (F4 b (by omega)).trans ((F3 b (by omega)).trans ((F2 b (by omega)).trans (F1 b (by omega))))) (show (g_47 (x0 + 4 + 10) ((g_26 x0 (g_52 (x0 + 1) d)) x0 5) (g_31 x0 (g_26 x0 (g_52 (x0 + 1) d)))) (x0 + 4) 2 ≤ 999 by omega) hS4
        · refine ⟨by omega, ?_⟩
          have q5 : (g_31 x0 (g_26 x0 (g_52 (x0 + 1) d))) (x0 + 4) 2 = d (x0 + 4) 2 := ((k3_3).trans (k2_2)).trans (congrFun (F1 (x0 + 4) (by omega)) 2)
          have y0 : v_18 x0 d = 0 := by simp only [v_18, if_pos (show d (x0 + 4 + 10) 0 < 16 from c0), if_pos (show v_56 (x0 + 1) (g_52 (x0 + 1) d) = (-1) from c1), if_neg (show ¬ v_26 x0 (g_52 (x0 + 1) d) = 0 from c2), if_pos (show v_31 x0 (g_26 x0 (g_52 (x0 + 1) d)) = 0 from c3)]
          have y1 : g_18 x0 d = g_31 x0 (g_26 x0 (g_52 (x0 + 1) d)) := by simp only [g_18, if_pos (show d (x0 + 4 + 10) 0 < 16 from c0), if_pos (show v_56 (x0 + 1) (g_52 (x0 + 1) d) = (-1) from c1), if_neg (show ¬ v_26 x0 (g_52 (x0 + 1) d) = 0 from c2), if_pos (show v_31 x0 (g_26 x0 (g_52 (x0 + 1) d)) = 0 from c3)]
          rw [y0] at h
          rw [y1] at h
          exact h (show 0 ≤ ((0 : Int)) ∧ ((0 : Int)) ≤ 1 from (by omega)) (show ∀ b : Int, (b < x0 ∨ x0 + 1 < b) ∧ (b < x0 + 14 ∨ x0 + 19 < b) ∧ (b < x0 + 22 ∨ x0 + 52 < b) → (g_31 x0 (g_26 x0 (g_52 (x0 + 1) d))) b = d b from fun b hb => (F3 b (by omega)).trans ((F2 b (by omega)).trans (F1 b (by omega)))) (show (g_31 x0 (g_26 x0 (g_52 (x0 + 1) d))) (x0 + 4) 2 ≤ 999 by omega) hS3
    · refine k_56 hS1 (ldB.re hx0) (fun e4 => ?_)
      refine t_18_53 ?_
      have w8 := r_5_f2 hS1 (ldB.re hx0)
      refine k_48 hS1 (stB.pe (ldB.st hx0)) (m_inR (by omega) (by omega)) (fun e5 => ?_)
      refine t_18_56 ?_
      have w8 := r_5_f2 hS1 (ldB.re hx0)
      refine ⟨⟨m_inR (by omega) (by omega), m_inR (by omega) (by omega)⟩, fun c2 => ?_, fun c2 => ?_⟩
      · refine k_26 hS1 hx0 (fun e6 F5 k5_0 k5_1 k5_2 n5_0 hS5 => ?_)
        refine t_18_70 ?_
        have w8 := r_5_f2 hS5 (ldB.re hx0)
        refine ⟨m_inR (by omega) (by omega), fun c3 => ?_, fun c3 => ?_⟩
        · refine ⟨by omega, ?_⟩
          have q6 : (g_26 x0 (g_52 (x0 + 1) d)) (x0 + 4) 2 = d (x0 + 4) 2 := (k5_2).trans (congrFun (F1 (x0 + 4) (by omega)) 2)
          have y0 : v_18 x0 d = 0 := by simp only [v_18, if_pos (show d (x0 + 4 + 10) 0 < 16 from c0), if_neg (show ¬ v_56 (x0 + 1) (g_52 (x0 + 1) d) = (-1) from c1), if_pos (show v_48 (x0 + 4 + 10) (v_56 (x0 + 1) (g_52 (x0 + 1) d)) (g_52 (x0 + 1) d) = (-1) from c2), if_pos (show v_26 x0 (g_52 (x0 + 1) d) = 0 from c3)]
          have y1 : g_18 x0 d = g_26 x0 (g_52 (x0 + 1) d) := by simp only [g_18, if_pos (show d (x0 + 4 + 10) 0 < 16 from c0), if_neg (show ¬ v_56 (x0 + 1) (g_52 (x0 + 1) d) = (-1) from c1), if_pos (show v_48 (x0 + 4 + 10) (v_56 (x0 + 1) (g_52 (x0 + 1) d)) (g_52 (x0 + 1) d) = (-1) from c2), if_pos (show v_26 x0 (g_52 (x0 + 1) d) = 0 from c3)]
          rw [y0] at h
          rw [y1] at h
          exact h (show 0 ≤ ((0 : Int)) ∧ ((0 : Int)) ≤ 1 from (by omega)) (show ∀ b : Int, (b < x0 ∨ x0 + 1 < b) ∧ (b < x0 + 14 ∨ x0 + 19 < b) ∧ (b < x0 + 22 ∨ x0 + 52 < b) → (g_26 x0 (g_52 (x0 + 1) d)) b = d b from fun b hb => (F5 b (by omega)).trans (F1 b (by omega))) (show (g_26 x0 (g_52 (x0 + 1) d)) (x0 + 4) 2 ≤ 999 by omega) hS5
        · refine k_31 hS5 hx0 (fun e7 F6 k6_0 k6_1 k6_2 k6_3 hS6 => ?_)
          refine t_18_77 ?_
          have w8 := r_5_f2 hS6 (ldB.re hx0)
          refine ⟨m_inR (by omega) (by omega), fun c4 => ?_, fun c4 => ?_⟩
          · try rw [k6_1]
            have q7 := r_2_f5 hS5 hx0
            refine k_47 hS6 (stB.pe (ldB.st hx0)) (by omega) (fun F7 hS7 => ?_)
            refine t_18_96 ?_
            have w8 := r_5_f2 hS7 (ldB.re hx0)
            refine ⟨by omega, ?_⟩
            have q8 : (g_47 (x0 + 4 + 10) ((g_26 x0 (g_52 (x0 + 1) d)) x0 5) (g_31 x0 (g_26 x0 (g_52 (x0 + 1) d)))) (x0 + 4) 2 = d (x0 + 4) 2 := (((congrFun (F7 (x0 + 4) (by omega)) 2).trans (k6_3)).trans (k5_2)).trans (congrFun (F1 (x0 + 4) (by omega)) 2)
            have y0 : v_18 x0 d = 1 := by simp only [v_18, if_pos (show d (x0 + 4 + 10) 0 < 16 from c0), if_neg (show ¬ v_56 (x0 + 1) (g_52 (x0 + 1) d) = (-1) from c1), if_pos (show v_48 (x0 + 4 + 10) (v_56 (x0 + 1) (g_52 (x0 + 1) d)) (g_52 (x0 + 1) d) = (-1) from c2), if_neg (show ¬ v_26 x0 (g_52 (x0 + 1) d) = 0 from c3), if_neg (show ¬ v_31 x0 (g_26 x0 (g_52 (x0 + 1) d)) = 0 from c4)]
            have y1 : g_18 x0 d = g_47 (x0 + 4 + 10) ((g_26 x0 (g_52 (x0 + 1) d)) x0 5) (g_31 x0 (g_26 x0 (g_52 (x0 + 1) d))) := by simp only [g_18, if_pos (show d (x0 + 4 + 10) 0 < 16 from c0), if_neg (show ¬ v_56 (x0 + 1) (g_52 (x0 + 1) d) = (-1) from c1), if_pos (show v_48 (x0 + 4 + 10) (v_56 (x0 + 1) (g_52 (x0 + 1) d)) (g_52 (x0 + 1) d) = (-1) from c2), if_neg (show ¬ v_26 x0 (g_52 (x0 + 1) d) = 0 from c3), if_neg (show ¬ v_31 x0 (g_26 x0 (g_52 (x0 + 1) d)) = 0 from c4)]
            rw [y0] at h
            rw [y1] at h
            exact h (show 0 ≤ ((1 : Int)) ∧ ((1 : Int)) ≤ 1 from (by omega)) (show ∀ b : Int, (b < x0 ∨ x0 + 1 < b) ∧ (b < x0 + 14 ∨ x0 + 19 < b) ∧ (b < x0 + 22 ∨ x0 + 52 < b) → (g_47 (x0 + 4 + 10) ((g_26 x0 (g_52 (x0 + 1) d)) x0 5) (g_31 x0 (g_26 x0 (g_52 (x0 + 1) d)))) b = d b from fun b hb => (F7 b (by omega)).trans ((F6 b (by omega)).trans ((F5 b (by omega)).trans (F1 b (by omega))))) (show (g_47 (x0 + 4 + 10) ((g_26 x0 (g_52 (x0 + 1) d)) x0 5) (g_31 x0 (g_26 x0 (g_52 (x0 + 1) d)))) (x0 + 4) 2 ≤ 999 by omega) hS7
          · refine ⟨by omega, ?_⟩
            have q9 : (g_31 x0 (g_26 x0 (g_52 (x0 + 1) d))) (x0 + 4) 2 = d (x0 + 4) 2 := ((k6_3).trans (k5_2)).trans (congrFun (F1 (x0 + 4) (by omega)) 2)
            have y0 : v_18 x0 d = 0 := by simp only [v_18, if_pos (show d (x0 + 4 + 10) 0 < 16 from c0), if_neg (show ¬ v_56 (x0 + 1) (g_52 (x0 + 1) d) = (-1) from c1), if_pos (show v_48 (x0 + 4 + 10) (v_56 (x0 + 1) (g_52 (x0 + 1) d)) (g_52 (x0 + 1) d) = (-1) from c2), if_neg (show ¬ v_26 x0 (g_52 (x0 + 1) d) = 0 from c3), if_pos (show v_31 x0 (g_26 x0 (g_52 (x0 + 1) d)) = 0 from c4)]
            have y1 : g_18 x0 d = g_31 x0 (g_26 x0 (g_52 (x0 + 1) d)) := by simp only [g_18, if_pos (show d (x0 + 4 + 10) 0 < 16 from c0), if_neg (show ¬ v_56 (x0 + 1) (g_52 (x0 + 1) d) = (-1) from c1), if_pos (show v_48 (x0 + 4 + 10) (v_56 (x0 + 1) (g_52 (x0 + 1) d)) (g_52 (x0 + 1) d) = (-1) from c2), if_neg (show ¬ v_26 x0 (g_52 (x0 + 1) d) = 0 from c3), if_pos (show v_31 x0 (g_26 x0 (g_52 (x0 + 1) d)) = 0 from c4)]
            rw [y0] at h
            rw [y1] at h
            exact h (show 0 ≤ ((0 : Int)) ∧ ((0 : Int)) ≤ 1 from (by omega)) (show ∀ b : Int, (b < x0 ∨ x0 + 1 < b) ∧ (b < x0 + 14 ∨ x0 + 19 < b) ∧ (b < x0 + 22 ∨ x0 + 52 < b) → (g_31 x0 (g_26 x0 (g_52 (x0 + 1) d))) b = d b from fun b hb => (F6 b (by omega)).trans ((F5 b (by omega)).trans (F1 b (by omega)))) (show (g_31 x0 (g_26 x0 (g_52 (x0 + 1) d))) (x0 + 4) 2 ≤ 999 by omega) hS6
      · refine k_32 hS1 hx0 (by omega) (fun e8 F8 k8_0 k8_1 k8_2 k8_3 n8_0 hS8 => ?_)
        refine t_18_65 ?_
        have w8 := r_5_f2 hS8 (ldB.re hx0)
        refine ⟨by omega, ?_⟩
        have q10 : (g_32 x0 3 (g_52 (x0 + 1) d)) (x0 + 4) 2 = d (x0 + 4) 2 := (k8_3).trans (congrFun (F1 (x0 + 4) (by omega)) 2)
        have y0 : v_18 x0 d = v_32 x0 3 (g_52 (x0 + 1) d) := by simp only [v_18, if_pos (show d (x0 + 4 + 10) 0 < 16 from c0), if_neg (show ¬ v_56 (x0 + 1) (g_52 (x0 + 1) d) = (-1) from c1), if_neg (show ¬ v_48 (x0 + 4 + 10) (v_56 (x0 + 1) (g_52 (x0 + 1) d)) (g_52 (x0 + 1) d) = (-1) from c2)]
        have y1 : g_18 x0 d = g_32 x0 3 (g_52 (x0 + 1) d) := by simp only [g_18, if_pos (show d (x0 + 4 + 10) 0 < 16 from c0), if_neg (show ¬ v_56 (x0 + 1) (g_52 (x0 + 1) d) = (-1) from c1), if_neg (show ¬ v_48 (x0 + 4 + 10) (v_56 (x0 + 1) (g_52 (x0 + 1) d)) (g_52 (x0 + 1) d) = (-1) from c2)]
        rw [y0] at h
        rw [y1] at h
        exact h (show 0 ≤ (v_32 x0 3 (g_52 (x0 + 1) d)) ∧ (v_32 x0 3 (g_52 (x0 + 1) d)) ≤ 1 from (by omega)) (show ∀ b : Int, (b < x0 ∨ x0 + 1 < b) ∧ (b < x0 + 14 ∨ x0 + 19 < b) ∧ (b < x0 + 22 ∨ x0 + 52 < b) → (g_32 x0 3 (g_52 (x0 + 1) d)) b = d b from fun b hb => (F8 b (by omega)).trans (F1 b (by omega))) (show (g_32 x0 3 (g_52 (x0 + 1) d)) (x0 + 4) 2 ≤ 999 by omega) hS8
  · refine k_32 hS hx0 (by omega) (fun e9 F9 k9_0 k9_1 k9_2 k9_3 n9_0 hS9 => ?_)
    refine t_18_20 ?_
    have w8 := r_5_f2 hS9 (ldB.re hx0)
    refine ⟨by omega, ?_⟩
    have q11 : (g_32 x0 5 d) (x0 + 4) 2 = d (x0 + 4) 2 := k9_3
    have y0 : v_18 x0 d = v_32 x0 5 d := by simp only [v_18, if_neg (show ¬ d (x0 + 4 + 10) 0 < 16 from Int.not_lt.mpr c0)]
    have y1 : g_18 x0 d = g_32 x0 5 d := by simp only [g_18, if_neg (show ¬ d (x0 + 4 + 10) 0 < 16 from Int.not_lt.mpr c0)]
    rw [y0] at h
    rw [y1] at h
    exact h (show 0 ≤ (v_32 x0 5 d) ∧ (v_32 x0 5 d) ≤ 1 from (by omega)) (show ∀ b : Int, (b < x0 ∨ x0 + 1 < b) ∧ (b < x0 + 14 ∨ x0 + 19 < b) ∧ (b < x0 + 22 ∨ x0 + 52 < b) → (g_32 x0 5 d) b = d b from fun b hb => F9 b (by omega)) (show (g_32 x0 5 d) (x0 + 4) 2 ≤ 999 by omega) hS9
def st_17_2 (x0 : Int) (r2 : Int → mD → Int × mD) (x1 : Int) (d : mD) : Int × mD := if (16 : Int) < x1 then (1, d) else if v_55 (x0 + 1) 2 d = 0 then (1, d) else if v_18 x0 d = 0 then (0, g_18 x0 d) else r2 (x1 + 1) (g_18 x0 d)
def lp_17_2 (x0 : Int) : Nat → Int → mD → Int × mD
  | 0 => st_17_2 x0 (fun _ d => (0, d))
  | n + 1 => st_17_2 x0 (lp_17_2 x0 n)
theorem ls_17_2 {E : mO × tW} {K : tK} {x0 : Int} (hW : W55 E) (hx0 : ldB x0) (N2 : Int) (r2 : Int → mD → Int × mD) (ih2 : ∀ (x1 : Int) (d : mD), Safe d → (0 ≤ x1 ∧ x1 ≤ 17) → (d (x0 + 4) 2 ≤ 999) → 0 ≤ 17 - x1 → 17 - x1 < N2 → ((0 ≤ (r2 x1 d).1 ∧ (r2 x1 d).1 ≤ 1) → (∀ b : Int, (b < x0 ∨ x0 + 1 < b) ∧ (b < x0 + 14 ∨ x0 + 19 < b) ∧ (b < x0 + 22 ∨ x0 + 52 < b) → (r2 x1 d).2 b = d b) → ((r2 x1 d).2 (x0 + 4) 2 ≤ 999) → Safe (r2 x1 d).2 → K (.inl (some (0, (r2 x1 d).1))) (r2 x1 d).2) → tRun E 17 (2, [.inr (2, x0), .inl (0, x1)], [], 0, 0, d) K) (x1 : Int) (d : mD) (hS : Safe d) (i0 : 0 ≤ x1 ∧ x1 ≤ 17) (i1 : d (x0 + 4) 2 ≤ 999) (hm : 17 - x1 ≤ N2) (h : (0 ≤ (st_17_2 x0 r2 x1 d).1 ∧ (st_17_2 x0 r2 x1 d).1 ≤ 1) → (∀ b : Int, (b < x0 ∨ x0 + 1 < b) ∧ (b < x0 + 14 ∨ x0 + 19 < b) ∧ (b < x0 + 22 ∨ x0 + 52 < b) → (st_17_2 x0 r2 x1 d).2 b = d b) → ((st_17_2 x0 r2 x1 d).2 (x0 + 4) 2 ≤ 999) → Safe (st_17_2 x0 r2 x1 d).2 → K (.inl (some (0, (st_17_2 x0 r2 x1 d).1))) (st_17_2 x0 r2 x1 d).2) : tRun E 17 (2, [.inr (2, x0), .inl (0, x1)], [], 0, 0, d) K := by
  refine t_17_2 ?_
  have w8 := r_5_f2 hS (ldB.re hx0)
  refine ⟨⟨m_inR (by omega) (by omega), m_inR (by omega) (by omega)⟩, fun c0 => ?_, fun c0 => ?_⟩
  · refine ⟨by omega, ?_⟩
    have y0 : st_17_2 x0 r2 x1 d = (1, d) := by simp only [st_17_2, if_pos (show (16 : Int) < x1 from c0)]
    rw [y0] at h
    exact h (show 0 ≤ ((1 : Int)) ∧ ((1 : Int)) ≤ 1 from (by omega)) (show ∀ b : Int, (b < x0 ∨ x0 + 1 < b) ∧ (b < x0 + 14 ∨ x0 + 19 < b) ∧ (b < x0 + 22 ∨ x0 + 52 < b) → d b = d b from fun _ _ => rfl) (show d (x0 + 4) 2 ≤ 999 by omega) hS
  · refine k_55 hW hS (ldB.re hx0) (by omega) (fun e1 => ?_)
    refine t_17_17 ?_
    have w8 := r_5_f2 hS (ldB.re hx0)
    refine ⟨m_inR (by omega) (by omega), fun c1 => ?_, fun c1 => ?_⟩
    · refine ⟨by omega, ?_⟩
      have y0 : st_17_2 x0 r2 x1 d = (1, d) := by simp only [st_17_2, if_neg (show ¬ (16 : Int) < x1 from Int.not_lt.mpr c0), if_pos (show v_55 (x0 + 1) 2 d = 0 from c1)]
      rw [y0] at h
      exact h (show 0 ≤ ((1 : Int)) ∧ ((1 : Int)) ≤ 1 from (by omega)) (show ∀ b : Int, (b < x0 ∨ x0 + 1 < b) ∧ (b < x0 + 14 ∨ x0 + 19 < b) ∧ (b < x0 + 22 ∨ x0 + 52 < b) → d b = d b from fun _ _ => rfl) (show d (x0 + 4) 2 ≤ 999 by omega) hS
    · refine k_18 hS hx0 (by omega) (fun e2 F1 n1_0 hS1 => ?_)
      refine t_17_24 ?_
      have w8 := r_5_f2 hS1 (ldB.re hx0)
      refine ⟨m_inR (by omega) (by omega), fun c2 => ?_, fun c2 => ?_⟩
      · have q1 : (g_18 x0 d) (x0 + 4) 2 = d (x0 + 4) 2 := congrFun (F1 (x0 + 4) (by omega)) 2
        refine ih2 (x1 + 1)  (g_18 x0 d) hS1 (by omega) (by omega) (by omega) (by omega) ?_
        intro e F n0 hS_
        have y0 : st_17_2 x0 r2 x1 d = r2 (x1 + 1) (g_18 x0 d) := by simp only [st_17_2, if_neg (show ¬ (16 : Int) < x1 from Int.not_lt.mpr c0), if_neg (show ¬ v_55 (x0 + 1) 2 d = 0 from c1), if_neg (show ¬ v_18 x0 d = 0 from c2)]
        rw [y0] at h
        exact h e (fun b hb => (F b hb).trans ((show ∀ b : Int, (b < x0 ∨ x0 + 1 < b) ∧ (b < x0 + 14 ∨ x0 + 19 < b) ∧ (b < x0 + 22 ∨ x0 + 52 < b) → (g_18 x0 d) b = d b from fun b hb => F1 b (by omega)) b hb)) (by omega) hS_
      · refine ⟨by omega, ?_⟩
        have q2 : (g_18 x0 d) (x0 + 4) 2 = d (x0 + 4) 2 := congrFun (F1 (x0 + 4) (by omega)) 2
        have y0 : st_17_2 x0 r2 x1 d = (0, g_18 x0 d) := by simp only [st_17_2, if_neg (show ¬ (16 : Int) < x1 from Int.not_lt.mpr c0), if_neg (show ¬ v_55 (x0 + 1) 2 d = 0 from c1), if_pos (show v_18 x0 d = 0 from c2)]
        rw [y0] at h
        exact h (show 0 ≤ ((0 : Int)) ∧ ((0 : Int)) ≤ 1 from (by omega)) (show ∀ b : Int, (b < x0 ∨ x0 + 1 < b) ∧ (b < x0 + 14 ∨ x0 + 19 < b) ∧ (b < x0 + 22 ∨ x0 + 52 < b) → (g_18 x0 d) b = d b from fun b hb => F1 b (by omega)) (show (g_18 x0 d) (x0 + 4) 2 ≤ 999 by omega) hS1
theorem l_17_2 {E : mO × tW} {K : tK} {x0 : Int} (hW : W55 E) (hx0 : ldB x0) : ∀ (n : Nat) (x1 : Int) (d : mD), Safe d → (0 ≤ x1 ∧ x1 ≤ 17) → (d (x0 + 4) 2 ≤ 999) → 17 - x1 ≤ (n : Int) → ((0 ≤ (lp_17_2 x0 n x1 d).1 ∧ (lp_17_2 x0 n x1 d).1 ≤ 1) → (∀ b : Int, (b < x0 ∨ x0 + 1 < b) ∧ (b < x0 + 14 ∨ x0 + 19 < b) ∧ (b < x0 + 22 ∨ x0 + 52 < b) → (lp_17_2 x0 n x1 d).2 b = d b) → ((lp_17_2 x0 n x1 d).2 (x0 + 4) 2 ≤ 999) → Safe (lp_17_2 x0 n x1 d).2 → K (.inl (some (0, (lp_17_2 x0 n x1 d).1))) (lp_17_2 x0 n x1 d).2) → tRun E 17 (2, [.inr (2, x0), .inl (0, x1)], [], 0, 0, d) K := by
  intro n
  induction n with
  | zero =>
    intro x1  d hS i0 i1 hm  h
    exact ls_17_2 hW hx0 0 _ (fun _  _ _ _ _ m0 m1 _ => absurd m1 (by omega)) x1  d hS i0 i1 hm  h
  | succ n ih =>
    intro x1  d hS i0 i1 hm  h
    exact ls_17_2 hW hx0 ((n + 1 : Nat) : Int) _ (fun x1  d hS i0 i1  m0 m1 h => ih x1  d hS i0 i1 (by omega)  h) x1  d hS i0 i1 hm  h
def f_17 (x0 : Int) (d : mD) : Int × mD := lp_17_2 x0 (17 - 0 : Int).toNat 0 d
def v_17 (x0 : Int) (d : mD) : Int := (f_17 x0 d).1
def g_17 (x0 : Int) (d : mD) : mD := (f_17 x0 d).2
theorem k_17 {E : mO × tW} {K : tK} {d : mD} {x0 : Int} (hW : W55 E) (hS : Safe d) (hx0 : ldB x0) (ht : d (x0 + 4) 2 ≤ 999) (h : (0 ≤ (v_17 x0 d) ∧ (v_17 x0 d) ≤ 1) → (∀ b : Int, (b < x0 ∨ x0 + 1 < b) ∧ (b < x0 + 14 ∨ x0 + 19 < b) ∧ (b < x0 + 22 ∨ x0 + 52 < b) → (g_17 x0 d) b = d b) → ((g_17 x0 d) (x0 + 4) 2 ≤ 999) → Safe (g_17 x0 d) → K (.inl (some (0, (v_17 x0 d)))) (g_17 x0 d)) : tCall E 17 [.inr (2, x0)] d K := by
  simp only [v_17, g_17] at h
  refine t_17_0 ?_
  have w8 := r_5_f2 hS (ldB.re hx0)
  refine l_17_2 hW hx0 (17 - 0 : Int).toNat 0  d hS (by omega) (by omega) (by omega) ?_
  intro e F n0 hS_
  have y0 : f_17 x0 d = lp_17_2 x0 (17 - 0 : Int).toNat 0 d := by simp only [f_17]
  rw [y0] at h
  exact h e F (by omega) hS_
def v_20 (x0 : Int) (d : mD) : Int := if v_27 x0 (g_52 (x0 + 1) d) = 0 then 0 else if v_28 x0 (g_27 x0 (g_52 (x0 + 1) d)) = 0 then 0 else if v_30 x0 (g_28 x0 (g_27 x0 (g_52 (x0 + 1) d))) = 0 then 0 else if v_60 (x0 + 4) ((g_27 x0 (g_52 (x0 + 1) d)) x0 6) ((g_28 x0 (g_27 x0 (g_52 (x0 + 1) d))) x0 6) (g_30 x0 (g_28 x0 (g_27 x0 (g_52 (x0 + 1) d)))) = 0 then v_32 x0 6 (g_30 x0 (g_28 x0 (g_27 x0 (g_52 (x0 + 1) d)))) else v_31 x0 (g_61 (x0 + 4) ((g_27 x0 (g_52 (x0 + 1) d)) x0 6) ((g_28 x0 (g_27 x0 (g_52 (x0 + 1) d))) x0 6) (g_30 x0 (g_28 x0 (g_27 x0 (g_52 (x0 + 1) d)))))
def g_20 (x0 : Int) (d : mD) : mD := if v_27 x0 (g_52 (x0 + 1) d) = 0 then g_27 x0 (g_52 (x0 + 1) d) else if v_28 x0 (g_27 x0 (g_52 (x0 + 1) d)) = 0 then g_28 x0 (g_27 x0 (g_52 (x0 + 1) d)) else if v_30 x0 (g_28 x0 (g_27 x0 (g_52 (x0 + 1) d))) = 0 then g_30 x0 (g_28 x0 (g_27 x0 (g_52 (x0 + 1) d))) else if v_60 (x0 + 4) ((g_27 x0 (g_52 (x0 + 1) d)) x0 6) ((g_28 x0 (g_27 x0 (g_52 (x0 + 1) d))) x0 6) (g_30 x0 (g_28 x0 (g_27 x0 (g_52 (x0 + 1) d)))) = 0 then g_32 x0 6 (g_30 x0 (g_28 x0 (g_27 x0 (g_52 (x0 + 1) d)))) else g_31 x0 (g_61 (x0 + 4) ((g_27 x0 (g_52 (x0 + 1) d)) x0 6) ((g_28 x0 (g_27 x0 (g_52 (x0 + 1) d))) x0 6) (g_30 x0 (g_28 x0 (g_27 x0 (g_52 (x0 + 1) d)))))
theorem k_20 {E : mO × tW} {K : tK} {d : mD} {x0 : Int} (hS : Safe d) (hx0 : ldB x0) (ht : d (x0 + 4) 2 ≤ 999) (h : (0 ≤ (v_20 x0 d) ∧ (v_20 x0 d) ≤ 1) → (∀ b : Int, (b < x0 ∨ x0 + 1 < b) ∧ (b < x0 + 12 ∨ x0 + 13 < b) ∧ (b < x0 + 53 ∨ x0 + 60 < b) → (g_20 x0 d) b = d b) → ((g_20 x0 d) (x0 + 4) 2 ≤ 999) → Safe (g_20 x0 d) → K (.inl (some (0, (v_20 x0 d)))) (g_20 x0 d)) : tCall E 20 [.inr (2, x0)] d K := by
  refine t_20_0 ?_
  have w8 := r_5_f2 hS (ldB.re hx0)
  refine k_52 hS (ldB.re hx0) (fun F1 hS1 => ?_)
  refine t_20_7 ?_
  have w8 := r_5_f2 hS1 (ldB.re hx0)
  refine k_27 hS1 hx0 (fun e1 F2 k2_0 k2_1 n2_0 hS2 => ?_)
  refine t_20_11 ?_
  have w8 := r_5_f2 hS2 (ldB.re hx0)
  refine ⟨m_inR (by omega) (by omega), fun c0 => ?_, fun c0 => ?_⟩
  · refine k_28 hS2 hx0 (fun e2 F3 k3_0 k3_1 n3_0 hS3 => ?_)
    refine t_20_25 ?_
    have w8 := r_5_f2 hS3 (ldB.re hx0)
    refine ⟨m_inR (by omega) (by omega), fun c1 => ?_, fun c1 => ?_⟩
    · refine ⟨by omega, ?_⟩
      have q1 : (g_28 x0 (g_27 x0 (g_52 (x0 + 1) d))) (x0 + 4) 2 = d (x0 + 4) 2 := ((k3_1).trans (k2_1)).trans (congrFun (F1 (x0 + 4) (by omega)) 2)
      have y0 : v_20 x0 d = 0 := by simp only [v_20, if_neg (show ¬ v_27 x0 (g_52 (x0 + 1) d) = 0 from c0), if_pos (show v_28 x0 (g_27 x0 (g_52 (x0 + 1) d)) = 0 from c1)]
      have y1 : g_20 x0 d = g_28 x0 (g_27 x0 (g_52 (x0 + 1) d)) := by simp only [g_20, if_neg (show ¬ v_27 x0 (g_52 (x0 + 1) d) = 0 from c0), if_pos (show v_28 x0 (g_27 x0 (g_52 (x0 + 1) d)) = 0 from c1)]
      rw [y0] at h
      rw [y1] at h
      exact h (show 0 ≤ ((0 : Int)) ∧ ((0 : Int)) ≤ 1 from (by omega)) (show ∀ b : Int, (b < x0 ∨ x0 + 1 < b) ∧ (b < x0 + 12 ∨ x0 + 13 < b) ∧ (b < x0 + 53 ∨ x0 + 60 < b) → (g_28 x0 (g_27 x0 (g_52 (x0 + 1) d))) b = d b from fun b hb => (F3 b (by omega)).trans ((F2 b (by omega)).trans (F1 b (by omega)))) (show (g_28 x0 (g_27 x0 (g_52 (x0 + 1) d))) (x0 + 4) 2 ≤ 999 by omega) hS3
    · refine k_30 hS3 hx0 (fun e3 F4 k4_0 k4_1 k4_2 k4_3 hS4 => ?_)
      refine t_20_32 ?_
      have w8 := r_5_f2 hS4 (ldB.re hx0)
      refine ⟨m_inR (by omega) (by omega), fun c2 => ?_, fun c2 => ?_⟩
      · try rw [k4_2]
        have q2 := r_2_f6 hS2 hx0
        have q3 := r_2_f6 hS3 hx0
        refine k_60 hS4 (ldB.st hx0) (m_inR (by omega) (by omega)) (by omega) (fun e4 => ?_)
        refine t_20_49 ?_
        have w8 := r_5_f2 hS4 (ldB.re hx0)
        refine ⟨m_inR (by omega) (by omega), fun c3 => ?_, fun c3 => ?_⟩
        · try rw [k4_2]
          have q4 : (g_30 x0 (g_28 x0 (g_27 x0 (g_52 (x0 + 1) d)))) (x0 + 4 + 49) 0 = d (x0 + 4 + 49) 0 := (((congrFun (F4 (x0 + 4 + 49) (by omega)) 0).trans (congrFun (F3 (x0 + 4 + 49) (by omega)) 0)).trans (congrFun (F2 (x0 + 4 + 49) (by omega)) 0)).trans (congrFun (F1 (x0 + 4 + 49) (by omega)) 0)
          have q5 : (g_30 x0 (g_28 x0 (g_27 x0 (g_52 (x0 + 1) d)))) (x0 + 4) 2 = d (x0 + 4) 2 := (((k4_3).trans (k3_1)).trans (k2_1)).trans (congrFun (F1 (x0 + 4) (by omega)) 2)
          refine k_61 hS4 (ldB.st hx0) (by omega) (by omega) (by omega) (by omega) (fun e5 F5 hS5 => ?_)
          refine t_20_71 ?_
          have w8 := r_5_f2 hS5 (ldB.re hx0)
          refine k_31 hS5 hx0 (fun e6 F6 k6_0 k6_1 k6_2 k6_3 hS6 => ?_)
          refine t_20_76 ?_
          have w8 := r_5_f2 hS6 (ldB.re hx0)
          refine ⟨by omega, ?_⟩
          have q6 : (g_31 x0 (g_61 (x0 + 4) ((g_27 x0 (g_52 (x0 + 1) d)) x0 6) ((g_28 x0 (g_27 x0 (g_52 (x0 + 1) d))) x0 6) (g_30 x0 (g_28 x0 (g_27 x0 (g_52 (x0 + 1) d)))))) (x0 + 4) 2 = d (x0 + 4) 2 := (((((k6_3).trans (congrFun (F5 (x0 + 4) (by omega)) 2)).trans (k4_3)).trans (k3_1)).trans (k2_1)).trans (congrFun (F1 (x0 + 4) (by omega)) 2)
          have y0 : v_20 x0 d = v_31 x0 (g_61 (x0 + 4) ((g_27 x0 (g_52 (x0 + 1) d)) x0 6) ((g_28 x0 (g_27 x0 (g_52 (x0 + 1) d))) x0 6) (g_30 x0 (g_28 x0 (g_27 x0 (g_52 (x0 + 1) d))))) := by simp only [v_20, if_neg (show ¬ v_27 x0 (g_52 (x0 + 1) d) = 0 from c0), if_neg (show ¬ v_28 x0 (g_27 x0 (g_52 (x0 + 1) d)) = 0 from c1), if_neg (show ¬ v_30 x0 (g_28 x0 (g_27 x0 (g_52 (x0 + 1) d))) = 0 from c2), if_neg (show ¬ v_60 (x0 + 4) ((g_27 x0 (g_52 (x0 + 1) d)) x0 6) ((g_28 x0 (g_27 x0 (g_52 (x0 + 1) d))) x0 6) (g_30 x0 (g_28 x0 (g_27 x0 (g_52 (x0 + 1) d)))) = 0 from c3)]
          have y1 : g_20 x0 d = g_31 x0 (g_61 (x0 + 4) ((g_27 x0 (g_52 (x0 + 1) d)) x0 6) ((g_28 x0 (g_27 x0 (g_52 (x0 + 1) d))) x0 6) (g_30 x0 (g_28 x0 (g_27 x0 (g_52 (x0 + 1) d))))) := by simp only [g_20, if_neg (show ¬ v_27 x0 (g_52 (x0 + 1) d) = 0 from c0), if_neg (show ¬ v_28 x0 (g_27 x0 (g_52 (x0 + 1) d)) = 0 from c1), if_neg (show ¬ v_30 x0 (g_28 x0 (g_27 x0 (g_52 (x0 + 1) d))) = 0 from c2), if_neg (show ¬ v_60 (x0 + 4) ((g_27 x0 (g_52 (x0 + 1) d)) x0 6) ((g_28 x0 (g_27 x0 (g_52 (x0 + 1) d))) x0 6) (g_30 x0 (g_28 x0 (g_27 x0 (g_52 (x0 + 1) d)))) = 0 from c3)]
          rw [y0] at h
          rw [y1] at h
          exact h (show 0 ≤ (v_31 x0 (g_61 (x0 + 4) ((g_27 x0 (g_52 (x0 + 1) d)) x0 6) ((g_28 x0 (g_27 x0 (g_52 (x0 + 1) d))) x0 6) (g_30 x0 (g_28 x0 (g_27 x0 (g_52 (x0 + 1) d)))))) ∧ (v_31 x0 (g_61 (x0 + 4) ((g_27 x0 (g_52 (x0 + 1) d)) x0 6) ((g_28 x0 (g_27 x0 (g_52 (x0 + 1) d))) x0 6) (g_30 x0 (g_28 x0 (g_27 x0 (g_52 (x0 + 1) d)))))) ≤ 1 from (by omega)) (show ∀ b : Int, (b < x0 ∨ x0 + 1 < b) ∧ (b < x0 + 12 ∨ x0 + 13 < b) ∧ (b < x0 + 53 ∨ x0 + 60 < b) → (g_31 x0 (g_61 (x0 + 4) ((g_27 x0 (g_52 (x0 + 1) d)) x0 6) ((g_28 x0 (g_27 x0 (g_52 (x0 + 1) d))) x0 6) (g_30 x0 (g_28 x0 (g_27 x0 (g_52 (x0 + 1) d)))))) b = d b from fun b hb => (F6 b (by omega)).trans ((F5 b (by omega)).trans ((F4 b (by omega)).trans ((F3 b (by omega)).trans ((F2 b (by omega)).trans (F1 b (by omega))))))) (show (g_31 x0 (g_61 (x0 + 4) ((g_27 x0 (g_52 (x0 + 1) d)) x0 6) ((g_28 x0 (g_27 x0 (g_52 (x0 + 1) d))) x0 6) (g_30 x0 (g_28 x0 (g_27 x0 (g_52 (x0 + 1) d)))))) (x0 + 4) 2 ≤ 999 by omega) hS6
        · refine k_32 hS4 hx0 (by omega) (fun e7 F7 k7_0 k7_1 k7_2 k7_3 n7_0 hS7 => ?_)
          refine t_20_58 ?_
          have w8 := r_5_f2 hS7 (ldB.re hx0)
          refine ⟨by omega, ?_⟩
          have q7 : (g_32 x0 6 (g_30 x0 (g_28 x0 (g_27 x0 (g_52 (x0 + 1) d))))) (x0 + 4) 2 = d (x0 + 4) 2 := ((((k7_3).trans (k4_3)).trans (k3_1)).trans (k2_1)).trans (congrFun (F1 (x0 + 4) (by omega)) 2)
          have y0 : v_20 x0 d = v_32 x0 6 (g_30 x0 (g_28 x0 (g_27 x0 (g_52 (x0 + 1) d)))) := by simp only [v_20, if_neg (show ¬ v_27 x0 (g_52 (x0 + 1) d) = 0 from c0), if_neg (show ¬ v_28 x0 (g_27 x0 (g_52 (x0 + 1) d)) = 0 from c1), if_neg (show ¬ v_30 x0 (g_28 x0 (g_27 x0 (g_52 (x0 + 1) d))) = 0 from c2), if_pos (show v_60 (x0 + 4) ((g_27 x0 (g_52 (x0 + 1) d)) x0 6) ((g_28 x0 (g_27 x0 (g_52 (x0 + 1) d))) x0 6) (g_30 x0 (g_28 x0 (g_27 x0 (g_52 (x0 + 1) d)))) = 0 from c3)]
          have y1 : g_20 x0 d = g_32 x0 6 (g_30 x0 (g_28 x0 (g_27 x0 (g_52 (x0 + 1) d)))) := by simp only [g_20, if_neg (show ¬ v_27 x0 (g_52 (x0 + 1) d) = 0 from c0), if_neg (show ¬ v_28 x0 (g_27 x0 (g_52 (x0 + 1) d)) = 0 from c1), if_neg (show ¬ v_30 x0 (g_28 x0 (g_27 x0 (g_52 (x0 + 1) d))) = 0 from c2), if_pos (show v_60 (x0 + 4) ((g_27 x0 (g_52 (x0 + 1) d)) x0 6) ((g_28 x0 (g_27 x0 (g_52 (x0 + 1) d))) x0 6) (g_30 x0 (g_28 x0 (g_27 x0 (g_52 (x0 + 1) d)))) = 0 from c3)]
          rw [y0] at h
          rw [y1] at h
          exact h (show 0 ≤ (v_32 x0 6 (g_30 x0 (g_28 x0 (g_27 x0 (g_52 (x0 + 1) d))))) ∧ (v_32 x0 6 (g_30 x0 (g_28 x0 (g_27 x0 (g_52 (x0 + 1) d))))) ≤ 1 from (by omega)) (show ∀ b : Int, (b < x0 ∨ x0 + 1 < b) ∧ (b < x0 + 12 ∨ x0 + 13 < b) ∧ (b < x0 + 53 ∨ x0 + 60 < b) → (g_32 x0 6 (g_30 x0 (g_28 x0 (g_27 x0 (g_52 (x0 + 1) d))))) b = d b from fun b hb => (F7 b (by omega)).trans ((F4 b (by omega)).trans ((F3 b (by omega)).trans ((F2 b (by omega)).trans (F1 b (by omega)))))) (show (g_32 x0 6 (g_30 x0 (g_28 x0 (g_27 x0 (g_52 (x0 + 1) d))))) (x0 + 4) 2 ≤ 999 by omega) hS7
      · refine ⟨by omega, ?_⟩
        have q8 : (g_30 x0 (g_28 x0 (g_27 x0 (g_52 (x0 + 1) d)))) (x0 + 4) 2 = d (x0 + 4) 2 := (((k4_3).trans (k3_1)).trans (k2_1)).trans (congrFun (F1 (x0 + 4) (by omega)) 2)
        have y0 : v_20 x0 d = 0 := by simp only [v_20, if_neg (show ¬ v_27 x0 (g_52 (x0 + 1) d) = 0 from c0), if_neg (show ¬ v_28 x0 (g_27 x0 (g_52 (x0 + 1) d)) = 0 from c1), if_pos (show v_30 x0 (g_28 x0 (g_27 x0 (g_52 (x0 + 1) d))) = 0 from c2)]
        have y1 : g_20 x0 d = g_30 x0 (g_28 x0 (g_27 x0 (g_52 (x0 + 1) d))) := by simp only [g_20, if_neg (show ¬ v_27 x0 (g_52 (x0 + 1) d) = 0 from c0), if_neg (show ¬ v_28 x0 (g_27 x0 (g_52 (x0 + 1) d)) = 0 from c1), if_pos (show v_30 x0 (g_28 x0 (g_27 x0 (g_52 (x0 + 1) d))) = 0 from c2)]
        rw [y0] at h
        rw [y1] at h
        exact h (show 0 ≤ ((0 : Int)) ∧ ((0 : Int)) ≤ 1 from (by omega)) (show ∀ b : Int, (b < x0 ∨ x0 + 1 < b) ∧ (b < x0 + 12 ∨ x0 + 13 < b) ∧ (b < x0 + 53 ∨ x0 + 60 < b) → (g_30 x0 (g_28 x0 (g_27 x0 (g_52 (x0 + 1) d)))) b = d b from fun b hb => (F4 b (by omega)).trans ((F3 b (by omega)).trans ((F2 b (by omega)).trans (F1 b (by omega))))) (show (g_30 x0 (g_28 x0 (g_27 x0 (g_52 (x0 + 1) d)))) (x0 + 4) 2 ≤ 999 by omega) hS4
  · refine ⟨by omega, ?_⟩
    have q9 : (g_27 x0 (g_52 (x0 + 1) d)) (x0 + 4) 2 = d (x0 + 4) 2 := (k2_1).trans (congrFun (F1 (x0 + 4) (by omega)) 2)
    have y0 : v_20 x0 d = 0 := by simp only [v_20, if_pos (show v_27 x0 (g_52 (x0 + 1) d) = 0 from c0)]
    have y1 : g_20 x0 d = g_27 x0 (g_52 (x0 + 1) d) := by simp only [g_20, if_pos (show v_27 x0 (g_52 (x0 + 1) d) = 0 from c0)]
    rw [y0] at h
    rw [y1] at h
    exact h (show 0 ≤ ((0 : Int)) ∧ ((0 : Int)) ≤ 1 from (by omega)) (show ∀ b : Int, (b < x0 ∨ x0 + 1 < b) ∧ (b < x0 + 12 ∨ x0 + 13 < b) ∧ (b < x0 + 53 ∨ x0 + 60 < b) → (g_27 x0 (g_52 (x0 + 1) d)) b = d b from fun b hb => (F2 b (by omega)).trans (F1 b (by omega))) (show (g_27 x0 (g_52 (x0 + 1) d)) (x0 + 4) 2 ≤ 999 by omega) hS2
def v_21 (x0 : Int) (d : mD) : Int := if v_25 x0 1 99 (g_52 (x0 + 1) d) = 0 then 0 else if v_30 x0 (g_25 x0 1 99 (g_52 (x0 + 1) d)) = 0 then 0 else if v_67 (x0 + 4) ((g_25 x0 1 99 (g_52 (x0 + 1) d)) x0 4) (g_30 x0 (g_25 x0 1 99 (g_52 (x0 + 1) d))) = 0 then v_32 x0 6 (g_30 x0 (g_25 x0 1 99 (g_52 (x0 + 1) d))) else v_31 x0 (g_68 (x0 + 4) ((g_25 x0 1 99 (g_52 (x0 + 1) d)) x0 4) (g_30 x0 (g_25 x0 1 99 (g_52 (x0 + 1) d))))
def g_21 (x0 : Int) (d : mD) : mD := if v_25 x0 1 99 (g_52 (x0 + 1) d) = 0 then g_25 x0 1 99 (g_52 (x0 + 1) d) else if v_30 x0 (g_25 x0 1 99 (g_52 (x0 + 1) d)) = 0 then g_30 x0 (g_25 x0 1 99 (g_52 (x0 + 1) d)) else if v_67 (x0 + 4) ((g_25 x0 1 99 (g_52 (x0 + 1) d)) x0 4) (g_30 x0 (g_25 x0 1 99 (g_52 (x0 + 1) d))) = 0 then g_32 x0 6 (g_30 x0 (g_25 x0 1 99 (g_52 (x0 + 1) d))) else g_31 x0 (g_68 (x0 + 4) ((g_25 x0 1 99 (g_52 (x0 + 1) d)) x0 4) (g_30 x0 (g_25 x0 1 99 (g_52 (x0 + 1) d))))
theorem k_21 {E : mO × tW} {K : tK} {d : mD} {x0 : Int} (hS : Safe d) (hx0 : ldB x0) (ht : d (x0 + 4) 2 ≤ 999) (h : (0 ≤ (v_21 x0 d) ∧ (v_21 x0 d) ≤ 1) → (∀ b : Int, (b < x0 ∨ x0 + 1 < b) ∧ (b < x0 + 4 ∨ x0 + 4 < b) ∧ (b < x0 + 12 ∨ x0 + 13 < b) ∧ (b < x0 + 16 ∨ x0 + 19 < b) ∧ (b < x0 + 22 ∨ x0 + 52 < b) ∧ (b < x0 + 57 ∨ x0 + 58 < b) ∧ (b < x0 + 61 ∨ x0 + 66 < b) → (g_21 x0 d) b = d b) → ((g_21 x0 d) (x0 + 4) 2 ≤ 999) → Safe (g_21 x0 d) → K (.inl (some (0, (v_21 x0 d)))) (g_21 x0 d)) : tCall E 21 [.inr (2, x0)] d K := by
  refine t_21_0 ?_
  have w8 := r_5_f2 hS (ldB.re hx0)
  refine k_52 hS (ldB.re hx0) (fun F1 hS1 => ?_)
  refine t_21_7 ?_
  have w8 := r_5_f2 hS1 (ldB.re hx0)
  refine k_25 hS1 hx0 (by omega) (by omega) (fun e1 F2 k2_0 k2_1 k2_2 n2_0 hS2 => ?_)
  refine t_21_14 ?_
  have w8 := r_5_f2 hS2 (ldB.re hx0)
  refine ⟨m_inR (by omega) (by omega), fun c0 => ?_, fun c0 => ?_⟩
  · refine ⟨by omega, ?_⟩
    have q1 : (g_25 x0 1 99 (g_52 (x0 + 1) d)) (x0 + 4) 2 = d (x0 + 4) 2 := (k2_2).trans (congrFun (F1 (x0 + 4) (by omega)) 2)
    have y0 : v_21 x0 d = 0 := by simp only [v_21, if_pos (show v_25 x0 1 99 (g_52 (x0 + 1) d) = 0 from c0)]
    have y1 : g_21 x0 d = g_25 x0 1 99 (g_52 (x0 + 1) d) := by simp only [g_21, if_pos (show v_25 x0 1 99 (g_52 (x0 + 1) d) = 0 from c0)]
    rw [y0] at h
    rw [y1] at h
    exact h (show 0 ≤ ((0 : Int)) ∧ ((0 : Int)) ≤ 1 from (by omega)) (show ∀ b : Int, (b < x0 ∨ x0 + 1 < b) ∧ (b < x0 + 4 ∨ x0 + 4 < b) ∧ (b < x0 + 12 ∨ x0 + 13 < b) ∧ (b < x0 + 16 ∨ x0 + 19 < b) ∧ (b < x0 + 22 ∨ x0 + 52 < b) ∧ (b < x0 + 57 ∨ x0 + 58 < b) ∧ (b < x0 + 61 ∨ x0 + 66 < b) → (g_25 x0 1 99 (g_52 (x0 + 1) d)) b = d b from fun b hb => (F2 b (by omega)).trans (F1 b (by omega))) (show (g_25 x0 1 99 (g_52 (x0 + 1) d)) (x0 + 4) 2 ≤ 999 by omega) hS2
  · refine k_30 hS2 hx0 (fun e2 F3 k3_0 k3_1 k3_2 k3_3 hS3 => ?_)
    refine t_21_21 ?_
    have w8 := r_5_f2 hS3 (ldB.re hx0)
    refine ⟨m_inR (by omega) (by omega), fun c1 => ?_, fun c1 => ?_⟩
    · try rw [k3_0]
      have q2 := r_2_f4 hS2 hx0
      refine k_67 hS3 (ldB.st hx0) (by omega) (fun e3 => ?_)
      refine t_21_37 ?_
      have w8 := r_5_f2 hS3 (ldB.re hx0)
      refine ⟨m_inR (by omega) (by omega), fun c2 => ?_, fun c2 => ?_⟩
      · try rw [k3_0]
        have q3 : (g_30 x0 (g_25 x0 1 99 (g_52 (x0 + 1) d))) (x0 + 4) 2 = d (x0 + 4) 2 := ((k3_3).trans (k2_2)).trans (congrFun (F1 (x0 + 4) (by omega)) 2)
        refine k_68 hS3 (ldB.st hx0) (by omega) (by omega) (by omega) (fun e4 F4 n4_0 hS4 => ?_)
        refine t_21_58 ?_
        have w8 := r_5_f2 hS4 (ldB.re hx0)
        refine k_31 hS4 hx0 (fun e5 F5 k5_0 k5_1 k5_2 k5_3 hS5 => ?_)
        refine t_21_63 ?_
        have w8 := r_5_f2 hS5 (ldB.re hx0)
        refine ⟨by omega, ?_⟩
        have q4 : (g_31 x0 (g_68 (x0 + 4) ((g_25 x0 1 99 (g_52 (x0 + 1) d)) x0 4) (g_30 x0 (g_25 x0 1 99 (g_52 (x0 + 1) d))))) (x0 + 4) 2 = (g_68 (x0 + 4) ((g_25 x0 1 99 (g_52 (x0 + 1) d)) x0 4) (g_30 x0 (g_25 x0 1 99 (g_52 (x0 + 1) d)))) (x0 + 4) 2 := k5_3
        have y0 : v_21 x0 d = v_31 x0 (g_68 (x0 + 4) ((g_25 x0 1 99 (g_52 (x0 + 1) d)) x0 4) (g_30 x0 (g_25 x0 1 99 (g_52 (x0 + 1) d)))) := by simp only [v_21, if_neg (show ¬ v_25 x0 1 99 (g_52 (x0 + 1) d) = 0 from c0), if_neg (show ¬ v_30 x0 (g_25 x0 1 99 (g_52 (x0 + 1) d)) = 0 from c1), if_neg (show ¬ v_67 (x0 + 4) ((g_25 x0 1 99 (g_52 (x0 + 1) d)) x0 4) (g_30 x0 (g_25 x0 1 99 (g_52 (x0 + 1) d))) = 0 from c2)]
        have y1 : g_21 x0 d = g_31 x0 (g_68 (x0 + 4) ((g_25 x0 1 99 (g_52 (x0 + 1) d)) x0 4) (g_30 x0 (g_25 x0 1 99 (g_52 (x0 + 1) d)))) := by simp only [g_21, if_neg (show ¬ v_25 x0 1 99 (g_52 (x0 + 1) d) = 0 from c0), if_neg (show ¬ v_30 x0 (g_25 x0 1 99 (g_52 (x0 + 1) d)) = 0 from c1), if_neg (show ¬ v_67 (x0 + 4) ((g_25 x0 1 99 (g_52 (x0 + 1) d)) x0 4) (g_30 x0 (g_25 x0 1 99 (g_52 (x0 + 1) d))) = 0 from c2)]
        rw [y0] at h
        rw [y1] at h
        exact h (show 0 ≤ (v_31 x0 (g_68 (x0 + 4) ((g_25 x0 1 99 (g_52 (x0 + 1) d)) x0 4) (g_30 x0 (g_25 x0 1 99 (g_52 (x0 + 1) d))))) ∧ (v_31 x0 (g_68 (x0 + 4) ((g_25 x0 1 99 (g_52 (x0 + 1) d)) x0 4) (g_30 x0 (g_25 x0 1 99 (g_52 (x0 + 1) d))))) ≤ 1 from (by omega)) (show ∀ b : Int, (b < x0 ∨ x0 + 1 < b) ∧ (b < x0 + 4 ∨ x0 + 4 < b) ∧ (b < x0 + 12 ∨ x0 + 13 < b) ∧ (b < x0 + 16 ∨ x0 + 19 < b) ∧ (b < x0 + 22 ∨ x0 + 52 < b) ∧ (b < x0 + 57 ∨ x0 + 58 < b) ∧ (b < x0 + 61 ∨ x0 + 66 < b) → (g_31 x0 (g_68 (x0 + 4) ((g_25 x0 1 99 (g_52 (x0 + 1) d)) x0 4) (g_30 x0 (g_25 x0 1 99 (g_52 (x0 + 1) d))))) b = d b from fun b hb => (F5 b (by omega)).trans ((F4 b (by omega)).trans ((F3 b (by omega)).trans ((F2 b (by omega)).trans (F1 b (by omega)))))) (show (g_31 x0 (g_68 (x0 + 4) ((g_25 x0 1 99 (g_52 (x0 + 1) d)) x0 4) (g_30 x0 (g_25 x0 1 99 (g_52 (x0 + 1) d))))) (x0 + 4) 2 ≤ 999 by omega) hS5
      · refine k_32 hS3 hx0 (by omega) (fun e6 F6 k6_0 k6_1 k6_2 k6_3 n6_0 hS6 => ?_)
        refine t_21_46 ?_
        have w8 := r_5_f2 hS6 (ldB.re hx0)
        refine ⟨by omega, ?_⟩
        have q5 : (g_32 x0 6 (g_30 x0 (g_25 x0 1 99 (g_52 (x0 + 1) d)))) (x0 + 4) 2 = d (x0 + 4) 2 := (((k6_3).trans (k3_3)).trans (k2_2)).trans (congrFun (F1 (x0 + 4) (by omega)) 2)
        have y0 : v_21 x0 d = v_32 x0 6 (g_30 x0 (g_25 x0 1 99 (g_52 (x0 + 1) d))) := by simp only [v_21, if_neg (show ¬ v_25 x0 1 99 (g_52 (x0 + 1) d) = 0 from c0), if_neg (show ¬ v_30 x0 (g_25 x0 1 99 (g_52 (x0 + 1) d)) = 0 from c1), if_pos (show v_67 (x0 + 4) ((g_25 x0 1 99 (g_52 (x0 + 1) d)) x0 4) (g_30 x0 (g_25 x0 1 99 (g_52 (x0 + 1) d))) = 0 from c2)]
        have y1 : g_21 x0 d = g_32 x0 6 (g_30 x0 (g_25 x0 1 99 (g_52 (x0 + 1) d))) := by simp only [g_21, if_neg (show ¬ v_25 x0 1 99 (g_52 (x0 + 1) d) = 0 from c0), if_neg (show ¬ v_30 x0 (g_25 x0 1 99 (g_52 (x0 + 1) d)) = 0 from c1), if_pos (show v_67 (x0 + 4) ((g_25 x0 1 99 (g_52 (x0 + 1) d)) x0 4) (g_30 x0 (g_25 x0 1 99 (g_52 (x0 + 1) d))) = 0 from c2)]
        rw [y0] at h
        rw [y1] at h
        exact h (show 0 ≤ (v_32 x0 6 (g_30 x0 (g_25 x0 1 99 (g_52 (x0 + 1) d)))) ∧ (v_32 x0 6 (g_30 x0 (g_25 x0 1 99 (g_52 (x0 + 1) d)))) ≤ 1 from (by omega)) (show ∀ b : Int, (b < x0 ∨ x0 + 1 < b) ∧ (b < x0 + 4 ∨ x0 + 4 < b) ∧ (b < x0 + 12 ∨ x0 + 13 < b) ∧ (b < x0 + 16 ∨ x0 + 19 < b) ∧ (b < x0 + 22 ∨ x0 + 52 < b) ∧ (b < x0 + 57 ∨ x0 + 58 < b) ∧ (b < x0 + 61 ∨ x0 + 66 < b) → (g_32 x0 6 (g_30 x0 (g_25 x0 1 99 (g_52 (x0 + 1) d)))) b = d b from fun b hb => (F6 b (by omega)).trans ((F3 b (by omega)).trans ((F2 b (by omega)).trans (F1 b (by omega))))) (show (g_32 x0 6 (g_30 x0 (g_25 x0 1 99 (g_52 (x0 + 1) d)))) (x0 + 4) 2 ≤ 999 by omega) hS6
    · refine ⟨by omega, ?_⟩
      have q6 : (g_30 x0 (g_25 x0 1 99 (g_52 (x0 + 1) d))) (x0 + 4) 2 = d (x0 + 4) 2 := ((k3_3).trans (k2_2)).trans (congrFun (F1 (x0 + 4) (by omega)) 2)
      have y0 : v_21 x0 d = 0 := by simp only [v_21, if_neg (show ¬ v_25 x0 1 99 (g_52 (x0 + 1) d) = 0 from c0), if_pos (show v_30 x0 (g_25 x0 1 99 (g_52 (x0 + 1) d)) = 0 from c1)]
      have y1 : g_21 x0 d = g_30 x0 (g_25 x0 1 99 (g_52 (x0 + 1) d)) := by simp only [g_21, if_neg (show ¬ v_25 x0 1 99 (g_52 (x0 + 1) d) = 0 from c0), if_pos (show v_30 x0 (g_25 x0 1 99 (g_52 (x0 + 1) d)) = 0 from c1)]
      rw [y0] at h
      rw [y1] at h
      exact h (show 0 ≤ ((0 : Int)) ∧ ((0 : Int)) ≤ 1 from (by omega)) (show ∀ b : Int, (b < x0 ∨ x0 + 1 < b) ∧ (b < x0 + 4 ∨ x0 + 4 < b) ∧ (b < x0 + 12 ∨ x0 + 13 < b) ∧ (b < x0 + 16 ∨ x0 + 19 < b) ∧ (b < x0 + 22 ∨ x0 + 52 < b) ∧ (b < x0 + 57 ∨ x0 + 58 < b) ∧ (b < x0 + 61 ∨ x0 + 66 < b) → (g_30 x0 (g_25 x0 1 99 (g_52 (x0 + 1) d))) b = d b from fun b hb => (F3 b (by omega)).trans ((F2 b (by omega)).trans (F1 b (by omega)))) (show (g_30 x0 (g_25 x0 1 99 (g_52 (x0 + 1) d))) (x0 + 4) 2 ≤ 999 by omega) hS3
def v_22 (x0 : Int) (d : mD) : Int := if v_29 x0 (g_52 (x0 + 1) d) = 0 then 0 else if v_30 x0 (g_29 x0 (g_52 (x0 + 1) d)) = 0 then 0 else if v_73 (x0 + 4) ((g_29 x0 (g_52 (x0 + 1) d)) x0 6) (g_30 x0 (g_29 x0 (g_52 (x0 + 1) d))) = 0 then v_32 x0 6 (g_30 x0 (g_29 x0 (g_52 (x0 + 1) d))) else v_31 x0 (g_74 (x0 + 4) ((g_29 x0 (g_52 (x0 + 1) d)) x0 6) (g_30 x0 (g_29 x0 (g_52 (x0 + 1) d))))
def g_22 (x0 : Int) (d : mD) : mD := if v_29 x0 (g_52 (x0 + 1) d) = 0 then g_29 x0 (g_52 (x0 + 1) d) else if v_30 x0 (g_29 x0 (g_52 (x0 + 1) d)) = 0 then g_30 x0 (g_29 x0 (g_52 (x0 + 1) d)) else if v_73 (x0 + 4) ((g_29 x0 (g_52 (x0 + 1) d)) x0 6) (g_30 x0 (g_29 x0 (g_52 (x0 + 1) d))) = 0 then g_32 x0 6 (g_30 x0 (g_29 x0 (g_52 (x0 + 1) d))) else g_31 x0 (g_74 (x0 + 4) ((g_29 x0 (g_52 (x0 + 1) d)) x0 6) (g_30 x0 (g_29 x0 (g_52 (x0 + 1) d))))
theorem k_22 {E : mO × tW} {K : tK} {d : mD} {x0 : Int} (hS : Safe d) (hx0 : ldB x0) (ht : d (x0 + 4) 2 ≤ 999) (h : (0 ≤ (v_22 x0 d) ∧ (v_22 x0 d) ≤ 1) → (∀ b : Int, (b < x0 ∨ x0 + 1 < b) ∧ (b < x0 + 17 ∨ x0 + 17 < b) ∧ (b < x0 + 22 ∨ x0 + 52 < b) ∧ (b < x0 + 59 ∨ x0 + 59 < b) ∧ (b < x0 + 61 ∨ x0 + 65 < b) → (g_22 x0 d) b = d b) → ((g_22 x0 d) (x0 + 4) 2 ≤ 999) → Safe (g_22 x0 d) → K (.inl (some (0, (v_22 x0 d)))) (g_22 x0 d)) : tCall E 22 [.inr (2, x0)] d K := by
  refine t_22_0 ?_
  have w8 := r_5_f2 hS (ldB.re hx0)
  refine k_52 hS (ldB.re hx0) (fun F1 hS1 => ?_)
  refine t_22_7 ?_
  have w8 := r_5_f2 hS1 (ldB.re hx0)
  refine k_29 hS1 hx0 (fun e1 F2 k2_0 k2_1 n2_0 hS2 => ?_)
  refine t_22_11 ?_
  have w8 := r_5_f2 hS2 (ldB.re hx0)
  refine ⟨m_inR (by omega) (by omega), fun c0 => ?_, fun c0 => ?_⟩
  · refine ⟨by omega, ?_⟩
    have q1 : (g_29 x0 (g_52 (x0 + 1) d)) (x0 + 4) 2 = d (x0 + 4) 2 := (k2_1).trans (congrFun (F1 (x0 + 4) (by omega)) 2)
    have y0 : v_22 x0 d = 0 := by simp only [v_22, if_pos (show v_29 x0 (g_52 (x0 + 1) d) = 0 from c0)]
    have y1 : g_22 x0 d = g_29 x0 (g_52 (x0 + 1) d) := by simp only [g_22, if_pos (show v_29 x0 (g_52 (x0 + 1) d) = 0 from c0)]
    rw [y0] at h
    rw [y1] at h
    exact h (show 0 ≤ ((0 : Int)) ∧ ((0 : Int)) ≤ 1 from (by omega)) (show ∀ b : Int, (b < x0 ∨ x0 + 1 < b) ∧ (b < x0 + 17 ∨ x0 + 17 < b) ∧ (b < x0 + 22 ∨ x0 + 52 < b) ∧ (b < x0 + 59 ∨ x0 + 59 < b) ∧ (b < x0 + 61 ∨ x0 + 65 < b) → (g_29 x0 (g_52 (x0 + 1) d)) b = d b from fun b hb => (F2 b (by omega)).trans (F1 b (by omega))) (show (g_29 x0 (g_52 (x0 + 1) d)) (x0 + 4) 2 ≤ 999 by omega) hS2
  · refine k_30 hS2 hx0 (fun e2 F3 k3_0 k3_1 k3_2 k3_3 hS3 => ?_)
    refine t_22_18 ?_
    have w8 := r_5_f2 hS3 (ldB.re hx0)
    refine ⟨m_inR (by omega) (by omega), fun c1 => ?_, fun c1 => ?_⟩
    · try rw [k3_2]
      have q2 := r_2_f6 hS2 hx0
      refine k_73 hS3 (ldB.st hx0) (by omega) (fun e3 => ?_)
      refine t_22_34 ?_
      have w8 := r_5_f2 hS3 (ldB.re hx0)
      refine ⟨m_inR (by omega) (by omega), fun c2 => ?_, fun c2 => ?_⟩
      · try rw [k3_2]
        refine k_74 hS3 (ldB.st hx0) (by omega) (fun e4 F4 hS4 => ?_)
        refine t_22_55 ?_
        have w8 := r_5_f2 hS4 (ldB.re hx0)
        refine k_31 hS4 hx0 (fun e5 F5 k5_0 k5_1 k5_2 k5_3 hS5 => ?_)
        refine t_22_60 ?_
        have w8 := r_5_f2 hS5 (ldB.re hx0)
        refine ⟨by omega, ?_⟩
        have q3 : (g_31 x0 (g_74 (x0 + 4) ((g_29 x0 (g_52 (x0 + 1) d)) x0 6) (g_30 x0 (g_29 x0 (g_52 (x0 + 1) d))))) (x0 + 4) 2 = d (x0 + 4) 2 := ((((k5_3).trans (congrFun (F4 (x0 + 4) (by omega)) 2)).trans (k3_3)).trans (k2_1)).trans (congrFun (F1 (x0 + 4) (by omega)) 2)
        have y0 : v_22 x0 d = v_31 x0 (g_74 (x0 + 4) ((g_29 x0 (g_52 (x0 + 1) d)) x0 6) (g_30 x0 (g_29 x0 (g_52 (x0 + 1) d)))) := by simp only [v_22, if_neg (show ¬ v_29 x0 (g_52 (x0 + 1) d) = 0 from c0), if_neg (show ¬ v_30 x0 (g_29 x0 (g_52 (x0 + 1) d)) = 0 from c1), if_neg (show ¬ v_73 (x0 + 4) ((g_29 x0 (g_52 (x0 + 1) d)) x0 6) (g_30 x0 (g_29 x0 (g_52 (x0 + 1) d))) = 0 from c2)]
        have y1 : g_22 x0 d = g_31 x0 (g_74 (x0 + 4) ((g_29 x0 (g_52 (x0 + 1) d)) x0 6) (g_30 x0 (g_29 x0 (g_52 (x0 + 1) d)))) := by simp only [g_22, if_neg (show ¬ v_29 x0 (g_52 (x0 + 1) d) = 0 from c0), if_neg (show ¬ v_30 x0 (g_29 x0 (g_52 (x0 + 1) d)) = 0 from c1), if_neg (show ¬ v_73 (x0 + 4) ((g_29 x0 (g_52 (x0 + 1) d)) x0 6) (g_30 x0 (g_29 x0 (g_52 (x0 + 1) d))) = 0 from c2)]
        rw [y0] at h
        rw [y1] at h
        exact h (show 0 ≤ (v_31 x0 (g_74 (x0 + 4) ((g_29 x0 (g_52 (x0 + 1) d)) x0 6) (g_30 x0 (g_29 x0 (g_52 (x0 + 1) d))))) ∧ (v_31 x0 (g_74 (x0 + 4) ((g_29 x0 (g_52 (x0 + 1) d)) x0 6) (g_30 x0 (g_29 x0 (g_52 (x0 + 1) d))))) ≤ 1 from (by omega)) (show ∀ b : Int, (b < x0 ∨ x0 + 1 < b) ∧ (b < x0 + 17 ∨ x0 + 17 < b) ∧ (b < x0 + 22 ∨ x0 + 52 < b) ∧ (b < x0 + 59 ∨ x0 + 59 < b) ∧ (b < x0 + 61 ∨ x0 + 65 < b) → (g_31 x0 (g_74 (x0 + 4) ((g_29 x0 (g_52 (x0 + 1) d)) x0 6) (g_30 x0 (g_29 x0 (g_52 (x0 + 1) d))))) b = d b from fun b hb => (F5 b (by omega)).trans ((F4 b (by omega)).trans ((F3 b (by omega)).trans ((F2 b (by omega)).trans (F1 b (by omega)))))) (show (g_31 x0 (g_74 (x0 + 4) ((g_29 x0 (g_52 (x0 + 1) d)) x0 6) (g_30 x0 (g_29 x0 (g_52 (x0 + 1) d))))) (x0 + 4) 2 ≤ 999 by omega) hS5
      · refine k_32 hS3 hx0 (by omega) (fun e6 F6 k6_0 k6_1 k6_2 k6_3 n6_0 hS6 => ?_)
        refine t_22_43 ?_
        have w8 := r_5_f2 hS6 (ldB.re hx0)
        refine ⟨by omega, ?_⟩
        have q4 : (g_32 x0 6 (g_30 x0 (g_29 x0 (g_52 (x0 + 1) d)))) (x0 + 4) 2 = d (x0 + 4) 2 := (((k6_3).trans (k3_3)).trans (k2_1)).trans (congrFun (F1 (x0 + 4) (by omega)) 2)
        have y0 : v_22 x0 d = v_32 x0 6 (g_30 x0 (g_29 x0 (g_52 (x0 + 1) d))) := by simp only [v_22, if_neg (show ¬ v_29 x0 (g_52 (x0 + 1) d) = 0 from c0), if_neg (show ¬ v_30 x0 (g_29 x0 (g_52 (x0 + 1) d)) = 0 from c1), if_pos (show v_73 (x0 + 4) ((g_29 x0 (g_52 (x0 + 1) d)) x0 6) (g_30 x0 (g_29 x0 (g_52 (x0 + 1) d))) = 0 from c2)]
        have y1 : g_22 x0 d = g_32 x0 6 (g_30 x0 (g_29 x0 (g_52 (x0 + 1) d))) := by simp only [g_22, if_neg (show ¬ v_29 x0 (g_52 (x0 + 1) d) = 0 from c0), if_neg (show ¬ v_30 x0 (g_29 x0 (g_52 (x0 + 1) d)) = 0 from c1), if_pos (show v_73 (x0 + 4) ((g_29 x0 (g_52 (x0 + 1) d)) x0 6) (g_30 x0 (g_29 x0 (g_52 (x0 + 1) d))) = 0 from c2)]
        rw [y0] at h
        rw [y1] at h
        exact h (show 0 ≤ (v_32 x0 6 (g_30 x0 (g_29 x0 (g_52 (x0 + 1) d)))) ∧ (v_32 x0 6 (g_30 x0 (g_29 x0 (g_52 (x0 + 1) d)))) ≤ 1 from (by omega)) (show ∀ b : Int, (b < x0 ∨ x0 + 1 < b) ∧ (b < x0 + 17 ∨ x0 + 17 < b) ∧ (b < x0 + 22 ∨ x0 + 52 < b) ∧ (b < x0 + 59 ∨ x0 + 59 < b) ∧ (b < x0 + 61 ∨ x0 + 65 < b) → (g_32 x0 6 (g_30 x0 (g_29 x0 (g_52 (x0 + 1) d)))) b = d b from fun b hb => (F6 b (by omega)).trans ((F3 b (by omega)).trans ((F2 b (by omega)).trans (F1 b (by omega))))) (show (g_32 x0 6 (g_30 x0 (g_29 x0 (g_52 (x0 + 1) d)))) (x0 + 4) 2 ≤ 999 by omega) hS6
    · refine ⟨by omega, ?_⟩
      have q5 : (g_30 x0 (g_29 x0 (g_52 (x0 + 1) d))) (x0 + 4) 2 = d (x0 + 4) 2 := ((k3_3).trans (k2_1)).trans (congrFun (F1 (x0 + 4) (by omega)) 2)
      have y0 : v_22 x0 d = 0 := by simp only [v_22, if_neg (show ¬ v_29 x0 (g_52 (x0 + 1) d) = 0 from c0), if_pos (show v_30 x0 (g_29 x0 (g_52 (x0 + 1) d)) = 0 from c1)]
      have y1 : g_22 x0 d = g_30 x0 (g_29 x0 (g_52 (x0 + 1) d)) := by simp only [g_22, if_neg (show ¬ v_29 x0 (g_52 (x0 + 1) d) = 0 from c0), if_pos (show v_30 x0 (g_29 x0 (g_52 (x0 + 1) d)) = 0 from c1)]
      rw [y0] at h
      rw [y1] at h
      exact h (show 0 ≤ ((0 : Int)) ∧ ((0 : Int)) ≤ 1 from (by omega)) (show ∀ b : Int, (b < x0 ∨ x0 + 1 < b) ∧ (b < x0 + 17 ∨ x0 + 17 < b) ∧ (b < x0 + 22 ∨ x0 + 52 < b) ∧ (b < x0 + 59 ∨ x0 + 59 < b) ∧ (b < x0 + 61 ∨ x0 + 65 < b) → (g_30 x0 (g_29 x0 (g_52 (x0 + 1) d))) b = d b from fun b hb => (F3 b (by omega)).trans ((F2 b (by omega)).trans (F1 b (by omega)))) (show (g_30 x0 (g_29 x0 (g_52 (x0 + 1) d))) (x0 + 4) 2 ≤ 999 by omega) hS3
def v_23 (x0 : Int) (d : mD) : Int := if v_27 x0 (g_52 (x0 + 1) d) = 0 then 0 else if v_29 x0 (g_27 x0 (g_52 (x0 + 1) d)) = 0 then 0 else if v_30 x0 (g_29 x0 (g_27 x0 (g_52 (x0 + 1) d))) = 0 then 0 else if v_77 (x0 + 4) ((g_29 x0 (g_27 x0 (g_52 (x0 + 1) d))) x0 6) ((g_27 x0 (g_52 (x0 + 1) d)) x0 6) (g_30 x0 (g_29 x0 (g_27 x0 (g_52 (x0 + 1) d)))) = 0 then v_31 x0 (g_75 (x0 + 4) ((g_29 x0 (g_27 x0 (g_52 (x0 + 1) d))) x0 6) ((g_27 x0 (g_52 (x0 + 1) d)) x0 6) (g_30 x0 (g_29 x0 (g_27 x0 (g_52 (x0 + 1) d))))) else v_32 x0 6 (g_30 x0 (g_29 x0 (g_27 x0 (g_52 (x0 + 1) d))))
def g_23 (x0 : Int) (d : mD) : mD := if v_27 x0 (g_52 (x0 + 1) d) = 0 then g_27 x0 (g_52 (x0 + 1) d) else if v_29 x0 (g_27 x0 (g_52 (x0 + 1) d)) = 0 then g_29 x0 (g_27 x0 (g_52 (x0 + 1) d)) else if v_30 x0 (g_29 x0 (g_27 x0 (g_52 (x0 + 1) d))) = 0 then g_30 x0 (g_29 x0 (g_27 x0 (g_52 (x0 + 1) d))) else if v_77 (x0 + 4) ((g_29 x0 (g_27 x0 (g_52 (x0 + 1) d))) x0 6) ((g_27 x0 (g_52 (x0 + 1) d)) x0 6) (g_30 x0 (g_29 x0 (g_27 x0 (g_52 (x0 + 1) d)))) = 0 then g_31 x0 (g_75 (x0 + 4) ((g_29 x0 (g_27 x0 (g_52 (x0 + 1) d))) x0 6) ((g_27 x0 (g_52 (x0 + 1) d)) x0 6) (g_30 x0 (g_29 x0 (g_27 x0 (g_52 (x0 + 1) d))))) else g_32 x0 6 (g_30 x0 (g_29 x0 (g_27 x0 (g_52 (x0 + 1) d))))
theorem k_23 {E : mO × tW} {K : tK} {d : mD} {x0 : Int} (hS : Safe d) (hx0 : ldB x0) (ht : d (x0 + 4) 2 ≤ 999) (h : (0 ≤ (v_23 x0 d) ∧ (v_23 x0 d) ≤ 1) → (∀ b : Int, (b < x0 ∨ x0 + 1 < b) ∧ (b < x0 + 17 ∨ x0 + 19 < b) ∧ (b < x0 + 22 ∨ x0 + 52 < b) ∧ (b < x0 + 59 ∨ x0 + 65 < b) → (g_23 x0 d) b = d b) → ((g_23 x0 d) (x0 + 4) 2 ≤ 999) → Safe (g_23 x0 d) → K (.inl (some (0, (v_23 x0 d)))) (g_23 x0 d)) : tCall E 23 [.inr (2, x0)] d K := by
  refine t_23_0 ?_
  have w8 := r_5_f2 hS (ldB.re hx0)
  refine k_52 hS (ldB.re hx0) (fun F1 hS1 => ?_)
  refine t_23_7 ?_
  have w8 := r_5_f2 hS1 (ldB.re hx0)
  refine k_27 hS1 hx0 (fun e1 F2 k2_0 k2_1 n2_0 hS2 => ?_)
  refine t_23_11 ?_
  have w8 := r_5_f2 hS2 (ldB.re hx0)
  refine ⟨m_inR (by omega) (by omega), fun c0 => ?_, fun c0 => ?_⟩
  · refine k_29 hS2 hx0 (fun e2 F3 k3_0 k3_1 n3_0 hS3 => ?_)
    refine t_23_25 ?_
    have w8 := r_5_f2 hS3 (ldB.re hx0)
    refine ⟨m_inR (by omega) (by omega), fun c1 => ?_, fun c1 => ?_⟩
    · refine ⟨by omega, ?_⟩
      have q1 : (g_29 x0 (g_27 x0 (g_52 (x0 + 1) d))) (x0 + 4) 2 = d (x0 + 4) 2 := ((k3_1).trans (k2_1)).trans (congrFun (F1 (x0 + 4) (by omega)) 2)
      have y0 : v_23 x0 d = 0 := by simp only [v_23, if_neg (show ¬ v_27 x0 (g_52 (x0 + 1) d) = 0 from c0), if_pos (show v_29 x0 (g_27 x0 (g_52 (x0 + 1) d)) = 0 from c1)]
      have y1 : g_23 x0 d = g_29 x0 (g_27 x0 (g_52 (x0 + 1) d)) := by simp only [g_23, if_neg (show ¬ v_27 x0 (g_52 (x0 + 1) d) = 0 from c0), if_pos (show v_29 x0 (g_27 x0 (g_52 (x0 + 1) d)) = 0 from c1)]
      rw [y0] at h
      rw [y1] at h
      exact h (show 0 ≤ ((0 : Int)) ∧ ((0 : Int)) ≤ 1 from (by omega)) (show ∀ b : Int, (b < x0 ∨ x0 + 1 < b) ∧ (b < x0 + 17 ∨ x0 + 19 < b) ∧ (b < x0 + 22 ∨ x0 + 52 < b) ∧ (b < x0 + 59 ∨ x0 + 65 < b) → (g_29 x0 (g_27 x0 (g_52 (x0 + 1) d))) b = d b from fun b hb => (F3 b (by omega)).trans ((F2 b (by omega)).trans (F1 b (by omega)))) (show (g_29 x0 (g_27 x0 (g_52 (x0 + 1) d))) (x0 + 4) 2 ≤ 999 by omega) hS3
    · refine k_30 hS3 hx0 (fun e3 F4 k4_0 k4_1 k4_2 k4_3 hS4 => ?_)
      refine t_23_32 ?_
      have w8 := r_5_f2 hS4 (ldB.re hx0)
      refine ⟨m_inR (by omega) (by omega), fun c2 => ?_, fun c2 => ?_⟩
      · try rw [k4_2]
        have q2 := r_2_f6 hS3 hx0
        have q3 := r_2_f6 hS2 hx0
        refine k_77 hS4 (ldB.st hx0) (by omega) (by omega) (fun e4 => ?_)
        refine t_23_49 ?_
        have w8 := r_5_f2 hS4 (ldB.re hx0)
        refine ⟨m_inR (by omega) (by omega), fun c3 => ?_, fun c3 => ?_⟩
        · try rw [k4_2]
          have q4 : (g_30 x0 (g_29 x0 (g_27 x0 (g_52 (x0 + 1) d)))) (x0 + 4 + 10 + 4) ((g_27 x0 (g_52 (x0 + 1) d)) x0 6) = d (x0 + 4 + 10 + 4) ((g_27 x0 (g_52 (x0 + 1) d)) x0 6) := (((congrFun (F4 (x0 + 4 + 10 + 4) (by omega)) ((g_27 x0 (g_52 (x0 + 1) d)) x0 6)).trans (congrFun (F3 (x0 + 4 + 10 + 4) (by omega)) ((g_27 x0 (g_52 (x0 + 1) d)) x0 6))).trans (congrFun (F2 (x0 + 4 + 10 + 4) (by omega)) ((g_27 x0 (g_52 (x0 + 1) d)) x0 6))).trans (congrFun (F1 (x0 + 4 + 10 + 4) (by omega)) ((g_27 x0 (g_52 (x0 + 1) d)) x0 6))
          refine k_75 hS4 (ldB.st hx0) (by omega) (by omega) (by omega) (fun e5 F5 hS5 => ?_)
          refine t_23_71 ?_
          have w8 := r_5_f2 hS5 (ldB.re hx0)
          refine k_31 hS5 hx0 (fun e6 F6 k6_0 k6_1 k6_2 k6_3 hS6 => ?_)
          refine t_23_76 ?_
          have w8 := r_5_f2 hS6 (ldB.re hx0)
          refine ⟨by omega, ?_⟩
          have q5 : (g_31 x0 (g_75 (x0 + 4) ((g_29 x0 (g_27 x0 (g_52 (x0 + 1) d))) x0 6) ((g_27 x0 (g_52 (x0 + 1) d)) x0 6) (g_30 x0 (g_29 x0 (g_27 x0 (g_52 (x0 + 1) d)))))) (x0 + 4) 2 = d (x0 + 4) 2 := (((((k6_3).trans (congrFun (F5 (x0 + 4) (by omega)) 2)).trans (k4_3)).trans (k3_1)).trans (k2_1)).trans (congrFun (F1 (x0 + 4) (by omega)) 2)
          have y0 : v_23 x0 d = v_31 x0 (g_75 (x0 + 4) ((g_29 x0 (g_27 x0 (g_52 (x0 + 1) d))) x0 6) ((g_27 x0 (g_52 (x0 + 1) d)) x0 6) (g_30 x0 (g_29 x0 (g_27 x0 (g_52 (x0 + 1) d))))) := by simp only [v_23, if_neg (show ¬ v_27 x0 (g_52 (x0 + 1) d) = 0 from c0), if_neg (show ¬ v_29 x0 (g_27 x0 (g_52 (x0 + 1) d)) = 0 from c1), if_neg (show ¬ v_30 x0 (g_29 x0 (g_27 x0 (g_52 (x0 + 1) d))) = 0 from c2), if_pos (show v_77 (x0 + 4) ((g_29 x0 (g_27 x0 (g_52 (x0 + 1) d))) x0 6) ((g_27 x0 (g_52 (x0 + 1) d)) x0 6) (g_30 x0 (g_29 x0 (g_27 x0 (g_52 (x0 + 1) d)))) = 0 from c3)]
          have y1 : g_23 x0 d = g_31 x0 (g_75 (x0 + 4) ((g_29 x0 (g_27 x0 (g_52 (x0 + 1) d))) x0 6) ((g_27 x0 (g_52 (x0 + 1) d)) x0 6) (g_30 x0 (g_29 x0 (g_27 x0 (g_52 (x0 + 1) d))))) := by simp only [g_23, if_neg (show ¬ v_27 x0 (g_52 (x0 + 1) d) = 0 from c0), if_neg (show ¬ v_29 x0 (g_27 x0 (g_52 (x0 + 1) d)) = 0 from c1), if_neg (show ¬ v_30 x0 (g_29 x0 (g_27 x0 (g_52 (x0 + 1) d))) = 0 from c2), if_pos (show v_77 (x0 + 4) ((g_29 x0 (g_27 x0 (g_52 (x0 + 1) d))) x0 6) ((g_27 x0 (g_52 (x0 + 1) d)) x0 6) (g_30 x0 (g_29 x0 (g_27 x0 (g_52 (x0 + 1) d)))) = 0 from c3)]
          rw [y0] at h
          rw [y1] at h
          exact h (show 0 ≤ (v_31 x0 (g_75 (x0 + 4) ((g_29 x0 (g_27 x0 (g_52 (x0 + 1) d))) x0 6) ((g_27 x0 (g_52 (x0 + 1) d)) x0 6) (g_30 x0 (g_29 x0 (g_27 x0 (g_52 (x0 + 1) d)))))) ∧ (v_31 x0 (g_75 (x0 + 4) ((g_29 x0 (g_27 x0 (g_52 (x0 + 1) d))) x0 6) ((g_27 x0 (g_52 (x0 + 1) d)) x0 6) (g_30 x0 (g_29 x0 (g_27 x0 (g_52 (x0 + 1) d)))))) ≤ 1 from (by omega)) (show ∀ b : Int, (b < x0 ∨ x0 + 1 < b) ∧ (b < x0 + 17 ∨ x0 + 19 < b) ∧ (b < x0 + 22 ∨ x0 + 52 < b) ∧ (b < x0 + 59 ∨ x0 + 65 < b) → (g_31 x0 (g_75 (x0 + 4) ((g_29 x0 (g_27 x0 (g_52 (x0 + 1) d))) x0 6) ((g_27 x0 (g_52 (x0 + 1) d)) x0 6) (g_30 x0 (g_29 x0 (g_27 x0 (g_52 (x0 + 1) d)))))) b = d b from fun b hb => (F6 b (by omega)).trans ((F5 b (by omega)).trans ((F4 b (by omega)).trans ((F3 b (by omega)).trans ((F2 b (by omega)).trans (F1 b (by omega))))))) (show (g_31 x0 (g_75 (x0 + 4) ((g_29 x0 (g_27 x0 (g_52 (x0 + 1) d))) x0 6) ((g_27 x0 (g_52 (x0 + 1) d)) x0 6) (g_30 x0 (g_29 x0 (g_27 x0 (g_52 (x0 + 1) d)))))) (x0 + 4) 2 ≤ 999 by omega) hS6
        · refine k_32 hS4 hx0 (by omega) (fun e7 F7 k7_0 k7_1 k7_2 k7_3 n7_0 hS7 => ?_)
          refine t_23_58 ?_
          have w8 := r_5_f2 hS7 (ldB.re hx0)
          refine ⟨by omega, ?_⟩
          have q6 : (g_32 x0 6 (g_30 x0 (g_29 x0 (g_27 x0 (g_52 (x0 + 1) d))))) (x0 + 4) 2 = d (x0 + 4) 2 := ((((k7_3).trans (k4_3)).trans (k3_1)).trans (k2_1)).trans (congrFun (F1 (x0 + 4) (by omega)) 2)
          have y0 : v_23 x0 d = v_32 x0 6 (g_30 x0 (g_29 x0 (g_27 x0 (g_52 (x0 + 1) d)))) := by simp only [v_23, if_neg (show ¬ v_27 x0 (g_52 (x0 + 1) d) = 0 from c0), if_neg (show ¬ v_29 x0 (g_27 x0 (g_52 (x0 + 1) d)) = 0 from c1), if_neg (show ¬ v_30 x0 (g_29 x0 (g_27 x0 (g_52 (x0 + 1) d))) = 0 from c2), if_neg (show ¬ v_77 (x0 + 4) ((g_29 x0 (g_27 x0 (g_52 (x0 + 1) d))) x0 6) ((g_27 x0 (g_52 (x0 + 1) d)) x0 6) (g_30 x0 (g_29 x0 (g_27 x0 (g_52 (x0 + 1) d)))) = 0 from c3)]
          have y1 : g_23 x0 d = g_32 x0 6 (g_30 x0 (g_29 x0 (g_27 x0 (g_52 (x0 + 1) d)))) := by simp only [g_23, if_neg (show ¬ v_27 x0 (g_52 (x0 + 1) d) = 0 from c0), if_neg (show ¬ v_29 x0 (g_27 x0 (g_52 (x0 + 1) d)) = 0 from c1), if_neg (show ¬ v_30 x0 (g_29 x0 (g_27 x0 (g_52 (x0 + 1) d))) = 0 from c2), if_neg (show ¬ v_77 (x0 + 4) ((g_29 x0 (g_27 x0 (g_52 (x0 + 1) d))) x0 6) ((g_27 x0 (g_52 (x0 + 1) d)) x0 6) (g_30 x0 (g_29 x0 (g_27 x0 (g_52 (x0 + 1) d)))) = 0 from c3)]
          rw [y0] at h
          rw [y1] at h
          exact h (show 0 ≤ (v_32 x0 6 (g_30 x0 (g_29 x0 (g_27 x0 (g_52 (x0 + 1) d))))) ∧ (v_32 x0 6 (g_30 x0 (g_29 x0 (g_27 x0 (g_52 (x0 + 1) d))))) ≤ 1 from (by omega)) (show ∀ b : Int, (b < x0 ∨ x0 + 1 < b) ∧ (b < x0 + 17 ∨ x0 + 19 < b) ∧ (b < x0 + 22 ∨ x0 + 52 < b) ∧ (b < x0 + 59 ∨ x0 + 65 < b) → (g_32 x0 6 (g_30 x0 (g_29 x0 (g_27 x0 (g_52 (x0 + 1) d))))) b = d b from fun b hb => (F7 b (by omega)).trans ((F4 b (by omega)).trans ((F3 b (by omega)).trans ((F2 b (by omega)).trans (F1 b (by omega)))))) (show (g_32 x0 6 (g_30 x0 (g_29 x0 (g_27 x0 (g_52 (x0 + 1) d))))) (x0 + 4) 2 ≤ 999 by omega) hS7
      · refine ⟨by omega, ?_⟩
        have q7 : (g_30 x0 (g_29 x0 (g_27 x0 (g_52 (x0 + 1) d)))) (x0 + 4) 2 = d (x0 + 4) 2 := (((k4_3).trans (k3_1)).trans (k2_1)).trans (congrFun (F1 (x0 + 4) (by omega)) 2)
        have y0 : v_23 x0 d = 0 := by simp only [v_23, if_neg (show ¬ v_27 x0 (g_52 (x0 + 1) d) = 0 from c0), if_neg (show ¬ v_29 x0 (g_27 x0 (g_52 (x0 + 1) d)) = 0 from c1), if_pos (show v_30 x0 (g_29 x0 (g_27 x0 (g_52 (x0 + 1) d))) = 0 from c2)]
        have y1 : g_23 x0 d = g_30 x0 (g_29 x0 (g_27 x0 (g_52 (x0 + 1) d))) := by simp only [g_23, if_neg (show ¬ v_27 x0 (g_52 (x0 + 1) d) = 0 from c0), if_neg (show ¬ v_29 x0 (g_27 x0 (g_52 (x0 + 1) d)) = 0 from c1), if_pos (show v_30 x0 (g_29 x0 (g_27 x0 (g_52 (x0 + 1) d))) = 0 from c2)]
        rw [y0] at h
        rw [y1] at h
        exact h (show 0 ≤ ((0 : Int)) ∧ ((0 : Int)) ≤ 1 from (by omega)) (show ∀ b : Int, (b < x0 ∨ x0 + 1 < b) ∧ (b < x0 + 17 ∨ x0 + 19 < b) ∧ (b < x0 + 22 ∨ x0 + 52 < b) ∧ (b < x0 + 59 ∨ x0 + 65 < b) → (g_30 x0 (g_29 x0 (g_27 x0 (g_52 (x0 + 1) d)))) b = d b from fun b hb => (F4 b (by omega)).trans ((F3 b (by omega)).trans ((F2 b (by omega)).trans (F1 b (by omega))))) (show (g_30 x0 (g_29 x0 (g_27 x0 (g_52 (x0 + 1) d)))) (x0 + 4) 2 ≤ 999 by omega) hS4
  · refine ⟨by omega, ?_⟩
    have q8 : (g_27 x0 (g_52 (x0 + 1) d)) (x0 + 4) 2 = d (x0 + 4) 2 := (k2_1).trans (congrFun (F1 (x0 + 4) (by omega)) 2)
    have y0 : v_23 x0 d = 0 := by simp only [v_23, if_pos (show v_27 x0 (g_52 (x0 + 1) d) = 0 from c0)]
    have y1 : g_23 x0 d = g_27 x0 (g_52 (x0 + 1) d) := by simp only [g_23, if_pos (show v_27 x0 (g_52 (x0 + 1) d) = 0 from c0)]
    rw [y0] at h
    rw [y1] at h
    exact h (show 0 ≤ ((0 : Int)) ∧ ((0 : Int)) ≤ 1 from (by omega)) (show ∀ b : Int, (b < x0 ∨ x0 + 1 < b) ∧ (b < x0 + 17 ∨ x0 + 19 < b) ∧ (b < x0 + 22 ∨ x0 + 52 < b) ∧ (b < x0 + 59 ∨ x0 + 65 < b) → (g_27 x0 (g_52 (x0 + 1) d)) b = d b from fun b hb => (F2 b (by omega)).trans (F1 b (by omega))) (show (g_27 x0 (g_52 (x0 + 1) d)) (x0 + 4) 2 ≤ 999 by omega) hS2
def st_19_4 (x0 : Int) (r4 : Int → Int → mD → Int × mD) (x1 x2 : Int) (d : mD) : Int × mD := if x2 < 1000 then (if x1 = 0 then (x1, d) else if d (x0 + 1) 1 = 3 then (x1, d) else if v_55 (x0 + 1) 3 d = 0 then (if v_55 (x0 + 1) 4 d = 0 then (if v_55 (x0 + 1) 5 d = 0 then (if v_55 (x0 + 1) 6 d = 0 then r4 (v_32 x0 1 d) (x2 + 1) (g_32 x0 1 d) else r4 (v_23 x0 d) (x2 + 1) (g_23 x0 d)) else r4 (v_22 x0 d) (x2 + 1) (g_22 x0 d)) else r4 (v_21 x0 d) (x2 + 1) (g_21 x0 d)) else r4 (v_20 x0 d) (x2 + 1) (g_20 x0 d)) else (x1, d)
def lp_19_4 (x0 : Int) : Nat → Int → Int → mD → Int × mD
  | 0 => st_19_4 x0 (fun _ _ d => (0, d))
  | n + 1 => st_19_4 x0 (lp_19_4 x0 n)
theorem ls_19_4 {E : mO × tW} {K : tK} {x0 : Int} (hW : W55 E) (hx0 : ldB x0) (N4 : Int) (r4 : Int → Int → mD → Int × mD) (ih4 : ∀ (x1 x2 : Int) (d : mD), Safe d → (0 ≤ x1 ∧ x1 ≤ 1) → (0 ≤ x2 ∧ x2 ≤ 1000) → (d (x0 + 4) 2 ≤ 999) → 0 ≤ 1000 - x2 → 1000 - x2 < N4 → ((0 ≤ (r4 x1 x2 d).1 ∧ (r4 x1 x2 d).1 ≤ 1) → (∀ b : Int, (b < x0 ∨ x0 + 1 < b) ∧ (b < x0 + 4 ∨ x0 + 4 < b) ∧ (b < x0 + 12 ∨ x0 + 13 < b) ∧ (b < x0 + 16 ∨ x0 + 19 < b) ∧ (b < x0 + 22 ∨ x0 + 66 < b) → (r4 x1 x2 d).2 b = d b) → ((r4 x1 x2 d).2 (x0 + 4) 2 ≤ 999) → Safe (r4 x1 x2 d).2 → K (.inl (some (0, (r4 x1 x2 d).1))) (r4 x1 x2 d).2) → tRun E 19 (4, [.inr (2, x0), .inl (0, x1), .inl (0, x2)], [], 0, 0, d) K) (x1 x2 : Int) (d : mD) (hS : Safe d) (i0 : 0 ≤ x1 ∧ x1 ≤ 1) (i1 : 0 ≤ x2 ∧ x2 ≤ 1000) (i2 : d (x0 + 4) 2 ≤ 999) (hm : 1000 - x2 ≤ N4) (h : (0 ≤ (st_19_4 x0 r4 x1 x2 d).1 ∧ (st_19_4 x0 r4 x1 x2 d).1 ≤ 1) → (∀ b : Int, (b < x0 ∨ x0 + 1 < b) ∧ (b < x0 + 4 ∨ x0 + 4 < b) ∧ (b < x0 + 12 ∨ x0 + 13 < b) ∧ (b < x0 + 16 ∨ x0 + 19 < b) ∧ (b < x0 + 22 ∨ x0 + 66 < b) → (st_19_4 x0 r4 x1 x2 d).2 b = d b) → ((st_19_4 x0 r4 x1 x2 d).2 (x0 + 4) 2 ≤ 999) → Safe (st_19_4 x0 r4 x1 x2 d).2 → K (.inl (some (0, (st_19_4 x0 r4 x1 x2 d).1))) (st_19_4 x0 r4 x1 x2 d).2) : tRun E 19 (4, [.inr (2, x0), .inl (0, x1), .inl (0, x2)], [], 0, 0, d) K := by
  refine t_19_4 ?_
  have w8 := r_5_f2 hS (ldB.re hx0)
  refine ⟨⟨m_inR (by omega) (by omega), m_inR (by omega) (by omega)⟩, fun c0 => ?_, fun c0 => ?_⟩
  · refine ⟨by omega, ?_⟩
    have y0 : st_19_4 x0 r4 x1 x2 d = (x1, d) := by simp only [st_19_4, if_neg (show ¬ x2 < 1000 from Int.not_lt.mpr c0)]
    rw [y0] at h
    exact h (show 0 ≤ x1 ∧ x1 ≤ 1 from (by omega)) (show ∀ b : Int, (b < x0 ∨ x0 + 1 < b) ∧ (b < x0 + 4 ∨ x0 + 4 < b) ∧ (b < x0 + 12 ∨ x0 + 13 < b) ∧ (b < x0 + 16 ∨ x0 + 19 < b) ∧ (b < x0 + 22 ∨ x0 + 66 < b) → d b = d b from fun _ _ => rfl) (show d (x0 + 4) 2 ≤ 999 by omega) hS
  · refine ⟨m_inR (by omega) (by omega), fun c1 => ?_, fun c1 => ?_⟩
    · refine ⟨by omega, ?_⟩
      have y0 : st_19_4 x0 r4 x1 x2 d = (x1, d) := by simp only [st_19_4, if_pos (show x2 < 1000 from c0), if_pos (show x1 = 0 from c1)]
      rw [y0] at h
      exact h (show 0 ≤ x1 ∧ x1 ≤ 1 from (by omega)) (show ∀ b : Int, (b < x0 ∨ x0 + 1 < b) ∧ (b < x0 + 4 ∨ x0 + 4 < b) ∧ (b < x0 + 12 ∨ x0 + 13 < b) ∧ (b < x0 + 16 ∨ x0 + 19 < b) ∧ (b < x0 + 22 ∨ x0 + 66 < b) → d b = d b from fun _ _ => rfl) (show d (x0 + 4) 2 ≤ 999 by omega) hS
    · have q1 := r_5_f1 hS (ldB.re hx0)
      refine ⟨⟨m_inR (by omega) (by omega), m_inR (by omega) (by omega)⟩, fun c2 => ?_, fun c2 => ?_⟩
      · refine ⟨by omega, ?_⟩
        have y0 : st_19_4 x0 r4 x1 x2 d = (x1, d) := by simp only [st_19_4, if_pos (show x2 < 1000 from c0), if_neg (show ¬ x1 = 0 from c1), if_pos (show d (x0 + 1) 1 = 3 from c2)]
        rw [y0] at h
        exact h (show 0 ≤ x1 ∧ x1 ≤ 1 from (by omega)) (show ∀ b : Int, (b < x0 ∨ x0 + 1 < b) ∧ (b < x0 + 4 ∨ x0 + 4 < b) ∧ (b < x0 + 12 ∨ x0 + 13 < b) ∧ (b < x0 + 16 ∨ x0 + 19 < b) ∧ (b < x0 + 22 ∨ x0 + 66 < b) → d b = d b from fun _ _ => rfl) (show d (x0 + 4) 2 ≤ 999 by omega) hS
      · refine k_55 hW hS (ldB.re hx0) (by omega) (fun e1 => ?_)
        refine t_19_35 ?_
        have w8 := r_5_f2 hS (ldB.re hx0)
        refine ⟨m_inR (by omega) (by omega), fun c3 => ?_, fun c3 => ?_⟩
        · refine k_55 hW hS (ldB.re hx0) (by omega) (fun e2 => ?_)
          refine t_19_55 ?_
          have w8 := r_5_f2 hS (ldB.re hx0)
          refine ⟨m_inR (by omega) (by omega), fun c4 => ?_, fun c4 => ?_⟩
          · refine k_55 hW hS (ldB.re hx0) (by omega) (fun e3 => ?_)
            refine t_19_75 ?_
            have w8 := r_5_f2 hS (ldB.re hx0)
            refine ⟨m_inR (by omega) (by omega), fun c5 => ?_, fun c5 => ?_⟩
            · refine k_55 hW hS (ldB.re hx0) (by omega) (fun e4 => ?_)
              refine t_19_95 ?_
              have w8 := r_5_f2 hS (ldB.re hx0)
              refine ⟨m_inR (by omega) (by omega), fun c6 => ?_, fun c6 => ?_⟩
              · refine k_32 hS hx0 (by omega) (fun e5 F1 k1_0 k1_1 k1_2 k1_3 n1_0 hS1 => ?_)
                refine t_19_111 ?_
                have w8 := r_5_f2 hS1 (ldB.re hx0)
                have q2 : (g_32 x0 1 d) (x0 + 4) 2 = d (x0 + 4) 2 := k1_3
                refine ih4 (v_32 x0 1 d) (x2 + 1)  (g_32 x0 1 d) hS1 (by omega) (by omega) (by omega) (by omega) (by omega) ?_
                intro e F n0 hS_
                have y0 : st_19_4 x0 r4 x1 x2 d = r4 (v_32 x0 1 d) (x2 + 1) (g_32 x0 1 d) := by simp only [st_19_4, if_pos (show x2 < 1000 from c0), if_neg (show ¬ x1 = 0 from c1), if_neg (show ¬ d (x0 + 1) 1 = 3 from c2), if_pos (show v_55 (x0 + 1) 3 d = 0 from c3), if_pos (show v_55 (x0 + 1) 4 d = 0 from c4), if_pos (show v_55 (x0 + 1) 5 d = 0 from c5), if_pos (show v_55 (x0 + 1) 6 d = 0 from c6)]
                rw [y0] at h
                exact h e (fun b hb => (F b hb).trans ((show ∀ b : Int, (b < x0 ∨ x0 + 1 < b) ∧ (b < x0 + 4 ∨ x0 + 4 < b) ∧ (b < x0 + 12 ∨ x0 + 13 < b) ∧ (b < x0 + 16 ∨ x0 + 19 < b) ∧ (b < x0 + 22 ∨ x0 + 66 < b) → (g_32 x0 1 d) b = d b from fun b hb => F1 b (by omega)) b hb)) (by omega) hS_
              · refine k_23 hS hx0 (by omega) (fun e6 F2 n2_0 hS2 => ?_)
                refine t_19_102 ?_
                have w8 := r_5_f2 hS2 (ldB.re hx0)
                have q3 : (g_23 x0 d) (x0 + 4) 2 = d (x0 + 4) 2 := congrFun (F2 (x0 + 4) (by omega)) 2
                refine ih4 (v_23 x0 d) (x2 + 1)  (g_23 x0 d) hS2 (by omega) (by omega) (by omega) (by omega) (by omega) ?_
                intro e F n0 hS_
                have y0 : st_19_4 x0 r4 x1 x2 d = r4 (v_23 x0 d) (x2 + 1) (g_23 x0 d) := by simp only [st_19_4, if_pos (show x2 < 1000 from c0), if_neg (show ¬ x1 = 0 from c1), if_neg (show ¬ d (x0 + 1) 1 = 3 from c2), if_pos (show v_55 (x0 + 1) 3 d = 0 from c3), if_pos (show v_55 (x0 + 1) 4 d = 0 from c4), if_pos (show v_55 (x0 + 1) 5 d = 0 from c5), if_neg (show ¬ v_55 (x0 + 1) 6 d = 0 from c6)]
                rw [y0] at h
                exact h e (fun b hb => (F b hb).trans ((show ∀ b : Int, (b < x0 ∨ x0 + 1 < b) ∧ (b < x0 + 4 ∨ x0 + 4 < b) ∧ (b < x0 + 12 ∨ x0 + 13 < b) ∧ (b < x0 + 16 ∨ x0 + 19 < b) ∧ (b < x0 + 22 ∨ x0 + 66 < b) → (g_23 x0 d) b = d b from fun b hb => F2 b (by omega)) b hb)) (by omega) hS_
            · refine k_22 hS hx0 (by omega) (fun e7 F3 n3_0 hS3 => ?_)
              refine t_19_82 ?_
              have w8 := r_5_f2 hS3 (ldB.re hx0)
              have q4 : (g_22 x0 d) (x0 + 4) 2 = d (x0 + 4) 2 := congrFun (F3 (x0 + 4) (by omega)) 2
              refine ih4 (v_22 x0 d) (x2 + 1)  (g_22 x0 d) hS3 (by omega) (by omega) (by omega) (by omega) (by omega) ?_
              intro e F n0 hS_
              have y0 : st_19_4 x0 r4 x1 x2 d = r4 (v_22 x0 d) (x2 + 1) (g_22 x0 d) := by simp only [st_19_4, if_pos (show x2 < 1000 from c0), if_neg (show ¬ x1 = 0 from c1), if_neg (show ¬ d (x0 + 1) 1 = 3 from c2), if_pos (show v_55 (x0 + 1) 3 d = 0 from c3), if_pos (show v_55 (x0 + 1) 4 d = 0 from c4), if_neg (show ¬ v_55 (x0 + 1) 5 d = 0 from c5)]
              rw [y0] at h
              exact h e (fun b hb => (F b hb).trans ((show ∀ b : Int, (b < x0 ∨ x0 + 1 < b) ∧ (b < x0 + 4 ∨ x0 + 4 < b) ∧ (b < x0 + 12 ∨ x0 + 13 < b) ∧ (b < x0 + 16 ∨ x0 + 19 < b) ∧ (b < x0 + 22 ∨ x0 + 66 < b) → (g_22 x0 d) b = d b from fun b hb => F3 b (by omega)) b hb)) (by omega) hS_
          · refine k_21 hS hx0 (by omega) (fun e8 F4 n4_0 hS4 => ?_)
            refine t_19_62 ?_
            have w8 := r_5_f2 hS4 (ldB.re hx0)
            refine ih4 (v_21 x0 d) (x2 + 1)  (g_21 x0 d) hS4 (by omega) (by omega) (by omega) (by omega) (by omega) ?_
            intro e F n0 hS_
            have y0 : st_19_4 x0 r4 x1 x2 d = r4 (v_21 x0 d) (x2 + 1) (g_21 x0 d) := by simp only [st_19_4, if_pos (show x2 < 1000 from c0), if_neg (show ¬ x1 = 0 from c1), if_neg (show ¬ d (x0 + 1) 1 = 3 from c2), if_pos (show v_55 (x0 + 1) 3 d = 0 from c3), if_neg (show ¬ v_55 (x0 + 1) 4 d = 0 from c4)]
            rw [y0] at h
            exact h e (fun b hb => (F b hb).trans ((show ∀ b : Int, (b < x0 ∨ x0 + 1 < b) ∧ (b < x0 + 4 ∨ x0 + 4 < b) ∧ (b < x0 + 12 ∨ x0 + 13 < b) ∧ (b < x0 + 16 ∨ x0 + 19 < b) ∧ (b < x0 + 22 ∨ x0 + 66 < b) → (g_21 x0 d) b = d b from fun b hb => F4 b (by omega)) b hb)) (by omega) hS_
        · refine k_20 hS hx0 (by omega) (fun e9 F5 n5_0 hS5 => ?_)
          refine t_19_42 ?_
          have w8 := r_5_f2 hS5 (ldB.re hx0)
          have q5 : (g_20 x0 d) (x0 + 4) 2 = d (x0 + 4) 2 := congrFun (F5 (x0 + 4) (by omega)) 2
          refine ih4 (v_20 x0 d) (x2 + 1)  (g_20 x0 d) hS5 (by omega) (by omega) (by omega) (by omega) (by omega) ?_
          intro e F n0 hS_
          have y0 : st_19_4 x0 r4 x1 x2 d = r4 (v_20 x0 d) (x2 + 1) (g_20 x0 d) := by simp only [st_19_4, if_pos (show x2 < 1000 from c0), if_neg (show ¬ x1 = 0 from c1), if_neg (show ¬ d (x0 + 1) 1 = 3 from c2), if_neg (show ¬ v_55 (x0 + 1) 3 d = 0 from c3)]
          rw [y0] at h
          exact h e (fun b hb => (F b hb).trans ((show ∀ b : Int, (b < x0 ∨ x0 + 1 < b) ∧ (b < x0 + 4 ∨ x0 + 4 < b) ∧ (b < x0 + 12 ∨ x0 + 13 < b) ∧ (b < x0 + 16 ∨ x0 + 19 < b) ∧ (b < x0 + 22 ∨ x0 + 66 < b) → (g_20 x0 d) b = d b from fun b hb => F5 b (by omega)) b hb)) (by omega) hS_
theorem l_19_4 {E : mO × tW} {K : tK} {x0 : Int} (hW : W55 E) (hx0 : ldB x0) : ∀ (n : Nat) (x1 x2 : Int) (d : mD), Safe d → (0 ≤ x1 ∧ x1 ≤ 1) → (0 ≤ x2 ∧ x2 ≤ 1000) → (d (x0 + 4) 2 ≤ 999) → 1000 - x2 ≤ (n : Int) → ((0 ≤ (lp_19_4 x0 n x1 x2 d).1 ∧ (lp_19_4 x0 n x1 x2 d).1 ≤ 1) → (∀ b : Int, (b < x0 ∨ x0 + 1 < b) ∧ (b < x0 + 4 ∨ x0 + 4 < b) ∧ (b < x0 + 12 ∨ x0 + 13 < b) ∧ (b < x0 + 16 ∨ x0 + 19 < b) ∧ (b < x0 + 22 ∨ x0 + 66 < b) → (lp_19_4 x0 n x1 x2 d).2 b = d b) → ((lp_19_4 x0 n x1 x2 d).2 (x0 + 4) 2 ≤ 999) → Safe (lp_19_4 x0 n x1 x2 d).2 → K (.inl (some (0, (lp_19_4 x0 n x1 x2 d).1))) (lp_19_4 x0 n x1 x2 d).2) → tRun E 19 (4, [.inr (2, x0), .inl (0, x1), .inl (0, x2)], [], 0, 0, d) K := by
  intro n
  induction n with
  | zero =>
    intro x1 x2  d hS i0 i1 i2 hm  h
    exact ls_19_4 hW hx0 0 _ (fun _ _  _ _ _ _ _ m0 m1 _ => absurd m1 (by omega)) x1 x2  d hS i0 i1 i2 hm  h
  | succ n ih =>
    intro x1 x2  d hS i0 i1 i2 hm  h
    exact ls_19_4 hW hx0 ((n + 1 : Nat) : Int) _ (fun x1 x2  d hS i0 i1 i2  m0 m1 h => ih x1 x2  d hS i0 i1 i2 (by omega)  h) x1 x2  d hS i0 i1 i2 hm  h
def f_19 (x0 : Int) (d : mD) : Int × mD := lp_19_4 x0 (1000 - 0 : Int).toNat 1 0 d
def v_19 (x0 : Int) (d : mD) : Int := (f_19 x0 d).1
def g_19 (x0 : Int) (d : mD) : mD := (f_19 x0 d).2
theorem k_19 {E : mO × tW} {K : tK} {d : mD} {x0 : Int} (hW : W55 E) (hS : Safe d) (hx0 : ldB x0) (ht : d (x0 + 4) 2 ≤ 999) (h : (0 ≤ (v_19 x0 d) ∧ (v_19 x0 d) ≤ 1) → (∀ b : Int, (b < x0 ∨ x0 + 1 < b) ∧ (b < x0 + 4 ∨ x0 + 4 < b) ∧ (b < x0 + 12 ∨ x0 + 13 < b) ∧ (b < x0 + 16 ∨ x0 + 19 < b) ∧ (b < x0 + 22 ∨ x0 + 66 < b) → (g_19 x0 d) b = d b) → ((g_19 x0 d) (x0 + 4) 2 ≤ 999) → Safe (g_19 x0 d) → K (.inl (some (0, (v_19 x0 d)))) (g_19 x0 d)) : tCall E 19 [.inr (2, x0)] d K := by
  simp only [v_19, g_19] at h
  refine t_19_0 ?_
  have w8 := r_5_f2 hS (ldB.re hx0)
  refine l_19_4 hW hx0 (1000 - 0 : Int).toNat 1 0  d hS (by omega) (by omega) (by omega) (by omega) ?_
  intro e F n0 hS_
  have y0 : f_19 x0 d = lp_19_4 x0 (1000 - 0 : Int).toNat 1 0 d := by simp only [f_19]
  rw [y0] at h
  exact h e F (by omega) hS_
/-! ===== contracts of the reader and the loader: printed by a program of mine ===== -/
def st_120_95 (x0 : Int) (r95 : Int → Int → mD → Int × mD) (x1 x2 : Int) (d : mD) : Int × mD := if x2 < 2 then r95 x1 (x2 + 1) (mset d (x0 + 571) x2 0) else (d (x0 + 1 + 10) 0, mset d (x0 + 572) 1 0)
def lp_120_95 (x0 : Int) : Nat → Int → Int → mD → Int × mD
  | 0 => st_120_95 x0 (fun _ _ d => (0, d))
  | n + 1 => st_120_95 x0 (lp_120_95 x0 n)
theorem ls_120_95 {E : mO × tW} {K : tK} {x0 : Int} (hE : EOK E) (hW : W55 E) (hx0 : wbB x0) (N95 : Int) (r95 : Int → Int → mD → Int × mD) (ih95 : ∀ (x1 x2 : Int) (d : mD), Safe d → (0 ≤ x2 ∧ x2 ≤ 2) → 0 ≤ 2 - x2 → 2 - x2 < N95 → ((0 ≤ (r95 x1 x2 d).1 ∧ (r95 x1 x2 d).1 ≤ 16) → (∀ b : Int, (b < x0 + 1 ∨ x0 + 16 < b) ∧ (b < x0 + 19 ∨ x0 + 64 < b) ∧ (b < x0 + 571 ∨ x0 + 572 < b) ∧ (b < x0 + 576 ∨ x0 + 578 < b) ∧ (b < x0 + 580 ∨ x0 + 595 < b) ∧ (b < x0 + 598 ∨ x0 + 642 < b) → (r95 x1 x2 d).2 b = d b) → Safe (r95 x1 x2 d).2 → K (.inl (some (0, (r95 x1 x2 d).1))) (r95 x1 x2 d).2) → tRun E 120 (95, [.inr (10, x0), .inl (0, x1), .inl (0, x2)], [], 0, 0, d) K) (x1 x2 : Int) (d : mD) (hS : Safe d) (i0 : 0 ≤ x2 ∧ x2 ≤ 2) (hm : 2 - x2 ≤ N95) (h : (0 ≤ (st_120_95 x0 r95 x1 x2 d).1 ∧ (st_120_95 x0 r95 x1 x2 d).1 ≤ 16) → (∀ b : Int, (b < x0 + 1 ∨ x0 + 16 < b) ∧ (b < x0 + 19 ∨ x0 + 64 < b) ∧ (b < x0 + 571 ∨ x0 + 572 < b) ∧ (b < x0 + 576 ∨ x0 + 578 < b) ∧ (b < x0 + 580 ∨ x0 + 595 < b) ∧ (b < x0 + 598 ∨ x0 + 642 < b) → (st_120_95 x0 r95 x1 x2 d).2 b = d b) → Safe (st_120_95 x0 r95 x1 x2 d).2 → K (.inl (some (0, (st_120_95 x0 r95 x1 x2 d).1))) (st_120_95 x0 r95 x1 x2 d).2) : tRun E 120 (95, [.inr (10, x0), .inl (0, x1), .inl (0, x2)], [], 0, 0, d) K := by
  refine t_120_95 ?_
  refine ⟨⟨m_inR (by omega) (by omega), m_inR (by omega) (by omega)⟩, fun c0 => ?_, fun c0 => ?_⟩
  · have hS1 : Safe (mset d (x0 + 572) 1 0) := s_7_f1 hS (wbB.ou hx0) (by omega)
    rw [mset_ni (d := d) (a := x0 + 572) (i := (1 : Int)) (v := (0 : Int)) (b := x0 + 1 + 10) (j := (0 : Int)) (by omega)]
    have q1 := r_4_f0 hS (stB.pe (wbB.nw hx0))
    have y0 : st_120_95 x0 r95 x1 x2 d = (d (x0 + 1 + 10) 0, mset d (x0 + 572) 1 0) := by simp only [st_120_95, if_neg (show ¬ x2 < 2 from Int.not_lt.mpr c0)]
    rw [y0] at h
    exact h (show 0 ≤ (d (x0 + 1 + 10) 0) ∧ (d (x0 + 1 + 10) 0) ≤ 16 from (by omega)) (show ∀ b : Int, (b < x0 + 1 ∨ x0 + 16 < b) ∧ (b < x0 + 19 ∨ x0 + 64 < b) ∧ (b < x0 + 571 ∨ x0 + 572 < b) ∧ (b < x0 + 576 ∨ x0 + 578 < b) ∧ (b < x0 + 580 ∨ x0 + 595 < b) ∧ (b < x0 + 598 ∨ x0 + 642 < b) → (mset d (x0 + 572) 1 0) b = d b from fun b hb => mset_ne (by omega)) hS1
  · refine ⟨by omega, ?_⟩
    have hS2 : Safe (mset d (x0 + 571) x2 0) := s_10_571 hS hx0 (by omega)
    refine ih95 x1 (x2 + 1)  (mset d (x0 + 571) x2 0) hS2 (by omega) (by omega) (by omega) ?_
    intro e F hS_
    have y0 : st_120_95 x0 r95 x1 x2 d = r95 x1 (x2 + 1) (mset d (x0 + 571) x2 0) := by simp only [st_120_95, if_pos (show x2 < 2 from c0)]
    rw [y0] at h
    exact h e (fun b hb => (F b hb).trans ((show ∀ b : Int, (b < x0 + 1 ∨ x0 + 16 < b) ∧ (b < x0 + 19 ∨ x0 + 64 < b) ∧ (b < x0 + 571 ∨ x0 + 572 < b) ∧ (b < x0 + 576 ∨ x0 + 578 < b) ∧ (b < x0 + 580 ∨ x0 + 595 < b) ∧ (b < x0 + 598 ∨ x0 + 642 < b) → (mset d (x0 + 571) x2 0) b = d b from fun b hb => mset_ne (by omega)) b hb)) hS_
theorem l_120_95 {E : mO × tW} {K : tK} {x0 : Int} (hE : EOK E) (hW : W55 E) (hx0 : wbB x0) : ∀ (n : Nat) (x1 x2 : Int) (d : mD), Safe d → (0 ≤ x2 ∧ x2 ≤ 2) → 2 - x2 ≤ (n : Int) → ((0 ≤ (lp_120_95 x0 n x1 x2 d).1 ∧ (lp_120_95 x0 n x1 x2 d).1 ≤ 16) → (∀ b : Int, (b < x0 + 1 ∨ x0 + 16 < b) ∧ (b < x0 + 19 ∨ x0 + 64 < b) ∧ (b < x0 + 571 ∨ x0 + 572 < b) ∧ (b < x0 + 576 ∨ x0 + 578 < b) ∧ (b < x0 + 580 ∨ x0 + 595 < b) ∧ (b < x0 + 598 ∨ x0 + 642 < b) → (lp_120_95 x0 n x1 x2 d).2 b = d b) → Safe (lp_120_95 x0 n x1 x2 d).2 → K (.inl (some (0, (lp_120_95 x0 n x1 x2 d).1))) (lp_120_95 x0 n x1 x2 d).2) → tRun E 120 (95, [.inr (10, x0), .inl (0, x1), .inl (0, x2)], [], 0, 0, d) K := by
  intro n
  induction n with
  | zero =>
    intro x1 x2  d hS i0 hm  h
    exact ls_120_95 hE hW hx0 0 _ (fun _ _  _ _ _ m0 m1 _ => absurd m1 (by omega)) x1 x2  d hS i0 hm  h
  | succ n ih =>
    intro x1 x2  d hS i0 hm  h
    exact ls_120_95 hE hW hx0 ((n + 1 : Nat) : Int) _ (fun x1 x2  d hS i0  m0 m1 h => ih x1 x2  d hS i0 (by omega)  h) x1 x2  d hS i0 hm  h
theorem k_120 {E : mO × tW} {K : tK} {d : mD} {x0 : Int} (hE : EOK E) (hW : W55 E) (hS : Safe d) (hx0 : wbB x0) (h0 : (v_14 (x0 + 576) (g_13 (x0 + 576) d) = 0) → ((0 : Int) = 0) → (∀ b : Int, (b < x0 + 1 ∨ x0 + 16 < b) ∧ (b < x0 + 19 ∨ x0 + 64 < b) ∧ (b < x0 + 571 ∨ x0 + 572 < b) ∧ (b < x0 + 576 ∨ x0 + 578 < b) ∧ (b < x0 + 580 ∨ x0 + 595 < b) ∧ (b < x0 + 598 ∨ x0 + 642 < b) → (mset (g_14 (x0 + 576) (g_13 (x0 + 576) d)) (x0 + 578) 1 0) b = d b) → Safe (mset (g_14 (x0 + 576) (g_13 (x0 + 576) d)) (x0 + 578) 1 0) → K (.inr 2) (mset (g_14 (x0 + 576) (g_13 (x0 + 576) d)) (x0 + 578) 1 0)) (h1 : (¬ v_14 (x0 + 576) (g_13 (x0 + 576) d) = 0) → (v_15 (x0 + 576) (g_14 (x0 + 576) (g_13 (x0 + 576) d)) = 0) → ((0 : Int) = 0) → (∀ b : Int, (b < x0 + 1 ∨ x0 + 16 < b) ∧ (b < x0 + 19 ∨ x0 + 64 < b) ∧ (b < x0 + 571 ∨ x0 + 572 < b) ∧ (b < x0 + 576 ∨ x0 + 578 < b) ∧ (b < x0 + 580 ∨ x0 + 595 < b) ∧ (b < x0 + 598 ∨ x0 + 642 < b) → (mset (g_15 (x0 + 576) (g_14 (x0 + 576) (g_13 (x0 + 576) d))) (x0 + 578) 1 0) b = d b) → Safe (mset (g_15 (x0 + 576) (g_14 (x0 + 576) (g_13 (x0 + 576) d))) (x0 + 578) 1 0) → K (.inr 2) (mset (g_15 (x0 + 576) (g_14 (x0 + 576) (g_13 (x0 + 576) d))) (x0 + 578) 1 0)) (h2 : (¬ v_14 (x0 + 576) (g_13 (x0 + 576) d) = 0) → (¬ v_15 (x0 + 576) (g_14 (x0 + 576) (g_13 (x0 + 576) d)) = 0) → (v_17 (x0 + 576) (g_15 (x0 + 576) (g_14 (x0 + 576) (g_13 (x0 + 576) d))) = 0) → ((0 : Int) = 0) → (∀ b : Int, (b < x0 + 1 ∨ x0 + 16 < b) ∧ (b < x0 + 19 ∨ x0 + 64 < b) ∧ (b < x0 + 571 ∨ x0 + 572 < b) ∧ (b < x0 + 576 ∨ x0 + 578 < b) ∧ (b < x0 + 580 ∨ x0 + 595 < b) ∧ (b < x0 + 598 ∨ x0 + 642 < b) → (mset (g_17 (x0 + 576) (g_15 (x0 + 576) (g_14 (x0 + 576) (g_13 (x0 + 576) d)))) (x0 + 578) 1 0) b = d b) → Safe (mset (g_17 (x0 + 576) (g_15 (x0 + 576) (g_14 (x0 + 576) (g_13 (x0 + 576) d)))) (x0 + 578) 1 0) → K (.inr 2) (mset (g_17 (x0 + 576) (g_15 (x0 + 576) (g_14 (x0 + 576) (g_13 (x0 + 576) d)))) (x0 + 578) 1 0)) (h3 : (¬ v_14 (x0 + 576) (g_13 (x0 + 576) d) = 0) → (¬ v_15 (x0 + 576) (g_14 (x0 + 576) (g_13 (x0 + 576) d)) = 0) → (¬ v_17 (x0 + 576) (g_15 (x0 + 576) (g_14 (x0 + 576) (g_13 (x0 + 576) d))) = 0) → (v_19 (x0 + 576) (g_17 (x0 + 576) (g_15 (x0 + 576) (g_14 (x0 + 576) (g_13 (x0 + 576) d)))) = 0) → ((0 : Int) = 0) → (∀ b : Int, (b < x0 + 1 ∨ x0 + 16 < b) ∧ (b < x0 + 19 ∨ x0 + 64 < b) ∧ (b < x0 + 571 ∨ x0 + 572 < b) ∧ (b < x0 + 576 ∨ x0 + 578 < b) ∧ (b < x0 + 580 ∨ x0 + 595 < b) ∧ (b < x0 + 598 ∨ x0 + 642 < b) → (mset (g_19 (x0 + 576) (g_17 (x0 + 576) (g_15 (x0 + 576) (g_14 (x0 + 576) (g_13 (x0 + 576) d))))) (x0 + 578) 1 0) b = d b) → Safe (mset (g_19 (x0 + 576) (g_17 (x0 + 576) (g_15 (x0 + 576) (g_14 (x0 + 576) (g_13 (x0 + 576) d))))) (x0 + 578) 1 0) → K (.inr 2) (mset (g_19 (x0 + 576) (g_17 (x0 + 576) (g_15 (x0 + 576) (g_14 (x0 + 576) (g_13 (x0 + 576) d))))) (x0 + 578) 1 0)) (h4 : (¬ v_14 (x0 + 576) (g_13 (x0 + 576) d) = 0) → (¬ v_15 (x0 + 576) (g_14 (x0 + 576) (g_13 (x0 + 576) d)) = 0) → (¬ v_17 (x0 + 576) (g_15 (x0 + 576) (g_14 (x0 + 576) (g_13 (x0 + 576) d))) = 0) → (¬ v_19 (x0 + 576) (g_17 (x0 + 576) (g_15 (x0 + 576) (g_14 (x0 + 576) (g_13 (x0 + 576) d)))) = 0) → (¬ (1 : Int) = 0) → (0 ≤ (lp_120_95 x0 (2 - 0 : Int).toNat 1 0 (g_4 (x0 + 64) (g_59 (x0 + 1) (x0 + 580) (mset (g_19 (x0 + 576) (g_17 (x0 + 576) (g_15 (x0 + 576) (g_14 (x0 + 576) (g_13 (x0 + 576) d))))) (x0 + 578) 1 0)))).1 ∧ (lp_120_95 x0 (2 - 0 : Int).toNat 1 0 (g_4 (x0 + 64) (g_59 (x0 + 1) (x0 + 580) (mset (g_19 (x0 + 576) (g_17 (x0 + 576) (g_15 (x0 + 576) (g_14 (x0 + 576) (g_13 (x0 + 576) d))))) (x0 + 578) 1 0)))).1 ≤ 16) → (∀ b : Int, (b < x0 + 1 ∨ x0 + 16 < b) ∧ (b < x0 + 19 ∨ x0 + 64 < b) ∧ (b < x0 + 571 ∨ x0 + 572 < b) ∧ (b < x0 + 576 ∨ x0 + 578 < b) ∧ (b < x0 + 580 ∨ x0 + 595 < b) ∧ (b < x0 + 598 ∨ x0 + 642 < b) → (lp_120_95 x0 (2 - 0 : Int).toNat 1 0 (g_4 (x0 + 64) (g_59 (x0 + 1) (x0 + 580) (mset (g_19 (x0 + 576) (g_17 (x0 + 576) (g_15 (x0 + 576) (g_14 (x0 + 576) (g_13 (x0 + 576) d))))) (x0 + 578) 1 0)))).2 b = d b) → Safe (lp_120_95 x0 (2 - 0 : Int).toNat 1 0 (g_4 (x0 + 64) (g_59 (x0 + 1) (x0 + 580) (mset (g_19 (x0 + 576) (g_17 (x0 + 576) (g_15 (x0 + 576) (g_14 (x0 + 576) (g_13 (x0 + 576) d))))) (x0 + 578) 1 0)))).2 → K (.inl (some (0, (lp_120_95 x0 (2 - 0 : Int).toNat 1 0 (g_4 (x0 + 64) (g_59 (x0 + 1) (x0 + 580) (mset (g_19 (x0 + 576) (g_17 (x0 + 576) (g_15 (x0 + 576) (g_14 (x0 + 576) (g_13 (x0 + 576) d))))) (x0 + 578) 1 0)))).1))) (lp_120_95 x0 (2 - 0 : Int).toNat 1 0 (g_4 (x0 + 64) (g_59 (x0 + 1) (x0 + 580) (mset (g_19 (x0 + 576) (g_17 (x0 + 576) (g_15 (x0 + 576) (g_14 (x0 + 576) (g_13 (x0 + 576) d))))) (x0 + 578) 1 0)))).2) : tCall E 120 [.inr (10, x0)] d K := by
  refine t_120_0 ?_
  have w0 : x0 = 0 := hx0
  have w2 := r_6_f2 hS (wbB.nw hx0)
  have w3 := r_3_f0 hS (stB.of (wbB.nw hx0))
  have w4 := r_4_f0 hS (stB.pe (wbB.nw hx0))
  have w5 := r_8_f0 hS (stB.ti (wbB.nw hx0))
  have w6 := r_9_f0 hS (stB.to (wbB.nw hx0))
  have w7 := r_7_f1 hS (wbB.tx hx0)
  refine k_13 hS (wbB.ld hx0) (fun F1 n1_0 hS3 => ?_)
  refine t_120_7 ?_
  refine k_14 hE hW hS3 (wbB.ld hx0) (by omega) (fun e1 F2 n2_0 hS4 => ?_)
  refine t_120_14 ?_
  refine ⟨m_inR (by omega) (by omega), fun c0 => ?_, fun c0 => ?_⟩
  · have hS5 : Safe (mset (g_14 (x0 + 576) (g_13 (x0 + 576) d)) (x0 + 578) 1 0) := s_7_f1 hS4 (wbB.tx hx0) (by omega)
    refine ⟨m_inR (by omega) (by omega), fun c1 => ?_, fun c1 => ?_⟩
    · exact (show False by omega).elim
    · exact h0 c0 c1 (fun b hb => (mset_ne (by omega)).trans ((F2 b (by omega)).trans (F1 b (by omega)))) hS5
  · refine k_15 hW hS4 (wbB.ld hx0) (by omega) (fun e2 F3 n3_0 hS6 => ?_)
    refine t_120_24 ?_
    refine ⟨m_inR (by omega) (by omega), fun c1 => ?_, fun c1 => ?_⟩
    · have hS7 : Safe (mset (g_15 (x0 + 576) (g_14 (x0 + 576) (g_13 (x0 + 576) d))) (x0 + 578) 1 0) := s_7_f1 hS6 (wbB.tx hx0) (by omega)
      refine ⟨m_inR (by omega) (by omega), fun c2 => ?_, fun c2 => ?_⟩
      · exact (show False by omega).elim
      · exact h1 c0 c1 c2 (fun b hb => (mset_ne (by omega)).trans ((F3 b (by omega)).trans ((F2 b (by omega)).trans (F1 b (by omega))))) hS7
    · have q2 : (g_15 (x0 + 576) (g_14 (x0 + 576) (g_13 (x0 + 576) d))) (x0 + 576 + 4) 2 = (g_14 (x0 + 576) (g_13 (x0 + 576) d)) (x0 + 576 + 4) 2 := congrFun (F3 (x0 + 576 + 4) (by omega)) 2
      refine k_17 hW hS6 (wbB.ld hx0) (by omega) (fun e3 F4 n4_0 hS8 => ?_)
      refine t_120_34 ?_
      refine ⟨m_inR (by omega) (by omega), fun c2 => ?_, fun c2 => ?_⟩
      · have hS9 : Safe (mset (g_17 (x0 + 576) (g_15 (x0 + 576) (g_14 (x0 + 576) (g_13 (x0 + 576) d)))) (x0 + 578) 1 0) := s_7_f1 hS8 (wbB.tx hx0) (by omega)
        refine ⟨m_inR (by omega) (by omega), fun c3 => ?_, fun c3 => ?_⟩
        · exact (show False by omega).elim
        · exact h2 c0 c1 c2 c3 (fun b hb => (mset_ne (by omega)).trans ((F4 b (by omega)).trans ((F3 b (by omega)).trans ((F2 b (by omega)).trans (F1 b (by omega)))))) hS9
      · have q3 : (g_17 (x0 + 576) (g_15 (x0 + 576) (g_14 (x0 + 576) (g_13 (x0 + 576) d)))) (x0 + 576 + 4) 2 = (g_14 (x0 + 576) (g_13 (x0 + 576) d)) (x0 + 576 + 4) 2 := (congrFun (F4 (x0 + 576 + 4) (by omega)) 2).trans (congrFun (F3 (x0 + 576 + 4) (by omega)) 2)
        refine k_19 hW hS8 (wbB.ld hx0) (by omega) (fun e4 F5 n5_0 hS10 => ?_)
        refine t_120_44 ?_
        refine ⟨m_inR (by omega) (by omega), fun c3 => ?_, fun c3 => ?_⟩
        · have hS11 : Safe (mset (g_19 (x0 + 576) (g_17 (x0 + 576) (g_15 (x0 + 576) (g_14 (x0 + 576) (g_13 (x0 + 576) d))))) (x0 + 578) 1 0) := s_7_f1 hS10 (wbB.tx hx0) (by omega)
          refine ⟨m_inR (by omega) (by omega), fun c4 => ?_, fun c4 => ?_⟩
          · exact (show False by omega).elim
          · exact h3 c0 c1 c2 c3 c4 (fun b hb => (mset_ne (by omega)).trans ((F5 b (by omega)).trans ((F4 b (by omega)).trans ((F3 b (by omega)).trans ((F2 b (by omega)).trans (F1 b (by omega))))))) hS11
        · have hS12 : Safe (mset (g_19 (x0 + 576) (g_17 (x0 + 576) (g_15 (x0 + 576) (g_14 (x0 + 576) (g_13 (x0 + 576) d))))) (x0 + 578) 1 0) := s_7_f1 hS10 (wbB.tx hx0) (by omega)
          refine ⟨m_inR (by omega) (by omega), fun c4 => ?_, fun c4 => ?_⟩
          · have q4 : (mset (g_19 (x0 + 576) (g_17 (x0 + 576) (g_15 (x0 + 576) (g_14 (x0 + 576) (g_13 (x0 + 576) d))))) (x0 + 578) 1 0) (x0 + 580) 2 = (g_19 (x0 + 576) (g_17 (x0 + 576) (g_15 (x0 + 576) (g_14 (x0 + 576) (g_13 (x0 + 576) d))))) (x0 + 580) 2 := congrFun (mset_ne (by omega)) 2
            refine k_59 hS12 (wbB.nw hx0) (wbB.sp hx0) (by have e : ∀ f : mD, f (x0 + 576 + 4) 2 = f (x0 + 580) 2 := (fun f => by rw [show x0 + 576 + 4 = x0 + 580 by omega]); have u := e (g_19 (x0 + 576) (g_17 (x0 + 576) (g_15 (x0 + 576) (g_14 (x0 + 576) (g_13 (x0 + 576) d))))); omega) (fun F6 k6_0 hS13 => ?_)
            refine t_120_86 ?_
            refine k_4 hS13 (wbB.hi hx0) (fun F7 hS14 => ?_)
            refine t_120_93 ?_
            refine l_120_95 hE hW hx0 (2 - 0 : Int).toNat 1 0  (g_4 (x0 + 64) (g_59 (x0 + 1) (x0 + 580) (mset (g_19 (x0 + 576) (g_17 (x0 + 576) (g_15 (x0 + 576) (g_14 (x0 + 576) (g_13 (x0 + 576) d))))) (x0 + 578) 1 0))) hS14 (by omega) (by omega) ?_
            intro e F hS_
            exact h4 c0 c1 c2 c3 c4 e (fun b hb => (F b hb).trans ((show ∀ b : Int, (b < x0 + 1 ∨ x0 + 16 < b) ∧ (b < x0 + 19 ∨ x0 + 64 < b) ∧ (b < x0 + 571 ∨ x0 + 572 < b) ∧ (b < x0 + 576 ∨ x0 + 578 < b) ∧ (b < x0 + 580 ∨ x0 + 595 < b) ∧ (b < x0 + 598 ∨ x0 + 642 < b) → (g_4 (x0 + 64) (g_59 (x0 + 1) (x0 + 580) (mset (g_19 (x0 + 576) (g_17 (x0 + 576) (g_15 (x0 + 576) (g_14 (x0 + 576) (g_13 (x0 + 576) d))))) (x0 + 578) 1 0))) b = d b from fun b hb => (F7 b (by omega)).trans ((F6 b (by omega)).trans ((mset_ne (by omega)).trans ((F5 b (by omega)).trans ((F4 b (by omega)).trans ((F3 b (by omega)).trans ((F2 b (by omega)).trans (F1 b (by omega))))))))) b hb)) hS_
          · exact (show False by omega).elim
