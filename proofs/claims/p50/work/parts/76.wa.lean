/-! ===== the law's wrappers: printed by a program of mine ===== -/
def ouB (x : Int) : Prop := x = 778
theorem s_ou {d : mD} {x i v : Int} (hS : Safe d) (hx : ouB x) : Safe (mset d x i v) := hS.set (show tcd x = 778 by rw [show x = 778 from hx]; rfl) trivial
def v_301 (x0 x1 x2 x3 x4 x5 x6 : Int) (d : mD) : Int := if (1000 : Int) < (d (x0 + 578) 1) + 20 then 1 else 0
def g_301 (x0 x1 x2 x3 x4 x5 x6 : Int) (d : mD) : mD := if (1000 : Int) < (d (x0 + 578) 1) + 20 then d else mset (g_87 (x0 + 578) x5 (g_87 (x0 + 578) x4 (g_87 (x0 + 578) x3 (g_87 (x0 + 578) x2 (g_87 (x0 + 578) x1 d))))) x6 0 ((g_87 (x0 + 578) x5 (g_87 (x0 + 578) x4 (g_87 (x0 + 578) x3 (g_87 (x0 + 578) x2 (g_87 (x0 + 578) x1 d))))) (x0 + 578) 1)
theorem k_301 {E : mO × tW} {K : tK} {d : mD} {x0 x1 x2 x3 x4 x5 x6 : Int} (hS : Safe d) (hx0 : wbB x0) (hx6 : ouB x6) (p1 : -2147483648 ≤ x1 ∧ x1 ≤ 2147483647) (p2 : -2147483648 ≤ x2 ∧ x2 ≤ 2147483647) (p3 : -2147483648 ≤ x3 ∧ x3 ≤ 2147483647) (p4 : -2147483648 ≤ x4 ∧ x4 ≤ 2147483647) (p5 : -2147483648 ≤ x5 ∧ x5 ≤ 2147483647) (h : (0 ≤ (v_301 x0 x1 x2 x3 x4 x5 x6 d) ∧ (v_301 x0 x1 x2 x3 x4 x5 x6 d) ≤ 3) → (∀ b : Int, (b < x0 + 578 ∨ x0 + 579 < b) ∧ (b < x6 ∨ x6 < b) → (g_301 x0 x1 x2 x3 x4 x5 x6 d) b = d b) → Safe (g_301 x0 x1 x2 x3 x4 x5 x6 d) → K (.inl (some (0, (v_301 x0 x1 x2 x3 x4 x5 x6 d)))) (g_301 x0 x1 x2 x3 x4 x5 x6 d)) : tCall E 301 [.inr (10, x0), .inl (0, x1), .inl (0, x2), .inl (0, x3), .inl (0, x4), .inl (0, x5), .inr (30, x6)] d K := by
  refine t_301_0 ?_
  refine k_118 hS hx0 (m_inR (by omega) (by omega)) (m_inR (by omega) (by omega)) (m_inR (by omega) (by omega)) (m_inR (by omega) (by omega)) (m_inR (by omega) (by omega)) (fun z0 e1 F1 hS1 => ?_) (fun z0 => ?_)
  · refine t_301_14 ?_
    refine ⟨m_inR (by omega) (by omega), by omega, ?_⟩
    have hS2 : Safe (mset (g_87 (x0 + 578) x5 (g_87 (x0 + 578) x4 (g_87 (x0 + 578) x3 (g_87 (x0 + 578) x2 (g_87 (x0 + 578) x1 d))))) x6 0 ((g_87 (x0 + 578) x5 (g_87 (x0 + 578) x4 (g_87 (x0 + 578) x3 (g_87 (x0 + 578) x2 (g_87 (x0 + 578) x1 d))))) (x0 + 578) 1)) := s_ou hS1 hx6
    have y0 : v_301 x0 x1 x2 x3 x4 x5 x6 d = 0 := by simp only [v_301, if_neg (show ¬ (1000 : Int) < (d (x0 + 578) 1) + 20 from Int.not_lt.mpr z0)]
    have y1 : g_301 x0 x1 x2 x3 x4 x5 x6 d = mset (g_87 (x0 + 578) x5 (g_87 (x0 + 578) x4 (g_87 (x0 + 578) x3 (g_87 (x0 + 578) x2 (g_87 (x0 + 578) x1 d))))) x6 0 ((g_87 (x0 + 578) x5 (g_87 (x0 + 578) x4 (g_87 (x0 + 578) x3 (g_87 (x0 + 578) x2 (g_87 (x0 + 578) x1 d))))) (x0 + 578) 1) := by simp only [g_301, if_neg (show ¬ (1000 : Int) < (d (x0 + 578) 1) + 20 from Int.not_lt.mpr z0)]
    rw [y0] at h
    rw [y1] at h
    exact h (show 0 ≤ ((0 : Int)) ∧ ((0 : Int)) ≤ 3 from (by omega)) (show ∀ b : Int, (b < x0 + 578 ∨ x0 + 579 < b) ∧ (b < x6 ∨ x6 < b) → (mset (g_87 (x0 + 578) x5 (g_87 (x0 + 578) x4 (g_87 (x0 + 578) x3 (g_87 (x0 + 578) x2 (g_87 (x0 + 578) x1 d))))) x6 0 ((g_87 (x0 + 578) x5 (g_87 (x0 + 578) x4 (g_87 (x0 + 578) x3 (g_87 (x0 + 578) x2 (g_87 (x0 + 578) x1 d))))) (x0 + 578) 1)) b = d b from fun b hb => (mset_ne (by omega)).trans (F1 b (by omega))) hS2
  · have y0 : v_301 x0 x1 x2 x3 x4 x5 x6 d = 1 := by simp only [v_301, if_pos (show (1000 : Int) < (d (x0 + 578) 1) + 20 from z0)]
    have y1 : g_301 x0 x1 x2 x3 x4 x5 x6 d = d := by simp only [g_301, if_pos (show (1000 : Int) < (d (x0 + 578) 1) + 20 from z0)]
    rw [y0] at h
    rw [y1] at h
    exact h (show 0 ≤ ((1 : Int)) ∧ ((1 : Int)) ≤ 3 from (by omega)) (show ∀ b : Int, (b < x0 + 578 ∨ x0 + 579 < b) ∧ (b < x6 ∨ x6 < b) → d b = d b from fun _ _ => rfl) hS
def v_302 (x0 x1 x2 : Int) (d : mD) : Int := if x1 < 0 then 1 else if d (x0 + 578) 1 < x1 then 1 else 0
def g_302 (x0 x1 x2 : Int) (d : mD) : mD := if x1 < 0 then d else if d (x0 + 578) 1 < x1 then d else mset (mset d (x0 + 578) 1 x1) x2 0 x1
theorem k_302 {E : mO × tW} {K : tK} {d : mD} {x0 x1 x2 : Int} (hS : Safe d) (hx0 : wbB x0) (hx2 : ouB x2) (p1 : -2147483648 ≤ x1 ∧ x1 ≤ 2147483647) (h : (0 ≤ (v_302 x0 x1 x2 d) ∧ (v_302 x0 x1 x2 d) ≤ 3) → (∀ b : Int, (b < x0 + 578 ∨ x0 + 578 < b) ∧ (b < x2 ∨ x2 < b) → (g_302 x0 x1 x2 d) b = d b) → Safe (g_302 x0 x1 x2 d) → K (.inl (some (0, (v_302 x0 x1 x2 d)))) (g_302 x0 x1 x2 d)) : tCall E 302 [.inr (10, x0), .inl (0, x1), .inr (30, x2)] d K := by
  refine t_302_0 ?_
  refine k_119 hS hx0 (m_inR (by omega) (by omega)) (fun z0 => ?_) (fun z0 z1 e1 F1 hS1 => ?_) (fun z0 z1 => ?_)
  · have y0 : v_302 x0 x1 x2 d = 1 := by simp only [v_302, if_pos (show x1 < 0 from z0)]
    have y1 : g_302 x0 x1 x2 d = d := by simp only [g_302, if_pos (show x1 < 0 from z0)]
    rw [y0] at h
    rw [y1] at h
    exact h (show 0 ≤ ((1 : Int)) ∧ ((1 : Int)) ≤ 3 from (by omega)) (show ∀ b : Int, (b < x0 + 578 ∨ x0 + 578 < b) ∧ (b < x2 ∨ x2 < b) → d b = d b from fun _ _ => rfl) hS
  · refine t_302_7 ?_
    refine ⟨m_inR (by omega) (by omega), by omega, ?_⟩
    have hS2 : Safe (mset (mset d (x0 + 578) 1 x1) x2 0 x1) := s_ou hS1 hx2
    have y0 : v_302 x0 x1 x2 d = 0 := by simp only [v_302, if_neg (show ¬ x1 < 0 from Int.not_lt.mpr z0), if_neg (show ¬ d (x0 + 578) 1 < x1 from Int.not_lt.mpr z1)]
    have y1 : g_302 x0 x1 x2 d = mset (mset d (x0 + 578) 1 x1) x2 0 x1 := by simp only [g_302, if_neg (show ¬ x1 < 0 from Int.not_lt.mpr z0), if_neg (show ¬ d (x0 + 578) 1 < x1 from Int.not_lt.mpr z1)]
    rw [y0] at h
    rw [y1] at h
    exact h (show 0 ≤ ((0 : Int)) ∧ ((0 : Int)) ≤ 3 from (by omega)) (show ∀ b : Int, (b < x0 + 578 ∨ x0 + 578 < b) ∧ (b < x2 ∨ x2 < b) → (mset (mset d (x0 + 578) 1 x1) x2 0 x1) b = d b from fun b hb => (mset_ne (by omega)).trans (F1 b (by omega))) hS2
  · have y0 : v_302 x0 x1 x2 d = 1 := by simp only [v_302, if_neg (show ¬ x1 < 0 from Int.not_lt.mpr z0), if_pos (show d (x0 + 578) 1 < x1 from z1)]
    have y1 : g_302 x0 x1 x2 d = d := by simp only [g_302, if_neg (show ¬ x1 < 0 from Int.not_lt.mpr z0), if_pos (show d (x0 + 578) 1 < x1 from z1)]
    rw [y0] at h
    rw [y1] at h
    exact h (show 0 ≤ ((1 : Int)) ∧ ((1 : Int)) ≤ 3 from (by omega)) (show ∀ b : Int, (b < x0 + 578 ∨ x0 + 578 < b) ∧ (b < x2 ∨ x2 < b) → d b = d b from fun _ _ => rfl) hS
def v_303 (x0 x1 : Int) (d : mD) : Int := if v_14 (x0 + 576) (g_13 (x0 + 576) d) = 0 then 1 else if v_15 (x0 + 576) (g_14 (x0 + 576) (g_13 (x0 + 576) d)) = 0 then 1 else if v_17 (x0 + 576) (g_15 (x0 + 576) (g_14 (x0 + 576) (g_13 (x0 + 576) d))) = 0 then 1 else if v_19 (x0 + 576) (g_17 (x0 + 576) (g_15 (x0 + 576) (g_14 (x0 + 576) (g_13 (x0 + 576) d)))) = 0 then 1 else 0
def g_303 (x0 x1 : Int) (d : mD) : mD := if v_14 (x0 + 576) (g_13 (x0 + 576) d) = 0 then mset (g_14 (x0 + 576) (g_13 (x0 + 576) d)) (x0 + 578) 1 0 else if v_15 (x0 + 576) (g_14 (x0 + 576) (g_13 (x0 + 576) d)) = 0 then mset (g_15 (x0 + 576) (g_14 (x0 + 576) (g_13 (x0 + 576) d))) (x0 + 578) 1 0 else if v_17 (x0 + 576) (g_15 (x0 + 576) (g_14 (x0 + 576) (g_13 (x0 + 576) d))) = 0 then mset (g_17 (x0 + 576) (g_15 (x0 + 576) (g_14 (x0 + 576) (g_13 (x0 + 576) d)))) (x0 + 578) 1 0 else if v_19 (x0 + 576) (g_17 (x0 + 576) (g_15 (x0 + 576) (g_14 (x0 + 576) (g_13 (x0 + 576) d)))) = 0 then mset (g_19 (x0 + 576) (g_17 (x0 + 576) (g_15 (x0 + 576) (g_14 (x0 + 576) (g_13 (x0 + 576) d))))) (x0 + 578) 1 0 else mset ((lp_120_95 x0 (2 - 0 : Int).toNat 1 0 (g_4 (x0 + 64) (g_59 (x0 + 1) (x0 + 580) (mset (g_19 (x0 + 576) (g_17 (x0 + 576) (g_15 (x0 + 576) (g_14 (x0 + 576) (g_13 (x0 + 576) d))))) (x0 + 578) 1 0)))).2) x1 0 ((lp_120_95 x0 (2 - 0 : Int).toNat 1 0 (g_4 (x0 + 64) (g_59 (x0 + 1) (x0 + 580) (mset (g_19 (x0 + 576) (g_17 (x0 + 576) (g_15 (x0 + 576) (g_14 (x0 + 576) (g_13 (x0 + 576) d))))) (x0 + 578) 1 0)))).1)
theorem k_303 {E : mO × tW} {K : tK} {d : mD} {x0 x1 : Int} (hE : EOK E) (hW : W55 E) (hS : Safe d) (hx0 : wbB x0) (hx1 : ouB x1) (h : (0 ≤ (v_303 x0 x1 d) ∧ (v_303 x0 x1 d) ≤ 3) → (∀ b : Int, (b < x0 + 1 ∨ x0 + 16 < b) ∧ (b < x0 + 19 ∨ x0 + 64 < b) ∧ (b < x0 + 571 ∨ x0 + 572 < b) ∧ (b < x0 + 576 ∨ x0 + 578 < b) ∧ (b < x0 + 580 ∨ x0 + 595 < b) ∧ (b < x0 + 598 ∨ x0 + 642 < b) ∧ (b < x1 ∨ x1 < b) → (g_303 x0 x1 d) b = d b) → Safe (g_303 x0 x1 d) → K (.inl (some (0, (v_303 x0 x1 d)))) (g_303 x0 x1 d)) : tCall E 303 [.inr (10, x0), .inr (30, x1)] d K := by
  refine t_303_0 ?_
  refine k_120 hE hW hS hx0 (fun z0 z1 F1 hS1 => ?_) (fun z0 z1 z2 F2 hS2 => ?_) (fun z0 z1 z2 z3 F3 hS3 => ?_) (fun z0 z1 z2 z3 z4 F4 hS4 => ?_) (fun z0 z1 z2 z3 z4 e1 F5 hS5 => ?_)
  · have y0 : v_303 x0 x1 d = 1 := by simp only [v_303, if_pos (show v_14 (x0 + 576) (g_13 (x0 + 576) d) = 0 from z0), if_pos (show (0 : Int) = 0 from z1)]
    have y1 : g_303 x0 x1 d = mset (g_14 (x0 + 576) (g_13 (x0 + 576) d)) (x0 + 578) 1 0 := by simp only [g_303, if_pos (show v_14 (x0 + 576) (g_13 (x0 + 576) d) = 0 from z0), if_pos (show (0 : Int) = 0 from z1)]
    rw [y0] at h
    rw [y1] at h
    exact h (show 0 ≤ ((1 : Int)) ∧ ((1 : Int)) ≤ 3 from (by omega)) (show ∀ b : Int, (b < x0 + 1 ∨ x0 + 16 < b) ∧ (b < x0 + 19 ∨ x0 + 64 < b) ∧ (b < x0 + 571 ∨ x0 + 572 < b) ∧ (b < x0 + 576 ∨ x0 + 578 < b) ∧ (b < x0 + 580 ∨ x0 + 595 < b) ∧ (b < x0 + 598 ∨ x0 + 642 < b) ∧ (b < x1 ∨ x1 < b) → (mset (g_14 (x0 + 576) (g_13 (x0 + 576) d)) (x0 + 578) 1 0) b = d b from fun b hb => F1 b (by omega)) hS1
  · have y0 : v_303 x0 x1 d = 1 := by simp only [v_303, if_neg (show ¬ v_14 (x0 + 576) (g_13 (x0 + 576) d) = 0 from z0), if_pos (show v_15 (x0 + 576) (g_14 (x0 + 576) (g_13 (x0 + 576) d)) = 0 from z1), if_pos (show (0 : Int) = 0 from z2)]
    have y1 : g_303 x0 x1 d = mset (g_15 (x0 + 576) (g_14 (x0 + 576) (g_13 (x0 + 576) d))) (x0 + 578) 1 0 := by simp only [g_303, if_neg (show ¬ v_14 (x0 + 576) (g_13 (x0 + 576) d) = 0 from z0), if_pos (show v_15 (x0 + 576) (g_14 (x0 + 576) (g_13 (x0 + 576) d)) = 0 from z1), if_pos (show (0 : Int) = 0 from z2)]
    rw [y0] at h
    rw [y1] at h
    exact h (show 0 ≤ ((1 : Int)) ∧ ((1 : Int)) ≤ 3 from (by omega)) (show ∀ b : Int, (b < x0 + 1 ∨ x0 + 16 < b) ∧ (b < x0 + 19 ∨ x0 + 64 < b) ∧ (b < x0 + 571 ∨ x0 + 572 < b) ∧ (b < x0 + 576 ∨ x0 + 578 < b) ∧ (b < x0 + 580 ∨ x0 + 595 < b) ∧ (b < x0 + 598 ∨ x0 + 642 < b) ∧ (b < x1 ∨ x1 < b) → (mset (g_15 (x0 + 576) (g_14 (x0 + 576) (g_13 (x0 + 576) d))) (x0 + 578) 1 0) b = d b from fun b hb => F2 b (by omega)) hS2
  · have y0 : v_303 x0 x1 d = 1 := by simp only [v_303, if_neg (show ¬ v_14 (x0 + 576) (g_13 (x0 + 576) d) = 0 from z0), if_neg (show ¬ v_15 (x0 + 576) (g_14 (x0 + 576) (g_13 (x0 + 576) d)) = 0 from z1), if_pos (show v_17 (x0 + 576) (g_15 (x0 + 576) (g_14 (x0 + 576) (g_13 (x0 + 576) d))) = 0 from z2), if_pos (show (0 : Int) = 0 from z3)]
    have y1 : g_303 x0 x1 d = mset (g_17 (x0 + 576) (g_15 (x0 + 576) (g_14 (x0 + 576) (g_13 (x0 + 576) d)))) (x0 + 578) 1 0 := by simp only [g_303, if_neg (show ¬ v_14 (x0 + 576) (g_13 (x0 + 576) d) = 0 from z0), if_neg (show ¬ v_15 (x0 + 576) (g_14 (x0 + 576) (g_13 (x0 + 576) d)) = 0 from z1), if_pos (show v_17 (x0 + 576) (g_15 (x0 + 576) (g_14 (x0 + 576) (g_13 (x0 + 576) d))) = 0 from z2), if_pos (show (0 : Int) = 0 from z3)]
    rw [y0] at h
    rw [y1] at h
    exact h (show 0 ≤ ((1 : Int)) ∧ ((1 : Int)) ≤ 3 from (by omega)) (show ∀ b : Int, (b < x0 + 1 ∨ x0 + 16 < b) ∧ (b < x0 + 19 ∨ x0 + 64 < b) ∧ (b < x0 + 571 ∨ x0 + 572 < b) ∧ (b < x0 + 576 ∨ x0 + 578 < b) ∧ (b < x0 + 580 ∨ x0 + 595 < b) ∧ (b < x0 + 598 ∨ x0 + 642 < b) ∧ (b < x1 ∨ x1 < b) → (mset (g_17 (x0 + 576) (g_15 (x0 + 576) (g_14 (x0 + 576) (g_13 (x0 + 576) d)))) (x0 + 578) 1 0) b = d b from fun b hb => F3 b (by omega)) hS3
  · have y0 : v_303 x0 x1 d = 1 := by simp only [v_303, if_neg (show ¬ v_14 (x0 + 576) (g_13 (x0 + 576) d) = 0 from z0), if_neg (show ¬ v_15 (x0 + 576) (g_14 (x0 + 576) (g_13 (x0 + 576) d)) = 0 from z1), if_neg (show ¬ v_17 (x0 + 576) (g_15 (x0 + 576) (g_14 (x0 + 576) (g_13 (x0 + 576) d))) = 0 from z2), if_pos (show v_19 (x0 + 576) (g_17 (x0 + 576) (g_15 (x0 + 576) (g_14 (x0 + 576) (g_13 (x0 + 576) d)))) = 0 from z3), if_pos (show (0 : Int) = 0 from z4)]
    have y1 : g_303 x0 x1 d = mset (g_19 (x0 + 576) (g_17 (x0 + 576) (g_15 (x0 + 576) (g_14 (x0 + 576) (g_13 (x0 + 576) d))))) (x0 + 578) 1 0 := by simp only [g_303, if_neg (show ¬ v_14 (x0 + 576) (g_13 (x0 + 576) d) = 0 from z0), if_neg (show ¬ v_15 (x0 + 576) (g_14 (x0 + 576) (g_13 (x0 + 576) d)) = 0 from z1), if_neg (show ¬ v_17 (x0 + 576) (g_15 (x0 + 576) (g_14 (x0 + 576) (g_13 (x0 + 576) d))) = 0 from z2), if_pos (show v_19 (x0 + 576) (g_17 (x0 + 576) (g_15 (x0 + 576) (g_14 (x0 + 576) (g_13 (x0 + 576) d)))) = 0 from z3), if_pos (show (0 : Int) = 0 from z4)]
    rw [y0] at h
    rw [y1] at h
    exact h (show 0 ≤ ((1 : Int)) ∧ ((1 : Int)) ≤ 3 from (by omega)) (show ∀ b : Int, (b < x0 + 1 ∨ x0 + 16 < b) ∧ (b < x0 + 19 ∨ x0 + 64 < b) ∧ (b < x0 + 571 ∨ x0 + 572 < b) ∧ (b < x0 + 576 ∨ x0 + 578 < b) ∧ (b < x0 + 580 ∨ x0 + 595 < b) ∧ (b < x0 + 598 ∨ x0 + 642 < b) ∧ (b < x1 ∨ x1 < b) → (mset (g_19 (x0 + 576) (g_17 (x0 + 576) (g_15 (x0 + 576) (g_14 (x0 + 576) (g_13 (x0 + 576) d))))) (x0 + 578) 1 0) b = d b from fun b hb => F4 b (by omega)) hS4
  · refine t_303_6 ?_
    refine ⟨m_inR (by omega) (by omega), by omega, ?_⟩
    have hS6 : Safe (mset ((lp_120_95 x0 (2 - 0 : Int).toNat 1 0 (g_4 (x0 + 64) (g_59 (x0 + 1) (x0 + 580) (mset (g_19 (x0 + 576) (g_17 (x0 + 576) (g_15 (x0 + 576) (g_14 (x0 + 576) (g_13 (x0 + 576) d))))) (x0 + 578) 1 0)))).2) x1 0 ((lp_120_95 x0 (2 - 0 : Int).toNat 1 0 (g_4 (x0 + 64) (g_59 (x0 + 1) (x0 + 580) (mset (g_19 (x0 + 576) (g_17 (x0 + 576) (g_15 (x0 + 576) (g_14 (x0 + 576) (g_13 (x0 + 576) d))))) (x0 + 578) 1 0)))).1)) := s_ou hS5 hx1
    have y0 : v_303 x0 x1 d = 0 := by simp only [v_303, if_neg (show ¬ v_14 (x0 + 576) (g_13 (x0 + 576) d) = 0 from z0), if_neg (show ¬ v_15 (x0 + 576) (g_14 (x0 + 576) (g_13 (x0 + 576) d)) = 0 from z1), if_neg (show ¬ v_17 (x0 + 576) (g_15 (x0 + 576) (g_14 (x0 + 576) (g_13 (x0 + 576) d))) = 0 from z2), if_neg (show ¬ v_19 (x0 + 576) (g_17 (x0 + 576) (g_15 (x0 + 576) (g_14 (x0 + 576) (g_13 (x0 + 576) d)))) = 0 from z3), if_neg (show ¬ (1 : Int) = 0 from z4)]
    have y1 : g_303 x0 x1 d = mset ((lp_120_95 x0 (2 - 0 : Int).toNat 1 0 (g_4 (x0 + 64) (g_59 (x0 + 1) (x0 + 580) (mset (g_19 (x0 + 576) (g_17 (x0 + 576) (g_15 (x0 + 576) (g_14 (x0 + 576) (g_13 (x0 + 576) d))))) (x0 + 578) 1 0)))).2) x1 0 ((lp_120_95 x0 (2 - 0 : Int).toNat 1 0 (g_4 (x0 + 64) (g_59 (x0 + 1) (x0 + 580) (mset (g_19 (x0 + 576) (g_17 (x0 + 576) (g_15 (x0 + 576) (g_14 (x0 + 576) (g_13 (x0 + 576) d))))) (x0 + 578) 1 0)))).1) := by simp only [g_303, if_neg (show ¬ v_14 (x0 + 576) (g_13 (x0 + 576) d) = 0 from z0), if_neg (show ¬ v_15 (x0 + 576) (g_14 (x0 + 576) (g_13 (x0 + 576) d)) = 0 from z1), if_neg (show ¬ v_17 (x0 + 576) (g_15 (x0 + 576) (g_14 (x0 + 576) (g_13 (x0 + 576) d))) = 0 from z2), if_neg (show ¬ v_19 (x0 + 576) (g_17 (x0 + 576) (g_15 (x0 + 576) (g_14 (x0 + 576) (g_13 (x0 + 576) d)))) = 0 from z3), if_neg (show ¬ (1 : Int) = 0 from z4)]
    rw [y0] at h
    rw [y1] at h
    exact h (show 0 ≤ ((0 : Int)) ∧ ((0 : Int)) ≤ 3 from (by omega)) (show ∀ b : Int, (b < x0 + 1 ∨ x0 + 16 < b) ∧ (b < x0 + 19 ∨ x0 + 64 < b) ∧ (b < x0 + 571 ∨ x0 + 572 < b) ∧ (b < x0 + 576 ∨ x0 + 578 < b) ∧ (b < x0 + 580 ∨ x0 + 595 < b) ∧ (b < x0 + 598 ∨ x0 + 642 < b) ∧ (b < x1 ∨ x1 < b) → (mset ((lp_120_95 x0 (2 - 0 : Int).toNat 1 0 (g_4 (x0 + 64) (g_59 (x0 + 1) (x0 + 580) (mset (g_19 (x0 + 576) (g_17 (x0 + 576) (g_15 (x0 + 576) (g_14 (x0 + 576) (g_13 (x0 + 576) d))))) (x0 + 578) 1 0)))).2) x1 0 ((lp_120_95 x0 (2 - 0 : Int).toNat 1 0 (g_4 (x0 + 64) (g_59 (x0 + 1) (x0 + 580) (mset (g_19 (x0 + 576) (g_17 (x0 + 576) (g_15 (x0 + 576) (g_14 (x0 + 576) (g_13 (x0 + 576) d))))) (x0 + 578) 1 0)))).1)) b = d b from fun b hb => (mset_ne (by omega)).trans (F5 b (by omega))) hS6
def v_304 (x0 x1 x2 : Int) (d : mD) : Int := if x1 = 0 then (if v_48 (x0 + 1 + 10) (v_93 (x0 + 578) 0 (d (x0 + 578) 1) d) (mset d (x0 + 578) 1 0) = (-1) then 1 else 0) else if v_36 (x0 + 1 + 2) (v_93 (x0 + 578) 0 (d (x0 + 578) 1) d) (mset d (x0 + 578) 1 0) = (-1) then 1 else 0
def g_304 (x0 x1 x2 : Int) (d : mD) : mD := if x1 = 0 then (if v_48 (x0 + 1 + 10) (v_93 (x0 + 578) 0 (d (x0 + 578) 1) d) (mset d (x0 + 578) 1 0) = (-1) then mset d (x0 + 578) 1 0 else mset (mset d (x0 + 578) 1 0) x2 0 (v_48 (x0 + 1 + 10) (v_93 (x0 + 578) 0 (d (x0 + 578) 1) d) (mset d (x0 + 578) 1 0))) else if v_36 (x0 + 1 + 2) (v_93 (x0 + 578) 0 (d (x0 + 578) 1) d) (mset d (x0 + 578) 1 0) = (-1) then mset d (x0 + 578) 1 0 else mset (mset d (x0 + 578) 1 0) x2 0 (v_36 (x0 + 1 + 2) (v_93 (x0 + 578) 0 (d (x0 + 578) 1) d) (mset d (x0 + 578) 1 0))
theorem k_304 {E : mO × tW} {K : tK} {d : mD} {x0 x1 x2 : Int} (hS : Safe d) (hx0 : wbB x0) (hx2 : ouB x2) (p1 : -2147483648 ≤ x1 ∧ x1 ≤ 2147483647) (h : (0 ≤ (v_304 x0 x1 x2 d) ∧ (v_304 x0 x1 x2 d) ≤ 3) → (∀ b : Int, (b < x0 + 578 ∨ x0 + 578 < b) ∧ (b < x2 ∨ x2 < b) → (g_304 x0 x1 x2 d) b = d b) → Safe (g_304 x0 x1 x2 d) → K (.inl (some (0, (v_304 x0 x1 x2 d)))) (g_304 x0 x1 x2 d)) : tCall E 304 [.inr (10, x0), .inl (0, x1), .inr (30, x2)] d K := by
  refine t_304_0 ?_
  refine k_123 hS hx0 (m_inR (by omega) (by omega)) (fun z0 z1 e1 F1 hS1 => ?_) (fun z0 z1 F2 hS2 => ?_) (fun z0 z1 e2 F3 hS3 => ?_) (fun z0 z1 F4 hS4 => ?_)
  · refine t_304_7 ?_
    refine ⟨m_inR (by omega) (by omega), by omega, ?_⟩
    have hS5 : Safe (mset (mset d (x0 + 578) 1 0) x2 0 (v_48 (x0 + 1 + 10) (v_93 (x0 + 578) 0 (d (x0 + 578) 1) d) (mset d (x0 + 578) 1 0))) := s_ou hS1 hx2
    have y0 : v_304 x0 x1 x2 d = 0 := by simp only [v_304, if_pos (show x1 = 0 from z0), if_neg (show ¬ v_48 (x0 + 1 + 10) (v_93 (x0 + 578) 0 (d (x0 + 578) 1) d) (mset d (x0 + 578) 1 0) = (-1) from z1)]
    have y1 : g_304 x0 x1 x2 d = mset (mset d (x0 + 578) 1 0) x2 0 (v_48 (x0 + 1 + 10) (v_93 (x0 + 578) 0 (d (x0 + 578) 1) d) (mset d (x0 + 578) 1 0)) := by simp only [g_304, if_pos (show x1 = 0 from z0), if_neg (show ¬ v_48 (x0 + 1 + 10) (v_93 (x0 + 578) 0 (d (x0 + 578) 1) d) (mset d (x0 + 578) 1 0) = (-1) from z1)]
    rw [y0] at h
    rw [y1] at h
    exact h (show 0 ≤ ((0 : Int)) ∧ ((0 : Int)) ≤ 3 from (by omega)) (show ∀ b : Int, (b < x0 + 578 ∨ x0 + 578 < b) ∧ (b < x2 ∨ x2 < b) → (mset (mset d (x0 + 578) 1 0) x2 0 (v_48 (x0 + 1 + 10) (v_93 (x0 + 578) 0 (d (x0 + 578) 1) d) (mset d (x0 + 578) 1 0))) b = d b from fun b hb => (mset_ne (by omega)).trans (F1 b (by omega))) hS5
  · have y0 : v_304 x0 x1 x2 d = 1 := by simp only [v_304, if_pos (show x1 = 0 from z0), if_pos (show v_48 (x0 + 1 + 10) (v_93 (x0 + 578) 0 (d (x0 + 578) 1) d) (mset d (x0 + 578) 1 0) = (-1) from z1)]
    have y1 : g_304 x0 x1 x2 d = mset d (x0 + 578) 1 0 := by simp only [g_304, if_pos (show x1 = 0 from z0), if_pos (show v_48 (x0 + 1 + 10) (v_93 (x0 + 578) 0 (d (x0 + 578) 1) d) (mset d (x0 + 578) 1 0) = (-1) from z1)]
    rw [y0] at h
    rw [y1] at h
    exact h (show 0 ≤ ((1 : Int)) ∧ ((1 : Int)) ≤ 3 from (by omega)) (show ∀ b : Int, (b < x0 + 578 ∨ x0 + 578 < b) ∧ (b < x2 ∨ x2 < b) → (mset d (x0 + 578) 1 0) b = d b from fun b hb => F2 b (by omega)) hS2
  · refine t_304_7 ?_
    refine ⟨m_inR (by omega) (by omega), by omega, ?_⟩
    have hS6 : Safe (mset (mset d (x0 + 578) 1 0) x2 0 (v_36 (x0 + 1 + 2) (v_93 (x0 + 578) 0 (d (x0 + 578) 1) d) (mset d (x0 + 578) 1 0))) := s_ou hS3 hx2
    have y0 : v_304 x0 x1 x2 d = 0 := by simp only [v_304, if_neg (show ¬ x1 = 0 from z0), if_neg (show ¬ v_36 (x0 + 1 + 2) (v_93 (x0 + 578) 0 (d (x0 + 578) 1) d) (mset d (x0 + 578) 1 0) = (-1) from z1)]
    have y1 : g_304 x0 x1 x2 d = mset (mset d (x0 + 578) 1 0) x2 0 (v_36 (x0 + 1 + 2) (v_93 (x0 + 578) 0 (d (x0 + 578) 1) d) (mset d (x0 + 578) 1 0)) := by simp only [g_304, if_neg (show ¬ x1 = 0 from z0), if_neg (show ¬ v_36 (x0 + 1 + 2) (v_93 (x0 + 578) 0 (d (x0 + 578) 1) d) (mset d (x0 + 578) 1 0) = (-1) from z1)]
    rw [y0] at h
    rw [y1] at h
    exact h (show 0 ≤ ((0 : Int)) ∧ ((0 : Int)) ≤ 3 from (by omega)) (show ∀ b : Int, (b < x0 + 578 ∨ x0 + 578 < b) ∧ (b < x2 ∨ x2 < b) → (mset (mset d (x0 + 578) 1 0) x2 0 (v_36 (x0 + 1 + 2) (v_93 (x0 + 578) 0 (d (x0 + 578) 1) d) (mset d (x0 + 578) 1 0))) b = d b from fun b hb => (mset_ne (by omega)).trans (F3 b (by omega))) hS6
  · have y0 : v_304 x0 x1 x2 d = 1 := by simp only [v_304, if_neg (show ¬ x1 = 0 from z0), if_pos (show v_36 (x0 + 1 + 2) (v_93 (x0 + 578) 0 (d (x0 + 578) 1) d) (mset d (x0 + 578) 1 0) = (-1) from z1)]
    have y1 : g_304 x0 x1 x2 d = mset d (x0 + 578) 1 0 := by simp only [g_304, if_neg (show ¬ x1 = 0 from z0), if_pos (show v_36 (x0 + 1 + 2) (v_93 (x0 + 578) 0 (d (x0 + 578) 1) d) (mset d (x0 + 578) 1 0) = (-1) from z1)]
    rw [y0] at h
    rw [y1] at h
    exact h (show 0 ≤ ((1 : Int)) ∧ ((1 : Int)) ≤ 3 from (by omega)) (show ∀ b : Int, (b < x0 + 578 ∨ x0 + 578 < b) ∧ (b < x2 ∨ x2 < b) → (mset d (x0 + 578) 1 0) b = d b from fun b hb => F4 b (by omega)) hS4
def v_305 (x0 x1 x2 : Int) (d : mD) : Int := if x1 = 0 then 0 else if x1 = 1 then 0 else if x1 = 2 then 0 else if x1 = 3 then 0 else if x1 = 4 then 0 else if x1 = 5 then 0 else if x1 = 6 then 0 else if x1 = 7 then 0 else if x1 = 8 then 0 else if x1 = 9 then 0 else if x1 = 10 then 0 else if x1 = 11 then 0 else if x1 = 12 then 0 else 1
def g_305 (x0 x1 x2 : Int) (d : mD) : mD := if x1 = 0 then mset d x2 0 (d (x0 + 1 + 2) 0) else if x1 = 1 then mset d x2 0 (d (x0 + 1 + 10) 0) else if x1 = 2 then mset d x2 0 (d (x0 + 1 + 49) 0) else if x1 = 3 then mset d x2 0 (d (x0 + 1) 2) else if x1 = 4 then mset d x2 0 (20 - ((d (x0 + 1) 2) % 20)) else if x1 = 5 then mset d x2 0 (v_101 (x0 + 1 + 49) 0 d) else if x1 = 6 then mset d x2 0 (v_102 (x0 + 1 + 49) 1 d) else if x1 = 7 then mset d x2 0 (v_102 (x0 + 1 + 49) 2 d) else if x1 = 8 then mset d x2 0 (d (x0 + 1 + 57) 0) else if x1 = 9 then mset d x2 0 (v_110 (x0 + 1 + 57) 1 d) else if x1 = 10 then mset d x2 0 (v_110 (x0 + 1 + 57) 2 d) else if x1 = 11 then mset d x2 0 (d (x0 + 1) 1) else if x1 = 12 then mset d x2 0 (d (x0 + 64) 2) else d
theorem k_305 {E : mO × tW} {K : tK} {d : mD} {x0 x1 x2 : Int} (hS : Safe d) (hx0 : wbB x0) (hx2 : ouB x2) (p1 : -2147483648 ≤ x1 ∧ x1 ≤ 2147483647) (h : (0 ≤ (v_305 x0 x1 x2 d) ∧ (v_305 x0 x1 x2 d) ≤ 3) → (∀ b : Int, (b < x2 ∨ x2 < b) → (g_305 x0 x1 x2 d) b = d b) → Safe (g_305 x0 x1 x2 d) → K (.inl (some (0, (v_305 x0 x1 x2 d)))) (g_305 x0 x1 x2 d)) : tCall E 305 [.inr (10, x0), .inl (0, x1), .inr (30, x2)] d K := by
  refine t_305_0 ?_
  refine k_124 hS hx0 (m_inR (by omega) (by omega)) (fun z0 e1 => ?_) (fun z0 z1 e2 => ?_) (fun z0 z1 z2 e3 => ?_) (fun z0 z1 z2 z3 e4 => ?_) (fun z0 z1 z2 z3 z4 e5 => ?_) (fun z0 z1 z2 z3 z4 z5 e6 => ?_) (fun z0 z1 z2 z3 z4 z5 z6 e7 => ?_) (fun z0 z1 z2 z3 z4 z5 z6 z7 e8 => ?_) (fun z0 z1 z2 z3 z4 z5 z6 z7 z8 e9 => ?_) (fun z0 z1 z2 z3 z4 z5 z6 z7 z8 z9 e10 => ?_) (fun z0 z1 z2 z3 z4 z5 z6 z7 z8 z9 z10 e11 => ?_) (fun z0 z1 z2 z3 z4 z5 z6 z7 z8 z9 z10 z11 e12 => ?_) (fun z0 z1 z2 z3 z4 z5 z6 z7 z8 z9 z10 z11 z12 e13 => ?_) (fun z0 z1 z2 z3 z4 z5 z6 z7 z8 z9 z10 z11 z12 => ?_)
  · refine t_305_7 ?_
    refine ⟨m_inR (by omega) (by omega), by omega, ?_⟩
    have hS1 : Safe (mset d x2 0 (d (x0 + 1 + 2) 0)) := s_ou hS hx2
    have y0 : v_305 x0 x1 x2 d = 0 := by simp only [v_305, if_pos (show x1 = 0 from z0)]
    have y1 : g_305 x0 x1 x2 d = mset d x2 0 (d (x0 + 1 + 2) 0) := by simp only [g_305, if_pos (show x1 = 0 from z0)]
    rw [y0] at h
    rw [y1] at h
    exact h (show 0 ≤ ((0 : Int)) ∧ ((0 : Int)) ≤ 3 from (by omega)) (show ∀ b : Int, (b < x2 ∨ x2 < b) → (mset d x2 0 (d (x0 + 1 + 2) 0)) b = d b from fun b hb => mset_ne (by omega)) hS1
  · refine t_305_7 ?_
    refine ⟨m_inR (by omega) (by omega), by omega, ?_⟩
    have hS2 : Safe (mset d x2 0 (d (x0 + 1 + 10) 0)) := s_ou hS hx2
    have y0 : v_305 x0 x1 x2 d = 0 := by simp only [v_305, if_neg (show ¬ x1 = 0 by omega), if_pos (show x1 = 1 from z1)]
    have y1 : g_305 x0 x1 x2 d = mset d x2 0 (d (x0 + 1 + 10) 0) := by simp only [g_305, if_neg (show ¬ x1 = 0 by omega), if_pos (show x1 = 1 from z1)]
    rw [y0] at h
    rw [y1] at h
    exact h (show 0 ≤ ((0 : Int)) ∧ ((0 : Int)) ≤ 3 from (by omega)) (show ∀ b : Int, (b < x2 ∨ x2 < b) → (mset d x2 0 (d (x0 + 1 + 10) 0)) b = d b from fun b hb => mset_ne (by omega)) hS2
  · refine t_305_7 ?_
    refine ⟨m_inR (by omega) (by omega), by omega, ?_⟩
    have hS3 : Safe (mset d x2 0 (d (x0 + 1 + 49) 0)) := s_ou hS hx2
    have y0 : v_305 x0 x1 x2 d = 0 := by simp only [v_305, if_neg (show ¬ x1 = 0 by omega), if_neg (show ¬ x1 = 1 by omega), if_pos (show x1 = 2 from z2)]
    have y1 : g_305 x0 x1 x2 d = mset d x2 0 (d (x0 + 1 + 49) 0) := by simp only [g_305, if_neg (show ¬ x1 = 0 by omega), if_neg (show ¬ x1 = 1 by omega), if_pos (show x1 = 2 from z2)]
    rw [y0] at h
    rw [y1] at h
    exact h (show 0 ≤ ((0 : Int)) ∧ ((0 : Int)) ≤ 3 from (by omega)) (show ∀ b : Int, (b < x2 ∨ x2 < b) → (mset d x2 0 (d (x0 + 1 + 49) 0)) b = d b from fun b hb => mset_ne (by omega)) hS3
  · refine t_305_7 ?_
    refine ⟨m_inR (by omega) (by omega), by omega, ?_⟩
    have hS4 : Safe (mset d x2 0 (d (x0 + 1) 2)) := s_ou hS hx2
    have y0 : v_305 x0 x1 x2 d = 0 := by simp only [v_305, if_neg (show ¬ x1 = 0 by omega), if_neg (show ¬ x1 = 1 by omega), if_neg (show ¬ x1 = 2 by omega), if_pos (show x1 = 3 from z3)]
    have y1 : g_305 x0 x1 x2 d = mset d x2 0 (d (x0 + 1) 2) := by simp only [g_305, if_neg (show ¬ x1 = 0 by omega), if_neg (show ¬ x1 = 1 by omega), if_neg (show ¬ x1 = 2 by omega), if_pos (show x1 = 3 from z3)]
    rw [y0] at h
    rw [y1] at h
    exact h (show 0 ≤ ((0 : Int)) ∧ ((0 : Int)) ≤ 3 from (by omega)) (show ∀ b : Int, (b < x2 ∨ x2 < b) → (mset d x2 0 (d (x0 + 1) 2)) b = d b from fun b hb => mset_ne (by omega)) hS4
  · refine t_305_7 ?_
    refine ⟨m_inR (by omega) (by omega), by omega, ?_⟩
    have hS5 : Safe (mset d x2 0 (20 - ((d (x0 + 1) 2) % 20))) := s_ou hS hx2
    have y0 : v_305 x0 x1 x2 d = 0 := by simp only [v_305, if_neg (show ¬ x1 = 0 by omega), if_neg (show ¬ x1 = 1 by omega), if_neg (show ¬ x1 = 2 by omega), if_neg (show ¬ x1 = 3 by omega), if_pos (show x1 = 4 from z4)]
    have y1 : g_305 x0 x1 x2 d = mset d x2 0 (20 - ((d (x0 + 1) 2) % 20)) := by simp only [g_305, if_neg (show ¬ x1 = 0 by omega), if_neg (show ¬ x1 = 1 by omega), if_neg (show ¬ x1 = 2 by omega), if_neg (show ¬ x1 = 3 by omega), if_pos (show x1 = 4 from z4)]
    rw [y0] at h
    rw [y1] at h
    exact h (show 0 ≤ ((0 : Int)) ∧ ((0 : Int)) ≤ 3 from (by omega)) (show ∀ b : Int, (b < x2 ∨ x2 < b) → (mset d x2 0 (20 - ((d (x0 + 1) 2) % 20))) b = d b from fun b hb => mset_ne (by omega)) hS5
  · refine t_305_7 ?_
    refine ⟨m_inR (by omega) (by omega), by omega, ?_⟩
    have hS6 : Safe (mset d x2 0 (v_101 (x0 + 1 + 49) 0 d)) := s_ou hS hx2
    have y0 : v_305 x0 x1 x2 d = 0 := by simp only [v_305, if_neg (show ¬ x1 = 0 by omega), if_neg (show ¬ x1 = 1 by omega), if_neg (show ¬ x1 = 2 by omega), if_neg (show ¬ x1 = 3 by omega), if_neg (show ¬ x1 = 4 by omega), if_pos (show x1 = 5 from z5)]
    have y1 : g_305 x0 x1 x2 d = mset d x2 0 (v_101 (x0 + 1 + 49) 0 d) := by simp only [g_305, if_neg (show ¬ x1 = 0 by omega), if_neg (show ¬ x1 = 1 by omega), if_neg (show ¬ x1 = 2 by omega), if_neg (show ¬ x1 = 3 by omega), if_neg (show ¬ x1 = 4 by omega), if_pos (show x1 = 5 from z5)]
    rw [y0] at h
    rw [y1] at h
    exact h (show 0 ≤ ((0 : Int)) ∧ ((0 : Int)) ≤ 3 from (by omega)) (show ∀ b : Int, (b < x2 ∨ x2 < b) → (mset d x2 0 (v_101 (x0 + 1 + 49) 0 d)) b = d b from fun b hb => mset_ne (by omega)) hS6
  · refine t_305_7 ?_
    refine ⟨m_inR (by omega) (by omega), by omega, ?_⟩
    have hS7 : Safe (mset d x2 0 (v_102 (x0 + 1 + 49) 1 d)) := s_ou hS hx2
    have y0 : v_305 x0 x1 x2 d = 0 := by simp only [v_305, if_neg (show ¬ x1 = 0 by omega), if_neg (show ¬ x1 = 1 by omega), if_neg (show ¬ x1 = 2 by omega), if_neg (show ¬ x1 = 3 by omega), if_neg (show ¬ x1 = 4 by omega), if_neg (show ¬ x1 = 5 by omega), if_pos (show x1 = 6 from z6)]
    have y1 : g_305 x0 x1 x2 d = mset d x2 0 (v_102 (x0 + 1 + 49) 1 d) := by simp only [g_305, if_neg (show ¬ x1 = 0 by omega), if_neg (show ¬ x1 = 1 by omega), if_neg (show ¬ x1 = 2 by omega), if_neg (show ¬ x1 = 3 by omega), if_neg (show ¬ x1 = 4 by omega), if_neg (show ¬ x1 = 5 by omega), if_pos (show x1 = 6 from z6)]
    rw [y0] at h
    rw [y1] at h
    exact h (show 0 ≤ ((0 : Int)) ∧ ((0 : Int)) ≤ 3 from (by omega)) (show ∀ b : Int, (b < x2 ∨ x2 < b) → (mset d x2 0 (v_102 (x0 + 1 + 49) 1 d)) b = d b from fun b hb => mset_ne (by omega)) hS7
  · refine t_305_7 ?_
    refine ⟨m_inR (by omega) (by omega), by omega, ?_⟩
    have hS8 : Safe (mset d x2 0 (v_102 (x0 + 1 + 49) 2 d)) := s_ou hS hx2
    have y0 : v_305 x0 x1 x2 d = 0 := by simp only [v_305, if_neg (show ¬ x1 = 0 by omega), if_neg (show ¬ x1 = 1 by omega), if_neg (show ¬ x1 = 2 by omega), if_neg (show ¬ x1 = 3 by omega), if_neg (show ¬ x1 = 4 by omega), if_neg (show ¬ x1 = 5 by omega), if_neg (show ¬ x1 = 6 by omega), if_pos (show x1 = 7 from z7)]
    have y1 : g_305 x0 x1 x2 d = mset d x2 0 (v_102 (x0 + 1 + 49) 2 d) := by simp only [g_305, if_neg (show ¬ x1 = 0 by omega), if_neg (show ¬ x1 = 1 by omega), if_neg (show ¬ x1 = 2 by omega), if_neg (show ¬ x1 = 3 by omega), if_neg (show ¬ x1 = 4 by omega), if_neg (show ¬ x1 = 5 by omega), if_neg (show ¬ x1 = 6 by omega), if_pos (show x1 = 7 from z7)]
    rw [y0] at h
    rw [y1] at h
    exact h (show 0 ≤ ((0 : Int)) ∧ ((0 : Int)) ≤ 3 from (by omega)) (show ∀ b : Int, (b < x2 ∨ x2 < b) → (mset d x2 0 (v_102 (x0 + 1 + 49) 2 d)) b = d b from fun b hb => mset_ne (by omega)) hS8
  · refine t_305_7 ?_
    refine ⟨m_inR (by omega) (by omega), by omega, ?_⟩
    have hS9 : Safe (mset d x2 0 (d (x0 + 1 + 57) 0)) := s_ou hS hx2
    have y0 : v_305 x0 x1 x2 d = 0 := by simp only [v_305, if_neg (show ¬ x1 = 0 by omega), if_neg (show ¬ x1 = 1 by omega), if_neg (show ¬ x1 = 2 by omega), if_neg (show ¬ x1 = 3 by omega), if_neg (show ¬ x1 = 4 by omega), if_neg (show ¬ x1 = 5 by omega), if_neg (show ¬ x1 = 6 by omega), if_neg (show ¬ x1 = 7 by omega), if_pos (show x1 = 8 from z8)]
    have y1 : g_305 x0 x1 x2 d = mset d x2 0 (d (x0 + 1 + 57) 0) := by simp only [g_305, if_neg (show ¬ x1 = 0 by omega), if_neg (show ¬ x1 = 1 by omega), if_neg (show ¬ x1 = 2 by omega), if_neg (show ¬ x1 = 3 by omega), if_neg (show ¬ x1 = 4 by omega), if_neg (show ¬ x1 = 5 by omega), if_neg (show ¬ x1 = 6 by omega), if_neg (show ¬ x1 = 7 by omega), if_pos (show x1 = 8 from z8)]
    rw [y0] at h
    rw [y1] at h
    exact h (show 0 ≤ ((0 : Int)) ∧ ((0 : Int)) ≤ 3 from (by omega)) (show ∀ b : Int, (b < x2 ∨ x2 < b) → (mset d x2 0 (d (x0 + 1 + 57) 0)) b = d b from fun b hb => mset_ne (by omega)) hS9
  · refine t_305_7 ?_
    refine ⟨m_inR (by omega) (by omega), by omega, ?_⟩
    have hS10 : Safe (mset d x2 0 (v_110 (x0 + 1 + 57) 1 d)) := s_ou hS hx2
    have y0 : v_305 x0 x1 x2 d = 0 := by simp only [v_305, if_neg (show ¬ x1 = 0 by omega), if_neg (show ¬ x1 = 1 by omega), if_neg (show ¬ x1 = 2 by omega), if_neg (show ¬ x1 = 3 by omega), if_neg (show ¬ x1 = 4 by omega), if_neg (show ¬ x1 = 5 by omega), if_neg (show ¬ x1 = 6 by omega), if_neg (show ¬ x1 = 7 by omega), if_neg (show ¬ x1 = 8 by omega), if_pos (show x1 = 9 from z9)]
    have y1 : g_305 x0 x1 x2 d = mset d x2 0 (v_110 (x0 + 1 + 57) 1 d) := by simp only [g_305, if_neg (show ¬ x1 = 0 by omega), if_neg (show ¬ x1 = 1 by omega), if_neg (show ¬ x1 = 2 by omega), if_neg (show ¬ x1 = 3 by omega), if_neg (show ¬ x1 = 4 by omega), if_neg (show ¬ x1 = 5 by omega), if_neg (show ¬ x1 = 6 by omega), if_neg (show ¬ x1 = 7 by omega), if_neg (show ¬ x1 = 8 by omega), if_pos (show x1 = 9 from z9)]
    rw [y0] at h
    rw [y1] at h
    exact h (show 0 ≤ ((0 : Int)) ∧ ((0 : Int)) ≤ 3 from (by omega)) (show ∀ b : Int, (b < x2 ∨ x2 < b) → (mset d x2 0 (v_110 (x0 + 1 + 57) 1 d)) b = d b from fun b hb => mset_ne (by omega)) hS10
  · refine t_305_7 ?_
    refine ⟨m_inR (by omega) (by omega), by omega, ?_⟩
    have hS11 : Safe (mset d x2 0 (v_110 (x0 + 1 + 57) 2 d)) := s_ou hS hx2
    have y0 : v_305 x0 x1 x2 d = 0 := by simp only [v_305, if_neg (show ¬ x1 = 0 by omega), if_neg (show ¬ x1 = 1 by omega), if_neg (show ¬ x1 = 2 by omega), if_neg (show ¬ x1 = 3 by omega), if_neg (show ¬ x1 = 4 by omega), if_neg (show ¬ x1 = 5 by omega), if_neg (show ¬ x1 = 6 by omega), if_neg (show ¬ x1 = 7 by omega), if_neg (show ¬ x1 = 8 by omega), if_neg (show ¬ x1 = 9 by omega), if_pos (show x1 = 10 from z10)]
    have y1 : g_305 x0 x1 x2 d = mset d x2 0 (v_110 (x0 + 1 + 57) 2 d) := by simp only [g_305, if_neg (show ¬ x1 = 0 by omega), if_neg (show ¬ x1 = 1 by omega), if_neg (show ¬ x1 = 2 by omega), if_neg (show ¬ x1 = 3 by omega), if_neg (show ¬ x1 = 4 by omega), if_neg (show ¬ x1 = 5 by omega), if_neg (show ¬ x1 = 6 by omega), if_neg (show ¬ x1 = 7 by omega), if_neg (show ¬ x1 = 8 by omega), if_neg (show ¬ x1 = 9 by omega), if_pos (show x1 = 10 from z10)]
    rw [y0] at h
    rw [y1] at h
    exact h (show 0 ≤ ((0 : Int)) ∧ ((0 : Int)) ≤ 3 from (by omega)) (show ∀ b : Int, (b < x2 ∨ x2 < b) → (mset d x2 0 (v_110 (x0 + 1 + 57) 2 d)) b = d b from fun b hb => mset_ne (by omega)) hS11
  · refine t_305_7 ?_
    refine ⟨m_inR (by omega) (by omega), by omega, ?_⟩
    have hS12 : Safe (mset d x2 0 (d (x0 + 1) 1)) := s_ou hS hx2
    have y0 : v_305 x0 x1 x2 d = 0 := by simp only [v_305, if_neg (show ¬ x1 = 0 by omega), if_neg (show ¬ x1 = 1 by omega), if_neg (show ¬ x1 = 2 by omega), if_neg (show ¬ x1 = 3 by omega), if_neg (show ¬ x1 = 4 by omega), if_neg (show ¬ x1 = 5 by omega), if_neg (show ¬ x1 = 6 by omega), if_neg (show ¬ x1 = 7 by omega), if_neg (show ¬ x1 = 8 by omega), if_neg (show ¬ x1 = 9 by omega), if_neg (show ¬ x1 = 10 by omega), if_pos (show x1 = 11 from z11)]
    have y1 : g_305 x0 x1 x2 d = mset d x2 0 (d (x0 + 1) 1) := by simp only [g_305, if_neg (show ¬ x1 = 0 by omega), if_neg (show ¬ x1 = 1 by omega), if_neg (show ¬ x1 = 2 by omega), if_neg (show ¬ x1 = 3 by omega), if_neg (show ¬ x1 = 4 by omega), if_neg (show ¬ x1 = 5 by omega), if_neg (show ¬ x1 = 6 by omega), if_neg (show ¬ x1 = 7 by omega), if_neg (show ¬ x1 = 8 by omega), if_neg (show ¬ x1 = 9 by omega), if_neg (show ¬ x1 = 10 by omega), if_pos (show x1 = 11 from z11)]
    rw [y0] at h
    rw [y1] at h
    exact h (show 0 ≤ ((0 : Int)) ∧ ((0 : Int)) ≤ 3 from (by omega)) (show ∀ b : Int, (b < x2 ∨ x2 < b) → (mset d x2 0 (d (x0 + 1) 1)) b = d b from fun b hb => mset_ne (by omega)) hS12
  · refine t_305_7 ?_
    refine ⟨m_inR (by omega) (by omega), by omega, ?_⟩
    have hS13 : Safe (mset d x2 0 (d (x0 + 64) 2)) := s_ou hS hx2
    have y0 : v_305 x0 x1 x2 d = 0 := by simp only [v_305, if_neg (show ¬ x1 = 0 by omega), if_neg (show ¬ x1 = 1 by omega), if_neg (show ¬ x1 = 2 by omega), if_neg (show ¬ x1 = 3 by omega), if_neg (show ¬ x1 = 4 by omega), if_neg (show ¬ x1 = 5 by omega), if_neg (show ¬ x1 = 6 by omega), if_neg (show ¬ x1 = 7 by omega), if_neg (show ¬ x1 = 8 by omega), if_neg (show ¬ x1 = 9 by omega), if_neg (show ¬ x1 = 10 by omega), if_neg (show ¬ x1 = 11 by omega), if_pos (show x1 = 12 from z12)]
    have y1 : g_305 x0 x1 x2 d = mset d x2 0 (d (x0 + 64) 2) := by simp only [g_305, if_neg (show ¬ x1 = 0 by omega), if_neg (show ¬ x1 = 1 by omega), if_neg (show ¬ x1 = 2 by omega), if_neg (show ¬ x1 = 3 by omega), if_neg (show ¬ x1 = 4 by omega), if_neg (show ¬ x1 = 5 by omega), if_neg (show ¬ x1 = 6 by omega), if_neg (show ¬ x1 = 7 by omega), if_neg (show ¬ x1 = 8 by omega), if_neg (show ¬ x1 = 9 by omega), if_neg (show ¬ x1 = 10 by omega), if_neg (show ¬ x1 = 11 by omega), if_pos (show x1 = 12 from z12)]
    rw [y0] at h
    rw [y1] at h
    exact h (show 0 ≤ ((0 : Int)) ∧ ((0 : Int)) ≤ 3 from (by omega)) (show ∀ b : Int, (b < x2 ∨ x2 < b) → (mset d x2 0 (d (x0 + 64) 2)) b = d b from fun b hb => mset_ne (by omega)) hS13
  · have y0 : v_305 x0 x1 x2 d = 1 := by simp only [v_305, if_neg (show ¬ x1 = 0 by omega), if_neg (show ¬ x1 = 1 by omega), if_neg (show ¬ x1 = 2 by omega), if_neg (show ¬ x1 = 3 by omega), if_neg (show ¬ x1 = 4 by omega), if_neg (show ¬ x1 = 5 by omega), if_neg (show ¬ x1 = 6 by omega), if_neg (show ¬ x1 = 7 by omega), if_neg (show ¬ x1 = 8 by omega), if_neg (show ¬ x1 = 9 by omega), if_neg (show ¬ x1 = 10 by omega), if_neg (show ¬ x1 = 11 by omega), if_neg (show ¬ x1 = 12 by omega)]
    have y1 : g_305 x0 x1 x2 d = d := by simp only [g_305, if_neg (show ¬ x1 = 0 by omega), if_neg (show ¬ x1 = 1 by omega), if_neg (show ¬ x1 = 2 by omega), if_neg (show ¬ x1 = 3 by omega), if_neg (show ¬ x1 = 4 by omega), if_neg (show ¬ x1 = 5 by omega), if_neg (show ¬ x1 = 6 by omega), if_neg (show ¬ x1 = 7 by omega), if_neg (show ¬ x1 = 8 by omega), if_neg (show ¬ x1 = 9 by omega), if_neg (show ¬ x1 = 10 by omega), if_neg (show ¬ x1 = 11 by omega), if_neg (show ¬ x1 = 12 by omega)]
    rw [y0] at h
    rw [y1] at h
    exact h (show 0 ≤ ((1 : Int)) ∧ ((1 : Int)) ≤ 3 from (by omega)) (show ∀ b : Int, (b < x2 ∨ x2 < b) → d b = d b from fun _ _ => rfl) hS
def v_306 (x0 x1 x2 : Int) (d : mD) : Int := if x1 < 0 then 1 else if x1 < 5 then 0 else 1
def g_306 (x0 x1 x2 : Int) (d : mD) : mD := if x1 < 0 then d else if x1 < 5 then mset d x2 0 (d (x0 + 1 + 1) x1) else d
theorem k_306 {E : mO × tW} {K : tK} {d : mD} {x0 x1 x2 : Int} (hS : Safe d) (hx0 : wbB x0) (hx2 : ouB x2) (p1 : -2147483648 ≤ x1 ∧ x1 ≤ 2147483647) (h : (0 ≤ (v_306 x0 x1 x2 d) ∧ (v_306 x0 x1 x2 d) ≤ 3) → (∀ b : Int, (b < x2 ∨ x2 < b) → (g_306 x0 x1 x2 d) b = d b) → Safe (g_306 x0 x1 x2 d) → K (.inl (some (0, (v_306 x0 x1 x2 d)))) (g_306 x0 x1 x2 d)) : tCall E 306 [.inr (10, x0), .inl (0, x1), .inr (30, x2)] d K := by
  refine t_306_0 ?_
  refine k_125 hS hx0 (m_inR (by omega) (by omega)) (fun z0 => ?_) (fun z0 z1 e1 => ?_) (fun z0 z1 => ?_)
  · have y0 : v_306 x0 x1 x2 d = 1 := by simp only [v_306, if_pos (show x1 < 0 from z0)]
    have y1 : g_306 x0 x1 x2 d = d := by simp only [g_306, if_pos (show x1 < 0 from z0)]
    rw [y0] at h
    rw [y1] at h
    exact h (show 0 ≤ ((1 : Int)) ∧ ((1 : Int)) ≤ 3 from (by omega)) (show ∀ b : Int, (b < x2 ∨ x2 < b) → d b = d b from fun _ _ => rfl) hS
  · refine t_306_7 ?_
    refine ⟨m_inR (by omega) (by omega), by omega, ?_⟩
    have hS1 : Safe (mset d x2 0 (d (x0 + 1 + 1) x1)) := s_ou hS hx2
    have y0 : v_306 x0 x1 x2 d = 0 := by simp only [v_306, if_neg (show ¬ x1 < 0 from Int.not_lt.mpr z0), if_pos (show x1 < 5 from z1)]
    have y1 : g_306 x0 x1 x2 d = mset d x2 0 (d (x0 + 1 + 1) x1) := by simp only [g_306, if_neg (show ¬ x1 < 0 from Int.not_lt.mpr z0), if_pos (show x1 < 5 from z1)]
    rw [y0] at h
    rw [y1] at h
    exact h (show 0 ≤ ((0 : Int)) ∧ ((0 : Int)) ≤ 3 from (by omega)) (show ∀ b : Int, (b < x2 ∨ x2 < b) → (mset d x2 0 (d (x0 + 1 + 1) x1)) b = d b from fun b hb => mset_ne (by omega)) hS1
  · have y0 : v_306 x0 x1 x2 d = 1 := by simp only [v_306, if_neg (show ¬ x1 < 0 from Int.not_lt.mpr z0), if_neg (show ¬ x1 < 5 from Int.not_lt.mpr z1)]
    have y1 : g_306 x0 x1 x2 d = d := by simp only [g_306, if_neg (show ¬ x1 < 0 from Int.not_lt.mpr z0), if_neg (show ¬ x1 < 5 from Int.not_lt.mpr z1)]
    rw [y0] at h
    rw [y1] at h
    exact h (show 0 ≤ ((1 : Int)) ∧ ((1 : Int)) ≤ 3 from (by omega)) (show ∀ b : Int, (b < x2 ∨ x2 < b) → d b = d b from fun _ _ => rfl) hS
def v_307 (x0 x1 x2 x3 : Int) (d : mD) : Int := if x1 < 0 then 1 else if x1 < d (x0 + 1 + 2) 0 then (if x2 = 0 then 0 else if x2 = 1 then 0 else if x2 = 2 then 0 else if x2 = 3 then 0 else if x2 = 4 then 0 else if x2 = 5 then 0 else 2) else 1
def g_307 (x0 x1 x2 x3 : Int) (d : mD) : mD := if x1 < 0 then d else if x1 < d (x0 + 1 + 2) 0 then (if x2 = 0 then mset d x3 0 (d (x0 + 1 + 2 + 2) x1) else if x2 = 1 then mset d x3 0 (d (x0 + 1 + 2 + 3) x1) else if x2 = 2 then mset d x3 0 (d (x0 + 1 + 2 + 4) x1) else if x2 = 3 then (if d (x0 + 1 + 2 + 5) x1 = 0 then mset d x3 0 0 else mset d x3 0 1) else if x2 = 4 then mset d x3 0 (d (x0 + 1 + 2 + 6) x1) else if x2 = 5 then mset d x3 0 (v_103 (x0 + 1 + 49) x1 d) else d) else d
theorem k_307 {E : mO × tW} {K : tK} {d : mD} {x0 x1 x2 x3 : Int} (hS : Safe d) (hx0 : wbB x0) (hx3 : ouB x3) (p1 : -2147483648 ≤ x1 ∧ x1 ≤ 2147483647) (p2 : -2147483648 ≤ x2 ∧ x2 ≤ 2147483647) (h : (0 ≤ (v_307 x0 x1 x2 x3 d) ∧ (v_307 x0 x1 x2 x3 d) ≤ 3) → (∀ b : Int, (b < x3 ∨ x3 < b) → (g_307 x0 x1 x2 x3 d) b = d b) → Safe (g_307 x0 x1 x2 x3 d) → K (.inl (some (0, (v_307 x0 x1 x2 x3 d)))) (g_307 x0 x1 x2 x3 d)) : tCall E 307 [.inr (10, x0), .inl (0, x1), .inl (0, x2), .inr (30, x3)] d K := by
  refine t_307_0 ?_
  refine k_126 hS hx0 (m_inR (by omega) (by omega)) (m_inR (by omega) (by omega)) (fun z0 => ?_) (fun z0 z1 z2 e1 => ?_) (fun z0 z1 z2 z3 e2 => ?_) (fun z0 z1 z2 z3 z4 e3 => ?_) (fun z0 z1 z2 z3 z4 z5 z6 e4 => ?_) (fun z0 z1 z2 z3 z4 z5 z6 e5 => ?_) (fun z0 z1 z2 z3 z4 z5 z6 e6 => ?_) (fun z0 z1 z2 z3 z4 z5 z6 z7 e7 => ?_) (fun z0 z1 z2 z3 z4 z5 z6 z7 => ?_) (fun z0 z1 => ?_)
  · have y0 : v_307 x0 x1 x2 x3 d = 1 := by simp only [v_307, if_pos (show x1 < 0 from z0)]
    have y1 : g_307 x0 x1 x2 x3 d = d := by simp only [g_307, if_pos (show x1 < 0 from z0)]
    rw [y0] at h
    rw [y1] at h
    exact h (show 0 ≤ ((1 : Int)) ∧ ((1 : Int)) ≤ 3 from (by omega)) (show ∀ b : Int, (b < x3 ∨ x3 < b) → d b = d b from fun _ _ => rfl) hS
  · refine t_307_8 ?_
    refine ⟨m_inR (by omega) (by omega), by omega, ?_⟩
    have hS1 : Safe (mset d x3 0 (d (x0 + 1 + 2 + 2) x1)) := s_ou hS hx3
    have y0 : v_307 x0 x1 x2 x3 d = 0 := by simp only [v_307, if_neg (show ¬ x1 < 0 from Int.not_lt.mpr z0), if_pos (show x1 < d (x0 + 1 + 2) 0 from z1), if_pos (show x2 = 0 from z2)]
    have y1 : g_307 x0 x1 x2 x3 d = mset d x3 0 (d (x0 + 1 + 2 + 2) x1) := by simp only [g_307, if_neg (show ¬ x1 < 0 from Int.not_lt.mpr z0), if_pos (show x1 < d (x0 + 1 + 2) 0 from z1), if_pos (show x2 = 0 from z2)]
    rw [y0] at h
    rw [y1] at h
    exact h (show 0 ≤ ((0 : Int)) ∧ ((0 : Int)) ≤ 3 from (by omega)) (show ∀ b : Int, (b < x3 ∨ x3 < b) → (mset d x3 0 (d (x0 + 1 + 2 + 2) x1)) b = d b from fun b hb => mset_ne (by omega)) hS1
  · refine t_307_8 ?_
    refine ⟨m_inR (by omega) (by omega), by omega, ?_⟩
    have hS2 : Safe (mset d x3 0 (d (x0 + 1 + 2 + 3) x1)) := s_ou hS hx3
    have y0 : v_307 x0 x1 x2 x3 d = 0 := by simp only [v_307, if_neg (show ¬ x1 < 0 from Int.not_lt.mpr z0), if_pos (show x1 < d (x0 + 1 + 2) 0 from z1), if_neg (show ¬ x2 = 0 by omega), if_pos (show x2 = 1 from z3)]
    have y1 : g_307 x0 x1 x2 x3 d = mset d x3 0 (d (x0 + 1 + 2 + 3) x1) := by simp only [g_307, if_neg (show ¬ x1 < 0 from Int.not_lt.mpr z0), if_pos (show x1 < d (x0 + 1 + 2) 0 from z1), if_neg (show ¬ x2 = 0 by omega), if_pos (show x2 = 1 from z3)]
    rw [y0] at h
    rw [y1] at h
    exact h (show 0 ≤ ((0 : Int)) ∧ ((0 : Int)) ≤ 3 from (by omega)) (show ∀ b : Int, (b < x3 ∨ x3 < b) → (mset d x3 0 (d (x0 + 1 + 2 + 3) x1)) b = d b from fun b hb => mset_ne (by omega)) hS2
  · refine t_307_8 ?_
    refine ⟨m_inR (by omega) (by omega), by omega, ?_⟩
    have hS3 : Safe (mset d x3 0 (d (x0 + 1 + 2 + 4) x1)) := s_ou hS hx3
    have y0 : v_307 x0 x1 x2 x3 d = 0 := by simp only [v_307, if_neg (show ¬ x1 < 0 from Int.not_lt.mpr z0), if_pos (show x1 < d (x0 + 1 + 2) 0 from z1), if_neg (show ¬ x2 = 0 by omega), if_neg (show ¬ x2 = 1 by omega), if_pos (show x2 = 2 from z4)]
    have y1 : g_307 x0 x1 x2 x3 d = mset d x3 0 (d (x0 + 1 + 2 + 4) x1) := by simp only [g_307, if_neg (show ¬ x1 < 0 from Int.not_lt.mpr z0), if_pos (show x1 < d (x0 + 1 + 2) 0 from z1), if_neg (show ¬ x2 = 0 by omega), if_neg (show ¬ x2 = 1 by omega), if_pos (show x2 = 2 from z4)]
    rw [y0] at h
    rw [y1] at h
    exact h (show 0 ≤ ((0 : Int)) ∧ ((0 : Int)) ≤ 3 from (by omega)) (show ∀ b : Int, (b < x3 ∨ x3 < b) → (mset d x3 0 (d (x0 + 1 + 2 + 4) x1)) b = d b from fun b hb => mset_ne (by omega)) hS3
  · refine t_307_8 ?_
    refine ⟨m_inR (by omega) (by omega), by omega, ?_⟩
    have hS4 : Safe (mset d x3 0 0) := s_ou hS hx3
    have y0 : v_307 x0 x1 x2 x3 d = 0 := by simp only [v_307, if_neg (show ¬ x1 < 0 from Int.not_lt.mpr z0), if_pos (show x1 < d (x0 + 1 + 2) 0 from z1), if_neg (show ¬ x2 = 0 by omega), if_neg (show ¬ x2 = 1 by omega), if_neg (show ¬ x2 = 2 by omega), if_pos (show x2 = 3 from z5), if_pos (show d (x0 + 1 + 2 + 5) x1 = 0 from z6)]
    have y1 : g_307 x0 x1 x2 x3 d = mset d x3 0 0 := by simp only [g_307, if_neg (show ¬ x1 < 0 from Int.not_lt.mpr z0), if_pos (show x1 < d (x0 + 1 + 2) 0 from z1), if_neg (show ¬ x2 = 0 by omega), if_neg (show ¬ x2 = 1 by omega), if_neg (show ¬ x2 = 2 by omega), if_pos (show x2 = 3 from z5), if_pos (show d (x0 + 1 + 2 + 5) x1 = 0 from z6)]
    rw [y0] at h
    rw [y1] at h
    exact h (show 0 ≤ ((0 : Int)) ∧ ((0 : Int)) ≤ 3 from (by omega)) (show ∀ b : Int, (b < x3 ∨ x3 < b) → (mset d x3 0 0) b = d b from fun b hb => mset_ne (by omega)) hS4
  · refine t_307_8 ?_
    refine ⟨m_inR (by omega) (by omega), by omega, ?_⟩
    have hS5 : Safe (mset d x3 0 1) := s_ou hS hx3
    have y0 : v_307 x0 x1 x2 x3 d = 0 := by simp only [v_307, if_neg (show ¬ x1 < 0 from Int.not_lt.mpr z0), if_pos (show x1 < d (x0 + 1 + 2) 0 from z1), if_neg (show ¬ x2 = 0 by omega), if_neg (show ¬ x2 = 1 by omega), if_neg (show ¬ x2 = 2 by omega), if_pos (show x2 = 3 from z5), if_neg (show ¬ d (x0 + 1 + 2 + 5) x1 = 0 from z6)]
    have y1 : g_307 x0 x1 x2 x3 d = mset d x3 0 1 := by simp only [g_307, if_neg (show ¬ x1 < 0 from Int.not_lt.mpr z0), if_pos (show x1 < d (x0 + 1 + 2) 0 from z1), if_neg (show ¬ x2 = 0 by omega), if_neg (show ¬ x2 = 1 by omega), if_neg (show ¬ x2 = 2 by omega), if_pos (show x2 = 3 from z5), if_neg (show ¬ d (x0 + 1 + 2 + 5) x1 = 0 from z6)]
    rw [y0] at h
    rw [y1] at h
    exact h (show 0 ≤ ((0 : Int)) ∧ ((0 : Int)) ≤ 3 from (by omega)) (show ∀ b : Int, (b < x3 ∨ x3 < b) → (mset d x3 0 1) b = d b from fun b hb => mset_ne (by omega)) hS5
  · refine t_307_8 ?_
    refine ⟨m_inR (by omega) (by omega), by omega, ?_⟩
    have hS6 : Safe (mset d x3 0 (d (x0 + 1 + 2 + 6) x1)) := s_ou hS hx3
    have y0 : v_307 x0 x1 x2 x3 d = 0 := by simp only [v_307, if_neg (show ¬ x1 < 0 from Int.not_lt.mpr z0), if_pos (show x1 < d (x0 + 1 + 2) 0 from z1), if_neg (show ¬ x2 = 0 by omega), if_neg (show ¬ x2 = 1 by omega), if_neg (show ¬ x2 = 2 by omega), if_neg (show ¬ x2 = 3 by omega), if_pos (show x2 = 4 from z6)]
    have y1 : g_307 x0 x1 x2 x3 d = mset d x3 0 (d (x0 + 1 + 2 + 6) x1) := by simp only [g_307, if_neg (show ¬ x1 < 0 from Int.not_lt.mpr z0), if_pos (show x1 < d (x0 + 1 + 2) 0 from z1), if_neg (show ¬ x2 = 0 by omega), if_neg (show ¬ x2 = 1 by omega), if_neg (show ¬ x2 = 2 by omega), if_neg (show ¬ x2 = 3 by omega), if_pos (show x2 = 4 from z6)]
    rw [y0] at h
    rw [y1] at h
    exact h (show 0 ≤ ((0 : Int)) ∧ ((0 : Int)) ≤ 3 from (by omega)) (show ∀ b : Int, (b < x3 ∨ x3 < b) → (mset d x3 0 (d (x0 + 1 + 2 + 6) x1)) b = d b from fun b hb => mset_ne (by omega)) hS6
  · refine t_307_8 ?_
    refine ⟨m_inR (by omega) (by omega), by omega, ?_⟩
    have hS7 : Safe (mset d x3 0 (v_103 (x0 + 1 + 49) x1 d)) := s_ou hS hx3
    have y0 : v_307 x0 x1 x2 x3 d = 0 := by simp only [v_307, if_neg (show ¬ x1 < 0 from Int.not_lt.mpr z0), if_pos (show x1 < d (x0 + 1 + 2) 0 from z1), if_neg (show ¬ x2 = 0 by omega), if_neg (show ¬ x2 = 1 by omega), if_neg (show ¬ x2 = 2 by omega), if_neg (show ¬ x2 = 3 by omega), if_neg (show ¬ x2 = 4 by omega), if_pos (show x2 = 5 from z7)]
    have y1 : g_307 x0 x1 x2 x3 d = mset d x3 0 (v_103 (x0 + 1 + 49) x1 d) := by simp only [g_307, if_neg (show ¬ x1 < 0 from Int.not_lt.mpr z0), if_pos (show x1 < d (x0 + 1 + 2) 0 from z1), if_neg (show ¬ x2 = 0 by omega), if_neg (show ¬ x2 = 1 by omega), if_neg (show ¬ x2 = 2 by omega), if_neg (show ¬ x2 = 3 by omega), if_neg (show ¬ x2 = 4 by omega), if_pos (show x2 = 5 from z7)]
    rw [y0] at h
    rw [y1] at h
    exact h (show 0 ≤ ((0 : Int)) ∧ ((0 : Int)) ≤ 3 from (by omega)) (show ∀ b : Int, (b < x3 ∨ x3 < b) → (mset d x3 0 (v_103 (x0 + 1 + 49) x1 d)) b = d b from fun b hb => mset_ne (by omega)) hS7
  · have y0 : v_307 x0 x1 x2 x3 d = 2 := by simp only [v_307, if_neg (show ¬ x1 < 0 from Int.not_lt.mpr z0), if_pos (show x1 < d (x0 + 1 + 2) 0 from z1), if_neg (show ¬ x2 = 0 by omega), if_neg (show ¬ x2 = 1 by omega), if_neg (show ¬ x2 = 2 by omega), if_neg (show ¬ x2 = 3 by omega), if_neg (show ¬ x2 = 4 by omega), if_neg (show ¬ x2 = 5 by omega)]
    have y1 : g_307 x0 x1 x2 x3 d = d := by simp only [g_307, if_neg (show ¬ x1 < 0 from Int.not_lt.mpr z0), if_pos (show x1 < d (x0 + 1 + 2) 0 from z1), if_neg (show ¬ x2 = 0 by omega), if_neg (show ¬ x2 = 1 by omega), if_neg (show ¬ x2 = 2 by omega), if_neg (show ¬ x2 = 3 by omega), if_neg (show ¬ x2 = 4 by omega), if_neg (show ¬ x2 = 5 by omega)]
    rw [y0] at h
    rw [y1] at h
    exact h (show 0 ≤ ((2 : Int)) ∧ ((2 : Int)) ≤ 3 from (by omega)) (show ∀ b : Int, (b < x3 ∨ x3 < b) → d b = d b from fun _ _ => rfl) hS
  · have y0 : v_307 x0 x1 x2 x3 d = 1 := by simp only [v_307, if_neg (show ¬ x1 < 0 from Int.not_lt.mpr z0), if_neg (show ¬ x1 < d (x0 + 1 + 2) 0 from Int.not_lt.mpr z1)]
    have y1 : g_307 x0 x1 x2 x3 d = d := by simp only [g_307, if_neg (show ¬ x1 < 0 from Int.not_lt.mpr z0), if_neg (show ¬ x1 < d (x0 + 1 + 2) 0 from Int.not_lt.mpr z1)]
    rw [y0] at h
    rw [y1] at h
    exact h (show 0 ≤ ((1 : Int)) ∧ ((1 : Int)) ≤ 3 from (by omega)) (show ∀ b : Int, (b < x3 ∨ x3 < b) → d b = d b from fun _ _ => rfl) hS
def v_308 (x0 x1 x2 x3 : Int) (d : mD) : Int := if x1 < 0 then 1 else if x1 < d (x0 + 1 + 2) 0 then (if x2 < 0 then 1 else if x2 < d (x0 + 1 + 2 + 6) x1 then 0 else 1) else 1
def g_308 (x0 x1 x2 x3 : Int) (d : mD) : mD := if x1 < 0 then d else if x1 < d (x0 + 1 + 2) 0 then (if x2 < 0 then d else if x2 < d (x0 + 1 + 2 + 6) x1 then mset d x3 0 (v_38 (x0 + 1 + 2) x1 x2 d) else d) else d
theorem k_308 {E : mO × tW} {K : tK} {d : mD} {x0 x1 x2 x3 : Int} (hS : Safe d) (hx0 : wbB x0) (hx3 : ouB x3) (p1 : -2147483648 ≤ x1 ∧ x1 ≤ 2147483647) (p2 : -2147483648 ≤ x2 ∧ x2 ≤ 2147483647) (h : (0 ≤ (v_308 x0 x1 x2 x3 d) ∧ (v_308 x0 x1 x2 x3 d) ≤ 3) → (∀ b : Int, (b < x3 ∨ x3 < b) → (g_308 x0 x1 x2 x3 d) b = d b) → Safe (g_308 x0 x1 x2 x3 d) → K (.inl (some (0, (v_308 x0 x1 x2 x3 d)))) (g_308 x0 x1 x2 x3 d)) : tCall E 308 [.inr (10, x0), .inl (0, x1), .inl (0, x2), .inr (30, x3)] d K := by
  refine t_308_0 ?_
  refine k_127 hS hx0 (m_inR (by omega) (by omega)) (m_inR (by omega) (by omega)) (fun z0 => ?_) (fun z0 z1 z2 => ?_) (fun z0 z1 z2 z3 e1 => ?_) (fun z0 z1 z2 z3 => ?_) (fun z0 z1 => ?_)
  · have y0 : v_308 x0 x1 x2 x3 d = 1 := by simp only [v_308, if_pos (show x1 < 0 from z0)]
    have y1 : g_308 x0 x1 x2 x3 d = d := by simp only [g_308, if_pos (show x1 < 0 from z0)]
    rw [y0] at h
    rw [y1] at h
    exact h (show 0 ≤ ((1 : Int)) ∧ ((1 : Int)) ≤ 3 from (by omega)) (show ∀ b : Int, (b < x3 ∨ x3 < b) → d b = d b from fun _ _ => rfl) hS
  · have y0 : v_308 x0 x1 x2 x3 d = 1 := by simp only [v_308, if_neg (show ¬ x1 < 0 from Int.not_lt.mpr z0), if_pos (show x1 < d (x0 + 1 + 2) 0 from z1), if_pos (show x2 < 0 from z2)]
    have y1 : g_308 x0 x1 x2 x3 d = d := by simp only [g_308, if_neg (show ¬ x1 < 0 from Int.not_lt.mpr z0), if_pos (show x1 < d (x0 + 1 + 2) 0 from z1), if_pos (show x2 < 0 from z2)]
    rw [y0] at h
    rw [y1] at h
    exact h (show 0 ≤ ((1 : Int)) ∧ ((1 : Int)) ≤ 3 from (by omega)) (show ∀ b : Int, (b < x3 ∨ x3 < b) → d b = d b from fun _ _ => rfl) hS
  · refine t_308_8 ?_
    refine ⟨m_inR (by omega) (by omega), by omega, ?_⟩
    have hS1 : Safe (mset d x3 0 (v_38 (x0 + 1 + 2) x1 x2 d)) := s_ou hS hx3
    have y0 : v_308 x0 x1 x2 x3 d = 0 := by simp only [v_308, if_neg (show ¬ x1 < 0 from Int.not_lt.mpr z0), if_pos (show x1 < d (x0 + 1 + 2) 0 from z1), if_neg (show ¬ x2 < 0 from Int.not_lt.mpr z2), if_pos (show x2 < d (x0 + 1 + 2 + 6) x1 from z3)]
    have y1 : g_308 x0 x1 x2 x3 d = mset d x3 0 (v_38 (x0 + 1 + 2) x1 x2 d) := by simp only [g_308, if_neg (show ¬ x1 < 0 from Int.not_lt.mpr z0), if_pos (show x1 < d (x0 + 1 + 2) 0 from z1), if_neg (show ¬ x2 < 0 from Int.not_lt.mpr z2), if_pos (show x2 < d (x0 + 1 + 2 + 6) x1 from z3)]
    rw [y0] at h
    rw [y1] at h
    exact h (show 0 ≤ ((0 : Int)) ∧ ((0 : Int)) ≤ 3 from (by omega)) (show ∀ b : Int, (b < x3 ∨ x3 < b) → (mset d x3 0 (v_38 (x0 + 1 + 2) x1 x2 d)) b = d b from fun b hb => mset_ne (by omega)) hS1
  · have y0 : v_308 x0 x1 x2 x3 d = 1 := by simp only [v_308, if_neg (show ¬ x1 < 0 from Int.not_lt.mpr z0), if_pos (show x1 < d (x0 + 1 + 2) 0 from z1), if_neg (show ¬ x2 < 0 from Int.not_lt.mpr z2), if_neg (show ¬ x2 < d (x0 + 1 + 2 + 6) x1 from Int.not_lt.mpr z3)]
    have y1 : g_308 x0 x1 x2 x3 d = d := by simp only [g_308, if_neg (show ¬ x1 < 0 from Int.not_lt.mpr z0), if_pos (show x1 < d (x0 + 1 + 2) 0 from z1), if_neg (show ¬ x2 < 0 from Int.not_lt.mpr z2), if_neg (show ¬ x2 < d (x0 + 1 + 2 + 6) x1 from Int.not_lt.mpr z3)]
    rw [y0] at h
    rw [y1] at h
    exact h (show 0 ≤ ((1 : Int)) ∧ ((1 : Int)) ≤ 3 from (by omega)) (show ∀ b : Int, (b < x3 ∨ x3 < b) → d b = d b from fun _ _ => rfl) hS
  · have y0 : v_308 x0 x1 x2 x3 d = 1 := by simp only [v_308, if_neg (show ¬ x1 < 0 from Int.not_lt.mpr z0), if_neg (show ¬ x1 < d (x0 + 1 + 2) 0 from Int.not_lt.mpr z1)]
    have y1 : g_308 x0 x1 x2 x3 d = d := by simp only [g_308, if_neg (show ¬ x1 < 0 from Int.not_lt.mpr z0), if_neg (show ¬ x1 < d (x0 + 1 + 2) 0 from Int.not_lt.mpr z1)]
    rw [y0] at h
    rw [y1] at h
    exact h (show 0 ≤ ((1 : Int)) ∧ ((1 : Int)) ≤ 3 from (by omega)) (show ∀ b : Int, (b < x3 ∨ x3 < b) → d b = d b from fun _ _ => rfl) hS
def v_309 (x0 x1 x2 x3 : Int) (d : mD) : Int := if x1 < 0 then 1 else if x1 < d (x0 + 1 + 10) 0 then (if x2 = 0 then 0 else if x2 = 1 then 0 else if x2 = 2 then 0 else if x2 = 3 then 0 else if x2 = 4 then 0 else if x2 = 5 then 0 else if x2 = 6 then 0 else if x2 = 7 then 0 else if x2 = 8 then 0 else if x2 = 9 then 0 else 2) else 1
def g_309 (x0 x1 x2 x3 : Int) (d : mD) : mD := if x1 < 0 then d else if x1 < d (x0 + 1 + 10) 0 then (if x2 = 0 then mset d x3 0 (d (x0 + 1 + 10 + 2) x1) else if x2 = 1 then mset d x3 0 (v_104 (x0 + 1 + 49) x1 d) else if x2 = 2 then mset d x3 0 (v_105 (x0 + 1 + 49) x1 d) else if x2 = 3 then mset d x3 0 (v_111 (x0 + 1 + 57) x1 0 d) else if x2 = 4 then mset d x3 0 (v_111 (x0 + 1 + 57) x1 1 d) else if x2 = 5 then mset d x3 0 (v_111 (x0 + 1 + 57) x1 2 d) else if x2 = 6 then mset d x3 0 (v_83 (x0 + 1) x1 d) else if x2 = 7 then mset d x3 0 (d (x0 + 1 + 10 + 3) x1) else if x2 = 8 then mset d x3 0 (d (x0 + 1 + 10 + 4) x1) else if x2 = 9 then mset (g_72 (x0 + 1) x1 (x0 + 574) d) x3 0 (v_10 (x0 + 574) (x0 + 1 + 10 + 6 + (1 + 2 * x1)) (g_72 (x0 + 1) x1 (x0 + 574) d)) else d) else d
theorem k_309 {E : mO × tW} {K : tK} {d : mD} {x0 x1 x2 x3 : Int} (hS : Safe d) (hx0 : wbB x0) (hx3 : ouB x3) (p1 : -2147483648 ≤ x1 ∧ x1 ≤ 2147483647) (p2 : -2147483648 ≤ x2 ∧ x2 ≤ 2147483647) (hpu : puR x0 x1 d) (h : (0 ≤ (v_309 x0 x1 x2 x3 d) ∧ (v_309 x0 x1 x2 x3 d) ≤ 3) → (∀ b : Int, (b < x0 + 575 ∨ x0 + 575 < b) ∧ (b < x3 ∨ x3 < b) → (g_309 x0 x1 x2 x3 d) b = d b) → Safe (g_309 x0 x1 x2 x3 d) → K (.inl (some (0, (v_309 x0 x1 x2 x3 d)))) (g_309 x0 x1 x2 x3 d)) : tCall E 309 [.inr (10, x0), .inl (0, x1), .inl (0, x2), .inr (30, x3)] d K := by
  refine t_309_0 ?_
  refine k_128 hS hx0 (m_inR (by omega) (by omega)) (m_inR (by omega) (by omega)) hpu (fun z0 => ?_) (fun z0 z1 z2 e1 => ?_) (fun z0 z1 z2 z3 e2 => ?_) (fun z0 z1 z2 z3 z4 e3 => ?_) (fun z0 z1 z2 z3 z4 z5 e4 => ?_) (fun z0 z1 z2 z3 z4 z5 z6 e5 => ?_) (fun z0 z1 z2 z3 z4 z5 z6 z7 e6 => ?_) (fun z0 z1 z2 z3 z4 z5 z6 z7 z8 e7 => ?_) (fun z0 z1 z2 z3 z4 z5 z6 z7 z8 z9 e8 => ?_) (fun z0 z1 z2 z3 z4 z5 z6 z7 z8 z9 z10 e9 => ?_) (fun z0 z1 z2 z3 z4 z5 z6 z7 z8 z9 z10 z11 e10 F1 hS1 => ?_) (fun z0 z1 z2 z3 z4 z5 z6 z7 z8 z9 z10 z11 => ?_) (fun z0 z1 => ?_)
  · have y0 : v_309 x0 x1 x2 x3 d = 1 := by simp only [v_309, if_pos (show x1 < 0 from z0)]
    have y1 : g_309 x0 x1 x2 x3 d = d := by simp only [g_309, if_pos (show x1 < 0 from z0)]
    rw [y0] at h
    rw [y1] at h
    exact h (show 0 ≤ ((1 : Int)) ∧ ((1 : Int)) ≤ 3 from (by omega)) (show ∀ b : Int, (b < x0 + 575 ∨ x0 + 575 < b) ∧ (b < x3 ∨ x3 < b) → d b = d b from fun _ _ => rfl) hS
  · refine t_309_8 ?_
    refine ⟨m_inR (by omega) (by omega), by omega, ?_⟩
    have hS2 : Safe (mset d x3 0 (d (x0 + 1 + 10 + 2) x1)) := s_ou hS hx3
    have y0 : v_309 x0 x1 x2 x3 d = 0 := by simp only [v_309, if_neg (show ¬ x1 < 0 from Int.not_lt.mpr z0), if_pos (show x1 < d (x0 + 1 + 10) 0 from z1), if_pos (show x2 = 0 from z2)]
    have y1 : g_309 x0 x1 x2 x3 d = mset d x3 0 (d (x0 + 1 + 10 + 2) x1) := by simp only [g_309, if_neg (show ¬ x1 < 0 from Int.not_lt.mpr z0), if_pos (show x1 < d (x0 + 1 + 10) 0 from z1), if_pos (show x2 = 0 from z2)]
    rw [y0] at h
    rw [y1] at h
    exact h (show 0 ≤ ((0 : Int)) ∧ ((0 : Int)) ≤ 3 from (by omega)) (show ∀ b : Int, (b < x0 + 575 ∨ x0 + 575 < b) ∧ (b < x3 ∨ x3 < b) → (mset d x3 0 (d (x0 + 1 + 10 + 2) x1)) b = d b from fun b hb => mset_ne (by omega)) hS2
  · refine t_309_8 ?_
    refine ⟨m_inR (by omega) (by omega), by omega, ?_⟩
    have hS3 : Safe (mset d x3 0 (v_104 (x0 + 1 + 49) x1 d)) := s_ou hS hx3
    have y0 : v_309 x0 x1 x2 x3 d = 0 := by simp only [v_309, if_neg (show ¬ x1 < 0 from Int.not_lt.mpr z0), if_pos (show x1 < d (x0 + 1 + 10) 0 from z1), if_neg (show ¬ x2 = 0 by omega), if_pos (show x2 = 1 from z3)]
    have y1 : g_309 x0 x1 x2 x3 d = mset d x3 0 (v_104 (x0 + 1 + 49) x1 d) := by simp only [g_309, if_neg (show ¬ x1 < 0 from Int.not_lt.mpr z0), if_pos (show x1 < d (x0 + 1 + 10) 0 from z1), if_neg (show ¬ x2 = 0 by omega), if_pos (show x2 = 1 from z3)]
    rw [y0] at h
    rw [y1] at h
    exact h (show 0 ≤ ((0 : Int)) ∧ ((0 : Int)) ≤ 3 from (by omega)) (show ∀ b : Int, (b < x0 + 575 ∨ x0 + 575 < b) ∧ (b < x3 ∨ x3 < b) → (mset d x3 0 (v_104 (x0 + 1 + 49) x1 d)) b = d b from fun b hb => mset_ne (by omega)) hS3
  · refine t_309_8 ?_
    refine ⟨m_inR (by omega) (by omega), by omega, ?_⟩
    have hS4 : Safe (mset d x3 0 (v_105 (x0 + 1 + 49) x1 d)) := s_ou hS hx3
    have y0 : v_309 x0 x1 x2 x3 d = 0 := by simp only [v_309, if_neg (show ¬ x1 < 0 from Int.not_lt.mpr z0), if_pos (show x1 < d (x0 + 1 + 10) 0 from z1), if_neg (show ¬ x2 = 0 by omega), if_neg (show ¬ x2 = 1 by omega), if_pos (show x2 = 2 from z4)]
    have y1 : g_309 x0 x1 x2 x3 d = mset d x3 0 (v_105 (x0 + 1 + 49) x1 d) := by simp only [g_309, if_neg (show ¬ x1 < 0 from Int.not_lt.mpr z0), if_pos (show x1 < d (x0 + 1 + 10) 0 from z1), if_neg (show ¬ x2 = 0 by omega), if_neg (show ¬ x2 = 1 by omega), if_pos (show x2 = 2 from z4)]
    rw [y0] at h
    rw [y1] at h
    exact h (show 0 ≤ ((0 : Int)) ∧ ((0 : Int)) ≤ 3 from (by omega)) (show ∀ b : Int, (b < x0 + 575 ∨ x0 + 575 < b) ∧ (b < x3 ∨ x3 < b) → (mset d x3 0 (v_105 (x0 + 1 + 49) x1 d)) b = d b from fun b hb => mset_ne (by omega)) hS4
  · refine t_309_8 ?_
    refine ⟨m_inR (by omega) (by omega), by omega, ?_⟩
    have hS5 : Safe (mset d x3 0 (v_111 (x0 + 1 + 57) x1 0 d)) := s_ou hS hx3
    have y0 : v_309 x0 x1 x2 x3 d = 0 := by simp only [v_309, if_neg (show ¬ x1 < 0 from Int.not_lt.mpr z0), if_pos (show x1 < d (x0 + 1 + 10) 0 from z1), if_neg (show ¬ x2 = 0 by omega), if_neg (show ¬ x2 = 1 by omega), if_neg (show ¬ x2 = 2 by omega), if_pos (show x2 = 3 from z5)]
    have y1 : g_309 x0 x1 x2 x3 d = mset d x3 0 (v_111 (x0 + 1 + 57) x1 0 d) := by simp only [g_309, if_neg (show ¬ x1 < 0 from Int.not_lt.mpr z0), if_pos (show x1 < d (x0 + 1 + 10) 0 from z1), if_neg (show ¬ x2 = 0 by omega), if_neg (show ¬ x2 = 1 by omega), if_neg (show ¬ x2 = 2 by omega), if_pos (show x2 = 3 from z5)]
    rw [y0] at h
    rw [y1] at h
    exact h (show 0 ≤ ((0 : Int)) ∧ ((0 : Int)) ≤ 3 from (by omega)) (show ∀ b : Int, (b < x0 + 575 ∨ x0 + 575 < b) ∧ (b < x3 ∨ x3 < b) → (mset d x3 0 (v_111 (x0 + 1 + 57) x1 0 d)) b = d b from fun b hb => mset_ne (by omega)) hS5
  · refine t_309_8 ?_
    refine ⟨m_inR (by omega) (by omega), by omega, ?_⟩
    have hS6 : Safe (mset d x3 0 (v_111 (x0 + 1 + 57) x1 1 d)) := s_ou hS hx3
    have y0 : v_309 x0 x1 x2 x3 d = 0 := by simp only [v_309, if_neg (show ¬ x1 < 0 from Int.not_lt.mpr z0), if_pos (show x1 < d (x0 + 1 + 10) 0 from z1), if_neg (show ¬ x2 = 0 by omega), if_neg (show ¬ x2 = 1 by omega), if_neg (show ¬ x2 = 2 by omega), if_neg (show ¬ x2 = 3 by omega), if_pos (show x2 = 4 from z6)]
    have y1 : g_309 x0 x1 x2 x3 d = mset d x3 0 (v_111 (x0 + 1 + 57) x1 1 d) := by simp only [g_309, if_neg (show ¬ x1 < 0 from Int.not_lt.mpr z0), if_pos (show x1 < d (x0 + 1 + 10) 0 from z1), if_neg (show ¬ x2 = 0 by omega), if_neg (show ¬ x2 = 1 by omega), if_neg (show ¬ x2 = 2 by omega), if_neg (show ¬ x2 = 3 by omega), if_pos (show x2 = 4 from z6)]
    rw [y0] at h
    rw [y1] at h
    exact h (show 0 ≤ ((0 : Int)) ∧ ((0 : Int)) ≤ 3 from (by omega)) (show ∀ b : Int, (b < x0 + 575 ∨ x0 + 575 < b) ∧ (b < x3 ∨ x3 < b) → (mset d x3 0 (v_111 (x0 + 1 + 57) x1 1 d)) b = d b from fun b hb => mset_ne (by omega)) hS6
  · refine t_309_8 ?_
    refine ⟨m_inR (by omega) (by omega), by omega, ?_⟩
    have hS7 : Safe (mset d x3 0 (v_111 (x0 + 1 + 57) x1 2 d)) := s_ou hS hx3
    have y0 : v_309 x0 x1 x2 x3 d = 0 := by simp only [v_309, if_neg (show ¬ x1 < 0 from Int.not_lt.mpr z0), if_pos (show x1 < d (x0 + 1 + 10) 0 from z1), if_neg (show ¬ x2 = 0 by omega), if_neg (show ¬ x2 = 1 by omega), if_neg (show ¬ x2 = 2 by omega), if_neg (show ¬ x2 = 3 by omega), if_neg (show ¬ x2 = 4 by omega), if_pos (show x2 = 5 from z7)]
    have y1 : g_309 x0 x1 x2 x3 d = mset d x3 0 (v_111 (x0 + 1 + 57) x1 2 d) := by simp only [g_309, if_neg (show ¬ x1 < 0 from Int.not_lt.mpr z0), if_pos (show x1 < d (x0 + 1 + 10) 0 from z1), if_neg (show ¬ x2 = 0 by omega), if_neg (show ¬ x2 = 1 by omega), if_neg (show ¬ x2 = 2 by omega), if_neg (show ¬ x2 = 3 by omega), if_neg (show ¬ x2 = 4 by omega), if_pos (show x2 = 5 from z7)]
    rw [y0] at h
    rw [y1] at h
    exact h (show 0 ≤ ((0 : Int)) ∧ ((0 : Int)) ≤ 3 from (by omega)) (show ∀ b : Int, (b < x0 + 575 ∨ x0 + 575 < b) ∧ (b < x3 ∨ x3 < b) → (mset d x3 0 (v_111 (x0 + 1 + 57) x1 2 d)) b = d b from fun b hb => mset_ne (by omega)) hS7
  · refine t_309_8 ?_
    refine ⟨m_inR (by omega) (by omega), by omega, ?_⟩
    have hS8 : Safe (mset d x3 0 (v_83 (x0 + 1) x1 d)) := s_ou hS hx3
    have y0 : v_309 x0 x1 x2 x3 d = 0 := by simp only [v_309, if_neg (show ¬ x1 < 0 from Int.not_lt.mpr z0), if_pos (show x1 < d (x0 + 1 + 10) 0 from z1), if_neg (show ¬ x2 = 0 by omega), if_neg (show ¬ x2 = 1 by omega), if_neg (show ¬ x2 = 2 by omega), if_neg (show ¬ x2 = 3 by omega), if_neg (show ¬ x2 = 4 by omega), if_neg (show ¬ x2 = 5 by omega), if_pos (show x2 = 6 from z8)]
    have y1 : g_309 x0 x1 x2 x3 d = mset d x3 0 (v_83 (x0 + 1) x1 d) := by simp only [g_309, if_neg (show ¬ x1 < 0 from Int.not_lt.mpr z0), if_pos (show x1 < d (x0 + 1 + 10) 0 from z1), if_neg (show ¬ x2 = 0 by omega), if_neg (show ¬ x2 = 1 by omega), if_neg (show ¬ x2 = 2 by omega), if_neg (show ¬ x2 = 3 by omega), if_neg (show ¬ x2 = 4 by omega), if_neg (show ¬ x2 = 5 by omega), if_pos (show x2 = 6 from z8)]
    rw [y0] at h
    rw [y1] at h
    exact h (show 0 ≤ ((0 : Int)) ∧ ((0 : Int)) ≤ 3 from (by omega)) (show ∀ b : Int, (b < x0 + 575 ∨ x0 + 575 < b) ∧ (b < x3 ∨ x3 < b) → (mset d x3 0 (v_83 (x0 + 1) x1 d)) b = d b from fun b hb => mset_ne (by omega)) hS8
  · refine t_309_8 ?_
    refine ⟨m_inR (by omega) (by omega), by omega, ?_⟩
    have hS9 : Safe (mset d x3 0 (d (x0 + 1 + 10 + 3) x1)) := s_ou hS hx3
    have y0 : v_309 x0 x1 x2 x3 d = 0 := by simp only [v_309, if_neg (show ¬ x1 < 0 from Int.not_lt.mpr z0), if_pos (show x1 < d (x0 + 1 + 10) 0 from z1), if_neg (show ¬ x2 = 0 by omega), if_neg (show ¬ x2 = 1 by omega), if_neg (show ¬ x2 = 2 by omega), if_neg (show ¬ x2 = 3 by omega), if_neg (show ¬ x2 = 4 by omega), if_neg (show ¬ x2 = 5 by omega), if_neg (show ¬ x2 = 6 by omega), if_pos (show x2 = 7 from z9)]
    have y1 : g_309 x0 x1 x2 x3 d = mset d x3 0 (d (x0 + 1 + 10 + 3) x1) := by simp only [g_309, if_neg (show ¬ x1 < 0 from Int.not_lt.mpr z0), if_pos (show x1 < d (x0 + 1 + 10) 0 from z1), if_neg (show ¬ x2 = 0 by omega), if_neg (show ¬ x2 = 1 by omega), if_neg (show ¬ x2 = 2 by omega), if_neg (show ¬ x2 = 3 by omega), if_neg (show ¬ x2 = 4 by omega), if_neg (show ¬ x2 = 5 by omega), if_neg (show ¬ x2 = 6 by omega), if_pos (show x2 = 7 from z9)]
    rw [y0] at h
    rw [y1] at h
    exact h (show 0 ≤ ((0 : Int)) ∧ ((0 : Int)) ≤ 3 from (by omega)) (show ∀ b : Int, (b < x0 + 575 ∨ x0 + 575 < b) ∧ (b < x3 ∨ x3 < b) → (mset d x3 0 (d (x0 + 1 + 10 + 3) x1)) b = d b from fun b hb => mset_ne (by omega)) hS9
  · refine t_309_8 ?_
    refine ⟨m_inR (by omega) (by omega), by omega, ?_⟩
    have hS10 : Safe (mset d x3 0 (d (x0 + 1 + 10 + 4) x1)) := s_ou hS hx3
    have y0 : v_309 x0 x1 x2 x3 d = 0 := by simp only [v_309, if_neg (show ¬ x1 < 0 from Int.not_lt.mpr z0), if_pos (show x1 < d (x0 + 1 + 10) 0 from z1), if_neg (show ¬ x2 = 0 by omega), if_neg (show ¬ x2 = 1 by omega), if_neg (show ¬ x2 = 2 by omega), if_neg (show ¬ x2 = 3 by omega), if_neg (show ¬ x2 = 4 by omega), if_neg (show ¬ x2 = 5 by omega), if_neg (show ¬ x2 = 6 by omega), if_neg (show ¬ x2 = 7 by omega), if_pos (show x2 = 8 from z10)]
    have y1 : g_309 x0 x1 x2 x3 d = mset d x3 0 (d (x0 + 1 + 10 + 4) x1) := by simp only [g_309, if_neg (show ¬ x1 < 0 from Int.not_lt.mpr z0), if_pos (show x1 < d (x0 + 1 + 10) 0 from z1), if_neg (show ¬ x2 = 0 by omega), if_neg (show ¬ x2 = 1 by omega), if_neg (show ¬ x2 = 2 by omega), if_neg (show ¬ x2 = 3 by omega), if_neg (show ¬ x2 = 4 by omega), if_neg (show ¬ x2 = 5 by omega), if_neg (show ¬ x2 = 6 by omega), if_neg (show ¬ x2 = 7 by omega), if_pos (show x2 = 8 from z10)]
    rw [y0] at h
    rw [y1] at h
    exact h (show 0 ≤ ((0 : Int)) ∧ ((0 : Int)) ≤ 3 from (by omega)) (show ∀ b : Int, (b < x0 + 575 ∨ x0 + 575 < b) ∧ (b < x3 ∨ x3 < b) → (mset d x3 0 (d (x0 + 1 + 10 + 4) x1)) b = d b from fun b hb => mset_ne (by omega)) hS10
  · refine t_309_8 ?_
    refine ⟨m_inR (by omega) (by omega), by omega, ?_⟩
    have hS11 : Safe (mset (g_72 (x0 + 1) x1 (x0 + 574) d) x3 0 (v_10 (x0 + 574) (x0 + 1 + 10 + 6 + (1 + 2 * x1)) (g_72 (x0 + 1) x1 (x0 + 574) d))) := s_ou hS1 hx3
    have y0 : v_309 x0 x1 x2 x3 d = 0 := by simp only [v_309, if_neg (show ¬ x1 < 0 from Int.not_lt.mpr z0), if_pos (show x1 < d (x0 + 1 + 10) 0 from z1), if_neg (show ¬ x2 = 0 by omega), if_neg (show ¬ x2 = 1 by omega), if_neg (show ¬ x2 = 2 by omega), if_neg (show ¬ x2 = 3 by omega), if_neg (show ¬ x2 = 4 by omega), if_neg (show ¬ x2 = 5 by omega), if_neg (show ¬ x2 = 6 by omega), if_neg (show ¬ x2 = 7 by omega), if_neg (show ¬ x2 = 8 by omega), if_pos (show x2 = 9 from z11)]
    have y1 : g_309 x0 x1 x2 x3 d = mset (g_72 (x0 + 1) x1 (x0 + 574) d) x3 0 (v_10 (x0 + 574) (x0 + 1 + 10 + 6 + (1 + 2 * x1)) (g_72 (x0 + 1) x1 (x0 + 574) d)) := by simp only [g_309, if_neg (show ¬ x1 < 0 from Int.not_lt.mpr z0), if_pos (show x1 < d (x0 + 1 + 10) 0 from z1), if_neg (show ¬ x2 = 0 by omega), if_neg (show ¬ x2 = 1 by omega), if_neg (show ¬ x2 = 2 by omega), if_neg (show ¬ x2 = 3 by omega), if_neg (show ¬ x2 = 4 by omega), if_neg (show ¬ x2 = 5 by omega), if_neg (show ¬ x2 = 6 by omega), if_neg (show ¬ x2 = 7 by omega), if_neg (show ¬ x2 = 8 by omega), if_pos (show x2 = 9 from z11)]
    rw [y0] at h
    rw [y1] at h
    exact h (show 0 ≤ ((0 : Int)) ∧ ((0 : Int)) ≤ 3 from (by omega)) (show ∀ b : Int, (b < x0 + 575 ∨ x0 + 575 < b) ∧ (b < x3 ∨ x3 < b) → (mset (g_72 (x0 + 1) x1 (x0 + 574) d) x3 0 (v_10 (x0 + 574) (x0 + 1 + 10 + 6 + (1 + 2 * x1)) (g_72 (x0 + 1) x1 (x0 + 574) d))) b = d b from fun b hb => (mset_ne (by omega)).trans (F1 b (by omega))) hS11
  · have y0 : v_309 x0 x1 x2 x3 d = 2 := by simp only [v_309, if_neg (show ¬ x1 < 0 from Int.not_lt.mpr z0), if_pos (show x1 < d (x0 + 1 + 10) 0 from z1), if_neg (show ¬ x2 = 0 by omega), if_neg (show ¬ x2 = 1 by omega), if_neg (show ¬ x2 = 2 by omega), if_neg (show ¬ x2 = 3 by omega), if_neg (show ¬ x2 = 4 by omega), if_neg (show ¬ x2 = 5 by omega), if_neg (show ¬ x2 = 6 by omega), if_neg (show ¬ x2 = 7 by omega), if_neg (show ¬ x2 = 8 by omega), if_neg (show ¬ x2 = 9 by omega)]
    have y1 : g_309 x0 x1 x2 x3 d = d := by simp only [g_309, if_neg (show ¬ x1 < 0 from Int.not_lt.mpr z0), if_pos (show x1 < d (x0 + 1 + 10) 0 from z1), if_neg (show ¬ x2 = 0 by omega), if_neg (show ¬ x2 = 1 by omega), if_neg (show ¬ x2 = 2 by omega), if_neg (show ¬ x2 = 3 by omega), if_neg (show ¬ x2 = 4 by omega), if_neg (show ¬ x2 = 5 by omega), if_neg (show ¬ x2 = 6 by omega), if_neg (show ¬ x2 = 7 by omega), if_neg (show ¬ x2 = 8 by omega), if_neg (show ¬ x2 = 9 by omega)]
    rw [y0] at h
    rw [y1] at h
    exact h (show 0 ≤ ((2 : Int)) ∧ ((2 : Int)) ≤ 3 from (by omega)) (show ∀ b : Int, (b < x0 + 575 ∨ x0 + 575 < b) ∧ (b < x3 ∨ x3 < b) → d b = d b from fun _ _ => rfl) hS
  · have y0 : v_309 x0 x1 x2 x3 d = 1 := by simp only [v_309, if_neg (show ¬ x1 < 0 from Int.not_lt.mpr z0), if_neg (show ¬ x1 < d (x0 + 1 + 10) 0 from Int.not_lt.mpr z1)]
    have y1 : g_309 x0 x1 x2 x3 d = d := by simp only [g_309, if_neg (show ¬ x1 < 0 from Int.not_lt.mpr z0), if_neg (show ¬ x1 < d (x0 + 1 + 10) 0 from Int.not_lt.mpr z1)]
    rw [y0] at h
    rw [y1] at h
    exact h (show 0 ≤ ((1 : Int)) ∧ ((1 : Int)) ≤ 3 from (by omega)) (show ∀ b : Int, (b < x0 + 575 ∨ x0 + 575 < b) ∧ (b < x3 ∨ x3 < b) → d b = d b from fun _ _ => rfl) hS
def v_310 (x0 x1 x2 x3 : Int) (d : mD) : Int := if x1 < 0 then 1 else if x1 < d (x0 + 1 + 49) 0 then (if x2 = 0 then 0 else if x2 = 1 then 0 else if x2 = 2 then 0 else if x2 = 3 then 0 else if x2 = 4 then 0 else if x2 = 5 then 0 else if x2 = 6 then 0 else if x2 = 7 then 0 else if x2 = 8 then 0 else if x2 = 9 then 0 else if x2 = 10 then 0 else 2) else 1
def g_310 (x0 x1 x2 x3 : Int) (d : mD) : mD := if x1 < 0 then d else if x1 < d (x0 + 1 + 49) 0 then (if x2 = 0 then mset d x3 0 (d (x0 + 1 + 49 + 1) x1) else if x2 = 1 then mset d x3 0 (d (x0 + 1 + 49 + 2) x1) else if x2 = 2 then mset d x3 0 (d (x0 + 1 + 49 + 3) x1) else if x2 = 3 then mset d x3 0 (d (x0 + 1 + 49 + 4) x1) else if x2 = 4 then mset d x3 0 (d (x0 + 1 + 49 + 5) x1) else if x2 = 5 then (if d (x0 + 1 + 49 + 6) x1 = 0 then mset d x3 0 0 else mset d x3 0 1) else if x2 = 6 then (if d (x0 + 1 + 49 + 6) x1 = 2 then mset d x3 0 1 else mset d x3 0 0) else if x2 = 7 then mset d x3 0 (v_298 (d (x0 + 1 + 49 + 7) x1) d) else if x2 = 8 then mset d x3 0 (v_71 (x0 + 1) x1 d) else if x2 = 9 then mset d x3 0 (v_112 (x0 + 1 + 57) x1 d) else if x2 = 10 then mset d x3 0 (v_39 (x0 + 1 + 2) (d (x0 + 1 + 49 + 2) x1) x1 d) else d) else d
theorem k_310 {E : mO × tW} {K : tK} {d : mD} {x0 x1 x2 x3 : Int} (hS : Safe d) (hx0 : wbB x0) (hx3 : ouB x3) (p1 : -2147483648 ≤ x1 ∧ x1 ≤ 2147483647) (p2 : -2147483648 ≤ x2 ∧ x2 ≤ 2147483647) (h : (0 ≤ (v_310 x0 x1 x2 x3 d) ∧ (v_310 x0 x1 x2 x3 d) ≤ 3) → (∀ b : Int, (b < x3 ∨ x3 < b) → (g_310 x0 x1 x2 x3 d) b = d b) → Safe (g_310 x0 x1 x2 x3 d) → K (.inl (some (0, (v_310 x0 x1 x2 x3 d)))) (g_310 x0 x1 x2 x3 d)) : tCall E 310 [.inr (10, x0), .inl (0, x1), .inl (0, x2), .inr (30, x3)] d K := by
  refine t_310_0 ?_
  refine k_129 hS hx0 (m_inR (by omega) (by omega)) (m_inR (by omega) (by omega)) (fun z0 => ?_) (fun z0 z1 z2 e1 => ?_) (fun z0 z1 z2 z3 e2 => ?_) (fun z0 z1 z2 z3 z4 e3 => ?_) (fun z0 z1 z2 z3 z4 z5 e4 => ?_) (fun z0 z1 z2 z3 z4 z5 z6 e5 => ?_) (fun z0 z1 z2 z3 z4 z5 z6 z7 z8 e6 => ?_) (fun z0 z1 z2 z3 z4 z5 z6 z7 z8 e7 => ?_) (fun z0 z1 z2 z3 z4 z5 z6 z7 z8 z9 e8 => ?_) (fun z0 z1 z2 z3 z4 z5 z6 z7 z8 z9 e9 => ?_) (fun z0 z1 z2 z3 z4 z5 z6 z7 z8 z9 e10 => ?_) (fun z0 z1 z2 z3 z4 z5 z6 z7 z8 z9 z10 e11 => ?_) (fun z0 z1 z2 z3 z4 z5 z6 z7 z8 z9 z10 z11 e12 => ?_) (fun z0 z1 z2 z3 z4 z5 z6 z7 z8 z9 z10 z11 z12 e13 => ?_) (fun z0 z1 z2 z3 z4 z5 z6 z7 z8 z9 z10 z11 z12 => ?_) (fun z0 z1 => ?_)
  · have y0 : v_310 x0 x1 x2 x3 d = 1 := by simp only [v_310, if_pos (show x1 < 0 from z0)]
    have y1 : g_310 x0 x1 x2 x3 d = d := by simp only [g_310, if_pos (show x1 < 0 from z0)]
    rw [y0] at h
    rw [y1] at h
    exact h (show 0 ≤ ((1 : Int)) ∧ ((1 : Int)) ≤ 3 from (by omega)) (show ∀ b : Int, (b < x3 ∨ x3 < b) → d b = d b from fun _ _ => rfl) hS
  · refine t_310_8 ?_
    refine ⟨m_inR (by omega) (by omega), by omega, ?_⟩
    have hS1 : Safe (mset d x3 0 (d (x0 + 1 + 49 + 1) x1)) := s_ou hS hx3
    have y0 : v_310 x0 x1 x2 x3 d = 0 := by simp only [v_310, if_neg (show ¬ x1 < 0 from Int.not_lt.mpr z0), if_pos (show x1 < d (x0 + 1 + 49) 0 from z1), if_pos (show x2 = 0 from z2)]
    have y1 : g_310 x0 x1 x2 x3 d = mset d x3 0 (d (x0 + 1 + 49 + 1) x1) := by simp only [g_310, if_neg (show ¬ x1 < 0 from Int.not_lt.mpr z0), if_pos (show x1 < d (x0 + 1 + 49) 0 from z1), if_pos (show x2 = 0 from z2)]
    rw [y0] at h
    rw [y1] at h
    exact h (show 0 ≤ ((0 : Int)) ∧ ((0 : Int)) ≤ 3 from (by omega)) (show ∀ b : Int, (b < x3 ∨ x3 < b) → (mset d x3 0 (d (x0 + 1 + 49 + 1) x1)) b = d b from fun b hb => mset_ne (by omega)) hS1
  · refine t_310_8 ?_
    refine ⟨m_inR (by omega) (by omega), by omega, ?_⟩
    have hS2 : Safe (mset d x3 0 (d (x0 + 1 + 49 + 2) x1)) := s_ou hS hx3
    have y0 : v_310 x0 x1 x2 x3 d = 0 := by simp only [v_310, if_neg (show ¬ x1 < 0 from Int.not_lt.mpr z0), if_pos (show x1 < d (x0 + 1 + 49) 0 from z1), if_neg (show ¬ x2 = 0 by omega), if_pos (show x2 = 1 from z3)]
    have y1 : g_310 x0 x1 x2 x3 d = mset d x3 0 (d (x0 + 1 + 49 + 2) x1) := by simp only [g_310, if_neg (show ¬ x1 < 0 from Int.not_lt.mpr z0), if_pos (show x1 < d (x0 + 1 + 49) 0 from z1), if_neg (show ¬ x2 = 0 by omega), if_pos (show x2 = 1 from z3)]
    rw [y0] at h
    rw [y1] at h
    exact h (show 0 ≤ ((0 : Int)) ∧ ((0 : Int)) ≤ 3 from (by omega)) (show ∀ b : Int, (b < x3 ∨ x3 < b) → (mset d x3 0 (d (x0 + 1 + 49 + 2) x1)) b = d b from fun b hb => mset_ne (by omega)) hS2
  · refine t_310_8 ?_
    refine ⟨m_inR (by omega) (by omega), by omega, ?_⟩
    have hS3 : Safe (mset d x3 0 (d (x0 + 1 + 49 + 3) x1)) := s_ou hS hx3
    have y0 : v_310 x0 x1 x2 x3 d = 0 := by simp only [v_310, if_neg (show ¬ x1 < 0 from Int.not_lt.mpr z0), if_pos (show x1 < d (x0 + 1 + 49) 0 from z1), if_neg (show ¬ x2 = 0 by omega), if_neg (show ¬ x2 = 1 by omega), if_pos (show x2 = 2 from z4)]
    have y1 : g_310 x0 x1 x2 x3 d = mset d x3 0 (d (x0 + 1 + 49 + 3) x1) := by simp only [g_310, if_neg (show ¬ x1 < 0 from Int.not_lt.mpr z0), if_pos (show x1 < d (x0 + 1 + 49) 0 from z1), if_neg (show ¬ x2 = 0 by omega), if_neg (show ¬ x2 = 1 by omega), if_pos (show x2 = 2 from z4)]
    rw [y0] at h
    rw [y1] at h
    exact h (show 0 ≤ ((0 : Int)) ∧ ((0 : Int)) ≤ 3 from (by omega)) (show ∀ b : Int, (b < x3 ∨ x3 < b) → (mset d x3 0 (d (x0 + 1 + 49 + 3) x1)) b = d b from fun b hb => mset_ne (by omega)) hS3
  · refine t_310_8 ?_
    refine ⟨m_inR (by omega) (by omega), by omega, ?_⟩
    have hS4 : Safe (mset d x3 0 (d (x0 + 1 + 49 + 4) x1)) := s_ou hS hx3
    have y0 : v_310 x0 x1 x2 x3 d = 0 := by simp only [v_310, if_neg (show ¬ x1 < 0 from Int.not_lt.mpr z0), if_pos (show x1 < d (x0 + 1 + 49) 0 from z1), if_neg (show ¬ x2 = 0 by omega), if_neg (show ¬ x2 = 1 by omega), if_neg (show ¬ x2 = 2 by omega), if_pos (show x2 = 3 from z5)]
    have y1 : g_310 x0 x1 x2 x3 d = mset d x3 0 (d (x0 + 1 + 49 + 4) x1) := by simp only [g_310, if_neg (show ¬ x1 < 0 from Int.not_lt.mpr z0), if_pos (show x1 < d (x0 + 1 + 49) 0 from z1), if_neg (show ¬ x2 = 0 by omega), if_neg (show ¬ x2 = 1 by omega), if_neg (show ¬ x2 = 2 by omega), if_pos (show x2 = 3 from z5)]
    rw [y0] at h
    rw [y1] at h
    exact h (show 0 ≤ ((0 : Int)) ∧ ((0 : Int)) ≤ 3 from (by omega)) (show ∀ b : Int, (b < x3 ∨ x3 < b) → (mset d x3 0 (d (x0 + 1 + 49 + 4) x1)) b = d b from fun b hb => mset_ne (by omega)) hS4
  · refine t_310_8 ?_
    refine ⟨m_inR (by omega) (by omega), by omega, ?_⟩
    have hS5 : Safe (mset d x3 0 (d (x0 + 1 + 49 + 5) x1)) := s_ou hS hx3
    have y0 : v_310 x0 x1 x2 x3 d = 0 := by simp only [v_310, if_neg (show ¬ x1 < 0 from Int.not_lt.mpr z0), if_pos (show x1 < d (x0 + 1 + 49) 0 from z1), if_neg (show ¬ x2 = 0 by omega), if_neg (show ¬ x2 = 1 by omega), if_neg (show ¬ x2 = 2 by omega), if_neg (show ¬ x2 = 3 by omega), if_pos (show x2 = 4 from z6)]
    have y1 : g_310 x0 x1 x2 x3 d = mset d x3 0 (d (x0 + 1 + 49 + 5) x1) := by simp only [g_310, if_neg (show ¬ x1 < 0 from Int.not_lt.mpr z0), if_pos (show x1 < d (x0 + 1 + 49) 0 from z1), if_neg (show ¬ x2 = 0 by omega), if_neg (show ¬ x2 = 1 by omega), if_neg (show ¬ x2 = 2 by omega), if_neg (show ¬ x2 = 3 by omega), if_pos (show x2 = 4 from z6)]
    rw [y0] at h
    rw [y1] at h
    exact h (show 0 ≤ ((0 : Int)) ∧ ((0 : Int)) ≤ 3 from (by omega)) (show ∀ b : Int, (b < x3 ∨ x3 < b) → (mset d x3 0 (d (x0 + 1 + 49 + 5) x1)) b = d b from fun b hb => mset_ne (by omega)) hS5
  · refine t_310_8 ?_
    refine ⟨m_inR (by omega) (by omega), by omega, ?_⟩
    have hS6 : Safe (mset d x3 0 1) := s_ou hS hx3
    have y0 : v_310 x0 x1 x2 x3 d = 0 := by simp only [v_310, if_neg (show ¬ x1 < 0 from Int.not_lt.mpr z0), if_pos (show x1 < d (x0 + 1 + 49) 0 from z1), if_neg (show ¬ x2 = 0 by omega), if_neg (show ¬ x2 = 1 by omega), if_neg (show ¬ x2 = 2 by omega), if_neg (show ¬ x2 = 3 by omega), if_neg (show ¬ x2 = 4 by omega), if_pos (show x2 = 5 from z7), if_neg (show ¬ d (x0 + 1 + 49 + 6) x1 = 0 from z8)]
    have y1 : g_310 x0 x1 x2 x3 d = mset d x3 0 1 := by simp only [g_310, if_neg (show ¬ x1 < 0 from Int.not_lt.mpr z0), if_pos (show x1 < d (x0 + 1 + 49) 0 from z1), if_neg (show ¬ x2 = 0 by omega), if_neg (show ¬ x2 = 1 by omega), if_neg (show ¬ x2 = 2 by omega), if_neg (show ¬ x2 = 3 by omega), if_neg (show ¬ x2 = 4 by omega), if_pos (show x2 = 5 from z7), if_neg (show ¬ d (x0 + 1 + 49 + 6) x1 = 0 from z8)]
    rw [y0] at h
    rw [y1] at h
    exact h (show 0 ≤ ((0 : Int)) ∧ ((0 : Int)) ≤ 3 from (by omega)) (show ∀ b : Int, (b < x3 ∨ x3 < b) → (mset d x3 0 1) b = d b from fun b hb => mset_ne (by omega)) hS6
  · refine t_310_8 ?_
    refine ⟨m_inR (by omega) (by omega), by omega, ?_⟩
    have hS7 : Safe (mset d x3 0 0) := s_ou hS hx3
    have y0 : v_310 x0 x1 x2 x3 d = 0 := by simp only [v_310, if_neg (show ¬ x1 < 0 from Int.not_lt.mpr z0), if_pos (show x1 < d (x0 + 1 + 49) 0 from z1), if_neg (show ¬ x2 = 0 by omega), if_neg (show ¬ x2 = 1 by omega), if_neg (show ¬ x2 = 2 by omega), if_neg (show ¬ x2 = 3 by omega), if_neg (show ¬ x2 = 4 by omega), if_pos (show x2 = 5 from z7), if_pos (show d (x0 + 1 + 49 + 6) x1 = 0 from z8)]
    have y1 : g_310 x0 x1 x2 x3 d = mset d x3 0 0 := by simp only [g_310, if_neg (show ¬ x1 < 0 from Int.not_lt.mpr z0), if_pos (show x1 < d (x0 + 1 + 49) 0 from z1), if_neg (show ¬ x2 = 0 by omega), if_neg (show ¬ x2 = 1 by omega), if_neg (show ¬ x2 = 2 by omega), if_neg (show ¬ x2 = 3 by omega), if_neg (show ¬ x2 = 4 by omega), if_pos (show x2 = 5 from z7), if_pos (show d (x0 + 1 + 49 + 6) x1 = 0 from z8)]
    rw [y0] at h
    rw [y1] at h
    exact h (show 0 ≤ ((0 : Int)) ∧ ((0 : Int)) ≤ 3 from (by omega)) (show ∀ b : Int, (b < x3 ∨ x3 < b) → (mset d x3 0 0) b = d b from fun b hb => mset_ne (by omega)) hS7
  · refine t_310_8 ?_
    refine ⟨m_inR (by omega) (by omega), by omega, ?_⟩
    have hS8 : Safe (mset d x3 0 0) := s_ou hS hx3
    have y0 : v_310 x0 x1 x2 x3 d = 0 := by simp only [v_310, if_neg (show ¬ x1 < 0 from Int.not_lt.mpr z0), if_pos (show x1 < d (x0 + 1 + 49) 0 from z1), if_neg (show ¬ x2 = 0 by omega), if_neg (show ¬ x2 = 1 by omega), if_neg (show ¬ x2 = 2 by omega), if_neg (show ¬ x2 = 3 by omega), if_neg (show ¬ x2 = 4 by omega), if_neg (show ¬ x2 = 5 by omega), if_pos (show x2 = 6 from z8), if_neg (show ¬ d (x0 + 1 + 49 + 6) x1 = 2 from z9)]
    have y1 : g_310 x0 x1 x2 x3 d = mset d x3 0 0 := by simp only [g_310, if_neg (show ¬ x1 < 0 from Int.not_lt.mpr z0), if_pos (show x1 < d (x0 + 1 + 49) 0 from z1), if_neg (show ¬ x2 = 0 by omega), if_neg (show ¬ x2 = 1 by omega), if_neg (show ¬ x2 = 2 by omega), if_neg (show ¬ x2 = 3 by omega), if_neg (show ¬ x2 = 4 by omega), if_neg (show ¬ x2 = 5 by omega), if_pos (show x2 = 6 from z8), if_neg (show ¬ d (x0 + 1 + 49 + 6) x1 = 2 from z9)]
    rw [y0] at h
    rw [y1] at h
    exact h (show 0 ≤ ((0 : Int)) ∧ ((0 : Int)) ≤ 3 from (by omega)) (show ∀ b : Int, (b < x3 ∨ x3 < b) → (mset d x3 0 0) b = d b from fun b hb => mset_ne (by omega)) hS8
  · refine t_310_8 ?_
    refine ⟨m_inR (by omega) (by omega), by omega, ?_⟩
    have hS9 : Safe (mset d x3 0 1) := s_ou hS hx3
    have y0 : v_310 x0 x1 x2 x3 d = 0 := by simp only [v_310, if_neg (show ¬ x1 < 0 from Int.not_lt.mpr z0), if_pos (show x1 < d (x0 + 1 + 49) 0 from z1), if_neg (show ¬ x2 = 0 by omega), if_neg (show ¬ x2 = 1 by omega), if_neg (show ¬ x2 = 2 by omega), if_neg (show ¬ x2 = 3 by omega), if_neg (show ¬ x2 = 4 by omega), if_neg (show ¬ x2 = 5 by omega), if_pos (show x2 = 6 from z8), if_pos (show d (x0 + 1 + 49 + 6) x1 = 2 from z9)]
    have y1 : g_310 x0 x1 x2 x3 d = mset d x3 0 1 := by simp only [g_310, if_neg (show ¬ x1 < 0 from Int.not_lt.mpr z0), if_pos (show x1 < d (x0 + 1 + 49) 0 from z1), if_neg (show ¬ x2 = 0 by omega), if_neg (show ¬ x2 = 1 by omega), if_neg (show ¬ x2 = 2 by omega), if_neg (show ¬ x2 = 3 by omega), if_neg (show ¬ x2 = 4 by omega), if_neg (show ¬ x2 = 5 by omega), if_pos (show x2 = 6 from z8), if_pos (show d (x0 + 1 + 49 + 6) x1 = 2 from z9)]
    rw [y0] at h
    rw [y1] at h
    exact h (show 0 ≤ ((0 : Int)) ∧ ((0 : Int)) ≤ 3 from (by omega)) (show ∀ b : Int, (b < x3 ∨ x3 < b) → (mset d x3 0 1) b = d b from fun b hb => mset_ne (by omega)) hS9
  · refine t_310_8 ?_
    refine ⟨m_inR (by omega) (by omega), by omega, ?_⟩
    have hS10 : Safe (mset d x3 0 (v_298 (d (x0 + 1 + 49 + 7) x1) d)) := s_ou hS hx3
    have y0 : v_310 x0 x1 x2 x3 d = 0 := by simp only [v_310, if_neg (show ¬ x1 < 0 from Int.not_lt.mpr z0), if_pos (show x1 < d (x0 + 1 + 49) 0 from z1), if_neg (show ¬ x2 = 0 by omega), if_neg (show ¬ x2 = 1 by omega), if_neg (show ¬ x2 = 2 by omega), if_neg (show ¬ x2 = 3 by omega), if_neg (show ¬ x2 = 4 by omega), if_neg (show ¬ x2 = 5 by omega), if_neg (show ¬ x2 = 6 by omega), if_pos (show x2 = 7 from z9)]
    have y1 : g_310 x0 x1 x2 x3 d = mset d x3 0 (v_298 (d (x0 + 1 + 49 + 7) x1) d) := by simp only [g_310, if_neg (show ¬ x1 < 0 from Int.not_lt.mpr z0), if_pos (show x1 < d (x0 + 1 + 49) 0 from z1), if_neg (show ¬ x2 = 0 by omega), if_neg (show ¬ x2 = 1 by omega), if_neg (show ¬ x2 = 2 by omega), if_neg (show ¬ x2 = 3 by omega), if_neg (show ¬ x2 = 4 by omega), if_neg (show ¬ x2 = 5 by omega), if_neg (show ¬ x2 = 6 by omega), if_pos (show x2 = 7 from z9)]
    rw [y0] at h
    rw [y1] at h
    exact h (show 0 ≤ ((0 : Int)) ∧ ((0 : Int)) ≤ 3 from (by omega)) (show ∀ b : Int, (b < x3 ∨ x3 < b) → (mset d x3 0 (v_298 (d (x0 + 1 + 49 + 7) x1) d)) b = d b from fun b hb => mset_ne (by omega)) hS10
  · refine t_310_8 ?_
    refine ⟨m_inR (by omega) (by omega), by omega, ?_⟩
    have hS11 : Safe (mset d x3 0 (v_71 (x0 + 1) x1 d)) := s_ou hS hx3
    have y0 : v_310 x0 x1 x2 x3 d = 0 := by simp only [v_310, if_neg (show ¬ x1 < 0 from Int.not_lt.mpr z0), if_pos (show x1 < d (x0 + 1 + 49) 0 from z1), if_neg (show ¬ x2 = 0 by omega), if_neg (show ¬ x2 = 1 by omega), if_neg (show ¬ x2 = 2 by omega), if_neg (show ¬ x2 = 3 by omega), if_neg (show ¬ x2 = 4 by omega), if_neg (show ¬ x2 = 5 by omega), if_neg (show ¬ x2 = 6 by omega), if_neg (show ¬ x2 = 7 by omega), if_pos (show x2 = 8 from z10)]
    have y1 : g_310 x0 x1 x2 x3 d = mset d x3 0 (v_71 (x0 + 1) x1 d) := by simp only [g_310, if_neg (show ¬ x1 < 0 from Int.not_lt.mpr z0), if_pos (show x1 < d (x0 + 1 + 49) 0 from z1), if_neg (show ¬ x2 = 0 by omega), if_neg (show ¬ x2 = 1 by omega), if_neg (show ¬ x2 = 2 by omega), if_neg (show ¬ x2 = 3 by omega), if_neg (show ¬ x2 = 4 by omega), if_neg (show ¬ x2 = 5 by omega), if_neg (show ¬ x2 = 6 by omega), if_neg (show ¬ x2 = 7 by omega), if_pos (show x2 = 8 from z10)]
    rw [y0] at h
    rw [y1] at h
    exact h (show 0 ≤ ((0 : Int)) ∧ ((0 : Int)) ≤ 3 from (by omega)) (show ∀ b : Int, (b < x3 ∨ x3 < b) → (mset d x3 0 (v_71 (x0 + 1) x1 d)) b = d b from fun b hb => mset_ne (by omega)) hS11
  · refine t_310_8 ?_
    refine ⟨m_inR (by omega) (by omega), by omega, ?_⟩
    have hS12 : Safe (mset d x3 0 (v_112 (x0 + 1 + 57) x1 d)) := s_ou hS hx3
    have y0 : v_310 x0 x1 x2 x3 d = 0 := by simp only [v_310, if_neg (show ¬ x1 < 0 from Int.not_lt.mpr z0), if_pos (show x1 < d (x0 + 1 + 49) 0 from z1), if_neg (show ¬ x2 = 0 by omega), if_neg (show ¬ x2 = 1 by omega), if_neg (show ¬ x2 = 2 by omega), if_neg (show ¬ x2 = 3 by omega), if_neg (show ¬ x2 = 4 by omega), if_neg (show ¬ x2 = 5 by omega), if_neg (show ¬ x2 = 6 by omega), if_neg (show ¬ x2 = 7 by omega), if_neg (show ¬ x2 = 8 by omega), if_pos (show x2 = 9 from z11)]
    have y1 : g_310 x0 x1 x2 x3 d = mset d x3 0 (v_112 (x0 + 1 + 57) x1 d) := by simp only [g_310, if_neg (show ¬ x1 < 0 from Int.not_lt.mpr z0), if_pos (show x1 < d (x0 + 1 + 49) 0 from z1), if_neg (show ¬ x2 = 0 by omega), if_neg (show ¬ x2 = 1 by omega), if_neg (show ¬ x2 = 2 by omega), if_neg (show ¬ x2 = 3 by omega), if_neg (show ¬ x2 = 4 by omega), if_neg (show ¬ x2 = 5 by omega), if_neg (show ¬ x2 = 6 by omega), if_neg (show ¬ x2 = 7 by omega), if_neg (show ¬ x2 = 8 by omega), if_pos (show x2 = 9 from z11)]
    rw [y0] at h
    rw [y1] at h
    exact h (show 0 ≤ ((0 : Int)) ∧ ((0 : Int)) ≤ 3 from (by omega)) (show ∀ b : Int, (b < x3 ∨ x3 < b) → (mset d x3 0 (v_112 (x0 + 1 + 57) x1 d)) b = d b from fun b hb => mset_ne (by omega)) hS12
  · refine t_310_8 ?_
    refine ⟨m_inR (by omega) (by omega), by omega, ?_⟩
    have hS13 : Safe (mset d x3 0 (v_39 (x0 + 1 + 2) (d (x0 + 1 + 49 + 2) x1) x1 d)) := s_ou hS hx3
    have y0 : v_310 x0 x1 x2 x3 d = 0 := by simp only [v_310, if_neg (show ¬ x1 < 0 from Int.not_lt.mpr z0), if_pos (show x1 < d (x0 + 1 + 49) 0 from z1), if_neg (show ¬ x2 = 0 by omega), if_neg (show ¬ x2 = 1 by omega), if_neg (show ¬ x2 = 2 by omega), if_neg (show ¬ x2 = 3 by omega), if_neg (show ¬ x2 = 4 by omega), if_neg (show ¬ x2 = 5 by omega), if_neg (show ¬ x2 = 6 by omega), if_neg (show ¬ x2 = 7 by omega), if_neg (show ¬ x2 = 8 by omega), if_neg (show ¬ x2 = 9 by omega), if_pos (show x2 = 10 from z12)]
    have y1 : g_310 x0 x1 x2 x3 d = mset d x3 0 (v_39 (x0 + 1 + 2) (d (x0 + 1 + 49 + 2) x1) x1 d) := by simp only [g_310, if_neg (show ¬ x1 < 0 from Int.not_lt.mpr z0), if_pos (show x1 < d (x0 + 1 + 49) 0 from z1), if_neg (show ¬ x2 = 0 by omega), if_neg (show ¬ x2 = 1 by omega), if_neg (show ¬ x2 = 2 by omega), if_neg (show ¬ x2 = 3 by omega), if_neg (show ¬ x2 = 4 by omega), if_neg (show ¬ x2 = 5 by omega), if_neg (show ¬ x2 = 6 by omega), if_neg (show ¬ x2 = 7 by omega), if_neg (show ¬ x2 = 8 by omega), if_neg (show ¬ x2 = 9 by omega), if_pos (show x2 = 10 from z12)]
    rw [y0] at h
    rw [y1] at h
    exact h (show 0 ≤ ((0 : Int)) ∧ ((0 : Int)) ≤ 3 from (by omega)) (show ∀ b : Int, (b < x3 ∨ x3 < b) → (mset d x3 0 (v_39 (x0 + 1 + 2) (d (x0 + 1 + 49 + 2) x1) x1 d)) b = d b from fun b hb => mset_ne (by omega)) hS13
  · have y0 : v_310 x0 x1 x2 x3 d = 2 := by simp only [v_310, if_neg (show ¬ x1 < 0 from Int.not_lt.mpr z0), if_pos (show x1 < d (x0 + 1 + 49) 0 from z1), if_neg (show ¬ x2 = 0 by omega), if_neg (show ¬ x2 = 1 by omega), if_neg (show ¬ x2 = 2 by omega), if_neg (show ¬ x2 = 3 by omega), if_neg (show ¬ x2 = 4 by omega), if_neg (show ¬ x2 = 5 by omega), if_neg (show ¬ x2 = 6 by omega), if_neg (show ¬ x2 = 7 by omega), if_neg (show ¬ x2 = 8 by omega), if_neg (show ¬ x2 = 9 by omega), if_neg (show ¬ x2 = 10 by omega)]
    have y1 : g_310 x0 x1 x2 x3 d = d := by simp only [g_310, if_neg (show ¬ x1 < 0 from Int.not_lt.mpr z0), if_pos (show x1 < d (x0 + 1 + 49) 0 from z1), if_neg (show ¬ x2 = 0 by omega), if_neg (show ¬ x2 = 1 by omega), if_neg (show ¬ x2 = 2 by omega), if_neg (show ¬ x2 = 3 by omega), if_neg (show ¬ x2 = 4 by omega), if_neg (show ¬ x2 = 5 by omega), if_neg (show ¬ x2 = 6 by omega), if_neg (show ¬ x2 = 7 by omega), if_neg (show ¬ x2 = 8 by omega), if_neg (show ¬ x2 = 9 by omega), if_neg (show ¬ x2 = 10 by omega)]
    rw [y0] at h
    rw [y1] at h
    exact h (show 0 ≤ ((2 : Int)) ∧ ((2 : Int)) ≤ 3 from (by omega)) (show ∀ b : Int, (b < x3 ∨ x3 < b) → d b = d b from fun _ _ => rfl) hS
  · have y0 : v_310 x0 x1 x2 x3 d = 1 := by simp only [v_310, if_neg (show ¬ x1 < 0 from Int.not_lt.mpr z0), if_neg (show ¬ x1 < d (x0 + 1 + 49) 0 from Int.not_lt.mpr z1)]
    have y1 : g_310 x0 x1 x2 x3 d = d := by simp only [g_310, if_neg (show ¬ x1 < 0 from Int.not_lt.mpr z0), if_neg (show ¬ x1 < d (x0 + 1 + 49) 0 from Int.not_lt.mpr z1)]
    rw [y0] at h
    rw [y1] at h
    exact h (show 0 ≤ ((1 : Int)) ∧ ((1 : Int)) ≤ 3 from (by omega)) (show ∀ b : Int, (b < x3 ∨ x3 < b) → d b = d b from fun _ _ => rfl) hS
def v_311 (x0 x1 x2 x3 : Int) (d : mD) : Int := if x1 < 0 then 1 else if x1 < d (x0 + 1 + 57) 0 then (if x2 = 0 then 0 else if x2 = 1 then 0 else if x2 = 2 then 0 else if x2 = 3 then 0 else if x2 = 4 then 0 else 2) else 1
def g_311 (x0 x1 x2 x3 : Int) (d : mD) : mD := if x1 < 0 then d else if x1 < d (x0 + 1 + 57) 0 then (if x2 = 0 then mset d x3 0 (d (x0 + 1 + 57 + 1) x1) else if x2 = 1 then mset d x3 0 (d (x0 + 1 + 57 + 2) x1) else if x2 = 2 then mset d x3 0 (d (x0 + 1 + 57 + 3) x1) else if x2 = 3 then mset d x3 0 (d (x0 + 1 + 57 + 4) x1) else if x2 = 4 then mset d x3 0 (v_113 (x0 + 1 + 57) x1 d) else d) else d
theorem k_311 {E : mO × tW} {K : tK} {d : mD} {x0 x1 x2 x3 : Int} (hS : Safe d) (hx0 : wbB x0) (hx3 : ouB x3) (p1 : -2147483648 ≤ x1 ∧ x1 ≤ 2147483647) (p2 : -2147483648 ≤ x2 ∧ x2 ≤ 2147483647) (h : (0 ≤ (v_311 x0 x1 x2 x3 d) ∧ (v_311 x0 x1 x2 x3 d) ≤ 3) → (∀ b : Int, (b < x3 ∨ x3 < b) → (g_311 x0 x1 x2 x3 d) b = d b) → Safe (g_311 x0 x1 x2 x3 d) → K (.inl (some (0, (v_311 x0 x1 x2 x3 d)))) (g_311 x0 x1 x2 x3 d)) : tCall E 311 [.inr (10, x0), .inl (0, x1), .inl (0, x2), .inr (30, x3)] d K := by
  refine t_311_0 ?_
  refine k_130 hS hx0 (m_inR (by omega) (by omega)) (m_inR (by omega) (by omega)) (fun z0 => ?_) (fun z0 z1 z2 e1 => ?_) (fun z0 z1 z2 z3 e2 => ?_) (fun z0 z1 z2 z3 z4 e3 => ?_) (fun z0 z1 z2 z3 z4 z5 e4 => ?_) (fun z0 z1 z2 z3 z4 z5 z6 e5 => ?_) (fun z0 z1 z2 z3 z4 z5 z6 => ?_) (fun z0 z1 => ?_)
  · have y0 : v_311 x0 x1 x2 x3 d = 1 := by simp only [v_311, if_pos (show x1 < 0 from z0)]
    have y1 : g_311 x0 x1 x2 x3 d = d := by simp only [g_311, if_pos (show x1 < 0 from z0)]
    rw [y0] at h
    rw [y1] at h
    exact h (show 0 ≤ ((1 : Int)) ∧ ((1 : Int)) ≤ 3 from (by omega)) (show ∀ b : Int, (b < x3 ∨ x3 < b) → d b = d b from fun _ _ => rfl) hS
  · refine t_311_8 ?_
    refine ⟨m_inR (by omega) (by omega), by omega, ?_⟩
    have hS1 : Safe (mset d x3 0 (d (x0 + 1 + 57 + 1) x1)) := s_ou hS hx3
    have y0 : v_311 x0 x1 x2 x3 d = 0 := by simp only [v_311, if_neg (show ¬ x1 < 0 from Int.not_lt.mpr z0), if_pos (show x1 < d (x0 + 1 + 57) 0 from z1), if_pos (show x2 = 0 from z2)]
    have y1 : g_311 x0 x1 x2 x3 d = mset d x3 0 (d (x0 + 1 + 57 + 1) x1) := by simp only [g_311, if_neg (show ¬ x1 < 0 from Int.not_lt.mpr z0), if_pos (show x1 < d (x0 + 1 + 57) 0 from z1), if_pos (show x2 = 0 from z2)]
    rw [y0] at h
    rw [y1] at h
    exact h (show 0 ≤ ((0 : Int)) ∧ ((0 : Int)) ≤ 3 from (by omega)) (show ∀ b : Int, (b < x3 ∨ x3 < b) → (mset d x3 0 (d (x0 + 1 + 57 + 1) x1)) b = d b from fun b hb => mset_ne (by omega)) hS1
  · refine t_311_8 ?_
    refine ⟨m_inR (by omega) (by omega), by omega, ?_⟩
    have hS2 : Safe (mset d x3 0 (d (x0 + 1 + 57 + 2) x1)) := s_ou hS hx3
    have y0 : v_311 x0 x1 x2 x3 d = 0 := by simp only [v_311, if_neg (show ¬ x1 < 0 from Int.not_lt.mpr z0), if_pos (show x1 < d (x0 + 1 + 57) 0 from z1), if_neg (show ¬ x2 = 0 by omega), if_pos (show x2 = 1 from z3)]
    have y1 : g_311 x0 x1 x2 x3 d = mset d x3 0 (d (x0 + 1 + 57 + 2) x1) := by simp only [g_311, if_neg (show ¬ x1 < 0 from Int.not_lt.mpr z0), if_pos (show x1 < d (x0 + 1 + 57) 0 from z1), if_neg (show ¬ x2 = 0 by omega), if_pos (show x2 = 1 from z3)]
    rw [y0] at h
    rw [y1] at h
    exact h (show 0 ≤ ((0 : Int)) ∧ ((0 : Int)) ≤ 3 from (by omega)) (show ∀ b : Int, (b < x3 ∨ x3 < b) → (mset d x3 0 (d (x0 + 1 + 57 + 2) x1)) b = d b from fun b hb => mset_ne (by omega)) hS2
  · refine t_311_8 ?_
    refine ⟨m_inR (by omega) (by omega), by omega, ?_⟩
    have hS3 : Safe (mset d x3 0 (d (x0 + 1 + 57 + 3) x1)) := s_ou hS hx3
    have y0 : v_311 x0 x1 x2 x3 d = 0 := by simp only [v_311, if_neg (show ¬ x1 < 0 from Int.not_lt.mpr z0), if_pos (show x1 < d (x0 + 1 + 57) 0 from z1), if_neg (show ¬ x2 = 0 by omega), if_neg (show ¬ x2 = 1 by omega), if_pos (show x2 = 2 from z4)]
    have y1 : g_311 x0 x1 x2 x3 d = mset d x3 0 (d (x0 + 1 + 57 + 3) x1) := by simp only [g_311, if_neg (show ¬ x1 < 0 from Int.not_lt.mpr z0), if_pos (show x1 < d (x0 + 1 + 57) 0 from z1), if_neg (show ¬ x2 = 0 by omega), if_neg (show ¬ x2 = 1 by omega), if_pos (show x2 = 2 from z4)]
    rw [y0] at h
    rw [y1] at h
    exact h (show 0 ≤ ((0 : Int)) ∧ ((0 : Int)) ≤ 3 from (by omega)) (show ∀ b : Int, (b < x3 ∨ x3 < b) → (mset d x3 0 (d (x0 + 1 + 57 + 3) x1)) b = d b from fun b hb => mset_ne (by omega)) hS3
  · refine t_311_8 ?_
    refine ⟨m_inR (by omega) (by omega), by omega, ?_⟩
    have hS4 : Safe (mset d x3 0 (d (x0 + 1 + 57 + 4) x1)) := s_ou hS hx3
    have y0 : v_311 x0 x1 x2 x3 d = 0 := by simp only [v_311, if_neg (show ¬ x1 < 0 from Int.not_lt.mpr z0), if_pos (show x1 < d (x0 + 1 + 57) 0 from z1), if_neg (show ¬ x2 = 0 by omega), if_neg (show ¬ x2 = 1 by omega), if_neg (show ¬ x2 = 2 by omega), if_pos (show x2 = 3 from z5)]
    have y1 : g_311 x0 x1 x2 x3 d = mset d x3 0 (d (x0 + 1 + 57 + 4) x1) := by simp only [g_311, if_neg (show ¬ x1 < 0 from Int.not_lt.mpr z0), if_pos (show x1 < d (x0 + 1 + 57) 0 from z1), if_neg (show ¬ x2 = 0 by omega), if_neg (show ¬ x2 = 1 by omega), if_neg (show ¬ x2 = 2 by omega), if_pos (show x2 = 3 from z5)]
    rw [y0] at h
    rw [y1] at h
    exact h (show 0 ≤ ((0 : Int)) ∧ ((0 : Int)) ≤ 3 from (by omega)) (show ∀ b : Int, (b < x3 ∨ x3 < b) → (mset d x3 0 (d (x0 + 1 + 57 + 4) x1)) b = d b from fun b hb => mset_ne (by omega)) hS4
  · refine t_311_8 ?_
    refine ⟨m_inR (by omega) (by omega), by omega, ?_⟩
    have hS5 : Safe (mset d x3 0 (v_113 (x0 + 1 + 57) x1 d)) := s_ou hS hx3
    have y0 : v_311 x0 x1 x2 x3 d = 0 := by simp only [v_311, if_neg (show ¬ x1 < 0 from Int.not_lt.mpr z0), if_pos (show x1 < d (x0 + 1 + 57) 0 from z1), if_neg (show ¬ x2 = 0 by omega), if_neg (show ¬ x2 = 1 by omega), if_neg (show ¬ x2 = 2 by omega), if_neg (show ¬ x2 = 3 by omega), if_pos (show x2 = 4 from z6)]
    have y1 : g_311 x0 x1 x2 x3 d = mset d x3 0 (v_113 (x0 + 1 + 57) x1 d) := by simp only [g_311, if_neg (show ¬ x1 < 0 from Int.not_lt.mpr z0), if_pos (show x1 < d (x0 + 1 + 57) 0 from z1), if_neg (show ¬ x2 = 0 by omega), if_neg (show ¬ x2 = 1 by omega), if_neg (show ¬ x2 = 2 by omega), if_neg (show ¬ x2 = 3 by omega), if_pos (show x2 = 4 from z6)]
    rw [y0] at h
    rw [y1] at h
    exact h (show 0 ≤ ((0 : Int)) ∧ ((0 : Int)) ≤ 3 from (by omega)) (show ∀ b : Int, (b < x3 ∨ x3 < b) → (mset d x3 0 (v_113 (x0 + 1 + 57) x1 d)) b = d b from fun b hb => mset_ne (by omega)) hS5
  · have y0 : v_311 x0 x1 x2 x3 d = 2 := by simp only [v_311, if_neg (show ¬ x1 < 0 from Int.not_lt.mpr z0), if_pos (show x1 < d (x0 + 1 + 57) 0 from z1), if_neg (show ¬ x2 = 0 by omega), if_neg (show ¬ x2 = 1 by omega), if_neg (show ¬ x2 = 2 by omega), if_neg (show ¬ x2 = 3 by omega), if_neg (show ¬ x2 = 4 by omega)]
    have y1 : g_311 x0 x1 x2 x3 d = d := by simp only [g_311, if_neg (show ¬ x1 < 0 from Int.not_lt.mpr z0), if_pos (show x1 < d (x0 + 1 + 57) 0 from z1), if_neg (show ¬ x2 = 0 by omega), if_neg (show ¬ x2 = 1 by omega), if_neg (show ¬ x2 = 2 by omega), if_neg (show ¬ x2 = 3 by omega), if_neg (show ¬ x2 = 4 by omega)]
    rw [y0] at h
    rw [y1] at h
    exact h (show 0 ≤ ((2 : Int)) ∧ ((2 : Int)) ≤ 3 from (by omega)) (show ∀ b : Int, (b < x3 ∨ x3 < b) → d b = d b from fun _ _ => rfl) hS
  · have y0 : v_311 x0 x1 x2 x3 d = 1 := by simp only [v_311, if_neg (show ¬ x1 < 0 from Int.not_lt.mpr z0), if_neg (show ¬ x1 < d (x0 + 1 + 57) 0 from Int.not_lt.mpr z1)]
    have y1 : g_311 x0 x1 x2 x3 d = d := by simp only [g_311, if_neg (show ¬ x1 < 0 from Int.not_lt.mpr z0), if_neg (show ¬ x1 < d (x0 + 1 + 57) 0 from Int.not_lt.mpr z1)]
    rw [y0] at h
    rw [y1] at h
    exact h (show 0 ≤ ((1 : Int)) ∧ ((1 : Int)) ≤ 3 from (by omega)) (show ∀ b : Int, (b < x3 ∨ x3 < b) → d b = d b from fun _ _ => rfl) hS
def v_312 (x0 x1 x2 x3 : Int) (d : mD) : Int := if x1 < 0 then 1 else if x1 < d (x0 + 1 + 10) 0 then (if x2 < 0 then 2 else if (999 : Int) < x2 then 2 else 0) else 1
def g_312 (x0 x1 x2 x3 : Int) (d : mD) : mD := if x1 < 0 then d else if x1 < d (x0 + 1 + 10) 0 then (if x2 < 0 then d else if (999 : Int) < x2 then d else if v_6 (x0 + 1 + 10 + 6 + (1 + 2 * x1)) x2 d = 0 then mset d x3 0 0 else mset d x3 0 1) else d
theorem k_312 {E : mO × tW} {K : tK} {d : mD} {x0 x1 x2 x3 : Int} (hS : Safe d) (hx0 : wbB x0) (hx3 : ouB x3) (p1 : -2147483648 ≤ x1 ∧ x1 ≤ 2147483647) (p2 : -2147483648 ≤ x2 ∧ x2 ≤ 2147483647) (h : (0 ≤ (v_312 x0 x1 x2 x3 d) ∧ (v_312 x0 x1 x2 x3 d) ≤ 3) → (∀ b : Int, (b < x3 ∨ x3 < b) → (g_312 x0 x1 x2 x3 d) b = d b) → Safe (g_312 x0 x1 x2 x3 d) → K (.inl (some (0, (v_312 x0 x1 x2 x3 d)))) (g_312 x0 x1 x2 x3 d)) : tCall E 312 [.inr (10, x0), .inl (0, x1), .inl (0, x2), .inr (30, x3)] d K := by
  refine t_312_0 ?_
  refine k_131 hS hx0 (m_inR (by omega) (by omega)) (m_inR (by omega) (by omega)) (fun z0 => ?_) (fun z0 z1 z2 => ?_) (fun z0 z1 z2 z3 e1 => ?_) (fun z0 z1 z2 z3 => ?_) (fun z0 z1 => ?_)
  · have y0 : v_312 x0 x1 x2 x3 d = 1 := by simp only [v_312, if_pos (show x1 < 0 from z0)]
    have y1 : g_312 x0 x1 x2 x3 d = d := by simp only [g_312, if_pos (show x1 < 0 from z0)]
    rw [y0] at h
    rw [y1] at h
    exact h (show 0 ≤ ((1 : Int)) ∧ ((1 : Int)) ≤ 3 from (by omega)) (show ∀ b : Int, (b < x3 ∨ x3 < b) → d b = d b from fun _ _ => rfl) hS
  · have y0 : v_312 x0 x1 x2 x3 d = 2 := by simp only [v_312, if_neg (show ¬ x1 < 0 from Int.not_lt.mpr z0), if_pos (show x1 < d (x0 + 1 + 10) 0 from z1), if_pos (show x2 < 0 from z2)]
    have y1 : g_312 x0 x1 x2 x3 d = d := by simp only [g_312, if_neg (show ¬ x1 < 0 from Int.not_lt.mpr z0), if_pos (show x1 < d (x0 + 1 + 10) 0 from z1), if_pos (show x2 < 0 from z2)]
    rw [y0] at h
    rw [y1] at h
    exact h (show 0 ≤ ((2 : Int)) ∧ ((2 : Int)) ≤ 3 from (by omega)) (show ∀ b : Int, (b < x3 ∨ x3 < b) → d b = d b from fun _ _ => rfl) hS
  · refine t_312_8 ?_
    refine ⟨m_inR (by omega) (by omega), fun c4 => ?_, fun c4 => ?_⟩
    · refine ⟨by omega, ?_⟩
      have hS1 : Safe (mset d x3 0 0) := s_ou hS hx3
      have y0 : v_312 x0 x1 x2 x3 d = 0 := by simp only [v_312, if_neg (show ¬ x1 < 0 from Int.not_lt.mpr z0), if_pos (show x1 < d (x0 + 1 + 10) 0 from z1), if_neg (show ¬ x2 < 0 from Int.not_lt.mpr z2), if_neg (show ¬ (999 : Int) < x2 from Int.not_lt.mpr z3), if_pos (show v_6 (x0 + 1 + 10 + 6 + (1 + 2 * x1)) x2 d = 0 from c4)]
      have y1 : g_312 x0 x1 x2 x3 d = mset d x3 0 0 := by simp only [g_312, if_neg (show ¬ x1 < 0 from Int.not_lt.mpr z0), if_pos (show x1 < d (x0 + 1 + 10) 0 from z1), if_neg (show ¬ x2 < 0 from Int.not_lt.mpr z2), if_neg (show ¬ (999 : Int) < x2 from Int.not_lt.mpr z3), if_pos (show v_6 (x0 + 1 + 10 + 6 + (1 + 2 * x1)) x2 d = 0 from c4)]
      rw [y0] at h
      rw [y1] at h
      exact h (show 0 ≤ ((0 : Int)) ∧ ((0 : Int)) ≤ 3 from (by omega)) (show ∀ b : Int, (b < x3 ∨ x3 < b) → (mset d x3 0 0) b = d b from fun b hb => mset_ne (by omega)) hS1
    · refine ⟨by omega, ?_⟩
      have hS2 : Safe (mset d x3 0 1) := s_ou hS hx3
      have y0 : v_312 x0 x1 x2 x3 d = 0 := by simp only [v_312, if_neg (show ¬ x1 < 0 from Int.not_lt.mpr z0), if_pos (show x1 < d (x0 + 1 + 10) 0 from z1), if_neg (show ¬ x2 < 0 from Int.not_lt.mpr z2), if_neg (show ¬ (999 : Int) < x2 from Int.not_lt.mpr z3), if_neg (show ¬ v_6 (x0 + 1 + 10 + 6 + (1 + 2 * x1)) x2 d = 0 from c4)]
      have y1 : g_312 x0 x1 x2 x3 d = mset d x3 0 1 := by simp only [g_312, if_neg (show ¬ x1 < 0 from Int.not_lt.mpr z0), if_pos (show x1 < d (x0 + 1 + 10) 0 from z1), if_neg (show ¬ x2 < 0 from Int.not_lt.mpr z2), if_neg (show ¬ (999 : Int) < x2 from Int.not_lt.mpr z3), if_neg (show ¬ v_6 (x0 + 1 + 10 + 6 + (1 + 2 * x1)) x2 d = 0 from c4)]
      rw [y0] at h
      rw [y1] at h
      exact h (show 0 ≤ ((0 : Int)) ∧ ((0 : Int)) ≤ 3 from (by omega)) (show ∀ b : Int, (b < x3 ∨ x3 < b) → (mset d x3 0 1) b = d b from fun b hb => mset_ne (by omega)) hS2
  · have y0 : v_312 x0 x1 x2 x3 d = 2 := by simp only [v_312, if_neg (show ¬ x1 < 0 from Int.not_lt.mpr z0), if_pos (show x1 < d (x0 + 1 + 10) 0 from z1), if_neg (show ¬ x2 < 0 from Int.not_lt.mpr z2), if_pos (show (999 : Int) < x2 from z3)]
    have y1 : g_312 x0 x1 x2 x3 d = d := by simp only [g_312, if_neg (show ¬ x1 < 0 from Int.not_lt.mpr z0), if_pos (show x1 < d (x0 + 1 + 10) 0 from z1), if_neg (show ¬ x2 < 0 from Int.not_lt.mpr z2), if_pos (show (999 : Int) < x2 from z3)]
    rw [y0] at h
    rw [y1] at h
    exact h (show 0 ≤ ((2 : Int)) ∧ ((2 : Int)) ≤ 3 from (by omega)) (show ∀ b : Int, (b < x3 ∨ x3 < b) → d b = d b from fun _ _ => rfl) hS
  · have y0 : v_312 x0 x1 x2 x3 d = 1 := by simp only [v_312, if_neg (show ¬ x1 < 0 from Int.not_lt.mpr z0), if_neg (show ¬ x1 < d (x0 + 1 + 10) 0 from Int.not_lt.mpr z1)]
    have y1 : g_312 x0 x1 x2 x3 d = d := by simp only [g_312, if_neg (show ¬ x1 < 0 from Int.not_lt.mpr z0), if_neg (show ¬ x1 < d (x0 + 1 + 10) 0 from Int.not_lt.mpr z1)]
    rw [y0] at h
    rw [y1] at h
    exact h (show 0 ≤ ((1 : Int)) ∧ ((1 : Int)) ≤ 3 from (by omega)) (show ∀ b : Int, (b < x3 ∨ x3 < b) → d b = d b from fun _ _ => rfl) hS
def v_313 (x0 x1 x2 x3 : Int) (d : mD) : Int := if x1 < 0 then 1 else if x1 < d (x0 + 1 + 49) 0 then (if x2 < 0 then 1 else if x2 < d (x0 + 1 + 10) 0 then 0 else 1) else 1
def g_313 (x0 x1 x2 x3 : Int) (d : mD) : mD := if x1 < 0 then d else if x1 < d (x0 + 1 + 49) 0 then (if x2 < 0 then d else if x2 < d (x0 + 1 + 10) 0 then mset d x3 0 (v_77 (x0 + 1) x1 x2 d) else d) else d
theorem k_313 {E : mO × tW} {K : tK} {d : mD} {x0 x1 x2 x3 : Int} (hS : Safe d) (hx0 : wbB x0) (hx3 : ouB x3) (p1 : -2147483648 ≤ x1 ∧ x1 ≤ 2147483647) (p2 : -2147483648 ≤ x2 ∧ x2 ≤ 2147483647) (h : (0 ≤ (v_313 x0 x1 x2 x3 d) ∧ (v_313 x0 x1 x2 x3 d) ≤ 3) → (∀ b : Int, (b < x3 ∨ x3 < b) → (g_313 x0 x1 x2 x3 d) b = d b) → Safe (g_313 x0 x1 x2 x3 d) → K (.inl (some (0, (v_313 x0 x1 x2 x3 d)))) (g_313 x0 x1 x2 x3 d)) : tCall E 313 [.inr (10, x0), .inl (0, x1), .inl (0, x2), .inr (30, x3)] d K := by
  refine t_313_0 ?_
  refine k_132 hS hx0 (m_inR (by omega) (by omega)) (m_inR (by omega) (by omega)) (fun z0 => ?_) (fun z0 z1 z2 => ?_) (fun z0 z1 z2 z3 e1 => ?_) (fun z0 z1 z2 z3 => ?_) (fun z0 z1 => ?_)
  · have y0 : v_313 x0 x1 x2 x3 d = 1 := by simp only [v_313, if_pos (show x1 < 0 from z0)]
    have y1 : g_313 x0 x1 x2 x3 d = d := by simp only [g_313, if_pos (show x1 < 0 from z0)]
    rw [y0] at h
    rw [y1] at h
    exact h (show 0 ≤ ((1 : Int)) ∧ ((1 : Int)) ≤ 3 from (by omega)) (show ∀ b : Int, (b < x3 ∨ x3 < b) → d b = d b from fun _ _ => rfl) hS
  · have y0 : v_313 x0 x1 x2 x3 d = 1 := by simp only [v_313, if_neg (show ¬ x1 < 0 from Int.not_lt.mpr z0), if_pos (show x1 < d (x0 + 1 + 49) 0 from z1), if_pos (show x2 < 0 from z2)]
    have y1 : g_313 x0 x1 x2 x3 d = d := by simp only [g_313, if_neg (show ¬ x1 < 0 from Int.not_lt.mpr z0), if_pos (show x1 < d (x0 + 1 + 49) 0 from z1), if_pos (show x2 < 0 from z2)]
    rw [y0] at h
    rw [y1] at h
    exact h (show 0 ≤ ((1 : Int)) ∧ ((1 : Int)) ≤ 3 from (by omega)) (show ∀ b : Int, (b < x3 ∨ x3 < b) → d b = d b from fun _ _ => rfl) hS
  · refine t_313_8 ?_
    refine ⟨m_inR (by omega) (by omega), by omega, ?_⟩
    have hS1 : Safe (mset d x3 0 (v_77 (x0 + 1) x1 x2 d)) := s_ou hS hx3
    have y0 : v_313 x0 x1 x2 x3 d = 0 := by simp only [v_313, if_neg (show ¬ x1 < 0 from Int.not_lt.mpr z0), if_pos (show x1 < d (x0 + 1 + 49) 0 from z1), if_neg (show ¬ x2 < 0 from Int.not_lt.mpr z2), if_pos (show x2 < d (x0 + 1 + 10) 0 from z3)]
    have y1 : g_313 x0 x1 x2 x3 d = mset d x3 0 (v_77 (x0 + 1) x1 x2 d) := by simp only [g_313, if_neg (show ¬ x1 < 0 from Int.not_lt.mpr z0), if_pos (show x1 < d (x0 + 1 + 49) 0 from z1), if_neg (show ¬ x2 < 0 from Int.not_lt.mpr z2), if_pos (show x2 < d (x0 + 1 + 10) 0 from z3)]
    rw [y0] at h
    rw [y1] at h
    exact h (show 0 ≤ ((0 : Int)) ∧ ((0 : Int)) ≤ 3 from (by omega)) (show ∀ b : Int, (b < x3 ∨ x3 < b) → (mset d x3 0 (v_77 (x0 + 1) x1 x2 d)) b = d b from fun b hb => mset_ne (by omega)) hS1
  · have y0 : v_313 x0 x1 x2 x3 d = 1 := by simp only [v_313, if_neg (show ¬ x1 < 0 from Int.not_lt.mpr z0), if_pos (show x1 < d (x0 + 1 + 49) 0 from z1), if_neg (show ¬ x2 < 0 from Int.not_lt.mpr z2), if_neg (show ¬ x2 < d (x0 + 1 + 10) 0 from Int.not_lt.mpr z3)]
    have y1 : g_313 x0 x1 x2 x3 d = d := by simp only [g_313, if_neg (show ¬ x1 < 0 from Int.not_lt.mpr z0), if_pos (show x1 < d (x0 + 1 + 49) 0 from z1), if_neg (show ¬ x2 < 0 from Int.not_lt.mpr z2), if_neg (show ¬ x2 < d (x0 + 1 + 10) 0 from Int.not_lt.mpr z3)]
    rw [y0] at h
    rw [y1] at h
    exact h (show 0 ≤ ((1 : Int)) ∧ ((1 : Int)) ≤ 3 from (by omega)) (show ∀ b : Int, (b < x3 ∨ x3 < b) → d b = d b from fun _ _ => rfl) hS
  · have y0 : v_313 x0 x1 x2 x3 d = 1 := by simp only [v_313, if_neg (show ¬ x1 < 0 from Int.not_lt.mpr z0), if_neg (show ¬ x1 < d (x0 + 1 + 49) 0 from Int.not_lt.mpr z1)]
    have y1 : g_313 x0 x1 x2 x3 d = d := by simp only [g_313, if_neg (show ¬ x1 < 0 from Int.not_lt.mpr z0), if_neg (show ¬ x1 < d (x0 + 1 + 49) 0 from Int.not_lt.mpr z1)]
    rw [y0] at h
    rw [y1] at h
    exact h (show 0 ≤ ((1 : Int)) ∧ ((1 : Int)) ≤ 3 from (by omega)) (show ∀ b : Int, (b < x3 ∨ x3 < b) → d b = d b from fun _ _ => rfl) hS
def v_314 (x0 x1 x2 x3 : Int) (d : mD) : Int := if x1 < 0 then 1 else if x1 < d (x0 + 1 + 49) 0 then (if x2 < 0 then 1 else if x2 < d (x0 + 1 + 10) 0 then 0 else 1) else 1
def g_314 (x0 x1 x2 x3 : Int) (d : mD) : mD := if x1 < 0 then d else if x1 < d (x0 + 1 + 49) 0 then (if x2 < 0 then d else if x2 < d (x0 + 1 + 10) 0 then mset d x3 0 (v_78 (x0 + 1) x1 x2 d) else d) else d
theorem k_314 {E : mO × tW} {K : tK} {d : mD} {x0 x1 x2 x3 : Int} (hS : Safe d) (hx0 : wbB x0) (hx3 : ouB x3) (p1 : -2147483648 ≤ x1 ∧ x1 ≤ 2147483647) (p2 : -2147483648 ≤ x2 ∧ x2 ≤ 2147483647) (h : (0 ≤ (v_314 x0 x1 x2 x3 d) ∧ (v_314 x0 x1 x2 x3 d) ≤ 3) → (∀ b : Int, (b < x3 ∨ x3 < b) → (g_314 x0 x1 x2 x3 d) b = d b) → Safe (g_314 x0 x1 x2 x3 d) → K (.inl (some (0, (v_314 x0 x1 x2 x3 d)))) (g_314 x0 x1 x2 x3 d)) : tCall E 314 [.inr (10, x0), .inl (0, x1), .inl (0, x2), .inr (30, x3)] d K := by
  refine t_314_0 ?_
  refine k_133 hS hx0 (m_inR (by omega) (by omega)) (m_inR (by omega) (by omega)) (fun z0 => ?_) (fun z0 z1 z2 => ?_) (fun z0 z1 z2 z3 e1 => ?_) (fun z0 z1 z2 z3 => ?_) (fun z0 z1 => ?_)
  · have y0 : v_314 x0 x1 x2 x3 d = 1 := by simp only [v_314, if_pos (show x1 < 0 from z0)]
    have y1 : g_314 x0 x1 x2 x3 d = d := by simp only [g_314, if_pos (show x1 < 0 from z0)]
    rw [y0] at h
    rw [y1] at h
    exact h (show 0 ≤ ((1 : Int)) ∧ ((1 : Int)) ≤ 3 from (by omega)) (show ∀ b : Int, (b < x3 ∨ x3 < b) → d b = d b from fun _ _ => rfl) hS
  · have y0 : v_314 x0 x1 x2 x3 d = 1 := by simp only [v_314, if_neg (show ¬ x1 < 0 from Int.not_lt.mpr z0), if_pos (show x1 < d (x0 + 1 + 49) 0 from z1), if_pos (show x2 < 0 from z2)]
    have y1 : g_314 x0 x1 x2 x3 d = d := by simp only [g_314, if_neg (show ¬ x1 < 0 from Int.not_lt.mpr z0), if_pos (show x1 < d (x0 + 1 + 49) 0 from z1), if_pos (show x2 < 0 from z2)]
    rw [y0] at h
    rw [y1] at h
    exact h (show 0 ≤ ((1 : Int)) ∧ ((1 : Int)) ≤ 3 from (by omega)) (show ∀ b : Int, (b < x3 ∨ x3 < b) → d b = d b from fun _ _ => rfl) hS
  · refine t_314_8 ?_
    refine ⟨m_inR (by omega) (by omega), by omega, ?_⟩
    have hS1 : Safe (mset d x3 0 (v_78 (x0 + 1) x1 x2 d)) := s_ou hS hx3
    have y0 : v_314 x0 x1 x2 x3 d = 0 := by simp only [v_314, if_neg (show ¬ x1 < 0 from Int.not_lt.mpr z0), if_pos (show x1 < d (x0 + 1 + 49) 0 from z1), if_neg (show ¬ x2 < 0 from Int.not_lt.mpr z2), if_pos (show x2 < d (x0 + 1 + 10) 0 from z3)]
    have y1 : g_314 x0 x1 x2 x3 d = mset d x3 0 (v_78 (x0 + 1) x1 x2 d) := by simp only [g_314, if_neg (show ¬ x1 < 0 from Int.not_lt.mpr z0), if_pos (show x1 < d (x0 + 1 + 49) 0 from z1), if_neg (show ¬ x2 < 0 from Int.not_lt.mpr z2), if_pos (show x2 < d (x0 + 1 + 10) 0 from z3)]
    rw [y0] at h
    rw [y1] at h
    exact h (show 0 ≤ ((0 : Int)) ∧ ((0 : Int)) ≤ 3 from (by omega)) (show ∀ b : Int, (b < x3 ∨ x3 < b) → (mset d x3 0 (v_78 (x0 + 1) x1 x2 d)) b = d b from fun b hb => mset_ne (by omega)) hS1
  · have y0 : v_314 x0 x1 x2 x3 d = 1 := by simp only [v_314, if_neg (show ¬ x1 < 0 from Int.not_lt.mpr z0), if_pos (show x1 < d (x0 + 1 + 49) 0 from z1), if_neg (show ¬ x2 < 0 from Int.not_lt.mpr z2), if_neg (show ¬ x2 < d (x0 + 1 + 10) 0 from Int.not_lt.mpr z3)]
    have y1 : g_314 x0 x1 x2 x3 d = d := by simp only [g_314, if_neg (show ¬ x1 < 0 from Int.not_lt.mpr z0), if_pos (show x1 < d (x0 + 1 + 49) 0 from z1), if_neg (show ¬ x2 < 0 from Int.not_lt.mpr z2), if_neg (show ¬ x2 < d (x0 + 1 + 10) 0 from Int.not_lt.mpr z3)]
    rw [y0] at h
    rw [y1] at h
    exact h (show 0 ≤ ((1 : Int)) ∧ ((1 : Int)) ≤ 3 from (by omega)) (show ∀ b : Int, (b < x3 ∨ x3 < b) → d b = d b from fun _ _ => rfl) hS
  · have y0 : v_314 x0 x1 x2 x3 d = 1 := by simp only [v_314, if_neg (show ¬ x1 < 0 from Int.not_lt.mpr z0), if_neg (show ¬ x1 < d (x0 + 1 + 49) 0 from Int.not_lt.mpr z1)]
    have y1 : g_314 x0 x1 x2 x3 d = d := by simp only [g_314, if_neg (show ¬ x1 < 0 from Int.not_lt.mpr z0), if_neg (show ¬ x1 < d (x0 + 1 + 49) 0 from Int.not_lt.mpr z1)]
    rw [y0] at h
    rw [y1] at h
    exact h (show 0 ≤ ((1 : Int)) ∧ ((1 : Int)) ≤ 3 from (by omega)) (show ∀ b : Int, (b < x3 ∨ x3 < b) → d b = d b from fun _ _ => rfl) hS
def v_315 (x0 x1 x2 x3 : Int) (d : mD) : Int := if x1 < 0 then 1 else if x1 < d (x0 + 1 + 49) 0 then (if (lp_134_10 x0 x1 x2 (16 - 0 : Int).toNat 0 0 d) < 0 then 2 else 0) else 1
def g_315 (x0 x1 x2 x3 : Int) (d : mD) : mD := if x1 < 0 then d else if x1 < d (x0 + 1 + 49) 0 then (if (lp_134_10 x0 x1 x2 (16 - 0 : Int).toNat 0 0 d) < 0 then d else mset d x3 0 ((lp_134_10 x0 x1 x2 (16 - 0 : Int).toNat 0 0 d))) else d
theorem k_315 {E : mO × tW} {K : tK} {d : mD} {x0 x1 x2 x3 : Int} (hS : Safe d) (hx0 : wbB x0) (hx3 : ouB x3) (p1 : -2147483648 ≤ x1 ∧ x1 ≤ 2147483647) (p2 : -2147483648 ≤ x2 ∧ x2 ≤ 2147483647) (h : (0 ≤ (v_315 x0 x1 x2 x3 d) ∧ (v_315 x0 x1 x2 x3 d) ≤ 3) → (∀ b : Int, (b < x3 ∨ x3 < b) → (g_315 x0 x1 x2 x3 d) b = d b) → Safe (g_315 x0 x1 x2 x3 d) → K (.inl (some (0, (v_315 x0 x1 x2 x3 d)))) (g_315 x0 x1 x2 x3 d)) : tCall E 315 [.inr (10, x0), .inl (0, x1), .inl (0, x2), .inr (30, x3)] d K := by
  refine t_315_0 ?_
  refine k_134 hS hx0 (m_inR (by omega) (by omega)) (m_inR (by omega) (by omega)) (fun z0 => ?_) (fun z0 z1 => ⟨fun z2 e1 => ?_, fun z2 => ?_⟩) (fun z0 z1 => ?_)
  · have y0 : v_315 x0 x1 x2 x3 d = 1 := by simp only [v_315, if_pos (show x1 < 0 from z0)]
    have y1 : g_315 x0 x1 x2 x3 d = d := by simp only [g_315, if_pos (show x1 < 0 from z0)]
    rw [y0] at h
    rw [y1] at h
    exact h (show 0 ≤ ((1 : Int)) ∧ ((1 : Int)) ≤ 3 from (by omega)) (show ∀ b : Int, (b < x3 ∨ x3 < b) → d b = d b from fun _ _ => rfl) hS
  · refine t_315_8 ?_
    refine ⟨m_inR (by omega) (by omega), by omega, ?_⟩
    have hS1 : Safe (mset d x3 0 ((lp_134_10 x0 x1 x2 (16 - 0 : Int).toNat 0 0 d))) := s_ou hS hx3
    have y0 : v_315 x0 x1 x2 x3 d = 0 := by simp only [v_315, if_neg (show ¬ x1 < 0 from Int.not_lt.mpr z0), if_pos (show x1 < d (x0 + 1 + 49) 0 from z1), if_neg (show ¬ (lp_134_10 x0 x1 x2 (16 - 0 : Int).toNat 0 0 d) < 0 from Int.not_lt.mpr z2)]
    have y1 : g_315 x0 x1 x2 x3 d = mset d x3 0 ((lp_134_10 x0 x1 x2 (16 - 0 : Int).toNat 0 0 d)) := by simp only [g_315, if_neg (show ¬ x1 < 0 from Int.not_lt.mpr z0), if_pos (show x1 < d (x0 + 1 + 49) 0 from z1), if_neg (show ¬ (lp_134_10 x0 x1 x2 (16 - 0 : Int).toNat 0 0 d) < 0 from Int.not_lt.mpr z2)]
    rw [y0] at h
    rw [y1] at h
    exact h (show 0 ≤ ((0 : Int)) ∧ ((0 : Int)) ≤ 3 from (by omega)) (show ∀ b : Int, (b < x3 ∨ x3 < b) → (mset d x3 0 ((lp_134_10 x0 x1 x2 (16 - 0 : Int).toNat 0 0 d))) b = d b from fun b hb => mset_ne (by omega)) hS1
  · have y0 : v_315 x0 x1 x2 x3 d = 2 := by simp only [v_315, if_neg (show ¬ x1 < 0 from Int.not_lt.mpr z0), if_pos (show x1 < d (x0 + 1 + 49) 0 from z1), if_pos (show (lp_134_10 x0 x1 x2 (16 - 0 : Int).toNat 0 0 d) < 0 from (by omega))]
    have y1 : g_315 x0 x1 x2 x3 d = d := by simp only [g_315, if_neg (show ¬ x1 < 0 from Int.not_lt.mpr z0), if_pos (show x1 < d (x0 + 1 + 49) 0 from z1), if_pos (show (lp_134_10 x0 x1 x2 (16 - 0 : Int).toNat 0 0 d) < 0 from (by omega))]
    rw [y0] at h
    rw [y1] at h
    exact h (show 0 ≤ ((2 : Int)) ∧ ((2 : Int)) ≤ 3 from (by omega)) (show ∀ b : Int, (b < x3 ∨ x3 < b) → d b = d b from fun _ _ => rfl) hS
  · have y0 : v_315 x0 x1 x2 x3 d = 1 := by simp only [v_315, if_neg (show ¬ x1 < 0 from Int.not_lt.mpr z0), if_neg (show ¬ x1 < d (x0 + 1 + 49) 0 from Int.not_lt.mpr z1)]
    have y1 : g_315 x0 x1 x2 x3 d = d := by simp only [g_315, if_neg (show ¬ x1 < 0 from Int.not_lt.mpr z0), if_neg (show ¬ x1 < d (x0 + 1 + 49) 0 from Int.not_lt.mpr z1)]
    rw [y0] at h
    rw [y1] at h
    exact h (show 0 ≤ ((1 : Int)) ∧ ((1 : Int)) ≤ 3 from (by omega)) (show ∀ b : Int, (b < x3 ∨ x3 < b) → d b = d b from fun _ _ => rfl) hS
def v_316 (x0 x1 x2 x3 : Int) (d : mD) : Int := if x1 < 0 then 1 else if x1 < d (x0 + 1 + 49) 0 then (if x2 < 0 then 1 else if x2 < d (x0 + 1 + 10) 0 then 0 else 1) else 1
def g_316 (x0 x1 x2 x3 : Int) (d : mD) : mD := if x1 < 0 then d else if x1 < d (x0 + 1 + 49) 0 then (if x2 < 0 then d else if x2 < d (x0 + 1 + 10) 0 then (if v_99 (x0 + 1 + 49) x1 x2 d = 0 then mset d x3 0 0 else mset d x3 0 1) else d) else d
theorem k_316 {E : mO × tW} {K : tK} {d : mD} {x0 x1 x2 x3 : Int} (hS : Safe d) (hx0 : wbB x0) (hx3 : ouB x3) (p1 : -2147483648 ≤ x1 ∧ x1 ≤ 2147483647) (p2 : -2147483648 ≤ x2 ∧ x2 ≤ 2147483647) (h : (0 ≤ (v_316 x0 x1 x2 x3 d) ∧ (v_316 x0 x1 x2 x3 d) ≤ 3) → (∀ b : Int, (b < x3 ∨ x3 < b) → (g_316 x0 x1 x2 x3 d) b = d b) → Safe (g_316 x0 x1 x2 x3 d) → K (.inl (some (0, (v_316 x0 x1 x2 x3 d)))) (g_316 x0 x1 x2 x3 d)) : tCall E 316 [.inr (10, x0), .inl (0, x1), .inl (0, x2), .inr (30, x3)] d K := by
  refine t_316_0 ?_
  refine k_135 hS hx0 (m_inR (by omega) (by omega)) (m_inR (by omega) (by omega)) (fun z0 => ?_) (fun z0 z1 z2 => ?_) (fun z0 z1 z2 z3 e1 => ?_) (fun z0 z1 z2 z3 => ?_) (fun z0 z1 => ?_)
  · have y0 : v_316 x0 x1 x2 x3 d = 1 := by simp only [v_316, if_pos (show x1 < 0 from z0)]
    have y1 : g_316 x0 x1 x2 x3 d = d := by simp only [g_316, if_pos (show x1 < 0 from z0)]
    rw [y0] at h
    rw [y1] at h
    exact h (show 0 ≤ ((1 : Int)) ∧ ((1 : Int)) ≤ 3 from (by omega)) (show ∀ b : Int, (b < x3 ∨ x3 < b) → d b = d b from fun _ _ => rfl) hS
  · have y0 : v_316 x0 x1 x2 x3 d = 1 := by simp only [v_316, if_neg (show ¬ x1 < 0 from Int.not_lt.mpr z0), if_pos (show x1 < d (x0 + 1 + 49) 0 from z1), if_pos (show x2 < 0 from z2)]
    have y1 : g_316 x0 x1 x2 x3 d = d := by simp only [g_316, if_neg (show ¬ x1 < 0 from Int.not_lt.mpr z0), if_pos (show x1 < d (x0 + 1 + 49) 0 from z1), if_pos (show x2 < 0 from z2)]
    rw [y0] at h
    rw [y1] at h
    exact h (show 0 ≤ ((1 : Int)) ∧ ((1 : Int)) ≤ 3 from (by omega)) (show ∀ b : Int, (b < x3 ∨ x3 < b) → d b = d b from fun _ _ => rfl) hS
  · refine t_316_8 ?_
    refine ⟨m_inR (by omega) (by omega), fun c4 => ?_, fun c4 => ?_⟩
    · refine ⟨by omega, ?_⟩
      have hS1 : Safe (mset d x3 0 0) := s_ou hS hx3
      have y0 : v_316 x0 x1 x2 x3 d = 0 := by simp only [v_316, if_neg (show ¬ x1 < 0 from Int.not_lt.mpr z0), if_pos (show x1 < d (x0 + 1 + 49) 0 from z1), if_neg (show ¬ x2 < 0 from Int.not_lt.mpr z2), if_pos (show x2 < d (x0 + 1 + 10) 0 from z3), if_pos (show v_99 (x0 + 1 + 49) x1 x2 d = 0 from c4)]
      have y1 : g_316 x0 x1 x2 x3 d = mset d x3 0 0 := by simp only [g_316, if_neg (show ¬ x1 < 0 from Int.not_lt.mpr z0), if_pos (show x1 < d (x0 + 1 + 49) 0 from z1), if_neg (show ¬ x2 < 0 from Int.not_lt.mpr z2), if_pos (show x2 < d (x0 + 1 + 10) 0 from z3), if_pos (show v_99 (x0 + 1 + 49) x1 x2 d = 0 from c4)]
      rw [y0] at h
      rw [y1] at h
      exact h (show 0 ≤ ((0 : Int)) ∧ ((0 : Int)) ≤ 3 from (by omega)) (show ∀ b : Int, (b < x3 ∨ x3 < b) → (mset d x3 0 0) b = d b from fun b hb => mset_ne (by omega)) hS1
    · refine ⟨by omega, ?_⟩
      have hS2 : Safe (mset d x3 0 1) := s_ou hS hx3
      have y0 : v_316 x0 x1 x2 x3 d = 0 := by simp only [v_316, if_neg (show ¬ x1 < 0 from Int.not_lt.mpr z0), if_pos (show x1 < d (x0 + 1 + 49) 0 from z1), if_neg (show ¬ x2 < 0 from Int.not_lt.mpr z2), if_pos (show x2 < d (x0 + 1 + 10) 0 from z3), if_neg (show ¬ v_99 (x0 + 1 + 49) x1 x2 d = 0 from c4)]
      have y1 : g_316 x0 x1 x2 x3 d = mset d x3 0 1 := by simp only [g_316, if_neg (show ¬ x1 < 0 from Int.not_lt.mpr z0), if_pos (show x1 < d (x0 + 1 + 49) 0 from z1), if_neg (show ¬ x2 < 0 from Int.not_lt.mpr z2), if_pos (show x2 < d (x0 + 1 + 10) 0 from z3), if_neg (show ¬ v_99 (x0 + 1 + 49) x1 x2 d = 0 from c4)]
      rw [y0] at h
      rw [y1] at h
      exact h (show 0 ≤ ((0 : Int)) ∧ ((0 : Int)) ≤ 3 from (by omega)) (show ∀ b : Int, (b < x3 ∨ x3 < b) → (mset d x3 0 1) b = d b from fun b hb => mset_ne (by omega)) hS2
  · have y0 : v_316 x0 x1 x2 x3 d = 1 := by simp only [v_316, if_neg (show ¬ x1 < 0 from Int.not_lt.mpr z0), if_pos (show x1 < d (x0 + 1 + 49) 0 from z1), if_neg (show ¬ x2 < 0 from Int.not_lt.mpr z2), if_neg (show ¬ x2 < d (x0 + 1 + 10) 0 from Int.not_lt.mpr z3)]
    have y1 : g_316 x0 x1 x2 x3 d = d := by simp only [g_316, if_neg (show ¬ x1 < 0 from Int.not_lt.mpr z0), if_pos (show x1 < d (x0 + 1 + 49) 0 from z1), if_neg (show ¬ x2 < 0 from Int.not_lt.mpr z2), if_neg (show ¬ x2 < d (x0 + 1 + 10) 0 from Int.not_lt.mpr z3)]
    rw [y0] at h
    rw [y1] at h
    exact h (show 0 ≤ ((1 : Int)) ∧ ((1 : Int)) ≤ 3 from (by omega)) (show ∀ b : Int, (b < x3 ∨ x3 < b) → d b = d b from fun _ _ => rfl) hS
  · have y0 : v_316 x0 x1 x2 x3 d = 1 := by simp only [v_316, if_neg (show ¬ x1 < 0 from Int.not_lt.mpr z0), if_neg (show ¬ x1 < d (x0 + 1 + 49) 0 from Int.not_lt.mpr z1)]
    have y1 : g_316 x0 x1 x2 x3 d = d := by simp only [g_316, if_neg (show ¬ x1 < 0 from Int.not_lt.mpr z0), if_neg (show ¬ x1 < d (x0 + 1 + 49) 0 from Int.not_lt.mpr z1)]
    rw [y0] at h
    rw [y1] at h
    exact h (show 0 ≤ ((1 : Int)) ∧ ((1 : Int)) ≤ 3 from (by omega)) (show ∀ b : Int, (b < x3 ∨ x3 < b) → d b = d b from fun _ _ => rfl) hS
def v_317 (x0 x1 x2 : Int) (d : mD) : Int := if x1 < 0 then 1 else if x1 < d (x0 + 1 + 49) 0 then 0 else 1
def g_317 (x0 x1 x2 : Int) (d : mD) : mD := if x1 < 0 then d else if x1 < d (x0 + 1 + 49) 0 then (if d (x0 + 1 + 49 + 5) x1 = 1 then mset d x2 0 (v_80 (x0 + 1) x1 d) else mset d x2 0 0) else d
theorem k_317 {E : mO × tW} {K : tK} {d : mD} {x0 x1 x2 : Int} (hS : Safe d) (hx0 : wbB x0) (hx2 : ouB x2) (p1 : -2147483648 ≤ x1 ∧ x1 ≤ 2147483647) (h : (0 ≤ (v_317 x0 x1 x2 d) ∧ (v_317 x0 x1 x2 d) ≤ 3) → (∀ b : Int, (b < x2 ∨ x2 < b) → (g_317 x0 x1 x2 d) b = d b) → Safe (g_317 x0 x1 x2 d) → K (.inl (some (0, (v_317 x0 x1 x2 d)))) (g_317 x0 x1 x2 d)) : tCall E 317 [.inr (10, x0), .inl (0, x1), .inr (30, x2)] d K := by
  refine t_317_0 ?_
  refine k_136 hS hx0 (m_inR (by omega) (by omega)) (fun z0 => ?_) (fun z0 z1 z2 e1 => ?_) (fun z0 z1 z2 e2 => ?_) (fun z0 z1 => ?_)
  · have y0 : v_317 x0 x1 x2 d = 1 := by simp only [v_317, if_pos (show x1 < 0 from z0)]
    have y1 : g_317 x0 x1 x2 d = d := by simp only [g_317, if_pos (show x1 < 0 from z0)]
    rw [y0] at h
    rw [y1] at h
    exact h (show 0 ≤ ((1 : Int)) ∧ ((1 : Int)) ≤ 3 from (by omega)) (show ∀ b : Int, (b < x2 ∨ x2 < b) → d b = d b from fun _ _ => rfl) hS
  · refine t_317_7 ?_
    refine ⟨m_inR (by omega) (by omega), by omega, ?_⟩
    have hS1 : Safe (mset d x2 0 0) := s_ou hS hx2
    have y0 : v_317 x0 x1 x2 d = 0 := by simp only [v_317, if_neg (show ¬ x1 < 0 from Int.not_lt.mpr z0), if_pos (show x1 < d (x0 + 1 + 49) 0 from z1), if_neg (show ¬ d (x0 + 1 + 49 + 5) x1 = 1 from z2)]
    have y1 : g_317 x0 x1 x2 d = mset d x2 0 0 := by simp only [g_317, if_neg (show ¬ x1 < 0 from Int.not_lt.mpr z0), if_pos (show x1 < d (x0 + 1 + 49) 0 from z1), if_neg (show ¬ d (x0 + 1 + 49 + 5) x1 = 1 from z2)]
    rw [y0] at h
    rw [y1] at h
    exact h (show 0 ≤ ((0 : Int)) ∧ ((0 : Int)) ≤ 3 from (by omega)) (show ∀ b : Int, (b < x2 ∨ x2 < b) → (mset d x2 0 0) b = d b from fun b hb => mset_ne (by omega)) hS1
  · refine t_317_7 ?_
    refine ⟨m_inR (by omega) (by omega), by omega, ?_⟩
    have hS2 : Safe (mset d x2 0 (v_80 (x0 + 1) x1 d)) := s_ou hS hx2
    have y0 : v_317 x0 x1 x2 d = 0 := by simp only [v_317, if_neg (show ¬ x1 < 0 from Int.not_lt.mpr z0), if_pos (show x1 < d (x0 + 1 + 49) 0 from z1), if_pos (show d (x0 + 1 + 49 + 5) x1 = 1 from z2)]
    have y1 : g_317 x0 x1 x2 d = mset d x2 0 (v_80 (x0 + 1) x1 d) := by simp only [g_317, if_neg (show ¬ x1 < 0 from Int.not_lt.mpr z0), if_pos (show x1 < d (x0 + 1 + 49) 0 from z1), if_pos (show d (x0 + 1 + 49 + 5) x1 = 1 from z2)]
    rw [y0] at h
    rw [y1] at h
    exact h (show 0 ≤ ((0 : Int)) ∧ ((0 : Int)) ≤ 3 from (by omega)) (show ∀ b : Int, (b < x2 ∨ x2 < b) → (mset d x2 0 (v_80 (x0 + 1) x1 d)) b = d b from fun b hb => mset_ne (by omega)) hS2
  · have y0 : v_317 x0 x1 x2 d = 1 := by simp only [v_317, if_neg (show ¬ x1 < 0 from Int.not_lt.mpr z0), if_neg (show ¬ x1 < d (x0 + 1 + 49) 0 from Int.not_lt.mpr z1)]
    have y1 : g_317 x0 x1 x2 d = d := by simp only [g_317, if_neg (show ¬ x1 < 0 from Int.not_lt.mpr z0), if_neg (show ¬ x1 < d (x0 + 1 + 49) 0 from Int.not_lt.mpr z1)]
    rw [y0] at h
    rw [y1] at h
    exact h (show 0 ≤ ((1 : Int)) ∧ ((1 : Int)) ≤ 3 from (by omega)) (show ∀ b : Int, (b < x2 ∨ x2 < b) → d b = d b from fun _ _ => rfl) hS
def v_318 (x0 x1 x2 : Int) (d : mD) : Int := if x1 < 0 then 1 else if x1 < d (x0 + 1 + 49) 0 then (if d (x0 + 1 + 49 + 5) x1 = 1 then 0 else if v_39 (x0 + 1 + 2) (d (x0 + 1 + 49 + 2) x1) x1 d = (-1) then 2 else if (200 : Int) < v_43 (x0 + 1 + 2) (d (x0 + 1 + 49 + 2) x1) (v_39 (x0 + 1 + 2) (d (x0 + 1 + 49 + 2) x1) x1 d) (d (x0 + 1) 2) d then 2 else 0) else 1
def g_318 (x0 x1 x2 : Int) (d : mD) : mD := if x1 < 0 then d else if x1 < d (x0 + 1 + 49) 0 then (if d (x0 + 1 + 49 + 5) x1 = 1 then mset d x2 0 0 else if v_39 (x0 + 1 + 2) (d (x0 + 1 + 49 + 2) x1) x1 d = (-1) then d else if (200 : Int) < v_43 (x0 + 1 + 2) (d (x0 + 1 + 49 + 2) x1) (v_39 (x0 + 1 + 2) (d (x0 + 1 + 49 + 2) x1) x1 d) (d (x0 + 1) 2) d then d else mset d x2 0 (v_43 (x0 + 1 + 2) (d (x0 + 1 + 49 + 2) x1) (v_39 (x0 + 1 + 2) (d (x0 + 1 + 49 + 2) x1) x1 d) (d (x0 + 1) 2) d)) else d
theorem k_318 {E : mO × tW} {K : tK} {d : mD} {x0 x1 x2 : Int} (hS : Safe d) (hx0 : wbB x0) (hx2 : ouB x2) (p1 : -2147483648 ≤ x1 ∧ x1 ≤ 2147483647) (h : (0 ≤ (v_318 x0 x1 x2 d) ∧ (v_318 x0 x1 x2 d) ≤ 3) → (∀ b : Int, (b < x2 ∨ x2 < b) → (g_318 x0 x1 x2 d) b = d b) → Safe (g_318 x0 x1 x2 d) → K (.inl (some (0, (v_318 x0 x1 x2 d)))) (g_318 x0 x1 x2 d)) : tCall E 318 [.inr (10, x0), .inl (0, x1), .inr (30, x2)] d K := by
  refine t_318_0 ?_
  refine k_142 hS hx0 (m_inR (by omega) (by omega)) (fun z0 => ?_) (fun z0 z1 z2 z3 z4 e1 => ?_) (fun z0 z1 z2 z3 z4 => ?_) (fun z0 z1 z2 z3 => ?_) (fun z0 z1 z2 e2 => ?_) (fun z0 z1 => ?_)
  · have y0 : v_318 x0 x1 x2 d = 1 := by simp only [v_318, if_pos (show x1 < 0 from z0)]
    have y1 : g_318 x0 x1 x2 d = d := by simp only [g_318, if_pos (show x1 < 0 from z0)]
    rw [y0] at h
    rw [y1] at h
    exact h (show 0 ≤ ((1 : Int)) ∧ ((1 : Int)) ≤ 3 from (by omega)) (show ∀ b : Int, (b < x2 ∨ x2 < b) → d b = d b from fun _ _ => rfl) hS
  · refine t_318_7 ?_
    refine ⟨m_inR (by omega) (by omega), by omega, ?_⟩
    have hS1 : Safe (mset d x2 0 (v_43 (x0 + 1 + 2) (d (x0 + 1 + 49 + 2) x1) (v_39 (x0 + 1 + 2) (d (x0 + 1 + 49 + 2) x1) x1 d) (d (x0 + 1) 2) d)) := s_ou hS hx2
    have y0 : v_318 x0 x1 x2 d = 0 := by simp only [v_318, if_neg (show ¬ x1 < 0 from Int.not_lt.mpr z0), if_pos (show x1 < d (x0 + 1 + 49) 0 from z1), if_neg (show ¬ d (x0 + 1 + 49 + 5) x1 = 1 from z2), if_neg (show ¬ v_39 (x0 + 1 + 2) (d (x0 + 1 + 49 + 2) x1) x1 d = (-1) from z3), if_neg (show ¬ (200 : Int) < v_43 (x0 + 1 + 2) (d (x0 + 1 + 49 + 2) x1) (v_39 (x0 + 1 + 2) (d (x0 + 1 + 49 + 2) x1) x1 d) (d (x0 + 1) 2) d from Int.not_lt.mpr z4)]
    have y1 : g_318 x0 x1 x2 d = mset d x2 0 (v_43 (x0 + 1 + 2) (d (x0 + 1 + 49 + 2) x1) (v_39 (x0 + 1 + 2) (d (x0 + 1 + 49 + 2) x1) x1 d) (d (x0 + 1) 2) d) := by simp only [g_318, if_neg (show ¬ x1 < 0 from Int.not_lt.mpr z0), if_pos (show x1 < d (x0 + 1 + 49) 0 from z1), if_neg (show ¬ d (x0 + 1 + 49 + 5) x1 = 1 from z2), if_neg (show ¬ v_39 (x0 + 1 + 2) (d (x0 + 1 + 49 + 2) x1) x1 d = (-1) from z3), if_neg (show ¬ (200 : Int) < v_43 (x0 + 1 + 2) (d (x0 + 1 + 49 + 2) x1) (v_39 (x0 + 1 + 2) (d (x0 + 1 + 49 + 2) x1) x1 d) (d (x0 + 1) 2) d from Int.not_lt.mpr z4)]
    rw [y0] at h
    rw [y1] at h
    exact h (show 0 ≤ ((0 : Int)) ∧ ((0 : Int)) ≤ 3 from (by omega)) (show ∀ b : Int, (b < x2 ∨ x2 < b) → (mset d x2 0 (v_43 (x0 + 1 + 2) (d (x0 + 1 + 49 + 2) x1) (v_39 (x0 + 1 + 2) (d (x0 + 1 + 49 + 2) x1) x1 d) (d (x0 + 1) 2) d)) b = d b from fun b hb => mset_ne (by omega)) hS1
  · have y0 : v_318 x0 x1 x2 d = 2 := by simp only [v_318, if_neg (show ¬ x1 < 0 from Int.not_lt.mpr z0), if_pos (show x1 < d (x0 + 1 + 49) 0 from z1), if_neg (show ¬ d (x0 + 1 + 49 + 5) x1 = 1 from z2), if_neg (show ¬ v_39 (x0 + 1 + 2) (d (x0 + 1 + 49 + 2) x1) x1 d = (-1) from z3), if_pos (show (200 : Int) < v_43 (x0 + 1 + 2) (d (x0 + 1 + 49 + 2) x1) (v_39 (x0 + 1 + 2) (d (x0 + 1 + 49 + 2) x1) x1 d) (d (x0 + 1) 2) d from z4)]
    have y1 : g_318 x0 x1 x2 d = d := by simp only [g_318, if_neg (show ¬ x1 < 0 from Int.not_lt.mpr z0), if_pos (show x1 < d (x0 + 1 + 49) 0 from z1), if_neg (show ¬ d (x0 + 1 + 49 + 5) x1 = 1 from z2), if_neg (show ¬ v_39 (x0 + 1 + 2) (d (x0 + 1 + 49 + 2) x1) x1 d = (-1) from z3), if_pos (show (200 : Int) < v_43 (x0 + 1 + 2) (d (x0 + 1 + 49 + 2) x1) (v_39 (x0 + 1 + 2) (d (x0 + 1 + 49 + 2) x1) x1 d) (d (x0 + 1) 2) d from z4)]
    rw [y0] at h
    rw [y1] at h
    exact h (show 0 ≤ ((2 : Int)) ∧ ((2 : Int)) ≤ 3 from (by omega)) (show ∀ b : Int, (b < x2 ∨ x2 < b) → d b = d b from fun _ _ => rfl) hS
  · have y0 : v_318 x0 x1 x2 d = 2 := by simp only [v_318, if_neg (show ¬ x1 < 0 from Int.not_lt.mpr z0), if_pos (show x1 < d (x0 + 1 + 49) 0 from z1), if_neg (show ¬ d (x0 + 1 + 49 + 5) x1 = 1 from z2), if_pos (show v_39 (x0 + 1 + 2) (d (x0 + 1 + 49 + 2) x1) x1 d = (-1) from z3)]
    have y1 : g_318 x0 x1 x2 d = d := by simp only [g_318, if_neg (show ¬ x1 < 0 from Int.not_lt.mpr z0), if_pos (show x1 < d (x0 + 1 + 49) 0 from z1), if_neg (show ¬ d (x0 + 1 + 49 + 5) x1 = 1 from z2), if_pos (show v_39 (x0 + 1 + 2) (d (x0 + 1 + 49 + 2) x1) x1 d = (-1) from z3)]
    rw [y0] at h
    rw [y1] at h
    exact h (show 0 ≤ ((2 : Int)) ∧ ((2 : Int)) ≤ 3 from (by omega)) (show ∀ b : Int, (b < x2 ∨ x2 < b) → d b = d b from fun _ _ => rfl) hS
  · refine t_318_7 ?_
    refine ⟨m_inR (by omega) (by omega), by omega, ?_⟩
    have hS2 : Safe (mset d x2 0 0) := s_ou hS hx2
    have y0 : v_318 x0 x1 x2 d = 0 := by simp only [v_318, if_neg (show ¬ x1 < 0 from Int.not_lt.mpr z0), if_pos (show x1 < d (x0 + 1 + 49) 0 from z1), if_pos (show d (x0 + 1 + 49 + 5) x1 = 1 from z2)]
    have y1 : g_318 x0 x1 x2 d = mset d x2 0 0 := by simp only [g_318, if_neg (show ¬ x1 < 0 from Int.not_lt.mpr z0), if_pos (show x1 < d (x0 + 1 + 49) 0 from z1), if_pos (show d (x0 + 1 + 49 + 5) x1 = 1 from z2)]
    rw [y0] at h
    rw [y1] at h
    exact h (show 0 ≤ ((0 : Int)) ∧ ((0 : Int)) ≤ 3 from (by omega)) (show ∀ b : Int, (b < x2 ∨ x2 < b) → (mset d x2 0 0) b = d b from fun b hb => mset_ne (by omega)) hS2
  · have y0 : v_318 x0 x1 x2 d = 1 := by simp only [v_318, if_neg (show ¬ x1 < 0 from Int.not_lt.mpr z0), if_neg (show ¬ x1 < d (x0 + 1 + 49) 0 from Int.not_lt.mpr z1)]
    have y1 : g_318 x0 x1 x2 d = d := by simp only [g_318, if_neg (show ¬ x1 < 0 from Int.not_lt.mpr z0), if_neg (show ¬ x1 < d (x0 + 1 + 49) 0 from Int.not_lt.mpr z1)]
    rw [y0] at h
    rw [y1] at h
    exact h (show 0 ≤ ((1 : Int)) ∧ ((1 : Int)) ≤ 3 from (by omega)) (show ∀ b : Int, (b < x2 ∨ x2 < b) → d b = d b from fun _ _ => rfl) hS
def v_319 (x0 x1 x2 x3 : Int) (d : mD) : Int := if x1 < 0 then 1 else if x1 < d (x0 + 1 + 2) 0 then (if x2 < 0 then 2 else if (200 : Int) < x2 then 2 else 0) else 1
def g_319 (x0 x1 x2 x3 : Int) (d : mD) : mD := if x1 < 0 then d else if x1 < d (x0 + 1 + 2) 0 then (if x2 < 0 then d else if (200 : Int) < x2 then d else mset d x3 0 (v_44 (x0 + 1 + 2) x1 x2 (d (x0 + 1) 2) d)) else d
theorem k_319 {E : mO × tW} {K : tK} {d : mD} {x0 x1 x2 x3 : Int} (hS : Safe d) (hx0 : wbB x0) (hx3 : ouB x3) (p1 : -2147483648 ≤ x1 ∧ x1 ≤ 2147483647) (p2 : -2147483648 ≤ x2 ∧ x2 ≤ 2147483647) (h : (0 ≤ (v_319 x0 x1 x2 x3 d) ∧ (v_319 x0 x1 x2 x3 d) ≤ 3) → (∀ b : Int, (b < x3 ∨ x3 < b) → (g_319 x0 x1 x2 x3 d) b = d b) → Safe (g_319 x0 x1 x2 x3 d) → K (.inl (some (0, (v_319 x0 x1 x2 x3 d)))) (g_319 x0 x1 x2 x3 d)) : tCall E 319 [.inr (10, x0), .inl (0, x1), .inl (0, x2), .inr (30, x3)] d K := by
  refine t_319_0 ?_
  refine k_143 hS hx0 (m_inR (by omega) (by omega)) (m_inR (by omega) (by omega)) (fun z0 => ?_) (fun z0 z1 z2 => ?_) (fun z0 z1 z2 z3 e1 => ?_) (fun z0 z1 z2 z3 => ?_) (fun z0 z1 => ?_)
  · have y0 : v_319 x0 x1 x2 x3 d = 1 := by simp only [v_319, if_pos (show x1 < 0 from z0)]
    have y1 : g_319 x0 x1 x2 x3 d = d := by simp only [g_319, if_pos (show x1 < 0 from z0)]
    rw [y0] at h
    rw [y1] at h
    exact h (show 0 ≤ ((1 : Int)) ∧ ((1 : Int)) ≤ 3 from (by omega)) (show ∀ b : Int, (b < x3 ∨ x3 < b) → d b = d b from fun _ _ => rfl) hS
  · have y0 : v_319 x0 x1 x2 x3 d = 2 := by simp only [v_319, if_neg (show ¬ x1 < 0 from Int.not_lt.mpr z0), if_pos (show x1 < d (x0 + 1 + 2) 0 from z1), if_pos (show x2 < 0 from z2)]
    have y1 : g_319 x0 x1 x2 x3 d = d := by simp only [g_319, if_neg (show ¬ x1 < 0 from Int.not_lt.mpr z0), if_pos (show x1 < d (x0 + 1 + 2) 0 from z1), if_pos (show x2 < 0 from z2)]
    rw [y0] at h
    rw [y1] at h
    exact h (show 0 ≤ ((2 : Int)) ∧ ((2 : Int)) ≤ 3 from (by omega)) (show ∀ b : Int, (b < x3 ∨ x3 < b) → d b = d b from fun _ _ => rfl) hS
  · refine t_319_8 ?_
    refine ⟨m_inR (by omega) (by omega), by omega, ?_⟩
    have hS1 : Safe (mset d x3 0 (v_44 (x0 + 1 + 2) x1 x2 (d (x0 + 1) 2) d)) := s_ou hS hx3
    have y0 : v_319 x0 x1 x2 x3 d = 0 := by simp only [v_319, if_neg (show ¬ x1 < 0 from Int.not_lt.mpr z0), if_pos (show x1 < d (x0 + 1 + 2) 0 from z1), if_neg (show ¬ x2 < 0 from Int.not_lt.mpr z2), if_neg (show ¬ (200 : Int) < x2 from Int.not_lt.mpr z3)]
    have y1 : g_319 x0 x1 x2 x3 d = mset d x3 0 (v_44 (x0 + 1 + 2) x1 x2 (d (x0 + 1) 2) d) := by simp only [g_319, if_neg (show ¬ x1 < 0 from Int.not_lt.mpr z0), if_pos (show x1 < d (x0 + 1 + 2) 0 from z1), if_neg (show ¬ x2 < 0 from Int.not_lt.mpr z2), if_neg (show ¬ (200 : Int) < x2 from Int.not_lt.mpr z3)]
    rw [y0] at h
    rw [y1] at h
    exact h (show 0 ≤ ((0 : Int)) ∧ ((0 : Int)) ≤ 3 from (by omega)) (show ∀ b : Int, (b < x3 ∨ x3 < b) → (mset d x3 0 (v_44 (x0 + 1 + 2) x1 x2 (d (x0 + 1) 2) d)) b = d b from fun b hb => mset_ne (by omega)) hS1
  · have y0 : v_319 x0 x1 x2 x3 d = 2 := by simp only [v_319, if_neg (show ¬ x1 < 0 from Int.not_lt.mpr z0), if_pos (show x1 < d (x0 + 1 + 2) 0 from z1), if_neg (show ¬ x2 < 0 from Int.not_lt.mpr z2), if_pos (show (200 : Int) < x2 from z3)]
    have y1 : g_319 x0 x1 x2 x3 d = d := by simp only [g_319, if_neg (show ¬ x1 < 0 from Int.not_lt.mpr z0), if_pos (show x1 < d (x0 + 1 + 2) 0 from z1), if_neg (show ¬ x2 < 0 from Int.not_lt.mpr z2), if_pos (show (200 : Int) < x2 from z3)]
    rw [y0] at h
    rw [y1] at h
    exact h (show 0 ≤ ((2 : Int)) ∧ ((2 : Int)) ≤ 3 from (by omega)) (show ∀ b : Int, (b < x3 ∨ x3 < b) → d b = d b from fun _ _ => rfl) hS
  · have y0 : v_319 x0 x1 x2 x3 d = 1 := by simp only [v_319, if_neg (show ¬ x1 < 0 from Int.not_lt.mpr z0), if_neg (show ¬ x1 < d (x0 + 1 + 2) 0 from Int.not_lt.mpr z1)]
    have y1 : g_319 x0 x1 x2 x3 d = d := by simp only [g_319, if_neg (show ¬ x1 < 0 from Int.not_lt.mpr z0), if_neg (show ¬ x1 < d (x0 + 1 + 2) 0 from Int.not_lt.mpr z1)]
    rw [y0] at h
    rw [y1] at h
    exact h (show 0 ≤ ((1 : Int)) ∧ ((1 : Int)) ≤ 3 from (by omega)) (show ∀ b : Int, (b < x3 ∨ x3 < b) → d b = d b from fun _ _ => rfl) hS
def v_320 (x0 x1 x2 : Int) (d : mD) : Int := if x1 < 0 then 1 else if (200 : Int) < x1 then 1 else 0
def g_320 (x0 x1 x2 : Int) (d : mD) : mD := if x1 < 0 then d else if (200 : Int) < x1 then d else mset (g_68 (x0 + 580) x1 (g_59 (x0 + 580) (x0 + 1) d)) x2 0 ((g_68 (x0 + 580) x1 (g_59 (x0 + 580) (x0 + 1) d)) (x0 + 580 + 57) 0)
theorem k_320 {E : mO × tW} {K : tK} {d : mD} {x0 x1 x2 : Int} (hS : Safe d) (hx0 : wbB x0) (hx2 : ouB x2) (p1 : -2147483648 ≤ x1 ∧ x1 ≤ 2147483647) (h : (0 ≤ (v_320 x0 x1 x2 d) ∧ (v_320 x0 x1 x2 d) ≤ 3) → (∀ b : Int, (b < x0 + 580 ∨ x0 + 595 < b) ∧ (b < x0 + 598 ∨ x0 + 642 < b) ∧ (b < x2 ∨ x2 < b) → (g_320 x0 x1 x2 d) b = d b) → Safe (g_320 x0 x1 x2 d) → K (.inl (some (0, (v_320 x0 x1 x2 d)))) (g_320 x0 x1 x2 d)) : tCall E 320 [.inr (10, x0), .inl (0, x1), .inr (30, x2)] d K := by
  refine t_320_0 ?_
  refine k_144 hS hx0 (m_inR (by omega) (by omega)) (fun z0 => ?_) (fun z0 z1 e1 F1 hS1 => ?_) (fun z0 z1 => ?_)
  · have y0 : v_320 x0 x1 x2 d = 1 := by simp only [v_320, if_pos (show x1 < 0 from z0)]
    have y1 : g_320 x0 x1 x2 d = d := by simp only [g_320, if_pos (show x1 < 0 from z0)]
    rw [y0] at h
    rw [y1] at h
    exact h (show 0 ≤ ((1 : Int)) ∧ ((1 : Int)) ≤ 3 from (by omega)) (show ∀ b : Int, (b < x0 + 580 ∨ x0 + 595 < b) ∧ (b < x0 + 598 ∨ x0 + 642 < b) ∧ (b < x2 ∨ x2 < b) → d b = d b from fun _ _ => rfl) hS
  · refine t_320_7 ?_
    refine ⟨m_inR (by omega) (by omega), by omega, ?_⟩
    have hS2 : Safe (mset (g_68 (x0 + 580) x1 (g_59 (x0 + 580) (x0 + 1) d)) x2 0 ((g_68 (x0 + 580) x1 (g_59 (x0 + 580) (x0 + 1) d)) (x0 + 580 + 57) 0)) := s_ou hS1 hx2
    have y0 : v_320 x0 x1 x2 d = 0 := by simp only [v_320, if_neg (show ¬ x1 < 0 from Int.not_lt.mpr z0), if_neg (show ¬ (200 : Int) < x1 from Int.not_lt.mpr z1)]
    have y1 : g_320 x0 x1 x2 d = mset (g_68 (x0 + 580) x1 (g_59 (x0 + 580) (x0 + 1) d)) x2 0 ((g_68 (x0 + 580) x1 (g_59 (x0 + 580) (x0 + 1) d)) (x0 + 580 + 57) 0) := by simp only [g_320, if_neg (show ¬ x1 < 0 from Int.not_lt.mpr z0), if_neg (show ¬ (200 : Int) < x1 from Int.not_lt.mpr z1)]
    rw [y0] at h
    rw [y1] at h
    exact h (show 0 ≤ ((0 : Int)) ∧ ((0 : Int)) ≤ 3 from (by omega)) (show ∀ b : Int, (b < x0 + 580 ∨ x0 + 595 < b) ∧ (b < x0 + 598 ∨ x0 + 642 < b) ∧ (b < x2 ∨ x2 < b) → (mset (g_68 (x0 + 580) x1 (g_59 (x0 + 580) (x0 + 1) d)) x2 0 ((g_68 (x0 + 580) x1 (g_59 (x0 + 580) (x0 + 1) d)) (x0 + 580 + 57) 0)) b = d b from fun b hb => (mset_ne (by omega)).trans (F1 b (by omega))) hS2
  · have y0 : v_320 x0 x1 x2 d = 1 := by simp only [v_320, if_neg (show ¬ x1 < 0 from Int.not_lt.mpr z0), if_pos (show (200 : Int) < x1 from z1)]
    have y1 : g_320 x0 x1 x2 d = d := by simp only [g_320, if_neg (show ¬ x1 < 0 from Int.not_lt.mpr z0), if_pos (show (200 : Int) < x1 from z1)]
    rw [y0] at h
    rw [y1] at h
    exact h (show 0 ≤ ((1 : Int)) ∧ ((1 : Int)) ≤ 3 from (by omega)) (show ∀ b : Int, (b < x0 + 580 ∨ x0 + 595 < b) ∧ (b < x0 + 598 ∨ x0 + 642 < b) ∧ (b < x2 ∨ x2 < b) → d b = d b from fun _ _ => rfl) hS
def v_321 (x0 x1 x2 : Int) (d : mD) : Int := if x1 < 0 then 1 else if x1 < d (x0 + 1 + 2) 0 then (if v_173 x0 x1 d = (-1) then 2 else 0) else 1
def g_321 (x0 x1 x2 : Int) (d : mD) : mD := if x1 < 0 then d else if x1 < d (x0 + 1 + 2) 0 then (if v_173 x0 x1 d = (-1) then d else mset d x2 0 (v_173 x0 x1 d)) else d
theorem k_321 {E : mO × tW} {K : tK} {d : mD} {x0 x1 x2 : Int} (hS : Safe d) (hx0 : wbB x0) (hx2 : ouB x2) (p1 : -2147483648 ≤ x1 ∧ x1 ≤ 2147483647) (h : (0 ≤ (v_321 x0 x1 x2 d) ∧ (v_321 x0 x1 x2 d) ≤ 3) → (∀ b : Int, (b < x2 ∨ x2 < b) → (g_321 x0 x1 x2 d) b = d b) → Safe (g_321 x0 x1 x2 d) → K (.inl (some (0, (v_321 x0 x1 x2 d)))) (g_321 x0 x1 x2 d)) : tCall E 321 [.inr (10, x0), .inl (0, x1), .inr (30, x2)] d K := by
  refine t_321_0 ?_
  refine k_145 hS hx0 (m_inR (by omega) (by omega)) (fun z0 => ?_) (fun z0 z1 z2 e1 => ?_) (fun z0 z1 z2 => ?_) (fun z0 z1 => ?_)
  · have y0 : v_321 x0 x1 x2 d = 1 := by simp only [v_321, if_pos (show x1 < 0 from z0)]
    have y1 : g_321 x0 x1 x2 d = d := by simp only [g_321, if_pos (show x1 < 0 from z0)]
    rw [y0] at h
    rw [y1] at h
    exact h (show 0 ≤ ((1 : Int)) ∧ ((1 : Int)) ≤ 3 from (by omega)) (show ∀ b : Int, (b < x2 ∨ x2 < b) → d b = d b from fun _ _ => rfl) hS
  · refine t_321_7 ?_
    refine ⟨m_inR (by omega) (by omega), by omega, ?_⟩
    have hS1 : Safe (mset d x2 0 (v_173 x0 x1 d)) := s_ou hS hx2
    have y0 : v_321 x0 x1 x2 d = 0 := by simp only [v_321, if_neg (show ¬ x1 < 0 from Int.not_lt.mpr z0), if_pos (show x1 < d (x0 + 1 + 2) 0 from z1), if_neg (show ¬ v_173 x0 x1 d = (-1) from z2)]
    have y1 : g_321 x0 x1 x2 d = mset d x2 0 (v_173 x0 x1 d) := by simp only [g_321, if_neg (show ¬ x1 < 0 from Int.not_lt.mpr z0), if_pos (show x1 < d (x0 + 1 + 2) 0 from z1), if_neg (show ¬ v_173 x0 x1 d = (-1) from z2)]
    rw [y0] at h
    rw [y1] at h
    exact h (show 0 ≤ ((0 : Int)) ∧ ((0 : Int)) ≤ 3 from (by omega)) (show ∀ b : Int, (b < x2 ∨ x2 < b) → (mset d x2 0 (v_173 x0 x1 d)) b = d b from fun b hb => mset_ne (by omega)) hS1
  · have y0 : v_321 x0 x1 x2 d = 2 := by simp only [v_321, if_neg (show ¬ x1 < 0 from Int.not_lt.mpr z0), if_pos (show x1 < d (x0 + 1 + 2) 0 from z1), if_pos (show v_173 x0 x1 d = (-1) from z2)]
    have y1 : g_321 x0 x1 x2 d = d := by simp only [g_321, if_neg (show ¬ x1 < 0 from Int.not_lt.mpr z0), if_pos (show x1 < d (x0 + 1 + 2) 0 from z1), if_pos (show v_173 x0 x1 d = (-1) from z2)]
    rw [y0] at h
    rw [y1] at h
    exact h (show 0 ≤ ((2 : Int)) ∧ ((2 : Int)) ≤ 3 from (by omega)) (show ∀ b : Int, (b < x2 ∨ x2 < b) → d b = d b from fun _ _ => rfl) hS
  · have y0 : v_321 x0 x1 x2 d = 1 := by simp only [v_321, if_neg (show ¬ x1 < 0 from Int.not_lt.mpr z0), if_neg (show ¬ x1 < d (x0 + 1 + 2) 0 from Int.not_lt.mpr z1)]
    have y1 : g_321 x0 x1 x2 d = d := by simp only [g_321, if_neg (show ¬ x1 < 0 from Int.not_lt.mpr z0), if_neg (show ¬ x1 < d (x0 + 1 + 2) 0 from Int.not_lt.mpr z1)]
    rw [y0] at h
    rw [y1] at h
    exact h (show 0 ≤ ((1 : Int)) ∧ ((1 : Int)) ≤ 3 from (by omega)) (show ∀ b : Int, (b < x2 ∨ x2 < b) → d b = d b from fun _ _ => rfl) hS
def v_322 (x0 x1 : Int) (d : mD) : Int := if (lp_146_8 x0 (6 - 0 : Int).toNat ((-1)) 201 0 d) < 0 then 1 else 0
def g_322 (x0 x1 : Int) (d : mD) : mD := if (lp_146_8 x0 (6 - 0 : Int).toNat ((-1)) 201 0 d) < 0 then d else mset d x1 0 ((lp_146_8 x0 (6 - 0 : Int).toNat ((-1)) 201 0 d))
theorem k_322 {E : mO × tW} {K : tK} {d : mD} {x0 x1 : Int} (hS : Safe d) (hx0 : wbB x0) (hx1 : ouB x1) (h : (0 ≤ (v_322 x0 x1 d) ∧ (v_322 x0 x1 d) ≤ 3) → (∀ b : Int, (b < x1 ∨ x1 < b) → (g_322 x0 x1 d) b = d b) → Safe (g_322 x0 x1 d) → K (.inl (some (0, (v_322 x0 x1 d)))) (g_322 x0 x1 d)) : tCall E 322 [.inr (10, x0), .inr (30, x1)] d K := by
  refine t_322_0 ?_
  refine k_146 hS hx0 ⟨fun z0 e1 => ?_, fun z0 => ?_⟩
  · refine t_322_6 ?_
    refine ⟨m_inR (by omega) (by omega), by omega, ?_⟩
    have hS1 : Safe (mset d x1 0 ((lp_146_8 x0 (6 - 0 : Int).toNat ((-1)) 201 0 d))) := s_ou hS hx1
    have y0 : v_322 x0 x1 d = 0 := by simp only [v_322, if_neg (show ¬ (lp_146_8 x0 (6 - 0 : Int).toNat ((-1)) 201 0 d) < 0 from Int.not_lt.mpr z0)]
    have y1 : g_322 x0 x1 d = mset d x1 0 ((lp_146_8 x0 (6 - 0 : Int).toNat ((-1)) 201 0 d)) := by simp only [g_322, if_neg (show ¬ (lp_146_8 x0 (6 - 0 : Int).toNat ((-1)) 201 0 d) < 0 from Int.not_lt.mpr z0)]
    rw [y0] at h
    rw [y1] at h
    exact h (show 0 ≤ ((0 : Int)) ∧ ((0 : Int)) ≤ 3 from (by omega)) (show ∀ b : Int, (b < x1 ∨ x1 < b) → (mset d x1 0 ((lp_146_8 x0 (6 - 0 : Int).toNat ((-1)) 201 0 d))) b = d b from fun b hb => mset_ne (by omega)) hS1
  · have y0 : v_322 x0 x1 d = 1 := by simp only [v_322, if_pos (show (lp_146_8 x0 (6 - 0 : Int).toNat ((-1)) 201 0 d) < 0 from (by omega))]
    have y1 : g_322 x0 x1 d = d := by simp only [g_322, if_pos (show (lp_146_8 x0 (6 - 0 : Int).toNat ((-1)) 201 0 d) < 0 from (by omega))]
    rw [y0] at h
    rw [y1] at h
    exact h (show 0 ≤ ((1 : Int)) ∧ ((1 : Int)) ≤ 3 from (by omega)) (show ∀ b : Int, (b < x1 ∨ x1 < b) → d b = d b from fun _ _ => rfl) hS
def v_323 (x0 x1 x2 x3 : Int) (d : mD) : Int := if x1 < 0 then 1 else if x1 < d (x0 + 1 + 2) 0 then (if x2 < 0 then 1 else if x2 < d (x0 + 1 + 2) 0 then (if x1 = x2 then 2 else if d (x0 + 1 + 2 + 5) x1 = 0 then 2 else if d (x0 + 1 + 2 + 5) x2 = 0 then 2 else if v_66 (x0 + 580) (g_63 (x0 + 580) x1 x2 (g_59 (x0 + 580) (x0 + 1) d)) = (-1) then 3 else 0) else 1) else 1
def g_323 (x0 x1 x2 x3 : Int) (d : mD) : mD := if x1 < 0 then d else if x1 < d (x0 + 1 + 2) 0 then (if x2 < 0 then d else if x2 < d (x0 + 1 + 2) 0 then (if x1 = x2 then d else if d (x0 + 1 + 2 + 5) x1 = 0 then d else if d (x0 + 1 + 2 + 5) x2 = 0 then d else if v_66 (x0 + 580) (g_63 (x0 + 580) x1 x2 (g_59 (x0 + 580) (x0 + 1) d)) = (-1) then g_63 (x0 + 580) x1 x2 (g_59 (x0 + 580) (x0 + 1) d) else mset (g_63 (x0 + 580) x1 x2 (g_59 (x0 + 580) (x0 + 1) d)) x3 0 (v_66 (x0 + 580) (g_63 (x0 + 580) x1 x2 (g_59 (x0 + 580) (x0 + 1) d)))) else d) else d
theorem k_323 {E : mO × tW} {K : tK} {d : mD} {x0 x1 x2 x3 : Int} (hS : Safe d) (hx0 : wbB x0) (hx3 : ouB x3) (p1 : -2147483648 ≤ x1 ∧ x1 ≤ 2147483647) (p2 : -2147483648 ≤ x2 ∧ x2 ≤ 2147483647) (h : (0 ≤ (v_323 x0 x1 x2 x3 d) ∧ (v_323 x0 x1 x2 x3 d) ≤ 3) → (∀ b : Int, (b < x0 + 580 ∨ x0 + 595 < b) ∧ (b < x0 + 598 ∨ x0 + 642 < b) ∧ (b < x3 ∨ x3 < b) → (g_323 x0 x1 x2 x3 d) b = d b) → Safe (g_323 x0 x1 x2 x3 d) → K (.inl (some (0, (v_323 x0 x1 x2 x3 d)))) (g_323 x0 x1 x2 x3 d)) : tCall E 323 [.inr (10, x0), .inl (0, x1), .inl (0, x2), .inr (30, x3)] d K := by
  refine t_323_0 ?_
  refine k_147 hS hx0 (m_inR (by omega) (by omega)) (m_inR (by omega) (by omega)) (fun z0 => ?_) (fun z0 z1 z2 => ?_) (fun z0 z1 z2 z3 z4 => ?_) (fun z0 z1 z2 z3 z4 z5 => ?_) (fun z0 z1 z2 z3 z4 z5 z6 z7 e1 F1 hS1 => ?_) (fun z0 z1 z2 z3 z4 z5 z6 z7 F2 hS2 => ?_) (fun z0 z1 z2 z3 z4 z5 z6 => ?_) (fun z0 z1 z2 z3 => ?_) (fun z0 z1 => ?_)
  · have y0 : v_323 x0 x1 x2 x3 d = 1 := by simp only [v_323, if_pos (show x1 < 0 from z0)]
    have y1 : g_323 x0 x1 x2 x3 d = d := by simp only [g_323, if_pos (show x1 < 0 from z0)]
    rw [y0] at h
    rw [y1] at h
    exact h (show 0 ≤ ((1 : Int)) ∧ ((1 : Int)) ≤ 3 from (by omega)) (show ∀ b : Int, (b < x0 + 580 ∨ x0 + 595 < b) ∧ (b < x0 + 598 ∨ x0 + 642 < b) ∧ (b < x3 ∨ x3 < b) → d b = d b from fun _ _ => rfl) hS
  · have y0 : v_323 x0 x1 x2 x3 d = 1 := by simp only [v_323, if_neg (show ¬ x1 < 0 from Int.not_lt.mpr z0), if_pos (show x1 < d (x0 + 1 + 2) 0 from z1), if_pos (show x2 < 0 from z2)]
    have y1 : g_323 x0 x1 x2 x3 d = d := by simp only [g_323, if_neg (show ¬ x1 < 0 from Int.not_lt.mpr z0), if_pos (show x1 < d (x0 + 1 + 2) 0 from z1), if_pos (show x2 < 0 from z2)]
    rw [y0] at h
    rw [y1] at h
    exact h (show 0 ≤ ((1 : Int)) ∧ ((1 : Int)) ≤ 3 from (by omega)) (show ∀ b : Int, (b < x0 + 580 ∨ x0 + 595 < b) ∧ (b < x0 + 598 ∨ x0 + 642 < b) ∧ (b < x3 ∨ x3 < b) → d b = d b from fun _ _ => rfl) hS
  · have y0 : v_323 x0 x1 x2 x3 d = 2 := by simp only [v_323, if_neg (show ¬ x1 < 0 from Int.not_lt.mpr z0), if_pos (show x1 < d (x0 + 1 + 2) 0 from z1), if_neg (show ¬ x2 < 0 from Int.not_lt.mpr z2), if_pos (show x2 < d (x0 + 1 + 2) 0 from z3), if_pos (show x1 = x2 from z4)]
    have y1 : g_323 x0 x1 x2 x3 d = d := by simp only [g_323, if_neg (show ¬ x1 < 0 from Int.not_lt.mpr z0), if_pos (show x1 < d (x0 + 1 + 2) 0 from z1), if_neg (show ¬ x2 < 0 from Int.not_lt.mpr z2), if_pos (show x2 < d (x0 + 1 + 2) 0 from z3), if_pos (show x1 = x2 from z4)]
    rw [y0] at h
    rw [y1] at h
    exact h (show 0 ≤ ((2 : Int)) ∧ ((2 : Int)) ≤ 3 from (by omega)) (show ∀ b : Int, (b < x0 + 580 ∨ x0 + 595 < b) ∧ (b < x0 + 598 ∨ x0 + 642 < b) ∧ (b < x3 ∨ x3 < b) → d b = d b from fun _ _ => rfl) hS
  · have y0 : v_323 x0 x1 x2 x3 d = 2 := by simp only [v_323, if_neg (show ¬ x1 < 0 from Int.not_lt.mpr z0), if_pos (show x1 < d (x0 + 1 + 2) 0 from z1), if_neg (show ¬ x2 < 0 from Int.not_lt.mpr z2), if_pos (show x2 < d (x0 + 1 + 2) 0 from z3), if_neg (show ¬ x1 = x2 from z4), if_pos (show d (x0 + 1 + 2 + 5) x1 = 0 from z5)]
    have y1 : g_323 x0 x1 x2 x3 d = d := by simp only [g_323, if_neg (show ¬ x1 < 0 from Int.not_lt.mpr z0), if_pos (show x1 < d (x0 + 1 + 2) 0 from z1), if_neg (show ¬ x2 < 0 from Int.not_lt.mpr z2), if_pos (show x2 < d (x0 + 1 + 2) 0 from z3), if_neg (show ¬ x1 = x2 from z4), if_pos (show d (x0 + 1 + 2 + 5) x1 = 0 from z5)]
    rw [y0] at h
    rw [y1] at h
    exact h (show 0 ≤ ((2 : Int)) ∧ ((2 : Int)) ≤ 3 from (by omega)) (show ∀ b : Int, (b < x0 + 580 ∨ x0 + 595 < b) ∧ (b < x0 + 598 ∨ x0 + 642 < b) ∧ (b < x3 ∨ x3 < b) → d b = d b from fun _ _ => rfl) hS
  · refine t_323_8 ?_
    refine ⟨m_inR (by omega) (by omega), by omega, ?_⟩
    have hS3 : Safe (mset (g_63 (x0 + 580) x1 x2 (g_59 (x0 + 580) (x0 + 1) d)) x3 0 (v_66 (x0 + 580) (g_63 (x0 + 580) x1 x2 (g_59 (x0 + 580) (x0 + 1) d)))) := s_ou hS1 hx3
    have y0 : v_323 x0 x1 x2 x3 d = 0 := by simp only [v_323, if_neg (show ¬ x1 < 0 from Int.not_lt.mpr z0), if_pos (show x1 < d (x0 + 1 + 2) 0 from z1), if_neg (show ¬ x2 < 0 from Int.not_lt.mpr z2), if_pos (show x2 < d (x0 + 1 + 2) 0 from z3), if_neg (show ¬ x1 = x2 from z4), if_neg (show ¬ d (x0 + 1 + 2 + 5) x1 = 0 from z5), if_neg (show ¬ d (x0 + 1 + 2 + 5) x2 = 0 from z6), if_neg (show ¬ v_66 (x0 + 580) (g_63 (x0 + 580) x1 x2 (g_59 (x0 + 580) (x0 + 1) d)) = (-1) from z7)]
    have y1 : g_323 x0 x1 x2 x3 d = mset (g_63 (x0 + 580) x1 x2 (g_59 (x0 + 580) (x0 + 1) d)) x3 0 (v_66 (x0 + 580) (g_63 (x0 + 580) x1 x2 (g_59 (x0 + 580) (x0 + 1) d))) := by simp only [g_323, if_neg (show ¬ x1 < 0 from Int.not_lt.mpr z0), if_pos (show x1 < d (x0 + 1 + 2) 0 from z1), if_neg (show ¬ x2 < 0 from Int.not_lt.mpr z2), if_pos (show x2 < d (x0 + 1 + 2) 0 from z3), if_neg (show ¬ x1 = x2 from z4), if_neg (show ¬ d (x0 + 1 + 2 + 5) x1 = 0 from z5), if_neg (show ¬ d (x0 + 1 + 2 + 5) x2 = 0 from z6), if_neg (show ¬ v_66 (x0 + 580) (g_63 (x0 + 580) x1 x2 (g_59 (x0 + 580) (x0 + 1) d)) = (-1) from z7)]
    rw [y0] at h
    rw [y1] at h
    exact h (show 0 ≤ ((0 : Int)) ∧ ((0 : Int)) ≤ 3 from (by omega)) (show ∀ b : Int, (b < x0 + 580 ∨ x0 + 595 < b) ∧ (b < x0 + 598 ∨ x0 + 642 < b) ∧ (b < x3 ∨ x3 < b) → (mset (g_63 (x0 + 580) x1 x2 (g_59 (x0 + 580) (x0 + 1) d)) x3 0 (v_66 (x0 + 580) (g_63 (x0 + 580) x1 x2 (g_59 (x0 + 580) (x0 + 1) d)))) b = d b from fun b hb => (mset_ne (by omega)).trans (F1 b (by omega))) hS3
  · have y0 : v_323 x0 x1 x2 x3 d = 3 := by simp only [v_323, if_neg (show ¬ x1 < 0 from Int.not_lt.mpr z0), if_pos (show x1 < d (x0 + 1 + 2) 0 from z1), if_neg (show ¬ x2 < 0 from Int.not_lt.mpr z2), if_pos (show x2 < d (x0 + 1 + 2) 0 from z3), if_neg (show ¬ x1 = x2 from z4), if_neg (show ¬ d (x0 + 1 + 2 + 5) x1 = 0 from z5), if_neg (show ¬ d (x0 + 1 + 2 + 5) x2 = 0 from z6), if_pos (show v_66 (x0 + 580) (g_63 (x0 + 580) x1 x2 (g_59 (x0 + 580) (x0 + 1) d)) = (-1) from z7)]
    have y1 : g_323 x0 x1 x2 x3 d = g_63 (x0 + 580) x1 x2 (g_59 (x0 + 580) (x0 + 1) d) := by simp only [g_323, if_neg (show ¬ x1 < 0 from Int.not_lt.mpr z0), if_pos (show x1 < d (x0 + 1 + 2) 0 from z1), if_neg (show ¬ x2 < 0 from Int.not_lt.mpr z2), if_pos (show x2 < d (x0 + 1 + 2) 0 from z3), if_neg (show ¬ x1 = x2 from z4), if_neg (show ¬ d (x0 + 1 + 2 + 5) x1 = 0 from z5), if_neg (show ¬ d (x0 + 1 + 2 + 5) x2 = 0 from z6), if_pos (show v_66 (x0 + 580) (g_63 (x0 + 580) x1 x2 (g_59 (x0 + 580) (x0 + 1) d)) = (-1) from z7)]
    rw [y0] at h
    rw [y1] at h
    exact h (show 0 ≤ ((3 : Int)) ∧ ((3 : Int)) ≤ 3 from (by omega)) (show ∀ b : Int, (b < x0 + 580 ∨ x0 + 595 < b) ∧ (b < x0 + 598 ∨ x0 + 642 < b) ∧ (b < x3 ∨ x3 < b) → (g_63 (x0 + 580) x1 x2 (g_59 (x0 + 580) (x0 + 1) d)) b = d b from fun b hb => F2 b (by omega)) hS2
  · have y0 : v_323 x0 x1 x2 x3 d = 2 := by simp only [v_323, if_neg (show ¬ x1 < 0 from Int.not_lt.mpr z0), if_pos (show x1 < d (x0 + 1 + 2) 0 from z1), if_neg (show ¬ x2 < 0 from Int.not_lt.mpr z2), if_pos (show x2 < d (x0 + 1 + 2) 0 from z3), if_neg (show ¬ x1 = x2 from z4), if_neg (show ¬ d (x0 + 1 + 2 + 5) x1 = 0 from z5), if_pos (show d (x0 + 1 + 2 + 5) x2 = 0 from z6)]
    have y1 : g_323 x0 x1 x2 x3 d = d := by simp only [g_323, if_neg (show ¬ x1 < 0 from Int.not_lt.mpr z0), if_pos (show x1 < d (x0 + 1 + 2) 0 from z1), if_neg (show ¬ x2 < 0 from Int.not_lt.mpr z2), if_pos (show x2 < d (x0 + 1 + 2) 0 from z3), if_neg (show ¬ x1 = x2 from z4), if_neg (show ¬ d (x0 + 1 + 2 + 5) x1 = 0 from z5), if_pos (show d (x0 + 1 + 2 + 5) x2 = 0 from z6)]
    rw [y0] at h
    rw [y1] at h
    exact h (show 0 ≤ ((2 : Int)) ∧ ((2 : Int)) ≤ 3 from (by omega)) (show ∀ b : Int, (b < x0 + 580 ∨ x0 + 595 < b) ∧ (b < x0 + 598 ∨ x0 + 642 < b) ∧ (b < x3 ∨ x3 < b) → d b = d b from fun _ _ => rfl) hS
  · have y0 : v_323 x0 x1 x2 x3 d = 1 := by simp only [v_323, if_neg (show ¬ x1 < 0 from Int.not_lt.mpr z0), if_pos (show x1 < d (x0 + 1 + 2) 0 from z1), if_neg (show ¬ x2 < 0 from Int.not_lt.mpr z2), if_neg (show ¬ x2 < d (x0 + 1 + 2) 0 from Int.not_lt.mpr z3)]
    have y1 : g_323 x0 x1 x2 x3 d = d := by simp only [g_323, if_neg (show ¬ x1 < 0 from Int.not_lt.mpr z0), if_pos (show x1 < d (x0 + 1 + 2) 0 from z1), if_neg (show ¬ x2 < 0 from Int.not_lt.mpr z2), if_neg (show ¬ x2 < d (x0 + 1 + 2) 0 from Int.not_lt.mpr z3)]
    rw [y0] at h
    rw [y1] at h
    exact h (show 0 ≤ ((1 : Int)) ∧ ((1 : Int)) ≤ 3 from (by omega)) (show ∀ b : Int, (b < x0 + 580 ∨ x0 + 595 < b) ∧ (b < x0 + 598 ∨ x0 + 642 < b) ∧ (b < x3 ∨ x3 < b) → d b = d b from fun _ _ => rfl) hS
  · have y0 : v_323 x0 x1 x2 x3 d = 1 := by simp only [v_323, if_neg (show ¬ x1 < 0 from Int.not_lt.mpr z0), if_neg (show ¬ x1 < d (x0 + 1 + 2) 0 from Int.not_lt.mpr z1)]
    have y1 : g_323 x0 x1 x2 x3 d = d := by simp only [g_323, if_neg (show ¬ x1 < 0 from Int.not_lt.mpr z0), if_neg (show ¬ x1 < d (x0 + 1 + 2) 0 from Int.not_lt.mpr z1)]
    rw [y0] at h
    rw [y1] at h
    exact h (show 0 ≤ ((1 : Int)) ∧ ((1 : Int)) ≤ 3 from (by omega)) (show ∀ b : Int, (b < x0 + 580 ∨ x0 + 595 < b) ∧ (b < x0 + 598 ∨ x0 + 642 < b) ∧ (b < x3 ∨ x3 < b) → d b = d b from fun _ _ => rfl) hS
def v_324 (x0 x1 x2 : Int) (d : mD) : Int := if x1 < 0 then 1 else if x1 < d (x0 + 1 + 2) 0 then 0 else 1
def g_324 (x0 x1 x2 : Int) (d : mD) : mD := if x1 < 0 then d else if x1 < d (x0 + 1 + 2) 0 then mset ((lp_148_15 x0 x1 (16 - 0 : Int).toNat 0 (mset d (x0 + 572) 1 0)).2) x2 0 ((lp_148_15 x0 x1 (16 - 0 : Int).toNat 0 (mset d (x0 + 572) 1 0)).1) else d
theorem k_324 {E : mO × tW} {K : tK} {d : mD} {x0 x1 x2 : Int} (hS : Safe d) (hx0 : wbB x0) (hx2 : ouB x2) (p1 : -2147483648 ≤ x1 ∧ x1 ≤ 2147483647) (h : (0 ≤ (v_324 x0 x1 x2 d) ∧ (v_324 x0 x1 x2 d) ≤ 3) → (∀ b : Int, (b < x0 + 572 ∨ x0 + 573 < b) ∧ (b < x2 ∨ x2 < b) → (g_324 x0 x1 x2 d) b = d b) → Safe (g_324 x0 x1 x2 d) → K (.inl (some (0, (v_324 x0 x1 x2 d)))) (g_324 x0 x1 x2 d)) : tCall E 324 [.inr (10, x0), .inl (0, x1), .inr (30, x2)] d K := by
  refine t_324_0 ?_
  refine k_148 hS hx0 (m_inR (by omega) (by omega)) (fun z0 => ?_) (fun z0 z1 e1 F1 hS1 => ?_) (fun z0 z1 => ?_)
  · have y0 : v_324 x0 x1 x2 d = 1 := by simp only [v_324, if_pos (show x1 < 0 from z0)]
    have y1 : g_324 x0 x1 x2 d = d := by simp only [g_324, if_pos (show x1 < 0 from z0)]
    rw [y0] at h
    rw [y1] at h
    exact h (show 0 ≤ ((1 : Int)) ∧ ((1 : Int)) ≤ 3 from (by omega)) (show ∀ b : Int, (b < x0 + 572 ∨ x0 + 573 < b) ∧ (b < x2 ∨ x2 < b) → d b = d b from fun _ _ => rfl) hS
  · refine t_324_7 ?_
    refine ⟨m_inR (by omega) (by omega), by omega, ?_⟩
    have hS2 : Safe (mset ((lp_148_15 x0 x1 (16 - 0 : Int).toNat 0 (mset d (x0 + 572) 1 0)).2) x2 0 ((lp_148_15 x0 x1 (16 - 0 : Int).toNat 0 (mset d (x0 + 572) 1 0)).1)) := s_ou hS1 hx2
    have y0 : v_324 x0 x1 x2 d = 0 := by simp only [v_324, if_neg (show ¬ x1 < 0 from Int.not_lt.mpr z0), if_pos (show x1 < d (x0 + 1 + 2) 0 from z1)]
    have y1 : g_324 x0 x1 x2 d = mset ((lp_148_15 x0 x1 (16 - 0 : Int).toNat 0 (mset d (x0 + 572) 1 0)).2) x2 0 ((lp_148_15 x0 x1 (16 - 0 : Int).toNat 0 (mset d (x0 + 572) 1 0)).1) := by simp only [g_324, if_neg (show ¬ x1 < 0 from Int.not_lt.mpr z0), if_pos (show x1 < d (x0 + 1 + 2) 0 from z1)]
    rw [y0] at h
    rw [y1] at h
    exact h (show 0 ≤ ((0 : Int)) ∧ ((0 : Int)) ≤ 3 from (by omega)) (show ∀ b : Int, (b < x0 + 572 ∨ x0 + 573 < b) ∧ (b < x2 ∨ x2 < b) → (mset ((lp_148_15 x0 x1 (16 - 0 : Int).toNat 0 (mset d (x0 + 572) 1 0)).2) x2 0 ((lp_148_15 x0 x1 (16 - 0 : Int).toNat 0 (mset d (x0 + 572) 1 0)).1)) b = d b from fun b hb => (mset_ne (by omega)).trans (F1 b (by omega))) hS2
  · have y0 : v_324 x0 x1 x2 d = 1 := by simp only [v_324, if_neg (show ¬ x1 < 0 from Int.not_lt.mpr z0), if_neg (show ¬ x1 < d (x0 + 1 + 2) 0 from Int.not_lt.mpr z1)]
    have y1 : g_324 x0 x1 x2 d = d := by simp only [g_324, if_neg (show ¬ x1 < 0 from Int.not_lt.mpr z0), if_neg (show ¬ x1 < d (x0 + 1 + 2) 0 from Int.not_lt.mpr z1)]
    rw [y0] at h
    rw [y1] at h
    exact h (show 0 ≤ ((1 : Int)) ∧ ((1 : Int)) ≤ 3 from (by omega)) (show ∀ b : Int, (b < x0 + 572 ∨ x0 + 573 < b) ∧ (b < x2 ∨ x2 < b) → d b = d b from fun _ _ => rfl) hS
def v_325 (x0 x1 x2 : Int) (d : mD) : Int := if x1 < 0 then 1 else if x1 < d (x0 + 572) 1 then 0 else 1
def g_325 (x0 x1 x2 : Int) (d : mD) : mD := if x1 < 0 then d else if x1 < d (x0 + 572) 1 then mset d x2 0 (d (x0 + 572 + 1) x1) else d
theorem k_325 {E : mO × tW} {K : tK} {d : mD} {x0 x1 x2 : Int} (hS : Safe d) (hx0 : wbB x0) (hx2 : ouB x2) (p1 : -2147483648 ≤ x1 ∧ x1 ≤ 2147483647) (h : (0 ≤ (v_325 x0 x1 x2 d) ∧ (v_325 x0 x1 x2 d) ≤ 3) → (∀ b : Int, (b < x2 ∨ x2 < b) → (g_325 x0 x1 x2 d) b = d b) → Safe (g_325 x0 x1 x2 d) → K (.inl (some (0, (v_325 x0 x1 x2 d)))) (g_325 x0 x1 x2 d)) : tCall E 325 [.inr (10, x0), .inl (0, x1), .inr (30, x2)] d K := by
  refine t_325_0 ?_
  refine k_149 hS hx0 (m_inR (by omega) (by omega)) (fun z0 => ?_) (fun z0 z1 e1 => ?_) (fun z0 z1 => ?_)
  · have y0 : v_325 x0 x1 x2 d = 1 := by simp only [v_325, if_pos (show x1 < 0 from z0)]
    have y1 : g_325 x0 x1 x2 d = d := by simp only [g_325, if_pos (show x1 < 0 from z0)]
    rw [y0] at h
    rw [y1] at h
    exact h (show 0 ≤ ((1 : Int)) ∧ ((1 : Int)) ≤ 3 from (by omega)) (show ∀ b : Int, (b < x2 ∨ x2 < b) → d b = d b from fun _ _ => rfl) hS
  · refine t_325_7 ?_
    refine ⟨m_inR (by omega) (by omega), by omega, ?_⟩
    have hS1 : Safe (mset d x2 0 (d (x0 + 572 + 1) x1)) := s_ou hS hx2
    have y0 : v_325 x0 x1 x2 d = 0 := by simp only [v_325, if_neg (show ¬ x1 < 0 from Int.not_lt.mpr z0), if_pos (show x1 < d (x0 + 572) 1 from z1)]
    have y1 : g_325 x0 x1 x2 d = mset d x2 0 (d (x0 + 572 + 1) x1) := by simp only [g_325, if_neg (show ¬ x1 < 0 from Int.not_lt.mpr z0), if_pos (show x1 < d (x0 + 572) 1 from z1)]
    rw [y0] at h
    rw [y1] at h
    exact h (show 0 ≤ ((0 : Int)) ∧ ((0 : Int)) ≤ 3 from (by omega)) (show ∀ b : Int, (b < x2 ∨ x2 < b) → (mset d x2 0 (d (x0 + 572 + 1) x1)) b = d b from fun b hb => mset_ne (by omega)) hS1
  · have y0 : v_325 x0 x1 x2 d = 1 := by simp only [v_325, if_neg (show ¬ x1 < 0 from Int.not_lt.mpr z0), if_neg (show ¬ x1 < d (x0 + 572) 1 from Int.not_lt.mpr z1)]
    have y1 : g_325 x0 x1 x2 d = d := by simp only [g_325, if_neg (show ¬ x1 < 0 from Int.not_lt.mpr z0), if_neg (show ¬ x1 < d (x0 + 572) 1 from Int.not_lt.mpr z1)]
    rw [y0] at h
    rw [y1] at h
    exact h (show 0 ≤ ((1 : Int)) ∧ ((1 : Int)) ≤ 3 from (by omega)) (show ∀ b : Int, (b < x2 ∨ x2 < b) → d b = d b from fun _ _ => rfl) hS
def v_326 (x0 x1 x2 x3 : Int) (d : mD) : Int := if x1 < 0 then 1 else if x1 < d (x0 + 1 + 10) 0 then (if x2 < 0 then 1 else if x2 < d (x0 + 1 + 2) 0 then (if v_60 (x0 + 1) x1 x2 d = 0 then 2 else 0) else 1) else 1
def g_326 (x0 x1 x2 x3 : Int) (d : mD) : mD := if x1 < 0 then d else if x1 < d (x0 + 1 + 10) 0 then (if x2 < 0 then d else if x2 < d (x0 + 1 + 2) 0 then (if v_60 (x0 + 1) x1 x2 d = 0 then d else mset (g_61 (x0 + 1) x1 x2 (g_2 (x0 + 64) (x0 + 1) d)) x3 0 (v_61 (x0 + 1) x1 x2 (g_2 (x0 + 64) (x0 + 1) d))) else d) else d
theorem k_326 {E : mO × tW} {K : tK} {d : mD} {x0 x1 x2 x3 : Int} (hS : Safe d) (hx0 : wbB x0) (hx3 : ouB x3) (p1 : -2147483648 ≤ x1 ∧ x1 ≤ 2147483647) (p2 : -2147483648 ≤ x2 ∧ x2 ≤ 2147483647) (h : (0 ≤ (v_326 x0 x1 x2 x3 d) ∧ (v_326 x0 x1 x2 x3 d) ≤ 3) → (∀ b : Int, (b < x0 + 9 ∨ x0 + 10 < b) ∧ (b < x0 + 50 ∨ x0 + 57 < b) ∧ (b < x0 + 64 ∨ x0 + 64 < b) ∧ (b < x0 + 66 ∨ x0 + 569 < b) ∧ (b < x3 ∨ x3 < b) → (g_326 x0 x1 x2 x3 d) b = d b) → Safe (g_326 x0 x1 x2 x3 d) → K (.inl (some (0, (v_326 x0 x1 x2 x3 d)))) (g_326 x0 x1 x2 x3 d)) : tCall E 326 [.inr (10, x0), .inl (0, x1), .inl (0, x2), .inr (30, x3)] d K := by
  refine t_326_0 ?_
  refine k_150 hS hx0 (m_inR (by omega) (by omega)) (m_inR (by omega) (by omega)) (fun z0 => ?_) (fun z0 z1 z2 => ?_) (fun z0 z1 z2 z3 z4 e1 F1 hS1 => ?_) (fun z0 z1 z2 z3 z4 => ?_) (fun z0 z1 z2 z3 => ?_) (fun z0 z1 => ?_)
  · have y0 : v_326 x0 x1 x2 x3 d = 1 := by simp only [v_326, if_pos (show x1 < 0 from z0)]
    have y1 : g_326 x0 x1 x2 x3 d = d := by simp only [g_326, if_pos (show x1 < 0 from z0)]
    rw [y0] at h
    rw [y1] at h
    exact h (show 0 ≤ ((1 : Int)) ∧ ((1 : Int)) ≤ 3 from (by omega)) (show ∀ b : Int, (b < x0 + 9 ∨ x0 + 10 < b) ∧ (b < x0 + 50 ∨ x0 + 57 < b) ∧ (b < x0 + 64 ∨ x0 + 64 < b) ∧ (b < x0 + 66 ∨ x0 + 569 < b) ∧ (b < x3 ∨ x3 < b) → d b = d b from fun _ _ => rfl) hS
  · have y0 : v_326 x0 x1 x2 x3 d = 1 := by simp only [v_326, if_neg (show ¬ x1 < 0 from Int.not_lt.mpr z0), if_pos (show x1 < d (x0 + 1 + 10) 0 from z1), if_pos (show x2 < 0 from z2)]
    have y1 : g_326 x0 x1 x2 x3 d = d := by simp only [g_326, if_neg (show ¬ x1 < 0 from Int.not_lt.mpr z0), if_pos (show x1 < d (x0 + 1 + 10) 0 from z1), if_pos (show x2 < 0 from z2)]
    rw [y0] at h
    rw [y1] at h
    exact h (show 0 ≤ ((1 : Int)) ∧ ((1 : Int)) ≤ 3 from (by omega)) (show ∀ b : Int, (b < x0 + 9 ∨ x0 + 10 < b) ∧ (b < x0 + 50 ∨ x0 + 57 < b) ∧ (b < x0 + 64 ∨ x0 + 64 < b) ∧ (b < x0 + 66 ∨ x0 + 569 < b) ∧ (b < x3 ∨ x3 < b) → d b = d b from fun _ _ => rfl) hS
  · refine t_326_8 ?_
    refine ⟨m_inR (by omega) (by omega), by omega, ?_⟩
    have hS2 : Safe (mset (g_61 (x0 + 1) x1 x2 (g_2 (x0 + 64) (x0 + 1) d)) x3 0 (v_61 (x0 + 1) x1 x2 (g_2 (x0 + 64) (x0 + 1) d))) := s_ou hS1 hx3
    have y0 : v_326 x0 x1 x2 x3 d = 0 := by simp only [v_326, if_neg (show ¬ x1 < 0 from Int.not_lt.mpr z0), if_pos (show x1 < d (x0 + 1 + 10) 0 from z1), if_neg (show ¬ x2 < 0 from Int.not_lt.mpr z2), if_pos (show x2 < d (x0 + 1 + 2) 0 from z3), if_neg (show ¬ v_60 (x0 + 1) x1 x2 d = 0 from z4)]
    have y1 : g_326 x0 x1 x2 x3 d = mset (g_61 (x0 + 1) x1 x2 (g_2 (x0 + 64) (x0 + 1) d)) x3 0 (v_61 (x0 + 1) x1 x2 (g_2 (x0 + 64) (x0 + 1) d)) := by simp only [g_326, if_neg (show ¬ x1 < 0 from Int.not_lt.mpr z0), if_pos (show x1 < d (x0 + 1 + 10) 0 from z1), if_neg (show ¬ x2 < 0 from Int.not_lt.mpr z2), if_pos (show x2 < d (x0 + 1 + 2) 0 from z3), if_neg (show ¬ v_60 (x0 + 1) x1 x2 d = 0 from z4)]
    rw [y0] at h
    rw [y1] at h
    exact h (show 0 ≤ ((0 : Int)) ∧ ((0 : Int)) ≤ 3 from (by omega)) (show ∀ b : Int, (b < x0 + 9 ∨ x0 + 10 < b) ∧ (b < x0 + 50 ∨ x0 + 57 < b) ∧ (b < x0 + 64 ∨ x0 + 64 < b) ∧ (b < x0 + 66 ∨ x0 + 569 < b) ∧ (b < x3 ∨ x3 < b) → (mset (g_61 (x0 + 1) x1 x2 (g_2 (x0 + 64) (x0 + 1) d)) x3 0 (v_61 (x0 + 1) x1 x2 (g_2 (x0 + 64) (x0 + 1) d))) b = d b from fun b hb => (mset_ne (by omega)).trans (F1 b (by omega))) hS2
  · have y0 : v_326 x0 x1 x2 x3 d = 2 := by simp only [v_326, if_neg (show ¬ x1 < 0 from Int.not_lt.mpr z0), if_pos (show x1 < d (x0 + 1 + 10) 0 from z1), if_neg (show ¬ x2 < 0 from Int.not_lt.mpr z2), if_pos (show x2 < d (x0 + 1 + 2) 0 from z3), if_pos (show v_60 (x0 + 1) x1 x2 d = 0 from z4)]
    have y1 : g_326 x0 x1 x2 x3 d = d := by simp only [g_326, if_neg (show ¬ x1 < 0 from Int.not_lt.mpr z0), if_pos (show x1 < d (x0 + 1 + 10) 0 from z1), if_neg (show ¬ x2 < 0 from Int.not_lt.mpr z2), if_pos (show x2 < d (x0 + 1 + 2) 0 from z3), if_pos (show v_60 (x0 + 1) x1 x2 d = 0 from z4)]
    rw [y0] at h
    rw [y1] at h
    exact h (show 0 ≤ ((2 : Int)) ∧ ((2 : Int)) ≤ 3 from (by omega)) (show ∀ b : Int, (b < x0 + 9 ∨ x0 + 10 < b) ∧ (b < x0 + 50 ∨ x0 + 57 < b) ∧ (b < x0 + 64 ∨ x0 + 64 < b) ∧ (b < x0 + 66 ∨ x0 + 569 < b) ∧ (b < x3 ∨ x3 < b) → d b = d b from fun _ _ => rfl) hS
  · have y0 : v_326 x0 x1 x2 x3 d = 1 := by simp only [v_326, if_neg (show ¬ x1 < 0 from Int.not_lt.mpr z0), if_pos (show x1 < d (x0 + 1 + 10) 0 from z1), if_neg (show ¬ x2 < 0 from Int.not_lt.mpr z2), if_neg (show ¬ x2 < d (x0 + 1 + 2) 0 from Int.not_lt.mpr z3)]
    have y1 : g_326 x0 x1 x2 x3 d = d := by simp only [g_326, if_neg (show ¬ x1 < 0 from Int.not_lt.mpr z0), if_pos (show x1 < d (x0 + 1 + 10) 0 from z1), if_neg (show ¬ x2 < 0 from Int.not_lt.mpr z2), if_neg (show ¬ x2 < d (x0 + 1 + 2) 0 from Int.not_lt.mpr z3)]
    rw [y0] at h
    rw [y1] at h
    exact h (show 0 ≤ ((1 : Int)) ∧ ((1 : Int)) ≤ 3 from (by omega)) (show ∀ b : Int, (b < x0 + 9 ∨ x0 + 10 < b) ∧ (b < x0 + 50 ∨ x0 + 57 < b) ∧ (b < x0 + 64 ∨ x0 + 64 < b) ∧ (b < x0 + 66 ∨ x0 + 569 < b) ∧ (b < x3 ∨ x3 < b) → d b = d b from fun _ _ => rfl) hS
  · have y0 : v_326 x0 x1 x2 x3 d = 1 := by simp only [v_326, if_neg (show ¬ x1 < 0 from Int.not_lt.mpr z0), if_neg (show ¬ x1 < d (x0 + 1 + 10) 0 from Int.not_lt.mpr z1)]
    have y1 : g_326 x0 x1 x2 x3 d = d := by simp only [g_326, if_neg (show ¬ x1 < 0 from Int.not_lt.mpr z0), if_neg (show ¬ x1 < d (x0 + 1 + 10) 0 from Int.not_lt.mpr z1)]
    rw [y0] at h
    rw [y1] at h
    exact h (show 0 ≤ ((1 : Int)) ∧ ((1 : Int)) ≤ 3 from (by omega)) (show ∀ b : Int, (b < x0 + 9 ∨ x0 + 10 < b) ∧ (b < x0 + 50 ∨ x0 + 57 < b) ∧ (b < x0 + 64 ∨ x0 + 64 < b) ∧ (b < x0 + 66 ∨ x0 + 569 < b) ∧ (b < x3 ∨ x3 < b) → d b = d b from fun _ _ => rfl) hS
def v_327 (x0 x1 x2 : Int) (d : mD) : Int := if x1 < 0 then 1 else if x1 < d (x0 + 1 + 49) 0 then (if d (x0 + 1 + 49 + 5) x1 = 0 then 0 else 2) else 1
def g_327 (x0 x1 x2 : Int) (d : mD) : mD := if x1 < 0 then d else if x1 < d (x0 + 1 + 49) 0 then (if d (x0 + 1 + 49 + 5) x1 = 0 then mset (g_97 (x0 + 1 + 49) x1 2 (d (x0 + 1) 2) (g_41 (x0 + 1 + 2) (d (x0 + 1 + 49 + 2) x1) (v_39 (x0 + 1 + 2) (d (x0 + 1 + 49 + 2) x1) x1 (g_2 (x0 + 64) (x0 + 1) d)) (g_2 (x0 + 64) (x0 + 1) d))) x2 0 ((d (x0 + 1) 2) - (d (x0 + 1 + 49 + 3) x1)) else d) else d
theorem k_327 {E : mO × tW} {K : tK} {d : mD} {x0 x1 x2 : Int} (hS : Safe d) (hx0 : wbB x0) (hx2 : ouB x2) (p1 : -2147483648 ≤ x1 ∧ x1 ≤ 2147483647) (h : (0 ≤ (v_327 x0 x1 x2 d) ∧ (v_327 x0 x1 x2 d) ≤ 3) → (∀ b : Int, (b < x0 + 9 ∨ x0 + 10 < b) ∧ (b < x0 + 54 ∨ x0 + 55 < b) ∧ (b < x0 + 64 ∨ x0 + 64 < b) ∧ (b < x0 + 66 ∨ x0 + 569 < b) ∧ (b < x2 ∨ x2 < b) → (g_327 x0 x1 x2 d) b = d b) → Safe (g_327 x0 x1 x2 d) → K (.inl (some (0, (v_327 x0 x1 x2 d)))) (g_327 x0 x1 x2 d)) : tCall E 327 [.inr (10, x0), .inl (0, x1), .inr (30, x2)] d K := by
  refine t_327_0 ?_
  refine k_151 hS hx0 (m_inR (by omega) (by omega)) (fun z0 => ?_) (fun z0 z1 z2 e1 F1 hS1 => ?_) (fun z0 z1 z2 => ?_) (fun z0 z1 => ?_)
  · have y0 : v_327 x0 x1 x2 d = 1 := by simp only [v_327, if_pos (show x1 < 0 from z0)]
    have y1 : g_327 x0 x1 x2 d = d := by simp only [g_327, if_pos (show x1 < 0 from z0)]
    rw [y0] at h
    rw [y1] at h
    exact h (show 0 ≤ ((1 : Int)) ∧ ((1 : Int)) ≤ 3 from (by omega)) (show ∀ b : Int, (b < x0 + 9 ∨ x0 + 10 < b) ∧ (b < x0 + 54 ∨ x0 + 55 < b) ∧ (b < x0 + 64 ∨ x0 + 64 < b) ∧ (b < x0 + 66 ∨ x0 + 569 < b) ∧ (b < x2 ∨ x2 < b) → d b = d b from fun _ _ => rfl) hS
  · refine t_327_7 ?_
    refine ⟨m_inR (by omega) (by omega), by omega, ?_⟩
    have hS2 : Safe (mset (g_97 (x0 + 1 + 49) x1 2 (d (x0 + 1) 2) (g_41 (x0 + 1 + 2) (d (x0 + 1 + 49 + 2) x1) (v_39 (x0 + 1 + 2) (d (x0 + 1 + 49 + 2) x1) x1 (g_2 (x0 + 64) (x0 + 1) d)) (g_2 (x0 + 64) (x0 + 1) d))) x2 0 ((d (x0 + 1) 2) - (d (x0 + 1 + 49 + 3) x1))) := s_ou hS1 hx2
    have y0 : v_327 x0 x1 x2 d = 0 := by simp only [v_327, if_neg (show ¬ x1 < 0 from Int.not_lt.mpr z0), if_pos (show x1 < d (x0 + 1 + 49) 0 from z1), if_pos (show d (x0 + 1 + 49 + 5) x1 = 0 from z2)]
    have y1 : g_327 x0 x1 x2 d = mset (g_97 (x0 + 1 + 49) x1 2 (d (x0 + 1) 2) (g_41 (x0 + 1 + 2) (d (x0 + 1 + 49 + 2) x1) (v_39 (x0 + 1 + 2) (d (x0 + 1 + 49 + 2) x1) x1 (g_2 (x0 + 64) (x0 + 1) d)) (g_2 (x0 + 64) (x0 + 1) d))) x2 0 ((d (x0 + 1) 2) - (d (x0 + 1 + 49 + 3) x1)) := by simp only [g_327, if_neg (show ¬ x1 < 0 from Int.not_lt.mpr z0), if_pos (show x1 < d (x0 + 1 + 49) 0 from z1), if_pos (show d (x0 + 1 + 49 + 5) x1 = 0 from z2)]
    rw [y0] at h
    rw [y1] at h
    exact h (show 0 ≤ ((0 : Int)) ∧ ((0 : Int)) ≤ 3 from (by omega)) (show ∀ b : Int, (b < x0 + 9 ∨ x0 + 10 < b) ∧ (b < x0 + 54 ∨ x0 + 55 < b) ∧ (b < x0 + 64 ∨ x0 + 64 < b) ∧ (b < x0 + 66 ∨ x0 + 569 < b) ∧ (b < x2 ∨ x2 < b) → (mset (g_97 (x0 + 1 + 49) x1 2 (d (x0 + 1) 2) (g_41 (x0 + 1 + 2) (d (x0 + 1 + 49 + 2) x1) (v_39 (x0 + 1 + 2) (d (x0 + 1 + 49 + 2) x1) x1 (g_2 (x0 + 64) (x0 + 1) d)) (g_2 (x0 + 64) (x0 + 1) d))) x2 0 ((d (x0 + 1) 2) - (d (x0 + 1 + 49 + 3) x1))) b = d b from fun b hb => (mset_ne (by omega)).trans (F1 b (by omega))) hS2
  · have y0 : v_327 x0 x1 x2 d = 2 := by simp only [v_327, if_neg (show ¬ x1 < 0 from Int.not_lt.mpr z0), if_pos (show x1 < d (x0 + 1 + 49) 0 from z1), if_neg (show ¬ d (x0 + 1 + 49 + 5) x1 = 0 from z2)]
    have y1 : g_327 x0 x1 x2 d = d := by simp only [g_327, if_neg (show ¬ x1 < 0 from Int.not_lt.mpr z0), if_pos (show x1 < d (x0 + 1 + 49) 0 from z1), if_neg (show ¬ d (x0 + 1 + 49 + 5) x1 = 0 from z2)]
    rw [y0] at h
    rw [y1] at h
    exact h (show 0 ≤ ((2 : Int)) ∧ ((2 : Int)) ≤ 3 from (by omega)) (show ∀ b : Int, (b < x0 + 9 ∨ x0 + 10 < b) ∧ (b < x0 + 54 ∨ x0 + 55 < b) ∧ (b < x0 + 64 ∨ x0 + 64 < b) ∧ (b < x0 + 66 ∨ x0 + 569 < b) ∧ (b < x2 ∨ x2 < b) → d b = d b from fun _ _ => rfl) hS
  · have y0 : v_327 x0 x1 x2 d = 1 := by simp only [v_327, if_neg (show ¬ x1 < 0 from Int.not_lt.mpr z0), if_neg (show ¬ x1 < d (x0 + 1 + 49) 0 from Int.not_lt.mpr z1)]
    have y1 : g_327 x0 x1 x2 d = d := by simp only [g_327, if_neg (show ¬ x1 < 0 from Int.not_lt.mpr z0), if_neg (show ¬ x1 < d (x0 + 1 + 49) 0 from Int.not_lt.mpr z1)]
    rw [y0] at h
    rw [y1] at h
    exact h (show 0 ≤ ((1 : Int)) ∧ ((1 : Int)) ≤ 3 from (by omega)) (show ∀ b : Int, (b < x0 + 9 ∨ x0 + 10 < b) ∧ (b < x0 + 54 ∨ x0 + 55 < b) ∧ (b < x0 + 64 ∨ x0 + 64 < b) ∧ (b < x0 + 66 ∨ x0 + 569 < b) ∧ (b < x2 ∨ x2 < b) → d b = d b from fun _ _ => rfl) hS
def v_328 (x0 x1 x2 : Int) (d : mD) : Int := if x1 < 1 then 1 else if (99 : Int) < x1 then 1 else if v_67 (x0 + 1) x1 d = 0 then 2 else 0
def g_328 (x0 x1 x2 : Int) (d : mD) : mD := if x1 < 1 then d else if (99 : Int) < x1 then d else if v_67 (x0 + 1) x1 d = 0 then d else mset (g_68 (x0 + 1) x1 (g_2 (x0 + 64) (x0 + 1) d)) x2 0 (v_68 (x0 + 1) x1 (g_2 (x0 + 64) (x0 + 1) d))
theorem k_328 {E : mO × tW} {K : tK} {d : mD} {x0 x1 x2 : Int} (hS : Safe d) (hx0 : wbB x0) (hx2 : ouB x2) (p1 : -2147483648 ≤ x1 ∧ x1 ≤ 2147483647) (h : (0 ≤ (v_328 x0 x1 x2 d) ∧ (v_328 x0 x1 x2 d) ≤ 3) → (∀ b : Int, (b < x0 + 1 ∨ x0 + 1 < b) ∧ (b < x0 + 9 ∨ x0 + 10 < b) ∧ (b < x0 + 13 ∨ x0 + 16 < b) ∧ (b < x0 + 19 ∨ x0 + 49 < b) ∧ (b < x0 + 54 ∨ x0 + 55 < b) ∧ (b < x0 + 58 ∨ x0 + 64 < b) ∧ (b < x0 + 66 ∨ x0 + 569 < b) ∧ (b < x2 ∨ x2 < b) → (g_328 x0 x1 x2 d) b = d b) → Safe (g_328 x0 x1 x2 d) → K (.inl (some (0, (v_328 x0 x1 x2 d)))) (g_328 x0 x1 x2 d)) : tCall E 328 [.inr (10, x0), .inl (0, x1), .inr (30, x2)] d K := by
  refine t_328_0 ?_
  refine k_152 hS hx0 (m_inR (by omega) (by omega)) (fun z0 => ?_) (fun z0 z1 z2 e1 F1 hS1 => ?_) (fun z0 z1 z2 => ?_) (fun z0 z1 => ?_)
  · have y0 : v_328 x0 x1 x2 d = 1 := by simp only [v_328, if_pos (show x1 < 1 from z0)]
    have y1 : g_328 x0 x1 x2 d = d := by simp only [g_328, if_pos (show x1 < 1 from z0)]
    rw [y0] at h
    rw [y1] at h
    exact h (show 0 ≤ ((1 : Int)) ∧ ((1 : Int)) ≤ 3 from (by omega)) (show ∀ b : Int, (b < x0 + 1 ∨ x0 + 1 < b) ∧ (b < x0 + 9 ∨ x0 + 10 < b) ∧ (b < x0 + 13 ∨ x0 + 16 < b) ∧ (b < x0 + 19 ∨ x0 + 49 < b) ∧ (b < x0 + 54 ∨ x0 + 55 < b) ∧ (b < x0 + 58 ∨ x0 + 64 < b) ∧ (b < x0 + 66 ∨ x0 + 569 < b) ∧ (b < x2 ∨ x2 < b) → d b = d b from fun _ _ => rfl) hS
  · refine t_328_7 ?_
    refine ⟨m_inR (by omega) (by omega), by omega, ?_⟩
    have hS2 : Safe (mset (g_68 (x0 + 1) x1 (g_2 (x0 + 64) (x0 + 1) d)) x2 0 (v_68 (x0 + 1) x1 (g_2 (x0 + 64) (x0 + 1) d))) := s_ou hS1 hx2
    have y0 : v_328 x0 x1 x2 d = 0 := by simp only [v_328, if_neg (show ¬ x1 < 1 from Int.not_lt.mpr z0), if_neg (show ¬ (99 : Int) < x1 from Int.not_lt.mpr z1), if_neg (show ¬ v_67 (x0 + 1) x1 d = 0 from z2)]
    have y1 : g_328 x0 x1 x2 d = mset (g_68 (x0 + 1) x1 (g_2 (x0 + 64) (x0 + 1) d)) x2 0 (v_68 (x0 + 1) x1 (g_2 (x0 + 64) (x0 + 1) d)) := by simp only [g_328, if_neg (show ¬ x1 < 1 from Int.not_lt.mpr z0), if_neg (show ¬ (99 : Int) < x1 from Int.not_lt.mpr z1), if_neg (show ¬ v_67 (x0 + 1) x1 d = 0 from z2)]
    rw [y0] at h
    rw [y1] at h
    exact h (show 0 ≤ ((0 : Int)) ∧ ((0 : Int)) ≤ 3 from (by omega)) (show ∀ b : Int, (b < x0 + 1 ∨ x0 + 1 < b) ∧ (b < x0 + 9 ∨ x0 + 10 < b) ∧ (b < x0 + 13 ∨ x0 + 16 < b) ∧ (b < x0 + 19 ∨ x0 + 49 < b) ∧ (b < x0 + 54 ∨ x0 + 55 < b) ∧ (b < x0 + 58 ∨ x0 + 64 < b) ∧ (b < x0 + 66 ∨ x0 + 569 < b) ∧ (b < x2 ∨ x2 < b) → (mset (g_68 (x0 + 1) x1 (g_2 (x0 + 64) (x0 + 1) d)) x2 0 (v_68 (x0 + 1) x1 (g_2 (x0 + 64) (x0 + 1) d))) b = d b from fun b hb => (mset_ne (by omega)).trans (F1 b (by omega))) hS2
  · have y0 : v_328 x0 x1 x2 d = 2 := by simp only [v_328, if_neg (show ¬ x1 < 1 from Int.not_lt.mpr z0), if_neg (show ¬ (99 : Int) < x1 from Int.not_lt.mpr z1), if_pos (show v_67 (x0 + 1) x1 d = 0 from z2)]
    have y1 : g_328 x0 x1 x2 d = d := by simp only [g_328, if_neg (show ¬ x1 < 1 from Int.not_lt.mpr z0), if_neg (show ¬ (99 : Int) < x1 from Int.not_lt.mpr z1), if_pos (show v_67 (x0 + 1) x1 d = 0 from z2)]
    rw [y0] at h
    rw [y1] at h
    exact h (show 0 ≤ ((2 : Int)) ∧ ((2 : Int)) ≤ 3 from (by omega)) (show ∀ b : Int, (b < x0 + 1 ∨ x0 + 1 < b) ∧ (b < x0 + 9 ∨ x0 + 10 < b) ∧ (b < x0 + 13 ∨ x0 + 16 < b) ∧ (b < x0 + 19 ∨ x0 + 49 < b) ∧ (b < x0 + 54 ∨ x0 + 55 < b) ∧ (b < x0 + 58 ∨ x0 + 64 < b) ∧ (b < x0 + 66 ∨ x0 + 569 < b) ∧ (b < x2 ∨ x2 < b) → d b = d b from fun _ _ => rfl) hS
  · have y0 : v_328 x0 x1 x2 d = 1 := by simp only [v_328, if_neg (show ¬ x1 < 1 from Int.not_lt.mpr z0), if_pos (show (99 : Int) < x1 from z1)]
    have y1 : g_328 x0 x1 x2 d = d := by simp only [g_328, if_neg (show ¬ x1 < 1 from Int.not_lt.mpr z0), if_pos (show (99 : Int) < x1 from z1)]
    rw [y0] at h
    rw [y1] at h
    exact h (show 0 ≤ ((1 : Int)) ∧ ((1 : Int)) ≤ 3 from (by omega)) (show ∀ b : Int, (b < x0 + 1 ∨ x0 + 1 < b) ∧ (b < x0 + 9 ∨ x0 + 10 < b) ∧ (b < x0 + 13 ∨ x0 + 16 < b) ∧ (b < x0 + 19 ∨ x0 + 49 < b) ∧ (b < x0 + 54 ∨ x0 + 55 < b) ∧ (b < x0 + 58 ∨ x0 + 64 < b) ∧ (b < x0 + 66 ∨ x0 + 569 < b) ∧ (b < x2 ∨ x2 < b) → d b = d b from fun _ _ => rfl) hS
def v_329 (x0 x1 x2 : Int) (d : mD) : Int := if x1 < 0 then 1 else if x1 < d (x0 + 1 + 49) 0 then (if v_73 (x0 + 1) x1 d = 0 then 2 else 0) else 1
def g_329 (x0 x1 x2 : Int) (d : mD) : mD := if x1 < 0 then d else if x1 < d (x0 + 1 + 49) 0 then (if v_73 (x0 + 1) x1 d = 0 then d else mset (g_74 (x0 + 1) x1 (g_2 (x0 + 64) (x0 + 1) d)) x2 0 (v_74 (x0 + 1) x1 (g_2 (x0 + 64) (x0 + 1) d))) else d
theorem k_329 {E : mO × tW} {K : tK} {d : mD} {x0 x1 x2 : Int} (hS : Safe d) (hx0 : wbB x0) (hx2 : ouB x2) (p1 : -2147483648 ≤ x1 ∧ x1 ≤ 2147483647) (h : (0 ≤ (v_329 x0 x1 x2 d) ∧ (v_329 x0 x1 x2 d) ≤ 3) → (∀ b : Int, (b < x0 + 14 ∨ x0 + 14 < b) ∧ (b < x0 + 19 ∨ x0 + 49 < b) ∧ (b < x0 + 56 ∨ x0 + 56 < b) ∧ (b < x0 + 58 ∨ x0 + 62 < b) ∧ (b < x0 + 64 ∨ x0 + 64 < b) ∧ (b < x0 + 66 ∨ x0 + 569 < b) ∧ (b < x2 ∨ x2 < b) → (g_329 x0 x1 x2 d) b = d b) → Safe (g_329 x0 x1 x2 d) → K (.inl (some (0, (v_329 x0 x1 x2 d)))) (g_329 x0 x1 x2 d)) : tCall E 329 [.inr (10, x0), .inl (0, x1), .inr (30, x2)] d K := by
  refine t_329_0 ?_
  refine k_153 hS hx0 (m_inR (by omega) (by omega)) (fun z0 => ?_) (fun z0 z1 z2 e1 F1 hS1 => ?_) (fun z0 z1 z2 => ?_) (fun z0 z1 => ?_)
  · have y0 : v_329 x0 x1 x2 d = 1 := by simp only [v_329, if_pos (show x1 < 0 from z0)]
    have y1 : g_329 x0 x1 x2 d = d := by simp only [g_329, if_pos (show x1 < 0 from z0)]
    rw [y0] at h
    rw [y1] at h
    exact h (show 0 ≤ ((1 : Int)) ∧ ((1 : Int)) ≤ 3 from (by omega)) (show ∀ b : Int, (b < x0 + 14 ∨ x0 + 14 < b) ∧ (b < x0 + 19 ∨ x0 + 49 < b) ∧ (b < x0 + 56 ∨ x0 + 56 < b) ∧ (b < x0 + 58 ∨ x0 + 62 < b) ∧ (b < x0 + 64 ∨ x0 + 64 < b) ∧ (b < x0 + 66 ∨ x0 + 569 < b) ∧ (b < x2 ∨ x2 < b) → d b = d b from fun _ _ => rfl) hS
  · refine t_329_7 ?_
    refine ⟨m_inR (by omega) (by omega), by omega, ?_⟩
    have hS2 : Safe (mset (g_74 (x0 + 1) x1 (g_2 (x0 + 64) (x0 + 1) d)) x2 0 (v_74 (x0 + 1) x1 (g_2 (x0 + 64) (x0 + 1) d))) := s_ou hS1 hx2
    have y0 : v_329 x0 x1 x2 d = 0 := by simp only [v_329, if_neg (show ¬ x1 < 0 from Int.not_lt.mpr z0), if_pos (show x1 < d (x0 + 1 + 49) 0 from z1), if_neg (show ¬ v_73 (x0 + 1) x1 d = 0 from z2)]
    have y1 : g_329 x0 x1 x2 d = mset (g_74 (x0 + 1) x1 (g_2 (x0 + 64) (x0 + 1) d)) x2 0 (v_74 (x0 + 1) x1 (g_2 (x0 + 64) (x0 + 1) d)) := by simp only [g_329, if_neg (show ¬ x1 < 0 from Int.not_lt.mpr z0), if_pos (show x1 < d (x0 + 1 + 49) 0 from z1), if_neg (show ¬ v_73 (x0 + 1) x1 d = 0 from z2)]
    rw [y0] at h
    rw [y1] at h
    exact h (show 0 ≤ ((0 : Int)) ∧ ((0 : Int)) ≤ 3 from (by omega)) (show ∀ b : Int, (b < x0 + 14 ∨ x0 + 14 < b) ∧ (b < x0 + 19 ∨ x0 + 49 < b) ∧ (b < x0 + 56 ∨ x0 + 56 < b) ∧ (b < x0 + 58 ∨ x0 + 62 < b) ∧ (b < x0 + 64 ∨ x0 + 64 < b) ∧ (b < x0 + 66 ∨ x0 + 569 < b) ∧ (b < x2 ∨ x2 < b) → (mset (g_74 (x0 + 1) x1 (g_2 (x0 + 64) (x0 + 1) d)) x2 0 (v_74 (x0 + 1) x1 (g_2 (x0 + 64) (x0 + 1) d))) b = d b from fun b hb => (mset_ne (by omega)).trans (F1 b (by omega))) hS2
  · have y0 : v_329 x0 x1 x2 d = 2 := by simp only [v_329, if_neg (show ¬ x1 < 0 from Int.not_lt.mpr z0), if_pos (show x1 < d (x0 + 1 + 49) 0 from z1), if_pos (show v_73 (x0 + 1) x1 d = 0 from z2)]
    have y1 : g_329 x0 x1 x2 d = d := by simp only [g_329, if_neg (show ¬ x1 < 0 from Int.not_lt.mpr z0), if_pos (show x1 < d (x0 + 1 + 49) 0 from z1), if_pos (show v_73 (x0 + 1) x1 d = 0 from z2)]
    rw [y0] at h
    rw [y1] at h
    exact h (show 0 ≤ ((2 : Int)) ∧ ((2 : Int)) ≤ 3 from (by omega)) (show ∀ b : Int, (b < x0 + 14 ∨ x0 + 14 < b) ∧ (b < x0 + 19 ∨ x0 + 49 < b) ∧ (b < x0 + 56 ∨ x0 + 56 < b) ∧ (b < x0 + 58 ∨ x0 + 62 < b) ∧ (b < x0 + 64 ∨ x0 + 64 < b) ∧ (b < x0 + 66 ∨ x0 + 569 < b) ∧ (b < x2 ∨ x2 < b) → d b = d b from fun _ _ => rfl) hS
  · have y0 : v_329 x0 x1 x2 d = 1 := by simp only [v_329, if_neg (show ¬ x1 < 0 from Int.not_lt.mpr z0), if_neg (show ¬ x1 < d (x0 + 1 + 49) 0 from Int.not_lt.mpr z1)]
    have y1 : g_329 x0 x1 x2 d = d := by simp only [g_329, if_neg (show ¬ x1 < 0 from Int.not_lt.mpr z0), if_neg (show ¬ x1 < d (x0 + 1 + 49) 0 from Int.not_lt.mpr z1)]
    rw [y0] at h
    rw [y1] at h
    exact h (show 0 ≤ ((1 : Int)) ∧ ((1 : Int)) ≤ 3 from (by omega)) (show ∀ b : Int, (b < x0 + 14 ∨ x0 + 14 < b) ∧ (b < x0 + 19 ∨ x0 + 49 < b) ∧ (b < x0 + 56 ∨ x0 + 56 < b) ∧ (b < x0 + 58 ∨ x0 + 62 < b) ∧ (b < x0 + 64 ∨ x0 + 64 < b) ∧ (b < x0 + 66 ∨ x0 + 569 < b) ∧ (b < x2 ∨ x2 < b) → d b = d b from fun _ _ => rfl) hS
def v_330 (x0 x1 x2 x3 : Int) (d : mD) : Int := if x1 < 0 then 1 else if x1 < d (x0 + 1 + 49) 0 then (if x2 < 0 then 1 else if x2 < d (x0 + 1 + 10) 0 then (if v_77 (x0 + 1) x1 x2 d = 0 then 0 else 2) else 1) else 1
def g_330 (x0 x1 x2 x3 : Int) (d : mD) : mD := if x1 < 0 then d else if x1 < d (x0 + 1 + 49) 0 then (if x2 < 0 then d else if x2 < d (x0 + 1 + 10) 0 then (if v_77 (x0 + 1) x1 x2 d = 0 then mset (g_75 (x0 + 1) x1 x2 (g_2 (x0 + 64) (x0 + 1) d)) x3 0 (v_75 (x0 + 1) x1 x2 (g_2 (x0 + 64) (x0 + 1) d)) else d) else d) else d
theorem k_330 {E : mO × tW} {K : tK} {d : mD} {x0 x1 x2 x3 : Int} (hS : Safe d) (hx0 : wbB x0) (hx3 : ouB x3) (p1 : -2147483648 ≤ x1 ∧ x1 ≤ 2147483647) (p2 : -2147483648 ≤ x2 ∧ x2 ≤ 2147483647) (h : (0 ≤ (v_330 x0 x1 x2 x3 d) ∧ (v_330 x0 x1 x2 x3 d) ≤ 3) → (∀ b : Int, (b < x0 + 14 ∨ x0 + 16 < b) ∧ (b < x0 + 19 ∨ x0 + 49 < b) ∧ (b < x0 + 56 ∨ x0 + 62 < b) ∧ (b < x0 + 64 ∨ x0 + 64 < b) ∧ (b < x0 + 66 ∨ x0 + 569 < b) ∧ (b < x3 ∨ x3 < b) → (g_330 x0 x1 x2 x3 d) b = d b) → Safe (g_330 x0 x1 x2 x3 d) → K (.inl (some (0, (v_330 x0 x1 x2 x3 d)))) (g_330 x0 x1 x2 x3 d)) : tCall E 330 [.inr (10, x0), .inl (0, x1), .inl (0, x2), .inr (30, x3)] d K := by
  refine t_330_0 ?_
  refine k_154 hS hx0 (m_inR (by omega) (by omega)) (m_inR (by omega) (by omega)) (fun z0 => ?_) (fun z0 z1 z2 => ?_) (fun z0 z1 z2 z3 z4 e1 F1 hS1 => ?_) (fun z0 z1 z2 z3 z4 => ?_) (fun z0 z1 z2 z3 => ?_) (fun z0 z1 => ?_)
  · have y0 : v_330 x0 x1 x2 x3 d = 1 := by simp only [v_330, if_pos (show x1 < 0 from z0)]
    have y1 : g_330 x0 x1 x2 x3 d = d := by simp only [g_330, if_pos (show x1 < 0 from z0)]
    rw [y0] at h
    rw [y1] at h
    exact h (show 0 ≤ ((1 : Int)) ∧ ((1 : Int)) ≤ 3 from (by omega)) (show ∀ b : Int, (b < x0 + 14 ∨ x0 + 16 < b) ∧ (b < x0 + 19 ∨ x0 + 49 < b) ∧ (b < x0 + 56 ∨ x0 + 62 < b) ∧ (b < x0 + 64 ∨ x0 + 64 < b) ∧ (b < x0 + 66 ∨ x0 + 569 < b) ∧ (b < x3 ∨ x3 < b) → d b = d b from fun _ _ => rfl) hS
  · have y0 : v_330 x0 x1 x2 x3 d = 1 := by simp only [v_330, if_neg (show ¬ x1 < 0 from Int.not_lt.mpr z0), if_pos (show x1 < d (x0 + 1 + 49) 0 from z1), if_pos (show x2 < 0 from z2)]
    have y1 : g_330 x0 x1 x2 x3 d = d := by simp only [g_330, if_neg (show ¬ x1 < 0 from Int.not_lt.mpr z0), if_pos (show x1 < d (x0 + 1 + 49) 0 from z1), if_pos (show x2 < 0 from z2)]
    rw [y0] at h
    rw [y1] at h
    exact h (show 0 ≤ ((1 : Int)) ∧ ((1 : Int)) ≤ 3 from (by omega)) (show ∀ b : Int, (b < x0 + 14 ∨ x0 + 16 < b) ∧ (b < x0 + 19 ∨ x0 + 49 < b) ∧ (b < x0 + 56 ∨ x0 + 62 < b) ∧ (b < x0 + 64 ∨ x0 + 64 < b) ∧ (b < x0 + 66 ∨ x0 + 569 < b) ∧ (b < x3 ∨ x3 < b) → d b = d b from fun _ _ => rfl) hS
  · refine t_330_8 ?_
    refine ⟨m_inR (by omega) (by omega), by omega, ?_⟩
    have hS2 : Safe (mset (g_75 (x0 + 1) x1 x2 (g_2 (x0 + 64) (x0 + 1) d)) x3 0 (v_75 (x0 + 1) x1 x2 (g_2 (x0 + 64) (x0 + 1) d))) := s_ou hS1 hx3
    have y0 : v_330 x0 x1 x2 x3 d = 0 := by simp only [v_330, if_neg (show ¬ x1 < 0 from Int.not_lt.mpr z0), if_pos (show x1 < d (x0 + 1 + 49) 0 from z1), if_neg (show ¬ x2 < 0 from Int.not_lt.mpr z2), if_pos (show x2 < d (x0 + 1 + 10) 0 from z3), if_pos (show v_77 (x0 + 1) x1 x2 d = 0 from z4)]
    have y1 : g_330 x0 x1 x2 x3 d = mset (g_75 (x0 + 1) x1 x2 (g_2 (x0 + 64) (x0 + 1) d)) x3 0 (v_75 (x0 + 1) x1 x2 (g_2 (x0 + 64) (x0 + 1) d)) := by simp only [g_330, if_neg (show ¬ x1 < 0 from Int.not_lt.mpr z0), if_pos (show x1 < d (x0 + 1 + 49) 0 from z1), if_neg (show ¬ x2 < 0 from Int.not_lt.mpr z2), if_pos (show x2 < d (x0 + 1 + 10) 0 from z3), if_pos (show v_77 (x0 + 1) x1 x2 d = 0 from z4)]
    rw [y0] at h
    rw [y1] at h
    exact h (show 0 ≤ ((0 : Int)) ∧ ((0 : Int)) ≤ 3 from (by omega)) (show ∀ b : Int, (b < x0 + 14 ∨ x0 + 16 < b) ∧ (b < x0 + 19 ∨ x0 + 49 < b) ∧ (b < x0 + 56 ∨ x0 + 62 < b) ∧ (b < x0 + 64 ∨ x0 + 64 < b) ∧ (b < x0 + 66 ∨ x0 + 569 < b) ∧ (b < x3 ∨ x3 < b) → (mset (g_75 (x0 + 1) x1 x2 (g_2 (x0 + 64) (x0 + 1) d)) x3 0 (v_75 (x0 + 1) x1 x2 (g_2 (x0 + 64) (x0 + 1) d))) b = d b from fun b hb => (mset_ne (by omega)).trans (F1 b (by omega))) hS2
  · have y0 : v_330 x0 x1 x2 x3 d = 2 := by simp only [v_330, if_neg (show ¬ x1 < 0 from Int.not_lt.mpr z0), if_pos (show x1 < d (x0 + 1 + 49) 0 from z1), if_neg (show ¬ x2 < 0 from Int.not_lt.mpr z2), if_pos (show x2 < d (x0 + 1 + 10) 0 from z3), if_neg (show ¬ v_77 (x0 + 1) x1 x2 d = 0 from z4)]
    have y1 : g_330 x0 x1 x2 x3 d = d := by simp only [g_330, if_neg (show ¬ x1 < 0 from Int.not_lt.mpr z0), if_pos (show x1 < d (x0 + 1 + 49) 0 from z1), if_neg (show ¬ x2 < 0 from Int.not_lt.mpr z2), if_pos (show x2 < d (x0 + 1 + 10) 0 from z3), if_neg (show ¬ v_77 (x0 + 1) x1 x2 d = 0 from z4)]
    rw [y0] at h
    rw [y1] at h
    exact h (show 0 ≤ ((2 : Int)) ∧ ((2 : Int)) ≤ 3 from (by omega)) (show ∀ b : Int, (b < x0 + 14 ∨ x0 + 16 < b) ∧ (b < x0 + 19 ∨ x0 + 49 < b) ∧ (b < x0 + 56 ∨ x0 + 62 < b) ∧ (b < x0 + 64 ∨ x0 + 64 < b) ∧ (b < x0 + 66 ∨ x0 + 569 < b) ∧ (b < x3 ∨ x3 < b) → d b = d b from fun _ _ => rfl) hS
  · have y0 : v_330 x0 x1 x2 x3 d = 1 := by simp only [v_330, if_neg (show ¬ x1 < 0 from Int.not_lt.mpr z0), if_pos (show x1 < d (x0 + 1 + 49) 0 from z1), if_neg (show ¬ x2 < 0 from Int.not_lt.mpr z2), if_neg (show ¬ x2 < d (x0 + 1 + 10) 0 from Int.not_lt.mpr z3)]
    have y1 : g_330 x0 x1 x2 x3 d = d := by simp only [g_330, if_neg (show ¬ x1 < 0 from Int.not_lt.mpr z0), if_pos (show x1 < d (x0 + 1 + 49) 0 from z1), if_neg (show ¬ x2 < 0 from Int.not_lt.mpr z2), if_neg (show ¬ x2 < d (x0 + 1 + 10) 0 from Int.not_lt.mpr z3)]
    rw [y0] at h
    rw [y1] at h
    exact h (show 0 ≤ ((1 : Int)) ∧ ((1 : Int)) ≤ 3 from (by omega)) (show ∀ b : Int, (b < x0 + 14 ∨ x0 + 16 < b) ∧ (b < x0 + 19 ∨ x0 + 49 < b) ∧ (b < x0 + 56 ∨ x0 + 62 < b) ∧ (b < x0 + 64 ∨ x0 + 64 < b) ∧ (b < x0 + 66 ∨ x0 + 569 < b) ∧ (b < x3 ∨ x3 < b) → d b = d b from fun _ _ => rfl) hS
  · have y0 : v_330 x0 x1 x2 x3 d = 1 := by simp only [v_330, if_neg (show ¬ x1 < 0 from Int.not_lt.mpr z0), if_neg (show ¬ x1 < d (x0 + 1 + 49) 0 from Int.not_lt.mpr z1)]
    have y1 : g_330 x0 x1 x2 x3 d = d := by simp only [g_330, if_neg (show ¬ x1 < 0 from Int.not_lt.mpr z0), if_neg (show ¬ x1 < d (x0 + 1 + 49) 0 from Int.not_lt.mpr z1)]
    rw [y0] at h
    rw [y1] at h
    exact h (show 0 ≤ ((1 : Int)) ∧ ((1 : Int)) ≤ 3 from (by omega)) (show ∀ b : Int, (b < x0 + 14 ∨ x0 + 16 < b) ∧ (b < x0 + 19 ∨ x0 + 49 < b) ∧ (b < x0 + 56 ∨ x0 + 62 < b) ∧ (b < x0 + 64 ∨ x0 + 64 < b) ∧ (b < x0 + 66 ∨ x0 + 569 < b) ∧ (b < x3 ∨ x3 < b) → d b = d b from fun _ _ => rfl) hS
def v_331 (x0 x1 x2 x3 x4 : Int) (d : mD) : Int := if x1 < 0 then 1 else if x1 < d (x0 + 1 + 10) 0 then (if x2 < 0 then 1 else if x2 < d (x0 + 1 + 10) 0 then (if x3 < 1 then 2 else if (200 : Int) < x3 then 2 else if x1 = x2 then 3 else if v_111 (x0 + 1 + 57) x1 0 d < x3 then 3 else 0) else 1) else 1
def g_331 (x0 x1 x2 x3 x4 : Int) (d : mD) : mD := if x1 < 0 then d else if x1 < d (x0 + 1 + 10) 0 then (if x2 < 0 then d else if x2 < d (x0 + 1 + 10) 0 then (if x3 < 1 then d else if (200 : Int) < x3 then d else if x1 = x2 then d else if v_111 (x0 + 1 + 57) x1 0 d < x3 then d else mset (g_114 (x0 + 1 + 57) x1 x2 x3 (g_2 (x0 + 64) (x0 + 1) d)) x4 0 (v_111 (x0 + 1 + 57) x2 0 (g_114 (x0 + 1 + 57) x1 x2 x3 (g_2 (x0 + 64) (x0 + 1) d)))) else d) else d
theorem k_331 {E : mO × tW} {K : tK} {d : mD} {x0 x1 x2 x3 x4 : Int} (hS : Safe d) (hx0 : wbB x0) (hx4 : ouB x4) (p1 : -2147483648 ≤ x1 ∧ x1 ≤ 2147483647) (p2 : -2147483648 ≤ x2 ∧ x2 ≤ 2147483647) (p3 : -2147483648 ≤ x3 ∧ x3 ≤ 2147483647) (h : (0 ≤ (v_331 x0 x1 x2 x3 x4 d) ∧ (v_331 x0 x1 x2 x3 x4 d) ≤ 3) → (∀ b : Int, (b < x0 + 59 ∨ x0 + 59 < b) ∧ (b < x0 + 64 ∨ x0 + 64 < b) ∧ (b < x0 + 66 ∨ x0 + 569 < b) ∧ (b < x4 ∨ x4 < b) → (g_331 x0 x1 x2 x3 x4 d) b = d b) → Safe (g_331 x0 x1 x2 x3 x4 d) → K (.inl (some (0, (v_331 x0 x1 x2 x3 x4 d)))) (g_331 x0 x1 x2 x3 x4 d)) : tCall E 331 [.inr (10, x0), .inl (0, x1), .inl (0, x2), .inl (0, x3), .inr (30, x4)] d K := by
  refine t_331_0 ?_
  refine k_155 hS hx0 (m_inR (by omega) (by omega)) (m_inR (by omega) (by omega)) (m_inR (by omega) (by omega)) (fun z0 => ?_) (fun z0 z1 z2 => ?_) (fun z0 z1 z2 z3 z4 => ?_) (fun z0 z1 z2 z3 z4 z5 z6 => ?_) (fun z0 z1 z2 z3 z4 z5 z6 z7 e1 F1 hS1 => ?_) (fun z0 z1 z2 z3 z4 z5 z6 z7 => ?_) (fun z0 z1 z2 z3 z4 z5 => ?_) (fun z0 z1 z2 z3 => ?_) (fun z0 z1 => ?_)
  · have y0 : v_331 x0 x1 x2 x3 x4 d = 1 := by simp only [v_331, if_pos (show x1 < 0 from z0)]
    have y1 : g_331 x0 x1 x2 x3 x4 d = d := by simp only [g_331, if_pos (show x1 < 0 from z0)]
    rw [y0] at h
    rw [y1] at h
    exact h (show 0 ≤ ((1 : Int)) ∧ ((1 : Int)) ≤ 3 from (by omega)) (show ∀ b : Int, (b < x0 + 59 ∨ x0 + 59 < b) ∧ (b < x0 + 64 ∨ x0 + 64 < b) ∧ (b < x0 + 66 ∨ x0 + 569 < b) ∧ (b < x4 ∨ x4 < b) → d b = d b from fun _ _ => rfl) hS
  · have y0 : v_331 x0 x1 x2 x3 x4 d = 1 := by simp only [v_331, if_neg (show ¬ x1 < 0 from Int.not_lt.mpr z0), if_pos (show x1 < d (x0 + 1 + 10) 0 from z1), if_pos (show x2 < 0 from z2)]
    have y1 : g_331 x0 x1 x2 x3 x4 d = d := by simp only [g_331, if_neg (show ¬ x1 < 0 from Int.not_lt.mpr z0), if_pos (show x1 < d (x0 + 1 + 10) 0 from z1), if_pos (show x2 < 0 from z2)]
    rw [y0] at h
    rw [y1] at h
    exact h (show 0 ≤ ((1 : Int)) ∧ ((1 : Int)) ≤ 3 from (by omega)) (show ∀ b : Int, (b < x0 + 59 ∨ x0 + 59 < b) ∧ (b < x0 + 64 ∨ x0 + 64 < b) ∧ (b < x0 + 66 ∨ x0 + 569 < b) ∧ (b < x4 ∨ x4 < b) → d b = d b from fun _ _ => rfl) hS
  · have y0 : v_331 x0 x1 x2 x3 x4 d = 2 := by simp only [v_331, if_neg (show ¬ x1 < 0 from Int.not_lt.mpr z0), if_pos (show x1 < d (x0 + 1 + 10) 0 from z1), if_neg (show ¬ x2 < 0 from Int.not_lt.mpr z2), if_pos (show x2 < d (x0 + 1 + 10) 0 from z3), if_pos (show x3 < 1 from z4)]
    have y1 : g_331 x0 x1 x2 x3 x4 d = d := by simp only [g_331, if_neg (show ¬ x1 < 0 from Int.not_lt.mpr z0), if_pos (show x1 < d (x0 + 1 + 10) 0 from z1), if_neg (show ¬ x2 < 0 from Int.not_lt.mpr z2), if_pos (show x2 < d (x0 + 1 + 10) 0 from z3), if_pos (show x3 < 1 from z4)]
    rw [y0] at h
    rw [y1] at h
    exact h (show 0 ≤ ((2 : Int)) ∧ ((2 : Int)) ≤ 3 from (by omega)) (show ∀ b : Int, (b < x0 + 59 ∨ x0 + 59 < b) ∧ (b < x0 + 64 ∨ x0 + 64 < b) ∧ (b < x0 + 66 ∨ x0 + 569 < b) ∧ (b < x4 ∨ x4 < b) → d b = d b from fun _ _ => rfl) hS
  · have y0 : v_331 x0 x1 x2 x3 x4 d = 3 := by simp only [v_331, if_neg (show ¬ x1 < 0 from Int.not_lt.mpr z0), if_pos (show x1 < d (x0 + 1 + 10) 0 from z1), if_neg (show ¬ x2 < 0 from Int.not_lt.mpr z2), if_pos (show x2 < d (x0 + 1 + 10) 0 from z3), if_neg (show ¬ x3 < 1 from Int.not_lt.mpr z4), if_neg (show ¬ (200 : Int) < x3 from Int.not_lt.mpr z5), if_pos (show x1 = x2 from z6)]
    have y1 : g_331 x0 x1 x2 x3 x4 d = d := by simp only [g_331, if_neg (show ¬ x1 < 0 from Int.not_lt.mpr z0), if_pos (show x1 < d (x0 + 1 + 10) 0 from z1), if_neg (show ¬ x2 < 0 from Int.not_lt.mpr z2), if_pos (show x2 < d (x0 + 1 + 10) 0 from z3), if_neg (show ¬ x3 < 1 from Int.not_lt.mpr z4), if_neg (show ¬ (200 : Int) < x3 from Int.not_lt.mpr z5), if_pos (show x1 = x2 from z6)]
    rw [y0] at h
    rw [y1] at h
    exact h (show 0 ≤ ((3 : Int)) ∧ ((3 : Int)) ≤ 3 from (by omega)) (show ∀ b : Int, (b < x0 + 59 ∨ x0 + 59 < b) ∧ (b < x0 + 64 ∨ x0 + 64 < b) ∧ (b < x0 + 66 ∨ x0 + 569 < b) ∧ (b < x4 ∨ x4 < b) → d b = d b from fun _ _ => rfl) hS
  · refine t_331_10 ?_
    refine ⟨m_inR (by omega) (by omega), by omega, ?_⟩
    have hS2 : Safe (mset (g_114 (x0 + 1 + 57) x1 x2 x3 (g_2 (x0 + 64) (x0 + 1) d)) x4 0 (v_111 (x0 + 1 + 57) x2 0 (g_114 (x0 + 1 + 57) x1 x2 x3 (g_2 (x0 + 64) (x0 + 1) d)))) := s_ou hS1 hx4
    have y0 : v_331 x0 x1 x2 x3 x4 d = 0 := by simp only [v_331, if_neg (show ¬ x1 < 0 from Int.not_lt.mpr z0), if_pos (show x1 < d (x0 + 1 + 10) 0 from z1), if_neg (show ¬ x2 < 0 from Int.not_lt.mpr z2), if_pos (show x2 < d (x0 + 1 + 10) 0 from z3), if_neg (show ¬ x3 < 1 from Int.not_lt.mpr z4), if_neg (show ¬ (200 : Int) < x3 from Int.not_lt.mpr z5), if_neg (show ¬ x1 = x2 from z6), if_neg (show ¬ v_111 (x0 + 1 + 57) x1 0 d < x3 from Int.not_lt.mpr z7)]
    have y1 : g_331 x0 x1 x2 x3 x4 d = mset (g_114 (x0 + 1 + 57) x1 x2 x3 (g_2 (x0 + 64) (x0 + 1) d)) x4 0 (v_111 (x0 + 1 + 57) x2 0 (g_114 (x0 + 1 + 57) x1 x2 x3 (g_2 (x0 + 64) (x0 + 1) d))) := by simp only [g_331, if_neg (show ¬ x1 < 0 from Int.not_lt.mpr z0), if_pos (show x1 < d (x0 + 1 + 10) 0 from z1), if_neg (show ¬ x2 < 0 from Int.not_lt.mpr z2), if_pos (show x2 < d (x0 + 1 + 10) 0 from z3), if_neg (show ¬ x3 < 1 from Int.not_lt.mpr z4), if_neg (show ¬ (200 : Int) < x3 from Int.not_lt.mpr z5), if_neg (show ¬ x1 = x2 from z6), if_neg (show ¬ v_111 (x0 + 1 + 57) x1 0 d < x3 from Int.not_lt.mpr z7)]
    rw [y0] at h
    rw [y1] at h
    exact h (show 0 ≤ ((0 : Int)) ∧ ((0 : Int)) ≤ 3 from (by omega)) (show ∀ b : Int, (b < x0 + 59 ∨ x0 + 59 < b) ∧ (b < x0 + 64 ∨ x0 + 64 < b) ∧ (b < x0 + 66 ∨ x0 + 569 < b) ∧ (b < x4 ∨ x4 < b) → (mset (g_114 (x0 + 1 + 57) x1 x2 x3 (g_2 (x0 + 64) (x0 + 1) d)) x4 0 (v_111 (x0 + 1 + 57) x2 0 (g_114 (x0 + 1 + 57) x1 x2 x3 (g_2 (x0 + 64) (x0 + 1) d)))) b = d b from fun b hb => (mset_ne (by omega)).trans (F1 b (by omega))) hS2
  · have y0 : v_331 x0 x1 x2 x3 x4 d = 3 := by simp only [v_331, if_neg (show ¬ x1 < 0 from Int.not_lt.mpr z0), if_pos (show x1 < d (x0 + 1 + 10) 0 from z1), if_neg (show ¬ x2 < 0 from Int.not_lt.mpr z2), if_pos (show x2 < d (x0 + 1 + 10) 0 from z3), if_neg (show ¬ x3 < 1 from Int.not_lt.mpr z4), if_neg (show ¬ (200 : Int) < x3 from Int.not_lt.mpr z5), if_neg (show ¬ x1 = x2 from z6), if_pos (show v_111 (x0 + 1 + 57) x1 0 d < x3 from z7)]
    have y1 : g_331 x0 x1 x2 x3 x4 d = d := by simp only [g_331, if_neg (show ¬ x1 < 0 from Int.not_lt.mpr z0), if_pos (show x1 < d (x0 + 1 + 10) 0 from z1), if_neg (show ¬ x2 < 0 from Int.not_lt.mpr z2), if_pos (show x2 < d (x0 + 1 + 10) 0 from z3), if_neg (show ¬ x3 < 1 from Int.not_lt.mpr z4), if_neg (show ¬ (200 : Int) < x3 from Int.not_lt.mpr z5), if_neg (show ¬ x1 = x2 from z6), if_pos (show v_111 (x0 + 1 + 57) x1 0 d < x3 from z7)]
    rw [y0] at h
    rw [y1] at h
    exact h (show 0 ≤ ((3 : Int)) ∧ ((3 : Int)) ≤ 3 from (by omega)) (show ∀ b : Int, (b < x0 + 59 ∨ x0 + 59 < b) ∧ (b < x0 + 64 ∨ x0 + 64 < b) ∧ (b < x0 + 66 ∨ x0 + 569 < b) ∧ (b < x4 ∨ x4 < b) → d b = d b from fun _ _ => rfl) hS
  · have y0 : v_331 x0 x1 x2 x3 x4 d = 2 := by simp only [v_331, if_neg (show ¬ x1 < 0 from Int.not_lt.mpr z0), if_pos (show x1 < d (x0 + 1 + 10) 0 from z1), if_neg (show ¬ x2 < 0 from Int.not_lt.mpr z2), if_pos (show x2 < d (x0 + 1 + 10) 0 from z3), if_neg (show ¬ x3 < 1 from Int.not_lt.mpr z4), if_pos (show (200 : Int) < x3 from z5)]
    have y1 : g_331 x0 x1 x2 x3 x4 d = d := by simp only [g_331, if_neg (show ¬ x1 < 0 from Int.not_lt.mpr z0), if_pos (show x1 < d (x0 + 1 + 10) 0 from z1), if_neg (show ¬ x2 < 0 from Int.not_lt.mpr z2), if_pos (show x2 < d (x0 + 1 + 10) 0 from z3), if_neg (show ¬ x3 < 1 from Int.not_lt.mpr z4), if_pos (show (200 : Int) < x3 from z5)]
    rw [y0] at h
    rw [y1] at h
    exact h (show 0 ≤ ((2 : Int)) ∧ ((2 : Int)) ≤ 3 from (by omega)) (show ∀ b : Int, (b < x0 + 59 ∨ x0 + 59 < b) ∧ (b < x0 + 64 ∨ x0 + 64 < b) ∧ (b < x0 + 66 ∨ x0 + 569 < b) ∧ (b < x4 ∨ x4 < b) → d b = d b from fun _ _ => rfl) hS
  · have y0 : v_331 x0 x1 x2 x3 x4 d = 1 := by simp only [v_331, if_neg (show ¬ x1 < 0 from Int.not_lt.mpr z0), if_pos (show x1 < d (x0 + 1 + 10) 0 from z1), if_neg (show ¬ x2 < 0 from Int.not_lt.mpr z2), if_neg (show ¬ x2 < d (x0 + 1 + 10) 0 from Int.not_lt.mpr z3)]
    have y1 : g_331 x0 x1 x2 x3 x4 d = d := by simp only [g_331, if_neg (show ¬ x1 < 0 from Int.not_lt.mpr z0), if_pos (show x1 < d (x0 + 1 + 10) 0 from z1), if_neg (show ¬ x2 < 0 from Int.not_lt.mpr z2), if_neg (show ¬ x2 < d (x0 + 1 + 10) 0 from Int.not_lt.mpr z3)]
    rw [y0] at h
    rw [y1] at h
    exact h (show 0 ≤ ((1 : Int)) ∧ ((1 : Int)) ≤ 3 from (by omega)) (show ∀ b : Int, (b < x0 + 59 ∨ x0 + 59 < b) ∧ (b < x0 + 64 ∨ x0 + 64 < b) ∧ (b < x0 + 66 ∨ x0 + 569 < b) ∧ (b < x4 ∨ x4 < b) → d b = d b from fun _ _ => rfl) hS
  · have y0 : v_331 x0 x1 x2 x3 x4 d = 1 := by simp only [v_331, if_neg (show ¬ x1 < 0 from Int.not_lt.mpr z0), if_neg (show ¬ x1 < d (x0 + 1 + 10) 0 from Int.not_lt.mpr z1)]
    have y1 : g_331 x0 x1 x2 x3 x4 d = d := by simp only [g_331, if_neg (show ¬ x1 < 0 from Int.not_lt.mpr z0), if_neg (show ¬ x1 < d (x0 + 1 + 10) 0 from Int.not_lt.mpr z1)]
    rw [y0] at h
    rw [y1] at h
    exact h (show 0 ≤ ((1 : Int)) ∧ ((1 : Int)) ≤ 3 from (by omega)) (show ∀ b : Int, (b < x0 + 59 ∨ x0 + 59 < b) ∧ (b < x0 + 64 ∨ x0 + 64 < b) ∧ (b < x0 + 66 ∨ x0 + 569 < b) ∧ (b < x4 ∨ x4 < b) → d b = d b from fun _ _ => rfl) hS
def v_332 (x0 x1 x2 x3 : Int) (d : mD) : Int := if x1 < 0 then 1 else if x1 < d (x0 + 1 + 10) 0 then (if x2 < 1 then 2 else if (200 : Int) < x2 then 2 else if v_111 (x0 + 1 + 57) x1 0 d < x2 then 3 else 0) else 1
def g_332 (x0 x1 x2 x3 : Int) (d : mD) : mD := if x1 < 0 then d else if x1 < d (x0 + 1 + 10) 0 then (if x2 < 1 then d else if (200 : Int) < x2 then d else if v_111 (x0 + 1 + 57) x1 0 d < x2 then d else mset (g_82 (x0 + 1) (g_115 (x0 + 1 + 57) x1 x2 (g_2 (x0 + 64) (x0 + 1) d))) x3 0 (v_82 (x0 + 1) (g_115 (x0 + 1 + 57) x1 x2 (g_2 (x0 + 64) (x0 + 1) d)))) else d
theorem k_332 {E : mO × tW} {K : tK} {d : mD} {x0 x1 x2 x3 : Int} (hS : Safe d) (hx0 : wbB x0) (hx3 : ouB x3) (p1 : -2147483648 ≤ x1 ∧ x1 ≤ 2147483647) (p2 : -2147483648 ≤ x2 ∧ x2 ≤ 2147483647) (h : (0 ≤ (v_332 x0 x1 x2 x3 d) ∧ (v_332 x0 x1 x2 x3 d) ≤ 3) → (∀ b : Int, (b < x0 + 1 ∨ x0 + 1 < b) ∧ (b < x0 + 13 ∨ x0 + 13 < b) ∧ (b < x0 + 58 ∨ x0 + 58 < b) ∧ (b < x0 + 62 ∨ x0 + 64 < b) ∧ (b < x0 + 66 ∨ x0 + 569 < b) ∧ (b < x3 ∨ x3 < b) → (g_332 x0 x1 x2 x3 d) b = d b) → Safe (g_332 x0 x1 x2 x3 d) → K (.inl (some (0, (v_332 x0 x1 x2 x3 d)))) (g_332 x0 x1 x2 x3 d)) : tCall E 332 [.inr (10, x0), .inl (0, x1), .inl (0, x2), .inr (30, x3)] d K := by
  refine t_332_0 ?_
  refine k_156 hS hx0 (m_inR (by omega) (by omega)) (m_inR (by omega) (by omega)) (fun z0 => ?_) (fun z0 z1 z2 => ?_) (fun z0 z1 z2 z3 z4 e1 F1 hS1 => ?_) (fun z0 z1 z2 z3 z4 => ?_) (fun z0 z1 z2 z3 => ?_) (fun z0 z1 => ?_)
  · have y0 : v_332 x0 x1 x2 x3 d = 1 := by simp only [v_332, if_pos (show x1 < 0 from z0)]
    have y1 : g_332 x0 x1 x2 x3 d = d := by simp only [g_332, if_pos (show x1 < 0 from z0)]
    rw [y0] at h
    rw [y1] at h
    exact h (show 0 ≤ ((1 : Int)) ∧ ((1 : Int)) ≤ 3 from (by omega)) (show ∀ b : Int, (b < x0 + 1 ∨ x0 + 1 < b) ∧ (b < x0 + 13 ∨ x0 + 13 < b) ∧ (b < x0 + 58 ∨ x0 + 58 < b) ∧ (b < x0 + 62 ∨ x0 + 64 < b) ∧ (b < x0 + 66 ∨ x0 + 569 < b) ∧ (b < x3 ∨ x3 < b) → d b = d b from fun _ _ => rfl) hS
  · have y0 : v_332 x0 x1 x2 x3 d = 2 := by simp only [v_332, if_neg (show ¬ x1 < 0 from Int.not_lt.mpr z0), if_pos (show x1 < d (x0 + 1 + 10) 0 from z1), if_pos (show x2 < 1 from z2)]
    have y1 : g_332 x0 x1 x2 x3 d = d := by simp only [g_332, if_neg (show ¬ x1 < 0 from Int.not_lt.mpr z0), if_pos (show x1 < d (x0 + 1 + 10) 0 from z1), if_pos (show x2 < 1 from z2)]
    rw [y0] at h
    rw [y1] at h
    exact h (show 0 ≤ ((2 : Int)) ∧ ((2 : Int)) ≤ 3 from (by omega)) (show ∀ b : Int, (b < x0 + 1 ∨ x0 + 1 < b) ∧ (b < x0 + 13 ∨ x0 + 13 < b) ∧ (b < x0 + 58 ∨ x0 + 58 < b) ∧ (b < x0 + 62 ∨ x0 + 64 < b) ∧ (b < x0 + 66 ∨ x0 + 569 < b) ∧ (b < x3 ∨ x3 < b) → d b = d b from fun _ _ => rfl) hS
  · refine t_332_8 ?_
    refine ⟨m_inR (by omega) (by omega), by omega, ?_⟩
    have hS2 : Safe (mset (g_82 (x0 + 1) (g_115 (x0 + 1 + 57) x1 x2 (g_2 (x0 + 64) (x0 + 1) d))) x3 0 (v_82 (x0 + 1) (g_115 (x0 + 1 + 57) x1 x2 (g_2 (x0 + 64) (x0 + 1) d)))) := s_ou hS1 hx3
    have y0 : v_332 x0 x1 x2 x3 d = 0 := by simp only [v_332, if_neg (show ¬ x1 < 0 from Int.not_lt.mpr z0), if_pos (show x1 < d (x0 + 1 + 10) 0 from z1), if_neg (show ¬ x2 < 1 from Int.not_lt.mpr z2), if_neg (show ¬ (200 : Int) < x2 from Int.not_lt.mpr z3), if_neg (show ¬ v_111 (x0 + 1 + 57) x1 0 d < x2 from Int.not_lt.mpr z4)]
    have y1 : g_332 x0 x1 x2 x3 d = mset (g_82 (x0 + 1) (g_115 (x0 + 1 + 57) x1 x2 (g_2 (x0 + 64) (x0 + 1) d))) x3 0 (v_82 (x0 + 1) (g_115 (x0 + 1 + 57) x1 x2 (g_2 (x0 + 64) (x0 + 1) d))) := by simp only [g_332, if_neg (show ¬ x1 < 0 from Int.not_lt.mpr z0), if_pos (show x1 < d (x0 + 1 + 10) 0 from z1), if_neg (show ¬ x2 < 1 from Int.not_lt.mpr z2), if_neg (show ¬ (200 : Int) < x2 from Int.not_lt.mpr z3), if_neg (show ¬ v_111 (x0 + 1 + 57) x1 0 d < x2 from Int.not_lt.mpr z4)]
    rw [y0] at h
    rw [y1] at h
    exact h (show 0 ≤ ((0 : Int)) ∧ ((0 : Int)) ≤ 3 from (by omega)) (show ∀ b : Int, (b < x0 + 1 ∨ x0 + 1 < b) ∧ (b < x0 + 13 ∨ x0 + 13 < b) ∧ (b < x0 + 58 ∨ x0 + 58 < b) ∧ (b < x0 + 62 ∨ x0 + 64 < b) ∧ (b < x0 + 66 ∨ x0 + 569 < b) ∧ (b < x3 ∨ x3 < b) → (mset (g_82 (x0 + 1) (g_115 (x0 + 1 + 57) x1 x2 (g_2 (x0 + 64) (x0 + 1) d))) x3 0 (v_82 (x0 + 1) (g_115 (x0 + 1 + 57) x1 x2 (g_2 (x0 + 64) (x0 + 1) d)))) b = d b from fun b hb => (mset_ne (by omega)).trans (F1 b (by omega))) hS2
  · have y0 : v_332 x0 x1 x2 x3 d = 3 := by simp only [v_332, if_neg (show ¬ x1 < 0 from Int.not_lt.mpr z0), if_pos (show x1 < d (x0 + 1 + 10) 0 from z1), if_neg (show ¬ x2 < 1 from Int.not_lt.mpr z2), if_neg (show ¬ (200 : Int) < x2 from Int.not_lt.mpr z3), if_pos (show v_111 (x0 + 1 + 57) x1 0 d < x2 from z4)]
    have y1 : g_332 x0 x1 x2 x3 d = d := by simp only [g_332, if_neg (show ¬ x1 < 0 from Int.not_lt.mpr z0), if_pos (show x1 < d (x0 + 1 + 10) 0 from z1), if_neg (show ¬ x2 < 1 from Int.not_lt.mpr z2), if_neg (show ¬ (200 : Int) < x2 from Int.not_lt.mpr z3), if_pos (show v_111 (x0 + 1 + 57) x1 0 d < x2 from z4)]
    rw [y0] at h
    rw [y1] at h
    exact h (show 0 ≤ ((3 : Int)) ∧ ((3 : Int)) ≤ 3 from (by omega)) (show ∀ b : Int, (b < x0 + 1 ∨ x0 + 1 < b) ∧ (b < x0 + 13 ∨ x0 + 13 < b) ∧ (b < x0 + 58 ∨ x0 + 58 < b) ∧ (b < x0 + 62 ∨ x0 + 64 < b) ∧ (b < x0 + 66 ∨ x0 + 569 < b) ∧ (b < x3 ∨ x3 < b) → d b = d b from fun _ _ => rfl) hS
  · have y0 : v_332 x0 x1 x2 x3 d = 2 := by simp only [v_332, if_neg (show ¬ x1 < 0 from Int.not_lt.mpr z0), if_pos (show x1 < d (x0 + 1 + 10) 0 from z1), if_neg (show ¬ x2 < 1 from Int.not_lt.mpr z2), if_pos (show (200 : Int) < x2 from z3)]
    have y1 : g_332 x0 x1 x2 x3 d = d := by simp only [g_332, if_neg (show ¬ x1 < 0 from Int.not_lt.mpr z0), if_pos (show x1 < d (x0 + 1 + 10) 0 from z1), if_neg (show ¬ x2 < 1 from Int.not_lt.mpr z2), if_pos (show (200 : Int) < x2 from z3)]
    rw [y0] at h
    rw [y1] at h
    exact h (show 0 ≤ ((2 : Int)) ∧ ((2 : Int)) ≤ 3 from (by omega)) (show ∀ b : Int, (b < x0 + 1 ∨ x0 + 1 < b) ∧ (b < x0 + 13 ∨ x0 + 13 < b) ∧ (b < x0 + 58 ∨ x0 + 58 < b) ∧ (b < x0 + 62 ∨ x0 + 64 < b) ∧ (b < x0 + 66 ∨ x0 + 569 < b) ∧ (b < x3 ∨ x3 < b) → d b = d b from fun _ _ => rfl) hS
  · have y0 : v_332 x0 x1 x2 x3 d = 1 := by simp only [v_332, if_neg (show ¬ x1 < 0 from Int.not_lt.mpr z0), if_neg (show ¬ x1 < d (x0 + 1 + 10) 0 from Int.not_lt.mpr z1)]
    have y1 : g_332 x0 x1 x2 x3 d = d := by simp only [g_332, if_neg (show ¬ x1 < 0 from Int.not_lt.mpr z0), if_neg (show ¬ x1 < d (x0 + 1 + 10) 0 from Int.not_lt.mpr z1)]
    rw [y0] at h
    rw [y1] at h
    exact h (show 0 ≤ ((1 : Int)) ∧ ((1 : Int)) ≤ 3 from (by omega)) (show ∀ b : Int, (b < x0 + 1 ∨ x0 + 1 < b) ∧ (b < x0 + 13 ∨ x0 + 13 < b) ∧ (b < x0 + 58 ∨ x0 + 58 < b) ∧ (b < x0 + 62 ∨ x0 + 64 < b) ∧ (b < x0 + 66 ∨ x0 + 569 < b) ∧ (b < x3 ∨ x3 < b) → d b = d b from fun _ _ => rfl) hS
def v_333 (x0 x1 x2 : Int) (d : mD) : Int := if x1 < 1 then 1 else if (9999 : Int) < x1 then 1 else if (99999 : Int) < (d (x0 + 1) 1) + x1 then 2 else 0
def g_333 (x0 x1 x2 : Int) (d : mD) : mD := if x1 < 1 then d else if (9999 : Int) < x1 then d else if (99999 : Int) < (d (x0 + 1) 1) + x1 then d else mset (g_82 (x0 + 1) (mset (g_2 (x0 + 64) (x0 + 1) d) (x0 + 1) 1 ((d (x0 + 1) 1) + x1))) x2 0 ((g_82 (x0 + 1) (mset (g_2 (x0 + 64) (x0 + 1) d) (x0 + 1) 1 ((d (x0 + 1) 1) + x1))) (x0 + 1) 1)
theorem k_333 {E : mO × tW} {K : tK} {d : mD} {x0 x1 x2 : Int} (hS : Safe d) (hx0 : wbB x0) (hx2 : ouB x2) (p1 : -2147483648 ≤ x1 ∧ x1 ≤ 2147483647) (h : (0 ≤ (v_333 x0 x1 x2 d) ∧ (v_333 x0 x1 x2 d) ≤ 3) → (∀ b : Int, (b < x0 + 1 ∨ x0 + 1 < b) ∧ (b < x0 + 13 ∨ x0 + 13 < b) ∧ (b < x0 + 58 ∨ x0 + 58 < b) ∧ (b < x0 + 62 ∨ x0 + 64 < b) ∧ (b < x0 + 66 ∨ x0 + 569 < b) ∧ (b < x2 ∨ x2 < b) → (g_333 x0 x1 x2 d) b = d b) → Safe (g_333 x0 x1 x2 d) → K (.inl (some (0, (v_333 x0 x1 x2 d)))) (g_333 x0 x1 x2 d)) : tCall E 333 [.inr (10, x0), .inl (0, x1), .inr (30, x2)] d K := by
  refine t_333_0 ?_
  refine k_157 hS hx0 (m_inR (by omega) (by omega)) (fun z0 => ?_) (fun z0 z1 z2 e1 F1 hS1 => ?_) (fun z0 z1 z2 => ?_) (fun z0 z1 => ?_)
  · have y0 : v_333 x0 x1 x2 d = 1 := by simp only [v_333, if_pos (show x1 < 1 from z0)]
    have y1 : g_333 x0 x1 x2 d = d := by simp only [g_333, if_pos (show x1 < 1 from z0)]
    rw [y0] at h
    rw [y1] at h
    exact h (show 0 ≤ ((1 : Int)) ∧ ((1 : Int)) ≤ 3 from (by omega)) (show ∀ b : Int, (b < x0 + 1 ∨ x0 + 1 < b) ∧ (b < x0 + 13 ∨ x0 + 13 < b) ∧ (b < x0 + 58 ∨ x0 + 58 < b) ∧ (b < x0 + 62 ∨ x0 + 64 < b) ∧ (b < x0 + 66 ∨ x0 + 569 < b) ∧ (b < x2 ∨ x2 < b) → d b = d b from fun _ _ => rfl) hS
  · refine t_333_7 ?_
    refine ⟨m_inR (by omega) (by omega), by omega, ?_⟩
    have hS2 : Safe (mset (g_82 (x0 + 1) (mset (g_2 (x0 + 64) (x0 + 1) d) (x0 + 1) 1 ((d (x0 + 1) 1) + x1))) x2 0 ((g_82 (x0 + 1) (mset (g_2 (x0 + 64) (x0 + 1) d) (x0 + 1) 1 ((d (x0 + 1) 1) + x1))) (x0 + 1) 1)) := s_ou hS1 hx2
    have y0 : v_333 x0 x1 x2 d = 0 := by simp only [v_333, if_neg (show ¬ x1 < 1 from Int.not_lt.mpr z0), if_neg (show ¬ (9999 : Int) < x1 from Int.not_lt.mpr z1), if_neg (show ¬ (99999 : Int) < (d (x0 + 1) 1) + x1 from Int.not_lt.mpr z2)]
    have y1 : g_333 x0 x1 x2 d = mset (g_82 (x0 + 1) (mset (g_2 (x0 + 64) (x0 + 1) d) (x0 + 1) 1 ((d (x0 + 1) 1) + x1))) x2 0 ((g_82 (x0 + 1) (mset (g_2 (x0 + 64) (x0 + 1) d) (x0 + 1) 1 ((d (x0 + 1) 1) + x1))) (x0 + 1) 1) := by simp only [g_333, if_neg (show ¬ x1 < 1 from Int.not_lt.mpr z0), if_neg (show ¬ (9999 : Int) < x1 from Int.not_lt.mpr z1), if_neg (show ¬ (99999 : Int) < (d (x0 + 1) 1) + x1 from Int.not_lt.mpr z2)]
    rw [y0] at h
    rw [y1] at h
    exact h (show 0 ≤ ((0 : Int)) ∧ ((0 : Int)) ≤ 3 from (by omega)) (show ∀ b : Int, (b < x0 + 1 ∨ x0 + 1 < b) ∧ (b < x0 + 13 ∨ x0 + 13 < b) ∧ (b < x0 + 58 ∨ x0 + 58 < b) ∧ (b < x0 + 62 ∨ x0 + 64 < b) ∧ (b < x0 + 66 ∨ x0 + 569 < b) ∧ (b < x2 ∨ x2 < b) → (mset (g_82 (x0 + 1) (mset (g_2 (x0 + 64) (x0 + 1) d) (x0 + 1) 1 ((d (x0 + 1) 1) + x1))) x2 0 ((g_82 (x0 + 1) (mset (g_2 (x0 + 64) (x0 + 1) d) (x0 + 1) 1 ((d (x0 + 1) 1) + x1))) (x0 + 1) 1)) b = d b from fun b hb => (mset_ne (by omega)).trans (F1 b (by omega))) hS2
  · have y0 : v_333 x0 x1 x2 d = 2 := by simp only [v_333, if_neg (show ¬ x1 < 1 from Int.not_lt.mpr z0), if_neg (show ¬ (9999 : Int) < x1 from Int.not_lt.mpr z1), if_pos (show (99999 : Int) < (d (x0 + 1) 1) + x1 from z2)]
    have y1 : g_333 x0 x1 x2 d = d := by simp only [g_333, if_neg (show ¬ x1 < 1 from Int.not_lt.mpr z0), if_neg (show ¬ (9999 : Int) < x1 from Int.not_lt.mpr z1), if_pos (show (99999 : Int) < (d (x0 + 1) 1) + x1 from z2)]
    rw [y0] at h
    rw [y1] at h
    exact h (show 0 ≤ ((2 : Int)) ∧ ((2 : Int)) ≤ 3 from (by omega)) (show ∀ b : Int, (b < x0 + 1 ∨ x0 + 1 < b) ∧ (b < x0 + 13 ∨ x0 + 13 < b) ∧ (b < x0 + 58 ∨ x0 + 58 < b) ∧ (b < x0 + 62 ∨ x0 + 64 < b) ∧ (b < x0 + 66 ∨ x0 + 569 < b) ∧ (b < x2 ∨ x2 < b) → d b = d b from fun _ _ => rfl) hS
  · have y0 : v_333 x0 x1 x2 d = 1 := by simp only [v_333, if_neg (show ¬ x1 < 1 from Int.not_lt.mpr z0), if_pos (show (9999 : Int) < x1 from z1)]
    have y1 : g_333 x0 x1 x2 d = d := by simp only [g_333, if_neg (show ¬ x1 < 1 from Int.not_lt.mpr z0), if_pos (show (9999 : Int) < x1 from z1)]
    rw [y0] at h
    rw [y1] at h
    exact h (show 0 ≤ ((1 : Int)) ∧ ((1 : Int)) ≤ 3 from (by omega)) (show ∀ b : Int, (b < x0 + 1 ∨ x0 + 1 < b) ∧ (b < x0 + 13 ∨ x0 + 13 < b) ∧ (b < x0 + 58 ∨ x0 + 58 < b) ∧ (b < x0 + 62 ∨ x0 + 64 < b) ∧ (b < x0 + 66 ∨ x0 + 569 < b) ∧ (b < x2 ∨ x2 < b) → d b = d b from fun _ _ => rfl) hS
def v_334 (x0 x1 x2 x3 : Int) (d : mD) : Int := if x1 < 0 then 1 else if x1 < d (x0 + 1 + 2) 0 then (if x2 < 0 then 1 else if x2 < d (x0 + 1 + 2) 0 then (if x1 = x2 then 2 else if d (x0 + 1 + 2 + 5) x1 = 0 then 2 else if d (x0 + 1 + 2 + 5) x2 = 0 then 2 else 0) else 1) else 1
def g_334 (x0 x1 x2 x3 : Int) (d : mD) : mD := if x1 < 0 then d else if x1 < d (x0 + 1 + 2) 0 then (if x2 < 0 then d else if x2 < d (x0 + 1 + 2) 0 then (if x1 = x2 then d else if d (x0 + 1 + 2 + 5) x1 = 0 then d else if d (x0 + 1 + 2 + 5) x2 = 0 then d else mset (g_63 (x0 + 1) x1 x2 (g_2 (x0 + 64) (x0 + 1) d)) x3 0 ((g_63 (x0 + 1) x1 x2 (g_2 (x0 + 64) (x0 + 1) d)) (x0 + 1 + 2 + 6) x2)) else d) else d
theorem k_334 {E : mO × tW} {K : tK} {d : mD} {x0 x1 x2 x3 : Int} (hS : Safe d) (hx0 : wbB x0) (hx3 : ouB x3) (p1 : -2147483648 ≤ x1 ∧ x1 ≤ 2147483647) (p2 : -2147483648 ≤ x2 ∧ x2 ≤ 2147483647) (h : (0 ≤ (v_334 x0 x1 x2 x3 d) ∧ (v_334 x0 x1 x2 x3 d) ≤ 3) → (∀ b : Int, (b < x0 + 8 ∨ x0 + 10 < b) ∧ (b < x0 + 52 ∨ x0 + 52 < b) ∧ (b < x0 + 54 ∨ x0 + 55 < b) ∧ (b < x0 + 64 ∨ x0 + 64 < b) ∧ (b < x0 + 66 ∨ x0 + 569 < b) ∧ (b < x3 ∨ x3 < b) → (g_334 x0 x1 x2 x3 d) b = d b) → Safe (g_334 x0 x1 x2 x3 d) → K (.inl (some (0, (v_334 x0 x1 x2 x3 d)))) (g_334 x0 x1 x2 x3 d)) : tCall E 334 [.inr (10, x0), .inl (0, x1), .inl (0, x2), .inr (30, x3)] d K := by
  refine t_334_0 ?_
  refine k_158 hS hx0 (m_inR (by omega) (by omega)) (m_inR (by omega) (by omega)) (fun z0 => ?_) (fun z0 z1 z2 => ?_) (fun z0 z1 z2 z3 z4 => ?_) (fun z0 z1 z2 z3 z4 z5 => ?_) (fun z0 z1 z2 z3 z4 z5 z6 e1 F1 hS1 => ?_) (fun z0 z1 z2 z3 z4 z5 z6 => ?_) (fun z0 z1 z2 z3 => ?_) (fun z0 z1 => ?_)
  · have y0 : v_334 x0 x1 x2 x3 d = 1 := by simp only [v_334, if_pos (show x1 < 0 from z0)]
    have y1 : g_334 x0 x1 x2 x3 d = d := by simp only [g_334, if_pos (show x1 < 0 from z0)]
    rw [y0] at h
    rw [y1] at h
    exact h (show 0 ≤ ((1 : Int)) ∧ ((1 : Int)) ≤ 3 from (by omega)) (show ∀ b : Int, (b < x0 + 8 ∨ x0 + 10 < b) ∧ (b < x0 + 52 ∨ x0 + 52 < b) ∧ (b < x0 + 54 ∨ x0 + 55 < b) ∧ (b < x0 + 64 ∨ x0 + 64 < b) ∧ (b < x0 + 66 ∨ x0 + 569 < b) ∧ (b < x3 ∨ x3 < b) → d b = d b from fun _ _ => rfl) hS
  · have y0 : v_334 x0 x1 x2 x3 d = 1 := by simp only [v_334, if_neg (show ¬ x1 < 0 from Int.not_lt.mpr z0), if_pos (show x1 < d (x0 + 1 + 2) 0 from z1), if_pos (show x2 < 0 from z2)]
    have y1 : g_334 x0 x1 x2 x3 d = d := by simp only [g_334, if_neg (show ¬ x1 < 0 from Int.not_lt.mpr z0), if_pos (show x1 < d (x0 + 1 + 2) 0 from z1), if_pos (show x2 < 0 from z2)]
    rw [y0] at h
    rw [y1] at h
    exact h (show 0 ≤ ((1 : Int)) ∧ ((1 : Int)) ≤ 3 from (by omega)) (show ∀ b : Int, (b < x0 + 8 ∨ x0 + 10 < b) ∧ (b < x0 + 52 ∨ x0 + 52 < b) ∧ (b < x0 + 54 ∨ x0 + 55 < b) ∧ (b < x0 + 64 ∨ x0 + 64 < b) ∧ (b < x0 + 66 ∨ x0 + 569 < b) ∧ (b < x3 ∨ x3 < b) → d b = d b from fun _ _ => rfl) hS
  · have y0 : v_334 x0 x1 x2 x3 d = 2 := by simp only [v_334, if_neg (show ¬ x1 < 0 from Int.not_lt.mpr z0), if_pos (show x1 < d (x0 + 1 + 2) 0 from z1), if_neg (show ¬ x2 < 0 from Int.not_lt.mpr z2), if_pos (show x2 < d (x0 + 1 + 2) 0 from z3), if_pos (show x1 = x2 from z4)]
    have y1 : g_334 x0 x1 x2 x3 d = d := by simp only [g_334, if_neg (show ¬ x1 < 0 from Int.not_lt.mpr z0), if_pos (show x1 < d (x0 + 1 + 2) 0 from z1), if_neg (show ¬ x2 < 0 from Int.not_lt.mpr z2), if_pos (show x2 < d (x0 + 1 + 2) 0 from z3), if_pos (show x1 = x2 from z4)]
    rw [y0] at h
    rw [y1] at h
    exact h (show 0 ≤ ((2 : Int)) ∧ ((2 : Int)) ≤ 3 from (by omega)) (show ∀ b : Int, (b < x0 + 8 ∨ x0 + 10 < b) ∧ (b < x0 + 52 ∨ x0 + 52 < b) ∧ (b < x0 + 54 ∨ x0 + 55 < b) ∧ (b < x0 + 64 ∨ x0 + 64 < b) ∧ (b < x0 + 66 ∨ x0 + 569 < b) ∧ (b < x3 ∨ x3 < b) → d b = d b from fun _ _ => rfl) hS
  · have y0 : v_334 x0 x1 x2 x3 d = 2 := by simp only [v_334, if_neg (show ¬ x1 < 0 from Int.not_lt.mpr z0), if_pos (show x1 < d (x0 + 1 + 2) 0 from z1), if_neg (show ¬ x2 < 0 from Int.not_lt.mpr z2), if_pos (show x2 < d (x0 + 1 + 2) 0 from z3), if_neg (show ¬ x1 = x2 from z4), if_pos (show d (x0 + 1 + 2 + 5) x1 = 0 from z5)]
    have y1 : g_334 x0 x1 x2 x3 d = d := by simp only [g_334, if_neg (show ¬ x1 < 0 from Int.not_lt.mpr z0), if_pos (show x1 < d (x0 + 1 + 2) 0 from z1), if_neg (show ¬ x2 < 0 from Int.not_lt.mpr z2), if_pos (show x2 < d (x0 + 1 + 2) 0 from z3), if_neg (show ¬ x1 = x2 from z4), if_pos (show d (x0 + 1 + 2 + 5) x1 = 0 from z5)]
    rw [y0] at h
    rw [y1] at h
    exact h (show 0 ≤ ((2 : Int)) ∧ ((2 : Int)) ≤ 3 from (by omega)) (show ∀ b : Int, (b < x0 + 8 ∨ x0 + 10 < b) ∧ (b < x0 + 52 ∨ x0 + 52 < b) ∧ (b < x0 + 54 ∨ x0 + 55 < b) ∧ (b < x0 + 64 ∨ x0 + 64 < b) ∧ (b < x0 + 66 ∨ x0 + 569 < b) ∧ (b < x3 ∨ x3 < b) → d b = d b from fun _ _ => rfl) hS
  · refine t_334_8 ?_
    refine ⟨m_inR (by omega) (by omega), by omega, ?_⟩
    have hS2 : Safe (mset (g_63 (x0 + 1) x1 x2 (g_2 (x0 + 64) (x0 + 1) d)) x3 0 ((g_63 (x0 + 1) x1 x2 (g_2 (x0 + 64) (x0 + 1) d)) (x0 + 1 + 2 + 6) x2)) := s_ou hS1 hx3
    have y0 : v_334 x0 x1 x2 x3 d = 0 := by simp only [v_334, if_neg (show ¬ x1 < 0 from Int.not_lt.mpr z0), if_pos (show x1 < d (x0 + 1 + 2) 0 from z1), if_neg (show ¬ x2 < 0 from Int.not_lt.mpr z2), if_pos (show x2 < d (x0 + 1 + 2) 0 from z3), if_neg (show ¬ x1 = x2 from z4), if_neg (show ¬ d (x0 + 1 + 2 + 5) x1 = 0 from z5), if_neg (show ¬ d (x0 + 1 + 2 + 5) x2 = 0 from z6)]
    have y1 : g_334 x0 x1 x2 x3 d = mset (g_63 (x0 + 1) x1 x2 (g_2 (x0 + 64) (x0 + 1) d)) x3 0 ((g_63 (x0 + 1) x1 x2 (g_2 (x0 + 64) (x0 + 1) d)) (x0 + 1 + 2 + 6) x2) := by simp only [g_334, if_neg (show ¬ x1 < 0 from Int.not_lt.mpr z0), if_pos (show x1 < d (x0 + 1 + 2) 0 from z1), if_neg (show ¬ x2 < 0 from Int.not_lt.mpr z2), if_pos (show x2 < d (x0 + 1 + 2) 0 from z3), if_neg (show ¬ x1 = x2 from z4), if_neg (show ¬ d (x0 + 1 + 2 + 5) x1 = 0 from z5), if_neg (show ¬ d (x0 + 1 + 2 + 5) x2 = 0 from z6)]
    rw [y0] at h
    rw [y1] at h
    exact h (show 0 ≤ ((0 : Int)) ∧ ((0 : Int)) ≤ 3 from (by omega)) (show ∀ b : Int, (b < x0 + 8 ∨ x0 + 10 < b) ∧ (b < x0 + 52 ∨ x0 + 52 < b) ∧ (b < x0 + 54 ∨ x0 + 55 < b) ∧ (b < x0 + 64 ∨ x0 + 64 < b) ∧ (b < x0 + 66 ∨ x0 + 569 < b) ∧ (b < x3 ∨ x3 < b) → (mset (g_63 (x0 + 1) x1 x2 (g_2 (x0 + 64) (x0 + 1) d)) x3 0 ((g_63 (x0 + 1) x1 x2 (g_2 (x0 + 64) (x0 + 1) d)) (x0 + 1 + 2 + 6) x2)) b = d b from fun b hb => (mset_ne (by omega)).trans (F1 b (by omega))) hS2
  · have y0 : v_334 x0 x1 x2 x3 d = 2 := by simp only [v_334, if_neg (show ¬ x1 < 0 from Int.not_lt.mpr z0), if_pos (show x1 < d (x0 + 1 + 2) 0 from z1), if_neg (show ¬ x2 < 0 from Int.not_lt.mpr z2), if_pos (show x2 < d (x0 + 1 + 2) 0 from z3), if_neg (show ¬ x1 = x2 from z4), if_neg (show ¬ d (x0 + 1 + 2 + 5) x1 = 0 from z5), if_pos (show d (x0 + 1 + 2 + 5) x2 = 0 from z6)]
    have y1 : g_334 x0 x1 x2 x3 d = d := by simp only [g_334, if_neg (show ¬ x1 < 0 from Int.not_lt.mpr z0), if_pos (show x1 < d (x0 + 1 + 2) 0 from z1), if_neg (show ¬ x2 < 0 from Int.not_lt.mpr z2), if_pos (show x2 < d (x0 + 1 + 2) 0 from z3), if_neg (show ¬ x1 = x2 from z4), if_neg (show ¬ d (x0 + 1 + 2 + 5) x1 = 0 from z5), if_pos (show d (x0 + 1 + 2 + 5) x2 = 0 from z6)]
    rw [y0] at h
    rw [y1] at h
    exact h (show 0 ≤ ((2 : Int)) ∧ ((2 : Int)) ≤ 3 from (by omega)) (show ∀ b : Int, (b < x0 + 8 ∨ x0 + 10 < b) ∧ (b < x0 + 52 ∨ x0 + 52 < b) ∧ (b < x0 + 54 ∨ x0 + 55 < b) ∧ (b < x0 + 64 ∨ x0 + 64 < b) ∧ (b < x0 + 66 ∨ x0 + 569 < b) ∧ (b < x3 ∨ x3 < b) → d b = d b from fun _ _ => rfl) hS
  · have y0 : v_334 x0 x1 x2 x3 d = 1 := by simp only [v_334, if_neg (show ¬ x1 < 0 from Int.not_lt.mpr z0), if_pos (show x1 < d (x0 + 1 + 2) 0 from z1), if_neg (show ¬ x2 < 0 from Int.not_lt.mpr z2), if_neg (show ¬ x2 < d (x0 + 1 + 2) 0 from Int.not_lt.mpr z3)]
    have y1 : g_334 x0 x1 x2 x3 d = d := by simp only [g_334, if_neg (show ¬ x1 < 0 from Int.not_lt.mpr z0), if_pos (show x1 < d (x0 + 1 + 2) 0 from z1), if_neg (show ¬ x2 < 0 from Int.not_lt.mpr z2), if_neg (show ¬ x2 < d (x0 + 1 + 2) 0 from Int.not_lt.mpr z3)]
    rw [y0] at h
    rw [y1] at h
    exact h (show 0 ≤ ((1 : Int)) ∧ ((1 : Int)) ≤ 3 from (by omega)) (show ∀ b : Int, (b < x0 + 8 ∨ x0 + 10 < b) ∧ (b < x0 + 52 ∨ x0 + 52 < b) ∧ (b < x0 + 54 ∨ x0 + 55 < b) ∧ (b < x0 + 64 ∨ x0 + 64 < b) ∧ (b < x0 + 66 ∨ x0 + 569 < b) ∧ (b < x3 ∨ x3 < b) → d b = d b from fun _ _ => rfl) hS
  · have y0 : v_334 x0 x1 x2 x3 d = 1 := by simp only [v_334, if_neg (show ¬ x1 < 0 from Int.not_lt.mpr z0), if_neg (show ¬ x1 < d (x0 + 1 + 2) 0 from Int.not_lt.mpr z1)]
    have y1 : g_334 x0 x1 x2 x3 d = d := by simp only [g_334, if_neg (show ¬ x1 < 0 from Int.not_lt.mpr z0), if_neg (show ¬ x1 < d (x0 + 1 + 2) 0 from Int.not_lt.mpr z1)]
    rw [y0] at h
    rw [y1] at h
    exact h (show 0 ≤ ((1 : Int)) ∧ ((1 : Int)) ≤ 3 from (by omega)) (show ∀ b : Int, (b < x0 + 8 ∨ x0 + 10 < b) ∧ (b < x0 + 52 ∨ x0 + 52 < b) ∧ (b < x0 + 54 ∨ x0 + 55 < b) ∧ (b < x0 + 64 ∨ x0 + 64 < b) ∧ (b < x0 + 66 ∨ x0 + 569 < b) ∧ (b < x3 ∨ x3 < b) → d b = d b from fun _ _ => rfl) hS
def v_335 (x0 x1 x2 : Int) (d : mD) : Int := if x1 < 0 then 1 else if x1 < d (x0 + 1 + 2) 0 then (if d (x0 + 1 + 2 + 5) x1 = 0 then 0 else 2) else 1
def g_335 (x0 x1 x2 : Int) (d : mD) : mD := if x1 < 0 then d else if x1 < d (x0 + 1 + 2) 0 then (if d (x0 + 1 + 2 + 5) x1 = 0 then mset (mset (g_2 (x0 + 64) (x0 + 1) d) (x0 + 1 + 2 + 5) x1 1) x2 0 (v_37 (x0 + 1 + 2) (mset (g_2 (x0 + 64) (x0 + 1) d) (x0 + 1 + 2 + 5) x1 1)) else d) else d
theorem k_335 {E : mO × tW} {K : tK} {d : mD} {x0 x1 x2 : Int} (hS : Safe d) (hx0 : wbB x0) (hx2 : ouB x2) (p1 : -2147483648 ≤ x1 ∧ x1 ≤ 2147483647) (h : (0 ≤ (v_335 x0 x1 x2 d) ∧ (v_335 x0 x1 x2 d) ≤ 3) → (∀ b : Int, (b < x0 + 8 ∨ x0 + 8 < b) ∧ (b < x0 + 64 ∨ x0 + 64 < b) ∧ (b < x0 + 66 ∨ x0 + 569 < b) ∧ (b < x2 ∨ x2 < b) → (g_335 x0 x1 x2 d) b = d b) → Safe (g_335 x0 x1 x2 d) → K (.inl (some (0, (v_335 x0 x1 x2 d)))) (g_335 x0 x1 x2 d)) : tCall E 335 [.inr (10, x0), .inl (0, x1), .inr (30, x2)] d K := by
  refine t_335_0 ?_
  refine k_159 hS hx0 (m_inR (by omega) (by omega)) (fun z0 => ?_) (fun z0 z1 z2 e1 F1 hS1 => ?_) (fun z0 z1 z2 => ?_) (fun z0 z1 => ?_)
  · have y0 : v_335 x0 x1 x2 d = 1 := by simp only [v_335, if_pos (show x1 < 0 from z0)]
    have y1 : g_335 x0 x1 x2 d = d := by simp only [g_335, if_pos (show x1 < 0 from z0)]
    rw [y0] at h
    rw [y1] at h
    exact h (show 0 ≤ ((1 : Int)) ∧ ((1 : Int)) ≤ 3 from (by omega)) (show ∀ b : Int, (b < x0 + 8 ∨ x0 + 8 < b) ∧ (b < x0 + 64 ∨ x0 + 64 < b) ∧ (b < x0 + 66 ∨ x0 + 569 < b) ∧ (b < x2 ∨ x2 < b) → d b = d b from fun _ _ => rfl) hS
  · refine t_335_7 ?_
    refine ⟨m_inR (by omega) (by omega), by omega, ?_⟩
    have hS2 : Safe (mset (mset (g_2 (x0 + 64) (x0 + 1) d) (x0 + 1 + 2 + 5) x1 1) x2 0 (v_37 (x0 + 1 + 2) (mset (g_2 (x0 + 64) (x0 + 1) d) (x0 + 1 + 2 + 5) x1 1))) := s_ou hS1 hx2
    have y0 : v_335 x0 x1 x2 d = 0 := by simp only [v_335, if_neg (show ¬ x1 < 0 from Int.not_lt.mpr z0), if_pos (show x1 < d (x0 + 1 + 2) 0 from z1), if_pos (show d (x0 + 1 + 2 + 5) x1 = 0 from z2)]
    have y1 : g_335 x0 x1 x2 d = mset (mset (g_2 (x0 + 64) (x0 + 1) d) (x0 + 1 + 2 + 5) x1 1) x2 0 (v_37 (x0 + 1 + 2) (mset (g_2 (x0 + 64) (x0 + 1) d) (x0 + 1 + 2 + 5) x1 1)) := by simp only [g_335, if_neg (show ¬ x1 < 0 from Int.not_lt.mpr z0), if_pos (show x1 < d (x0 + 1 + 2) 0 from z1), if_pos (show d (x0 + 1 + 2 + 5) x1 = 0 from z2)]
    rw [y0] at h
    rw [y1] at h
    exact h (show 0 ≤ ((0 : Int)) ∧ ((0 : Int)) ≤ 3 from (by omega)) (show ∀ b : Int, (b < x0 + 8 ∨ x0 + 8 < b) ∧ (b < x0 + 64 ∨ x0 + 64 < b) ∧ (b < x0 + 66 ∨ x0 + 569 < b) ∧ (b < x2 ∨ x2 < b) → (mset (mset (g_2 (x0 + 64) (x0 + 1) d) (x0 + 1 + 2 + 5) x1 1) x2 0 (v_37 (x0 + 1 + 2) (mset (g_2 (x0 + 64) (x0 + 1) d) (x0 + 1 + 2 + 5) x1 1))) b = d b from fun b hb => (mset_ne (by omega)).trans (F1 b (by omega))) hS2
  · have y0 : v_335 x0 x1 x2 d = 2 := by simp only [v_335, if_neg (show ¬ x1 < 0 from Int.not_lt.mpr z0), if_pos (show x1 < d (x0 + 1 + 2) 0 from z1), if_neg (show ¬ d (x0 + 1 + 2 + 5) x1 = 0 from z2)]
    have y1 : g_335 x0 x1 x2 d = d := by simp only [g_335, if_neg (show ¬ x1 < 0 from Int.not_lt.mpr z0), if_pos (show x1 < d (x0 + 1 + 2) 0 from z1), if_neg (show ¬ d (x0 + 1 + 2 + 5) x1 = 0 from z2)]
    rw [y0] at h
    rw [y1] at h
    exact h (show 0 ≤ ((2 : Int)) ∧ ((2 : Int)) ≤ 3 from (by omega)) (show ∀ b : Int, (b < x0 + 8 ∨ x0 + 8 < b) ∧ (b < x0 + 64 ∨ x0 + 64 < b) ∧ (b < x0 + 66 ∨ x0 + 569 < b) ∧ (b < x2 ∨ x2 < b) → d b = d b from fun _ _ => rfl) hS
  · have y0 : v_335 x0 x1 x2 d = 1 := by simp only [v_335, if_neg (show ¬ x1 < 0 from Int.not_lt.mpr z0), if_neg (show ¬ x1 < d (x0 + 1 + 2) 0 from Int.not_lt.mpr z1)]
    have y1 : g_335 x0 x1 x2 d = d := by simp only [g_335, if_neg (show ¬ x1 < 0 from Int.not_lt.mpr z0), if_neg (show ¬ x1 < d (x0 + 1 + 2) 0 from Int.not_lt.mpr z1)]
    rw [y0] at h
    rw [y1] at h
    exact h (show 0 ≤ ((1 : Int)) ∧ ((1 : Int)) ≤ 3 from (by omega)) (show ∀ b : Int, (b < x0 + 8 ∨ x0 + 8 < b) ∧ (b < x0 + 64 ∨ x0 + 64 < b) ∧ (b < x0 + 66 ∨ x0 + 569 < b) ∧ (b < x2 ∨ x2 < b) → d b = d b from fun _ _ => rfl) hS
def v_336 (x0 x1 : Int) (d : mD) : Int := if v_93 (x0 + 578) 0 (d (x0 + 578) 1) d = (-1) then 1 else if d (x0 + 1 + 10) 0 < 16 then (if v_48 (x0 + 1 + 10) (v_93 (x0 + 578) 0 (d (x0 + 578) 1) d) (mset d (x0 + 578) 1 0) = (-1) then 0 else 2) else 2
def g_336 (x0 x1 : Int) (d : mD) : mD := if v_93 (x0 + 578) 0 (d (x0 + 578) 1) d = (-1) then mset d (x0 + 578) 1 0 else if d (x0 + 1 + 10) 0 < 16 then (if v_48 (x0 + 1 + 10) (v_93 (x0 + 578) 0 (d (x0 + 578) 1) d) (mset d (x0 + 578) 1 0) = (-1) then mset (g_47 (x0 + 1 + 10) (v_93 (x0 + 578) 0 (d (x0 + 578) 1) d) (g_2 (x0 + 64) (x0 + 1) (mset d (x0 + 578) 1 0))) x1 0 (((g_47 (x0 + 1 + 10) (v_93 (x0 + 578) 0 (d (x0 + 578) 1) d) (g_2 (x0 + 64) (x0 + 1) (mset d (x0 + 578) 1 0))) (x0 + 1 + 10) 0) - 1) else mset d (x0 + 578) 1 0) else mset d (x0 + 578) 1 0
theorem k_336 {E : mO × tW} {K : tK} {d : mD} {x0 x1 : Int} (hS : Safe d) (hx0 : wbB x0) (hx1 : ouB x1) (h : (0 ≤ (v_336 x0 x1 d) ∧ (v_336 x0 x1 d) ≤ 3) → (∀ b : Int, (b < x0 + 11 ∨ x0 + 16 < b) ∧ (b < x0 + 19 ∨ x0 + 49 < b) ∧ (b < x0 + 64 ∨ x0 + 64 < b) ∧ (b < x0 + 66 ∨ x0 + 569 < b) ∧ (b < x0 + 578 ∨ x0 + 578 < b) ∧ (b < x1 ∨ x1 < b) → (g_336 x0 x1 d) b = d b) → Safe (g_336 x0 x1 d) → K (.inl (some (0, (v_336 x0 x1 d)))) (g_336 x0 x1 d)) : tCall E 336 [.inr (10, x0), .inr (30, x1)] d K := by
  refine t_336_0 ?_
  refine k_160 hS hx0 (fun z0 z1 F1 hS1 => ?_) (fun z0 z1 z2 e1 F2 hS2 => ?_) (fun z0 z1 z2 F3 hS3 => ?_) (fun z0 F4 hS4 => ?_)
  · have y0 : v_336 x0 x1 d = 2 := by simp only [v_336, if_neg (show ¬ v_93 (x0 + 578) 0 (d (x0 + 578) 1) d = (-1) from z0), if_neg (show ¬ d (x0 + 1 + 10) 0 < 16 from Int.not_lt.mpr z1)]
    have y1 : g_336 x0 x1 d = mset d (x0 + 578) 1 0 := by simp only [g_336, if_neg (show ¬ v_93 (x0 + 578) 0 (d (x0 + 578) 1) d = (-1) from z0), if_neg (show ¬ d (x0 + 1 + 10) 0 < 16 from Int.not_lt.mpr z1)]
    rw [y0] at h
    rw [y1] at h
    exact h (show 0 ≤ ((2 : Int)) ∧ ((2 : Int)) ≤ 3 from (by omega)) (show ∀ b : Int, (b < x0 + 11 ∨ x0 + 16 < b) ∧ (b < x0 + 19 ∨ x0 + 49 < b) ∧ (b < x0 + 64 ∨ x0 + 64 < b) ∧ (b < x0 + 66 ∨ x0 + 569 < b) ∧ (b < x0 + 578 ∨ x0 + 578 < b) ∧ (b < x1 ∨ x1 < b) → (mset d (x0 + 578) 1 0) b = d b from fun b hb => F1 b (by omega)) hS1
  · refine t_336_6 ?_
    refine ⟨m_inR (by omega) (by omega), by omega, ?_⟩
    have hS5 : Safe (mset (g_47 (x0 + 1 + 10) (v_93 (x0 + 578) 0 (d (x0 + 578) 1) d) (g_2 (x0 + 64) (x0 + 1) (mset d (x0 + 578) 1 0))) x1 0 (((g_47 (x0 + 1 + 10) (v_93 (x0 + 578) 0 (d (x0 + 578) 1) d) (g_2 (x0 + 64) (x0 + 1) (mset d (x0 + 578) 1 0))) (x0 + 1 + 10) 0) - 1)) := s_ou hS2 hx1
    have y0 : v_336 x0 x1 d = 0 := by simp only [v_336, if_neg (show ¬ v_93 (x0 + 578) 0 (d (x0 + 578) 1) d = (-1) from z0), if_pos (show d (x0 + 1 + 10) 0 < 16 from z1), if_pos (show v_48 (x0 + 1 + 10) (v_93 (x0 + 578) 0 (d (x0 + 578) 1) d) (mset d (x0 + 578) 1 0) = (-1) from z2)]
    have y1 : g_336 x0 x1 d = mset (g_47 (x0 + 1 + 10) (v_93 (x0 + 578) 0 (d (x0 + 578) 1) d) (g_2 (x0 + 64) (x0 + 1) (mset d (x0 + 578) 1 0))) x1 0 (((g_47 (x0 + 1 + 10) (v_93 (x0 + 578) 0 (d (x0 + 578) 1) d) (g_2 (x0 + 64) (x0 + 1) (mset d (x0 + 578) 1 0))) (x0 + 1 + 10) 0) - 1) := by simp only [g_336, if_neg (show ¬ v_93 (x0 + 578) 0 (d (x0 + 578) 1) d = (-1) from z0), if_pos (show d (x0 + 1 + 10) 0 < 16 from z1), if_pos (show v_48 (x0 + 1 + 10) (v_93 (x0 + 578) 0 (d (x0 + 578) 1) d) (mset d (x0 + 578) 1 0) = (-1) from z2)]
    rw [y0] at h
    rw [y1] at h
    exact h (show 0 ≤ ((0 : Int)) ∧ ((0 : Int)) ≤ 3 from (by omega)) (show ∀ b : Int, (b < x0 + 11 ∨ x0 + 16 < b) ∧ (b < x0 + 19 ∨ x0 + 49 < b) ∧ (b < x0 + 64 ∨ x0 + 64 < b) ∧ (b < x0 + 66 ∨ x0 + 569 < b) ∧ (b < x0 + 578 ∨ x0 + 578 < b) ∧ (b < x1 ∨ x1 < b) → (mset (g_47 (x0 + 1 + 10) (v_93 (x0 + 578) 0 (d (x0 + 578) 1) d) (g_2 (x0 + 64) (x0 + 1) (mset d (x0 + 578) 1 0))) x1 0 (((g_47 (x0 + 1 + 10) (v_93 (x0 + 578) 0 (d (x0 + 578) 1) d) (g_2 (x0 + 64) (x0 + 1) (mset d (x0 + 578) 1 0))) (x0 + 1 + 10) 0) - 1)) b = d b from fun b hb => (mset_ne (by omega)).trans (F2 b (by omega))) hS5
  · have y0 : v_336 x0 x1 d = 2 := by simp only [v_336, if_neg (show ¬ v_93 (x0 + 578) 0 (d (x0 + 578) 1) d = (-1) from z0), if_pos (show d (x0 + 1 + 10) 0 < 16 from z1), if_neg (show ¬ v_48 (x0 + 1 + 10) (v_93 (x0 + 578) 0 (d (x0 + 578) 1) d) (mset d (x0 + 578) 1 0) = (-1) from z2)]
    have y1 : g_336 x0 x1 d = mset d (x0 + 578) 1 0 := by simp only [g_336, if_neg (show ¬ v_93 (x0 + 578) 0 (d (x0 + 578) 1) d = (-1) from z0), if_pos (show d (x0 + 1 + 10) 0 < 16 from z1), if_neg (show ¬ v_48 (x0 + 1 + 10) (v_93 (x0 + 578) 0 (d (x0 + 578) 1) d) (mset d (x0 + 578) 1 0) = (-1) from z2)]
    rw [y0] at h
    rw [y1] at h
    exact h (show 0 ≤ ((2 : Int)) ∧ ((2 : Int)) ≤ 3 from (by omega)) (show ∀ b : Int, (b < x0 + 11 ∨ x0 + 16 < b) ∧ (b < x0 + 19 ∨ x0 + 49 < b) ∧ (b < x0 + 64 ∨ x0 + 64 < b) ∧ (b < x0 + 66 ∨ x0 + 569 < b) ∧ (b < x0 + 578 ∨ x0 + 578 < b) ∧ (b < x1 ∨ x1 < b) → (mset d (x0 + 578) 1 0) b = d b from fun b hb => F3 b (by omega)) hS3
  · have y0 : v_336 x0 x1 d = 1 := by simp only [v_336, if_pos (show v_93 (x0 + 578) 0 (d (x0 + 578) 1) d = (-1) from z0)]
    have y1 : g_336 x0 x1 d = mset d (x0 + 578) 1 0 := by simp only [g_336, if_pos (show v_93 (x0 + 578) 0 (d (x0 + 578) 1) d = (-1) from z0)]
    rw [y0] at h
    rw [y1] at h
    exact h (show 0 ≤ ((1 : Int)) ∧ ((1 : Int)) ≤ 3 from (by omega)) (show ∀ b : Int, (b < x0 + 11 ∨ x0 + 16 < b) ∧ (b < x0 + 19 ∨ x0 + 49 < b) ∧ (b < x0 + 64 ∨ x0 + 64 < b) ∧ (b < x0 + 66 ∨ x0 + 569 < b) ∧ (b < x0 + 578 ∨ x0 + 578 < b) ∧ (b < x1 ∨ x1 < b) → (mset d (x0 + 578) 1 0) b = d b from fun b hb => F4 b (by omega)) hS4
def v_337 (x0 x1 x2 x3 : Int) (d : mD) : Int := if x1 < 0 then 1 else if x1 < 5 then (if x2 < olds 0 x1 then 1 else if olds 1 x1 < x2 then 1 else 0) else 1
def g_337 (x0 x1 x2 x3 : Int) (d : mD) : mD := if x1 < 0 then d else if x1 < 5 then (if x2 < olds 0 x1 then d else if olds 1 x1 < x2 then d else mset (mset (g_2 (x0 + 64) (x0 + 1) d) (x0 + 1 + 1) x1 x2) x3 0 (d (x0 + 1 + 1) x1)) else d
theorem k_337 {E : mO × tW} {K : tK} {d : mD} {x0 x1 x2 x3 : Int} (hE : EOK E) (hS : Safe d) (hx0 : wbB x0) (hx3 : ouB x3) (p1 : -2147483648 ≤ x1 ∧ x1 ≤ 2147483647) (p2 : -2147483648 ≤ x2 ∧ x2 ≤ 2147483647) (h : (0 ≤ (v_337 x0 x1 x2 x3 d) ∧ (v_337 x0 x1 x2 x3 d) ≤ 3) → (∀ b : Int, (b < x0 + 2 ∨ x0 + 2 < b) ∧ (b < x0 + 64 ∨ x0 + 64 < b) ∧ (b < x0 + 66 ∨ x0 + 569 < b) ∧ (b < x3 ∨ x3 < b) → (g_337 x0 x1 x2 x3 d) b = d b) → Safe (g_337 x0 x1 x2 x3 d) → K (.inl (some (0, (v_337 x0 x1 x2 x3 d)))) (g_337 x0 x1 x2 x3 d)) : tCall E 337 [.inr (10, x0), .inl (0, x1), .inl (0, x2), .inr (30, x3)] d K := by
  refine t_337_0 ?_
  refine k_161 hE hS hx0 (m_inR (by omega) (by omega)) (m_inR (by omega) (by omega)) (fun z0 => ?_) (fun z0 z1 z2 => ?_) (fun z0 z1 z2 z3 e1 F1 hS1 => ?_) (fun z0 z1 z2 z3 => ?_) (fun z0 z1 => ?_)
  · have y0 : v_337 x0 x1 x2 x3 d = 1 := by simp only [v_337, if_pos (show x1 < 0 from z0)]
    have y1 : g_337 x0 x1 x2 x3 d = d := by simp only [g_337, if_pos (show x1 < 0 from z0)]
    rw [y0] at h
    rw [y1] at h
    exact h (show 0 ≤ ((1 : Int)) ∧ ((1 : Int)) ≤ 3 from (by omega)) (show ∀ b : Int, (b < x0 + 2 ∨ x0 + 2 < b) ∧ (b < x0 + 64 ∨ x0 + 64 < b) ∧ (b < x0 + 66 ∨ x0 + 569 < b) ∧ (b < x3 ∨ x3 < b) → d b = d b from fun _ _ => rfl) hS
  · have y0 : v_337 x0 x1 x2 x3 d = 1 := by simp only [v_337, if_neg (show ¬ x1 < 0 from Int.not_lt.mpr z0), if_pos (show x1 < 5 from z1), if_pos (show x2 < olds 0 x1 from (by have u0 := EOK.at0 hE (i := x1) (by omega); have u1 := EOK.at1 hE (i := x1) (by omega); omega))]
    have y1 : g_337 x0 x1 x2 x3 d = d := by simp only [g_337, if_neg (show ¬ x1 < 0 from Int.not_lt.mpr z0), if_pos (show x1 < 5 from z1), if_pos (show x2 < olds 0 x1 from (by have u0 := EOK.at0 hE (i := x1) (by omega); have u1 := EOK.at1 hE (i := x1) (by omega); omega))]
    rw [y0] at h
    rw [y1] at h
    exact h (show 0 ≤ ((1 : Int)) ∧ ((1 : Int)) ≤ 3 from (by omega)) (show ∀ b : Int, (b < x0 + 2 ∨ x0 + 2 < b) ∧ (b < x0 + 64 ∨ x0 + 64 < b) ∧ (b < x0 + 66 ∨ x0 + 569 < b) ∧ (b < x3 ∨ x3 < b) → d b = d b from fun _ _ => rfl) hS
  · refine t_337_8 ?_
    refine ⟨m_inR (by omega) (by omega), by omega, ?_⟩
    have hS2 : Safe (mset (mset (g_2 (x0 + 64) (x0 + 1) d) (x0 + 1 + 1) x1 x2) x3 0 (d (x0 + 1 + 1) x1)) := s_ou hS1 hx3
    have y0 : v_337 x0 x1 x2 x3 d = 0 := by simp only [v_337, if_neg (show ¬ x1 < 0 from Int.not_lt.mpr z0), if_pos (show x1 < 5 from z1), if_neg (show ¬ x2 < olds 0 x1 from Int.not_lt.mpr (by have u0 := EOK.at0 hE (i := x1) (by omega); have u1 := EOK.at1 hE (i := x1) (by omega); omega)), if_neg (show ¬ olds 1 x1 < x2 from Int.not_lt.mpr (by have u0 := EOK.at0 hE (i := x1) (by omega); have u1 := EOK.at1 hE (i := x1) (by omega); omega))]
    have y1 : g_337 x0 x1 x2 x3 d = mset (mset (g_2 (x0 + 64) (x0 + 1) d) (x0 + 1 + 1) x1 x2) x3 0 (d (x0 + 1 + 1) x1) := by simp only [g_337, if_neg (show ¬ x1 < 0 from Int.not_lt.mpr z0), if_pos (show x1 < 5 from z1), if_neg (show ¬ x2 < olds 0 x1 from Int.not_lt.mpr (by have u0 := EOK.at0 hE (i := x1) (by omega); have u1 := EOK.at1 hE (i := x1) (by omega); omega)), if_neg (show ¬ olds 1 x1 < x2 from Int.not_lt.mpr (by have u0 := EOK.at0 hE (i := x1) (by omega); have u1 := EOK.at1 hE (i := x1) (by omega); omega))]
    rw [y0] at h
    rw [y1] at h
    exact h (show 0 ≤ ((0 : Int)) ∧ ((0 : Int)) ≤ 3 from (by omega)) (show ∀ b : Int, (b < x0 + 2 ∨ x0 + 2 < b) ∧ (b < x0 + 64 ∨ x0 + 64 < b) ∧ (b < x0 + 66 ∨ x0 + 569 < b) ∧ (b < x3 ∨ x3 < b) → (mset (mset (g_2 (x0 + 64) (x0 + 1) d) (x0 + 1 + 1) x1 x2) x3 0 (d (x0 + 1 + 1) x1)) b = d b from fun b hb => (mset_ne (by omega)).trans (F1 b (by omega))) hS2
  · have y0 : v_337 x0 x1 x2 x3 d = 1 := by simp only [v_337, if_neg (show ¬ x1 < 0 from Int.not_lt.mpr z0), if_pos (show x1 < 5 from z1), if_neg (show ¬ x2 < olds 0 x1 from Int.not_lt.mpr (by have u0 := EOK.at0 hE (i := x1) (by omega); have u1 := EOK.at1 hE (i := x1) (by omega); omega)), if_pos (show olds 1 x1 < x2 from (by have u0 := EOK.at0 hE (i := x1) (by omega); have u1 := EOK.at1 hE (i := x1) (by omega); omega))]
    have y1 : g_337 x0 x1 x2 x3 d = d := by simp only [g_337, if_neg (show ¬ x1 < 0 from Int.not_lt.mpr z0), if_pos (show x1 < 5 from z1), if_neg (show ¬ x2 < olds 0 x1 from Int.not_lt.mpr (by have u0 := EOK.at0 hE (i := x1) (by omega); have u1 := EOK.at1 hE (i := x1) (by omega); omega)), if_pos (show olds 1 x1 < x2 from (by have u0 := EOK.at0 hE (i := x1) (by omega); have u1 := EOK.at1 hE (i := x1) (by omega); omega))]
    rw [y0] at h
    rw [y1] at h
    exact h (show 0 ≤ ((1 : Int)) ∧ ((1 : Int)) ≤ 3 from (by omega)) (show ∀ b : Int, (b < x0 + 2 ∨ x0 + 2 < b) ∧ (b < x0 + 64 ∨ x0 + 64 < b) ∧ (b < x0 + 66 ∨ x0 + 569 < b) ∧ (b < x3 ∨ x3 < b) → d b = d b from fun _ _ => rfl) hS
  · have y0 : v_337 x0 x1 x2 x3 d = 1 := by simp only [v_337, if_neg (show ¬ x1 < 0 from Int.not_lt.mpr z0), if_neg (show ¬ x1 < 5 from Int.not_lt.mpr z1)]
    have y1 : g_337 x0 x1 x2 x3 d = d := by simp only [g_337, if_neg (show ¬ x1 < 0 from Int.not_lt.mpr z0), if_neg (show ¬ x1 < 5 from Int.not_lt.mpr z1)]
    rw [y0] at h
    rw [y1] at h
    exact h (show 0 ≤ ((1 : Int)) ∧ ((1 : Int)) ≤ 3 from (by omega)) (show ∀ b : Int, (b < x0 + 2 ∨ x0 + 2 < b) ∧ (b < x0 + 64 ∨ x0 + 64 < b) ∧ (b < x0 + 66 ∨ x0 + 569 < b) ∧ (b < x3 ∨ x3 < b) → d b = d b from fun _ _ => rfl) hS
def v_338 (x0 x1 : Int) (d : mD) : Int := if d (x0 + 64) 2 = 0 then 1 else 0
def g_338 (x0 x1 : Int) (d : mD) : mD := if d (x0 + 64) 2 = 0 then d else mset (g_3 (x0 + 64) (x0 + 1) d) x1 0 ((g_3 (x0 + 64) (x0 + 1) d) (x0 + 64) 2)
theorem k_338 {E : mO × tW} {K : tK} {d : mD} {x0 x1 : Int} (hS : Safe d) (hx0 : wbB x0) (hx1 : ouB x1) (h : (0 ≤ (v_338 x0 x1 d) ∧ (v_338 x0 x1 d) ≤ 3) → (∀ b : Int, (b < x0 + 1 ∨ x0 + 16 < b) ∧ (b < x0 + 19 ∨ x0 + 64 < b) ∧ (b < x1 ∨ x1 < b) → (g_338 x0 x1 d) b = d b) → Safe (g_338 x0 x1 d) → K (.inl (some (0, (v_338 x0 x1 d)))) (g_338 x0 x1 d)) : tCall E 338 [.inr (10, x0), .inr (30, x1)] d K := by
  refine t_338_0 ?_
  refine k_162 hS hx0 (fun z0 e1 F1 hS1 => ?_) (fun z0 => ?_)
  · refine t_338_6 ?_
    refine ⟨m_inR (by omega) (by omega), by omega, ?_⟩
    have hS2 : Safe (mset (g_3 (x0 + 64) (x0 + 1) d) x1 0 ((g_3 (x0 + 64) (x0 + 1) d) (x0 + 64) 2)) := s_ou hS1 hx1
    have y0 : v_338 x0 x1 d = 0 := by simp only [v_338, if_neg (show ¬ d (x0 + 64) 2 = 0 from z0)]
    have y1 : g_338 x0 x1 d = mset (g_3 (x0 + 64) (x0 + 1) d) x1 0 ((g_3 (x0 + 64) (x0 + 1) d) (x0 + 64) 2) := by simp only [g_338, if_neg (show ¬ d (x0 + 64) 2 = 0 from z0)]
    rw [y0] at h
    rw [y1] at h
    exact h (show 0 ≤ ((0 : Int)) ∧ ((0 : Int)) ≤ 3 from (by omega)) (show ∀ b : Int, (b < x0 + 1 ∨ x0 + 16 < b) ∧ (b < x0 + 19 ∨ x0 + 64 < b) ∧ (b < x1 ∨ x1 < b) → (mset (g_3 (x0 + 64) (x0 + 1) d) x1 0 ((g_3 (x0 + 64) (x0 + 1) d) (x0 + 64) 2)) b = d b from fun b hb => (mset_ne (by omega)).trans (F1 b (by omega))) hS2
  · have y0 : v_338 x0 x1 d = 1 := by simp only [v_338, if_pos (show d (x0 + 64) 2 = 0 from z0)]
    have y1 : g_338 x0 x1 d = d := by simp only [g_338, if_pos (show d (x0 + 64) 2 = 0 from z0)]
    rw [y0] at h
    rw [y1] at h
    exact h (show 0 ≤ ((1 : Int)) ∧ ((1 : Int)) ≤ 3 from (by omega)) (show ∀ b : Int, (b < x0 + 1 ∨ x0 + 16 < b) ∧ (b < x0 + 19 ∨ x0 + 64 < b) ∧ (b < x1 ∨ x1 < b) → d b = d b from fun _ _ => rfl) hS
def v_339 (x0 x1 : Int) (d : mD) : Int := if x1 < 0 then 1 else if x1 < 2 then 0 else 1
def g_339 (x0 x1 : Int) (d : mD) : mD := if x1 < 0 then d else if x1 < 2 then mset (g_59 (x0 + 570 + (73 + 63 * x1)) (x0 + 1) d) (x0 + 571) x1 1 else d
theorem k_339 {E : mO × tW} {K : tK} {d : mD} {x0 x1 : Int} (hS : Safe d) (hx0 : wbB x0) (p1 : -2147483648 ≤ x1 ∧ x1 ≤ 2147483647) (h : (0 ≤ (v_339 x0 x1 d) ∧ (v_339 x0 x1 d) ≤ 3) → (∀ b : Int, (b < x0 + 571 ∨ x0 + 571 < b) ∧ (b < x0 + 643 ∨ x0 + 768 < b) → (g_339 x0 x1 d) b = d b) → Safe (g_339 x0 x1 d) → K (.inl (some (0, (v_339 x0 x1 d)))) (g_339 x0 x1 d)) : tCall E 339 [.inr (10, x0), .inl (0, x1)] d K := by
  refine t_339_0 ?_
  refine k_163 hS hx0 (m_inR (by omega) (by omega)) (fun z0 => ?_) (fun z0 z1 F1 hS1 => ?_) (fun z0 z1 => ?_)
  · have y0 : v_339 x0 x1 d = 1 := by simp only [v_339, if_pos (show x1 < 0 from z0)]
    have y1 : g_339 x0 x1 d = d := by simp only [g_339, if_pos (show x1 < 0 from z0)]
    rw [y0] at h
    rw [y1] at h
    exact h (show 0 ≤ ((1 : Int)) ∧ ((1 : Int)) ≤ 3 from (by omega)) (show ∀ b : Int, (b < x0 + 571 ∨ x0 + 571 < b) ∧ (b < x0 + 643 ∨ x0 + 768 < b) → d b = d b from fun _ _ => rfl) hS
  · refine t_339_5 ?_
    have y0 : v_339 x0 x1 d = 0 := by simp only [v_339, if_neg (show ¬ x1 < 0 from Int.not_lt.mpr z0), if_pos (show x1 < 2 from z1)]
    have y1 : g_339 x0 x1 d = mset (g_59 (x0 + 570 + (73 + 63 * x1)) (x0 + 1) d) (x0 + 571) x1 1 := by simp only [g_339, if_neg (show ¬ x1 < 0 from Int.not_lt.mpr z0), if_pos (show x1 < 2 from z1)]
    rw [y0] at h
    rw [y1] at h
    exact h (show 0 ≤ ((0 : Int)) ∧ ((0 : Int)) ≤ 3 from (by omega)) (show ∀ b : Int, (b < x0 + 571 ∨ x0 + 571 < b) ∧ (b < x0 + 643 ∨ x0 + 768 < b) → (mset (g_59 (x0 + 570 + (73 + 63 * x1)) (x0 + 1) d) (x0 + 571) x1 1) b = d b from fun b hb => F1 b (by omega)) hS1
  · have y0 : v_339 x0 x1 d = 1 := by simp only [v_339, if_neg (show ¬ x1 < 0 from Int.not_lt.mpr z0), if_neg (show ¬ x1 < 2 from Int.not_lt.mpr z1)]
    have y1 : g_339 x0 x1 d = d := by simp only [g_339, if_neg (show ¬ x1 < 0 from Int.not_lt.mpr z0), if_neg (show ¬ x1 < 2 from Int.not_lt.mpr z1)]
    rw [y0] at h
    rw [y1] at h
    exact h (show 0 ≤ ((1 : Int)) ∧ ((1 : Int)) ≤ 3 from (by omega)) (show ∀ b : Int, (b < x0 + 571 ∨ x0 + 571 < b) ∧ (b < x0 + 643 ∨ x0 + 768 < b) → d b = d b from fun _ _ => rfl) hS
def v_340 (x0 x1 : Int) (d : mD) : Int := if x1 < 0 then 1 else if x1 < 2 then (if d (x0 + 571) x1 = 0 then 2 else 0) else 1
def g_340 (x0 x1 : Int) (d : mD) : mD := if x1 < 0 then d else if x1 < 2 then (if d (x0 + 571) x1 = 0 then d else g_4 (x0 + 64) (g_59 (x0 + 1) (x0 + 570 + (73 + 63 * x1)) d)) else d
theorem k_340 {E : mO × tW} {K : tK} {d : mD} {x0 x1 : Int} (hS : Safe d) (hx0 : wbB x0) (p1 : -2147483648 ≤ x1 ∧ x1 ≤ 2147483647) (h : (0 ≤ (v_340 x0 x1 d) ∧ (v_340 x0 x1 d) ≤ 3) → (∀ b : Int, (b < x0 + 1 ∨ x0 + 16 < b) ∧ (b < x0 + 19 ∨ x0 + 64 < b) → (g_340 x0 x1 d) b = d b) → Safe (g_340 x0 x1 d) → K (.inl (some (0, (v_340 x0 x1 d)))) (g_340 x0 x1 d)) : tCall E 340 [.inr (10, x0), .inl (0, x1)] d K := by
  refine t_340_0 ?_
  refine k_164 hS hx0 (m_inR (by omega) (by omega)) (fun z0 => ?_) (fun z0 z1 z2 F1 hS1 => ?_) (fun z0 z1 z2 => ?_) (fun z0 z1 => ?_)
  · have y0 : v_340 x0 x1 d = 1 := by simp only [v_340, if_pos (show x1 < 0 from z0)]
    have y1 : g_340 x0 x1 d = d := by simp only [g_340, if_pos (show x1 < 0 from z0)]
    rw [y0] at h
    rw [y1] at h
    exact h (show 0 ≤ ((1 : Int)) ∧ ((1 : Int)) ≤ 3 from (by omega)) (show ∀ b : Int, (b < x0 + 1 ∨ x0 + 16 < b) ∧ (b < x0 + 19 ∨ x0 + 64 < b) → d b = d b from fun _ _ => rfl) hS
  · refine t_340_5 ?_
    have y0 : v_340 x0 x1 d = 0 := by simp only [v_340, if_neg (show ¬ x1 < 0 from Int.not_lt.mpr z0), if_pos (show x1 < 2 from z1), if_neg (show ¬ d (x0 + 571) x1 = 0 from z2)]
    have y1 : g_340 x0 x1 d = g_4 (x0 + 64) (g_59 (x0 + 1) (x0 + 570 + (73 + 63 * x1)) d) := by simp only [g_340, if_neg (show ¬ x1 < 0 from Int.not_lt.mpr z0), if_pos (show x1 < 2 from z1), if_neg (show ¬ d (x0 + 571) x1 = 0 from z2)]
    rw [y0] at h
    rw [y1] at h
    exact h (show 0 ≤ ((0 : Int)) ∧ ((0 : Int)) ≤ 3 from (by omega)) (show ∀ b : Int, (b < x0 + 1 ∨ x0 + 16 < b) ∧ (b < x0 + 19 ∨ x0 + 64 < b) → (g_4 (x0 + 64) (g_59 (x0 + 1) (x0 + 570 + (73 + 63 * x1)) d)) b = d b from fun b hb => F1 b (by omega)) hS1
  · have y0 : v_340 x0 x1 d = 2 := by simp only [v_340, if_neg (show ¬ x1 < 0 from Int.not_lt.mpr z0), if_pos (show x1 < 2 from z1), if_pos (show d (x0 + 571) x1 = 0 from z2)]
    have y1 : g_340 x0 x1 d = d := by simp only [g_340, if_neg (show ¬ x1 < 0 from Int.not_lt.mpr z0), if_pos (show x1 < 2 from z1), if_pos (show d (x0 + 571) x1 = 0 from z2)]
    rw [y0] at h
    rw [y1] at h
    exact h (show 0 ≤ ((2 : Int)) ∧ ((2 : Int)) ≤ 3 from (by omega)) (show ∀ b : Int, (b < x0 + 1 ∨ x0 + 16 < b) ∧ (b < x0 + 19 ∨ x0 + 64 < b) → d b = d b from fun _ _ => rfl) hS
  · have y0 : v_340 x0 x1 d = 1 := by simp only [v_340, if_neg (show ¬ x1 < 0 from Int.not_lt.mpr z0), if_neg (show ¬ x1 < 2 from Int.not_lt.mpr z1)]
    have y1 : g_340 x0 x1 d = d := by simp only [g_340, if_neg (show ¬ x1 < 0 from Int.not_lt.mpr z0), if_neg (show ¬ x1 < 2 from Int.not_lt.mpr z1)]
    rw [y0] at h
    rw [y1] at h
    exact h (show 0 ≤ ((1 : Int)) ∧ ((1 : Int)) ≤ 3 from (by omega)) (show ∀ b : Int, (b < x0 + 1 ∨ x0 + 16 < b) ∧ (b < x0 + 19 ∨ x0 + 64 < b) → d b = d b from fun _ _ => rfl) hS
/-! ===== what a run's end may claim of the numbers it began with: adequacy ===== -/
theorem mlen_hi9 (j : Nat) (h : 420 ≤ j) : mlen j = 0 := by
  unfold mlen
  rw [show Nat.ble 210 j = true from Nat.ble_eq_true_of_le (by omega)]
  dsimp only [cond]
  rw [show Nat.ble 315 j = true from Nat.ble_eq_true_of_le (by omega)]
  dsimp only [cond]
  rw [show Nat.ble 367 j = true from Nat.ble_eq_true_of_le (by omega)]
  dsimp only [cond]
  rw [show Nat.ble 393 j = true from Nat.ble_eq_true_of_le (by omega)]
  dsimp only [cond]
  rw [show Nat.ble 406 j = true from Nat.ble_eq_true_of_le (by omega)]
  dsimp only [cond]
  rw [show Nat.ble 413 j = true from Nat.ble_eq_true_of_le (by omega)]
  dsimp only [cond]
  rw [show Nat.ble 416 j = true from Nat.ble_eq_true_of_le (by omega)]
  dsimp only [cond]
  rw [show Nat.ble 418 j = true from Nat.ble_eq_true_of_le (by omega)]
  dsimp only [cond]
  rw [show Nat.ble 419 j = true from Nat.ble_eq_true_of_le (by omega)]
  dsimp only [cond]
  rw [show Nat.beq j 419 = false from by cases hb : Nat.beq j 419 with | false => rfl | true => exact absurd (Nat.eq_of_beq_eq_true hb) (by omega)]
def swOK (i : Instr) : Bool := match i with
  | .tableswitch _ lo hi ts => decide ((ts.toList.length : Int) = hi - lo + 1)
  | _ => true
def swM (m pc : Nat) : Bool := match mfetch m pc with
  | some (i, _) => swOK i
  | none => true
set_option maxRecDepth 100000 in
theorem sw_all : (List.range 420).all (fun j => (List.range (mlen j)).all (fun pc => swM j pc)) = true := by decide +kernel
theorem swf {m pc len : Nat} {i : Instr} (h : mfetch m pc = some (i, len)) : swOK i = true := by
  have hl : pc < mlen m := by
    rcases Nat.lt_or_ge pc (mlen m) with c | c
    · exact c
    · unfold mfetch at h
      rw [Nat.ble_eq_true_of_le c] at h
      cases h
  have hm : m < 420 := by
    rcases Nat.lt_or_ge m 420 with c | c
    · exact c
    · have h9 := mlen_hi9 m c
      omega
  have k := List.all_eq_true.mp (List.all_eq_true.mp sw_all m (List.mem_range.mpr hm)) pc (List.mem_range.mpr hl)
  unfold swM at k
  rw [h] at k
  exact k
theorem mall_mem {B : mSt → Prop} : ∀ {bs : List (Prop × mSt)} {q : Prop} {st : mSt}, mall B bs → (q, st) ∈ bs → q → B st
  | [], _, _, _, hm, _ => absurd hm (by simp)
  | [(p, s0)], q, st, h, hm, hq => by
    have e := List.mem_singleton.mp hm
    cases e
    exact h hq
  | (p, s0) :: (b :: r), q, st, h, hm, hq => by
    rcases List.mem_cons.mp hm with e | e
    · cases e
      exact h.1 hq
    · exact mall_mem h.2 e hq
theorem mncond_of (o : ClassFile.Cond) (x y : Int) (h : ¬ mcond o x y) : mncond o x y := by
  cases o <;> simp only [mcond, mncond] at h ⊢ <;> omega
theorem msw_mem (x : Int) (f : Nat → mSt) : ∀ (ts : List Int) (k : Int), k ≤ x → x < k + (ts.length : Int) → ∃ q st, (q, st) ∈ msw x f k ts ∧ q
  | [], k, h0, h1 => by simp at h1; omega
  | t :: ts, k, h0, h1 => by
    by_cases c : x = k
    · exact ⟨x = k, f t.toNat, List.mem_cons_self .., c⟩
    · obtain ⟨q, st, hm, hq⟩ := msw_mem x f ts (k + 1) (by omega) (by simp at h1; omega)
      exact ⟨q, st, List.mem_cons_of_mem _ hm, hq⟩
set_option maxHeartbeats 4000000 in
theorem mX_ex {O : mO} {m len pc c s : Nat} {i : Instr} {L S : List mV} {G : mG} {d : mD} {p : Prop} {bs : List (Prop × mSt)} (hs : swOK i = true) (e : mX O m len i pc L S c s G d = .inr (.inr (.inl (p, bs)))) : ∃ q st, (q, st) ∈ bs ∧ q := by
  unfold mX at e
  split at e
  all_goals first
    | (cases e; done)
    | (split at e <;> first | (cases e; done) | skip)
    | skip
  all_goals first
    | (rename_i o t _ x S'
       cases e
       by_cases h : mcond o x 0
       · exact ⟨_, _, List.mem_cons_self .., h⟩
       · exact ⟨_, _, List.mem_cons_of_mem _ (List.mem_cons_self ..), mncond_of _ _ _ h⟩)
    | (rename_i o t _ y x S'
       cases e
       by_cases h : mcond o x y
       · exact ⟨_, _, List.mem_cons_self .., h⟩
       · exact ⟨_, _, List.mem_cons_of_mem _ (List.mem_cons_self ..), mncond_of _ _ _ h⟩)
    | (rename_i t lo hi ts _ x S'
       cases e
       by_cases h : x < lo ∨ hi < x
       · exact ⟨_, _, List.mem_append_right _ (List.mem_singleton.mpr rfl), h⟩
       · have hn := of_decide_eq_true hs
         obtain ⟨q, st, hm, hq⟩ := msw_mem x _ ts.toList lo (by omega) (by omega)
         exact ⟨q, st, List.mem_append_left _ hm, hq⟩)
    | (split at e <;> first | (cases e; done) | (split at e <;> cases e))
theorem mAdq {O : mO} {P : Prop} {m : Nat} {st : mSt} {K : mK} (h : mRun O m st K) (hk : ∀ r G d, K r G d → P) : P := by
  refine h (fun m st K => (∀ r G d, K r G d → P) → P) ?_ ⟨fun _ _ _ _ _ _ _ _ _ _ _ _ k => k, fun m st K h hk => h (fun r G d hr => match r, hr with | .inl _, hr => (by obtain ⟨G1, d1, -, k⟩ := hr; exact hk _ _ _ k) | .inr _, hr => hk _ _ _ hr)⟩ hk
  intro m st K hs hk
  obtain ⟨pc, L, S, c, s, G, d⟩ := st
  simp only [mstep, mstp] at hs
  split at hs
  · rename_i i len hf
    generalize e : mX O m len i pc L S c s G d = nx at hs
    match nx, e, hs with
    | .inl st, _, hs => exact hs hk
    | .inr (.inl (p, st)), _, hs => exact hs.2 hk
    | .inr (.inr (.inl (p, bs))), e, hs =>
      obtain ⟨q, st, hm, hq⟩ := mX_ex (swf hf) e
      exact mall_mem hs.2 hm hq hk
    | .inr (.inr (.inr (.inl (p, j, as, pc, L, S, c, s, G, d)))), _, hs =>
      refine hs.2 (fun r G d hr => ?_)
      match r, hr with
      | .inl (some v), hr => exact hr hk
      | .inl none, hr => exact hr hk
      | .inr e, hr =>
        simp only [mback] at hr
        split at hr
        · exact hk _ _ _ hr.2
        · exact hk _ _ _ hr.2
    | .inr (.inr (.inr (.inr (p, .inl r, G, d)))), _, hs => exact hk _ _ _ hs.2
    | .inr (.inr (.inr (.inr (p, .inr r, G, d)))), _, hs => exact hk _ _ _ (hs.2 (msig (mtau G.2.2)) (msig_tau _).1 (by rw [(msig_tau _).2]; exact Nat.le_refl _))
  · exact hs.elim
-- what a contract tells of its answer and its memory, out of the machine: P is free of both
theorem tAdq {E : mO × tW} {P : Prop} {j : Nat} {as : List tV} {d : mD} (ha : tokL E.2 as) (hd : tSh E.2 d) (h : tCall E j as d (fun _ d' => tSh E.2 d' → P)) : P := by
  obtain ⟨nx, hn⟩ := mfq_ex E.2
  exact mAdq (h nx (fun _ _ _ => P) hn (ok_pad _ (ok_lay ha)) trivial hd (fun _ _ _ _ hs k => k hs)) (fun _ _ _ k => k)
/-! ===== the ranges hold behind the constructors ===== -/
def rkDec (n : Nat) (v : Int) : Decidable (rk n v) := by
  unfold rk
  split <;> infer_instance
def rgDec (k : Nat) (i v : Int) : Decidable (rg k i v) := by
  unfold rg
  split <;> first
    | infer_instance
    | exact rkDec _ _
theorem rk_z (n : Nat) : rk n 0 := by
  unfold rk
  split <;> (first | trivial | exact ⟨by decide, by decide⟩)
theorem rg_z (k : Nat) (i : Int) : rg k i 0 := by
  unfold rg
  split
  all_goals first
    | trivial
    | exact ⟨by decide, by decide⟩
    | exact rk_z _
    | exact fun _ => ⟨by decide, by decide⟩
    | (refine ⟨?_, ?_⟩ <;> exact fun _ => ⟨by decide, by decide⟩)
    | (refine ⟨?_, ?_, ?_, ?_⟩ <;> exact fun _ => ⟨by decide, by decide⟩)
    | (refine ⟨?_, ?_, ?_, ?_, ?_⟩ <;> exact fun _ => ⟨by decide, by decide⟩)
    | (refine ⟨?_, ?_, ?_, ?_, ?_, ?_, ?_, ?_, ?_, ?_, ?_⟩ <;> exact fun _ => ⟨by decide, by decide⟩)
theorem rg_hi {k : Nat} (h : 779 ≤ k) (i v : Int) : rg k i v := by
  unfold rg
  split
  all_goals first
    | trivial
    | omega
def rgAny (k : Nat) : Bool := match k with
  | 12 => true
  | 15 => true
  | 16 => true
  | 17 => true
  | 18 => true
  | 19 => true
  | 20 => true
  | 21 => true
  | 22 => true
  | 23 => true
  | 24 => true
  | 25 => true
  | 26 => true
  | 27 => true
  | 28 => true
  | 29 => true
  | 30 => true
  | 31 => true
  | 32 => true
  | 33 => true
  | 34 => true
  | 35 => true
  | 36 => true
  | 37 => true
  | 38 => true
  | 39 => true
  | 40 => true
  | 41 => true
  | 42 => true
  | 43 => true
  | 44 => true
  | 45 => true
  | 46 => true
  | 47 => true
  | 48 => true
  | 56 => true
  | 65 => true
  | 570 => true
  | 574 => true
  | 575 => true
  | 778 => true
  | 999 => true
  | _ => false
theorem rgAny_ok {k : Nat} (h0 : rgAny k = true) (i v : Int) : rg k i v := by
  revert h0
  unfold rgAny
  split
  all_goals intro h
  all_goals first
    | trivial
    | cases h
noncomputable def rgFree (k : Nat) (i : Int) : Bool := match k with
  | 0 => !zeq i 1 && !zeq i 2
  | 63 => !zeq i 1 && !zeq i 2
  | 2 => !zeq i 0
  | 10 => !zeq i 0
  | 49 => !zeq i 0
  | 57 => !zeq i 0 && !zeq i 5
  | 64 => !zeq i 1 && !zeq i 2
  | 572 => !zeq i 1
  | 578 => !zeq i 1
  | 576 => !zeq i 2 && !zeq i 3 && !zeq i 4 && !zeq i 5 && !zeq i 6
  | 577 => !zeq i 1 && !zeq i 2 && !zeq i 3 && !zeq i 4
  | 769 => !zeq i 0 && !zeq i 7 && !zeq i 9 && !zeq i 10 && !zeq i 11 && !zeq i 12 && !zeq i 13 && !zeq i 14 && !zeq i 15 && !zeq i 16 && !zeq i 18
  | _ => false
theorem rgFree_ok {k : Nat} {i : Int} (h0 : rgFree k i = true) (v : Int) : rg k i v := by
  revert h0
  unfold rgFree
  split
  all_goals intro h
  · exact ⟨fun e => by subst e; exact absurd h (by decide), fun e => by subst e; exact absurd h (by decide)⟩
  · exact ⟨fun e => by subst e; exact absurd h (by decide), fun e => by subst e; exact absurd h (by decide)⟩
  · exact fun e => by subst e; exact absurd h (by decide)
  · exact fun e => by subst e; exact absurd h (by decide)
  · exact fun e => by subst e; exact absurd h (by decide)
  · exact ⟨fun e => by subst e; exact absurd h (by decide), fun e => by subst e; exact absurd h (by decide)⟩
  · exact ⟨fun e => by subst e; exact absurd h (by decide), fun e => by subst e; exact absurd h (by decide)⟩
  · exact fun e => by subst e; exact absurd h (by decide)
  · exact fun e => by subst e; exact absurd h (by decide)
  · exact ⟨fun e => by subst e; exact absurd h (by decide), fun e => by subst e; exact absurd h (by decide), fun e => by subst e; exact absurd h (by decide), fun e => by subst e; exact absurd h (by decide), fun e => by subst e; exact absurd h (by decide)⟩
  · exact ⟨fun e => by subst e; exact absurd h (by decide), fun e => by subst e; exact absurd h (by decide), fun e => by subst e; exact absurd h (by decide), fun e => by subst e; exact absurd h (by decide)⟩
  · exact ⟨fun e => by subst e; exact absurd h (by decide), fun e => by subst e; exact absurd h (by decide), fun e => by subst e; exact absurd h (by decide), fun e => by subst e; exact absurd h (by decide), fun e => by subst e; exact absurd h (by decide), fun e => by subst e; exact absurd h (by decide), fun e => by subst e; exact absurd h (by decide), fun e => by subst e; exact absurd h (by decide), fun e => by subst e; exact absurd h (by decide), fun e => by subst e; exact absurd h (by decide), fun e => by subst e; exact absurd h (by decide)⟩
  · cases h
def isObj (k : Nat) : Bool := match k with
  | 0 => true
  | 63 => true
  | 2 => true
  | 10 => true
  | 49 => true
  | 57 => true
  | 64 => true
  | 572 => true
  | 578 => true
  | 576 => true
  | 577 => true
  | 769 => true
  | _ => false
theorem isObj_ok {k : Nat} {i : Int} (h0 : isObj k = true) (hi : 32 ≤ i) (v : Int) : rg k i v := by
  revert h0
  unfold isObj
  split
  all_goals intro h
  · exact ⟨fun e => by omega, fun e => by omega⟩
  · exact ⟨fun e => by omega, fun e => by omega⟩
  · exact fun e => by omega
  · exact fun e => by omega
  · exact fun e => by omega
  · exact ⟨fun e => by omega, fun e => by omega⟩
  · exact ⟨fun e => by omega, fun e => by omega⟩
  · exact fun e => by omega
  · exact fun e => by omega
  · exact ⟨fun e => by omega, fun e => by omega, fun e => by omega, fun e => by omega, fun e => by omega⟩
  · exact ⟨fun e => by omega, fun e => by omega, fun e => by omega, fun e => by omega⟩
  · exact ⟨fun e => by omega, fun e => by omega, fun e => by omega, fun e => by omega, fun e => by omega, fun e => by omega, fun e => by omega, fun e => by omega, fun e => by omega, fun e => by omega, fun e => by omega⟩
  · cases h
noncomputable def stV (k : Nat) (i : Int) (x : aN) : Bool := match x with
  | (0, v) => zeq v 0 || @decide (rg k i v) (rgDec k i v)
  | _ => rgAny k || rgFree k i
noncomputable def stD (k n : Nat) (x : aN) : Bool := rgAny k || (isObj k && Nat.ble 1 n) || (match x with
  | (0, v) => zeq v 0
  | _ => false)
noncomputable def stC1 (a : Nat) (c : aC) : Bool := match c with
  | (k, n, x, l) => !Nat.beq k 999 && stD (tcd (a : Int)) l.length x && (List.range (32 * l.length)).all (fun i => stV (tcd (a : Int)) (i : Int) (aget (k, n, x, l) i))
theorem stC1_eq (a : Nat) (c : aC) : stC1 a c = (!Nat.beq c.1 999 && stD (tcd (a : Int)) c.2.2.2.length c.2.2.1 && (List.range (32 * c.2.2.2.length)).all (fun i => stV (tcd (a : Int)) (i : Int) (aget c i))) := rfl
noncomputable def stC (a : Nat) : Bool := stC1 a (acell aM1 a)
set_option maxRecDepth 100000 in
theorem st_ok : (List.range 779).all (fun a => stC a) = true := by decide +kernel
theorem lget_out {α : Type} (z : α) : ∀ (l : List α) (i : Nat), l.length ≤ i → lget z l i = z
  | [], _, _ => rfl
  | a :: l, 0, h => by simp at h
  | a :: l, i + 1, h => by
    rw [lget_s]
    exact lget_out z l i (by simp at h; omega)
theorem safe_start {ρ : Nat → Int} {kn : Bool} {G : mG} {d : mD} (hM : gM ρ aM1 779 kn G d) : Safe d := by
  intro a i hi
  by_cases h0 : a < 0
  · have e : tcd a = 999 := by unfold tcd; rw [if_pos (by omega)]
    rw [e]; trivial
  · by_cases h1 : 779 ≤ a
    · have e : tcd a = a.toNat := by unfold tcd; (repeat' split) <;> omega
      rw [e]
      exact rg_hi (by omega) i _
    · obtain ⟨n, rfl⟩ := Int.eq_ofNat_of_zero_le (show 0 ≤ a by omega)
      obtain ⟨q, rfl⟩ := Int.eq_ofNat_of_zero_le hi
      have hn : n < 779 := by omega
      have k := List.all_eq_true.mp st_ok n (List.mem_range.mpr hn)
      unfold stC at k
      rw [stC1_eq] at k
      simp only [Bool.and_eq_true] at k
      obtain ⟨⟨k1, k2⟩, k3⟩ := k
      have h9 : (acell aM1 n).1 ≠ 999 := fun e => by
        rw [e] at k1
        cases k1
      obtain ⟨-, -, g3⟩ := hM.2 n hn h9
      have g := g3 q
      rcases Nat.lt_or_ge q (32 * (acell aM1 n).2.2.2.length) with hq | hq
      · have k4 := List.all_eq_true.mp k3 q (List.mem_range.mpr hq)
        unfold stV at k4
        split at k4
        · rename_i v hv
          rw [hv] at g
          have g : d (n : Int) (q : Int) = v := g
          rw [g]
          rw [Bool.or_eq_true] at k4
          rcases k4 with k4 | k4
          · have ez : v = 0 := of_decide_eq_true k4
            rw [ez]
            exact rg_z _ _
          · exact @of_decide_eq_true _ (rgDec _ _ _) k4
        · rw [Bool.or_eq_true] at k4
          rcases k4 with k4 | k4
          · exact rgAny_ok k4 _ _
          · exact rgFree_ok k4 _
      · unfold stD at k2
        rw [Bool.or_eq_true, Bool.or_eq_true] at k2
        rcases k2 with (k2 | k2) | k2
        · exact rgAny_ok k2 _ _
        · rw [Bool.and_eq_true] at k2
          have k5 := Nat.le_of_ble_eq_true k2.2
          exact isObj_ok k2.1 (by omega) _
        · have e : aget (acell aM1 n) q = (acell aM1 n).2.2.1 := by
            unfold aget
            rw [lget_out [] _ (q / 32) (by omega)]
            rfl
          rw [e] at g
          split at k2
          · rename_i v hv
            rw [hv] at g
            have g : d (n : Int) (q : Int) = v := g
            have ez : v = 0 := of_decide_eq_true k2
            rw [g, ez]
            exact rg_z _ _
          · cases k2
