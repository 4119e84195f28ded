/-! ===== contracts of the methods: printed by a program of mine ===== -/
def g_2 (x0 x1 : Int) (d : mD) : mD := mset (mset (g_59 (x0 + 1 + (1 + 63 * (d x0 1))) x1 d) x0 1 (((d x0 1) + 1) % 8)) x0 2 (mmin 8 ((d x0 2) + 1))
theorem k_2 {E : mO × tW} {K : tK} {d : mD} {x0 x1 : Int} (hS : Safe d) (hx0 : hiB x0) (hx1 : stB x1) (ht : d x1 2 ≤ 999) (h : (∀ b : Int, (b < x0 ∨ x0 < b) ∧ (b < x0 + 2 ∨ x0 + 505 < b) → (g_2 x0 x1 d) b = d b) → Safe (g_2 x0 x1 d) → K (.inl none) (g_2 x0 x1 d)) : tCall E 2 [.inr (0, x0), .inr (6, x1)] d K := by
  refine t_2_0 ?_
  have w0 : x0 = 64 := hx0
  have w2 := r_6_f2 hS hx1
  have q1 := r_0_f1 hS hx0
  refine ⟨by omega, ?_⟩
  have hp1 : stB (x0 + 1 + (1 + 63 * (d x0 1))) := hiB.st hx0 (by omega) (by omega)
  refine k_59 hS hp1 hx1 (by omega) (fun F1 k1_0 hS2 => ?_)
  refine t_2_13 ?_
  rw [F1 x0 (by omega)]
  refine ⟨by omega, ?_⟩
  have hS3 : Safe (mset (g_59 (x0 + 1 + (1 + 63 * (d x0 1))) x1 d) x0 1 (((d x0 1) + 1) % 8)) := s_0_f1 hS2 hx0 (by omega)
  rw [mset_ni (d := g_59 (x0 + 1 + (1 + 63 * (d x0 1))) x1 d) (a := x0) (i := (1 : Int)) (v := ((d x0 1) + 1) % 8) (b := x0) (j := (2 : Int)) (by omega)]
  rw [F1 x0 (by omega)]
  have q2 := r_0_f2 hS hx0
  have q3 := mmin_r 8 ((d x0 2) + 1)
  refine ⟨⟨m_inR (by omega) (by omega), m_inR (by omega) (by omega)⟩, ?_⟩
  have hS4 : Safe (mset (mset (g_59 (x0 + 1 + (1 + 63 * (d x0 1))) x1 d) x0 1 (((d x0 1) + 1) % 8)) x0 2 (mmin 8 ((d x0 2) + 1))) := s_0_f2 hS3 hx0 (by omega)
  have y0 : g_2 x0 x1 d = mset (mset (g_59 (x0 + 1 + (1 + 63 * (d x0 1))) x1 d) x0 1 (((d x0 1) + 1) % 8)) x0 2 (mmin 8 ((d x0 2) + 1)) := by simp only [g_2]
  rw [y0] at h
  exact h (show ∀ b : Int, (b < x0 ∨ x0 < b) ∧ (b < x0 + 2 ∨ x0 + 505 < b) → (mset (mset (g_59 (x0 + 1 + (1 + 63 * (d x0 1))) x1 d) x0 1 (((d x0 1) + 1) % 8)) x0 2 (mmin 8 ((d x0 2) + 1))) b = d b from fun b hb => (mset_ne (by omega)).trans ((mset_ne (by omega)).trans (F1 b (by omega)))) hS4
def g_3 (x0 x1 : Int) (d : mD) : mD := g_59 x1 (x0 + 1 + (1 + 63 * ((((d x0 1) + 8) - 1) % 8))) (mset (mset d x0 1 ((((d x0 1) + 8) - 1) % 8)) x0 2 ((d x0 2) - 1))
theorem k_3 {E : mO × tW} {K : tK} {d : mD} {x0 x1 : Int} (hS : Safe d) (hx0 : hiB x0) (hx1 : stB x1) (hc : 1 ≤ d x0 2) (h : (∀ b : Int, (b < x0 ∨ x0 < b) ∧ (b < x1 ∨ x1 + 15 < b) ∧ (b < x1 + 18 ∨ x1 + 62 < b) → (g_3 x0 x1 d) b = d b) → Safe (g_3 x0 x1 d) → K (.inl none) (g_3 x0 x1 d)) : tCall E 3 [.inr (0, x0), .inr (6, x1)] d K := by
  refine t_3_0 ?_
  have w0 : x0 = 64 := hx0
  have w2 := r_6_f2 hS hx1
  have q1 := r_0_f1 hS hx0
  refine ⟨by omega, ?_⟩
  have hS1 : Safe (mset d x0 1 ((((d x0 1) + 8) - 1) % 8)) := s_0_f1 hS hx0 (by omega)
  rw [mset_ni (d := d) (a := x0) (i := (1 : Int)) (v := (((d x0 1) + 8) - 1) % 8) (b := x0) (j := (2 : Int)) (by omega)]
  have q2 := r_0_f2 hS hx0
  have hS2 : Safe (mset (mset d x0 1 ((((d x0 1) + 8) - 1) % 8)) x0 2 ((d x0 2) - 1)) := s_0_f2 hS1 hx0 (by omega)
  rw [mset_ni (d := mset d x0 1 ((((d x0 1) + 8) - 1) % 8)) (a := x0) (i := (2 : Int)) (v := (d x0 2) - 1) (b := x0) (j := (1 : Int)) (by omega)]
  rw [mset_eq (d := d) (a := x0) (i := (1 : Int)) (v := (((d x0 1) + 8) - 1) % 8)]
  refine ⟨by omega, ?_⟩
  have hp3 : stB (x0 + 1 + (1 + 63 * ((((d x0 1) + 8) - 1) % 8))) := hiB.st hx0 (by omega) (by omega)
  have q3 : (mset (mset d x0 1 ((((d x0 1) + 8) - 1) % 8)) x0 2 ((d x0 2) - 1)) (x0 + 1 + (1 + 63 * ((((d x0 1) + 8) - 1) % 8))) 2 = d (x0 + 1 + (1 + 63 * ((((d x0 1) + 8) - 1) % 8))) 2 := (congrFun (mset_ne (by omega)) 2).trans (congrFun (mset_ne (by omega)) 2)
  refine k_59 hS2 hx1 hp3 (by have w := r_6_f2 hS2 hp3; omega) (fun F1 k1_0 hS4 => ?_)
  refine t_3_39 ?_
  have y0 : g_3 x0 x1 d = g_59 x1 (x0 + 1 + (1 + 63 * ((((d x0 1) + 8) - 1) % 8))) (mset (mset d x0 1 ((((d x0 1) + 8) - 1) % 8)) x0 2 ((d x0 2) - 1)) := by simp only [g_3]
  rw [y0] at h
  exact h (show ∀ b : Int, (b < x0 ∨ x0 < b) ∧ (b < x1 ∨ x1 + 15 < b) ∧ (b < x1 + 18 ∨ x1 + 62 < b) → (g_59 x1 (x0 + 1 + (1 + 63 * ((((d x0 1) + 8) - 1) % 8))) (mset (mset d x0 1 ((((d x0 1) + 8) - 1) % 8)) x0 2 ((d x0 2) - 1))) b = d b from fun b hb => (F1 b (by omega)).trans ((mset_ne (by omega)).trans (mset_ne (by omega)))) hS4
def g_4 (x0 : Int) (d : mD) : mD := mset d x0 2 0
theorem k_4 {E : mO × tW} {K : tK} {d : mD} {x0 : Int} (hS : Safe d) (hx0 : hiB x0) (h : (∀ b : Int, (b < x0 ∨ x0 < b) → (g_4 x0 d) b = d b) → Safe (g_4 x0 d) → K (.inl none) (g_4 x0 d)) : tCall E 4 [.inr (0, x0)] d K := by
  refine t_4_0 ?_
  have hS1 : Safe (mset d x0 2 0) := s_0_f2 hS hx0 (by omega)
  have y0 : g_4 x0 d = mset d x0 2 0 := by simp only [g_4]
  rw [y0] at h
  exact h (show ∀ b : Int, (b < x0 ∨ x0 < b) → (mset d x0 2 0) b = d b from fun b hb => mset_ne (by omega)) hS1
