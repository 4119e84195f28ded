/-! ===== contracts of the methods: printed by a program of mine ===== -/
def st_46_85 (x0 x1 : Int) (r85 : Int → mD → mD) (x2 : Int) (d : mD) : mD := if x2 < d x0 0 then r85 (x2 + 1) (g_11 (x0 + 6 + (1 + 2 * x2)) (x1 + 6 + (1 + 2 * x2)) d) else d
def lp_46_85 (x0 x1 : Int) : Nat → Int → mD → mD
  | 0 => st_46_85 x0 x1 (fun _ d => d)
  | n + 1 => st_46_85 x0 x1 (lp_46_85 x0 x1 n)
theorem ls_46_85 {E : mO × tW} {K : tK} {x0 x1 : Int} (hx0 : peB x0) (hx1 : peB x1) (N85 : Int) (r85 : Int → mD → mD) (ih85 : ∀ (x2 : Int) (d : mD), Safe d → (0 ≤ x2 ∧ x2 ≤ 16) → 0 ≤ 16 - x2 → 16 - x2 < N85 → ((∀ b : Int, (b < x0 ∨ x0 + 5 < b) ∧ (b < x0 + 8 ∨ x0 + 38 < b) → (r85 x2 d) b = d b) → Safe (r85 x2 d) → K (.inl none) (r85 x2 d)) → tRun E 46 (85, [.inr (4, x0), .inr (4, x1), .inl (0, x2)], [], 0, 0, d) K) (x2 : Int) (d : mD) (hS : Safe d) (i0 : 0 ≤ x2 ∧ x2 ≤ 16) (hm : 16 - x2 ≤ N85) (h : (∀ b : Int, (b < x0 ∨ x0 + 5 < b) ∧ (b < x0 + 8 ∨ x0 + 38 < b) → (st_46_85 x0 x1 r85 x2 d) b = d b) → Safe (st_46_85 x0 x1 r85 x2 d) → K (.inl none) (st_46_85 x0 x1 r85 x2 d)) : tRun E 46 (85, [.inr (4, x0), .inr (4, x1), .inl (0, x2)], [], 0, 0, d) K := by
  refine t_46_85 ?_
  have q1 := r_4_f0 hS hx0
  refine ⟨⟨m_inR (by omega) (by omega), m_inR (by omega) (by omega)⟩, fun c0 => ?_, fun c0 => ?_⟩
  · have y0 : st_46_85 x0 x1 r85 x2 d = d := by simp only [st_46_85, if_neg (show ¬ x2 < d x0 0 from Int.not_lt.mpr c0)]
    rw [y0] at h
    exact h (show ∀ b : Int, (b < x0 ∨ x0 + 5 < b) ∧ (b < x0 + 8 ∨ x0 + 38 < b) → d b = d b from fun _ _ => rfl) hS
  · refine ⟨by omega, ?_⟩
    have hp1 : hsB (x0 + 6 + (1 + 2 * x2)) := peB.hs hx0 (by omega) (by omega)
    refine ⟨by omega, ?_⟩
    have hp2 : hsB (x1 + 6 + (1 + 2 * x2)) := peB.hs hx1 (by omega) (by omega)
    refine k_11 hS hp1 hp2 (fun F1 hS3 => ?_)
    refine t_46_108 ?_
    refine ih85 (x2 + 1)  (g_11 (x0 + 6 + (1 + 2 * x2)) (x1 + 6 + (1 + 2 * x2)) d) hS3 (by omega) (by omega) (by omega) ?_
    intro F hS_
    have y0 : st_46_85 x0 x1 r85 x2 d = r85 (x2 + 1) (g_11 (x0 + 6 + (1 + 2 * x2)) (x1 + 6 + (1 + 2 * x2)) d) := by simp only [st_46_85, if_pos (show x2 < d x0 0 from c0)]
    rw [y0] at h
    exact h (fun b hb => (F b hb).trans ((show ∀ b : Int, (b < x0 ∨ x0 + 5 < b) ∧ (b < x0 + 8 ∨ x0 + 38 < b) → (g_11 (x0 + 6 + (1 + 2 * x2)) (x1 + 6 + (1 + 2 * x2)) d) b = d b from fun b hb => F1 b (by omega)) b hb)) hS_
theorem l_46_85 {E : mO × tW} {K : tK} {x0 x1 : Int} (hx0 : peB x0) (hx1 : peB x1) : ∀ (n : Nat) (x2 : Int) (d : mD), Safe d → (0 ≤ x2 ∧ x2 ≤ 16) → 16 - x2 ≤ (n : Int) → ((∀ b : Int, (b < x0 ∨ x0 + 5 < b) ∧ (b < x0 + 8 ∨ x0 + 38 < b) → (lp_46_85 x0 x1 n x2 d) b = d b) → Safe (lp_46_85 x0 x1 n x2 d) → K (.inl none) (lp_46_85 x0 x1 n x2 d)) → tRun E 46 (85, [.inr (4, x0), .inr (4, x1), .inl (0, x2)], [], 0, 0, d) K := by
  intro n
  induction n with
  | zero =>
    intro x2  d hS i0 hm  h
    exact ls_46_85 hx0 hx1 0 _ (fun _  _ _ _ m0 m1 _ => absurd m1 (by omega)) x2  d hS i0 hm  h
  | succ n ih =>
    intro x2  d hS i0 hm  h
    exact ls_46_85 hx0 hx1 ((n + 1 : Nat) : Int) _ (fun x2  d hS i0  m0 m1 h => ih x2  d hS i0 (by omega)  h) x2  d hS i0 hm  h
def g_46 (x0 x1 : Int) (d : mD) : mD := lp_46_85 x0 x1 (16 - 0 : Int).toNat 0 (mcopy (mcopy (mcopy (mcopy (mcopy (mset d x0 0 (d x1 0)) (x1 + 1) 0 (x0 + 1) 0 16) (x1 + 2) 0 (x0 + 2) 0 16) (x1 + 3) 0 (x0 + 3) 0 16) (x1 + 4) 0 (x0 + 4) 0 16) (x1 + 5) 0 (x0 + 5) 0 16)
theorem k_46 {E : mO × tW} {K : tK} {d : mD} {x0 x1 : Int} (hS : Safe d) (hx0 : peB x0) (hx1 : peB x1) (h : (∀ b : Int, (b < x0 ∨ x0 + 5 < b) ∧ (b < x0 + 8 ∨ x0 + 38 < b) → (g_46 x0 x1 d) b = d b) → Safe (g_46 x0 x1 d) → K (.inl none) (g_46 x0 x1 d)) : tCall E 46 [.inr (4, x0), .inr (4, x1)] d K := by
  refine t_46_0 ?_
  have q2 := r_4_f0 hS hx1
  have hS4 : Safe (mset d x0 0 (d x1 0)) := s_4_f0 hS hx0 (by omega)
  refine ⟨by omega, ?_⟩
  have hS5 : Safe (mcopy (mset d x0 0 (d x1 0)) (x1 + 1) 0 (x0 + 1) 0 16) := c_4_1 hS4 hx1 hx0
  refine t_46_23 ?_
  refine ⟨by omega, ?_⟩
  have hS6 : Safe (mcopy (mcopy (mset d x0 0 (d x1 0)) (x1 + 1) 0 (x0 + 1) 0 16) (x1 + 2) 0 (x0 + 2) 0 16) := c_4_2 hS5 hx1 hx0
  refine t_46_38 ?_
  refine ⟨by omega, ?_⟩
  have hS7 : Safe (mcopy (mcopy (mcopy (mset d x0 0 (d x1 0)) (x1 + 1) 0 (x0 + 1) 0 16) (x1 + 2) 0 (x0 + 2) 0 16) (x1 + 3) 0 (x0 + 3) 0 16) := c_4_3 hS6 hx1 hx0
  refine t_46_53 ?_
  refine ⟨by omega, ?_⟩
  have hS8 : Safe (mcopy (mcopy (mcopy (mcopy (mset d x0 0 (d x1 0)) (x1 + 1) 0 (x0 + 1) 0 16) (x1 + 2) 0 (x0 + 2) 0 16) (x1 + 3) 0 (x0 + 3) 0 16) (x1 + 4) 0 (x0 + 4) 0 16) := c_4_4 hS7 hx1 hx0
  refine t_46_68 ?_
  refine ⟨by omega, ?_⟩
  have hS9 : Safe (mcopy (mcopy (mcopy (mcopy (mcopy (mset d x0 0 (d x1 0)) (x1 + 1) 0 (x0 + 1) 0 16) (x1 + 2) 0 (x0 + 2) 0 16) (x1 + 3) 0 (x0 + 3) 0 16) (x1 + 4) 0 (x0 + 4) 0 16) (x1 + 5) 0 (x0 + 5) 0 16) := c_4_5 hS8 hx1 hx0
  refine t_46_83 ?_
  refine l_46_85 hx0 hx1 (16 - 0 : Int).toNat 0  (mcopy (mcopy (mcopy (mcopy (mcopy (mset d x0 0 (d x1 0)) (x1 + 1) 0 (x0 + 1) 0 16) (x1 + 2) 0 (x0 + 2) 0 16) (x1 + 3) 0 (x0 + 3) 0 16) (x1 + 4) 0 (x0 + 4) 0 16) (x1 + 5) 0 (x0 + 5) 0 16) hS9 (by omega) (by omega) ?_
  intro F hS_
  have y0 : g_46 x0 x1 d = lp_46_85 x0 x1 (16 - 0 : Int).toNat 0 (mcopy (mcopy (mcopy (mcopy (mcopy (mset d x0 0 (d x1 0)) (x1 + 1) 0 (x0 + 1) 0 16) (x1 + 2) 0 (x0 + 2) 0 16) (x1 + 3) 0 (x0 + 3) 0 16) (x1 + 4) 0 (x0 + 4) 0 16) (x1 + 5) 0 (x0 + 5) 0 16) := by simp only [g_46]
  rw [y0] at h
  exact h (fun b hb => (F b hb).trans ((show ∀ b : Int, (b < x0 ∨ x0 + 5 < b) ∧ (b < x0 + 8 ∨ x0 + 38 < b) → (mcopy (mcopy (mcopy (mcopy (mcopy (mset d x0 0 (d x1 0)) (x1 + 1) 0 (x0 + 1) 0 16) (x1 + 2) 0 (x0 + 2) 0 16) (x1 + 3) 0 (x0 + 3) 0 16) (x1 + 4) 0 (x0 + 4) 0 16) (x1 + 5) 0 (x0 + 5) 0 16) b = d b from fun b hb => (mcopy_ne (by omega)).trans ((mcopy_ne (by omega)).trans ((mcopy_ne (by omega)).trans ((mcopy_ne (by omega)).trans ((mcopy_ne (by omega)).trans (mset_ne (by omega))))))) b hb)) hS_
def g_47 (x0 x1 : Int) (d : mD) : mD := if d x0 0 < 16 then mset (g_8 (x0 + 6 + (1 + 2 * (d x0 0))) (mset (mset (mset (mset (mset d (x0 + 1) (d x0 0) x1) (x0 + 2) (d x0 0) 0) (x0 + 3) (d x0 0) 0) (x0 + 4) (d x0 0) 0) (x0 + 5) (d x0 0) 0)) x0 0 ((d x0 0) + 1) else d
theorem k_47 {E : mO × tW} {K : tK} {d : mD} {x0 x1 : Int} (hS : Safe d) (hx0 : peB x0) (p1 : 0 ≤ x1 ∧ x1 ≤ 1073741823) (h : (∀ b : Int, (b < x0 ∨ x0 + 5 < b) ∧ (b < x0 + 8 ∨ x0 + 38 < b) → (g_47 x0 x1 d) b = d b) → Safe (g_47 x0 x1 d) → K (.inl none) (g_47 x0 x1 d)) : tCall E 47 [.inr (4, x0), .inl (0, x1)] d K := by
  refine t_47_0 ?_
  have q1 := r_4_f0 hS hx0
  refine ⟨⟨m_inR (by omega) (by omega), m_inR (by omega) (by omega)⟩, fun c0 => ?_, fun c0 => ?_⟩
  · refine ⟨by omega, ?_⟩
    have hS1 : Safe (mset d (x0 + 1) (d x0 0) x1) := s_4_1 hS hx0 (by omega)
    refine t_47_20 ?_
    rw [mset_ne (d := d) (a := x0 + 1) (i := d x0 0) (v := x1) (b := x0) (by omega)]
    refine ⟨by omega, ?_⟩
    have hS2 : Safe (mset (mset d (x0 + 1) (d x0 0) x1) (x0 + 2) (d x0 0) 0) := s_4_2 hS1 hx0
    refine t_47_30 ?_
    rw [mset_ne (d := mset d (x0 + 1) (d x0 0) x1) (a := x0 + 2) (i := d x0 0) (v := (0 : Int)) (b := x0) (by omega)]
    rw [mset_ne (d := d) (a := x0 + 1) (i := d x0 0) (v := x1) (b := x0) (by omega)]
    refine ⟨by omega, ?_⟩
    have hS3 : Safe (mset (mset (mset d (x0 + 1) (d x0 0) x1) (x0 + 2) (d x0 0) 0) (x0 + 3) (d x0 0) 0) := s_4_3 hS2 hx0 (by omega)
    refine t_47_40 ?_
    rw [mset_ne (d := mset (mset d (x0 + 1) (d x0 0) x1) (x0 + 2) (d x0 0) 0) (a := x0 + 3) (i := d x0 0) (v := (0 : Int)) (b := x0) (by omega)]
    rw [mset_ne (d := mset d (x0 + 1) (d x0 0) x1) (a := x0 + 2) (i := d x0 0) (v := (0 : Int)) (b := x0) (by omega)]
    rw [mset_ne (d := d) (a := x0 + 1) (i := d x0 0) (v := x1) (b := x0) (by omega)]
    refine ⟨by omega, ?_⟩
    have hS4 : Safe (mset (mset (mset (mset d (x0 + 1) (d x0 0) x1) (x0 + 2) (d x0 0) 0) (x0 + 3) (d x0 0) 0) (x0 + 4) (d x0 0) 0) := s_4_4 hS3 hx0 (by omega)
    refine t_47_50 ?_
    rw [mset_ne (d := mset (mset (mset d (x0 + 1) (d x0 0) x1) (x0 + 2) (d x0 0) 0) (x0 + 3) (d x0 0) 0) (a := x0 + 4) (i := d x0 0) (v := (0 : Int)) (b := x0) (by omega)]
    rw [mset_ne (d := mset (mset d (x0 + 1) (d x0 0) x1) (x0 + 2) (d x0 0) 0) (a := x0 + 3) (i := d x0 0) (v := (0 : Int)) (b := x0) (by omega)]
    rw [mset_ne (d := mset d (x0 + 1) (d x0 0) x1) (a := x0 + 2) (i := d x0 0) (v := (0 : Int)) (b := x0) (by omega)]
    rw [mset_ne (d := d) (a := x0 + 1) (i := d x0 0) (v := x1) (b := x0) (by omega)]
    refine ⟨by omega, ?_⟩
    have hS5 : Safe (mset (mset (mset (mset (mset d (x0 + 1) (d x0 0) x1) (x0 + 2) (d x0 0) 0) (x0 + 3) (d x0 0) 0) (x0 + 4) (d x0 0) 0) (x0 + 5) (d x0 0) 0) := s_4_5 hS4 hx0
    refine t_47_60 ?_
    rw [mset_ne (d := mset (mset (mset (mset d (x0 + 1) (d x0 0) x1) (x0 + 2) (d x0 0) 0) (x0 + 3) (d x0 0) 0) (x0 + 4) (d x0 0) 0) (a := x0 + 5) (i := d x0 0) (v := (0 : Int)) (b := x0) (by omega)]
    rw [mset_ne (d := mset (mset (mset d (x0 + 1) (d x0 0) x1) (x0 + 2) (d x0 0) 0) (x0 + 3) (d x0 0) 0) (a := x0 + 4) (i := d x0 0) (v := (0 : Int)) (b := x0) (by omega)]
    rw [mset_ne (d := mset (mset d (x0 + 1) (d x0 0) x1) (x0 + 2) (d x0 0) 0) (a := x0 + 3) (i := d x0 0) (v := (0 : Int)) (b := x0) (by omega)]
    rw [mset_ne (d := mset d (x0 + 1) (d x0 0) x1) (a := x0 + 2) (i := d x0 0) (v := (0 : Int)) (b := x0) (by omega)]
    rw [mset_ne (d := d) (a := x0 + 1) (i := d x0 0) (v := x1) (b := x0) (by omega)]
    refine ⟨by omega, ?_⟩
    have hp6 : hsB (x0 + 6 + (1 + 2 * (d x0 0))) := peB.hs hx0 (by omega) (by omega)
    refine k_8 hS5 hp6 (fun F1 hS7 => ?_)
    refine t_47_72 ?_
    rw [F1 x0 (by omega)]
    rw [mset_ne (d := mset (mset (mset (mset d (x0 + 1) (d x0 0) x1) (x0 + 2) (d x0 0) 0) (x0 + 3) (d x0 0) 0) (x0 + 4) (d x0 0) 0) (a := x0 + 5) (i := d x0 0) (v := (0 : Int)) (b := x0) (by omega)]
    rw [mset_ne (d := mset (mset (mset d (x0 + 1) (d x0 0) x1) (x0 + 2) (d x0 0) 0) (x0 + 3) (d x0 0) 0) (a := x0 + 4) (i := d x0 0) (v := (0 : Int)) (b := x0) (by omega)]
    rw [mset_ne (d := mset (mset d (x0 + 1) (d x0 0) x1) (x0 + 2) (d x0 0) 0) (a := x0 + 3) (i := d x0 0) (v := (0 : Int)) (b := x0) (by omega)]
    rw [mset_ne (d := mset d (x0 + 1) (d x0 0) x1) (a := x0 + 2) (i := d x0 0) (v := (0 : Int)) (b := x0) (by omega)]
    rw [mset_ne (d := d) (a := x0 + 1) (i := d x0 0) (v := x1) (b := x0) (by omega)]
    have hS8 : Safe (mset (g_8 (x0 + 6 + (1 + 2 * (d x0 0))) (mset (mset (mset (mset (mset d (x0 + 1) (d x0 0) x1) (x0 + 2) (d x0 0) 0) (x0 + 3) (d x0 0) 0) (x0 + 4) (d x0 0) 0) (x0 + 5) (d x0 0) 0)) x0 0 ((d x0 0) + 1)) := s_4_f0 hS7 hx0 (by omega)
    have y0 : g_47 x0 x1 d = mset (g_8 (x0 + 6 + (1 + 2 * (d x0 0))) (mset (mset (mset (mset (mset d (x0 + 1) (d x0 0) x1) (x0 + 2) (d x0 0) 0) (x0 + 3) (d x0 0) 0) (x0 + 4) (d x0 0) 0) (x0 + 5) (d x0 0) 0)) x0 0 ((d x0 0) + 1) := by simp only [g_47, if_pos (show d x0 0 < 16 from c0)]
    rw [y0] at h
    exact h (show ∀ b : Int, (b < x0 ∨ x0 + 5 < b) ∧ (b < x0 + 8 ∨ x0 + 38 < b) → (mset (g_8 (x0 + 6 + (1 + 2 * (d x0 0))) (mset (mset (mset (mset (mset d (x0 + 1) (d x0 0) x1) (x0 + 2) (d x0 0) 0) (x0 + 3) (d x0 0) 0) (x0 + 4) (d x0 0) 0) (x0 + 5) (d x0 0) 0)) x0 0 ((d x0 0) + 1)) b = d b from fun b hb => (mset_ne (by omega)).trans ((F1 b (by omega)).trans ((mset_ne (by omega)).trans ((mset_ne (by omega)).trans ((mset_ne (by omega)).trans ((mset_ne (by omega)).trans (mset_ne (by omega)))))))) hS8
  · have y0 : g_47 x0 x1 d = d := by simp only [g_47, if_neg (show ¬ d x0 0 < 16 from Int.not_lt.mpr c0)]
    rw [y0] at h
    exact h (show ∀ b : Int, (b < x0 ∨ x0 + 5 < b) ∧ (b < x0 + 8 ∨ x0 + 38 < b) → d b = d b from fun _ _ => rfl) hS
def st_48_2 (x0 x1 : Int) (r2 : Int → mD → Int) (x2 : Int) (d : mD) : Int := if x2 < d x0 0 then (if d (x0 + 1) x2 = x1 then x2 else r2 (x2 + 1) d) else (-1)
def lp_48_2 (x0 x1 : Int) : Nat → Int → mD → Int
  | 0 => st_48_2 x0 x1 (fun _ d => 0)
  | n + 1 => st_48_2 x0 x1 (lp_48_2 x0 x1 n)
theorem ls_48_2 {E : mO × tW} {K : tK} {x0 x1 : Int} (hx0 : peB x0) (p1 : -2147483648 ≤ x1 ∧ x1 ≤ 2147483647) (N2 : Int) (r2 : Int → mD → Int) (ih2 : ∀ (x2 : Int) (d : mD), Safe d → (0 ≤ x2 ∧ x2 ≤ 16) → 0 ≤ 16 - x2 → 16 - x2 < N2 → ((-1 ≤ (r2 x2 d) ∧ (r2 x2 d) ≤ 15) → K (.inl (some (0, (r2 x2 d)))) d) → tRun E 48 (2, [.inr (4, x0), .inl (0, x1), .inl (0, x2)], [], 0, 0, d) K) (x2 : Int) (d : mD) (hS : Safe d) (i0 : 0 ≤ x2 ∧ x2 ≤ 16) (hm : 16 - x2 ≤ N2) (h : (-1 ≤ (st_48_2 x0 x1 r2 x2 d) ∧ (st_48_2 x0 x1 r2 x2 d) ≤ 15) → K (.inl (some (0, (st_48_2 x0 x1 r2 x2 d)))) d) : tRun E 48 (2, [.inr (4, x0), .inl (0, x1), .inl (0, x2)], [], 0, 0, d) K := by
  refine t_48_2 ?_
  have q1 := r_4_f0 hS hx0
  refine ⟨⟨m_inR (by omega) (by omega), m_inR (by omega) (by omega)⟩, fun c0 => ?_, fun c0 => ?_⟩
  · have y0 : st_48_2 x0 x1 r2 x2 d = (-1) := by simp only [st_48_2, if_neg (show ¬ x2 < d x0 0 from Int.not_lt.mpr c0)]
    rw [y0] at h
    exact h (show -1 ≤ ((-1 : Int)) ∧ ((-1 : Int)) ≤ 15 from (by omega))
  · have q2 := r_4_1 hS hx0 x2
    refine ⟨by omega, ⟨m_inR (by omega) (by omega), m_inR (by omega) (by omega)⟩, fun c1 => ?_, fun c1 => ?_⟩
    · refine ih2 (x2 + 1)  d hS (by omega) (by omega) (by omega) ?_
      intro e
      have y0 : st_48_2 x0 x1 r2 x2 d = r2 (x2 + 1) d := by simp only [st_48_2, if_pos (show x2 < d x0 0 from c0), if_neg (show ¬ d (x0 + 1) x2 = x1 from c1)]
      rw [y0] at h
      exact h e
    · have y0 : st_48_2 x0 x1 r2 x2 d = x2 := by simp only [st_48_2, if_pos (show x2 < d x0 0 from c0), if_pos (show d (x0 + 1) x2 = x1 from c1)]
      rw [y0] at h
      exact h (show -1 ≤ x2 ∧ x2 ≤ 15 from (by omega))
theorem l_48_2 {E : mO × tW} {K : tK} {x0 x1 : Int} (hx0 : peB x0) (p1 : -2147483648 ≤ x1 ∧ x1 ≤ 2147483647) : ∀ (n : Nat) (x2 : Int) (d : mD), Safe d → (0 ≤ x2 ∧ x2 ≤ 16) → 16 - x2 ≤ (n : Int) → ((-1 ≤ (lp_48_2 x0 x1 n x2 d) ∧ (lp_48_2 x0 x1 n x2 d) ≤ 15) → K (.inl (some (0, (lp_48_2 x0 x1 n x2 d)))) d) → tRun E 48 (2, [.inr (4, x0), .inl (0, x1), .inl (0, x2)], [], 0, 0, d) K := by
  intro n
  induction n with
  | zero =>
    intro x2  d hS i0 hm  h
    exact ls_48_2 hx0 p1 0 _ (fun _  _ _ _ m0 m1 _ => absurd m1 (by omega)) x2  d hS i0 hm  h
  | succ n ih =>
    intro x2  d hS i0 hm  h
    exact ls_48_2 hx0 p1 ((n + 1 : Nat) : Int) _ (fun x2  d hS i0  m0 m1 h => ih x2  d hS i0 (by omega)  h) x2  d hS i0 hm  h
def v_48 (x0 x1 : Int) (d : mD) : Int := lp_48_2 x0 x1 (16 - 0 : Int).toNat 0 d
theorem k_48 {E : mO × tW} {K : tK} {d : mD} {x0 x1 : Int} (hS : Safe d) (hx0 : peB x0) (p1 : -2147483648 ≤ x1 ∧ x1 ≤ 2147483647) (h : (-1 ≤ (v_48 x0 x1 d) ∧ (v_48 x0 x1 d) ≤ 15) → K (.inl (some (0, (v_48 x0 x1 d)))) d) : tCall E 48 [.inr (4, x0), .inl (0, x1)] d K := by
  refine t_48_0 ?_
  refine l_48_2 hx0 p1 (16 - 0 : Int).toNat 0  d hS (by omega) (by omega) ?_
  intro e
  have y0 : v_48 x0 x1 d = lp_48_2 x0 x1 (16 - 0 : Int).toNat 0 d := by simp only [v_48]
  rw [y0] at h
  exact h e
def g_49 (x0 : Int) (d : mD) : mD := g_299 (x0 + 5) 0 (g_299 (x0 + 4) 0 (g_299 (x0 + 3) 0 d))
theorem k_49 {E : mO × tW} {K : tK} {d : mD} {x0 : Int} (hS : Safe d) (hx0 : peB x0) (h : (∀ b : Int, (b < x0 + 3 ∨ x0 + 5 < b) → (g_49 x0 d) b = d b) → Safe (g_49 x0 d) → K (.inl none) (g_49 x0 d)) : tCall E 49 [.inr (4, x0)] d K := by
  refine t_49_0 ?_
  refine k_299 hS (by intro i; first | (rw [cd_4_3 hx0]; exact ⟨by decide, by decide⟩) | (rw [cd_4_4 hx0]; exact ⟨by decide, by decide⟩) | (rw [cd_4_5 hx0]; trivial)) (fun F1 hS1 => ?_)
  refine t_49_8 ?_
  refine k_299 hS1 (by intro i; first | (rw [cd_4_3 hx0]; exact ⟨by decide, by decide⟩) | (rw [cd_4_4 hx0]; exact ⟨by decide, by decide⟩) | (rw [cd_4_5 hx0]; trivial)) (fun F2 hS2 => ?_)
  refine t_49_16 ?_
  refine k_299 hS2 (by intro i; first | (rw [cd_4_3 hx0]; exact ⟨by decide, by decide⟩) | (rw [cd_4_4 hx0]; exact ⟨by decide, by decide⟩) | (rw [cd_4_5 hx0]; trivial)) (fun F3 hS3 => ?_)
  refine t_49_24 ?_
  have y0 : g_49 x0 d = g_299 (x0 + 5) 0 (g_299 (x0 + 4) 0 (g_299 (x0 + 3) 0 d)) := by simp only [g_49]
  rw [y0] at h
  exact h (show ∀ b : Int, (b < x0 + 3 ∨ x0 + 5 < b) → (g_299 (x0 + 5) 0 (g_299 (x0 + 4) 0 (g_299 (x0 + 3) 0 d))) b = d b from fun b hb => (F3 b (by omega)).trans ((F2 b (by omega)).trans (F1 b (by omega)))) hS3
def g_95 (x0 x1 : Int) (d : mD) : mD := mcopy (mcopy (mcopy (mcopy (mcopy (mcopy (mcopy (mset d x0 0 (d x1 0)) (x1 + 1) 0 (x0 + 1) 0 (d x1 0)) (x1 + 2) 0 (x0 + 2) 0 (d x1 0)) (x1 + 3) 0 (x0 + 3) 0 (d x1 0)) (x1 + 4) 0 (x0 + 4) 0 (d x1 0)) (x1 + 5) 0 (x0 + 5) 0 (d x1 0)) (x1 + 6) 0 (x0 + 6) 0 (d x1 0)) (x1 + 7) 0 (x0 + 7) 0 (d x1 0)
theorem k_95 {E : mO × tW} {K : tK} {d : mD} {x0 x1 : Int} (hS : Safe d) (hx0 : tiB x0) (hx1 : tiB x1) (h : (∀ b : Int, (b < x0 ∨ x0 + 7 < b) → (g_95 x0 x1 d) b = d b) → Safe (g_95 x0 x1 d) → K (.inl none) (g_95 x0 x1 d)) : tCall E 95 [.inr (8, x0), .inr (8, x1)] d K := by
  refine t_95_0 ?_
  have q1 := r_8_f0 hS hx1
  have hS1 : Safe (mset d x0 0 (d x1 0)) := s_8_f0 hS hx0 (by omega)
  rw [mset_eq (d := d) (a := x0) (i := (0 : Int)) (v := d x1 0)]
  refine ⟨by omega, ?_⟩
  have hS2 : Safe (mcopy (mset d x0 0 (d x1 0)) (x1 + 1) 0 (x0 + 1) 0 (d x1 0)) := c_8_1 hS1 hx1 hx0
  refine t_95_25 ?_
  rw [mcopy_ne (show x0 ≠ x0 + 1 by omega)]
  rw [mset_eq (d := d) (a := x0) (i := (0 : Int)) (v := d x1 0)]
  refine ⟨by omega, ?_⟩
  have hS3 : Safe (mcopy (mcopy (mset d x0 0 (d x1 0)) (x1 + 1) 0 (x0 + 1) 0 (d x1 0)) (x1 + 2) 0 (x0 + 2) 0 (d x1 0)) := c_8_2 hS2 hx1 hx0
  refine t_95_42 ?_
  rw [mcopy_ne (show x0 ≠ x0 + 2 by omega)]
  rw [mcopy_ne (show x0 ≠ x0 + 1 by omega)]
  rw [mset_eq (d := d) (a := x0) (i := (0 : Int)) (v := d x1 0)]
  refine ⟨by omega, ?_⟩
  have hS4 : Safe (mcopy (mcopy (mcopy (mset d x0 0 (d x1 0)) (x1 + 1) 0 (x0 + 1) 0 (d x1 0)) (x1 + 2) 0 (x0 + 2) 0 (d x1 0)) (x1 + 3) 0 (x0 + 3) 0 (d x1 0)) := c_8_3 hS3 hx1 hx0
  refine t_95_59 ?_
  rw [mcopy_ne (show x0 ≠ x0 + 3 by omega)]
  rw [mcopy_ne (show x0 ≠ x0 + 2 by omega)]
  rw [mcopy_ne (show x0 ≠ x0 + 1 by omega)]
  rw [mset_eq (d := d) (a := x0) (i := (0 : Int)) (v := d x1 0)]
  refine ⟨by omega, ?_⟩
  have hS5 : Safe (mcopy (mcopy (mcopy (mcopy (mset d x0 0 (d x1 0)) (x1 + 1) 0 (x0 + 1) 0 (d x1 0)) (x1 + 2) 0 (x0 + 2) 0 (d x1 0)) (x1 + 3) 0 (x0 + 3) 0 (d x1 0)) (x1 + 4) 0 (x0 + 4) 0 (d x1 0)) := c_8_4 hS4 hx1 hx0
  refine t_95_76 ?_
  rw [mcopy_ne (show x0 ≠ x0 + 4 by omega)]
  rw [mcopy_ne (show x0 ≠ x0 + 3 by omega)]
  rw [mcopy_ne (show x0 ≠ x0 + 2 by omega)]
  rw [mcopy_ne (show x0 ≠ x0 + 1 by omega)]
  rw [mset_eq (d := d) (a := x0) (i := (0 : Int)) (v := d x1 0)]
  refine ⟨by omega, ?_⟩
  have hS6 : Safe (mcopy (mcopy (mcopy (mcopy (mcopy (mset d x0 0 (d x1 0)) (x1 + 1) 0 (x0 + 1) 0 (d x1 0)) (x1 + 2) 0 (x0 + 2) 0 (d x1 0)) (x1 + 3) 0 (x0 + 3) 0 (d x1 0)) (x1 + 4) 0 (x0 + 4) 0 (d x1 0)) (x1 + 5) 0 (x0 + 5) 0 (d x1 0)) := c_8_5 hS5 hx1 hx0
  refine t_95_93 ?_
  rw [mcopy_ne (show x0 ≠ x0 + 5 by omega)]
  rw [mcopy_ne (show x0 ≠ x0 + 4 by omega)]
  rw [mcopy_ne (show x0 ≠ x0 + 3 by omega)]
  rw [mcopy_ne (show x0 ≠ x0 + 2 by omega)]
  rw [mcopy_ne (show x0 ≠ x0 + 1 by omega)]
  rw [mset_eq (d := d) (a := x0) (i := (0 : Int)) (v := d x1 0)]
  refine ⟨by omega, ?_⟩
  have hS7 : Safe (mcopy (mcopy (mcopy (mcopy (mcopy (mcopy (mset d x0 0 (d x1 0)) (x1 + 1) 0 (x0 + 1) 0 (d x1 0)) (x1 + 2) 0 (x0 + 2) 0 (d x1 0)) (x1 + 3) 0 (x0 + 3) 0 (d x1 0)) (x1 + 4) 0 (x0 + 4) 0 (d x1 0)) (x1 + 5) 0 (x0 + 5) 0 (d x1 0)) (x1 + 6) 0 (x0 + 6) 0 (d x1 0)) := c_8_6 hS6 hx1 hx0
  refine t_95_110 ?_
  rw [mcopy_ne (show x0 ≠ x0 + 6 by omega)]
  rw [mcopy_ne (show x0 ≠ x0 + 5 by omega)]
  rw [mcopy_ne (show x0 ≠ x0 + 4 by omega)]
  rw [mcopy_ne (show x0 ≠ x0 + 3 by omega)]
  rw [mcopy_ne (show x0 ≠ x0 + 2 by omega)]
  rw [mcopy_ne (show x0 ≠ x0 + 1 by omega)]
  rw [mset_eq (d := d) (a := x0) (i := (0 : Int)) (v := d x1 0)]
  refine ⟨by omega, ?_⟩
  have hS8 : Safe (mcopy (mcopy (mcopy (mcopy (mcopy (mcopy (mcopy (mset d x0 0 (d x1 0)) (x1 + 1) 0 (x0 + 1) 0 (d x1 0)) (x1 + 2) 0 (x0 + 2) 0 (d x1 0)) (x1 + 3) 0 (x0 + 3) 0 (d x1 0)) (x1 + 4) 0 (x0 + 4) 0 (d x1 0)) (x1 + 5) 0 (x0 + 5) 0 (d x1 0)) (x1 + 6) 0 (x0 + 6) 0 (d x1 0)) (x1 + 7) 0 (x0 + 7) 0 (d x1 0)) := c_8_7 hS7 hx1 hx0
  refine t_95_127 ?_
  have y0 : g_95 x0 x1 d = mcopy (mcopy (mcopy (mcopy (mcopy (mcopy (mcopy (mset d x0 0 (d x1 0)) (x1 + 1) 0 (x0 + 1) 0 (d x1 0)) (x1 + 2) 0 (x0 + 2) 0 (d x1 0)) (x1 + 3) 0 (x0 + 3) 0 (d x1 0)) (x1 + 4) 0 (x0 + 4) 0 (d x1 0)) (x1 + 5) 0 (x0 + 5) 0 (d x1 0)) (x1 + 6) 0 (x0 + 6) 0 (d x1 0)) (x1 + 7) 0 (x0 + 7) 0 (d x1 0) := by simp only [g_95]
  rw [y0] at h
  exact h (show ∀ b : Int, (b < x0 ∨ x0 + 7 < b) → (mcopy (mcopy (mcopy (mcopy (mcopy (mcopy (mcopy (mset d x0 0 (d x1 0)) (x1 + 1) 0 (x0 + 1) 0 (d x1 0)) (x1 + 2) 0 (x0 + 2) 0 (d x1 0)) (x1 + 3) 0 (x0 + 3) 0 (d x1 0)) (x1 + 4) 0 (x0 + 4) 0 (d x1 0)) (x1 + 5) 0 (x0 + 5) 0 (d x1 0)) (x1 + 6) 0 (x0 + 6) 0 (d x1 0)) (x1 + 7) 0 (x0 + 7) 0 (d x1 0)) b = d b from fun b hb => (mcopy_ne (by omega)).trans ((mcopy_ne (by omega)).trans ((mcopy_ne (by omega)).trans ((mcopy_ne (by omega)).trans ((mcopy_ne (by omega)).trans ((mcopy_ne (by omega)).trans ((mcopy_ne (by omega)).trans (mset_ne (by omega))))))))) hS8
def g_96 (x0 x1 x2 x3 : Int) (d : mD) : mD := if d x0 0 < 60 then mset (mset (mset (mset (mset (mset (mset (mset d (x0 + 1) (d x0 0) x1) (x0 + 2) (d x0 0) x2) (x0 + 3) (d x0 0) x3) (x0 + 4) (d x0 0) ((-1))) (x0 + 5) (d x0 0) 0) (x0 + 6) (d x0 0) 0) (x0 + 7) (d x0 0) 0) x0 0 ((d x0 0) + 1) else d
theorem k_96 {E : mO × tW} {K : tK} {d : mD} {x0 x1 x2 x3 : Int} (hS : Safe d) (hx0 : tiB x0) (p1 : 0 ≤ x1 ∧ x1 ≤ 15) (p2 : 0 ≤ x2 ∧ x2 ≤ 5) (p3 : 0 ≤ x3 ∧ x3 ≤ 999) (h : (∀ b : Int, (b < x0 ∨ x0 + 7 < b) → (g_96 x0 x1 x2 x3 d) b = d b) → Safe (g_96 x0 x1 x2 x3 d) → K (.inl none) (g_96 x0 x1 x2 x3 d)) : tCall E 96 [.inr (8, x0), .inl (0, x1), .inl (0, x2), .inl (0, x3)] d K := by
  refine t_96_0 ?_
  have q1 := r_8_f0 hS hx0
  refine ⟨⟨m_inR (by omega) (by omega), m_inR (by omega) (by omega)⟩, fun c0 => ?_, fun c0 => ?_⟩
  · refine ⟨by omega, ?_⟩
    have hS1 : Safe (mset d (x0 + 1) (d x0 0) x1) := s_8_1 hS hx0 (by omega)
    refine t_96_20 ?_
    rw [mset_ne (d := d) (a := x0 + 1) (i := d x0 0) (v := x1) (b := x0) (by omega)]
    refine ⟨by omega, ?_⟩
    have hS2 : Safe (mset (mset d (x0 + 1) (d x0 0) x1) (x0 + 2) (d x0 0) x2) := s_8_2 hS1 hx0 (by omega)
    refine t_96_30 ?_
    rw [mset_ne (d := mset d (x0 + 1) (d x0 0) x1) (a := x0 + 2) (i := d x0 0) (v := x2) (b := x0) (by omega)]
    rw [mset_ne (d := d) (a := x0 + 1) (i := d x0 0) (v := x1) (b := x0) (by omega)]
    refine ⟨by omega, ?_⟩
    have hS3 : Safe (mset (mset (mset d (x0 + 1) (d x0 0) x1) (x0 + 2) (d x0 0) x2) (x0 + 3) (d x0 0) x3) := s_8_3 hS2 hx0 (by omega)
    refine t_96_40 ?_
    rw [mset_ne (d := mset (mset d (x0 + 1) (d x0 0) x1) (x0 + 2) (d x0 0) x2) (a := x0 + 3) (i := d x0 0) (v := x3) (b := x0) (by omega)]
    rw [mset_ne (d := mset d (x0 + 1) (d x0 0) x1) (a := x0 + 2) (i := d x0 0) (v := x2) (b := x0) (by omega)]
    rw [mset_ne (d := d) (a := x0 + 1) (i := d x0 0) (v := x1) (b := x0) (by omega)]
    refine ⟨by omega, ?_⟩
    have hS4 : Safe (mset (mset (mset (mset d (x0 + 1) (d x0 0) x1) (x0 + 2) (d x0 0) x2) (x0 + 3) (d x0 0) x3) (x0 + 4) (d x0 0) ((-1))) := s_8_4 hS3 hx0 (by omega)
    refine t_96_50 ?_
    rw [mset_ne (d := mset (mset (mset d (x0 + 1) (d x0 0) x1) (x0 + 2) (d x0 0) x2) (x0 + 3) (d x0 0) x3) (a := x0 + 4) (i := d x0 0) (v := (-1 : Int)) (b := x0) (by omega)]
    rw [mset_ne (d := mset (mset d (x0 + 1) (d x0 0) x1) (x0 + 2) (d x0 0) x2) (a := x0 + 3) (i := d x0 0) (v := x3) (b := x0) (by omega)]
    rw [mset_ne (d := mset d (x0 + 1) (d x0 0) x1) (a := x0 + 2) (i := d x0 0) (v := x2) (b := x0) (by omega)]
    rw [mset_ne (d := d) (a := x0 + 1) (i := d x0 0) (v := x1) (b := x0) (by omega)]
    refine ⟨by omega, ?_⟩
    have hS5 : Safe (mset (mset (mset (mset (mset d (x0 + 1) (d x0 0) x1) (x0 + 2) (d x0 0) x2) (x0 + 3) (d x0 0) x3) (x0 + 4) (d x0 0) ((-1))) (x0 + 5) (d x0 0) 0) := s_8_5 hS4 hx0 (by omega)
    refine t_96_60 ?_
    rw [mset_ne (d := mset (mset (mset (mset d (x0 + 1) (d x0 0) x1) (x0 + 2) (d x0 0) x2) (x0 + 3) (d x0 0) x3) (x0 + 4) (d x0 0) ((-1))) (a := x0 + 5) (i := d x0 0) (v := (0 : Int)) (b := x0) (by omega)]
    rw [mset_ne (d := mset (mset (mset d (x0 + 1) (d x0 0) x1) (x0 + 2) (d x0 0) x2) (x0 + 3) (d x0 0) x3) (a := x0 + 4) (i := d x0 0) (v := (-1 : Int)) (b := x0) (by omega)]
    rw [mset_ne (d := mset (mset d (x0 + 1) (d x0 0) x1) (x0 + 2) (d x0 0) x2) (a := x0 + 3) (i := d x0 0) (v := x3) (b := x0) (by omega)]
    rw [mset_ne (d := mset d (x0 + 1) (d x0 0) x1) (a := x0 + 2) (i := d x0 0) (v := x2) (b := x0) (by omega)]
    rw [mset_ne (d := d) (a := x0 + 1) (i := d x0 0) (v := x1) (b := x0) (by omega)]
    refine ⟨by omega, ?_⟩
    have hS6 : Safe (mset (mset (mset (mset (mset (mset d (x0 + 1) (d x0 0) x1) (x0 + 2) (d x0 0) x2) (x0 + 3) (d x0 0) x3) (x0 + 4) (d x0 0) ((-1))) (x0 + 5) (d x0 0) 0) (x0 + 6) (d x0 0) 0) := s_8_6 hS5 hx0 (by omega)
    refine t_96_70 ?_
    rw [mset_ne (d := mset (mset (mset (mset (mset d (x0 + 1) (d x0 0) x1) (x0 + 2) (d x0 0) x2) (x0 + 3) (d x0 0) x3) (x0 + 4) (d x0 0) ((-1))) (x0 + 5) (d x0 0) 0) (a := x0 + 6) (i := d x0 0) (v := (0 : Int)) (b := x0) (by omega)]
    rw [mset_ne (d := mset (mset (mset (mset d (x0 + 1) (d x0 0) x1) (x0 + 2) (d x0 0) x2) (x0 + 3) (d x0 0) x3) (x0 + 4) (d x0 0) ((-1))) (a := x0 + 5) (i := d x0 0) (v := (0 : Int)) (b := x0) (by omega)]
    rw [mset_ne (d := mset (mset (mset d (x0 + 1) (d x0 0) x1) (x0 + 2) (d x0 0) x2) (x0 + 3) (d x0 0) x3) (a := x0 + 4) (i := d x0 0) (v := (-1 : Int)) (b := x0) (by omega)]
    rw [mset_ne (d := mset (mset d (x0 + 1) (d x0 0) x1) (x0 + 2) (d x0 0) x2) (a := x0 + 3) (i := d x0 0) (v := x3) (b := x0) (by omega)]
    rw [mset_ne (d := mset d (x0 + 1) (d x0 0) x1) (a := x0 + 2) (i := d x0 0) (v := x2) (b := x0) (by omega)]
    rw [mset_ne (d := d) (a := x0 + 1) (i := d x0 0) (v := x1) (b := x0) (by omega)]
    refine ⟨by omega, ?_⟩
    have hS7 : Safe (mset (mset (mset (mset (mset (mset (mset d (x0 + 1) (d x0 0) x1) (x0 + 2) (d x0 0) x2) (x0 + 3) (d x0 0) x3) (x0 + 4) (d x0 0) ((-1))) (x0 + 5) (d x0 0) 0) (x0 + 6) (d x0 0) 0) (x0 + 7) (d x0 0) 0) := s_8_7 hS6 hx0
    refine t_96_80 ?_
    rw [mset_ne (d := mset (mset (mset (mset (mset (mset d (x0 + 1) (d x0 0) x1) (x0 + 2) (d x0 0) x2) (x0 + 3) (d x0 0) x3) (x0 + 4) (d x0 0) ((-1))) (x0 + 5) (d x0 0) 0) (x0 + 6) (d x0 0) 0) (a := x0 + 7) (i := d x0 0) (v := (0 : Int)) (b := x0) (by omega)]
    rw [mset_ne (d := mset (mset (mset (mset (mset d (x0 + 1) (d x0 0) x1) (x0 + 2) (d x0 0) x2) (x0 + 3) (d x0 0) x3) (x0 + 4) (d x0 0) ((-1))) (x0 + 5) (d x0 0) 0) (a := x0 + 6) (i := d x0 0) (v := (0 : Int)) (b := x0) (by omega)]
    rw [mset_ne (d := mset (mset (mset (mset d (x0 + 1) (d x0 0) x1) (x0 + 2) (d x0 0) x2) (x0 + 3) (d x0 0) x3) (x0 + 4) (d x0 0) ((-1))) (a := x0 + 5) (i := d x0 0) (v := (0 : Int)) (b := x0) (by omega)]
    rw [mset_ne (d := mset (mset (mset d (x0 + 1) (d x0 0) x1) (x0 + 2) (d x0 0) x2) (x0 + 3) (d x0 0) x3) (a := x0 + 4) (i := d x0 0) (v := (-1 : Int)) (b := x0) (by omega)]
    rw [mset_ne (d := mset (mset d (x0 + 1) (d x0 0) x1) (x0 + 2) (d x0 0) x2) (a := x0 + 3) (i := d x0 0) (v := x3) (b := x0) (by omega)]
    rw [mset_ne (d := mset d (x0 + 1) (d x0 0) x1) (a := x0 + 2) (i := d x0 0) (v := x2) (b := x0) (by omega)]
    rw [mset_ne (d := d) (a := x0 + 1) (i := d x0 0) (v := x1) (b := x0) (by omega)]
    have hS8 : Safe (mset (mset (mset (mset (mset (mset (mset (mset d (x0 + 1) (d x0 0) x1) (x0 + 2) (d x0 0) x2) (x0 + 3) (d x0 0) x3) (x0 + 4) (d x0 0) ((-1))) (x0 + 5) (d x0 0) 0) (x0 + 6) (d x0 0) 0) (x0 + 7) (d x0 0) 0) x0 0 ((d x0 0) + 1)) := s_8_f0 hS7 hx0 (by omega)
    have y0 : g_96 x0 x1 x2 x3 d = mset (mset (mset (mset (mset (mset (mset (mset d (x0 + 1) (d x0 0) x1) (x0 + 2) (d x0 0) x2) (x0 + 3) (d x0 0) x3) (x0 + 4) (d x0 0) ((-1))) (x0 + 5) (d x0 0) 0) (x0 + 6) (d x0 0) 0) (x0 + 7) (d x0 0) 0) x0 0 ((d x0 0) + 1) := by simp only [g_96, if_pos (show d x0 0 < 60 from c0)]
    rw [y0] at h
    exact h (show ∀ b : Int, (b < x0 ∨ x0 + 7 < b) → (mset (mset (mset (mset (mset (mset (mset (mset d (x0 + 1) (d x0 0) x1) (x0 + 2) (d x0 0) x2) (x0 + 3) (d x0 0) x3) (x0 + 4) (d x0 0) ((-1))) (x0 + 5) (d x0 0) 0) (x0 + 6) (d x0 0) 0) (x0 + 7) (d x0 0) 0) x0 0 ((d x0 0) + 1)) b = d b from fun b hb => (mset_ne (by omega)).trans ((mset_ne (by omega)).trans ((mset_ne (by omega)).trans ((mset_ne (by omega)).trans ((mset_ne (by omega)).trans ((mset_ne (by omega)).trans ((mset_ne (by omega)).trans (mset_ne (by omega))))))))) hS8
  · have y0 : g_96 x0 x1 x2 x3 d = d := by simp only [g_96, if_neg (show ¬ d x0 0 < 60 from Int.not_lt.mpr c0)]
    rw [y0] at h
    exact h (show ∀ b : Int, (b < x0 ∨ x0 + 7 < b) → d b = d b from fun _ _ => rfl) hS
def g_97 (x0 x1 x2 x3 : Int) (d : mD) : mD := mset (mset d (x0 + 5) x1 x2) (x0 + 4) x1 x3
theorem k_97 {E : mO × tW} {K : tK} {d : mD} {x0 x1 x2 x3 : Int} (hS : Safe d) (hx0 : tiB x0) (p1 : 0 ≤ x1 ∧ x1 ≤ 59) (p2 : 0 ≤ x2 ∧ x2 ≤ 2) (p3 : 0 ≤ x3 ∧ x3 ≤ 1199) (h : (∀ b : Int, (b < x0 + 4 ∨ x0 + 5 < b) → (g_97 x0 x1 x2 x3 d) b = d b) → Safe (g_97 x0 x1 x2 x3 d) → K (.inl none) (g_97 x0 x1 x2 x3 d)) : tCall E 97 [.inr (8, x0), .inl (0, x1), .inl (0, x2), .inl (0, x3)] d K := by
  refine t_97_0 ?_
  refine ⟨by omega, ?_⟩
  have hS1 : Safe (mset d (x0 + 5) x1 x2) := s_8_5 hS hx0 (by omega)
  refine ⟨by omega, ?_⟩
  have hS2 : Safe (mset (mset d (x0 + 5) x1 x2) (x0 + 4) x1 x3) := s_8_4 hS1 hx0 (by omega)
  have y0 : g_97 x0 x1 x2 x3 d = mset (mset d (x0 + 5) x1 x2) (x0 + 4) x1 x3 := by simp only [g_97]
  rw [y0] at h
  exact h (show ∀ b : Int, (b < x0 + 4 ∨ x0 + 5 < b) → (mset (mset d (x0 + 5) x1 x2) (x0 + 4) x1 x3) b = d b from fun b hb => (mset_ne (by omega)).trans (mset_ne (by omega))) hS2
def v_98 (x0 x1 x2 : Int) (d : mD) : Int := if d (x0 + 4) x1 = (-1) then x2 else d (x0 + 4) x1
theorem k_98 {E : mO × tW} {K : tK} {d : mD} {x0 x1 x2 : Int} (hS : Safe d) (hx0 : tiB x0) (p1 : 0 ≤ x1 ∧ x1 ≤ 59) (p2 : 0 ≤ x2 ∧ x2 ≤ 1199) (h : (0 ≤ (v_98 x0 x1 x2 d) ∧ (v_98 x0 x1 x2 d) ≤ 1199) → K (.inl (some (0, (v_98 x0 x1 x2 d)))) d) : tCall E 98 [.inr (8, x0), .inl (0, x1), .inl (0, x2)] d K := by
  refine t_98_0 ?_
  have q1 := r_8_4 hS hx0 x1
  refine ⟨by omega, ⟨m_inR (by omega) (by omega), m_inR (by omega) (by omega)⟩, fun c0 => ?_, fun c0 => ?_⟩
  · refine ⟨by omega, ?_⟩
    have y0 : v_98 x0 x1 x2 d = d (x0 + 4) x1 := by simp only [v_98, if_neg (show ¬ d (x0 + 4) x1 = (-1) from c0)]
    rw [y0] at h
    exact h (show 0 ≤ (d (x0 + 4) x1) ∧ (d (x0 + 4) x1) ≤ 1199 from (by omega))
  · have y0 : v_98 x0 x1 x2 d = x2 := by simp only [v_98, if_pos (show d (x0 + 4) x1 = (-1) from c0)]
    rw [y0] at h
    exact h (show 0 ≤ x2 ∧ x2 ≤ 1199 from (by omega))
def v_99 (x0 x1 x2 : Int) (d : mD) : Int := if miand (mishr (d (x0 + 7) x1) x2) 1 = 0 then 0 else 1
theorem k_99 {E : mO × tW} {K : tK} {d : mD} {x0 x1 x2 : Int} (hS : Safe d) (hx0 : tiB x0) (p1 : 0 ≤ x1 ∧ x1 ≤ 59) (p2 : -2147483648 ≤ x2 ∧ x2 ≤ 2147483647) (h : (0 ≤ (v_99 x0 x1 x2 d) ∧ (v_99 x0 x1 x2 d) ≤ 1) → K (.inl (some (0, (v_99 x0 x1 x2 d)))) d) : tCall E 99 [.inr (8, x0), .inl (0, x1), .inl (0, x2)] d K := by
  refine t_99_0 ?_
  have q1 := miand_r (mishr (d (x0 + 7) x1) x2) 1 (by decide) (by decide)
  have q2 := mbool (mishr (d (x0 + 7) x1) x2)
  refine ⟨by omega, mI_inR _ _ _, fun c0 => ?_, fun c0 => ?_⟩
  · refine ⟨by omega, ?_⟩
    have y0 : v_99 x0 x1 x2 d = 0 := by simp only [v_99, if_pos (show miand (mishr (d (x0 + 7) x1) x2) 1 = 0 from c0)]
    rw [y0] at h
    exact h (show 0 ≤ ((0 : Int)) ∧ ((0 : Int)) ≤ 1 from (by omega))
  · refine ⟨by omega, ?_⟩
    have y0 : v_99 x0 x1 x2 d = 1 := by simp only [v_99, if_neg (show ¬ miand (mishr (d (x0 + 7) x1) x2) 1 = 0 from c0)]
    rw [y0] at h
    exact h (show 0 ≤ ((1 : Int)) ∧ ((1 : Int)) ≤ 1 from (by omega))
def st_100_7 (x0 x1 : Int) (r7 : Int → mD → Int) (x2 : Int) (d : mD) : Int := if x2 < 0 then (-1) else if d (x0 + 1) x2 = x1 then x2 else r7 (x2 + (-1)) d
def lp_100_7 (x0 x1 : Int) : Nat → Int → mD → Int
  | 0 => st_100_7 x0 x1 (fun _ d => 0)
  | n + 1 => st_100_7 x0 x1 (lp_100_7 x0 x1 n)
theorem ls_100_7 {E : mO × tW} {K : tK} {x0 x1 : Int} (hx0 : tiB x0) (p1 : -2147483648 ≤ x1 ∧ x1 ≤ 2147483647) (N7 : Int) (r7 : Int → mD → Int) (ih7 : ∀ (x2 : Int) (d : mD), Safe d → (-1 ≤ x2 ∧ x2 ≤ 59) → 0 ≤ x2 + 1 → x2 + 1 < N7 → ((-1 ≤ (r7 x2 d) ∧ (r7 x2 d) ≤ 59) → K (.inl (some (0, (r7 x2 d)))) d) → tRun E 100 (7, [.inr (8, x0), .inl (0, x1), .inl (0, x2)], [], 0, 0, d) K) (x2 : Int) (d : mD) (hS : Safe d) (i0 : -1 ≤ x2 ∧ x2 ≤ 59) (hm : x2 + 1 ≤ N7) (h : (-1 ≤ (st_100_7 x0 x1 r7 x2 d) ∧ (st_100_7 x0 x1 r7 x2 d) ≤ 59) → K (.inl (some (0, (st_100_7 x0 x1 r7 x2 d)))) d) : tRun E 100 (7, [.inr (8, x0), .inl (0, x1), .inl (0, x2)], [], 0, 0, d) K := by
  refine t_100_7 ?_
  refine ⟨m_inR (by omega) (by omega), fun c0 => ?_, fun c0 => ?_⟩
  · have y0 : st_100_7 x0 x1 r7 x2 d = (-1) := by simp only [st_100_7, if_pos (show x2 < 0 from c0)]
    rw [y0] at h
    exact h (show -1 ≤ ((-1 : Int)) ∧ ((-1 : Int)) ≤ 59 from (by omega))
  · have q1 := r_8_1 hS hx0 x2
    refine ⟨by omega, ⟨m_inR (by omega) (by omega), m_inR (by omega) (by omega)⟩, fun c1 => ?_, fun c1 => ?_⟩
    · refine ih7 (x2 + (-1))  d hS (by omega) (by omega) (by omega) ?_
      intro e
      have y0 : st_100_7 x0 x1 r7 x2 d = r7 (x2 + (-1)) d := by simp only [st_100_7, if_neg (show ¬ x2 < 0 from Int.not_lt.mpr c0), if_neg (show ¬ d (x0 + 1) x2 = x1 from c1)]
      rw [y0] at h
      exact h e
    · have y0 : st_100_7 x0 x1 r7 x2 d = x2 := by simp only [st_100_7, if_neg (show ¬ x2 < 0 from Int.not_lt.mpr c0), if_pos (show d (x0 + 1) x2 = x1 from c1)]
      rw [y0] at h
      exact h (show -1 ≤ x2 ∧ x2 ≤ 59 from (by omega))
theorem l_100_7 {E : mO × tW} {K : tK} {x0 x1 : Int} (hx0 : tiB x0) (p1 : -2147483648 ≤ x1 ∧ x1 ≤ 2147483647) : ∀ (n : Nat) (x2 : Int) (d : mD), Safe d → (-1 ≤ x2 ∧ x2 ≤ 59) → x2 + 1 ≤ (n : Int) → ((-1 ≤ (lp_100_7 x0 x1 n x2 d) ∧ (lp_100_7 x0 x1 n x2 d) ≤ 59) → K (.inl (some (0, (lp_100_7 x0 x1 n x2 d)))) d) → tRun E 100 (7, [.inr (8, x0), .inl (0, x1), .inl (0, x2)], [], 0, 0, d) K := by
  intro n
  induction n with
  | zero =>
    intro x2  d hS i0 hm  h
    exact ls_100_7 hx0 p1 0 _ (fun _  _ _ _ m0 m1 _ => absurd m1 (by omega)) x2  d hS i0 hm  h
  | succ n ih =>
    intro x2  d hS i0 hm  h
    exact ls_100_7 hx0 p1 ((n + 1 : Nat) : Int) _ (fun x2  d hS i0  m0 m1 h => ih x2  d hS i0 (by omega)  h) x2  d hS i0 hm  h
def v_100 (x0 x1 : Int) (d : mD) : Int := lp_100_7 x0 x1 (((d x0 0) - 1) + 1 : Int).toNat ((d x0 0) - 1) d
theorem k_100 {E : mO × tW} {K : tK} {d : mD} {x0 x1 : Int} (hS : Safe d) (hx0 : tiB x0) (p1 : -2147483648 ≤ x1 ∧ x1 ≤ 2147483647) (h : (-1 ≤ (v_100 x0 x1 d) ∧ (v_100 x0 x1 d) ≤ 59) → K (.inl (some (0, (v_100 x0 x1 d)))) d) : tCall E 100 [.inr (8, x0), .inl (0, x1)] d K := by
  refine t_100_0 ?_
  have q2 := r_8_f0 hS hx0
  refine l_100_7 hx0 p1 (((d x0 0) - 1) + 1 : Int).toNat ((d x0 0) - 1)  d hS (by omega) (by omega) ?_
  intro e
  have y0 : v_100 x0 x1 d = lp_100_7 x0 x1 (((d x0 0) - 1) + 1 : Int).toNat ((d x0 0) - 1) d := by simp only [v_100]
  rw [y0] at h
  exact h e
def st_101_4 (x0 x1 : Int) (r4 : Int → Int → mD → Int) (x2 x3 : Int) (d : mD) : Int := if x3 < d x0 0 then (if d (x0 + 5) x3 = x1 then r4 (x2 + 1) (x3 + 1) d else r4 (x2 + 0) (x3 + 1) d) else x2
def lp_101_4 (x0 x1 : Int) : Nat → Int → Int → mD → Int
  | 0 => st_101_4 x0 x1 (fun _ _ d => 0)
  | n + 1 => st_101_4 x0 x1 (lp_101_4 x0 x1 n)
theorem ls_101_4 {E : mO × tW} {K : tK} {x0 x1 : Int} (hx0 : tiB x0) (p1 : -2147483648 ≤ x1 ∧ x1 ≤ 2147483647) (N4 : Int) (r4 : Int → Int → mD → Int) (ih4 : ∀ (x2 x3 : Int) (d : mD), Safe d → (0 ≤ x3 ∧ x3 ≤ 60) → (0 ≤ x2 ∧ x2 ≤ x3) → 0 ≤ 60 - x3 → 60 - x3 < N4 → ((0 ≤ (r4 x2 x3 d) ∧ (r4 x2 x3 d) ≤ 60) → K (.inl (some (0, (r4 x2 x3 d)))) d) → tRun E 101 (4, [.inr (8, x0), .inl (0, x1), .inl (0, x2), .inl (0, x3)], [], 0, 0, d) K) (x2 x3 : Int) (d : mD) (hS : Safe d) (i0 : 0 ≤ x3 ∧ x3 ≤ 60) (i1 : 0 ≤ x2 ∧ x2 ≤ x3) (hm : 60 - x3 ≤ N4) (h : (0 ≤ (st_101_4 x0 x1 r4 x2 x3 d) ∧ (st_101_4 x0 x1 r4 x2 x3 d) ≤ 60) → K (.inl (some (0, (st_101_4 x0 x1 r4 x2 x3 d)))) d) : tRun E 101 (4, [.inr (8, x0), .inl (0, x1), .inl (0, x2), .inl (0, x3)], [], 0, 0, d) K := by
  refine t_101_4 ?_
  have q1 := r_8_f0 hS hx0
  refine ⟨⟨m_inR (by omega) (by omega), m_inR (by omega) (by omega)⟩, fun c0 => ?_, fun c0 => ?_⟩
  · have y0 : st_101_4 x0 x1 r4 x2 x3 d = x2 := by simp only [st_101_4, if_neg (show ¬ x3 < d x0 0 from Int.not_lt.mpr c0)]
    rw [y0] at h
    exact h (show 0 ≤ x2 ∧ x2 ≤ 60 from (by omega))
  · have q2 := r_8_5 hS hx0 x3
    refine ⟨by omega, ⟨m_inR (by omega) (by omega), m_inR (by omega) (by omega)⟩, fun c1 => ?_, fun c1 => ?_⟩
    · refine ih4 (x2 + 0) (x3 + 1)  d hS (by omega) (by omega) (by omega) (by omega) ?_
      intro e
      have y0 : st_101_4 x0 x1 r4 x2 x3 d = r4 (x2 + 0) (x3 + 1) d := by simp only [st_101_4, if_pos (show x3 < d x0 0 from c0), if_neg (show ¬ d (x0 + 5) x3 = x1 from c1)]
      rw [y0] at h
      exact h e
    · refine ih4 (x2 + 1) (x3 + 1)  d hS (by omega) (by omega) (by omega) (by omega) ?_
      intro e
      have y0 : st_101_4 x0 x1 r4 x2 x3 d = r4 (x2 + 1) (x3 + 1) d := by simp only [st_101_4, if_pos (show x3 < d x0 0 from c0), if_pos (show d (x0 + 5) x3 = x1 from c1)]
      rw [y0] at h
      exact h e
theorem l_101_4 {E : mO × tW} {K : tK} {x0 x1 : Int} (hx0 : tiB x0) (p1 : -2147483648 ≤ x1 ∧ x1 ≤ 2147483647) : ∀ (n : Nat) (x2 x3 : Int) (d : mD), Safe d → (0 ≤ x3 ∧ x3 ≤ 60) → (0 ≤ x2 ∧ x2 ≤ x3) → 60 - x3 ≤ (n : Int) → ((0 ≤ (lp_101_4 x0 x1 n x2 x3 d) ∧ (lp_101_4 x0 x1 n x2 x3 d) ≤ 60) → K (.inl (some (0, (lp_101_4 x0 x1 n x2 x3 d)))) d) → tRun E 101 (4, [.inr (8, x0), .inl (0, x1), .inl (0, x2), .inl (0, x3)], [], 0, 0, d) K := by
  intro n
  induction n with
  | zero =>
    intro x2 x3  d hS i0 i1 hm  h
    exact ls_101_4 hx0 p1 0 _ (fun _ _  _ _ _ _ m0 m1 _ => absurd m1 (by omega)) x2 x3  d hS i0 i1 hm  h
  | succ n ih =>
    intro x2 x3  d hS i0 i1 hm  h
    exact ls_101_4 hx0 p1 ((n + 1 : Nat) : Int) _ (fun x2 x3  d hS i0 i1  m0 m1 h => ih x2 x3  d hS i0 i1 (by omega)  h) x2 x3  d hS i0 i1 hm  h
def v_101 (x0 x1 : Int) (d : mD) : Int := lp_101_4 x0 x1 (60 - 0 : Int).toNat 0 0 d
theorem k_101 {E : mO × tW} {K : tK} {d : mD} {x0 x1 : Int} (hS : Safe d) (hx0 : tiB x0) (p1 : -2147483648 ≤ x1 ∧ x1 ≤ 2147483647) (h : (0 ≤ (v_101 x0 x1 d) ∧ (v_101 x0 x1 d) ≤ 60) → K (.inl (some (0, (v_101 x0 x1 d)))) d) : tCall E 101 [.inr (8, x0), .inl (0, x1)] d K := by
  refine t_101_0 ?_
  refine l_101_4 hx0 p1 (60 - 0 : Int).toNat 0 0  d hS (by omega) (by omega) (by omega) ?_
  intro e
  have y0 : v_101 x0 x1 d = lp_101_4 x0 x1 (60 - 0 : Int).toNat 0 0 d := by simp only [v_101]
  rw [y0] at h
  exact h e
def st_102_4 (x0 x1 : Int) (r4 : Int → Int → mD → Int) (x2 x3 : Int) (d : mD) : Int := if x3 < d x0 0 then (if d (x0 + 6) x3 = x1 then r4 (x2 + 1) (x3 + 1) d else r4 (x2 + 0) (x3 + 1) d) else x2
def lp_102_4 (x0 x1 : Int) : Nat → Int → Int → mD → Int
  | 0 => st_102_4 x0 x1 (fun _ _ d => 0)
  | n + 1 => st_102_4 x0 x1 (lp_102_4 x0 x1 n)
theorem ls_102_4 {E : mO × tW} {K : tK} {x0 x1 : Int} (hx0 : tiB x0) (p1 : -2147483648 ≤ x1 ∧ x1 ≤ 2147483647) (N4 : Int) (r4 : Int → Int → mD → Int) (ih4 : ∀ (x2 x3 : Int) (d : mD), Safe d → (0 ≤ x3 ∧ x3 ≤ 60) → (0 ≤ x2 ∧ x2 ≤ x3) → 0 ≤ 60 - x3 → 60 - x3 < N4 → ((0 ≤ (r4 x2 x3 d) ∧ (r4 x2 x3 d) ≤ 60) → K (.inl (some (0, (r4 x2 x3 d)))) d) → tRun E 102 (4, [.inr (8, x0), .inl (0, x1), .inl (0, x2), .inl (0, x3)], [], 0, 0, d) K) (x2 x3 : Int) (d : mD) (hS : Safe d) (i0 : 0 ≤ x3 ∧ x3 ≤ 60) (i1 : 0 ≤ x2 ∧ x2 ≤ x3) (hm : 60 - x3 ≤ N4) (h : (0 ≤ (st_102_4 x0 x1 r4 x2 x3 d) ∧ (st_102_4 x0 x1 r4 x2 x3 d) ≤ 60) → K (.inl (some (0, (st_102_4 x0 x1 r4 x2 x3 d)))) d) : tRun E 102 (4, [.inr (8, x0), .inl (0, x1), .inl (0, x2), .inl (0, x3)], [], 0, 0, d) K := by
  refine t_102_4 ?_
  have q1 := r_8_f0 hS hx0
  refine ⟨⟨m_inR (by omega) (by omega), m_inR (by omega) (by omega)⟩, fun c0 => ?_, fun c0 => ?_⟩
  · have y0 : st_102_4 x0 x1 r4 x2 x3 d = x2 := by simp only [st_102_4, if_neg (show ¬ x3 < d x0 0 from Int.not_lt.mpr c0)]
    rw [y0] at h
    exact h (show 0 ≤ x2 ∧ x2 ≤ 60 from (by omega))
  · have q2 := r_8_6 hS hx0 x3
    refine ⟨by omega, ⟨m_inR (by omega) (by omega), m_inR (by omega) (by omega)⟩, fun c1 => ?_, fun c1 => ?_⟩
    · refine ih4 (x2 + 0) (x3 + 1)  d hS (by omega) (by omega) (by omega) (by omega) ?_
      intro e
      have y0 : st_102_4 x0 x1 r4 x2 x3 d = r4 (x2 + 0) (x3 + 1) d := by simp only [st_102_4, if_pos (show x3 < d x0 0 from c0), if_neg (show ¬ d (x0 + 6) x3 = x1 from c1)]
      rw [y0] at h
      exact h e
    · refine ih4 (x2 + 1) (x3 + 1)  d hS (by omega) (by omega) (by omega) (by omega) ?_
      intro e
      have y0 : st_102_4 x0 x1 r4 x2 x3 d = r4 (x2 + 1) (x3 + 1) d := by simp only [st_102_4, if_pos (show x3 < d x0 0 from c0), if_pos (show d (x0 + 6) x3 = x1 from c1)]
      rw [y0] at h
      exact h e
theorem l_102_4 {E : mO × tW} {K : tK} {x0 x1 : Int} (hx0 : tiB x0) (p1 : -2147483648 ≤ x1 ∧ x1 ≤ 2147483647) : ∀ (n : Nat) (x2 x3 : Int) (d : mD), Safe d → (0 ≤ x3 ∧ x3 ≤ 60) → (0 ≤ x2 ∧ x2 ≤ x3) → 60 - x3 ≤ (n : Int) → ((0 ≤ (lp_102_4 x0 x1 n x2 x3 d) ∧ (lp_102_4 x0 x1 n x2 x3 d) ≤ 60) → K (.inl (some (0, (lp_102_4 x0 x1 n x2 x3 d)))) d) → tRun E 102 (4, [.inr (8, x0), .inl (0, x1), .inl (0, x2), .inl (0, x3)], [], 0, 0, d) K := by
  intro n
  induction n with
  | zero =>
    intro x2 x3  d hS i0 i1 hm  h
    exact ls_102_4 hx0 p1 0 _ (fun _ _  _ _ _ _ m0 m1 _ => absurd m1 (by omega)) x2 x3  d hS i0 i1 hm  h
  | succ n ih =>
    intro x2 x3  d hS i0 i1 hm  h
    exact ls_102_4 hx0 p1 ((n + 1 : Nat) : Int) _ (fun x2 x3  d hS i0 i1  m0 m1 h => ih x2 x3  d hS i0 i1 (by omega)  h) x2 x3  d hS i0 i1 hm  h
def v_102 (x0 x1 : Int) (d : mD) : Int := lp_102_4 x0 x1 (60 - 0 : Int).toNat 0 0 d
theorem k_102 {E : mO × tW} {K : tK} {d : mD} {x0 x1 : Int} (hS : Safe d) (hx0 : tiB x0) (p1 : -2147483648 ≤ x1 ∧ x1 ≤ 2147483647) (h : (0 ≤ (v_102 x0 x1 d) ∧ (v_102 x0 x1 d) ≤ 60) → K (.inl (some (0, (v_102 x0 x1 d)))) d) : tCall E 102 [.inr (8, x0), .inl (0, x1)] d K := by
  refine t_102_0 ?_
  refine l_102_4 hx0 p1 (60 - 0 : Int).toNat 0 0  d hS (by omega) (by omega) (by omega) ?_
  intro e
  have y0 : v_102 x0 x1 d = lp_102_4 x0 x1 (60 - 0 : Int).toNat 0 0 d := by simp only [v_102]
  rw [y0] at h
  exact h e
def st_103_4 (x0 x1 : Int) (r4 : Int → Int → mD → Int) (x2 x3 : Int) (d : mD) : Int := if x3 < d x0 0 then (if d (x0 + 5) x3 = 1 then (if d (x0 + 2) x3 = x1 then r4 (x2 + 1) (x3 + 1) d else r4 (x2 + 0) (x3 + 1) d) else r4 (x2 + 0) (x3 + 1) d) else x2
def lp_103_4 (x0 x1 : Int) : Nat → Int → Int → mD → Int
  | 0 => st_103_4 x0 x1 (fun _ _ d => 0)
  | n + 1 => st_103_4 x0 x1 (lp_103_4 x0 x1 n)
theorem ls_103_4 {E : mO × tW} {K : tK} {x0 x1 : Int} (hx0 : tiB x0) (p1 : -2147483648 ≤ x1 ∧ x1 ≤ 2147483647) (N4 : Int) (r4 : Int → Int → mD → Int) (ih4 : ∀ (x2 x3 : Int) (d : mD), Safe d → (0 ≤ x3 ∧ x3 ≤ 60) → (0 ≤ x2 ∧ x2 ≤ x3) → 0 ≤ 60 - x3 → 60 - x3 < N4 → ((0 ≤ (r4 x2 x3 d) ∧ (r4 x2 x3 d) ≤ 60) → K (.inl (some (0, (r4 x2 x3 d)))) d) → tRun E 103 (4, [.inr (8, x0), .inl (0, x1), .inl (0, x2), .inl (0, x3)], [], 0, 0, d) K) (x2 x3 : Int) (d : mD) (hS : Safe d) (i0 : 0 ≤ x3 ∧ x3 ≤ 60) (i1 : 0 ≤ x2 ∧ x2 ≤ x3) (hm : 60 - x3 ≤ N4) (h : (0 ≤ (st_103_4 x0 x1 r4 x2 x3 d) ∧ (st_103_4 x0 x1 r4 x2 x3 d) ≤ 60) → K (.inl (some (0, (st_103_4 x0 x1 r4 x2 x3 d)))) d) : tRun E 103 (4, [.inr (8, x0), .inl (0, x1), .inl (0, x2), .inl (0, x3)], [], 0, 0, d) K := by
  refine t_103_4 ?_
  have q1 := r_8_f0 hS hx0
  refine ⟨⟨m_inR (by omega) (by omega), m_inR (by omega) (by omega)⟩, fun c0 => ?_, fun c0 => ?_⟩
  · have y0 : st_103_4 x0 x1 r4 x2 x3 d = x2 := by simp only [st_103_4, if_neg (show ¬ x3 < d x0 0 from Int.not_lt.mpr c0)]
    rw [y0] at h
    exact h (show 0 ≤ x2 ∧ x2 ≤ 60 from (by omega))
  · have q2 := r_8_5 hS hx0 x3
    refine ⟨by omega, ⟨m_inR (by omega) (by omega), m_inR (by omega) (by omega)⟩, fun c1 => ?_, fun c1 => ?_⟩
    · refine ih4 (x2 + 0) (x3 + 1)  d hS (by omega) (by omega) (by omega) (by omega) ?_
      intro e
      have y0 : st_103_4 x0 x1 r4 x2 x3 d = r4 (x2 + 0) (x3 + 1) d := by simp only [st_103_4, if_pos (show x3 < d x0 0 from c0), if_neg (show ¬ d (x0 + 5) x3 = 1 from c1)]
      rw [y0] at h
      exact h e
    · have q3 := r_8_2 hS hx0 x3
      refine ⟨by omega, ⟨m_inR (by omega) (by omega), m_inR (by omega) (by omega)⟩, fun c2 => ?_, fun c2 => ?_⟩
      · refine ih4 (x2 + 0) (x3 + 1)  d hS (by omega) (by omega) (by omega) (by omega) ?_
        intro e
        have y0 : st_103_4 x0 x1 r4 x2 x3 d = r4 (x2 + 0) (x3 + 1) d := by simp only [st_103_4, if_pos (show x3 < d x0 0 from c0), if_pos (show d (x0 + 5) x3 = 1 from c1), if_neg (show ¬ d (x0 + 2) x3 = x1 from c2)]
        rw [y0] at h
        exact h e
      · refine ih4 (x2 + 1) (x3 + 1)  d hS (by omega) (by omega) (by omega) (by omega) ?_
        intro e
        have y0 : st_103_4 x0 x1 r4 x2 x3 d = r4 (x2 + 1) (x3 + 1) d := by simp only [st_103_4, if_pos (show x3 < d x0 0 from c0), if_pos (show d (x0 + 5) x3 = 1 from c1), if_pos (show d (x0 + 2) x3 = x1 from c2)]
        rw [y0] at h
        exact h e
theorem l_103_4 {E : mO × tW} {K : tK} {x0 x1 : Int} (hx0 : tiB x0) (p1 : -2147483648 ≤ x1 ∧ x1 ≤ 2147483647) : ∀ (n : Nat) (x2 x3 : Int) (d : mD), Safe d → (0 ≤ x3 ∧ x3 ≤ 60) → (0 ≤ x2 ∧ x2 ≤ x3) → 60 - x3 ≤ (n : Int) → ((0 ≤ (lp_103_4 x0 x1 n x2 x3 d) ∧ (lp_103_4 x0 x1 n x2 x3 d) ≤ 60) → K (.inl (some (0, (lp_103_4 x0 x1 n x2 x3 d)))) d) → tRun E 103 (4, [.inr (8, x0), .inl (0, x1), .inl (0, x2), .inl (0, x3)], [], 0, 0, d) K := by
  intro n
  induction n with
  | zero =>
    intro x2 x3  d hS i0 i1 hm  h
    exact ls_103_4 hx0 p1 0 _ (fun _ _  _ _ _ _ m0 m1 _ => absurd m1 (by omega)) x2 x3  d hS i0 i1 hm  h
  | succ n ih =>
    intro x2 x3  d hS i0 i1 hm  h
    exact ls_103_4 hx0 p1 ((n + 1 : Nat) : Int) _ (fun x2 x3  d hS i0 i1  m0 m1 h => ih x2 x3  d hS i0 i1 (by omega)  h) x2 x3  d hS i0 i1 hm  h
def v_103 (x0 x1 : Int) (d : mD) : Int := lp_103_4 x0 x1 (60 - 0 : Int).toNat 0 0 d
theorem k_103 {E : mO × tW} {K : tK} {d : mD} {x0 x1 : Int} (hS : Safe d) (hx0 : tiB x0) (p1 : -2147483648 ≤ x1 ∧ x1 ≤ 2147483647) (h : (0 ≤ (v_103 x0 x1 d) ∧ (v_103 x0 x1 d) ≤ 60) → K (.inl (some (0, (v_103 x0 x1 d)))) d) : tCall E 103 [.inr (8, x0), .inl (0, x1)] d K := by
  refine t_103_0 ?_
  refine l_103_4 hx0 p1 (60 - 0 : Int).toNat 0 0  d hS (by omega) (by omega) (by omega) ?_
  intro e
  have y0 : v_103 x0 x1 d = lp_103_4 x0 x1 (60 - 0 : Int).toNat 0 0 d := by simp only [v_103]
  rw [y0] at h
  exact h e
def st_104_4 (x0 x1 : Int) (r4 : Int → Int → mD → Int) (x2 x3 : Int) (d : mD) : Int := if x3 < d x0 0 then (if d (x0 + 1) x3 = x1 then r4 (x2 + 1) (x3 + 1) d else r4 (x2 + 0) (x3 + 1) d) else x2
def lp_104_4 (x0 x1 : Int) : Nat → Int → Int → mD → Int
  | 0 => st_104_4 x0 x1 (fun _ _ d => 0)
  | n + 1 => st_104_4 x0 x1 (lp_104_4 x0 x1 n)
theorem ls_104_4 {E : mO × tW} {K : tK} {x0 x1 : Int} (hx0 : tiB x0) (p1 : -2147483648 ≤ x1 ∧ x1 ≤ 2147483647) (N4 : Int) (r4 : Int → Int → mD → Int) (ih4 : ∀ (x2 x3 : Int) (d : mD), Safe d → (0 ≤ x3 ∧ x3 ≤ 60) → (0 ≤ x2 ∧ x2 ≤ x3) → 0 ≤ 60 - x3 → 60 - x3 < N4 → ((0 ≤ (r4 x2 x3 d) ∧ (r4 x2 x3 d) ≤ 60) → K (.inl (some (0, (r4 x2 x3 d)))) d) → tRun E 104 (4, [.inr (8, x0), .inl (0, x1), .inl (0, x2), .inl (0, x3)], [], 0, 0, d) K) (x2 x3 : Int) (d : mD) (hS : Safe d) (i0 : 0 ≤ x3 ∧ x3 ≤ 60) (i1 : 0 ≤ x2 ∧ x2 ≤ x3) (hm : 60 - x3 ≤ N4) (h : (0 ≤ (st_104_4 x0 x1 r4 x2 x3 d) ∧ (st_104_4 x0 x1 r4 x2 x3 d) ≤ 60) → K (.inl (some (0, (st_104_4 x0 x1 r4 x2 x3 d)))) d) : tRun E 104 (4, [.inr (8, x0), .inl (0, x1), .inl (0, x2), .inl (0, x3)], [], 0, 0, d) K := by
  refine t_104_4 ?_
  have q1 := r_8_f0 hS hx0
  refine ⟨⟨m_inR (by omega) (by omega), m_inR (by omega) (by omega)⟩, fun c0 => ?_, fun c0 => ?_⟩
  · have y0 : st_104_4 x0 x1 r4 x2 x3 d = x2 := by simp only [st_104_4, if_neg (show ¬ x3 < d x0 0 from Int.not_lt.mpr c0)]
    rw [y0] at h
    exact h (show 0 ≤ x2 ∧ x2 ≤ 60 from (by omega))
  · have q2 := r_8_1 hS hx0 x3
    refine ⟨by omega, ⟨m_inR (by omega) (by omega), m_inR (by omega) (by omega)⟩, fun c1 => ?_, fun c1 => ?_⟩
    · refine ih4 (x2 + 0) (x3 + 1)  d hS (by omega) (by omega) (by omega) (by omega) ?_
      intro e
      have y0 : st_104_4 x0 x1 r4 x2 x3 d = r4 (x2 + 0) (x3 + 1) d := by simp only [st_104_4, if_pos (show x3 < d x0 0 from c0), if_neg (show ¬ d (x0 + 1) x3 = x1 from c1)]
      rw [y0] at h
      exact h e
    · refine ih4 (x2 + 1) (x3 + 1)  d hS (by omega) (by omega) (by omega) (by omega) ?_
      intro e
      have y0 : st_104_4 x0 x1 r4 x2 x3 d = r4 (x2 + 1) (x3 + 1) d := by simp only [st_104_4, if_pos (show x3 < d x0 0 from c0), if_pos (show d (x0 + 1) x3 = x1 from c1)]
      rw [y0] at h
      exact h e
theorem l_104_4 {E : mO × tW} {K : tK} {x0 x1 : Int} (hx0 : tiB x0) (p1 : -2147483648 ≤ x1 ∧ x1 ≤ 2147483647) : ∀ (n : Nat) (x2 x3 : Int) (d : mD), Safe d → (0 ≤ x3 ∧ x3 ≤ 60) → (0 ≤ x2 ∧ x2 ≤ x3) → 60 - x3 ≤ (n : Int) → ((0 ≤ (lp_104_4 x0 x1 n x2 x3 d) ∧ (lp_104_4 x0 x1 n x2 x3 d) ≤ 60) → K (.inl (some (0, (lp_104_4 x0 x1 n x2 x3 d)))) d) → tRun E 104 (4, [.inr (8, x0), .inl (0, x1), .inl (0, x2), .inl (0, x3)], [], 0, 0, d) K := by
  intro n
  induction n with
  | zero =>
    intro x2 x3  d hS i0 i1 hm  h
    exact ls_104_4 hx0 p1 0 _ (fun _ _  _ _ _ _ m0 m1 _ => absurd m1 (by omega)) x2 x3  d hS i0 i1 hm  h
  | succ n ih =>
    intro x2 x3  d hS i0 i1 hm  h
    exact ls_104_4 hx0 p1 ((n + 1 : Nat) : Int) _ (fun x2 x3  d hS i0 i1  m0 m1 h => ih x2 x3  d hS i0 i1 (by omega)  h) x2 x3  d hS i0 i1 hm  h
def v_104 (x0 x1 : Int) (d : mD) : Int := lp_104_4 x0 x1 (60 - 0 : Int).toNat 0 0 d
theorem k_104 {E : mO × tW} {K : tK} {d : mD} {x0 x1 : Int} (hS : Safe d) (hx0 : tiB x0) (p1 : -2147483648 ≤ x1 ∧ x1 ≤ 2147483647) (h : (0 ≤ (v_104 x0 x1 d) ∧ (v_104 x0 x1 d) ≤ 60) → K (.inl (some (0, (v_104 x0 x1 d)))) d) : tCall E 104 [.inr (8, x0), .inl (0, x1)] d K := by
  refine t_104_0 ?_
  refine l_104_4 hx0 p1 (60 - 0 : Int).toNat 0 0  d hS (by omega) (by omega) (by omega) ?_
  intro e
  have y0 : v_104 x0 x1 d = lp_104_4 x0 x1 (60 - 0 : Int).toNat 0 0 d := by simp only [v_104]
  rw [y0] at h
  exact h e
def st_105_4 (x0 x1 : Int) (r4 : Int → Int → mD → Int) (x2 x3 : Int) (d : mD) : Int := if x3 < d x0 0 then (if d (x0 + 1) x3 = x1 then (if d (x0 + 5) x3 = 0 then r4 (x2 + 1) (x3 + 1) d else r4 (x2 + 0) (x3 + 1) d) else r4 (x2 + 0) (x3 + 1) d) else x2
def lp_105_4 (x0 x1 : Int) : Nat → Int → Int → mD → Int
  | 0 => st_105_4 x0 x1 (fun _ _ d => 0)
  | n + 1 => st_105_4 x0 x1 (lp_105_4 x0 x1 n)
theorem ls_105_4 {E : mO × tW} {K : tK} {x0 x1 : Int} (hx0 : tiB x0) (p1 : -2147483648 ≤ x1 ∧ x1 ≤ 2147483647) (N4 : Int) (r4 : Int → Int → mD → Int) (ih4 : ∀ (x2 x3 : Int) (d : mD), Safe d → (0 ≤ x3 ∧ x3 ≤ 60) → (0 ≤ x2 ∧ x2 ≤ x3) → 0 ≤ 60 - x3 → 60 - x3 < N4 → ((0 ≤ (r4 x2 x3 d) ∧ (r4 x2 x3 d) ≤ 60) → K (.inl (some (0, (r4 x2 x3 d)))) d) → tRun E 105 (4, [.inr (8, x0), .inl (0, x1), .inl (0, x2), .inl (0, x3)], [], 0, 0, d) K) (x2 x3 : Int) (d : mD) (hS : Safe d) (i0 : 0 ≤ x3 ∧ x3 ≤ 60) (i1 : 0 ≤ x2 ∧ x2 ≤ x3) (hm : 60 - x3 ≤ N4) (h : (0 ≤ (st_105_4 x0 x1 r4 x2 x3 d) ∧ (st_105_4 x0 x1 r4 x2 x3 d) ≤ 60) → K (.inl (some (0, (st_105_4 x0 x1 r4 x2 x3 d)))) d) : tRun E 105 (4, [.inr (8, x0), .inl (0, x1), .inl (0, x2), .inl (0, x3)], [], 0, 0, d) K := by
  refine t_105_4 ?_
  have q1 := r_8_f0 hS hx0
  refine ⟨⟨m_inR (by omega) (by omega), m_inR (by omega) (by omega)⟩, fun c0 => ?_, fun c0 => ?_⟩
  · have y0 : st_105_4 x0 x1 r4 x2 x3 d = x2 := by simp only [st_105_4, if_neg (show ¬ x3 < d x0 0 from Int.not_lt.mpr c0)]
    rw [y0] at h
    exact h (show 0 ≤ x2 ∧ x2 ≤ 60 from (by omega))
  · have q2 := r_8_1 hS hx0 x3
    refine ⟨by omega, ⟨m_inR (by omega) (by omega), m_inR (by omega) (by omega)⟩, fun c1 => ?_, fun c1 => ?_⟩
    · refine ih4 (x2 + 0) (x3 + 1)  d hS (by omega) (by omega) (by omega) (by omega) ?_
      intro e
      have y0 : st_105_4 x0 x1 r4 x2 x3 d = r4 (x2 + 0) (x3 + 1) d := by simp only [st_105_4, if_pos (show x3 < d x0 0 from c0), if_neg (show ¬ d (x0 + 1) x3 = x1 from c1)]
      rw [y0] at h
      exact h e
    · have q3 := r_8_5 hS hx0 x3
      refine ⟨by omega, m_inR (by omega) (by omega), fun c2 => ?_, fun c2 => ?_⟩
      · refine ih4 (x2 + 0) (x3 + 1)  d hS (by omega) (by omega) (by omega) (by omega) ?_
        intro e
        have y0 : st_105_4 x0 x1 r4 x2 x3 d = r4 (x2 + 0) (x3 + 1) d := by simp only [st_105_4, if_pos (show x3 < d x0 0 from c0), if_pos (show d (x0 + 1) x3 = x1 from c1), if_neg (show ¬ d (x0 + 5) x3 = 0 from c2)]
        rw [y0] at h
        exact h e
      · refine ih4 (x2 + 1) (x3 + 1)  d hS (by omega) (by omega) (by omega) (by omega) ?_
        intro e
        have y0 : st_105_4 x0 x1 r4 x2 x3 d = r4 (x2 + 1) (x3 + 1) d := by simp only [st_105_4, if_pos (show x3 < d x0 0 from c0), if_pos (show d (x0 + 1) x3 = x1 from c1), if_pos (show d (x0 + 5) x3 = 0 from c2)]
        rw [y0] at h
        exact h e
theorem l_105_4 {E : mO × tW} {K : tK} {x0 x1 : Int} (hx0 : tiB x0) (p1 : -2147483648 ≤ x1 ∧ x1 ≤ 2147483647) : ∀ (n : Nat) (x2 x3 : Int) (d : mD), Safe d → (0 ≤ x3 ∧ x3 ≤ 60) → (0 ≤ x2 ∧ x2 ≤ x3) → 60 - x3 ≤ (n : Int) → ((0 ≤ (lp_105_4 x0 x1 n x2 x3 d) ∧ (lp_105_4 x0 x1 n x2 x3 d) ≤ 60) → K (.inl (some (0, (lp_105_4 x0 x1 n x2 x3 d)))) d) → tRun E 105 (4, [.inr (8, x0), .inl (0, x1), .inl (0, x2), .inl (0, x3)], [], 0, 0, d) K := by
  intro n
  induction n with
  | zero =>
    intro x2 x3  d hS i0 i1 hm  h
    exact ls_105_4 hx0 p1 0 _ (fun _ _  _ _ _ _ m0 m1 _ => absurd m1 (by omega)) x2 x3  d hS i0 i1 hm  h
  | succ n ih =>
    intro x2 x3  d hS i0 i1 hm  h
    exact ls_105_4 hx0 p1 ((n + 1 : Nat) : Int) _ (fun x2 x3  d hS i0 i1  m0 m1 h => ih x2 x3  d hS i0 i1 (by omega)  h) x2 x3  d hS i0 i1 hm  h
def v_105 (x0 x1 : Int) (d : mD) : Int := lp_105_4 x0 x1 (60 - 0 : Int).toNat 0 0 d
theorem k_105 {E : mO × tW} {K : tK} {d : mD} {x0 x1 : Int} (hS : Safe d) (hx0 : tiB x0) (p1 : -2147483648 ≤ x1 ∧ x1 ≤ 2147483647) (h : (0 ≤ (v_105 x0 x1 d) ∧ (v_105 x0 x1 d) ≤ 60) → K (.inl (some (0, (v_105 x0 x1 d)))) d) : tCall E 105 [.inr (8, x0), .inl (0, x1)] d K := by
  refine t_105_0 ?_
  refine l_105_4 hx0 p1 (60 - 0 : Int).toNat 0 0  d hS (by omega) (by omega) (by omega) ?_
  intro e
  have y0 : v_105 x0 x1 d = lp_105_4 x0 x1 (60 - 0 : Int).toNat 0 0 d := by simp only [v_105]
  rw [y0] at h
  exact h e
def st_106_4 (x0 : Int) (r4 : Int → Int → mD → Int) (x1 x2 : Int) (d : mD) : Int := if x2 < d x0 0 then (if d (x0 + 5) x2 = 1 then r4 (x1 + ((d (x0 + 4) x2) - (d (x0 + 3) x2))) (x2 + 1) d else r4 (x1 + 0) (x2 + 1) d) else x1
def lp_106_4 (x0 : Int) : Nat → Int → Int → mD → Int
  | 0 => st_106_4 x0 (fun _ _ d => 0)
  | n + 1 => st_106_4 x0 (lp_106_4 x0 n)
theorem ls_106_4 {E : mO × tW} {K : tK} {x0 : Int} (hx0 : tiB x0) (N4 : Int) (r4 : Int → Int → mD → Int) (ih4 : ∀ (x1 x2 : Int) (d : mD), Safe d → (0 ≤ x2 ∧ x2 ≤ 60) → (-1000 * x2 ≤ x1 ∧ x1 ≤ 1200 * x2) → 0 ≤ 60 - x2 → 60 - x2 < N4 → ((-60000 ≤ (r4 x1 x2 d) ∧ (r4 x1 x2 d) ≤ 72000) → K (.inl (some (0, (r4 x1 x2 d)))) d) → tRun E 106 (4, [.inr (8, x0), .inl (0, x1), .inl (0, x2)], [], 0, 0, d) K) (x1 x2 : Int) (d : mD) (hS : Safe d) (i0 : 0 ≤ x2 ∧ x2 ≤ 60) (i1 : -1000 * x2 ≤ x1 ∧ x1 ≤ 1200 * x2) (hm : 60 - x2 ≤ N4) (h : (-60000 ≤ (st_106_4 x0 r4 x1 x2 d) ∧ (st_106_4 x0 r4 x1 x2 d) ≤ 72000) → K (.inl (some (0, (st_106_4 x0 r4 x1 x2 d)))) d) : tRun E 106 (4, [.inr (8, x0), .inl (0, x1), .inl (0, x2)], [], 0, 0, d) K := by
  refine t_106_4 ?_
  have q1 := r_8_f0 hS hx0
  refine ⟨⟨m_inR (by omega) (by omega), m_inR (by omega) (by omega)⟩, fun c0 => ?_, fun c0 => ?_⟩
  · have y0 : st_106_4 x0 r4 x1 x2 d = x1 := by simp only [st_106_4, if_neg (show ¬ x2 < d x0 0 from Int.not_lt.mpr c0)]
    rw [y0] at h
    exact h (show -60000 ≤ x1 ∧ x1 ≤ 72000 from (by omega))
  · have q2 := r_8_5 hS hx0 x2
    refine ⟨by omega, ⟨m_inR (by omega) (by omega), m_inR (by omega) (by omega)⟩, fun c1 => ?_, fun c1 => ?_⟩
    · refine ih4 (x1 + 0) (x2 + 1)  d hS (by omega) (by omega) (by omega) (by omega) ?_
      intro e
      have y0 : st_106_4 x0 r4 x1 x2 d = r4 (x1 + 0) (x2 + 1) d := by simp only [st_106_4, if_pos (show x2 < d x0 0 from c0), if_neg (show ¬ d (x0 + 5) x2 = 1 from c1)]
      rw [y0] at h
      exact h e
    · refine ⟨by omega, by omega, ?_⟩
      have q3 := r_8_4 hS hx0 x2
      have q4 := r_8_3 hS hx0 x2
      refine ih4 (x1 + ((d (x0 + 4) x2) - (d (x0 + 3) x2))) (x2 + 1)  d hS (by omega) (by omega) (by omega) (by omega) ?_
      intro e
      have y0 : st_106_4 x0 r4 x1 x2 d = r4 (x1 + ((d (x0 + 4) x2) - (d (x0 + 3) x2))) (x2 + 1) d := by simp only [st_106_4, if_pos (show x2 < d x0 0 from c0), if_pos (show d (x0 + 5) x2 = 1 from c1)]
      rw [y0] at h
      exact h e
theorem l_106_4 {E : mO × tW} {K : tK} {x0 : Int} (hx0 : tiB x0) : ∀ (n : Nat) (x1 x2 : Int) (d : mD), Safe d → (0 ≤ x2 ∧ x2 ≤ 60) → (-1000 * x2 ≤ x1 ∧ x1 ≤ 1200 * x2) → 60 - x2 ≤ (n : Int) → ((-60000 ≤ (lp_106_4 x0 n x1 x2 d) ∧ (lp_106_4 x0 n x1 x2 d) ≤ 72000) → K (.inl (some (0, (lp_106_4 x0 n x1 x2 d)))) d) → tRun E 106 (4, [.inr (8, x0), .inl (0, x1), .inl (0, x2)], [], 0, 0, d) K := by
  intro n
  induction n with
  | zero =>
    intro x1 x2  d hS i0 i1 hm  h
    exact ls_106_4 hx0 0 _ (fun _ _  _ _ _ _ m0 m1 _ => absurd m1 (by omega)) x1 x2  d hS i0 i1 hm  h
  | succ n ih =>
    intro x1 x2  d hS i0 i1 hm  h
    exact ls_106_4 hx0 ((n + 1 : Nat) : Int) _ (fun x1 x2  d hS i0 i1  m0 m1 h => ih x1 x2  d hS i0 i1 (by omega)  h) x1 x2  d hS i0 i1 hm  h
def v_106 (x0 : Int) (d : mD) : Int := lp_106_4 x0 (60 - 0 : Int).toNat 0 0 d
theorem k_106 {E : mO × tW} {K : tK} {d : mD} {x0 : Int} (hS : Safe d) (hx0 : tiB x0) (h : (-60000 ≤ (v_106 x0 d) ∧ (v_106 x0 d) ≤ 72000) → K (.inl (some (0, (v_106 x0 d)))) d) : tCall E 106 [.inr (8, x0)] d K := by
  refine t_106_0 ?_
  refine l_106_4 hx0 (60 - 0 : Int).toNat 0 0  d hS (by omega) (by omega) (by omega) ?_
  intro e
  have y0 : v_106 x0 d = lp_106_4 x0 (60 - 0 : Int).toNat 0 0 d := by simp only [v_106]
  rw [y0] at h
  exact h e
def g_108 (x0 x1 : Int) (d : mD) : mD := mcopy (mset (mcopy (mcopy (mcopy (mcopy (mset d x0 0 (d x1 0)) (x1 + 1) 0 (x0 + 1) 0 (d x1 0)) (x1 + 2) 0 (x0 + 2) 0 (d x1 0)) (x1 + 3) 0 (x0 + 3) 0 (d x1 0)) (x1 + 4) 0 (x0 + 4) 0 (d x1 0)) x0 5 ((mcopy (mcopy (mcopy (mcopy (mset d x0 0 (d x1 0)) (x1 + 1) 0 (x0 + 1) 0 (d x1 0)) (x1 + 2) 0 (x0 + 2) 0 (d x1 0)) (x1 + 3) 0 (x0 + 3) 0 (d x1 0)) (x1 + 4) 0 (x0 + 4) 0 (d x1 0)) x1 5)) (x1 + 5) 0 (x0 + 5) 0 ((mcopy (mcopy (mcopy (mcopy (mset d x0 0 (d x1 0)) (x1 + 1) 0 (x0 + 1) 0 (d x1 0)) (x1 + 2) 0 (x0 + 2) 0 (d x1 0)) (x1 + 3) 0 (x0 + 3) 0 (d x1 0)) (x1 + 4) 0 (x0 + 4) 0 (d x1 0)) x1 5)
theorem k_108 {E : mO × tW} {K : tK} {d : mD} {x0 x1 : Int} (hS : Safe d) (hx0 : toB x0) (hx1 : toB x1) (h : (∀ b : Int, (b < x0 ∨ x0 + 5 < b) → (g_108 x0 x1 d) b = d b) → Safe (g_108 x0 x1 d) → K (.inl none) (g_108 x0 x1 d)) : tCall E 108 [.inr (9, x0), .inr (9, x1)] d K := by
  refine t_108_0 ?_
  have q1 := r_9_f0 hS hx1
  have hS1 : Safe (mset d x0 0 (d x1 0)) := s_9_f0 hS hx0 (by omega)
  rw [mset_eq (d := d) (a := x0) (i := (0 : Int)) (v := d x1 0)]
  refine ⟨by omega, ?_⟩
  have hS2 : Safe (mcopy (mset d x0 0 (d x1 0)) (x1 + 1) 0 (x0 + 1) 0 (d x1 0)) := c_9_1 hS1 hx1 hx0
  refine t_108_25 ?_
  rw [mcopy_ne (show x0 ≠ x0 + 1 by omega)]
  rw [mset_eq (d := d) (a := x0) (i := (0 : Int)) (v := d x1 0)]
  refine ⟨by omega, ?_⟩
  have hS3 : Safe (mcopy (mcopy (mset d x0 0 (d x1 0)) (x1 + 1) 0 (x0 + 1) 0 (d x1 0)) (x1 + 2) 0 (x0 + 2) 0 (d x1 0)) := c_9_2 hS2 hx1 hx0
  refine t_108_42 ?_
  rw [mcopy_ne (show x0 ≠ x0 + 2 by omega)]
  rw [mcopy_ne (show x0 ≠ x0 + 1 by omega)]
  rw [mset_eq (d := d) (a := x0) (i := (0 : Int)) (v := d x1 0)]
  refine ⟨by omega, ?_⟩
  have hS4 : Safe (mcopy (mcopy (mcopy (mset d x0 0 (d x1 0)) (x1 + 1) 0 (x0 + 1) 0 (d x1 0)) (x1 + 2) 0 (x0 + 2) 0 (d x1 0)) (x1 + 3) 0 (x0 + 3) 0 (d x1 0)) := c_9_3 hS3 hx1 hx0
  refine t_108_59 ?_
  rw [mcopy_ne (show x0 ≠ x0 + 3 by omega)]
  rw [mcopy_ne (show x0 ≠ x0 + 2 by omega)]
  rw [mcopy_ne (show x0 ≠ x0 + 1 by omega)]
  rw [mset_eq (d := d) (a := x0) (i := (0 : Int)) (v := d x1 0)]
  refine ⟨by omega, ?_⟩
  have hS5 : Safe (mcopy (mcopy (mcopy (mcopy (mset d x0 0 (d x1 0)) (x1 + 1) 0 (x0 + 1) 0 (d x1 0)) (x1 + 2) 0 (x0 + 2) 0 (d x1 0)) (x1 + 3) 0 (x0 + 3) 0 (d x1 0)) (x1 + 4) 0 (x0 + 4) 0 (d x1 0)) := c_9_4 hS4 hx1 hx0
  refine t_108_76 ?_
  have q2 := r_9_f5 hS5 hx1
  have hS6 : Safe (mset (mcopy (mcopy (mcopy (mcopy (mset d x0 0 (d x1 0)) (x1 + 1) 0 (x0 + 1) 0 (d x1 0)) (x1 + 2) 0 (x0 + 2) 0 (d x1 0)) (x1 + 3) 0 (x0 + 3) 0 (d x1 0)) (x1 + 4) 0 (x0 + 4) 0 (d x1 0)) x0 5 ((mcopy (mcopy (mcopy (mcopy (mset d x0 0 (d x1 0)) (x1 + 1) 0 (x0 + 1) 0 (d x1 0)) (x1 + 2) 0 (x0 + 2) 0 (d x1 0)) (x1 + 3) 0 (x0 + 3) 0 (d x1 0)) (x1 + 4) 0 (x0 + 4) 0 (d x1 0)) x1 5)) := s_9_f5 hS5 hx0 (by omega)
  rw [mset_eq (d := mcopy (mcopy (mcopy (mcopy (mset d x0 0 (d x1 0)) (x1 + 1) 0 (x0 + 1) 0 (d x1 0)) (x1 + 2) 0 (x0 + 2) 0 (d x1 0)) (x1 + 3) 0 (x0 + 3) 0 (d x1 0)) (x1 + 4) 0 (x0 + 4) 0 (d x1 0)) (a := x0) (i := (5 : Int)) (v := (mcopy (mcopy (mcopy (mcopy (mset d x0 0 (d x1 0)) (x1 + 1) 0 (x0 + 1) 0 (d x1 0)) (x1 + 2) 0 (x0 + 2) 0 (d x1 0)) (x1 + 3) 0 (x0 + 3) 0 (d x1 0)) (x1 + 4) 0 (x0 + 4) 0 (d x1 0)) x1 5)]
  refine ⟨by omega, ?_⟩
  have hS7 : Safe (mcopy (mset (mcopy (mcopy (mcopy (mcopy (mset d x0 0 (d x1 0)) (x1 + 1) 0 (x0 + 1) 0 (d x1 0)) (x1 + 2) 0 (x0 + 2) 0 (d x1 0)) (x1 + 3) 0 (x0 + 3) 0 (d x1 0)) (x1 + 4) 0 (x0 + 4) 0 (d x1 0)) x0 5 ((mcopy (mcopy (mcopy (mcopy (mset d x0 0 (d x1 0)) (x1 + 1) 0 (x0 + 1) 0 (d x1 0)) (x1 + 2) 0 (x0 + 2) 0 (d x1 0)) (x1 + 3) 0 (x0 + 3) 0 (d x1 0)) (x1 + 4) 0 (x0 + 4) 0 (d x1 0)) x1 5)) (x1 + 5) 0 (x0 + 5) 0 ((mcopy (mcopy (mcopy (mcopy (mset d x0 0 (d x1 0)) (x1 + 1) 0 (x0 + 1) 0 (d x1 0)) (x1 + 2) 0 (x0 + 2) 0 (d x1 0)) (x1 + 3) 0 (x0 + 3) 0 (d x1 0)) (x1 + 4) 0 (x0 + 4) 0 (d x1 0)) x1 5)) := c_9_5 hS6 hx1 hx0
  refine t_108_101 ?_
  have y0 : g_108 x0 x1 d = mcopy (mset (mcopy (mcopy (mcopy (mcopy (mset d x0 0 (d x1 0)) (x1 + 1) 0 (x0 + 1) 0 (d x1 0)) (x1 + 2) 0 (x0 + 2) 0 (d x1 0)) (x1 + 3) 0 (x0 + 3) 0 (d x1 0)) (x1 + 4) 0 (x0 + 4) 0 (d x1 0)) x0 5 ((mcopy (mcopy (mcopy (mcopy (mset d x0 0 (d x1 0)) (x1 + 1) 0 (x0 + 1) 0 (d x1 0)) (x1 + 2) 0 (x0 + 2) 0 (d x1 0)) (x1 + 3) 0 (x0 + 3) 0 (d x1 0)) (x1 + 4) 0 (x0 + 4) 0 (d x1 0)) x1 5)) (x1 + 5) 0 (x0 + 5) 0 ((mcopy (mcopy (mcopy (mcopy (mset d x0 0 (d x1 0)) (x1 + 1) 0 (x0 + 1) 0 (d x1 0)) (x1 + 2) 0 (x0 + 2) 0 (d x1 0)) (x1 + 3) 0 (x0 + 3) 0 (d x1 0)) (x1 + 4) 0 (x0 + 4) 0 (d x1 0)) x1 5) := by simp only [g_108]
  rw [y0] at h
  exact h (show ∀ b : Int, (b < x0 ∨ x0 + 5 < b) → (mcopy (mset (mcopy (mcopy (mcopy (mcopy (mset d x0 0 (d x1 0)) (x1 + 1) 0 (x0 + 1) 0 (d x1 0)) (x1 + 2) 0 (x0 + 2) 0 (d x1 0)) (x1 + 3) 0 (x0 + 3) 0 (d x1 0)) (x1 + 4) 0 (x0 + 4) 0 (d x1 0)) x0 5 ((mcopy (mcopy (mcopy (mcopy (mset d x0 0 (d x1 0)) (x1 + 1) 0 (x0 + 1) 0 (d x1 0)) (x1 + 2) 0 (x0 + 2) 0 (d x1 0)) (x1 + 3) 0 (x0 + 3) 0 (d x1 0)) (x1 + 4) 0 (x0 + 4) 0 (d x1 0)) x1 5)) (x1 + 5) 0 (x0 + 5) 0 ((mcopy (mcopy (mcopy (mcopy (mset d x0 0 (d x1 0)) (x1 + 1) 0 (x0 + 1) 0 (d x1 0)) (x1 + 2) 0 (x0 + 2) 0 (d x1 0)) (x1 + 3) 0 (x0 + 3) 0 (d x1 0)) (x1 + 4) 0 (x0 + 4) 0 (d x1 0)) x1 5)) b = d b from fun b hb => (mcopy_ne (by omega)).trans ((mset_ne (by omega)).trans ((mcopy_ne (by omega)).trans ((mcopy_ne (by omega)).trans ((mcopy_ne (by omega)).trans ((mcopy_ne (by omega)).trans (mset_ne (by omega)))))))) hS7
def g_109 (x0 x1 x2 x3 : Int) (d : mD) : mD := if d x0 0 < 200 then mset (mset (mset (mset (mset d (x0 + 1) (d x0 0) x1) (x0 + 2) (d x0 0) x2) (x0 + 3) (d x0 0) x3) (x0 + 4) (d x0 0) 0) x0 0 ((d x0 0) + 1) else d
theorem k_109 {E : mO × tW} {K : tK} {d : mD} {x0 x1 x2 x3 : Int} (hS : Safe d) (hx0 : toB x0) (p1 : 0 ≤ x1 ∧ x1 ≤ 15) (p2 : 0 ≤ x2 ∧ x2 ≤ 59) (p3 : 0 ≤ x3 ∧ x3 ≤ 1300) (h : (∀ b : Int, (b < x0 ∨ x0 + 4 < b) → (g_109 x0 x1 x2 x3 d) b = d b) → Safe (g_109 x0 x1 x2 x3 d) → K (.inl none) (g_109 x0 x1 x2 x3 d)) : tCall E 109 [.inr (9, x0), .inl (0, x1), .inl (0, x2), .inl (0, x3)] d K := by
  refine t_109_0 ?_
  have q1 := r_9_f0 hS hx0
  refine ⟨⟨m_inR (by omega) (by omega), m_inR (by omega) (by omega)⟩, fun c0 => ?_, fun c0 => ?_⟩
  · refine ⟨by omega, ?_⟩
    have hS1 : Safe (mset d (x0 + 1) (d x0 0) x1) := s_9_1 hS hx0 (by omega)
    rw [mset_ne (d := d) (a := x0 + 1) (i := d x0 0) (v := x1) (b := x0) (by omega)]
    refine ⟨by omega, ?_⟩
    have hS2 : Safe (mset (mset d (x0 + 1) (d x0 0) x1) (x0 + 2) (d x0 0) x2) := s_9_2 hS1 hx0 (by omega)
    rw [mset_ne (d := mset d (x0 + 1) (d x0 0) x1) (a := x0 + 2) (i := d x0 0) (v := x2) (b := x0) (by omega)]
    rw [mset_ne (d := d) (a := x0 + 1) (i := d x0 0) (v := x1) (b := x0) (by omega)]
    refine ⟨by omega, ?_⟩
    have hS3 : Safe (mset (mset (mset d (x0 + 1) (d x0 0) x1) (x0 + 2) (d x0 0) x2) (x0 + 3) (d x0 0) x3) := s_9_3 hS2 hx0 (by omega)
    rw [mset_ne (d := mset (mset d (x0 + 1) (d x0 0) x1) (x0 + 2) (d x0 0) x2) (a := x0 + 3) (i := d x0 0) (v := x3) (b := x0) (by omega)]
    rw [mset_ne (d := mset d (x0 + 1) (d x0 0) x1) (a := x0 + 2) (i := d x0 0) (v := x2) (b := x0) (by omega)]
    rw [mset_ne (d := d) (a := x0 + 1) (i := d x0 0) (v := x1) (b := x0) (by omega)]
    refine ⟨by omega, ?_⟩
    have hS4 : Safe (mset (mset (mset (mset d (x0 + 1) (d x0 0) x1) (x0 + 2) (d x0 0) x2) (x0 + 3) (d x0 0) x3) (x0 + 4) (d x0 0) 0) := s_9_4 hS3 hx0 (by omega)
    rw [mset_ne (d := mset (mset (mset d (x0 + 1) (d x0 0) x1) (x0 + 2) (d x0 0) x2) (x0 + 3) (d x0 0) x3) (a := x0 + 4) (i := d x0 0) (v := (0 : Int)) (b := x0) (by omega)]
    rw [mset_ne (d := mset (mset d (x0 + 1) (d x0 0) x1) (x0 + 2) (d x0 0) x2) (a := x0 + 3) (i := d x0 0) (v := x3) (b := x0) (by omega)]
    rw [mset_ne (d := mset d (x0 + 1) (d x0 0) x1) (a := x0 + 2) (i := d x0 0) (v := x2) (b := x0) (by omega)]
    rw [mset_ne (d := d) (a := x0 + 1) (i := d x0 0) (v := x1) (b := x0) (by omega)]
    have hS5 : Safe (mset (mset (mset (mset (mset d (x0 + 1) (d x0 0) x1) (x0 + 2) (d x0 0) x2) (x0 + 3) (d x0 0) x3) (x0 + 4) (d x0 0) 0) x0 0 ((d x0 0) + 1)) := s_9_f0 hS4 hx0 (by omega)
    have y0 : g_109 x0 x1 x2 x3 d = mset (mset (mset (mset (mset d (x0 + 1) (d x0 0) x1) (x0 + 2) (d x0 0) x2) (x0 + 3) (d x0 0) x3) (x0 + 4) (d x0 0) 0) x0 0 ((d x0 0) + 1) := by simp only [g_109, if_pos (show d x0 0 < 200 from c0)]
    rw [y0] at h
    exact h (show ∀ b : Int, (b < x0 ∨ x0 + 4 < b) → (mset (mset (mset (mset (mset d (x0 + 1) (d x0 0) x1) (x0 + 2) (d x0 0) x2) (x0 + 3) (d x0 0) x3) (x0 + 4) (d x0 0) 0) x0 0 ((d x0 0) + 1)) b = d b from fun b hb => (mset_ne (by omega)).trans ((mset_ne (by omega)).trans ((mset_ne (by omega)).trans ((mset_ne (by omega)).trans (mset_ne (by omega)))))) hS5
  · have y0 : g_109 x0 x1 x2 x3 d = d := by simp only [g_109, if_neg (show ¬ d x0 0 < 200 from Int.not_lt.mpr c0)]
    rw [y0] at h
    exact h (show ∀ b : Int, (b < x0 ∨ x0 + 4 < b) → d b = d b from fun _ _ => rfl) hS
def st_110_4 (x0 x1 : Int) (r4 : Int → Int → mD → Int) (x2 x3 : Int) (d : mD) : Int := if x3 < d x0 0 then (if d (x0 + 4) x3 = x1 then r4 (x2 + 1) (x3 + 1) d else r4 (x2 + 0) (x3 + 1) d) else x2
def lp_110_4 (x0 x1 : Int) : Nat → Int → Int → mD → Int
  | 0 => st_110_4 x0 x1 (fun _ _ d => 0)
  | n + 1 => st_110_4 x0 x1 (lp_110_4 x0 x1 n)
theorem ls_110_4 {E : mO × tW} {K : tK} {x0 x1 : Int} (hx0 : toB x0) (p1 : -2147483648 ≤ x1 ∧ x1 ≤ 2147483647) (N4 : Int) (r4 : Int → Int → mD → Int) (ih4 : ∀ (x2 x3 : Int) (d : mD), Safe d → (0 ≤ x3 ∧ x3 ≤ 200) → (0 ≤ x2 ∧ x2 ≤ x3) → 0 ≤ 200 - x3 → 200 - x3 < N4 → ((0 ≤ (r4 x2 x3 d) ∧ (r4 x2 x3 d) ≤ 200) → K (.inl (some (0, (r4 x2 x3 d)))) d) → tRun E 110 (4, [.inr (9, x0), .inl (0, x1), .inl (0, x2), .inl (0, x3)], [], 0, 0, d) K) (x2 x3 : Int) (d : mD) (hS : Safe d) (i0 : 0 ≤ x3 ∧ x3 ≤ 200) (i1 : 0 ≤ x2 ∧ x2 ≤ x3) (hm : 200 - x3 ≤ N4) (h : (0 ≤ (st_110_4 x0 x1 r4 x2 x3 d) ∧ (st_110_4 x0 x1 r4 x2 x3 d) ≤ 200) → K (.inl (some (0, (st_110_4 x0 x1 r4 x2 x3 d)))) d) : tRun E 110 (4, [.inr (9, x0), .inl (0, x1), .inl (0, x2), .inl (0, x3)], [], 0, 0, d) K := by
  refine t_110_4 ?_
  have q1 := r_9_f0 hS hx0
  refine ⟨⟨m_inR (by omega) (by omega), m_inR (by omega) (by omega)⟩, fun c0 => ?_, fun c0 => ?_⟩
  · have y0 : st_110_4 x0 x1 r4 x2 x3 d = x2 := by simp only [st_110_4, if_neg (show ¬ x3 < d x0 0 from Int.not_lt.mpr c0)]
    rw [y0] at h
    exact h (show 0 ≤ x2 ∧ x2 ≤ 200 from (by omega))
  · have q2 := r_9_4 hS hx0 x3
    refine ⟨by omega, ⟨m_inR (by omega) (by omega), m_inR (by omega) (by omega)⟩, fun c1 => ?_, fun c1 => ?_⟩
    · refine ih4 (x2 + 0) (x3 + 1)  d hS (by omega) (by omega) (by omega) (by omega) ?_
      intro e
      have y0 : st_110_4 x0 x1 r4 x2 x3 d = r4 (x2 + 0) (x3 + 1) d := by simp only [st_110_4, if_pos (show x3 < d x0 0 from c0), if_neg (show ¬ d (x0 + 4) x3 = x1 from c1)]
      rw [y0] at h
      exact h e
    · refine ih4 (x2 + 1) (x3 + 1)  d hS (by omega) (by omega) (by omega) (by omega) ?_
      intro e
      have y0 : st_110_4 x0 x1 r4 x2 x3 d = r4 (x2 + 1) (x3 + 1) d := by simp only [st_110_4, if_pos (show x3 < d x0 0 from c0), if_pos (show d (x0 + 4) x3 = x1 from c1)]
      rw [y0] at h
      exact h e
theorem l_110_4 {E : mO × tW} {K : tK} {x0 x1 : Int} (hx0 : toB x0) (p1 : -2147483648 ≤ x1 ∧ x1 ≤ 2147483647) : ∀ (n : Nat) (x2 x3 : Int) (d : mD), Safe d → (0 ≤ x3 ∧ x3 ≤ 200) → (0 ≤ x2 ∧ x2 ≤ x3) → 200 - x3 ≤ (n : Int) → ((0 ≤ (lp_110_4 x0 x1 n x2 x3 d) ∧ (lp_110_4 x0 x1 n x2 x3 d) ≤ 200) → K (.inl (some (0, (lp_110_4 x0 x1 n x2 x3 d)))) d) → tRun E 110 (4, [.inr (9, x0), .inl (0, x1), .inl (0, x2), .inl (0, x3)], [], 0, 0, d) K := by
  intro n
  induction n with
  | zero =>
    intro x2 x3  d hS i0 i1 hm  h
    exact ls_110_4 hx0 p1 0 _ (fun _ _  _ _ _ _ m0 m1 _ => absurd m1 (by omega)) x2 x3  d hS i0 i1 hm  h
  | succ n ih =>
    intro x2 x3  d hS i0 i1 hm  h
    exact ls_110_4 hx0 p1 ((n + 1 : Nat) : Int) _ (fun x2 x3  d hS i0 i1  m0 m1 h => ih x2 x3  d hS i0 i1 (by omega)  h) x2 x3  d hS i0 i1 hm  h
def v_110 (x0 x1 : Int) (d : mD) : Int := lp_110_4 x0 x1 (200 - 0 : Int).toNat 0 0 d
theorem k_110 {E : mO × tW} {K : tK} {d : mD} {x0 x1 : Int} (hS : Safe d) (hx0 : toB x0) (p1 : -2147483648 ≤ x1 ∧ x1 ≤ 2147483647) (h : (0 ≤ (v_110 x0 x1 d) ∧ (v_110 x0 x1 d) ≤ 200) → K (.inl (some (0, (v_110 x0 x1 d)))) d) : tCall E 110 [.inr (9, x0), .inl (0, x1)] d K := by
  refine t_110_0 ?_
  refine l_110_4 hx0 p1 (200 - 0 : Int).toNat 0 0  d hS (by omega) (by omega) (by omega) ?_
  intro e
  have y0 : v_110 x0 x1 d = lp_110_4 x0 x1 (200 - 0 : Int).toNat 0 0 d := by simp only [v_110]
  rw [y0] at h
  exact h e
def st_112_4 (x0 x1 : Int) (r4 : Int → Int → mD → Int) (x2 x3 : Int) (d : mD) : Int := if x3 < d x0 0 then (if d (x0 + 2) x3 = x1 then r4 (x2 + 1) (x3 + 1) d else r4 (x2 + 0) (x3 + 1) d) else x2
def lp_112_4 (x0 x1 : Int) : Nat → Int → Int → mD → Int
  | 0 => st_112_4 x0 x1 (fun _ _ d => 0)
  | n + 1 => st_112_4 x0 x1 (lp_112_4 x0 x1 n)
theorem ls_112_4 {E : mO × tW} {K : tK} {x0 x1 : Int} (hx0 : toB x0) (p1 : -2147483648 ≤ x1 ∧ x1 ≤ 2147483647) (N4 : Int) (r4 : Int → Int → mD → Int) (ih4 : ∀ (x2 x3 : Int) (d : mD), Safe d → (0 ≤ x3 ∧ x3 ≤ 200) → (0 ≤ x2 ∧ x2 ≤ x3) → 0 ≤ 200 - x3 → 200 - x3 < N4 → ((0 ≤ (r4 x2 x3 d) ∧ (r4 x2 x3 d) ≤ 200) → K (.inl (some (0, (r4 x2 x3 d)))) d) → tRun E 112 (4, [.inr (9, x0), .inl (0, x1), .inl (0, x2), .inl (0, x3)], [], 0, 0, d) K) (x2 x3 : Int) (d : mD) (hS : Safe d) (i0 : 0 ≤ x3 ∧ x3 ≤ 200) (i1 : 0 ≤ x2 ∧ x2 ≤ x3) (hm : 200 - x3 ≤ N4) (h : (0 ≤ (st_112_4 x0 x1 r4 x2 x3 d) ∧ (st_112_4 x0 x1 r4 x2 x3 d) ≤ 200) → K (.inl (some (0, (st_112_4 x0 x1 r4 x2 x3 d)))) d) : tRun E 112 (4, [.inr (9, x0), .inl (0, x1), .inl (0, x2), .inl (0, x3)], [], 0, 0, d) K := by
  refine t_112_4 ?_
  have q1 := r_9_f0 hS hx0
  refine ⟨⟨m_inR (by omega) (by omega), m_inR (by omega) (by omega)⟩, fun c0 => ?_, fun c0 => ?_⟩
  · have y0 : st_112_4 x0 x1 r4 x2 x3 d = x2 := by simp only [st_112_4, if_neg (show ¬ x3 < d x0 0 from Int.not_lt.mpr c0)]
    rw [y0] at h
    exact h (show 0 ≤ x2 ∧ x2 ≤ 200 from (by omega))
  · have q2 := r_9_2 hS hx0 x3
    refine ⟨by omega, ⟨m_inR (by omega) (by omega), m_inR (by omega) (by omega)⟩, fun c1 => ?_, fun c1 => ?_⟩
    · refine ih4 (x2 + 0) (x3 + 1)  d hS (by omega) (by omega) (by omega) (by omega) ?_
      intro e
      have y0 : st_112_4 x0 x1 r4 x2 x3 d = r4 (x2 + 0) (x3 + 1) d := by simp only [st_112_4, if_pos (show x3 < d x0 0 from c0), if_neg (show ¬ d (x0 + 2) x3 = x1 from c1)]
      rw [y0] at h
      exact h e
    · refine ih4 (x2 + 1) (x3 + 1)  d hS (by omega) (by omega) (by omega) (by omega) ?_
      intro e
      have y0 : st_112_4 x0 x1 r4 x2 x3 d = r4 (x2 + 1) (x3 + 1) d := by simp only [st_112_4, if_pos (show x3 < d x0 0 from c0), if_pos (show d (x0 + 2) x3 = x1 from c1)]
      rw [y0] at h
      exact h e
theorem l_112_4 {E : mO × tW} {K : tK} {x0 x1 : Int} (hx0 : toB x0) (p1 : -2147483648 ≤ x1 ∧ x1 ≤ 2147483647) : ∀ (n : Nat) (x2 x3 : Int) (d : mD), Safe d → (0 ≤ x3 ∧ x3 ≤ 200) → (0 ≤ x2 ∧ x2 ≤ x3) → 200 - x3 ≤ (n : Int) → ((0 ≤ (lp_112_4 x0 x1 n x2 x3 d) ∧ (lp_112_4 x0 x1 n x2 x3 d) ≤ 200) → K (.inl (some (0, (lp_112_4 x0 x1 n x2 x3 d)))) d) → tRun E 112 (4, [.inr (9, x0), .inl (0, x1), .inl (0, x2), .inl (0, x3)], [], 0, 0, d) K := by
  intro n
  induction n with
  | zero =>
    intro x2 x3  d hS i0 i1 hm  h
    exact ls_112_4 hx0 p1 0 _ (fun _ _  _ _ _ _ m0 m1 _ => absurd m1 (by omega)) x2 x3  d hS i0 i1 hm  h
  | succ n ih =>
    intro x2 x3  d hS i0 i1 hm  h
    exact ls_112_4 hx0 p1 ((n + 1 : Nat) : Int) _ (fun x2 x3  d hS i0 i1  m0 m1 h => ih x2 x3  d hS i0 i1 (by omega)  h) x2 x3  d hS i0 i1 hm  h
def v_112 (x0 x1 : Int) (d : mD) : Int := lp_112_4 x0 x1 (200 - 0 : Int).toNat 0 0 d
theorem k_112 {E : mO × tW} {K : tK} {d : mD} {x0 x1 : Int} (hS : Safe d) (hx0 : toB x0) (p1 : -2147483648 ≤ x1 ∧ x1 ≤ 2147483647) (h : (0 ≤ (v_112 x0 x1 d) ∧ (v_112 x0 x1 d) ≤ 200) → K (.inl (some (0, (v_112 x0 x1 d)))) d) : tCall E 112 [.inr (9, x0), .inl (0, x1)] d K := by
  refine t_112_0 ?_
  refine l_112_4 hx0 p1 (200 - 0 : Int).toNat 0 0  d hS (by omega) (by omega) (by omega) ?_
  intro e
  have y0 : v_112 x0 x1 d = lp_112_4 x0 x1 (200 - 0 : Int).toNat 0 0 d := by simp only [v_112]
  rw [y0] at h
  exact h e
def st_111_5 (x0 x1 x2 : Int) (r5 : Int → Int → mD → Int) (x3 x4 : Int) (d : mD) : Int := if x4 < d x0 0 then (if d (x0 + 1) x4 = x1 then (if d (x0 + 4) x4 = x2 then r5 (x3 + 1) (x4 + 1) d else r5 (x3 + 0) (x4 + 1) d) else r5 (x3 + 0) (x4 + 1) d) else x3
def lp_111_5 (x0 x1 x2 : Int) : Nat → Int → Int → mD → Int
  | 0 => st_111_5 x0 x1 x2 (fun _ _ d => 0)
  | n + 1 => st_111_5 x0 x1 x2 (lp_111_5 x0 x1 x2 n)
theorem ls_111_5 {E : mO × tW} {K : tK} {x0 x1 x2 : Int} (hx0 : toB x0) (p1 : -2147483648 ≤ x1 ∧ x1 ≤ 2147483647) (p2 : -2147483648 ≤ x2 ∧ x2 ≤ 2147483647) (N5 : Int) (r5 : Int → Int → mD → Int) (ih5 : ∀ (x3 x4 : Int) (d : mD), Safe d → (0 ≤ x4 ∧ x4 ≤ 200) → (0 ≤ x3 ∧ x3 ≤ x4) → 0 ≤ 200 - x4 → 200 - x4 < N5 → ((0 ≤ (r5 x3 x4 d) ∧ (r5 x3 x4 d) ≤ 200) → K (.inl (some (0, (r5 x3 x4 d)))) d) → tRun E 111 (5, [.inr (9, x0), .inl (0, x1), .inl (0, x2), .inl (0, x3), .inl (0, x4)], [], 0, 0, d) K) (x3 x4 : Int) (d : mD) (hS : Safe d) (i0 : 0 ≤ x4 ∧ x4 ≤ 200) (i1 : 0 ≤ x3 ∧ x3 ≤ x4) (hm : 200 - x4 ≤ N5) (h : (0 ≤ (st_111_5 x0 x1 x2 r5 x3 x4 d) ∧ (st_111_5 x0 x1 x2 r5 x3 x4 d) ≤ 200) → K (.inl (some (0, (st_111_5 x0 x1 x2 r5 x3 x4 d)))) d) : tRun E 111 (5, [.inr (9, x0), .inl (0, x1), .inl (0, x2), .inl (0, x3), .inl (0, x4)], [], 0, 0, d) K := by
  refine t_111_5 ?_
  have q1 := r_9_f0 hS hx0
  refine ⟨⟨m_inR (by omega) (by omega), m_inR (by omega) (by omega)⟩, fun c0 => ?_, fun c0 => ?_⟩
  · have y0 : st_111_5 x0 x1 x2 r5 x3 x4 d = x3 := by simp only [st_111_5, if_neg (show ¬ x4 < d x0 0 from Int.not_lt.mpr c0)]
    rw [y0] at h
    exact h (show 0 ≤ x3 ∧ x3 ≤ 200 from (by omega))
  · have q2 := r_9_1 hS hx0 x4
    refine ⟨by omega, ⟨m_inR (by omega) (by omega), m_inR (by omega) (by omega)⟩, fun c1 => ?_, fun c1 => ?_⟩
    · refine ih5 (x3 + 0) (x4 + 1)  d hS (by omega) (by omega) (by omega) (by omega) ?_
      intro e
      have y0 : st_111_5 x0 x1 x2 r5 x3 x4 d = r5 (x3 + 0) (x4 + 1) d := by simp only [st_111_5, if_pos (show x4 < d x0 0 from c0), if_neg (show ¬ d (x0 + 1) x4 = x1 from c1)]
      rw [y0] at h
      exact h e
    · have q3 := r_9_4 hS hx0 x4
      refine ⟨by omega, ⟨m_inR (by omega) (by omega), m_inR (by omega) (by omega)⟩, fun c2 => ?_, fun c2 => ?_⟩
      · refine ih5 (x3 + 0) (x4 + 1)  d hS (by omega) (by omega) (by omega) (by omega) ?_
        intro e
        have y0 : st_111_5 x0 x1 x2 r5 x3 x4 d = r5 (x3 + 0) (x4 + 1) d := by simp only [st_111_5, if_pos (show x4 < d x0 0 from c0), if_pos (show d (x0 + 1) x4 = x1 from c1), if_neg (show ¬ d (x0 + 4) x4 = x2 from c2)]
        rw [y0] at h
        exact h e
      · refine ih5 (x3 + 1) (x4 + 1)  d hS (by omega) (by omega) (by omega) (by omega) ?_
        intro e
        have y0 : st_111_5 x0 x1 x2 r5 x3 x4 d = r5 (x3 + 1) (x4 + 1) d := by simp only [st_111_5, if_pos (show x4 < d x0 0 from c0), if_pos (show d (x0 + 1) x4 = x1 from c1), if_pos (show d (x0 + 4) x4 = x2 from c2)]
        rw [y0] at h
        exact h e
theorem l_111_5 {E : mO × tW} {K : tK} {x0 x1 x2 : Int} (hx0 : toB x0) (p1 : -2147483648 ≤ x1 ∧ x1 ≤ 2147483647) (p2 : -2147483648 ≤ x2 ∧ x2 ≤ 2147483647) : ∀ (n : Nat) (x3 x4 : Int) (d : mD), Safe d → (0 ≤ x4 ∧ x4 ≤ 200) → (0 ≤ x3 ∧ x3 ≤ x4) → 200 - x4 ≤ (n : Int) → ((0 ≤ (lp_111_5 x0 x1 x2 n x3 x4 d) ∧ (lp_111_5 x0 x1 x2 n x3 x4 d) ≤ 200) → K (.inl (some (0, (lp_111_5 x0 x1 x2 n x3 x4 d)))) d) → tRun E 111 (5, [.inr (9, x0), .inl (0, x1), .inl (0, x2), .inl (0, x3), .inl (0, x4)], [], 0, 0, d) K := by
  intro n
  induction n with
  | zero =>
    intro x3 x4  d hS i0 i1 hm  h
    exact ls_111_5 hx0 p1 p2 0 _ (fun _ _  _ _ _ _ m0 m1 _ => absurd m1 (by omega)) x3 x4  d hS i0 i1 hm  h
  | succ n ih =>
    intro x3 x4  d hS i0 i1 hm  h
    exact ls_111_5 hx0 p1 p2 ((n + 1 : Nat) : Int) _ (fun x3 x4  d hS i0 i1  m0 m1 h => ih x3 x4  d hS i0 i1 (by omega)  h) x3 x4  d hS i0 i1 hm  h
def v_111 (x0 x1 x2 : Int) (d : mD) : Int := lp_111_5 x0 x1 x2 (200 - 0 : Int).toNat 0 0 d
theorem k_111 {E : mO × tW} {K : tK} {d : mD} {x0 x1 x2 : Int} (hS : Safe d) (hx0 : toB x0) (p1 : -2147483648 ≤ x1 ∧ x1 ≤ 2147483647) (p2 : -2147483648 ≤ x2 ∧ x2 ≤ 2147483647) (h : (0 ≤ (v_111 x0 x1 x2 d) ∧ (v_111 x0 x1 x2 d) ≤ 200) → K (.inl (some (0, (v_111 x0 x1 x2 d)))) d) : tCall E 111 [.inr (9, x0), .inl (0, x1), .inl (0, x2)] d K := by
  refine t_111_0 ?_
  refine l_111_5 hx0 p1 p2 (200 - 0 : Int).toNat 0 0  d hS (by omega) (by omega) (by omega) ?_
  intro e
  have y0 : v_111 x0 x1 x2 d = lp_111_5 x0 x1 x2 (200 - 0 : Int).toNat 0 0 d := by simp only [v_111]
  rw [y0] at h
  exact h e
def st_113_2 (x0 x1 : Int) (r2 : Int → mD → Int) (x2 : Int) (d : mD) : Int := if x2 < d x0 5 then (if d (x0 + 5) x2 = x1 then x2 else r2 (x2 + 1) d) else (-1)
def lp_113_2 (x0 x1 : Int) : Nat → Int → mD → Int
  | 0 => st_113_2 x0 x1 (fun _ d => 0)
  | n + 1 => st_113_2 x0 x1 (lp_113_2 x0 x1 n)
theorem ls_113_2 {E : mO × tW} {K : tK} {x0 x1 : Int} (hx0 : toB x0) (p1 : -2147483648 ≤ x1 ∧ x1 ≤ 2147483647) (N2 : Int) (r2 : Int → mD → Int) (ih2 : ∀ (x2 : Int) (d : mD), Safe d → (0 ≤ x2 ∧ x2 ≤ 200) → 0 ≤ 200 - x2 → 200 - x2 < N2 → ((-1 ≤ (r2 x2 d) ∧ (r2 x2 d) ≤ 199) → K (.inl (some (0, (r2 x2 d)))) d) → tRun E 113 (2, [.inr (9, x0), .inl (0, x1), .inl (0, x2)], [], 0, 0, d) K) (x2 : Int) (d : mD) (hS : Safe d) (i0 : 0 ≤ x2 ∧ x2 ≤ 200) (hm : 200 - x2 ≤ N2) (h : (-1 ≤ (st_113_2 x0 x1 r2 x2 d) ∧ (st_113_2 x0 x1 r2 x2 d) ≤ 199) → K (.inl (some (0, (st_113_2 x0 x1 r2 x2 d)))) d) : tRun E 113 (2, [.inr (9, x0), .inl (0, x1), .inl (0, x2)], [], 0, 0, d) K := by
  refine t_113_2 ?_
  have q1 := r_9_f5 hS hx0
  refine ⟨⟨m_inR (by omega) (by omega), m_inR (by omega) (by omega)⟩, fun c0 => ?_, fun c0 => ?_⟩
  · have y0 : st_113_2 x0 x1 r2 x2 d = (-1) := by simp only [st_113_2, if_neg (show ¬ x2 < d x0 5 from Int.not_lt.mpr c0)]
    rw [y0] at h
    exact h (show -1 ≤ ((-1 : Int)) ∧ ((-1 : Int)) ≤ 199 from (by omega))
  · have q2 := r_9_5 hS hx0 x2
    refine ⟨by omega, ⟨m_inR (by omega) (by omega), m_inR (by omega) (by omega)⟩, fun c1 => ?_, fun c1 => ?_⟩
    · refine ih2 (x2 + 1)  d hS (by omega) (by omega) (by omega) ?_
      intro e
      have y0 : st_113_2 x0 x1 r2 x2 d = r2 (x2 + 1) d := by simp only [st_113_2, if_pos (show x2 < d x0 5 from c0), if_neg (show ¬ d (x0 + 5) x2 = x1 from c1)]
      rw [y0] at h
      exact h e
    · have y0 : st_113_2 x0 x1 r2 x2 d = x2 := by simp only [st_113_2, if_pos (show x2 < d x0 5 from c0), if_pos (show d (x0 + 5) x2 = x1 from c1)]
      rw [y0] at h
      exact h (show -1 ≤ x2 ∧ x2 ≤ 199 from (by omega))
theorem l_113_2 {E : mO × tW} {K : tK} {x0 x1 : Int} (hx0 : toB x0) (p1 : -2147483648 ≤ x1 ∧ x1 ≤ 2147483647) : ∀ (n : Nat) (x2 : Int) (d : mD), Safe d → (0 ≤ x2 ∧ x2 ≤ 200) → 200 - x2 ≤ (n : Int) → ((-1 ≤ (lp_113_2 x0 x1 n x2 d) ∧ (lp_113_2 x0 x1 n x2 d) ≤ 199) → K (.inl (some (0, (lp_113_2 x0 x1 n x2 d)))) d) → tRun E 113 (2, [.inr (9, x0), .inl (0, x1), .inl (0, x2)], [], 0, 0, d) K := by
  intro n
  induction n with
  | zero =>
    intro x2  d hS i0 hm  h
    exact ls_113_2 hx0 p1 0 _ (fun _  _ _ _ m0 m1 _ => absurd m1 (by omega)) x2  d hS i0 hm  h
  | succ n ih =>
    intro x2  d hS i0 hm  h
    exact ls_113_2 hx0 p1 ((n + 1 : Nat) : Int) _ (fun x2  d hS i0  m0 m1 h => ih x2  d hS i0 (by omega)  h) x2  d hS i0 hm  h
def v_113 (x0 x1 : Int) (d : mD) : Int := lp_113_2 x0 x1 (200 - 0 : Int).toNat 0 d
theorem k_113 {E : mO × tW} {K : tK} {d : mD} {x0 x1 : Int} (hS : Safe d) (hx0 : toB x0) (p1 : -2147483648 ≤ x1 ∧ x1 ≤ 2147483647) (h : (-1 ≤ (v_113 x0 x1 d) ∧ (v_113 x0 x1 d) ≤ 199) → K (.inl (some (0, (v_113 x0 x1 d)))) d) : tCall E 113 [.inr (9, x0), .inl (0, x1)] d K := by
  refine t_113_0 ?_
  refine l_113_2 hx0 p1 (200 - 0 : Int).toNat 0  d hS (by omega) (by omega) ?_
  intro e
  have y0 : v_113 x0 x1 d = lp_113_2 x0 x1 (200 - 0 : Int).toNat 0 d := by simp only [v_113]
  rw [y0] at h
  exact h e
def st_114_6 (x0 x1 x2 x3 : Int) (r6 : Int → Int → mD → mD) (x4 x5 : Int) (d : mD) : mD := if x5 < d x0 0 then (if (0 : Int) < x4 then (if d (x0 + 1) x5 = x1 then (if d (x0 + 4) x5 = 0 then r6 (x4 + (-1)) (x5 + 1) (mset d (x0 + 1) x5 x2) else r6 x4 (x5 + 1) d) else r6 x4 (x5 + 1) d) else d) else d
def lp_114_6 (x0 x1 x2 x3 : Int) : Nat → Int → Int → mD → mD
  | 0 => st_114_6 x0 x1 x2 x3 (fun _ _ d => d)
  | n + 1 => st_114_6 x0 x1 x2 x3 (lp_114_6 x0 x1 x2 x3 n)
theorem ls_114_6 {E : mO × tW} {K : tK} {x0 x1 x2 x3 : Int} (hx0 : toB x0) (p1 : 0 ≤ x1 ∧ x1 ≤ 15) (p2 : 0 ≤ x2 ∧ x2 ≤ 15) (p3 : 0 ≤ x3 ∧ x3 ≤ 200) (N6 : Int) (r6 : Int → Int → mD → mD) (ih6 : ∀ (x4 x5 : Int) (d : mD), Safe d → (0 ≤ x5 ∧ x5 ≤ 200) → (0 ≤ x4 ∧ x4 ≤ 200) → 0 ≤ 200 - x5 → 200 - x5 < N6 → ((∀ b : Int, (b < x0 + 1 ∨ x0 + 1 < b) → (r6 x4 x5 d) b = d b) → Safe (r6 x4 x5 d) → K (.inl none) (r6 x4 x5 d)) → tRun E 114 (6, [.inr (9, x0), .inl (0, x1), .inl (0, x2), .inl (0, x3), .inl (0, x4), .inl (0, x5)], [], 0, 0, d) K) (x4 x5 : Int) (d : mD) (hS : Safe d) (i0 : 0 ≤ x5 ∧ x5 ≤ 200) (i1 : 0 ≤ x4 ∧ x4 ≤ 200) (hm : 200 - x5 ≤ N6) (h : (∀ b : Int, (b < x0 + 1 ∨ x0 + 1 < b) → (st_114_6 x0 x1 x2 x3 r6 x4 x5 d) b = d b) → Safe (st_114_6 x0 x1 x2 x3 r6 x4 x5 d) → K (.inl none) (st_114_6 x0 x1 x2 x3 r6 x4 x5 d)) : tRun E 114 (6, [.inr (9, x0), .inl (0, x1), .inl (0, x2), .inl (0, x3), .inl (0, x4), .inl (0, x5)], [], 0, 0, d) K := by
  refine t_114_6 ?_
  have q1 := r_9_f0 hS hx0
  refine ⟨⟨m_inR (by omega) (by omega), m_inR (by omega) (by omega)⟩, fun c0 => ?_, fun c0 => ?_⟩
  · have y0 : st_114_6 x0 x1 x2 x3 r6 x4 x5 d = d := by simp only [st_114_6, if_neg (show ¬ x5 < d x0 0 from Int.not_lt.mpr c0)]
    rw [y0] at h
    exact h (show ∀ b : Int, (b < x0 + 1 ∨ x0 + 1 < b) → d b = d b from fun _ _ => rfl) hS
  · refine ⟨m_inR (by omega) (by omega), fun c1 => ?_, fun c1 => ?_⟩
    · have y0 : st_114_6 x0 x1 x2 x3 r6 x4 x5 d = d := by simp only [st_114_6, if_pos (show x5 < d x0 0 from c0), if_neg (show ¬ (0 : Int) < x4 from Int.not_lt.mpr c1)]
      rw [y0] at h
      exact h (show ∀ b : Int, (b < x0 + 1 ∨ x0 + 1 < b) → d b = d b from fun _ _ => rfl) hS
    · have q2 := r_9_1 hS hx0 x5
      refine ⟨by omega, ⟨m_inR (by omega) (by omega), m_inR (by omega) (by omega)⟩, fun c2 => ?_, fun c2 => ?_⟩
      · refine ih6 x4 (x5 + 1)  d hS (by omega) (by omega) (by omega) (by omega) ?_
        intro F hS_
        have y0 : st_114_6 x0 x1 x2 x3 r6 x4 x5 d = r6 x4 (x5 + 1) d := by simp only [st_114_6, if_pos (show x5 < d x0 0 from c0), if_pos (show (0 : Int) < x4 from c1), if_neg (show ¬ d (x0 + 1) x5 = x1 from c2)]
        rw [y0] at h
        exact h F hS_
      · have q3 := r_9_4 hS hx0 x5
        refine ⟨by omega, m_inR (by omega) (by omega), fun c3 => ?_, fun c3 => ?_⟩
        · refine ih6 x4 (x5 + 1)  d hS (by omega) (by omega) (by omega) (by omega) ?_
          intro F hS_
          have y0 : st_114_6 x0 x1 x2 x3 r6 x4 x5 d = r6 x4 (x5 + 1) d := by simp only [st_114_6, if_pos (show x5 < d x0 0 from c0), if_pos (show (0 : Int) < x4 from c1), if_pos (show d (x0 + 1) x5 = x1 from c2), if_neg (show ¬ d (x0 + 4) x5 = 0 from c3)]
          rw [y0] at h
          exact h F hS_
        · refine ⟨by omega, ?_⟩
          have hS1 : Safe (mset d (x0 + 1) x5 x2) := s_9_1 hS hx0 (by omega)
          refine ih6 (x4 + (-1)) (x5 + 1)  (mset d (x0 + 1) x5 x2) hS1 (by omega) (by omega) (by omega) (by omega) ?_
          intro F hS_
          have y0 : st_114_6 x0 x1 x2 x3 r6 x4 x5 d = r6 (x4 + (-1)) (x5 + 1) (mset d (x0 + 1) x5 x2) := by simp only [st_114_6, if_pos (show x5 < d x0 0 from c0), if_pos (show (0 : Int) < x4 from c1), if_pos (show d (x0 + 1) x5 = x1 from c2), if_pos (show d (x0 + 4) x5 = 0 from c3)]
          rw [y0] at h
          exact h (fun b hb => (F b hb).trans ((show ∀ b : Int, (b < x0 + 1 ∨ x0 + 1 < b) → (mset d (x0 + 1) x5 x2) b = d b from fun b hb => mset_ne (by omega)) b hb)) hS_
theorem l_114_6 {E : mO × tW} {K : tK} {x0 x1 x2 x3 : Int} (hx0 : toB x0) (p1 : 0 ≤ x1 ∧ x1 ≤ 15) (p2 : 0 ≤ x2 ∧ x2 ≤ 15) (p3 : 0 ≤ x3 ∧ x3 ≤ 200) : ∀ (n : Nat) (x4 x5 : Int) (d : mD), Safe d → (0 ≤ x5 ∧ x5 ≤ 200) → (0 ≤ x4 ∧ x4 ≤ 200) → 200 - x5 ≤ (n : Int) → ((∀ b : Int, (b < x0 + 1 ∨ x0 + 1 < b) → (lp_114_6 x0 x1 x2 x3 n x4 x5 d) b = d b) → Safe (lp_114_6 x0 x1 x2 x3 n x4 x5 d) → K (.inl none) (lp_114_6 x0 x1 x2 x3 n x4 x5 d)) → tRun E 114 (6, [.inr (9, x0), .inl (0, x1), .inl (0, x2), .inl (0, x3), .inl (0, x4), .inl (0, x5)], [], 0, 0, d) K := by
  intro n
  induction n with
  | zero =>
    intro x4 x5  d hS i0 i1 hm  h
    exact ls_114_6 hx0 p1 p2 p3 0 _ (fun _ _  _ _ _ _ m0 m1 _ => absurd m1 (by omega)) x4 x5  d hS i0 i1 hm  h
  | succ n ih =>
    intro x4 x5  d hS i0 i1 hm  h
    exact ls_114_6 hx0 p1 p2 p3 ((n + 1 : Nat) : Int) _ (fun x4 x5  d hS i0 i1  m0 m1 h => ih x4 x5  d hS i0 i1 (by omega)  h) x4 x5  d hS i0 i1 hm  h
def g_114 (x0 x1 x2 x3 : Int) (d : mD) : mD := lp_114_6 x0 x1 x2 x3 (200 - 0 : Int).toNat x3 0 d
theorem k_114 {E : mO × tW} {K : tK} {d : mD} {x0 x1 x2 x3 : Int} (hS : Safe d) (hx0 : toB x0) (p1 : 0 ≤ x1 ∧ x1 ≤ 15) (p2 : 0 ≤ x2 ∧ x2 ≤ 15) (p3 : 0 ≤ x3 ∧ x3 ≤ 200) (h : (∀ b : Int, (b < x0 + 1 ∨ x0 + 1 < b) → (g_114 x0 x1 x2 x3 d) b = d b) → Safe (g_114 x0 x1 x2 x3 d) → K (.inl none) (g_114 x0 x1 x2 x3 d)) : tCall E 114 [.inr (9, x0), .inl (0, x1), .inl (0, x2), .inl (0, x3)] d K := by
  refine t_114_0 ?_
  refine l_114_6 hx0 p1 p2 p3 (200 - 0 : Int).toNat x3 0  d hS (by omega) (by omega) (by omega) ?_
  intro F hS_
  have y0 : g_114 x0 x1 x2 x3 d = lp_114_6 x0 x1 x2 x3 (200 - 0 : Int).toNat x3 0 d := by simp only [g_114]
  rw [y0] at h
  exact h F hS_
def st_115_5 (x0 x1 x2 : Int) (r5 : Int → Int → mD → mD) (x3 x4 : Int) (d : mD) : mD := if x4 < d x0 0 then (if (0 : Int) < x3 then (if d x0 5 < 200 then (if d (x0 + 1) x4 = x1 then (if d (x0 + 4) x4 = 0 then r5 (x3 + (-1)) (x4 + 1) (mset (mset (mset d (x0 + 4) x4 1) (x0 + 5) (d x0 5) x4) x0 5 ((d x0 5) + 1)) else r5 x3 (x4 + 1) d) else r5 x3 (x4 + 1) d) else d) else d) else d
def lp_115_5 (x0 x1 x2 : Int) : Nat → Int → Int → mD → mD
  | 0 => st_115_5 x0 x1 x2 (fun _ _ d => d)
  | n + 1 => st_115_5 x0 x1 x2 (lp_115_5 x0 x1 x2 n)
theorem ls_115_5 {E : mO × tW} {K : tK} {x0 x1 x2 : Int} (hx0 : toB x0) (p1 : 0 ≤ x1 ∧ x1 ≤ 15) (p2 : 0 ≤ x2 ∧ x2 ≤ 200) (N5 : Int) (r5 : Int → Int → mD → mD) (ih5 : ∀ (x3 x4 : Int) (d : mD), Safe d → (0 ≤ x4 ∧ x4 ≤ 200) → (0 ≤ x3 ∧ x3 ≤ 200) → 0 ≤ 200 - x4 → 200 - x4 < N5 → ((∀ b : Int, (b < x0 ∨ x0 < b) ∧ (b < x0 + 4 ∨ x0 + 5 < b) → (r5 x3 x4 d) b = d b) → Safe (r5 x3 x4 d) → K (.inl none) (r5 x3 x4 d)) → tRun E 115 (5, [.inr (9, x0), .inl (0, x1), .inl (0, x2), .inl (0, x3), .inl (0, x4)], [], 0, 0, d) K) (x3 x4 : Int) (d : mD) (hS : Safe d) (i0 : 0 ≤ x4 ∧ x4 ≤ 200) (i1 : 0 ≤ x3 ∧ x3 ≤ 200) (hm : 200 - x4 ≤ N5) (h : (∀ b : Int, (b < x0 ∨ x0 < b) ∧ (b < x0 + 4 ∨ x0 + 5 < b) → (st_115_5 x0 x1 x2 r5 x3 x4 d) b = d b) → Safe (st_115_5 x0 x1 x2 r5 x3 x4 d) → K (.inl none) (st_115_5 x0 x1 x2 r5 x3 x4 d)) : tRun E 115 (5, [.inr (9, x0), .inl (0, x1), .inl (0, x2), .inl (0, x3), .inl (0, x4)], [], 0, 0, d) K := by
  refine t_115_5 ?_
  have q1 := r_9_f0 hS hx0
  refine ⟨⟨m_inR (by omega) (by omega), m_inR (by omega) (by omega)⟩, fun c0 => ?_, fun c0 => ?_⟩
  · have y0 : st_115_5 x0 x1 x2 r5 x3 x4 d = d := by simp only [st_115_5, if_neg (show ¬ x4 < d x0 0 from Int.not_lt.mpr c0)]
    rw [y0] at h
    exact h (show ∀ b : Int, (b < x0 ∨ x0 < b) ∧ (b < x0 + 4 ∨ x0 + 5 < b) → d b = d b from fun _ _ => rfl) hS
  · refine ⟨m_inR (by omega) (by omega), fun c1 => ?_, fun c1 => ?_⟩
    · have y0 : st_115_5 x0 x1 x2 r5 x3 x4 d = d := by simp only [st_115_5, if_pos (show x4 < d x0 0 from c0), if_neg (show ¬ (0 : Int) < x3 from Int.not_lt.mpr c1)]
      rw [y0] at h
      exact h (show ∀ b : Int, (b < x0 ∨ x0 < b) ∧ (b < x0 + 4 ∨ x0 + 5 < b) → d b = d b from fun _ _ => rfl) hS
    · have q2 := r_9_f5 hS hx0
      refine ⟨⟨m_inR (by omega) (by omega), m_inR (by omega) (by omega)⟩, fun c2 => ?_, fun c2 => ?_⟩
      · have y0 : st_115_5 x0 x1 x2 r5 x3 x4 d = d := by simp only [st_115_5, if_pos (show x4 < d x0 0 from c0), if_pos (show (0 : Int) < x3 from c1), if_neg (show ¬ d x0 5 < 200 from Int.not_lt.mpr c2)]
        rw [y0] at h
        exact h (show ∀ b : Int, (b < x0 ∨ x0 < b) ∧ (b < x0 + 4 ∨ x0 + 5 < b) → d b = d b from fun _ _ => rfl) hS
      · have q3 := r_9_1 hS hx0 x4
        refine ⟨by omega, ⟨m_inR (by omega) (by omega), m_inR (by omega) (by omega)⟩, fun c3 => ?_, fun c3 => ?_⟩
        · refine ih5 x3 (x4 + 1)  d hS (by omega) (by omega) (by omega) (by omega) ?_
          intro F hS_
          have y0 : st_115_5 x0 x1 x2 r5 x3 x4 d = r5 x3 (x4 + 1) d := by simp only [st_115_5, if_pos (show x4 < d x0 0 from c0), if_pos (show (0 : Int) < x3 from c1), if_pos (show d x0 5 < 200 from c2), if_neg (show ¬ d (x0 + 1) x4 = x1 from c3)]
          rw [y0] at h
          exact h F hS_
        · have q4 := r_9_4 hS hx0 x4
          refine ⟨by omega, m_inR (by omega) (by omega), fun c4 => ?_, fun c4 => ?_⟩
          · refine ih5 x3 (x4 + 1)  d hS (by omega) (by omega) (by omega) (by omega) ?_
            intro F hS_
            have y0 : st_115_5 x0 x1 x2 r5 x3 x4 d = r5 x3 (x4 + 1) d := by simp only [st_115_5, if_pos (show x4 < d x0 0 from c0), if_pos (show (0 : Int) < x3 from c1), if_pos (show d x0 5 < 200 from c2), if_pos (show d (x0 + 1) x4 = x1 from c3), if_neg (show ¬ d (x0 + 4) x4 = 0 from c4)]
            rw [y0] at h
            exact h F hS_
          · refine ⟨by omega, ?_⟩
            have hS1 : Safe (mset d (x0 + 4) x4 1) := s_9_4 hS hx0 (by omega)
            rw [mset_ne (d := d) (a := x0 + 4) (i := x4) (v := (1 : Int)) (b := x0) (by omega)]
            refine ⟨by omega, ?_⟩
            have hS2 : Safe (mset (mset d (x0 + 4) x4 1) (x0 + 5) (d x0 5) x4) := s_9_5 hS1 hx0 (by omega)
            rw [mset_ne (d := mset d (x0 + 4) x4 1) (a := x0 + 5) (i := d x0 5) (v := x4) (b := x0) (by omega)]
            rw [mset_ne (d := d) (a := x0 + 4) (i := x4) (v := (1 : Int)) (b := x0) (by omega)]
            have hS3 : Safe (mset (mset (mset d (x0 + 4) x4 1) (x0 + 5) (d x0 5) x4) x0 5 ((d x0 5) + 1)) := s_9_f5 hS2 hx0 (by omega)
            refine ih5 (x3 + (-1)) (x4 + 1)  (mset (mset (mset d (x0 + 4) x4 1) (x0 + 5) (d x0 5) x4) x0 5 ((d x0 5) + 1)) hS3 (by omega) (by omega) (by omega) (by omega) ?_
            intro F hS_
            have y0 : st_115_5 x0 x1 x2 r5 x3 x4 d = r5 (x3 + (-1)) (x4 + 1) (mset (mset (mset d (x0 + 4) x4 1) (x0 + 5) (d x0 5) x4) x0 5 ((d x0 5) + 1)) := by simp only [st_115_5, if_pos (show x4 < d x0 0 from c0), if_pos (show (0 : Int) < x3 from c1), if_pos (show d x0 5 < 200 from c2), if_pos (show d (x0 + 1) x4 = x1 from c3), if_pos (show d (x0 + 4) x4 = 0 from c4)]
            rw [y0] at h
            exact h (fun b hb => (F b hb).trans ((show ∀ b : Int, (b < x0 ∨ x0 < b) ∧ (b < x0 + 4 ∨ x0 + 5 < b) → (mset (mset (mset d (x0 + 4) x4 1) (x0 + 5) (d x0 5) x4) x0 5 ((d x0 5) + 1)) b = d b from fun b hb => (mset_ne (by omega)).trans ((mset_ne (by omega)).trans (mset_ne (by omega)))) b hb)) hS_
theorem l_115_5 {E : mO × tW} {K : tK} {x0 x1 x2 : Int} (hx0 : toB x0) (p1 : 0 ≤ x1 ∧ x1 ≤ 15) (p2 : 0 ≤ x2 ∧ x2 ≤ 200) : ∀ (n : Nat) (x3 x4 : Int) (d : mD), Safe d → (0 ≤ x4 ∧ x4 ≤ 200) → (0 ≤ x3 ∧ x3 ≤ 200) → 200 - x4 ≤ (n : Int) → ((∀ b : Int, (b < x0 ∨ x0 < b) ∧ (b < x0 + 4 ∨ x0 + 5 < b) → (lp_115_5 x0 x1 x2 n x3 x4 d) b = d b) → Safe (lp_115_5 x0 x1 x2 n x3 x4 d) → K (.inl none) (lp_115_5 x0 x1 x2 n x3 x4 d)) → tRun E 115 (5, [.inr (9, x0), .inl (0, x1), .inl (0, x2), .inl (0, x3), .inl (0, x4)], [], 0, 0, d) K := by
  intro n
  induction n with
  | zero =>
    intro x3 x4  d hS i0 i1 hm  h
    exact ls_115_5 hx0 p1 p2 0 _ (fun _ _  _ _ _ _ m0 m1 _ => absurd m1 (by omega)) x3 x4  d hS i0 i1 hm  h
  | succ n ih =>
    intro x3 x4  d hS i0 i1 hm  h
    exact ls_115_5 hx0 p1 p2 ((n + 1 : Nat) : Int) _ (fun x3 x4  d hS i0 i1  m0 m1 h => ih x3 x4  d hS i0 i1 (by omega)  h) x3 x4  d hS i0 i1 hm  h
def g_115 (x0 x1 x2 : Int) (d : mD) : mD := lp_115_5 x0 x1 x2 (200 - 0 : Int).toNat x2 0 d
theorem k_115 {E : mO × tW} {K : tK} {d : mD} {x0 x1 x2 : Int} (hS : Safe d) (hx0 : toB x0) (p1 : 0 ≤ x1 ∧ x1 ≤ 15) (p2 : 0 ≤ x2 ∧ x2 ≤ 200) (h : (∀ b : Int, (b < x0 ∨ x0 < b) ∧ (b < x0 + 4 ∨ x0 + 5 < b) → (g_115 x0 x1 x2 d) b = d b) → Safe (g_115 x0 x1 x2 d) → K (.inl none) (g_115 x0 x1 x2 d)) : tCall E 115 [.inr (9, x0), .inl (0, x1), .inl (0, x2)] d K := by
  refine t_115_0 ?_
  refine l_115_5 hx0 p1 p2 (200 - 0 : Int).toNat x2 0  d hS (by omega) (by omega) (by omega) ?_
  intro F hS_
  have y0 : g_115 x0 x1 x2 d = lp_115_5 x0 x1 x2 (200 - 0 : Int).toNat x2 0 d := by simp only [g_115]
  rw [y0] at h
  exact h F hS_
def st_116_2 (x0 x1 : Int) (r2 : Int → mD → mD) (x2 : Int) (d : mD) : mD := if x2 < d x0 5 then r2 (x2 + 1) (mset d (x0 + 5) (x2 - x1) (d (x0 + 5) x2)) else mset d x0 5 ((d x0 5) - x1)
def lp_116_2 (x0 x1 : Int) : Nat → Int → mD → mD
  | 0 => st_116_2 x0 x1 (fun _ d => d)
  | n + 1 => st_116_2 x0 x1 (lp_116_2 x0 x1 n)
theorem ls_116_2 {E : mO × tW} {K : tK} {x0 x1 : Int} (hx0 : toB x0) (p1 : 0 ≤ x1 ∧ x1 ≤ 200) (N2 : Int) (r2 : Int → mD → mD) (ih2 : ∀ (x2 : Int) (d : mD), Safe d → (x1 ≤ x2 ∧ x2 ≤ 200) → (x1 ≤ d x0 5) → 0 ≤ 200 - x2 → 200 - x2 < N2 → ((∀ b : Int, (b < x0 ∨ x0 < b) ∧ (b < x0 + 5 ∨ x0 + 5 < b) → (r2 x2 d) b = d b) → Safe (r2 x2 d) → K (.inl none) (r2 x2 d)) → tRun E 116 (2, [.inr (9, x0), .inl (0, x1), .inl (0, x2)], [], 0, 0, d) K) (x2 : Int) (d : mD) (hS : Safe d) (i0 : x1 ≤ x2 ∧ x2 ≤ 200) (i1 : x1 ≤ d x0 5) (hm : 200 - x2 ≤ N2) (h : (∀ b : Int, (b < x0 ∨ x0 < b) ∧ (b < x0 + 5 ∨ x0 + 5 < b) → (st_116_2 x0 x1 r2 x2 d) b = d b) → Safe (st_116_2 x0 x1 r2 x2 d) → K (.inl none) (st_116_2 x0 x1 r2 x2 d)) : tRun E 116 (2, [.inr (9, x0), .inl (0, x1), .inl (0, x2)], [], 0, 0, d) K := by
  refine t_116_2 ?_
  have q1 := r_9_f5 hS hx0
  refine ⟨⟨m_inR (by omega) (by omega), m_inR (by omega) (by omega)⟩, fun c0 => ?_, fun c0 => ?_⟩
  · have hS1 : Safe (mset d x0 5 ((d x0 5) - x1)) := s_9_f5 hS hx0 (by omega)
    have y0 : st_116_2 x0 x1 r2 x2 d = mset d x0 5 ((d x0 5) - x1) := by simp only [st_116_2, if_neg (show ¬ x2 < d x0 5 from Int.not_lt.mpr c0)]
    rw [y0] at h
    exact h (show ∀ b : Int, (b < x0 ∨ x0 < b) ∧ (b < x0 + 5 ∨ x0 + 5 < b) → (mset d x0 5 ((d x0 5) - x1)) b = d b from fun b hb => mset_ne (by omega)) hS1
  · have q2 := r_9_5 hS hx0 x2
    refine ⟨by omega, by omega, ?_⟩
    have hS2 : Safe (mset d (x0 + 5) (x2 - x1) (d (x0 + 5) x2)) := s_9_5 hS hx0 (by omega)
    have q3 : (mset d (x0 + 5) (x2 - x1) (d (x0 + 5) x2)) x0 5 = d x0 5 := congrFun (mset_ne (by omega)) 5
    refine ih2 (x2 + 1)  (mset d (x0 + 5) (x2 - x1) (d (x0 + 5) x2)) hS2 (by omega) (by omega) (by omega) (by omega) ?_
    intro F hS_
    have y0 : st_116_2 x0 x1 r2 x2 d = r2 (x2 + 1) (mset d (x0 + 5) (x2 - x1) (d (x0 + 5) x2)) := by simp only [st_116_2, if_pos (show x2 < d x0 5 from c0)]
    rw [y0] at h
    exact h (fun b hb => (F b hb).trans ((show ∀ b : Int, (b < x0 ∨ x0 < b) ∧ (b < x0 + 5 ∨ x0 + 5 < b) → (mset d (x0 + 5) (x2 - x1) (d (x0 + 5) x2)) b = d b from fun b hb => mset_ne (by omega)) b hb)) hS_
theorem l_116_2 {E : mO × tW} {K : tK} {x0 x1 : Int} (hx0 : toB x0) (p1 : 0 ≤ x1 ∧ x1 ≤ 200) : ∀ (n : Nat) (x2 : Int) (d : mD), Safe d → (x1 ≤ x2 ∧ x2 ≤ 200) → (x1 ≤ d x0 5) → 200 - x2 ≤ (n : Int) → ((∀ b : Int, (b < x0 ∨ x0 < b) ∧ (b < x0 + 5 ∨ x0 + 5 < b) → (lp_116_2 x0 x1 n x2 d) b = d b) → Safe (lp_116_2 x0 x1 n x2 d) → K (.inl none) (lp_116_2 x0 x1 n x2 d)) → tRun E 116 (2, [.inr (9, x0), .inl (0, x1), .inl (0, x2)], [], 0, 0, d) K := by
  intro n
  induction n with
  | zero =>
    intro x2  d hS i0 i1 hm  h
    exact ls_116_2 hx0 p1 0 _ (fun _  _ _ _ _ m0 m1 _ => absurd m1 (by omega)) x2  d hS i0 i1 hm  h
  | succ n ih =>
    intro x2  d hS i0 i1 hm  h
    exact ls_116_2 hx0 p1 ((n + 1 : Nat) : Int) _ (fun x2  d hS i0 i1  m0 m1 h => ih x2  d hS i0 i1 (by omega)  h) x2  d hS i0 i1 hm  h
def g_116 (x0 x1 : Int) (d : mD) : mD := lp_116_2 x0 x1 (200 - x1 : Int).toNat x1 d
theorem k_116 {E : mO × tW} {K : tK} {d : mD} {x0 x1 : Int} (hS : Safe d) (hx0 : toB x0) (p1 : 0 ≤ x1 ∧ x1 ≤ 200) (hd : x1 ≤ d x0 5) (h : (∀ b : Int, (b < x0 ∨ x0 < b) ∧ (b < x0 + 5 ∨ x0 + 5 < b) → (g_116 x0 x1 d) b = d b) → Safe (g_116 x0 x1 d) → K (.inl none) (g_116 x0 x1 d)) : tCall E 116 [.inr (9, x0), .inl (0, x1)] d K := by
  refine t_116_0 ?_
  refine l_116_2 hx0 p1 (200 - x1 : Int).toNat x1  d hS (by omega) (by omega) (by omega) ?_
  intro F hS_
  have y0 : g_116 x0 x1 d = lp_116_2 x0 x1 (200 - x1 : Int).toNat x1 d := by simp only [g_116]
  rw [y0] at h
  exact h F hS_
