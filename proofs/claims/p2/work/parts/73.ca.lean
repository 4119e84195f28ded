/-! ===== contracts of the methods: printed by a program of mine ===== -/
def v_38 (x0 x1 x2 : Int) (d : mD) : Int := d (x0 + 7) ((x1 * 16) + x2)
theorem k_38 {E : mO × tW} {K : tK} {d : mD} {x0 x1 x2 : Int} (hS : Safe d) (hx0 : ofB x0) (p1 : 0 ≤ x1 ∧ x1 ≤ 5) (p2 : 0 ≤ x2 ∧ x2 ≤ 15) (h : (0 ≤ (v_38 x0 x1 x2 d) ∧ (v_38 x0 x1 x2 d) ≤ 59) → K (.inl (some (0, (v_38 x0 x1 x2 d)))) d) : tCall E 38 [.inr (3, x0), .inl (0, x1), .inl (0, x2)] d K := by
  refine t_38_0 ?_
  have q1 := r_3_7 hS hx0 ((x1 * 16) + x2)
  refine ⟨by omega, ?_⟩
  simp only [v_38] at h
  exact h (by omega)
def st_39_2 (x0 x1 x2 : Int) (r2 : Int → mD → Int) (x3 : Int) (d : mD) : Int := if x3 < d (x0 + 6) x1 then (if v_38 x0 x1 x3 d = x2 then x3 else r2 (x3 + 1) d) else (-1)
def lp_39_2 (x0 x1 x2 : Int) : Nat → Int → mD → Int
  | 0 => st_39_2 x0 x1 x2 (fun _ d => 0)
  | n + 1 => st_39_2 x0 x1 x2 (lp_39_2 x0 x1 x2 n)
theorem ls_39_2 {E : mO × tW} {K : tK} {x0 x1 x2 : Int} (hx0 : ofB x0) (p1 : 0 ≤ x1 ∧ x1 ≤ 5) (p2 : -2147483648 ≤ x2 ∧ x2 ≤ 2147483647) (N2 : Int) (r2 : Int → mD → Int) (ih2 : ∀ (x3 : Int) (d : mD), Safe d → (0 ≤ x3 ∧ x3 ≤ 16) → 0 ≤ 16 - x3 → 16 - x3 < N2 → ((-1 ≤ (r2 x3 d) ∧ (r2 x3 d) ≤ 15) → K (.inl (some (0, (r2 x3 d)))) d) → tRun E 39 (2, [.inr (3, x0), .inl (0, x1), .inl (0, x2), .inl (0, x3)], [], 0, 0, d) K) (x3 : Int) (d : mD) (hS : Safe d) (i0 : 0 ≤ x3 ∧ x3 ≤ 16) (hm : 16 - x3 ≤ N2) (h : (-1 ≤ (st_39_2 x0 x1 x2 r2 x3 d) ∧ (st_39_2 x0 x1 x2 r2 x3 d) ≤ 15) → K (.inl (some (0, (st_39_2 x0 x1 x2 r2 x3 d)))) d) : tRun E 39 (2, [.inr (3, x0), .inl (0, x1), .inl (0, x2), .inl (0, x3)], [], 0, 0, d) K := by
  refine t_39_2 ?_
  have q1 := r_3_6 hS hx0 x1
  refine ⟨by omega, ⟨m_inR (by omega) (by omega), m_inR (by omega) (by omega)⟩, fun c0 => ?_, fun c0 => ?_⟩
  · simp only [st_39_2, if_neg (show ¬ x3 < d (x0 + 6) x1 from Int.not_lt.mpr c0)] at h
    exact h (by omega)
  · refine k_38 hS hx0 (by omega) (by omega) (fun e1 => ?_)
    refine t_39_18 ?_
    refine ⟨⟨m_inR (by omega) (by omega), m_inR (by omega) (by omega)⟩, fun c1 => ?_, fun c1 => ?_⟩
    · refine ih2 (x3 + 1)  d hS (by omega) (by omega) (by omega) ?_
      intro e
      simp only [st_39_2, if_pos (show x3 < d (x0 + 6) x1 from c0), if_neg (show ¬ v_38 x0 x1 x3 d = x2 from c1)] at h
      exact h e
    · simp only [st_39_2, if_pos (show x3 < d (x0 + 6) x1 from c0), if_pos (show v_38 x0 x1 x3 d = x2 from c1)] at h
      exact h (by omega)
theorem l_39_2 {E : mO × tW} {K : tK} {x0 x1 x2 : Int} (hx0 : ofB x0) (p1 : 0 ≤ x1 ∧ x1 ≤ 5) (p2 : -2147483648 ≤ x2 ∧ x2 ≤ 2147483647) : ∀ (n : Nat) (x3 : Int) (d : mD), Safe d → (0 ≤ x3 ∧ x3 ≤ 16) → 16 - x3 ≤ (n : Int) → ((-1 ≤ (lp_39_2 x0 x1 x2 n x3 d) ∧ (lp_39_2 x0 x1 x2 n x3 d) ≤ 15) → K (.inl (some (0, (lp_39_2 x0 x1 x2 n x3 d)))) d) → tRun E 39 (2, [.inr (3, x0), .inl (0, x1), .inl (0, x2), .inl (0, x3)], [], 0, 0, d) K := by
  intro n
  induction n with
  | zero =>
    intro x3  d hS i0 hm  h
    exact ls_39_2 hx0 p1 p2 0 _ (fun _  _ _ _ m0 m1 _ => absurd m1 (by omega)) x3  d hS i0 hm  h
  | succ n ih =>
    intro x3  d hS i0 hm  h
    exact ls_39_2 hx0 p1 p2 ((n + 1 : Nat) : Int) _ (fun x3  d hS i0 m0 m1 h => ih x3  d hS i0 (by omega)  h) x3  d hS i0 hm  h
def v_39 (x0 x1 x2 : Int) (d : mD) : Int := lp_39_2 x0 x1 x2 (16 - 0 : Int).toNat 0 d
theorem k_39 {E : mO × tW} {K : tK} {d : mD} {x0 x1 x2 : Int} (hS : Safe d) (hx0 : ofB x0) (p1 : 0 ≤ x1 ∧ x1 ≤ 5) (p2 : -2147483648 ≤ x2 ∧ x2 ≤ 2147483647) (h : (-1 ≤ (v_39 x0 x1 x2 d) ∧ (v_39 x0 x1 x2 d) ≤ 15) → K (.inl (some (0, (v_39 x0 x1 x2 d)))) d) : tCall E 39 [.inr (3, x0), .inl (0, x1), .inl (0, x2)] d K := by
  refine t_39_0 ?_
  refine l_39_2 hx0 p1 p2 (16 - 0 : Int).toNat 0  d hS (by omega) (by omega) ?_
  intro e
  simp only [v_39] at h
  exact h e
def st_41_25 (x0 x1 x2 : Int) (r25 : Int → Int → mD → mD) (x3 x4 : Int) (d : mD) : mD := if x4 < d (x0 + 6) x1 then r25 x3 (x4 + 1) (mset d (x0 + 7) ((x3 + x4) - 1) (d (x0 + 7) (x3 + x4))) else mset d (x0 + 6) x1 ((d (x0 + 6) x1) - 1)
def lp_41_25 (x0 x1 x2 : Int) : Nat → Int → Int → mD → mD
  | 0 => st_41_25 x0 x1 x2 (fun _ _ d => d)
  | n + 1 => st_41_25 x0 x1 x2 (lp_41_25 x0 x1 x2 n)
theorem ls_41_25 {E : mO × tW} {K : tK} {x0 x1 x2 : Int} (hx0 : ofB x0) (p1 : 0 ≤ x1 ∧ x1 ≤ 5) (p2 : -2147483648 ≤ x2 ∧ x2 ≤ 2147483647) (N25 : Int) (r25 : Int → Int → mD → mD) (ih25 : ∀ (x3 x4 : Int) (d : mD), Safe d → (1 ≤ x4 ∧ x4 ≤ 16) → (x3 = x1 * 16) → (1 ≤ d (x0 + 6) x1) → 0 ≤ 16 - x4 → 16 - x4 < N25 → ((∀ b : Int, (b < x0 + 6 ∨ x0 + 7 < b) → (r25 x3 x4 d) b = d b) → Safe (r25 x3 x4 d) → K (.inl none) (r25 x3 x4 d)) → tRun E 41 (25, [.inr (3, x0), .inl (0, x1), .inl (0, x2), .inl (0, x3), .inl (0, x4)], [], 0, 0, d) K) (x3 x4 : Int) (d : mD) (hS : Safe d) (i0 : 1 ≤ x4 ∧ x4 ≤ 16) (i1 : x3 = x1 * 16) (i2 : 1 ≤ d (x0 + 6) x1) (hm : 16 - x4 ≤ N25) (h : (∀ b : Int, (b < x0 + 6 ∨ x0 + 7 < b) → (st_41_25 x0 x1 x2 r25 x3 x4 d) b = d b) → Safe (st_41_25 x0 x1 x2 r25 x3 x4 d) → K (.inl none) (st_41_25 x0 x1 x2 r25 x3 x4 d)) : tRun E 41 (25, [.inr (3, x0), .inl (0, x1), .inl (0, x2), .inl (0, x3), .inl (0, x4)], [], 0, 0, d) K := by
  refine t_41_25 ?_
  have q1 := r_3_6 hS hx0 x1
  refine ⟨by omega, ⟨m_inR (by omega) (by omega), m_inR (by omega) (by omega)⟩, fun c0 => ?_, fun c0 => ?_⟩
  · refine ⟨by omega, by omega, ?_⟩
    have hS1 : Safe (mset d (x0 + 6) x1 ((d (x0 + 6) x1) - 1)) := s_3_6 hS hx0 (by omega)
    simp only [st_41_25, if_neg (show ¬ x4 < d (x0 + 6) x1 from Int.not_lt.mpr c0)] at h
    exact h (fun b hb => mset_ne (by omega)) hS1
  · have q2 := r_3_7 hS hx0 (x3 + x4)
    refine ⟨by omega, by omega, ?_⟩
    have hS2 : Safe (mset d (x0 + 7) ((x3 + x4) - 1) (d (x0 + 7) (x3 + x4))) := s_3_7 hS hx0 (by omega)
    have q3 : (mset d (x0 + 7) ((x3 + x4) - 1) (d (x0 + 7) (x3 + x4))) (x0 + 6) x1 = d (x0 + 6) x1 := congrFun (mset_ne (by omega)) x1
    refine ih25 x3 (x4 + 1)  (mset d (x0 + 7) ((x3 + x4) - 1) (d (x0 + 7) (x3 + x4))) hS2 (by omega) (by omega) (by omega) (by omega) (by omega) ?_
    intro F hS_
    simp only [st_41_25, if_pos (show x4 < d (x0 + 6) x1 from c0)] at h
    exact h (fun b hb => (F b hb).trans ((show ∀ b : Int, (b < x0 + 6 ∨ x0 + 7 < b) → (mset d (x0 + 7) ((x3 + x4) - 1) (d (x0 + 7) (x3 + x4))) b = d b from fun b hb => mset_ne (by omega)) b hb)) hS_
theorem l_41_25 {E : mO × tW} {K : tK} {x0 x1 x2 : Int} (hx0 : ofB x0) (p1 : 0 ≤ x1 ∧ x1 ≤ 5) (p2 : -2147483648 ≤ x2 ∧ x2 ≤ 2147483647) : ∀ (n : Nat) (x3 x4 : Int) (d : mD), Safe d → (1 ≤ x4 ∧ x4 ≤ 16) → (x3 = x1 * 16) → (1 ≤ d (x0 + 6) x1) → 16 - x4 ≤ (n : Int) → ((∀ b : Int, (b < x0 + 6 ∨ x0 + 7 < b) → (lp_41_25 x0 x1 x2 n x3 x4 d) b = d b) → Safe (lp_41_25 x0 x1 x2 n x3 x4 d) → K (.inl none) (lp_41_25 x0 x1 x2 n x3 x4 d)) → tRun E 41 (25, [.inr (3, x0), .inl (0, x1), .inl (0, x2), .inl (0, x3), .inl (0, x4)], [], 0, 0, d) K := by
  intro n
  induction n with
  | zero =>
    intro x3 x4  d hS i0 i1 i2 hm  h
    exact ls_41_25 hx0 p1 p2 0 _ (fun _ _  _ _ _ _ _ m0 m1 _ => absurd m1 (by omega)) x3 x4  d hS i0 i1 i2 hm  h
  | succ n ih =>
    intro x3 x4  d hS i0 i1 i2 hm  h
    exact ls_41_25 hx0 p1 p2 ((n + 1 : Nat) : Int) _ (fun x3 x4  d hS i0 i1 i2 m0 m1 h => ih x3 x4  d hS i0 i1 i2 (by omega)  h) x3 x4  d hS i0 i1 i2 hm  h
def g_41 (x0 x1 x2 : Int) (d : mD) : mD := if x2 < 0 then d else if x2 < d (x0 + 6) x1 then lp_41_25 x0 x1 x2 (16 - (x2 + 1) : Int).toNat (x1 * 16) (x2 + 1) d else d
theorem k_41 {E : mO × tW} {K : tK} {d : mD} {x0 x1 x2 : Int} (hS : Safe d) (hx0 : ofB x0) (p1 : 0 ≤ x1 ∧ x1 ≤ 5) (p2 : -2147483648 ≤ x2 ∧ x2 ≤ 2147483647) (h : (∀ b : Int, (b < x0 + 6 ∨ x0 + 7 < b) → (g_41 x0 x1 x2 d) b = d b) → Safe (g_41 x0 x1 x2 d) → K (.inl none) (g_41 x0 x1 x2 d)) : tCall E 41 [.inr (3, x0), .inl (0, x1), .inl (0, x2)] d K := by
  refine t_41_0 ?_
  refine ⟨m_inR (by omega) (by omega), fun c0 => ?_, fun c0 => ?_⟩
  · simp only [g_41, if_pos (show x2 < 0 from c0)] at h
    exact h (by intros; trivial) hS
  · have q4 := r_3_6 hS hx0 x1
    refine ⟨by omega, ⟨m_inR (by omega) (by omega), m_inR (by omega) (by omega)⟩, fun c1 => ?_, fun c1 => ?_⟩
    · refine l_41_25 hx0 p1 p2 (16 - (x2 + 1) : Int).toNat (x1 * 16) (x2 + 1)  d hS (by omega) (by omega) (by omega) (by omega) ?_
      intro F hS_
      simp only [g_41, if_neg (show ¬ x2 < 0 from Int.not_lt.mpr c0), if_pos (show x2 < d (x0 + 6) x1 from c1)] at h
      exact h F hS_
    · simp only [g_41, if_neg (show ¬ x2 < 0 from Int.not_lt.mpr c0), if_neg (show ¬ x2 < d (x0 + 6) x1 from Int.not_lt.mpr c1)] at h
      exact h (by intros; trivial) hS
def v_42 (x0 x1 x2 : Int) (d : mD) : Int := if d (x0 + 5) x1 = 0 then 0 else if x2 % (mmax 1 (d (x0 + 3) x1)) = 0 then mmin (d (x0 + 2) x1) (d (x0 + 6) x1) else 0
theorem k_42 {E : mO × tW} {K : tK} {d : mD} {x0 x1 x2 : Int} (hS : Safe d) (hx0 : ofB x0) (p1 : 0 ≤ x1 ∧ x1 ≤ 5) (p2 : 0 ≤ x2 ∧ x2 ≤ 1199) (h : (0 ≤ (v_42 x0 x1 x2 d) ∧ (v_42 x0 x1 x2 d) ≤ 4) → K (.inl (some (0, (v_42 x0 x1 x2 d)))) d) : tCall E 42 [.inr (3, x0), .inl (0, x1), .inl (0, x2)] d K := by
  refine t_42_0 ?_
  have q1 := r_3_5 hS hx0 x1
  refine ⟨by omega, m_inR (by omega) (by omega), fun c0 => ?_, fun c0 => ?_⟩
  · simp only [v_42, if_pos (show d (x0 + 5) x1 = 0 from c0)] at h
    exact h (by omega)
  · have q2 := r_3_3 hS hx0 x1
    have q3 := mmax_r 1 (d (x0 + 3) x1)
    have q4 := mmod_r (x := x2) (y := mmax 1 (d (x0 + 3) x1)) (by omega) (by omega)
    refine ⟨by omega, ⟨m_inR (by omega) (by omega), m_inR (by omega) (by omega)⟩, by omega, m_inR (by omega) (by omega), fun c1 => ?_, fun c1 => ?_⟩
    · have q5 := r_3_2 hS hx0 x1
      have q6 := r_3_6 hS hx0 x1
      have q7 := mmin_r (d (x0 + 2) x1) (d (x0 + 6) x1)
      refine ⟨by omega, by omega, ⟨m_inR (by omega) (by omega), m_inR (by omega) (by omega)⟩, ?_⟩
      simp only [v_42, if_neg (show ¬ d (x0 + 5) x1 = 0 from c0), if_pos (show x2 % (mmax 1 (d (x0 + 3) x1)) = 0 from c1)] at h
      exact h (by omega)
    · simp only [v_42, if_neg (show ¬ d (x0 + 5) x1 = 0 from c0), if_neg (show ¬ x2 % (mmax 1 (d (x0 + 3) x1)) = 0 from c1)] at h
      exact h (by omega)
def g_35 (x0 x1 x2 x3 x4 : Int) (d : mD) : mD := if d x0 0 < 6 then mset (mset (mset (mset (mset (mset (mset d (x0 + 1) (d x0 0) x1) (x0 + 2) (d x0 0) x2) (x0 + 3) (d x0 0) x3) (x0 + 4) (d x0 0) x4) (x0 + 5) (d x0 0) 1) (x0 + 6) (d x0 0) 0) x0 0 ((d x0 0) + 1) else d
theorem k_35 {E : mO × tW} {K : tK} {d : mD} {x0 x1 x2 x3 x4 : Int} (hS : Safe d) (hx0 : ofB x0) (p1 : 0 ≤ x1 ∧ x1 ≤ 1073741823) (p2 : 0 ≤ x2 ∧ x2 ≤ 4) (p3 : 0 ≤ x3 ∧ x3 ≤ 6) (p4 : 0 ≤ x4 ∧ x4 ≤ 20) (h : (∀ b : Int, (b < x0 ∨ x0 + 6 < b) → (g_35 x0 x1 x2 x3 x4 d) b = d b) → Safe (g_35 x0 x1 x2 x3 x4 d) → K (.inl none) (g_35 x0 x1 x2 x3 x4 d)) : tCall E 35 [.inr (3, x0), .inl (0, x1), .inl (0, x2), .inl (0, x3), .inl (0, x4)] d K := by
  refine t_35_0 ?_
  have q1 := r_3_f0 hS hx0
  refine ⟨⟨m_inR (by omega) (by omega), m_inR (by omega) (by omega)⟩, fun c0 => ?_, fun c0 => ?_⟩
  · refine ⟨by omega, ?_⟩
    have hS1 : Safe (mset d (x0 + 1) (d x0 0) x1) := s_3_1 hS hx0 (by omega)
    refine t_35_20 ?_
    rw [mset_ne (d := d) (a := x0 + 1) (i := d x0 0) (v := x1) (b := x0) (by omega)]
    refine ⟨by omega, ?_⟩
    have hS2 : Safe (mset (mset d (x0 + 1) (d x0 0) x1) (x0 + 2) (d x0 0) x2) := s_3_2 hS1 hx0 (by omega)
    refine t_35_30 ?_
    rw [mset_ne (d := mset d (x0 + 1) (d x0 0) x1) (a := x0 + 2) (i := d x0 0) (v := x2) (b := x0) (by omega)]
    rw [mset_ne (d := d) (a := x0 + 1) (i := d x0 0) (v := x1) (b := x0) (by omega)]
    refine ⟨by omega, ?_⟩
    have hS3 : Safe (mset (mset (mset d (x0 + 1) (d x0 0) x1) (x0 + 2) (d x0 0) x2) (x0 + 3) (d x0 0) x3) := s_3_3 hS2 hx0 (by omega)
    refine t_35_40 ?_
    rw [mset_ne (d := mset (mset d (x0 + 1) (d x0 0) x1) (x0 + 2) (d x0 0) x2) (a := x0 + 3) (i := d x0 0) (v := x3) (b := x0) (by omega)]
    rw [mset_ne (d := mset d (x0 + 1) (d x0 0) x1) (a := x0 + 2) (i := d x0 0) (v := x2) (b := x0) (by omega)]
    rw [mset_ne (d := d) (a := x0 + 1) (i := d x0 0) (v := x1) (b := x0) (by omega)]
    refine ⟨by omega, ?_⟩
    have hS4 : Safe (mset (mset (mset (mset d (x0 + 1) (d x0 0) x1) (x0 + 2) (d x0 0) x2) (x0 + 3) (d x0 0) x3) (x0 + 4) (d x0 0) x4) := s_3_4 hS3 hx0 (by omega)
    refine t_35_51 ?_
    rw [mset_ne (d := mset (mset (mset d (x0 + 1) (d x0 0) x1) (x0 + 2) (d x0 0) x2) (x0 + 3) (d x0 0) x3) (a := x0 + 4) (i := d x0 0) (v := x4) (b := x0) (by omega)]
    rw [mset_ne (d := mset (mset d (x0 + 1) (d x0 0) x1) (x0 + 2) (d x0 0) x2) (a := x0 + 3) (i := d x0 0) (v := x3) (b := x0) (by omega)]
    rw [mset_ne (d := mset d (x0 + 1) (d x0 0) x1) (a := x0 + 2) (i := d x0 0) (v := x2) (b := x0) (by omega)]
    rw [mset_ne (d := d) (a := x0 + 1) (i := d x0 0) (v := x1) (b := x0) (by omega)]
    refine ⟨by omega, ?_⟩
    have hS5 : Safe (mset (mset (mset (mset (mset d (x0 + 1) (d x0 0) x1) (x0 + 2) (d x0 0) x2) (x0 + 3) (d x0 0) x3) (x0 + 4) (d x0 0) x4) (x0 + 5) (d x0 0) 1) := s_3_5 hS4 hx0 (by omega)
    refine t_35_61 ?_
    rw [mset_ne (d := mset (mset (mset (mset d (x0 + 1) (d x0 0) x1) (x0 + 2) (d x0 0) x2) (x0 + 3) (d x0 0) x3) (x0 + 4) (d x0 0) x4) (a := x0 + 5) (i := d x0 0) (v := (1 : Int)) (b := x0) (by omega)]
    rw [mset_ne (d := mset (mset (mset d (x0 + 1) (d x0 0) x1) (x0 + 2) (d x0 0) x2) (x0 + 3) (d x0 0) x3) (a := x0 + 4) (i := d x0 0) (v := x4) (b := x0) (by omega)]
    rw [mset_ne (d := mset (mset d (x0 + 1) (d x0 0) x1) (x0 + 2) (d x0 0) x2) (a := x0 + 3) (i := d x0 0) (v := x3) (b := x0) (by omega)]
    rw [mset_ne (d := mset d (x0 + 1) (d x0 0) x1) (a := x0 + 2) (i := d x0 0) (v := x2) (b := x0) (by omega)]
    rw [mset_ne (d := d) (a := x0 + 1) (i := d x0 0) (v := x1) (b := x0) (by omega)]
    refine ⟨by omega, ?_⟩
    have hS6 : Safe (mset (mset (mset (mset (mset (mset d (x0 + 1) (d x0 0) x1) (x0 + 2) (d x0 0) x2) (x0 + 3) (d x0 0) x3) (x0 + 4) (d x0 0) x4) (x0 + 5) (d x0 0) 1) (x0 + 6) (d x0 0) 0) := s_3_6 hS5 hx0 (by omega)
    refine t_35_71 ?_
    rw [mset_ne (d := mset (mset (mset (mset (mset d (x0 + 1) (d x0 0) x1) (x0 + 2) (d x0 0) x2) (x0 + 3) (d x0 0) x3) (x0 + 4) (d x0 0) x4) (x0 + 5) (d x0 0) 1) (a := x0 + 6) (i := d x0 0) (v := (0 : Int)) (b := x0) (by omega)]
    rw [mset_ne (d := mset (mset (mset (mset d (x0 + 1) (d x0 0) x1) (x0 + 2) (d x0 0) x2) (x0 + 3) (d x0 0) x3) (x0 + 4) (d x0 0) x4) (a := x0 + 5) (i := d x0 0) (v := (1 : Int)) (b := x0) (by omega)]
    rw [mset_ne (d := mset (mset (mset d (x0 + 1) (d x0 0) x1) (x0 + 2) (d x0 0) x2) (x0 + 3) (d x0 0) x3) (a := x0 + 4) (i := d x0 0) (v := x4) (b := x0) (by omega)]
    rw [mset_ne (d := mset (mset d (x0 + 1) (d x0 0) x1) (x0 + 2) (d x0 0) x2) (a := x0 + 3) (i := d x0 0) (v := x3) (b := x0) (by omega)]
    rw [mset_ne (d := mset d (x0 + 1) (d x0 0) x1) (a := x0 + 2) (i := d x0 0) (v := x2) (b := x0) (by omega)]
    rw [mset_ne (d := d) (a := x0 + 1) (i := d x0 0) (v := x1) (b := x0) (by omega)]
    have hS7 : Safe (mset (mset (mset (mset (mset (mset (mset d (x0 + 1) (d x0 0) x1) (x0 + 2) (d x0 0) x2) (x0 + 3) (d x0 0) x3) (x0 + 4) (d x0 0) x4) (x0 + 5) (d x0 0) 1) (x0 + 6) (d x0 0) 0) x0 0 ((d x0 0) + 1)) := s_3_f0 hS6 hx0 (by omega)
    simp only [g_35, if_pos (show d x0 0 < 6 from c0)] at h
    exact h (fun b hb => (mset_ne (by omega)).trans ((mset_ne (by omega)).trans ((mset_ne (by omega)).trans ((mset_ne (by omega)).trans ((mset_ne (by omega)).trans ((mset_ne (by omega)).trans (mset_ne (by omega)))))))) hS7
  · simp only [g_35, if_neg (show ¬ d x0 0 < 6 from Int.not_lt.mpr c0)] at h
    exact h (by intros; trivial) hS
