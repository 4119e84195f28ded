/-! ===== contracts of the reference's methods: printed by a program of mine ===== -/
def st_210_4 (x0 : Int) (r4 : Int → Int → mD → Int × mD) (x1 x2 : Int) (d : mD) : Int × mD := if x2 < d x0 9 then (if v_190 x0 x2 d = 0 then r4 ((-1)) (x2 + 1) d else if x2 < 6 then (if x1 < 0 then r4 ((-1)) (x2 + 1) d else r4 ((((27 * x1) + (d (x0 + 7) x2)) - 97) + 1) (x2 + 1) d) else r4 ((-1)) (x2 + 1) d) else if x1 < 0 then (0, mset d x0 9 0) else (x1, mset d x0 9 0)
def lp_210_4 (x0 : Int) : Nat → Int → Int → mD → Int × mD
  | 0 => st_210_4 x0 (fun _ _ d => (0, d))
  | n + 1 => st_210_4 x0 (lp_210_4 x0 n)
theorem ls_210_4 {E : mO × tW} {K : tK} {x0 : Int} (hx0 : mdB x0) (N4 : Int) (r4 : Int → Int → mD → Int × mD) (ih4 : ∀ (x1 x2 : Int) (d : mD), Safe d → (0 ≤ x2 ∧ x2 ≤ 1000) → (-1 ≤ x1 ∧ ((x2 = 0 ∧ x1 ≤ 0) ∨ (x2 = 1 ∧ x1 ≤ 26) ∨ (x2 = 2 ∧ x1 ≤ 728) ∨ (x2 = 3 ∧ x1 ≤ 19682) ∨ (x2 = 4 ∧ x1 ≤ 531440) ∨ (x2 = 5 ∧ x1 ≤ 14348906) ∨ (6 ≤ x2 ∧ x1 ≤ 387420488))) → 0 ≤ 1000 - x2 → 1000 - x2 < N4 → ((0 ≤ (r4 x1 x2 d).1 ∧ (r4 x1 x2 d).1 ≤ 387420488) → (∀ b : Int, (b < x0 ∨ x0 < b) → (r4 x1 x2 d).2 b = d b) → Safe (r4 x1 x2 d).2 → K (.inl (some (0, (r4 x1 x2 d).1))) (r4 x1 x2 d).2) → tRun E 210 (4, [.inr (11, x0), .inl (0, x1), .inl (0, x2)], [], 0, 0, d) K) (x1 x2 : Int) (d : mD) (hS : Safe d) (i0 : 0 ≤ x2 ∧ x2 ≤ 1000) (i1 : -1 ≤ x1 ∧ ((x2 = 0 ∧ x1 ≤ 0) ∨ (x2 = 1 ∧ x1 ≤ 26) ∨ (x2 = 2 ∧ x1 ≤ 728) ∨ (x2 = 3 ∧ x1 ≤ 19682) ∨ (x2 = 4 ∧ x1 ≤ 531440) ∨ (x2 = 5 ∧ x1 ≤ 14348906) ∨ (6 ≤ x2 ∧ x1 ≤ 387420488))) (hm : 1000 - x2 ≤ N4) (h : (0 ≤ (st_210_4 x0 r4 x1 x2 d).1 ∧ (st_210_4 x0 r4 x1 x2 d).1 ≤ 387420488) → (∀ b : Int, (b < x0 ∨ x0 < b) → (st_210_4 x0 r4 x1 x2 d).2 b = d b) → Safe (st_210_4 x0 r4 x1 x2 d).2 → K (.inl (some (0, (st_210_4 x0 r4 x1 x2 d).1))) (st_210_4 x0 r4 x1 x2 d).2) : tRun E 210 (4, [.inr (11, x0), .inl (0, x1), .inl (0, x2)], [], 0, 0, d) K := by
  refine t_210_4 ?_
  have w8 := r_11_f9 hS hx0
  have w9 := r_11_f10 hS hx0
  have q1 := r_11_f9 hS hx0
  refine ⟨⟨m_inR (by omega) (by omega), m_inR (by omega) (by omega)⟩, fun c0 => ?_, fun c0 => ?_⟩
  · have hS1 : Safe (mset d x0 9 0) := s_11_f9 hS hx0 (by omega)
    refine ⟨m_inR (by omega) (by omega), fun c1 => ?_, fun c1 => ?_⟩
    · have y0 : st_210_4 x0 r4 x1 x2 d = (x1, mset d x0 9 0) := by simp only [st_210_4, if_neg (show ¬ x2 < d x0 9 from Int.not_lt.mpr c0), if_neg (show ¬ x1 < 0 from Int.not_lt.mpr c1)]
      rw [y0] at h
      exact h (show 0 ≤ x1 ∧ x1 ≤ 387420488 from (by omega)) (show ∀ b : Int, (b < x0 ∨ x0 < b) → (mset d x0 9 0) b = d b from fun b hb => mset_ne (by omega)) hS1
    · have y0 : st_210_4 x0 r4 x1 x2 d = (0, mset d x0 9 0) := by simp only [st_210_4, if_neg (show ¬ x2 < d x0 9 from Int.not_lt.mpr c0), if_pos (show x1 < 0 from c1)]
      rw [y0] at h
      exact h (show 0 ≤ ((0 : Int)) ∧ ((0 : Int)) ≤ 387420488 from (by omega)) (show ∀ b : Int, (b < x0 ∨ x0 < b) → (mset d x0 9 0) b = d b from fun b hb => mset_ne (by omega)) hS1
  · refine k_190 hS hx0 (by omega) (fun e1 => ?_)
    refine t_210_17 ?_
    have w8 := r_11_f9 hS hx0
    have w9 := r_11_f10 hS hx0
    refine ⟨m_inR (by omega) (by omega), fun c1 => ?_, fun c1 => ?_⟩
    · refine ih4 ((-1)) (x2 + 1)  d hS (by omega) (by omega) (by omega) (by omega) ?_
      intro e F hS_
      have y0 : st_210_4 x0 r4 x1 x2 d = r4 ((-1)) (x2 + 1) d := by simp only [st_210_4, if_pos (show x2 < d x0 9 from c0), if_pos (show v_190 x0 x2 d = 0 from c1)]
      rw [y0] at h
      exact h e F hS_
    · refine ⟨⟨m_inR (by omega) (by omega), m_inR (by omega) (by omega)⟩, fun c2 => ?_, fun c2 => ?_⟩
      · refine ih4 ((-1)) (x2 + 1)  d hS (by omega) (by omega) (by omega) (by omega) ?_
        intro e F hS_
        have y0 : st_210_4 x0 r4 x1 x2 d = r4 ((-1)) (x2 + 1) d := by simp only [st_210_4, if_pos (show x2 < d x0 9 from c0), if_neg (show ¬ v_190 x0 x2 d = 0 from c1), if_neg (show ¬ x2 < 6 from Int.not_lt.mpr c2)]
        rw [y0] at h
        exact h e F hS_
      · refine ⟨m_inR (by omega) (by omega), fun c3 => ?_, fun c3 => ?_⟩
        · refine ih4 ((-1)) (x2 + 1)  d hS (by omega) (by omega) (by omega) (by omega) ?_
          intro e F hS_
          have y0 : st_210_4 x0 r4 x1 x2 d = r4 ((-1)) (x2 + 1) d := by simp only [st_210_4, if_pos (show x2 < d x0 9 from c0), if_neg (show ¬ v_190 x0 x2 d = 0 from c1), if_pos (show x2 < 6 from c2), if_pos (show x1 < 0 from c3)]
          rw [y0] at h
          exact h e F hS_
        · refine ⟨by omega, ?_⟩
          have q2 := r_11_7 hS hx0 x2
          refine ih4 ((((27 * x1) + (d (x0 + 7) x2)) - 97) + 1) (x2 + 1)  d hS (by omega) (by omega) (by omega) (by omega) ?_
          intro e F hS_
          have y0 : st_210_4 x0 r4 x1 x2 d = r4 ((((27 * x1) + (d (x0 + 7) x2)) - 97) + 1) (x2 + 1) d := by simp only [st_210_4, if_pos (show x2 < d x0 9 from c0), if_neg (show ¬ v_190 x0 x2 d = 0 from c1), if_pos (show x2 < 6 from c2), if_neg (show ¬ x1 < 0 from Int.not_lt.mpr c3)]
          rw [y0] at h
          exact h e F hS_
theorem l_210_4 {E : mO × tW} {K : tK} {x0 : Int} (hx0 : mdB x0) : ∀ (n : Nat) (x1 x2 : Int) (d : mD), Safe d → (0 ≤ x2 ∧ x2 ≤ 1000) → (-1 ≤ x1 ∧ ((x2 = 0 ∧ x1 ≤ 0) ∨ (x2 = 1 ∧ x1 ≤ 26) ∨ (x2 = 2 ∧ x1 ≤ 728) ∨ (x2 = 3 ∧ x1 ≤ 19682) ∨ (x2 = 4 ∧ x1 ≤ 531440) ∨ (x2 = 5 ∧ x1 ≤ 14348906) ∨ (6 ≤ x2 ∧ x1 ≤ 387420488))) → 1000 - x2 ≤ (n : Int) → ((0 ≤ (lp_210_4 x0 n x1 x2 d).1 ∧ (lp_210_4 x0 n x1 x2 d).1 ≤ 387420488) → (∀ b : Int, (b < x0 ∨ x0 < b) → (lp_210_4 x0 n x1 x2 d).2 b = d b) → Safe (lp_210_4 x0 n x1 x2 d).2 → K (.inl (some (0, (lp_210_4 x0 n x1 x2 d).1))) (lp_210_4 x0 n x1 x2 d).2) → tRun E 210 (4, [.inr (11, x0), .inl (0, x1), .inl (0, x2)], [], 0, 0, d) K := by
  intro n
  induction n with
  | zero =>
    intro x1 x2  d hS i0 i1 hm  h
    exact ls_210_4 hx0 0 _ (fun _ _  _ _ _ _ m0 m1 _ => absurd m1 (by omega)) x1 x2  d hS i0 i1 hm  h
  | succ n ih =>
    intro x1 x2  d hS i0 i1 hm  h
    exact ls_210_4 hx0 ((n + 1 : Nat) : Int) _ (fun x1 x2  d hS i0 i1  m0 m1 h => ih x1 x2  d hS i0 i1 (by omega)  h) x1 x2  d hS i0 i1 hm  h
def f_210 (x0 : Int) (d : mD) : Int × mD := lp_210_4 x0 (1000 - 0 : Int).toNat 0 0 d
def v_210 (x0 : Int) (d : mD) : Int := (f_210 x0 d).1
def g_210 (x0 : Int) (d : mD) : mD := (f_210 x0 d).2
theorem k_210 {E : mO × tW} {K : tK} {d : mD} {x0 : Int} (hS : Safe d) (hx0 : mdB x0) (h : (0 ≤ (v_210 x0 d) ∧ (v_210 x0 d) ≤ 387420488) → (∀ b : Int, (b < x0 ∨ x0 < b) → (g_210 x0 d) b = d b) → Safe (g_210 x0 d) → K (.inl (some (0, (v_210 x0 d)))) (g_210 x0 d)) : tCall E 210 [.inr (11, x0)] d K := by
  simp only [v_210, g_210] at h
  refine t_210_0 ?_
  have w8 := r_11_f9 hS hx0
  have w9 := r_11_f10 hS hx0
  refine l_210_4 hx0 (1000 - 0 : Int).toNat 0 0  d hS (by omega) (by omega) (by omega) ?_
  intro e F hS_
  have y0 : f_210 x0 d = lp_210_4 x0 (1000 - 0 : Int).toNat 0 0 d := by simp only [f_210]
  rw [y0] at h
  exact h e F hS_
def v_208 (x0 : Int) (d : mD) : Int := d x0 11
def g_208 (x0 : Int) (d : mD) : mD := mset d x0 0 0
theorem k_208 {E : mO × tW} {K : tK} {d : mD} {x0 : Int} (hS : Safe d) (hx0 : mdB x0) (h : (∀ b : Int, (b < x0 ∨ x0 < b) → (g_208 x0 d) b = d b) → Safe (g_208 x0 d) → K (.inl (some (0, (v_208 x0 d)))) (g_208 x0 d)) : tCall E 208 [.inr (11, x0)] d K := by
  refine t_208_0 ?_
  have hS1 : Safe (mset d x0 0 0) := s_11_f0 hS hx0 (by omega)
  rw [mset_ni (d := d) (a := x0) (i := (0 : Int)) (v := (0 : Int)) (b := x0) (j := (11 : Int)) (by omega)]
  have q1 := r_11_f11 hS hx0
  have y0 : v_208 x0 d = d x0 11 := by simp only [v_208]
  have y1 : g_208 x0 d = mset d x0 0 0 := by simp only [g_208]
  rw [y0] at h
  rw [y1] at h
  exact h (show ∀ b : Int, (b < x0 ∨ x0 < b) → (mset d x0 0 0) b = d b from fun b hb => mset_ne (by omega)) hS1
def v_209 (x0 : Int) (d : mD) : Int := d x0 12
def g_209 (x0 : Int) (d : mD) : mD := mset d x0 0 0
theorem k_209 {E : mO × tW} {K : tK} {d : mD} {x0 : Int} (hS : Safe d) (hx0 : mdB x0) (h : (∀ b : Int, (b < x0 ∨ x0 < b) → (g_209 x0 d) b = d b) → Safe (g_209 x0 d) → K (.inl (some (0, (v_209 x0 d)))) (g_209 x0 d)) : tCall E 209 [.inr (11, x0)] d K := by
  refine t_209_0 ?_
  have hS1 : Safe (mset d x0 0 0) := s_11_f0 hS hx0 (by omega)
  rw [mset_ni (d := d) (a := x0) (i := (0 : Int)) (v := (0 : Int)) (b := x0) (j := (12 : Int)) (by omega)]
  have q1 := r_11_f12 hS hx0
  have y0 : v_209 x0 d = d x0 12 := by simp only [v_209]
  have y1 : g_209 x0 d = mset d x0 0 0 := by simp only [g_209]
  rw [y0] at h
  rw [y1] at h
  exact h (show ∀ b : Int, (b < x0 ∨ x0 < b) → (mset d x0 0 0) b = d b from fun b hb => mset_ne (by omega)) hS1
def v_211 (x0 x1 : Int) (d : mD) : Int := if x1 = 0 then (if v_183 x0 (v_210 x0 d) (g_210 x0 d) = (-1) then 0 else v_183 x0 (v_210 x0 d) (g_210 x0 d)) else if v_184 x0 (v_210 x0 d) (g_210 x0 d) = (-1) then 0 else v_184 x0 (v_210 x0 d) (g_210 x0 d)
def g_211 (x0 x1 : Int) (d : mD) : mD := if x1 = 0 then (if v_183 x0 (v_210 x0 d) (g_210 x0 d) = (-1) then mset (g_210 x0 d) x0 0 1 else mset (g_210 x0 d) x0 0 0) else if v_184 x0 (v_210 x0 d) (g_210 x0 d) = (-1) then mset (g_210 x0 d) x0 0 1 else mset (g_210 x0 d) x0 0 0
theorem k_211 {E : mO × tW} {K : tK} {d : mD} {x0 x1 : Int} (hS : Safe d) (hx0 : mdB x0) (p1 : 0 ≤ x1 ∧ x1 ≤ 1) (h : (∀ b : Int, (b < x0 ∨ x0 < b) → (g_211 x0 x1 d) b = d b) → Safe (g_211 x0 x1 d) → K (.inl (some (0, (v_211 x0 x1 d)))) (g_211 x0 x1 d)) : tCall E 211 [.inr (11, x0), .inl (0, x1)] d K := by
  refine t_211_0 ?_
  refine k_210 hS hx0 (fun e1 F1 hS1 => ?_)
  refine t_211_4 ?_
  refine ⟨m_inR (by omega) (by omega), fun c0 => ?_, fun c0 => ?_⟩
  · refine k_183 hS1 hx0 (m_inR (by omega) (by omega)) (fun e2 => ?_)
    refine t_211_22 ?_
    refine ⟨⟨m_inR (by omega) (by omega), m_inR (by omega) (by omega)⟩, fun c1 => ?_, fun c1 => ?_⟩
    · have hS2 : Safe (mset (g_210 x0 d) x0 0 0) := s_11_f0 hS1 hx0 (by omega)
      rw [mset_eq (d := g_210 x0 d) (a := x0) (i := (0 : Int)) (v := (0 : Int))]
      refine ⟨m_inR (by omega) (by omega), fun c2 => ?_, fun c2 => ?_⟩
      · have y0 : v_211 x0 x1 d = v_183 x0 (v_210 x0 d) (g_210 x0 d) := by simp only [v_211, if_pos (show x1 = 0 from c0), if_neg (show ¬ v_183 x0 (v_210 x0 d) (g_210 x0 d) = (-1) from c1), if_neg (show ¬ (0 : Int) < 0 from Int.not_lt.mpr c2)]
        have y1 : g_211 x0 x1 d = mset (g_210 x0 d) x0 0 0 := by simp only [g_211, if_pos (show x1 = 0 from c0), if_neg (show ¬ v_183 x0 (v_210 x0 d) (g_210 x0 d) = (-1) from c1), if_neg (show ¬ (0 : Int) < 0 from Int.not_lt.mpr c2)]
        rw [y0] at h
        rw [y1] at h
        exact h (show ∀ b : Int, (b < x0 ∨ x0 < b) → (mset (g_210 x0 d) x0 0 0) b = d b from fun b hb => (mset_ne (by omega)).trans (F1 b (by omega))) hS2
      · exact (show False by omega).elim
    · have hS3 : Safe (mset (g_210 x0 d) x0 0 1) := s_11_f0 hS1 hx0 (by omega)
      rw [mset_eq (d := g_210 x0 d) (a := x0) (i := (0 : Int)) (v := (1 : Int))]
      refine ⟨m_inR (by omega) (by omega), fun c2 => ?_, fun c2 => ?_⟩
      · exact (show False by omega).elim
      · have y0 : v_211 x0 x1 d = 0 := by simp only [v_211, if_pos (show x1 = 0 from c0), if_pos (show v_183 x0 (v_210 x0 d) (g_210 x0 d) = (-1) from c1), if_pos (show (0 : Int) < 1 from c2)]
        have y1 : g_211 x0 x1 d = mset (g_210 x0 d) x0 0 1 := by simp only [g_211, if_pos (show x1 = 0 from c0), if_pos (show v_183 x0 (v_210 x0 d) (g_210 x0 d) = (-1) from c1), if_pos (show (0 : Int) < 1 from c2)]
        rw [y0] at h
        rw [y1] at h
        exact h (show ∀ b : Int, (b < x0 ∨ x0 < b) → (mset (g_210 x0 d) x0 0 1) b = d b from fun b hb => (mset_ne (by omega)).trans (F1 b (by omega))) hS3
  · refine k_184 hS1 hx0 (m_inR (by omega) (by omega)) (fun e3 => ?_)
    refine t_211_14 ?_
    refine t_211_22 ?_
    refine ⟨⟨m_inR (by omega) (by omega), m_inR (by omega) (by omega)⟩, fun c1 => ?_, fun c1 => ?_⟩
    · have hS4 : Safe (mset (g_210 x0 d) x0 0 0) := s_11_f0 hS1 hx0 (by omega)
      rw [mset_eq (d := g_210 x0 d) (a := x0) (i := (0 : Int)) (v := (0 : Int))]
      refine ⟨m_inR (by omega) (by omega), fun c2 => ?_, fun c2 => ?_⟩
      · have y0 : v_211 x0 x1 d = v_184 x0 (v_210 x0 d) (g_210 x0 d) := by simp only [v_211, if_neg (show ¬ x1 = 0 from c0), if_neg (show ¬ v_184 x0 (v_210 x0 d) (g_210 x0 d) = (-1) from c1), if_neg (show ¬ (0 : Int) < 0 from Int.not_lt.mpr c2)]
        have y1 : g_211 x0 x1 d = mset (g_210 x0 d) x0 0 0 := by simp only [g_211, if_neg (show ¬ x1 = 0 from c0), if_neg (show ¬ v_184 x0 (v_210 x0 d) (g_210 x0 d) = (-1) from c1), if_neg (show ¬ (0 : Int) < 0 from Int.not_lt.mpr c2)]
        rw [y0] at h
        rw [y1] at h
        exact h (show ∀ b : Int, (b < x0 ∨ x0 < b) → (mset (g_210 x0 d) x0 0 0) b = d b from fun b hb => (mset_ne (by omega)).trans (F1 b (by omega))) hS4
      · exact (show False by omega).elim
    · have hS5 : Safe (mset (g_210 x0 d) x0 0 1) := s_11_f0 hS1 hx0 (by omega)
      rw [mset_eq (d := g_210 x0 d) (a := x0) (i := (0 : Int)) (v := (1 : Int))]
      refine ⟨m_inR (by omega) (by omega), fun c2 => ?_, fun c2 => ?_⟩
      · exact (show False by omega).elim
      · have y0 : v_211 x0 x1 d = 0 := by simp only [v_211, if_neg (show ¬ x1 = 0 from c0), if_pos (show v_184 x0 (v_210 x0 d) (g_210 x0 d) = (-1) from c1), if_pos (show (0 : Int) < 1 from c2)]
        have y1 : g_211 x0 x1 d = mset (g_210 x0 d) x0 0 1 := by simp only [g_211, if_neg (show ¬ x1 = 0 from c0), if_pos (show v_184 x0 (v_210 x0 d) (g_210 x0 d) = (-1) from c1), if_pos (show (0 : Int) < 1 from c2)]
        rw [y0] at h
        rw [y1] at h
        exact h (show ∀ b : Int, (b < x0 ∨ x0 < b) → (mset (g_210 x0 d) x0 0 1) b = d b from fun b hb => (mset_ne (by omega)).trans (F1 b (by omega))) hS5
