/-! ===== contracts of the reference's methods: printed by a program of mine ===== -/
def v_212 (x0 x1 : Int) (d : mD) : Int := if d (x0 + 1) ((452 + (24 * x1)) + 3) = (-1) then d (x0 + 1) 0 else d (x0 + 1) ((452 + (24 * x1)) + 3)
theorem k_212 {E : mO × tW} {K : tK} {d : mD} {x0 x1 : Int} (hS : Safe d) (hx0 : mdB x0) (p1 : 0 ≤ x1 ∧ x1 ≤ 60) (h : (0 ≤ (v_212 x0 x1 d) ∧ (v_212 x0 x1 d) ≤ 1200) → K (.inl (some (0, (v_212 x0 x1 d)))) d) : tCall E 212 [.inr (11, x0), .inl (0, x1)] d K := by
  refine t_212_0 ?_
  refine k_179 hS ?_
  refine t_212_8 ?_
  have q1 := mt_3 hS hx0 x1 ((452 + (24 * x1)) + 3) (by omega) (by omega)
  refine ⟨by omega, ⟨m_inR (by omega) (by omega), m_inR (by omega) (by omega)⟩, fun c0 => ?_, fun c0 => ?_⟩
  · have y0 : v_212 x0 x1 d = d (x0 + 1) ((452 + (24 * x1)) + 3) := by simp only [v_212, if_neg (show ¬ d (x0 + 1) ((452 + (24 * x1)) + 3) = (-1) from c0)]
    rw [y0] at h
    exact h (show 0 ≤ (d (x0 + 1) ((452 + (24 * x1)) + 3)) ∧ (d (x0 + 1) ((452 + (24 * x1)) + 3)) ≤ 1200 from (by omega))
  · have q2 := mh_0 hS hx0 _ rfl
    refine ⟨by omega, ?_⟩
    have y0 : v_212 x0 x1 d = d (x0 + 1) 0 := by simp only [v_212, if_pos (show d (x0 + 1) ((452 + (24 * x1)) + 3) = (-1) from c0)]
    rw [y0] at h
    exact h (show 0 ≤ (d (x0 + 1) 0) ∧ (d (x0 + 1) 0) ≤ 1200 from (by omega))
def v_213 (x0 x1 : Int) (d : mD) : Int := if ((v_212 x0 x1 d) - (d (x0 + 1) ((452 + (24 * x1)) + 2))) - (d (x0 + 1) 2) < 0 then 0 else ((v_212 x0 x1 d) - (d (x0 + 1) ((452 + (24 * x1)) + 2))) - (d (x0 + 1) 2)
theorem k_213 {E : mO × tW} {K : tK} {d : mD} {x0 x1 : Int} (hS : Safe d) (hx0 : mdB x0) (p1 : 0 ≤ x1 ∧ x1 ≤ 60) (h : (0 ≤ (v_213 x0 x1 d) ∧ (v_213 x0 x1 d) ≤ 1200) → K (.inl (some (0, (v_213 x0 x1 d)))) d) : tCall E 213 [.inr (11, x0), .inl (0, x1)] d K := by
  refine t_213_0 ?_
  refine k_212 hS hx0 (by omega) (fun e1 => ?_)
  refine t_213_5 ?_
  refine k_179 hS ?_
  refine t_213_13 ?_
  have q1 := mt_2 hS hx0 x1 ((452 + (24 * x1)) + 2) (by omega) (by omega)
  have q2 := mh_2 hS hx0 _ rfl
  refine ⟨by omega, by omega, m_inR (by omega) (by omega), fun c0 => ?_, fun c0 => ?_⟩
  · have y0 : v_213 x0 x1 d = ((v_212 x0 x1 d) - (d (x0 + 1) ((452 + (24 * x1)) + 2))) - (d (x0 + 1) 2) := by simp only [v_213, if_neg (show ¬ ((v_212 x0 x1 d) - (d (x0 + 1) ((452 + (24 * x1)) + 2))) - (d (x0 + 1) 2) < 0 from Int.not_lt.mpr c0)]
    rw [y0] at h
    exact h (show 0 ≤ (((v_212 x0 x1 d) - (d (x0 + 1) ((452 + (24 * x1)) + 2))) - (d (x0 + 1) 2)) ∧ (((v_212 x0 x1 d) - (d (x0 + 1) ((452 + (24 * x1)) + 2))) - (d (x0 + 1) 2)) ≤ 1200 from (by omega))
  · have y0 : v_213 x0 x1 d = 0 := by simp only [v_213, if_pos (show ((v_212 x0 x1 d) - (d (x0 + 1) ((452 + (24 * x1)) + 2))) - (d (x0 + 1) 2) < 0 from c0)]
    rw [y0] at h
    exact h (show 0 ≤ ((0 : Int)) ∧ ((0 : Int)) ≤ 1200 from (by omega))
def v_214 (x0 x1 x2 : Int) (d : mD) : Int := if x2 < (d (x0 + 1) ((452 + (24 * x1)) + 2)) + (d (x0 + 1) 2) then 0 else if x2 < v_212 x0 x1 d then 1 else 0
theorem k_214 {E : mO × tW} {K : tK} {d : mD} {x0 x1 x2 : Int} (hS : Safe d) (hx0 : mdB x0) (p1 : 0 ≤ x1 ∧ x1 ≤ 60) (p2 : -2147483648 ≤ x2 ∧ x2 ≤ 2147483647) (h : (0 ≤ (v_214 x0 x1 x2 d) ∧ (v_214 x0 x1 x2 d) ≤ 1) → K (.inl (some (0, (v_214 x0 x1 x2 d)))) d) : tCall E 214 [.inr (11, x0), .inl (0, x1), .inl (0, x2)] d K := by
  refine t_214_0 ?_
  refine k_179 hS ?_
  refine t_214_9 ?_
  have q1 := mt_2 hS hx0 x1 ((452 + (24 * x1)) + 2) (by omega) (by omega)
  have q2 := mh_2 hS hx0 _ rfl
  refine ⟨by omega, by omega, ⟨m_inR (by omega) (by omega), m_inR (by omega) (by omega)⟩, fun c0 => ?_, fun c0 => ?_⟩
  · refine ⟨by omega, ?_⟩
    have y0 : v_214 x0 x1 x2 d = 0 := by simp only [v_214, if_pos (show x2 < (d (x0 + 1) ((452 + (24 * x1)) + 2)) + (d (x0 + 1) 2) from c0)]
    rw [y0] at h
    exact h (show 0 ≤ ((0 : Int)) ∧ ((0 : Int)) ≤ 1 from (by omega))
  · refine k_212 hS hx0 (by omega) (fun e1 => ?_)
    refine t_214_28 ?_
    refine ⟨⟨m_inR (by omega) (by omega), m_inR (by omega) (by omega)⟩, fun c1 => ?_, fun c1 => ?_⟩
    · refine ⟨by omega, ?_⟩
      have y0 : v_214 x0 x1 x2 d = 0 := by simp only [v_214, if_neg (show ¬ x2 < (d (x0 + 1) ((452 + (24 * x1)) + 2)) + (d (x0 + 1) 2) from Int.not_lt.mpr c0), if_neg (show ¬ x2 < v_212 x0 x1 d from Int.not_lt.mpr c1)]
      rw [y0] at h
      exact h (show 0 ≤ ((0 : Int)) ∧ ((0 : Int)) ≤ 1 from (by omega))
    · refine ⟨by omega, ?_⟩
      have y0 : v_214 x0 x1 x2 d = 1 := by simp only [v_214, if_neg (show ¬ x2 < (d (x0 + 1) ((452 + (24 * x1)) + 2)) + (d (x0 + 1) 2) from Int.not_lt.mpr c0), if_pos (show x2 < v_212 x0 x1 d from c1)]
      rw [y0] at h
      exact h (show 0 ≤ ((1 : Int)) ∧ ((1 : Int)) ≤ 1 from (by omega))
def v_215 (x0 x1 : Int) (d : mD) : Int := d (x0 + 1) ((452 + (24 * (d (x0 + 1) ((1916 + (5 * x1)) + 1)))) + 0)
theorem k_215 {E : mO × tW} {K : tK} {d : mD} {x0 x1 : Int} (hS : Safe d) (hx0 : mdB x0) (p1 : 0 ≤ x1 ∧ x1 ≤ 199) (h : (0 ≤ (v_215 x0 x1 d) ∧ (v_215 x0 x1 d) ≤ 15) → K (.inl (some (0, (v_215 x0 x1 d)))) d) : tCall E 215 [.inr (11, x0), .inl (0, x1)] d K := by
  refine t_215_0 ?_
  refine k_180 hS ?_
  refine t_215_12 ?_
  refine ⟨by omega, ?_⟩
  refine k_179 hS ?_
  refine t_215_18 ?_
  have q1 := mk_1 hS hx0 x1 ((1916 + (5 * x1)) + 1) (by omega) (by omega)
  have q2 := mt_0 hS hx0 (d (x0 + 1) ((1916 + (5 * x1)) + 1)) ((452 + (24 * (d (x0 + 1) ((1916 + (5 * x1)) + 1)))) + 0) (by omega) (by omega)
  refine ⟨by omega, ?_⟩
  have y0 : v_215 x0 x1 d = d (x0 + 1) ((452 + (24 * (d (x0 + 1) ((1916 + (5 * x1)) + 1)))) + 0) := by simp only [v_215]
  rw [y0] at h
  exact h (show 0 ≤ (d (x0 + 1) ((452 + (24 * (d (x0 + 1) ((1916 + (5 * x1)) + 1)))) + 0)) ∧ (d (x0 + 1) ((452 + (24 * (d (x0 + 1) ((1916 + (5 * x1)) + 1)))) + 0)) ≤ 15 from (by omega))
def st_216_2 (x0 x1 x2 : Int) (r2 : Int → mD → Int) (x3 : Int) (d : mD) : Int := if x3 < d (x0 + 1) 10 then (if d (x0 + 1) ((1916 + (5 * x3)) + 2) = x2 then (if v_215 x0 x3 d = x1 then 1 else r2 (x3 + 1) d) else r2 (x3 + 1) d) else 0
def lp_216_2 (x0 x1 x2 : Int) : Nat → Int → mD → Int
  | 0 => st_216_2 x0 x1 x2 (fun _ d => 0)
  | n + 1 => st_216_2 x0 x1 x2 (lp_216_2 x0 x1 x2 n)
theorem ls_216_2 {E : mO × tW} {K : tK} {x0 x1 x2 : Int} (hx0 : mdB x0) (p1 : -2147483648 ≤ x1 ∧ x1 ≤ 2147483647) (p2 : -2147483648 ≤ x2 ∧ x2 ≤ 2147483647) (N2 : Int) (r2 : Int → mD → Int) (ih2 : ∀ (x3 : Int) (d : mD), Safe d → (0 ≤ x3 ∧ x3 ≤ 200) → 0 ≤ 200 - x3 → 200 - x3 < N2 → ((0 ≤ (r2 x3 d) ∧ (r2 x3 d) ≤ 1) → K (.inl (some (0, (r2 x3 d)))) d) → tRun E 216 (2, [.inr (11, x0), .inl (0, x1), .inl (0, x2), .inl (0, x3)], [], 0, 0, d) K) (x3 : Int) (d : mD) (hS : Safe d) (i0 : 0 ≤ x3 ∧ x3 ≤ 200) (hm : 200 - x3 ≤ N2) (h : (0 ≤ (st_216_2 x0 x1 x2 r2 x3 d) ∧ (st_216_2 x0 x1 x2 r2 x3 d) ≤ 1) → K (.inl (some (0, (st_216_2 x0 x1 x2 r2 x3 d)))) d) : tRun E 216 (2, [.inr (11, x0), .inl (0, x1), .inl (0, x2), .inl (0, x3)], [], 0, 0, d) K := by
  refine t_216_2 ?_
  have q1 := mh_10 hS hx0 _ rfl
  refine ⟨by omega, ⟨m_inR (by omega) (by omega), m_inR (by omega) (by omega)⟩, fun c0 => ?_, fun c0 => ?_⟩
  · refine ⟨by omega, ?_⟩
    have y0 : st_216_2 x0 x1 x2 r2 x3 d = 0 := by simp only [st_216_2, if_neg (show ¬ x3 < d (x0 + 1) 10 from Int.not_lt.mpr c0)]
    rw [y0] at h
    exact h (show 0 ≤ ((0 : Int)) ∧ ((0 : Int)) ≤ 1 from (by omega))
  · refine k_180 hS ?_
    refine t_216_21 ?_
    have q2 := mk_2 hS hx0 x3 ((1916 + (5 * x3)) + 2) (by omega) (by omega)
    refine ⟨by omega, ⟨m_inR (by omega) (by omega), m_inR (by omega) (by omega)⟩, fun c1 => ?_, fun c1 => ?_⟩
    · refine ih2 (x3 + 1)  d hS (by omega) (by omega) (by omega) ?_
      intro e
      have y0 : st_216_2 x0 x1 x2 r2 x3 d = r2 (x3 + 1) d := by simp only [st_216_2, if_pos (show x3 < d (x0 + 1) 10 from c0), if_neg (show ¬ d (x0 + 1) ((1916 + (5 * x3)) + 2) = x2 from c1)]
      rw [y0] at h
      exact h e
    · refine k_215 hS hx0 (by omega) (fun e1 => ?_)
      refine t_216_33 ?_
      refine ⟨⟨m_inR (by omega) (by omega), m_inR (by omega) (by omega)⟩, fun c2 => ?_, fun c2 => ?_⟩
      · refine ih2 (x3 + 1)  d hS (by omega) (by omega) (by omega) ?_
        intro e
        have y0 : st_216_2 x0 x1 x2 r2 x3 d = r2 (x3 + 1) d := by simp only [st_216_2, if_pos (show x3 < d (x0 + 1) 10 from c0), if_pos (show d (x0 + 1) ((1916 + (5 * x3)) + 2) = x2 from c1), if_neg (show ¬ v_215 x0 x3 d = x1 from c2)]
        rw [y0] at h
        exact h e
      · refine ⟨by omega, ?_⟩
        have y0 : st_216_2 x0 x1 x2 r2 x3 d = 1 := by simp only [st_216_2, if_pos (show x3 < d (x0 + 1) 10 from c0), if_pos (show d (x0 + 1) ((1916 + (5 * x3)) + 2) = x2 from c1), if_pos (show v_215 x0 x3 d = x1 from c2)]
        rw [y0] at h
        exact h (show 0 ≤ ((1 : Int)) ∧ ((1 : Int)) ≤ 1 from (by omega))
theorem l_216_2 {E : mO × tW} {K : tK} {x0 x1 x2 : Int} (hx0 : mdB x0) (p1 : -2147483648 ≤ x1 ∧ x1 ≤ 2147483647) (p2 : -2147483648 ≤ x2 ∧ x2 ≤ 2147483647) : ∀ (n : Nat) (x3 : Int) (d : mD), Safe d → (0 ≤ x3 ∧ x3 ≤ 200) → 200 - x3 ≤ (n : Int) → ((0 ≤ (lp_216_2 x0 x1 x2 n x3 d) ∧ (lp_216_2 x0 x1 x2 n x3 d) ≤ 1) → K (.inl (some (0, (lp_216_2 x0 x1 x2 n x3 d)))) d) → tRun E 216 (2, [.inr (11, x0), .inl (0, x1), .inl (0, x2), .inl (0, x3)], [], 0, 0, d) K := by
  intro n
  induction n with
  | zero =>
    intro x3  d hS i0 hm  h
    exact ls_216_2 hx0 p1 p2 0 _ (fun _  _ _ _ m0 m1 _ => absurd m1 (by omega)) x3  d hS i0 hm  h
  | succ n ih =>
    intro x3  d hS i0 hm  h
    exact ls_216_2 hx0 p1 p2 ((n + 1 : Nat) : Int) _ (fun x3  d hS i0  m0 m1 h => ih x3  d hS i0 (by omega)  h) x3  d hS i0 hm  h
def v_216 (x0 x1 x2 : Int) (d : mD) : Int := lp_216_2 x0 x1 x2 (200 - 0 : Int).toNat 0 d
theorem k_216 {E : mO × tW} {K : tK} {d : mD} {x0 x1 x2 : Int} (hS : Safe d) (hx0 : mdB x0) (p1 : -2147483648 ≤ x1 ∧ x1 ≤ 2147483647) (p2 : -2147483648 ≤ x2 ∧ x2 ≤ 2147483647) (h : (0 ≤ (v_216 x0 x1 x2 d) ∧ (v_216 x0 x1 x2 d) ≤ 1) → K (.inl (some (0, (v_216 x0 x1 x2 d)))) d) : tCall E 216 [.inr (11, x0), .inl (0, x1), .inl (0, x2)] d K := by
  refine t_216_0 ?_
  refine l_216_2 hx0 p1 p2 (200 - 0 : Int).toNat 0  d hS (by omega) (by omega) ?_
  intro e
  have y0 : v_216 x0 x1 x2 d = lp_216_2 x0 x1 x2 (200 - 0 : Int).toNat 0 d := by simp only [v_216]
  rw [y0] at h
  exact h e
def st_217_4 (x0 x1 : Int) (r4 : Int → Int → mD → Int) (x2 x3 : Int) (d : mD) : Int := if x3 < d (x0 + 1) 10 then (if v_215 x0 x3 d = x1 then (if (d (x0 + 1) ((1916 + (5 * x3)) + 4)) / 20 = (d (x0 + 1) 0) / 20 then r4 (x2 + 1) (x3 + 1) d else r4 (x2 + 0) (x3 + 1) d) else r4 (x2 + 0) (x3 + 1) d) else x2
def lp_217_4 (x0 x1 : Int) : Nat → Int → Int → mD → Int
  | 0 => st_217_4 x0 x1 (fun _ _ d => 0)
  | n + 1 => st_217_4 x0 x1 (lp_217_4 x0 x1 n)
theorem ls_217_4 {E : mO × tW} {K : tK} {x0 x1 : Int} (hx0 : mdB x0) (p1 : -2147483648 ≤ x1 ∧ x1 ≤ 2147483647) (N4 : Int) (r4 : Int → Int → mD → Int) (ih4 : ∀ (x2 x3 : Int) (d : mD), Safe d → (0 ≤ x3 ∧ x3 ≤ 200) → (0 ≤ x2 ∧ x2 ≤ x3) → 0 ≤ 200 - x3 → 200 - x3 < N4 → ((0 ≤ (r4 x2 x3 d) ∧ (r4 x2 x3 d) ≤ 200) → K (.inl (some (0, (r4 x2 x3 d)))) d) → tRun E 217 (4, [.inr (11, x0), .inl (0, x1), .inl (0, x2), .inl (0, x3)], [], 0, 0, d) K) (x2 x3 : Int) (d : mD) (hS : Safe d) (i0 : 0 ≤ x3 ∧ x3 ≤ 200) (i1 : 0 ≤ x2 ∧ x2 ≤ x3) (hm : 200 - x3 ≤ N4) (h : (0 ≤ (st_217_4 x0 x1 r4 x2 x3 d) ∧ (st_217_4 x0 x1 r4 x2 x3 d) ≤ 200) → K (.inl (some (0, (st_217_4 x0 x1 r4 x2 x3 d)))) d) : tRun E 217 (4, [.inr (11, x0), .inl (0, x1), .inl (0, x2), .inl (0, x3)], [], 0, 0, d) K := by
  refine t_217_4 ?_
  have q1 := mh_10 hS hx0 _ rfl
  refine ⟨by omega, ⟨m_inR (by omega) (by omega), m_inR (by omega) (by omega)⟩, fun c0 => ?_, fun c0 => ?_⟩
  · have y0 : st_217_4 x0 x1 r4 x2 x3 d = x2 := by simp only [st_217_4, if_neg (show ¬ x3 < d (x0 + 1) 10 from Int.not_lt.mpr c0)]
    rw [y0] at h
    exact h (show 0 ≤ x2 ∧ x2 ≤ 200 from (by omega))
  · refine k_215 hS hx0 (by omega) (fun e1 => ?_)
    refine t_217_21 ?_
    refine ⟨⟨m_inR (by omega) (by omega), m_inR (by omega) (by omega)⟩, fun c1 => ?_, fun c1 => ?_⟩
    · refine ih4 (x2 + 0) (x3 + 1)  d hS (by omega) (by omega) (by omega) (by omega) ?_
      intro e
      have y0 : st_217_4 x0 x1 r4 x2 x3 d = r4 (x2 + 0) (x3 + 1) d := by simp only [st_217_4, if_pos (show x3 < d (x0 + 1) 10 from c0), if_neg (show ¬ v_215 x0 x3 d = x1 from c1)]
      rw [y0] at h
      exact h e
    · refine k_180 hS ?_
      refine t_217_33 ?_
      have q2 := mk_4 hS hx0 x3 ((1916 + (5 * x3)) + 4) (by omega) (by omega)
      have q3 := mh_0 hS hx0 _ rfl
      refine ⟨by omega, by omega, by omega, by omega, ⟨m_inR (by omega) (by omega), m_inR (by omega) (by omega)⟩, fun c2 => ?_, fun c2 => ?_⟩
      · refine ih4 (x2 + 0) (x3 + 1)  d hS (by omega) (by omega) (by omega) (by omega) ?_
        intro e
        have y0 : st_217_4 x0 x1 r4 x2 x3 d = r4 (x2 + 0) (x3 + 1) d := by simp only [st_217_4, if_pos (show x3 < d (x0 + 1) 10 from c0), if_pos (show v_215 x0 x3 d = x1 from c1), if_neg (show ¬ (d (x0 + 1) ((1916 + (5 * x3)) + 4)) / 20 = (d (x0 + 1) 0) / 20 from c2)]
        rw [y0] at h
        exact h e
      · refine ih4 (x2 + 1) (x3 + 1)  d hS (by omega) (by omega) (by omega) (by omega) ?_
        intro e
        have y0 : st_217_4 x0 x1 r4 x2 x3 d = r4 (x2 + 1) (x3 + 1) d := by simp only [st_217_4, if_pos (show x3 < d (x0 + 1) 10 from c0), if_pos (show v_215 x0 x3 d = x1 from c1), if_pos (show (d (x0 + 1) ((1916 + (5 * x3)) + 4)) / 20 = (d (x0 + 1) 0) / 20 from c2)]
        rw [y0] at h
        exact h e
theorem l_217_4 {E : mO × tW} {K : tK} {x0 x1 : Int} (hx0 : mdB x0) (p1 : -2147483648 ≤ x1 ∧ x1 ≤ 2147483647) : ∀ (n : Nat) (x2 x3 : Int) (d : mD), Safe d → (0 ≤ x3 ∧ x3 ≤ 200) → (0 ≤ x2 ∧ x2 ≤ x3) → 200 - x3 ≤ (n : Int) → ((0 ≤ (lp_217_4 x0 x1 n x2 x3 d) ∧ (lp_217_4 x0 x1 n x2 x3 d) ≤ 200) → K (.inl (some (0, (lp_217_4 x0 x1 n x2 x3 d)))) d) → tRun E 217 (4, [.inr (11, x0), .inl (0, x1), .inl (0, x2), .inl (0, x3)], [], 0, 0, d) K := by
  intro n
  induction n with
  | zero =>
    intro x2 x3  d hS i0 i1 hm  h
    exact ls_217_4 hx0 p1 0 _ (fun _ _  _ _ _ _ m0 m1 _ => absurd m1 (by omega)) x2 x3  d hS i0 i1 hm  h
  | succ n ih =>
    intro x2 x3  d hS i0 i1 hm  h
    exact ls_217_4 hx0 p1 ((n + 1 : Nat) : Int) _ (fun x2 x3  d hS i0 i1  m0 m1 h => ih x2 x3  d hS i0 i1 (by omega)  h) x2 x3  d hS i0 i1 hm  h
def v_217 (x0 x1 : Int) (d : mD) : Int := lp_217_4 x0 x1 (200 - 0 : Int).toNat 0 0 d
theorem k_217 {E : mO × tW} {K : tK} {d : mD} {x0 x1 : Int} (hS : Safe d) (hx0 : mdB x0) (p1 : -2147483648 ≤ x1 ∧ x1 ≤ 2147483647) (h : (0 ≤ (v_217 x0 x1 d) ∧ (v_217 x0 x1 d) ≤ 200) → K (.inl (some (0, (v_217 x0 x1 d)))) d) : tCall E 217 [.inr (11, x0), .inl (0, x1)] d K := by
  refine t_217_0 ?_
  refine l_217_4 hx0 p1 (200 - 0 : Int).toNat 0 0  d hS (by omega) (by omega) (by omega) ?_
  intro e
  have y0 : v_217 x0 x1 d = lp_217_4 x0 x1 (200 - 0 : Int).toNat 0 0 d := by simp only [v_217]
  rw [y0] at h
  exact h e
def st_218_41 (x0 x1 : Int) (r41 : Int → Int → Int → Int → mD → Int × mD) (x2 x3 x4 x5 : Int) (d : mD) : Int × mD := if x5 < d (x0 + 1) ((452 + (24 * x1)) + 3) then (if x3 < d (x0 + 1) 5 then (if d (x0 + 1) 10 < 200 then (if v_216 x0 x2 x5 d = 0 then r41 x2 (x3 + 1) (x4 + 1) (x5 + 1) (mset (mset (mset (mset (mset (mset d (x0 + 1) ((1916 + (5 * (d (x0 + 1) 10))) + 0) x2) (x0 + 1) ((1916 + (5 * (d (x0 + 1) 10))) + 1) x1) (x0 + 1) ((1916 + (5 * (d (x0 + 1) 10))) + 2) x5) (x0 + 1) ((1916 + (5 * (d (x0 + 1) 10))) + 3) 0) (x0 + 1) ((1916 + (5 * (d (x0 + 1) 10))) + 4) (d (x0 + 1) 0)) (x0 + 1) 10 ((d (x0 + 1) 10) + 1)) else r41 x2 x3 x4 (x5 + 1) d) else r41 x2 x3 x4 (x5 + 1) d) else r41 x2 x3 x4 (x5 + 1) d) else (x4, d)
def lp_218_41 (x0 x1 : Int) : Nat → Int → Int → Int → Int → mD → Int × mD
  | 0 => st_218_41 x0 x1 (fun _ _ _ _ d => (0, d))
  | n + 1 => st_218_41 x0 x1 (lp_218_41 x0 x1 n)
theorem ls_218_41 {E : mO × tW} {K : tK} {x0 x1 : Int} (hx0 : mdB x0) (p1 : 0 ≤ x1 ∧ x1 ≤ 60) (N41 : Int) (r41 : Int → Int → Int → Int → mD → Int × mD) (ih41 : ∀ (x2 x3 x4 x5 : Int) (v6 : tV) (d : mD), Safe d → (0 ≤ x2 ∧ x2 ≤ 15) → (0 ≤ x3 ∧ x3 ≤ 2000 + x5) → (0 ≤ x4 ∧ x4 ≤ x5) → (0 ≤ x5 ∧ x5 ≤ 1301) → 0 ≤ 1301 - x5 → 1301 - x5 < N41 → ((0 ≤ (r41 x2 x3 x4 x5 d).1 ∧ (r41 x2 x3 x4 x5 d).1 ≤ 1400) → (∀ b : Int, (b < x0 + 1 ∨ x0 + 1 < b) → (r41 x2 x3 x4 x5 d).2 b = d b) → (∀ i : Int, (0 ≤ i ∧ i ≤ 9) ∨ (11 ≤ i ∧ i < 1916) → (r41 x2 x3 x4 x5 d).2 (x0 + 1) i = d (x0 + 1) i) → Safe (r41 x2 x3 x4 x5 d).2 → K (.inl (some (0, (r41 x2 x3 x4 x5 d).1))) (r41 x2 x3 x4 x5 d).2) → tRun E 218 (41, [.inr (11, x0), .inl (0, x1), .inl (0, x2), .inl (0, x3), .inl (0, x4), .inl (0, x5), v6], [], 0, 0, d) K) (x2 x3 x4 x5 : Int) (v6 : tV) (d : mD) (hS : Safe d) (i0 : 0 ≤ x2 ∧ x2 ≤ 15) (i1 : 0 ≤ x3 ∧ x3 ≤ 2000 + x5) (i2 : 0 ≤ x4 ∧ x4 ≤ x5) (i3 : 0 ≤ x5 ∧ x5 ≤ 1301) (hm : 1301 - x5 ≤ N41) (h : (0 ≤ (st_218_41 x0 x1 r41 x2 x3 x4 x5 d).1 ∧ (st_218_41 x0 x1 r41 x2 x3 x4 x5 d).1 ≤ 1400) → (∀ b : Int, (b < x0 + 1 ∨ x0 + 1 < b) → (st_218_41 x0 x1 r41 x2 x3 x4 x5 d).2 b = d b) → (∀ i : Int, (0 ≤ i ∧ i ≤ 9) ∨ (11 ≤ i ∧ i < 1916) → (st_218_41 x0 x1 r41 x2 x3 x4 x5 d).2 (x0 + 1) i = d (x0 + 1) i) → Safe (st_218_41 x0 x1 r41 x2 x3 x4 x5 d).2 → K (.inl (some (0, (st_218_41 x0 x1 r41 x2 x3 x4 x5 d).1))) (st_218_41 x0 x1 r41 x2 x3 x4 x5 d).2) : tRun E 218 (41, [.inr (11, x0), .inl (0, x1), .inl (0, x2), .inl (0, x3), .inl (0, x4), .inl (0, x5), v6], [], 0, 0, d) K := by
  refine t_218_41 ?_
  refine k_179 hS ?_
  refine t_218_51 ?_
  have q1 := mt_3 hS hx0 x1 ((452 + (24 * x1)) + 3) (by omega) (by omega)
  refine ⟨by omega, ⟨m_inR (by omega) (by omega), m_inR (by omega) (by omega)⟩, fun c0 => ?_, fun c0 => ?_⟩
  · have y0 : st_218_41 x0 x1 r41 x2 x3 x4 x5 d = (x4, d) := by simp only [st_218_41, if_neg (show ¬ x5 < d (x0 + 1) ((452 + (24 * x1)) + 3) from Int.not_lt.mpr c0)]
    rw [y0] at h
    exact h (show 0 ≤ x4 ∧ x4 ≤ 1400 from (by omega)) (show ∀ b : Int, (b < x0 + 1 ∨ x0 + 1 < b) → d b = d b from fun _ _ => rfl) (show ∀ i : Int, (0 ≤ i ∧ i ≤ 9) ∨ (11 ≤ i ∧ i < 1916) → d (x0 + 1) i = d (x0 + 1) i from fun _ _ => rfl) hS
  · have q2 := mh_5 hS hx0 _ rfl
    refine ⟨by omega, ⟨m_inR (by omega) (by omega), m_inR (by omega) (by omega)⟩, fun c1 => ?_, fun c1 => ?_⟩
    · refine ih41 x2 x3 x4 (x5 + 1) v6 d hS (by omega) (by omega) (by omega) (by omega) (by omega) (by omega) ?_
      intro e F Q hS_
      have y0 : st_218_41 x0 x1 r41 x2 x3 x4 x5 d = r41 x2 x3 x4 (x5 + 1) d := by simp only [st_218_41, if_pos (show x5 < d (x0 + 1) ((452 + (24 * x1)) + 3) from c0), if_neg (show ¬ x3 < d (x0 + 1) 5 from Int.not_lt.mpr c1)]
      rw [y0] at h
      exact h e F Q hS_
    · have q3 := mh_10 hS hx0 _ rfl
      refine ⟨by omega, ⟨m_inR (by omega) (by omega), m_inR (by omega) (by omega)⟩, fun c2 => ?_, fun c2 => ?_⟩
      · refine ih41 x2 x3 x4 (x5 + 1) v6 d hS (by omega) (by omega) (by omega) (by omega) (by omega) (by omega) ?_
        intro e F Q hS_
        have y0 : st_218_41 x0 x1 r41 x2 x3 x4 x5 d = r41 x2 x3 x4 (x5 + 1) d := by simp only [st_218_41, if_pos (show x5 < d (x0 + 1) ((452 + (24 * x1)) + 3) from c0), if_pos (show x3 < d (x0 + 1) 5 from c1), if_neg (show ¬ d (x0 + 1) 10 < 200 from Int.not_lt.mpr c2)]
        rw [y0] at h
        exact h e F Q hS_
      · refine k_216 hS hx0 (m_inR (by omega) (by omega)) (m_inR (by omega) (by omega)) (fun e1 => ?_)
        refine t_218_87 ?_
        refine ⟨m_inR (by omega) (by omega), fun c3 => ?_, fun c3 => ?_⟩
        · refine ih41 x2 x3 x4 (x5 + 1) v6 d hS (by omega) (by omega) (by omega) (by omega) (by omega) (by omega) ?_
          intro e F Q hS_
          have y0 : st_218_41 x0 x1 r41 x2 x3 x4 x5 d = r41 x2 x3 x4 (x5 + 1) d := by simp only [st_218_41, if_pos (show x5 < d (x0 + 1) ((452 + (24 * x1)) + 3) from c0), if_pos (show x3 < d (x0 + 1) 5 from c1), if_pos (show d (x0 + 1) 10 < 200 from c2), if_neg (show ¬ v_216 x0 x2 x5 d = 0 from c3)]
          rw [y0] at h
          exact h e F Q hS_
        · refine ⟨by omega, ?_⟩
          refine k_180 hS ?_
          refine t_218_100 ?_
          refine ⟨by omega, ?_⟩
          have hS1 : Safe (mset d (x0 + 1) ((1916 + (5 * (d (x0 + 1) 10))) + 0) x2) := smk_0 hS hx0 (d (x0 + 1) 10) ((1916 + (5 * (d (x0 + 1) 10))) + 0) (by omega) (by omega) (by omega)
          refine ⟨by omega, ?_⟩
          have hS2 : Safe (mset (mset d (x0 + 1) ((1916 + (5 * (d (x0 + 1) 10))) + 0) x2) (x0 + 1) ((1916 + (5 * (d (x0 + 1) 10))) + 1) x1) := smk_1 hS1 hx0 (d (x0 + 1) 10) ((1916 + (5 * (d (x0 + 1) 10))) + 1) (by omega) (by omega) (by omega)
          refine ⟨by omega, ?_⟩
          have hS3 : Safe (mset (mset (mset d (x0 + 1) ((1916 + (5 * (d (x0 + 1) 10))) + 0) x2) (x0 + 1) ((1916 + (5 * (d (x0 + 1) 10))) + 1) x1) (x0 + 1) ((1916 + (5 * (d (x0 + 1) 10))) + 2) x5) := smk_2 hS2 hx0 (d (x0 + 1) 10) ((1916 + (5 * (d (x0 + 1) 10))) + 2) (by omega) (by omega) (by omega)
          refine ⟨by omega, ?_⟩
          have hS4 : Safe (mset (mset (mset (mset d (x0 + 1) ((1916 + (5 * (d (x0 + 1) 10))) + 0) x2) (x0 + 1) ((1916 + (5 * (d (x0 + 1) 10))) + 1) x1) (x0 + 1) ((1916 + (5 * (d (x0 + 1) 10))) + 2) x5) (x0 + 1) ((1916 + (5 * (d (x0 + 1) 10))) + 3) 0) := smz hS3 hx0 ((1916 + (5 * (d (x0 + 1) 10))) + 3)
          rw [mset_ni (d := mset (mset (mset d (x0 + 1) ((1916 + (5 * (d (x0 + 1) 10))) + 0) x2) (x0 + 1) ((1916 + (5 * (d (x0 + 1) 10))) + 1) x1) (x0 + 1) ((1916 + (5 * (d (x0 + 1) 10))) + 2) x5) (a := x0 + 1) (i := (1916 + (5 * (d (x0 + 1) 10))) + 3) (v := (0 : Int)) (b := x0 + 1) (j := (0 : Int)) (by omega)]
          rw [mset_ni (d := mset (mset d (x0 + 1) ((1916 + (5 * (d (x0 + 1) 10))) + 0) x2) (x0 + 1) ((1916 + (5 * (d (x0 + 1) 10))) + 1) x1) (a := x0 + 1) (i := (1916 + (5 * (d (x0 + 1) 10))) + 2) (v := x5) (b := x0 + 1) (j := (0 : Int)) (by omega)]
          rw [mset_ni (d := mset d (x0 + 1) ((1916 + (5 * (d (x0 + 1) 10))) + 0) x2) (a := x0 + 1) (i := (1916 + (5 * (d (x0 + 1) 10))) + 1) (v := x1) (b := x0 + 1) (j := (0 : Int)) (by omega)]
          rw [mset_ni (d := d) (a := x0 + 1) (i := (1916 + (5 * (d (x0 + 1) 10))) + 0) (v := x2) (b := x0 + 1) (j := (0 : Int)) (by omega)]
          have q4 := mh_0 hS hx0 _ rfl
          refine ⟨by omega, by omega, ?_⟩
          have hS5 : Safe (mset (mset (mset (mset (mset d (x0 + 1) ((1916 + (5 * (d (x0 + 1) 10))) + 0) x2) (x0 + 1) ((1916 + (5 * (d (x0 + 1) 10))) + 1) x1) (x0 + 1) ((1916 + (5 * (d (x0 + 1) 10))) + 2) x5) (x0 + 1) ((1916 + (5 * (d (x0 + 1) 10))) + 3) 0) (x0 + 1) ((1916 + (5 * (d (x0 + 1) 10))) + 4) (d (x0 + 1) 0)) := smk_4 hS4 hx0 (d (x0 + 1) 10) ((1916 + (5 * (d (x0 + 1) 10))) + 4) (by omega) (by omega) (by omega)
          rw [mset_ni (d := mset (mset (mset (mset d (x0 + 1) ((1916 + (5 * (d (x0 + 1) 10))) + 0) x2) (x0 + 1) ((1916 + (5 * (d (x0 + 1) 10))) + 1) x1) (x0 + 1) ((1916 + (5 * (d (x0 + 1) 10))) + 2) x5) (x0 + 1) ((1916 + (5 * (d (x0 + 1) 10))) + 3) 0) (a := x0 + 1) (i := (1916 + (5 * (d (x0 + 1) 10))) + 4) (v := d (x0 + 1) 0) (b := x0 + 1) (j := (10 : Int)) (by omega)]
          rw [mset_ni (d := mset (mset (mset d (x0 + 1) ((1916 + (5 * (d (x0 + 1) 10))) + 0) x2) (x0 + 1) ((1916 + (5 * (d (x0 + 1) 10))) + 1) x1) (x0 + 1) ((1916 + (5 * (d (x0 + 1) 10))) + 2) x5) (a := x0 + 1) (i := (1916 + (5 * (d (x0 + 1) 10))) + 3) (v := (0 : Int)) (b := x0 + 1) (j := (10 : Int)) (by omega)]
          rw [mset_ni (d := mset (mset d (x0 + 1) ((1916 + (5 * (d (x0 + 1) 10))) + 0) x2) (x0 + 1) ((1916 + (5 * (d (x0 + 1) 10))) + 1) x1) (a := x0 + 1) (i := (1916 + (5 * (d (x0 + 1) 10))) + 2) (v := x5) (b := x0 + 1) (j := (10 : Int)) (by omega)]
          rw [mset_ni (d := mset d (x0 + 1) ((1916 + (5 * (d (x0 + 1) 10))) + 0) x2) (a := x0 + 1) (i := (1916 + (5 * (d (x0 + 1) 10))) + 1) (v := x1) (b := x0 + 1) (j := (10 : Int)) (by omega)]
          rw [mset_ni (d := d) (a := x0 + 1) (i := (1916 + (5 * (d (x0 + 1) 10))) + 0) (v := x2) (b := x0 + 1) (j := (10 : Int)) (by omega)]
          refine ⟨by omega, by omega, ?_⟩
          have hS6 : Safe (mset (mset (mset (mset (mset (mset d (x0 + 1) ((1916 + (5 * (d (x0 + 1) 10))) + 0) x2) (x0 + 1) ((1916 + (5 * (d (x0 + 1) 10))) + 1) x1) (x0 + 1) ((1916 + (5 * (d (x0 + 1) 10))) + 2) x5) (x0 + 1) ((1916 + (5 * (d (x0 + 1) 10))) + 3) 0) (x0 + 1) ((1916 + (5 * (d (x0 + 1) 10))) + 4) (d (x0 + 1) 0)) (x0 + 1) 10 ((d (x0 + 1) 10) + 1)) := smh_10 hS5 hx0 _ rfl (by omega)
          refine ih41 x2 (x3 + 1) (x4 + 1) (x5 + 1) (.inl (0, 1916 + (5 * (d (x0 + 1) 10)))) (mset (mset (mset (mset (mset (mset d (x0 + 1) ((1916 + (5 * (d (x0 + 1) 10))) + 0) x2) (x0 + 1) ((1916 + (5 * (d (x0 + 1) 10))) + 1) x1) (x0 + 1) ((1916 + (5 * (d (x0 + 1) 10))) + 2) x5) (x0 + 1) ((1916 + (5 * (d (x0 + 1) 10))) + 3) 0) (x0 + 1) ((1916 + (5 * (d (x0 + 1) 10))) + 4) (d (x0 + 1) 0)) (x0 + 1) 10 ((d (x0 + 1) 10) + 1)) hS6 (by omega) (by omega) (by omega) (by omega) (by omega) (by omega) ?_
          intro e F Q hS_
          have y0 : st_218_41 x0 x1 r41 x2 x3 x4 x5 d = r41 x2 (x3 + 1) (x4 + 1) (x5 + 1) (mset (mset (mset (mset (mset (mset d (x0 + 1) ((1916 + (5 * (d (x0 + 1) 10))) + 0) x2) (x0 + 1) ((1916 + (5 * (d (x0 + 1) 10))) + 1) x1) (x0 + 1) ((1916 + (5 * (d (x0 + 1) 10))) + 2) x5) (x0 + 1) ((1916 + (5 * (d (x0 + 1) 10))) + 3) 0) (x0 + 1) ((1916 + (5 * (d (x0 + 1) 10))) + 4) (d (x0 + 1) 0)) (x0 + 1) 10 ((d (x0 + 1) 10) + 1)) := by simp only [st_218_41, if_pos (show x5 < d (x0 + 1) ((452 + (24 * x1)) + 3) from c0), if_pos (show x3 < d (x0 + 1) 5 from c1), if_pos (show d (x0 + 1) 10 < 200 from c2), if_pos (show v_216 x0 x2 x5 d = 0 from c3)]
          rw [y0] at h
          exact h e (fun b hb => (F b hb).trans ((show ∀ b : Int, (b < x0 + 1 ∨ x0 + 1 < b) → (mset (mset (mset (mset (mset (mset d (x0 + 1) ((1916 + (5 * (d (x0 + 1) 10))) + 0) x2) (x0 + 1) ((1916 + (5 * (d (x0 + 1) 10))) + 1) x1) (x0 + 1) ((1916 + (5 * (d (x0 + 1) 10))) + 2) x5) (x0 + 1) ((1916 + (5 * (d (x0 + 1) 10))) + 3) 0) (x0 + 1) ((1916 + (5 * (d (x0 + 1) 10))) + 4) (d (x0 + 1) 0)) (x0 + 1) 10 ((d (x0 + 1) 10) + 1)) b = d b from fun b hb => (mset_ne (by omega)).trans ((mset_ne (by omega)).trans ((mset_ne (by omega)).trans ((mset_ne (by omega)).trans ((mset_ne (by omega)).trans (mset_ne (by omega))))))) b hb)) (fun i hi => (Q i hi).trans ((show ∀ i : Int, (0 ≤ i ∧ i ≤ 9) ∨ (11 ≤ i ∧ i < 1916) → (mset (mset (mset (mset (mset (mset d (x0 + 1) ((1916 + (5 * (d (x0 + 1) 10))) + 0) x2) (x0 + 1) ((1916 + (5 * (d (x0 + 1) 10))) + 1) x1) (x0 + 1) ((1916 + (5 * (d (x0 + 1) 10))) + 2) x5) (x0 + 1) ((1916 + (5 * (d (x0 + 1) 10))) + 3) 0) (x0 + 1) ((1916 + (5 * (d (x0 + 1) 10))) + 4) (d (x0 + 1) 0)) (x0 + 1) 10 ((d (x0 + 1) 10) + 1)) (x0 + 1) i = d (x0 + 1) i from fun i hi => (((((mset_ni (by omega)).trans (mset_ni (by omega))).trans (mset_ni (by omega))).trans (mset_ni (by omega))).trans (mset_ni (by omega))).trans (mset_ni (by omega))) i hi)) hS_
theorem l_218_41 {E : mO × tW} {K : tK} {x0 x1 : Int} (hx0 : mdB x0) (p1 : 0 ≤ x1 ∧ x1 ≤ 60) : ∀ (n : Nat) (x2 x3 x4 x5 : Int) (v6 : tV) (d : mD), Safe d → (0 ≤ x2 ∧ x2 ≤ 15) → (0 ≤ x3 ∧ x3 ≤ 2000 + x5) → (0 ≤ x4 ∧ x4 ≤ x5) → (0 ≤ x5 ∧ x5 ≤ 1301) → 1301 - x5 ≤ (n : Int) → ((0 ≤ (lp_218_41 x0 x1 n x2 x3 x4 x5 d).1 ∧ (lp_218_41 x0 x1 n x2 x3 x4 x5 d).1 ≤ 1400) → (∀ b : Int, (b < x0 + 1 ∨ x0 + 1 < b) → (lp_218_41 x0 x1 n x2 x3 x4 x5 d).2 b = d b) → (∀ i : Int, (0 ≤ i ∧ i ≤ 9) ∨ (11 ≤ i ∧ i < 1916) → (lp_218_41 x0 x1 n x2 x3 x4 x5 d).2 (x0 + 1) i = d (x0 + 1) i) → Safe (lp_218_41 x0 x1 n x2 x3 x4 x5 d).2 → K (.inl (some (0, (lp_218_41 x0 x1 n x2 x3 x4 x5 d).1))) (lp_218_41 x0 x1 n x2 x3 x4 x5 d).2) → tRun E 218 (41, [.inr (11, x0), .inl (0, x1), .inl (0, x2), .inl (0, x3), .inl (0, x4), .inl (0, x5), v6], [], 0, 0, d) K := by
  intro n
  induction n with
  | zero =>
    intro x2 x3 x4 x5 v6 d hS i0 i1 i2 i3 hm  h
    exact ls_218_41 hx0 p1 0 _ (fun _ _ _ _ _ _ _ _ _ _ _ m0 m1 _ => absurd m1 (by omega)) x2 x3 x4 x5 v6 d hS i0 i1 i2 i3 hm  h
  | succ n ih =>
    intro x2 x3 x4 x5 v6 d hS i0 i1 i2 i3 hm  h
    exact ls_218_41 hx0 p1 ((n + 1 : Nat) : Int) _ (fun x2 x3 x4 x5 v6 d hS i0 i1 i2 i3  m0 m1 h => ih x2 x3 x4 x5 v6 d hS i0 i1 i2 i3 (by omega)  h) x2 x3 x4 x5 v6 d hS i0 i1 i2 i3 hm  h
def f_218 (x0 x1 : Int) (d : mD) : Int × mD := lp_218_41 x0 x1 (1301 - ((d (x0 + 1) ((452 + (24 * x1)) + 2)) + (d (x0 + 1) 2)) : Int).toNat (d (x0 + 1) ((452 + (24 * x1)) + 0)) (v_217 x0 (d (x0 + 1) ((452 + (24 * x1)) + 0)) d) 0 ((d (x0 + 1) ((452 + (24 * x1)) + 2)) + (d (x0 + 1) 2)) d
def v_218 (x0 x1 : Int) (d : mD) : Int := (f_218 x0 x1 d).1
def g_218 (x0 x1 : Int) (d : mD) : mD := (f_218 x0 x1 d).2
theorem k_218 {E : mO × tW} {K : tK} {d : mD} {x0 x1 : Int} (hS : Safe d) (hx0 : mdB x0) (p1 : 0 ≤ x1 ∧ x1 ≤ 60) (h : (0 ≤ (v_218 x0 x1 d) ∧ (v_218 x0 x1 d) ≤ 1400) → (∀ b : Int, (b < x0 + 1 ∨ x0 + 1 < b) → (g_218 x0 x1 d) b = d b) → (∀ i : Int, (0 ≤ i ∧ i ≤ 9) ∨ (11 ≤ i ∧ i < 1916) → (g_218 x0 x1 d) (x0 + 1) i = d (x0 + 1) i) → Safe (g_218 x0 x1 d) → K (.inl (some (0, (v_218 x0 x1 d)))) (g_218 x0 x1 d)) : tCall E 218 [.inr (11, x0), .inl (0, x1)] d K := by
  simp only [v_218, g_218] at h
  refine t_218_0 ?_
  refine k_179 hS ?_
  refine t_218_8 ?_
  refine ⟨by omega, ?_⟩
  have q5 := mt_0 hS hx0 x1 ((452 + (24 * x1)) + 0) (by omega) (by omega)
  refine k_217 hS hx0 (m_inR (by omega) (by omega)) (fun e2 => ?_)
  refine t_218_17 ?_
  refine k_179 hS ?_
  refine t_218_29 ?_
  refine ⟨by omega, by omega, ?_⟩
  have q6 := mt_2 hS hx0 x1 ((452 + (24 * x1)) + 2) (by omega) (by omega)
  have q7 := mh_2 hS hx0 _ rfl
  refine l_218_41 hx0 p1 (1301 - ((d (x0 + 1) ((452 + (24 * x1)) + 2)) + (d (x0 + 1) 2)) : Int).toNat (d (x0 + 1) ((452 + (24 * x1)) + 0)) (v_217 x0 (d (x0 + 1) ((452 + (24 * x1)) + 0)) d) 0 ((d (x0 + 1) ((452 + (24 * x1)) + 2)) + (d (x0 + 1) 2)) tu d hS (by omega) (by omega) (by omega) (by omega) (by omega) ?_
  intro e F Q hS_
  have y0 : f_218 x0 x1 d = lp_218_41 x0 x1 (1301 - ((d (x0 + 1) ((452 + (24 * x1)) + 2)) + (d (x0 + 1) 2)) : Int).toNat (d (x0 + 1) ((452 + (24 * x1)) + 0)) (v_217 x0 (d (x0 + 1) ((452 + (24 * x1)) + 0)) d) 0 ((d (x0 + 1) ((452 + (24 * x1)) + 2)) + (d (x0 + 1) 2)) d := by simp only [f_218]
  rw [y0] at h
  exact h e F Q hS_
def st_219_106 (x0 : Int) (r2 : Int → mD → Int × mD) (r106 : Int → Int → Int → mD → Int × mD) (x1 x2 x3 : Int) (d : mD) : Int × mD := if x3 < d (x0 + 1) 11 then r106 x1 x2 (x3 + 1) (mset d (x0 + 1) (2916 + x3) (d (x0 + 1) ((2916 + x3) + 1))) else r2 (x1 + 1) d
def lp_219_106 (x0 : Int) (r2 : Int → mD → Int × mD) : Nat → Int → Int → Int → mD → Int × mD
  | 0 => st_219_106 x0 r2 (fun _ _ _ d => (0, d))
  | n + 1 => st_219_106 x0 r2 (lp_219_106 x0 r2 n)
theorem ls_219_106 {E : mO × tW} {K : tK} {x0 : Int} (hx0 : mdB x0) (N2 : Int) (r2 : Int → mD → Int × mD) (ih2 : ∀ (x1 : Int) (v2 v3 : tV) (d : mD), Safe d → (0 ≤ x1 ∧ x1 + d (x0 + 1) 11 ≤ 200) → 0 ≤ d (x0 + 1) 11 → d (x0 + 1) 11 < N2 → ((0 ≤ (r2 x1 d).1 ∧ (r2 x1 d).1 ≤ 200) → (∀ b : Int, (b < x0 + 1 ∨ x0 + 1 < b) → (r2 x1 d).2 b = d b) → (∀ i : Int, (0 ≤ i ∧ i ≤ 8 ∧ ¬ i = 1) ∨ (12 ≤ i ∧ i < 420 ∧ (i - 12) % 68 ≤ 4) ∨ (420 ≤ i ∧ i < 452 ∧ i % 2 = 0) ∨ i = 9 ∨ (452 ≤ i ∧ i < 1916 ∧ 5 ≤ (i - 452) % 24) → (r2 x1 d).2 (x0 + 1) i = d (x0 + 1) i) → Safe (r2 x1 d).2 → K (.inl (some (0, (r2 x1 d).1))) (r2 x1 d).2) → tRun E 219 (2, [.inr (11, x0), .inl (0, x1), v2, v3], [], 0, 0, d) K) (N106 : Int) (r106 : Int → Int → Int → mD → Int × mD) (ih106 : ∀ (x1 x2 x3 : Int) (d : mD), Safe d → (0 ≤ x1 ∧ x1 + 1 + d (x0 + 1) 11 ≤ 200) → (0 ≤ x3 ∧ x3 ≤ 200) → (0 ≤ d (x0 + 1) 11) → (d (x0 + 1) 11 + 1 ≤ N2) → d (x0 + 1) 11 ≤ N2 → 0 ≤ 200 - x3 → 200 - x3 < N106 → ((0 ≤ (r106 x1 x2 x3 d).1 ∧ (r106 x1 x2 x3 d).1 ≤ 200) → (∀ b : Int, (b < x0 + 1 ∨ x0 + 1 < b) → (r106 x1 x2 x3 d).2 b = d b) → (∀ i : Int, (0 ≤ i ∧ i ≤ 8 ∧ ¬ i = 1) ∨ (12 ≤ i ∧ i < 420 ∧ (i - 12) % 68 ≤ 4) ∨ (420 ≤ i ∧ i < 452 ∧ i % 2 = 0) ∨ i = 9 ∨ (452 ≤ i ∧ i < 1916 ∧ 5 ≤ (i - 452) % 24) → (r106 x1 x2 x3 d).2 (x0 + 1) i = d (x0 + 1) i) → Safe (r106 x1 x2 x3 d).2 → K (.inl (some (0, (r106 x1 x2 x3 d).1))) (r106 x1 x2 x3 d).2) → tRun E 219 (106, [.inr (11, x0), .inl (0, x1), .inl (0, x2), .inl (0, x3)], [], 0, 0, d) K) (x1 x2 x3 : Int) (d : mD) (hS : Safe d) (i0 : 0 ≤ x1 ∧ x1 + 1 + d (x0 + 1) 11 ≤ 200) (i1 : 0 ≤ x3 ∧ x3 ≤ 200) (i2 : 0 ≤ d (x0 + 1) 11) (i3 : d (x0 + 1) 11 + 1 ≤ N2) (hm : 200 - x3 ≤ N106) (m2 : d (x0 + 1) 11 ≤ N2) (h : (0 ≤ (st_219_106 x0 r2 r106 x1 x2 x3 d).1 ∧ (st_219_106 x0 r2 r106 x1 x2 x3 d).1 ≤ 200) → (∀ b : Int, (b < x0 + 1 ∨ x0 + 1 < b) → (st_219_106 x0 r2 r106 x1 x2 x3 d).2 b = d b) → (∀ i : Int, (0 ≤ i ∧ i ≤ 8 ∧ ¬ i = 1) ∨ (12 ≤ i ∧ i < 420 ∧ (i - 12) % 68 ≤ 4) ∨ (420 ≤ i ∧ i < 452 ∧ i % 2 = 0) ∨ i = 9 ∨ (452 ≤ i ∧ i < 1916 ∧ 5 ≤ (i - 452) % 24) → (st_219_106 x0 r2 r106 x1 x2 x3 d).2 (x0 + 1) i = d (x0 + 1) i) → Safe (st_219_106 x0 r2 r106 x1 x2 x3 d).2 → K (.inl (some (0, (st_219_106 x0 r2 r106 x1 x2 x3 d).1))) (st_219_106 x0 r2 r106 x1 x2 x3 d).2) : tRun E 219 (106, [.inr (11, x0), .inl (0, x1), .inl (0, x2), .inl (0, x3)], [], 0, 0, d) K := by
  refine t_219_106 ?_
  have q1 := mh_11 hS hx0 _ rfl
  refine ⟨by omega, ⟨m_inR (by omega) (by omega), m_inR (by omega) (by omega)⟩, fun c0 => ?_, fun c0 => ?_⟩
  · refine ih2 (x1 + 1) (.inl (0, x2)) (.inl (0, x3)) d hS (by omega) (by omega) (by omega) ?_
    intro e F Q hS_
    have y0 : st_219_106 x0 r2 r106 x1 x2 x3 d = r2 (x1 + 1) d := by simp only [st_219_106, if_neg (show ¬ x3 < d (x0 + 1) 11 from Int.not_lt.mpr c0)]
    rw [y0] at h
    exact h e F Q hS_
  · have q2 := mf hS hx0 (x3 + 1) ((2916 + x3) + 1) (by omega) (by omega)
    refine ⟨by omega, by omega, ?_⟩
    have hS1 : Safe (mset d (x0 + 1) (2916 + x3) (d (x0 + 1) ((2916 + x3) + 1))) := smf hS hx0 x3 (2916 + x3) (by omega) (by omega) (by omega)
    have q3 : (mset d (x0 + 1) (2916 + x3) (d (x0 + 1) ((2916 + x3) + 1))) (x0 + 1) 11 = d (x0 + 1) 11 := mset_ni (by omega)
    refine ih106 x1 x2 (x3 + 1)  (mset d (x0 + 1) (2916 + x3) (d (x0 + 1) ((2916 + x3) + 1))) hS1 (by omega) (by omega) (by omega) (by omega) (by omega) (by omega) (by omega) ?_
    intro e F Q hS_
    have y0 : st_219_106 x0 r2 r106 x1 x2 x3 d = r106 x1 x2 (x3 + 1) (mset d (x0 + 1) (2916 + x3) (d (x0 + 1) ((2916 + x3) + 1))) := by simp only [st_219_106, if_pos (show x3 < d (x0 + 1) 11 from c0)]
    rw [y0] at h
    exact h e (fun b hb => (F b hb).trans ((show ∀ b : Int, (b < x0 + 1 ∨ x0 + 1 < b) → (mset d (x0 + 1) (2916 + x3) (d (x0 + 1) ((2916 + x3) + 1))) b = d b from fun b hb => mset_ne (by omega)) b hb)) (fun i hi => (Q i hi).trans ((show ∀ i : Int, (0 ≤ i ∧ i ≤ 8 ∧ ¬ i = 1) ∨ (12 ≤ i ∧ i < 420 ∧ (i - 12) % 68 ≤ 4) ∨ (420 ≤ i ∧ i < 452 ∧ i % 2 = 0) ∨ i = 9 ∨ (452 ≤ i ∧ i < 1916 ∧ 5 ≤ (i - 452) % 24) → (mset d (x0 + 1) (2916 + x3) (d (x0 + 1) ((2916 + x3) + 1))) (x0 + 1) i = d (x0 + 1) i from fun i hi => mset_ni (by omega)) i hi)) hS_
theorem l_219_106 {E : mO × tW} {K : tK} {x0 : Int} (hx0 : mdB x0) (N2 : Int) (r2 : Int → mD → Int × mD) (ih2 : ∀ (x1 : Int) (v2 v3 : tV) (d : mD), Safe d → (0 ≤ x1 ∧ x1 + d (x0 + 1) 11 ≤ 200) → 0 ≤ d (x0 + 1) 11 → d (x0 + 1) 11 < N2 → ((0 ≤ (r2 x1 d).1 ∧ (r2 x1 d).1 ≤ 200) → (∀ b : Int, (b < x0 + 1 ∨ x0 + 1 < b) → (r2 x1 d).2 b = d b) → (∀ i : Int, (0 ≤ i ∧ i ≤ 8 ∧ ¬ i = 1) ∨ (12 ≤ i ∧ i < 420 ∧ (i - 12) % 68 ≤ 4) ∨ (420 ≤ i ∧ i < 452 ∧ i % 2 = 0) ∨ i = 9 ∨ (452 ≤ i ∧ i < 1916 ∧ 5 ≤ (i - 452) % 24) → (r2 x1 d).2 (x0 + 1) i = d (x0 + 1) i) → Safe (r2 x1 d).2 → K (.inl (some (0, (r2 x1 d).1))) (r2 x1 d).2) → tRun E 219 (2, [.inr (11, x0), .inl (0, x1), v2, v3], [], 0, 0, d) K) : ∀ (n : Nat) (x1 x2 x3 : Int) (d : mD), Safe d → (0 ≤ x1 ∧ x1 + 1 + d (x0 + 1) 11 ≤ 200) → (0 ≤ x3 ∧ x3 ≤ 200) → (0 ≤ d (x0 + 1) 11) → (d (x0 + 1) 11 + 1 ≤ N2) → 200 - x3 ≤ (n : Int) → d (x0 + 1) 11 ≤ N2 → ((0 ≤ (lp_219_106 x0 r2 n x1 x2 x3 d).1 ∧ (lp_219_106 x0 r2 n x1 x2 x3 d).1 ≤ 200) → (∀ b : Int, (b < x0 + 1 ∨ x0 + 1 < b) → (lp_219_106 x0 r2 n x1 x2 x3 d).2 b = d b) → (∀ i : Int, (0 ≤ i ∧ i ≤ 8 ∧ ¬ i = 1) ∨ (12 ≤ i ∧ i < 420 ∧ (i - 12) % 68 ≤ 4) ∨ (420 ≤ i ∧ i < 452 ∧ i % 2 = 0) ∨ i = 9 ∨ (452 ≤ i ∧ i < 1916 ∧ 5 ≤ (i - 452) % 24) → (lp_219_106 x0 r2 n x1 x2 x3 d).2 (x0 + 1) i = d (x0 + 1) i) → Safe (lp_219_106 x0 r2 n x1 x2 x3 d).2 → K (.inl (some (0, (lp_219_106 x0 r2 n x1 x2 x3 d).1))) (lp_219_106 x0 r2 n x1 x2 x3 d).2) → tRun E 219 (106, [.inr (11, x0), .inl (0, x1), .inl (0, x2), .inl (0, x3)], [], 0, 0, d) K := by
  intro n
  induction n with
  | zero =>
    intro x1 x2 x3  d hS i0 i1 i2 i3 hm m2 h
    exact ls_219_106 hx0 N2 r2 ih2 0 _ (fun _ _ _  _ _ _ _ _ _ _ m0 m1 _ => absurd m1 (by omega)) x1 x2 x3  d hS i0 i1 i2 i3 hm m2 h
  | succ n ih =>
    intro x1 x2 x3  d hS i0 i1 i2 i3 hm m2 h
    exact ls_219_106 hx0 N2 r2 ih2 ((n + 1 : Nat) : Int) _ (fun x1 x2 x3  d hS i0 i1 i2 i3 m2 m0 m1 h => ih x1 x2 x3  d hS i0 i1 i2 i3 (by omega) m2 h) x1 x2 x3  d hS i0 i1 i2 i3 hm m2 h
def st_219_2 (x0 : Int) (r2 : Int → mD → Int × mD) (x1 : Int) (d : mD) : Int × mD := if (0 : Int) < d (x0 + 1) 11 then (if d (x0 + 1) 1 < d (x0 + 1) 6 then (x1, d) else lp_219_106 x0 r2 (200 - 0 : Int).toNat x1 (1916 + (5 * (d (x0 + 1) 2916))) 0 (mset (mset (mset (mset d (x0 + 1) 1 ((d (x0 + 1) 1) - (d (x0 + 1) 6))) (x0 + 1) ((420 + (2 * (d (x0 + 1) ((1916 + (5 * (d (x0 + 1) 2916))) + 0)))) + 1) ((d (x0 + 1) ((420 + (2 * (d (x0 + 1) ((1916 + (5 * (d (x0 + 1) 2916))) + 0)))) + 1)) + (d (x0 + 1) 6))) (x0 + 1) ((1916 + (5 * (d (x0 + 1) 2916))) + 3) 2) (x0 + 1) 11 ((d (x0 + 1) 11) - 1))) else (x1, d)
def lp_219_2 (x0 : Int) : Nat → Int → mD → Int × mD
  | 0 => st_219_2 x0 (fun _ d => (0, d))
  | n + 1 => st_219_2 x0 (lp_219_2 x0 n)
theorem ls_219_2 {E : mO × tW} {K : tK} {x0 : Int} (hx0 : mdB x0) (N2 : Int) (r2 : Int → mD → Int × mD) (ih2 : ∀ (x1 : Int) (v2 v3 : tV) (d : mD), Safe d → (0 ≤ x1 ∧ x1 + d (x0 + 1) 11 ≤ 200) → 0 ≤ d (x0 + 1) 11 → d (x0 + 1) 11 < N2 → ((0 ≤ (r2 x1 d).1 ∧ (r2 x1 d).1 ≤ 200) → (∀ b : Int, (b < x0 + 1 ∨ x0 + 1 < b) → (r2 x1 d).2 b = d b) → (∀ i : Int, (0 ≤ i ∧ i ≤ 8 ∧ ¬ i = 1) ∨ (12 ≤ i ∧ i < 420 ∧ (i - 12) % 68 ≤ 4) ∨ (420 ≤ i ∧ i < 452 ∧ i % 2 = 0) ∨ i = 9 ∨ (452 ≤ i ∧ i < 1916 ∧ 5 ≤ (i - 452) % 24) → (r2 x1 d).2 (x0 + 1) i = d (x0 + 1) i) → Safe (r2 x1 d).2 → K (.inl (some (0, (r2 x1 d).1))) (r2 x1 d).2) → tRun E 219 (2, [.inr (11, x0), .inl (0, x1), v2, v3], [], 0, 0, d) K) (x1 : Int) (v2 v3 : tV) (d : mD) (hS : Safe d) (i0 : 0 ≤ x1 ∧ x1 + d (x0 + 1) 11 ≤ 200) (hm : d (x0 + 1) 11 ≤ N2) (h : (0 ≤ (st_219_2 x0 r2 x1 d).1 ∧ (st_219_2 x0 r2 x1 d).1 ≤ 200) → (∀ b : Int, (b < x0 + 1 ∨ x0 + 1 < b) → (st_219_2 x0 r2 x1 d).2 b = d b) → (∀ i : Int, (0 ≤ i ∧ i ≤ 8 ∧ ¬ i = 1) ∨ (12 ≤ i ∧ i < 420 ∧ (i - 12) % 68 ≤ 4) ∨ (420 ≤ i ∧ i < 452 ∧ i % 2 = 0) ∨ i = 9 ∨ (452 ≤ i ∧ i < 1916 ∧ 5 ≤ (i - 452) % 24) → (st_219_2 x0 r2 x1 d).2 (x0 + 1) i = d (x0 + 1) i) → Safe (st_219_2 x0 r2 x1 d).2 → K (.inl (some (0, (st_219_2 x0 r2 x1 d).1))) (st_219_2 x0 r2 x1 d).2) : tRun E 219 (2, [.inr (11, x0), .inl (0, x1), v2, v3], [], 0, 0, d) K := by
  refine t_219_2 ?_
  have q4 := mh_11 hS hx0 _ rfl
  refine ⟨by omega, m_inR (by omega) (by omega), fun c0 => ?_, fun c0 => ?_⟩
  · have y0 : st_219_2 x0 r2 x1 d = (x1, d) := by simp only [st_219_2, if_neg (show ¬ (0 : Int) < d (x0 + 1) 11 from Int.not_lt.mpr c0)]
    rw [y0] at h
    exact h (show 0 ≤ x1 ∧ x1 ≤ 200 from (by omega)) (show ∀ b : Int, (b < x0 + 1 ∨ x0 + 1 < b) → d b = d b from fun _ _ => rfl) (show ∀ i : Int, (0 ≤ i ∧ i ≤ 8 ∧ ¬ i = 1) ∨ (12 ≤ i ∧ i < 420 ∧ (i - 12) % 68 ≤ 4) ∨ (420 ≤ i ∧ i < 452 ∧ i % 2 = 0) ∨ i = 9 ∨ (452 ≤ i ∧ i < 1916 ∧ 5 ≤ (i - 452) % 24) → d (x0 + 1) i = d (x0 + 1) i from fun _ _ => rfl) hS
  · have q5 := mh_1 hS hx0 _ rfl
    have q6 := mh_6 hS hx0 _ rfl
    refine ⟨by omega, by omega, ⟨m_inR (by omega) (by omega), m_inR (by omega) (by omega)⟩, fun c1 => ?_, fun c1 => ?_⟩
    · have y0 : st_219_2 x0 r2 x1 d = (x1, d) := by simp only [st_219_2, if_pos (show (0 : Int) < d (x0 + 1) 11 from c0), if_pos (show d (x0 + 1) 1 < d (x0 + 1) 6 from c1)]
      rw [y0] at h
      exact h (show 0 ≤ x1 ∧ x1 ≤ 200 from (by omega)) (show ∀ b : Int, (b < x0 + 1 ∨ x0 + 1 < b) → d b = d b from fun _ _ => rfl) (show ∀ i : Int, (0 ≤ i ∧ i ≤ 8 ∧ ¬ i = 1) ∨ (12 ≤ i ∧ i < 420 ∧ (i - 12) % 68 ≤ 4) ∨ (420 ≤ i ∧ i < 452 ∧ i % 2 = 0) ∨ i = 9 ∨ (452 ≤ i ∧ i < 1916 ∧ 5 ≤ (i - 452) % 24) → d (x0 + 1) i = d (x0 + 1) i from fun _ _ => rfl) hS
    · refine ⟨by omega, ?_⟩
      refine k_180 hS ?_
      refine t_219_39 ?_
      refine ⟨by omega, by omega, by omega, ?_⟩
      have hS2 : Safe (mset d (x0 + 1) 1 ((d (x0 + 1) 1) - (d (x0 + 1) 6))) := smh_1 hS hx0 _ rfl (by omega)
      have q7 := mf hS hx0 0 2916 (by omega) (by omega)
      rw [mset_ni (d := d) (a := x0 + 1) (i := (1 : Int)) (v := (d (x0 + 1) 1) - (d (x0 + 1) 6)) (b := x0 + 1) (j := (1916 + (5 * (d (x0 + 1) 2916))) + 0) (by omega)]
      refine ⟨by omega, ?_⟩
      refine k_178 hS2 ?_
      refine t_219_71 ?_
      have q8 := mk_0 hS hx0 (d (x0 + 1) 2916) ((1916 + (5 * (d (x0 + 1) 2916))) + 0) (by omega) (by omega)
      rw [mset_ni (d := d) (a := x0 + 1) (i := (1 : Int)) (v := (d (x0 + 1) 1) - (d (x0 + 1) 6)) (b := x0 + 1) (j := (420 + (2 * (d (x0 + 1) ((1916 + (5 * (d (x0 + 1) 2916))) + 0)))) + 1) (by omega)]
      rw [mset_ni (d := d) (a := x0 + 1) (i := (1 : Int)) (v := (d (x0 + 1) 1) - (d (x0 + 1) 6)) (b := x0 + 1) (j := (6 : Int)) (by omega)]
      refine ⟨by omega, by omega, by omega, ?_⟩
      have hS3 : Safe (mset (mset d (x0 + 1) 1 ((d (x0 + 1) 1) - (d (x0 + 1) 6))) (x0 + 1) ((420 + (2 * (d (x0 + 1) ((1916 + (5 * (d (x0 + 1) 2916))) + 0)))) + 1) ((d (x0 + 1) ((420 + (2 * (d (x0 + 1) ((1916 + (5 * (d (x0 + 1) 2916))) + 0)))) + 1)) + (d (x0 + 1) 6))) := smp_1 hS2 hx0 (d (x0 + 1) ((1916 + (5 * (d (x0 + 1) 2916))) + 0)) ((420 + (2 * (d (x0 + 1) ((1916 + (5 * (d (x0 + 1) 2916))) + 0)))) + 1) (by omega) (by omega)
      refine ⟨by omega, ?_⟩
      have hS4 : Safe (mset (mset (mset d (x0 + 1) 1 ((d (x0 + 1) 1) - (d (x0 + 1) 6))) (x0 + 1) ((420 + (2 * (d (x0 + 1) ((1916 + (5 * (d (x0 + 1) 2916))) + 0)))) + 1) ((d (x0 + 1) ((420 + (2 * (d (x0 + 1) ((1916 + (5 * (d (x0 + 1) 2916))) + 0)))) + 1)) + (d (x0 + 1) 6))) (x0 + 1) ((1916 + (5 * (d (x0 + 1) 2916))) + 3) 2) := smk_3 hS3 hx0 (d (x0 + 1) 2916) ((1916 + (5 * (d (x0 + 1) 2916))) + 3) (by omega) (by omega) (by omega)
      rw [mset_ni (d := mset (mset d (x0 + 1) 1 ((d (x0 + 1) 1) - (d (x0 + 1) 6))) (x0 + 1) ((420 + (2 * (d (x0 + 1) ((1916 + (5 * (d (x0 + 1) 2916))) + 0)))) + 1) ((d (x0 + 1) ((420 + (2 * (d (x0 + 1) ((1916 + (5 * (d (x0 + 1) 2916))) + 0)))) + 1)) + (d (x0 + 1) 6))) (a := x0 + 1) (i := (1916 + (5 * (d (x0 + 1) 2916))) + 3) (v := (2 : Int)) (b := x0 + 1) (j := (11 : Int)) (by omega)]
      rw [mset_ni (d := mset d (x0 + 1) 1 ((d (x0 + 1) 1) - (d (x0 + 1) 6))) (a := x0 + 1) (i := (420 + (2 * (d (x0 + 1) ((1916 + (5 * (d (x0 + 1) 2916))) + 0)))) + 1) (v := (d (x0 + 1) ((420 + (2 * (d (x0 + 1) ((1916 + (5 * (d (x0 + 1) 2916))) + 0)))) + 1)) + (d (x0 + 1) 6)) (b := x0 + 1) (j := (11 : Int)) (by omega)]
      rw [mset_ni (d := d) (a := x0 + 1) (i := (1 : Int)) (v := (d (x0 + 1) 1) - (d (x0 + 1) 6)) (b := x0 + 1) (j := (11 : Int)) (by omega)]
      refine ⟨by omega, by omega, ?_⟩
      have hS5 : Safe (mset (mset (mset (mset d (x0 + 1) 1 ((d (x0 + 1) 1) - (d (x0 + 1) 6))) (x0 + 1) ((420 + (2 * (d (x0 + 1) ((1916 + (5 * (d (x0 + 1) 2916))) + 0)))) + 1) ((d (x0 + 1) ((420 + (2 * (d (x0 + 1) ((1916 + (5 * (d (x0 + 1) 2916))) + 0)))) + 1)) + (d (x0 + 1) 6))) (x0 + 1) ((1916 + (5 * (d (x0 + 1) 2916))) + 3) 2) (x0 + 1) 11 ((d (x0 + 1) 11) - 1)) := smh_11 hS4 hx0 _ rfl (by omega)
      have q9 : (mset (mset (mset (mset d (x0 + 1) 1 ((d (x0 + 1) 1) - (d (x0 + 1) 6))) (x0 + 1) ((420 + (2 * (d (x0 + 1) ((1916 + (5 * (d (x0 + 1) 2916))) + 0)))) + 1) ((d (x0 + 1) ((420 + (2 * (d (x0 + 1) ((1916 + (5 * (d (x0 + 1) 2916))) + 0)))) + 1)) + (d (x0 + 1) 6))) (x0 + 1) ((1916 + (5 * (d (x0 + 1) 2916))) + 3) 2) (x0 + 1) 11 ((d (x0 + 1) 11) - 1)) (x0 + 1) 11 = (d (x0 + 1) 11) - 1 := mset_eq
      refine l_219_106 hx0 N2 r2 ih2 (200 - 0 : Int).toNat x1 (1916 + (5 * (d (x0 + 1) 2916))) 0  (mset (mset (mset (mset d (x0 + 1) 1 ((d (x0 + 1) 1) - (d (x0 + 1) 6))) (x0 + 1) ((420 + (2 * (d (x0 + 1) ((1916 + (5 * (d (x0 + 1) 2916))) + 0)))) + 1) ((d (x0 + 1) ((420 + (2 * (d (x0 + 1) ((1916 + (5 * (d (x0 + 1) 2916))) + 0)))) + 1)) + (d (x0 + 1) 6))) (x0 + 1) ((1916 + (5 * (d (x0 + 1) 2916))) + 3) 2) (x0 + 1) 11 ((d (x0 + 1) 11) - 1)) hS5 (by omega) (by omega) (by omega) (by omega) (by omega) (by omega) ?_
      intro e F Q hS_
      have y0 : st_219_2 x0 r2 x1 d = lp_219_106 x0 r2 (200 - 0 : Int).toNat x1 (1916 + (5 * (d (x0 + 1) 2916))) 0 (mset (mset (mset (mset d (x0 + 1) 1 ((d (x0 + 1) 1) - (d (x0 + 1) 6))) (x0 + 1) ((420 + (2 * (d (x0 + 1) ((1916 + (5 * (d (x0 + 1) 2916))) + 0)))) + 1) ((d (x0 + 1) ((420 + (2 * (d (x0 + 1) ((1916 + (5 * (d (x0 + 1) 2916))) + 0)))) + 1)) + (d (x0 + 1) 6))) (x0 + 1) ((1916 + (5 * (d (x0 + 1) 2916))) + 3) 2) (x0 + 1) 11 ((d (x0 + 1) 11) - 1)) := by simp only [st_219_2, if_pos (show (0 : Int) < d (x0 + 1) 11 from c0), if_neg (show ¬ d (x0 + 1) 1 < d (x0 + 1) 6 from Int.not_lt.mpr c1)]
      rw [y0] at h
      exact h e (fun b hb => (F b hb).trans ((show ∀ b : Int, (b < x0 + 1 ∨ x0 + 1 < b) → (mset (mset (mset (mset d (x0 + 1) 1 ((d (x0 + 1) 1) - (d (x0 + 1) 6))) (x0 + 1) ((420 + (2 * (d (x0 + 1) ((1916 + (5 * (d (x0 + 1) 2916))) + 0)))) + 1) ((d (x0 + 1) ((420 + (2 * (d (x0 + 1) ((1916 + (5 * (d (x0 + 1) 2916))) + 0)))) + 1)) + (d (x0 + 1) 6))) (x0 + 1) ((1916 + (5 * (d (x0 + 1) 2916))) + 3) 2) (x0 + 1) 11 ((d (x0 + 1) 11) - 1)) b = d b from fun b hb => (mset_ne (by omega)).trans ((mset_ne (by omega)).trans ((mset_ne (by omega)).trans (mset_ne (by omega))))) b hb)) (fun i hi => (Q i hi).trans ((show ∀ i : Int, (0 ≤ i ∧ i ≤ 8 ∧ ¬ i = 1) ∨ (12 ≤ i ∧ i < 420 ∧ (i - 12) % 68 ≤ 4) ∨ (420 ≤ i ∧ i < 452 ∧ i % 2 = 0) ∨ i = 9 ∨ (452 ≤ i ∧ i < 1916 ∧ 5 ≤ (i - 452) % 24) → (mset (mset (mset (mset d (x0 + 1) 1 ((d (x0 + 1) 1) - (d (x0 + 1) 6))) (x0 + 1) ((420 + (2 * (d (x0 + 1) ((1916 + (5 * (d (x0 + 1) 2916))) + 0)))) + 1) ((d (x0 + 1) ((420 + (2 * (d (x0 + 1) ((1916 + (5 * (d (x0 + 1) 2916))) + 0)))) + 1)) + (d (x0 + 1) 6))) (x0 + 1) ((1916 + (5 * (d (x0 + 1) 2916))) + 3) 2) (x0 + 1) 11 ((d (x0 + 1) 11) - 1)) (x0 + 1) i = d (x0 + 1) i from fun i hi => (((mset_ni (by omega)).trans (mset_ni (by omega))).trans (mset_ni (by omega))).trans (mset_ni (by omega))) i hi)) hS_
theorem l_219_2 {E : mO × tW} {K : tK} {x0 : Int} (hx0 : mdB x0) : ∀ (n : Nat) (x1 : Int) (v2 v3 : tV) (d : mD), Safe d → (0 ≤ x1 ∧ x1 + d (x0 + 1) 11 ≤ 200) → d (x0 + 1) 11 ≤ (n : Int) → ((0 ≤ (lp_219_2 x0 n x1 d).1 ∧ (lp_219_2 x0 n x1 d).1 ≤ 200) → (∀ b : Int, (b < x0 + 1 ∨ x0 + 1 < b) → (lp_219_2 x0 n x1 d).2 b = d b) → (∀ i : Int, (0 ≤ i ∧ i ≤ 8 ∧ ¬ i = 1) ∨ (12 ≤ i ∧ i < 420 ∧ (i - 12) % 68 ≤ 4) ∨ (420 ≤ i ∧ i < 452 ∧ i % 2 = 0) ∨ i = 9 ∨ (452 ≤ i ∧ i < 1916 ∧ 5 ≤ (i - 452) % 24) → (lp_219_2 x0 n x1 d).2 (x0 + 1) i = d (x0 + 1) i) → Safe (lp_219_2 x0 n x1 d).2 → K (.inl (some (0, (lp_219_2 x0 n x1 d).1))) (lp_219_2 x0 n x1 d).2) → tRun E 219 (2, [.inr (11, x0), .inl (0, x1), v2, v3], [], 0, 0, d) K := by
  intro n
  induction n with
  | zero =>
    intro x1 v2 v3 d hS i0 hm  h
    exact ls_219_2 hx0 0 _ (fun _ _ _ _ _ _ m0 m1 _ => absurd m1 (by omega)) x1 v2 v3 d hS i0 hm  h
  | succ n ih =>
    intro x1 v2 v3 d hS i0 hm  h
    exact ls_219_2 hx0 ((n + 1 : Nat) : Int) _ (fun x1 v2 v3 d hS i0  m0 m1 h => ih x1 v2 v3 d hS i0 (by omega)  h) x1 v2 v3 d hS i0 hm  h
def f_219 (x0 : Int) (d : mD) : Int × mD := lp_219_2 x0 (d (x0 + 1) 11 : Int).toNat 0 d
def v_219 (x0 : Int) (d : mD) : Int := (f_219 x0 d).1
def g_219 (x0 : Int) (d : mD) : mD := (f_219 x0 d).2
theorem k_219 {E : mO × tW} {K : tK} {d : mD} {x0 : Int} (hS : Safe d) (hx0 : mdB x0) (h : (0 ≤ (v_219 x0 d) ∧ (v_219 x0 d) ≤ 200) → (∀ b : Int, (b < x0 + 1 ∨ x0 + 1 < b) → (g_219 x0 d) b = d b) → (∀ i : Int, (0 ≤ i ∧ i ≤ 8 ∧ ¬ i = 1) ∨ (12 ≤ i ∧ i < 420 ∧ (i - 12) % 68 ≤ 4) ∨ (420 ≤ i ∧ i < 452 ∧ i % 2 = 0) ∨ i = 9 ∨ (452 ≤ i ∧ i < 1916 ∧ 5 ≤ (i - 452) % 24) → (g_219 x0 d) (x0 + 1) i = d (x0 + 1) i) → Safe (g_219 x0 d) → K (.inl (some (0, (v_219 x0 d)))) (g_219 x0 d)) : tCall E 219 [.inr (11, x0)] d K := by
  simp only [v_219, g_219] at h
  refine t_219_0 ?_
  have q10 := mh_11 hS hx0 _ rfl
  refine l_219_2 hx0 (d (x0 + 1) 11 : Int).toNat 0 tu tu d hS (by omega) (by omega) ?_
  intro e F Q hS_
  have y0 : f_219 x0 d = lp_219_2 x0 (d (x0 + 1) 11 : Int).toNat 0 d := by simp only [f_219]
  rw [y0] at h
  exact h e F Q hS_
def st_220_20 (x0 x1 x2 : Int) (r20 : Int → Int → mD → mD) (x3 x4 : Int) (d : mD) : mD := if x4 < d (x0 + 1) (x3 + 5) then r20 x3 (x4 + 1) (mset d (x0 + 1) ((x3 + 7) + x4) (d (x0 + 1) (((x3 + 7) + x4) + 1))) else d
def lp_220_20 (x0 x1 x2 : Int) : Nat → Int → Int → mD → mD
  | 0 => st_220_20 x0 x1 x2 (fun _ _ d => d)
  | n + 1 => st_220_20 x0 x1 x2 (lp_220_20 x0 x1 x2 n)
theorem ls_220_20 {E : mO × tW} {K : tK} {x0 x1 x2 : Int} (hx0 : mdB x0) (p1 : 0 ≤ x1 ∧ x1 ≤ 5) (p2 : 0 ≤ x2 ∧ x2 ≤ 60) (N20 : Int) (r20 : Int → Int → mD → mD) (ih20 : ∀ (x3 x4 : Int) (d : mD), Safe d → (0 ≤ x4 ∧ x4 ≤ 61) → (x3 = 12 + 68 * x1) → (0 ≤ d (x0 + 1) (12 + 68 * x1 + 5)) → (d (x0 + 1) (12 + 68 * x1 + 5) ≤ 60) → 0 ≤ 61 - x4 → 61 - x4 < N20 → ((∀ b : Int, (b < x0 + 1 ∨ x0 + 1 < b) → (r20 x3 x4 d) b = d b) → (∀ i : Int, (0 ≤ i ∧ i ≤ 8 ∧ ¬ i = 1) ∨ (12 ≤ i ∧ i < 420 ∧ (i - 12) % 68 ≤ 4) ∨ (420 ≤ i ∧ i < 452 ∧ i % 2 = 0) ∨ i = 9 ∨ (452 ≤ i ∧ i < 1916 ∧ 5 ≤ (i - 452) % 24) → (r20 x3 x4 d) (x0 + 1) i = d (x0 + 1) i) → ((r20 x3 x4 d) (x0 + 1) (12 + 68 * x1 + 5) = d (x0 + 1) (12 + 68 * x1 + 5)) → Safe (r20 x3 x4 d) → K (.inl none) (r20 x3 x4 d)) → tRun E 220 (20, [.inr (11, x0), .inl (0, x1), .inl (0, x2), .inl (0, x3), .inl (0, x4)], [], 0, 0, d) K) (x3 x4 : Int) (d : mD) (hS : Safe d) (i0 : 0 ≤ x4 ∧ x4 ≤ 61) (i1 : x3 = 12 + 68 * x1) (i2 : 0 ≤ d (x0 + 1) (12 + 68 * x1 + 5)) (i3 : d (x0 + 1) (12 + 68 * x1 + 5) ≤ 60) (hm : 61 - x4 ≤ N20) (h : (∀ b : Int, (b < x0 + 1 ∨ x0 + 1 < b) → (st_220_20 x0 x1 x2 r20 x3 x4 d) b = d b) → (∀ i : Int, (0 ≤ i ∧ i ≤ 8 ∧ ¬ i = 1) ∨ (12 ≤ i ∧ i < 420 ∧ (i - 12) % 68 ≤ 4) ∨ (420 ≤ i ∧ i < 452 ∧ i % 2 = 0) ∨ i = 9 ∨ (452 ≤ i ∧ i < 1916 ∧ 5 ≤ (i - 452) % 24) → (st_220_20 x0 x1 x2 r20 x3 x4 d) (x0 + 1) i = d (x0 + 1) i) → ((st_220_20 x0 x1 x2 r20 x3 x4 d) (x0 + 1) (12 + 68 * x1 + 5) = d (x0 + 1) (12 + 68 * x1 + 5)) → Safe (st_220_20 x0 x1 x2 r20 x3 x4 d) → K (.inl none) (st_220_20 x0 x1 x2 r20 x3 x4 d)) : tRun E 220 (20, [.inr (11, x0), .inl (0, x1), .inl (0, x2), .inl (0, x3), .inl (0, x4)], [], 0, 0, d) K := by
  refine t_220_20 ?_
  have w1 : d (x0 + 1) (x3 + 5) = d (x0 + 1) (12 + 68 * x1 + 5) := by rw [i1]
  have q1 := mo_5 hS hx0 x1 (x3 + 5) (by omega) (by omega)
  refine ⟨by omega, ⟨m_inR (by omega) (by omega), m_inR (by omega) (by omega)⟩, fun c0 => ?_, fun c0 => ?_⟩
  · have y0 : st_220_20 x0 x1 x2 r20 x3 x4 d = d := by simp only [st_220_20, if_neg (show ¬ x4 < d (x0 + 1) (x3 + 5) from Int.not_lt.mpr c0)]
    rw [y0] at h
    exact h (show ∀ b : Int, (b < x0 + 1 ∨ x0 + 1 < b) → d b = d b from fun _ _ => rfl) (show ∀ i : Int, (0 ≤ i ∧ i ≤ 8 ∧ ¬ i = 1) ∨ (12 ≤ i ∧ i < 420 ∧ (i - 12) % 68 ≤ 4) ∨ (420 ≤ i ∧ i < 452 ∧ i % 2 = 0) ∨ i = 9 ∨ (452 ≤ i ∧ i < 1916 ∧ 5 ≤ (i - 452) % 24) → d (x0 + 1) i = d (x0 + 1) i from fun _ _ => rfl) (show d (x0 + 1) (12 + 68 * x1 + 5) = d (x0 + 1) (12 + 68 * x1 + 5) by omega) hS
  · have q2 := mo_q hS hx0 x1 (x4 + 1) (((x3 + 7) + x4) + 1) (by omega) (by omega) (by omega)
    refine ⟨by omega, by omega, ?_⟩
    have hS1 : Safe (mset d (x0 + 1) ((x3 + 7) + x4) (d (x0 + 1) (((x3 + 7) + x4) + 1))) := smo_q hS hx0 x1 x4 ((x3 + 7) + x4) (by omega) (by omega) (by omega) (by omega)
    have q3 : (mset d (x0 + 1) ((x3 + 7) + x4) (d (x0 + 1) (((x3 + 7) + x4) + 1))) (x0 + 1) (12 + 68 * x1 + 5) = d (x0 + 1) (12 + 68 * x1 + 5) := mset_ni (by omega)
    refine ih20 x3 (x4 + 1)  (mset d (x0 + 1) ((x3 + 7) + x4) (d (x0 + 1) (((x3 + 7) + x4) + 1))) hS1 (by omega) (by omega) (by omega) (by omega) (by omega) (by omega) ?_
    intro F Q n0 hS_
    have y0 : st_220_20 x0 x1 x2 r20 x3 x4 d = r20 x3 (x4 + 1) (mset d (x0 + 1) ((x3 + 7) + x4) (d (x0 + 1) (((x3 + 7) + x4) + 1))) := by simp only [st_220_20, if_pos (show x4 < d (x0 + 1) (x3 + 5) from c0)]
    rw [y0] at h
    exact h (fun b hb => (F b hb).trans ((show ∀ b : Int, (b < x0 + 1 ∨ x0 + 1 < b) → (mset d (x0 + 1) ((x3 + 7) + x4) (d (x0 + 1) (((x3 + 7) + x4) + 1))) b = d b from fun b hb => mset_ne (by omega)) b hb)) (fun i hi => (Q i hi).trans ((show ∀ i : Int, (0 ≤ i ∧ i ≤ 8 ∧ ¬ i = 1) ∨ (12 ≤ i ∧ i < 420 ∧ (i - 12) % 68 ≤ 4) ∨ (420 ≤ i ∧ i < 452 ∧ i % 2 = 0) ∨ i = 9 ∨ (452 ≤ i ∧ i < 1916 ∧ 5 ≤ (i - 452) % 24) → (mset d (x0 + 1) ((x3 + 7) + x4) (d (x0 + 1) (((x3 + 7) + x4) + 1))) (x0 + 1) i = d (x0 + 1) i from fun i hi => mset_ni (by omega)) i hi)) (by omega) hS_
theorem l_220_20 {E : mO × tW} {K : tK} {x0 x1 x2 : Int} (hx0 : mdB x0) (p1 : 0 ≤ x1 ∧ x1 ≤ 5) (p2 : 0 ≤ x2 ∧ x2 ≤ 60) : ∀ (n : Nat) (x3 x4 : Int) (d : mD), Safe d → (0 ≤ x4 ∧ x4 ≤ 61) → (x3 = 12 + 68 * x1) → (0 ≤ d (x0 + 1) (12 + 68 * x1 + 5)) → (d (x0 + 1) (12 + 68 * x1 + 5) ≤ 60) → 61 - x4 ≤ (n : Int) → ((∀ b : Int, (b < x0 + 1 ∨ x0 + 1 < b) → (lp_220_20 x0 x1 x2 n x3 x4 d) b = d b) → (∀ i : Int, (0 ≤ i ∧ i ≤ 8 ∧ ¬ i = 1) ∨ (12 ≤ i ∧ i < 420 ∧ (i - 12) % 68 ≤ 4) ∨ (420 ≤ i ∧ i < 452 ∧ i % 2 = 0) ∨ i = 9 ∨ (452 ≤ i ∧ i < 1916 ∧ 5 ≤ (i - 452) % 24) → (lp_220_20 x0 x1 x2 n x3 x4 d) (x0 + 1) i = d (x0 + 1) i) → ((lp_220_20 x0 x1 x2 n x3 x4 d) (x0 + 1) (12 + 68 * x1 + 5) = d (x0 + 1) (12 + 68 * x1 + 5)) → Safe (lp_220_20 x0 x1 x2 n x3 x4 d) → K (.inl none) (lp_220_20 x0 x1 x2 n x3 x4 d)) → tRun E 220 (20, [.inr (11, x0), .inl (0, x1), .inl (0, x2), .inl (0, x3), .inl (0, x4)], [], 0, 0, d) K := by
  intro n
  induction n with
  | zero =>
    intro x3 x4  d hS i0 i1 i2 i3 hm  h
    exact ls_220_20 hx0 p1 p2 0 _ (fun _ _  _ _ _ _ _ _ m0 m1 _ => absurd m1 (by omega)) x3 x4  d hS i0 i1 i2 i3 hm  h
  | succ n ih =>
    intro x3 x4  d hS i0 i1 i2 i3 hm  h
    exact ls_220_20 hx0 p1 p2 ((n + 1 : Nat) : Int) _ (fun x3 x4  d hS i0 i1 i2 i3  m0 m1 h => ih x3 x4  d hS i0 i1 i2 i3 (by omega)  h) x3 x4  d hS i0 i1 i2 i3 hm  h
def g_220 (x0 x1 x2 : Int) (d : mD) : mD := lp_220_20 x0 x1 x2 (61 - x2 : Int).toNat (12 + (68 * x1)) x2 (mset d (x0 + 1) ((12 + (68 * x1)) + 5) ((d (x0 + 1) ((12 + (68 * x1)) + 5)) - 1))
theorem k_220 {E : mO × tW} {K : tK} {d : mD} {x0 x1 x2 : Int} (hS : Safe d) (hx0 : mdB x0) (p1 : 0 ≤ x1 ∧ x1 ≤ 5) (p2 : 0 ≤ x2 ∧ x2 ≤ 60) (hq : 1 ≤ d (x0 + 1) (12 + 68 * x1 + 5)) (h : (∀ b : Int, (b < x0 + 1 ∨ x0 + 1 < b) → (g_220 x0 x1 x2 d) b = d b) → (∀ i : Int, (0 ≤ i ∧ i ≤ 8 ∧ ¬ i = 1) ∨ (12 ≤ i ∧ i < 420 ∧ (i - 12) % 68 ≤ 4) ∨ (420 ≤ i ∧ i < 452 ∧ i % 2 = 0) ∨ i = 9 ∨ (452 ≤ i ∧ i < 1916 ∧ 5 ≤ (i - 452) % 24) → (g_220 x0 x1 x2 d) (x0 + 1) i = d (x0 + 1) i) → ((g_220 x0 x1 x2 d) (x0 + 1) (12 + 68 * x1 + 5) = d (x0 + 1) (12 + 68 * x1 + 5) - 1) → Safe (g_220 x0 x1 x2 d) → K (.inl none) (g_220 x0 x1 x2 d)) : tCall E 220 [.inr (11, x0), .inl (0, x1), .inl (0, x2)] d K := by
  refine t_220_0 ?_
  refine k_177 hS ?_
  refine t_220_4 ?_
  have q4 := mo_5 hS hx0 x1 ((12 + (68 * x1)) + 5) (by omega) (by omega)
  refine ⟨by omega, by omega, ?_⟩
  have hS2 : Safe (mset d (x0 + 1) ((12 + (68 * x1)) + 5) ((d (x0 + 1) ((12 + (68 * x1)) + 5)) - 1)) := smo_5 hS hx0 x1 ((12 + (68 * x1)) + 5) (by omega) (by omega) (by omega)
  have q5 : (mset d (x0 + 1) ((12 + (68 * x1)) + 5) ((d (x0 + 1) ((12 + (68 * x1)) + 5)) - 1)) (x0 + 1) (12 + 68 * x1 + 5) = (d (x0 + 1) ((12 + (68 * x1)) + 5)) - 1 := mset_eq
  refine l_220_20 hx0 p1 p2 (61 - x2 : Int).toNat (12 + (68 * x1)) x2  (mset d (x0 + 1) ((12 + (68 * x1)) + 5) ((d (x0 + 1) ((12 + (68 * x1)) + 5)) - 1)) hS2 (by omega) (by omega) (by omega) (by omega) (by omega) ?_
  intro F Q n0 hS_
  have y0 : g_220 x0 x1 x2 d = lp_220_20 x0 x1 x2 (61 - x2 : Int).toNat (12 + (68 * x1)) x2 (mset d (x0 + 1) ((12 + (68 * x1)) + 5) ((d (x0 + 1) ((12 + (68 * x1)) + 5)) - 1)) := by simp only [g_220]
  rw [y0] at h
  exact h (fun b hb => (F b hb).trans ((show ∀ b : Int, (b < x0 + 1 ∨ x0 + 1 < b) → (mset d (x0 + 1) ((12 + (68 * x1)) + 5) ((d (x0 + 1) ((12 + (68 * x1)) + 5)) - 1)) b = d b from fun b hb => mset_ne (by omega)) b hb)) (fun i hi => (Q i hi).trans ((show ∀ i : Int, (0 ≤ i ∧ i ≤ 8 ∧ ¬ i = 1) ∨ (12 ≤ i ∧ i < 420 ∧ (i - 12) % 68 ≤ 4) ∨ (420 ≤ i ∧ i < 452 ∧ i % 2 = 0) ∨ i = 9 ∨ (452 ≤ i ∧ i < 1916 ∧ 5 ≤ (i - 452) % 24) → (mset d (x0 + 1) ((12 + (68 * x1)) + 5) ((d (x0 + 1) ((12 + (68 * x1)) + 5)) - 1)) (x0 + 1) i = d (x0 + 1) i from fun i hi => mset_ni (by omega)) i hi)) (by omega) hS_
def st_221_17 (x0 x1 : Int) (r17 : Int → Int → mD → Int) (x2 x3 : Int) (d : mD) : Int := if x3 < d (x0 + 1) (x2 + 5) then (if d (x0 + 1) ((x2 + 7) + x3) = x1 then x3 else r17 x2 (x3 + 1) d) else (-1)
def lp_221_17 (x0 x1 : Int) : Nat → Int → Int → mD → Int
  | 0 => st_221_17 x0 x1 (fun _ _ d => 0)
  | n + 1 => st_221_17 x0 x1 (lp_221_17 x0 x1 n)
theorem ls_221_17 {E : mO × tW} {K : tK} {x0 x1 : Int} (hx0 : mdB x0) (p1 : 0 ≤ x1 ∧ x1 ≤ 60) (N17 : Int) (r17 : Int → Int → mD → Int) (ih17 : ∀ (x2 x3 : Int) (d : mD), Safe d → (0 ≤ x3 ∧ x3 ≤ 61) → (x2 = 12 + 68 * d (x0 + 1) (452 + 24 * x1 + 1)) → 0 ≤ 61 - x3 → 61 - x3 < N17 → ((-1 ≤ (r17 x2 x3 d) ∧ (r17 x2 x3 d) ≤ 60) → K (.inl (some (0, (r17 x2 x3 d)))) d) → tRun E 221 (17, [.inr (11, x0), .inl (0, x1), .inl (0, x2), .inl (0, x3)], [], 0, 0, d) K) (x2 x3 : Int) (d : mD) (hS : Safe d) (i0 : 0 ≤ x3 ∧ x3 ≤ 61) (i1 : x2 = 12 + 68 * d (x0 + 1) (452 + 24 * x1 + 1)) (hm : 61 - x3 ≤ N17) (h : (-1 ≤ (st_221_17 x0 x1 r17 x2 x3 d) ∧ (st_221_17 x0 x1 r17 x2 x3 d) ≤ 60) → K (.inl (some (0, (st_221_17 x0 x1 r17 x2 x3 d)))) d) : tRun E 221 (17, [.inr (11, x0), .inl (0, x1), .inl (0, x2), .inl (0, x3)], [], 0, 0, d) K := by
  refine t_221_17 ?_
  have w1 := mt_1 hS hx0 x1 (452 + 24 * x1 + 1) (by omega) (by omega)
  have q1 := mo_5 hS hx0 (d (x0 + 1) (452 + 24 * x1 + 1)) (x2 + 5) (by omega) (by omega)
  refine ⟨by omega, ⟨m_inR (by omega) (by omega), m_inR (by omega) (by omega)⟩, fun c0 => ?_, fun c0 => ?_⟩
  · have y0 : st_221_17 x0 x1 r17 x2 x3 d = (-1) := by simp only [st_221_17, if_neg (show ¬ x3 < d (x0 + 1) (x2 + 5) from Int.not_lt.mpr c0)]
    rw [y0] at h
    exact h (show -1 ≤ ((-1 : Int)) ∧ ((-1 : Int)) ≤ 60 from (by omega))
  · have q2 := mo_q hS hx0 (d (x0 + 1) (452 + 24 * x1 + 1)) x3 ((x2 + 7) + x3) (by omega) (by omega) (by omega)
    refine ⟨by omega, ⟨m_inR (by omega) (by omega), m_inR (by omega) (by omega)⟩, fun c1 => ?_, fun c1 => ?_⟩
    · refine ih17 x2 (x3 + 1)  d hS (by omega) (by omega) (by omega) (by omega) ?_
      intro e
      have y0 : st_221_17 x0 x1 r17 x2 x3 d = r17 x2 (x3 + 1) d := by simp only [st_221_17, if_pos (show x3 < d (x0 + 1) (x2 + 5) from c0), if_neg (show ¬ d (x0 + 1) ((x2 + 7) + x3) = x1 from c1)]
      rw [y0] at h
      exact h e
    · have y0 : st_221_17 x0 x1 r17 x2 x3 d = x3 := by simp only [st_221_17, if_pos (show x3 < d (x0 + 1) (x2 + 5) from c0), if_pos (show d (x0 + 1) ((x2 + 7) + x3) = x1 from c1)]
      rw [y0] at h
      exact h (show -1 ≤ x3 ∧ x3 ≤ 60 from (by omega))
theorem l_221_17 {E : mO × tW} {K : tK} {x0 x1 : Int} (hx0 : mdB x0) (p1 : 0 ≤ x1 ∧ x1 ≤ 60) : ∀ (n : Nat) (x2 x3 : Int) (d : mD), Safe d → (0 ≤ x3 ∧ x3 ≤ 61) → (x2 = 12 + 68 * d (x0 + 1) (452 + 24 * x1 + 1)) → 61 - x3 ≤ (n : Int) → ((-1 ≤ (lp_221_17 x0 x1 n x2 x3 d) ∧ (lp_221_17 x0 x1 n x2 x3 d) ≤ 60) → K (.inl (some (0, (lp_221_17 x0 x1 n x2 x3 d)))) d) → tRun E 221 (17, [.inr (11, x0), .inl (0, x1), .inl (0, x2), .inl (0, x3)], [], 0, 0, d) K := by
  intro n
  induction n with
  | zero =>
    intro x2 x3  d hS i0 i1 hm  h
    exact ls_221_17 hx0 p1 0 _ (fun _ _  _ _ _ _ m0 m1 _ => absurd m1 (by omega)) x2 x3  d hS i0 i1 hm  h
  | succ n ih =>
    intro x2 x3  d hS i0 i1 hm  h
    exact ls_221_17 hx0 p1 ((n + 1 : Nat) : Int) _ (fun x2 x3  d hS i0 i1  m0 m1 h => ih x2 x3  d hS i0 i1 (by omega)  h) x2 x3  d hS i0 i1 hm  h
def v_221 (x0 x1 : Int) (d : mD) : Int := lp_221_17 x0 x1 (61 - 0 : Int).toNat (12 + (68 * (d (x0 + 1) ((452 + (24 * x1)) + 1)))) 0 d
theorem k_221 {E : mO × tW} {K : tK} {d : mD} {x0 x1 : Int} (hS : Safe d) (hx0 : mdB x0) (p1 : 0 ≤ x1 ∧ x1 ≤ 60) (h : (-1 ≤ (v_221 x0 x1 d) ∧ (v_221 x0 x1 d) ≤ 60) → K (.inl (some (0, (v_221 x0 x1 d)))) d) : tCall E 221 [.inr (11, x0), .inl (0, x1)] d K := by
  refine t_221_0 ?_
  refine k_179 hS ?_
  refine t_221_8 ?_
  refine ⟨by omega, ?_⟩
  refine k_177 hS ?_
  refine t_221_14 ?_
  have q3 := mt_1 hS hx0 x1 ((452 + (24 * x1)) + 1) (by omega) (by omega)
  refine l_221_17 hx0 p1 (61 - 0 : Int).toNat (12 + (68 * (d (x0 + 1) ((452 + (24 * x1)) + 1)))) 0  d hS (by omega) (by omega) (by omega) ?_
  intro e
  have y0 : v_221 x0 x1 d = lp_221_17 x0 x1 (61 - 0 : Int).toNat (12 + (68 * (d (x0 + 1) ((452 + (24 * x1)) + 1)))) 0 d := by simp only [v_221]
  rw [y0] at h
  exact h e
def st_222_7 (x0 x1 : Int) (r7 : Int → Int → mD → mD) (x2 x3 : Int) (d : mD) : mD := if x3 < d (x0 + 1) (x2 + 1) then (if (0 : Int) < d (x0 + 1) (x2 + 5) then r7 x2 (x3 + 1) (g_220 x0 x1 0 (mset (mset (mset d (x0 + 1) ((452 + (24 * (d (x0 + 1) (x2 + 7)))) + 4) 1) (x0 + 1) ((452 + (24 * (d (x0 + 1) (x2 + 7)))) + 3) (d (x0 + 1) 0)) (x0 + 1) (x2 + 6) ((d (x0 + 1) (x2 + 6)) + 1))) else d) else d
def lp_222_7 (x0 x1 : Int) : Nat → Int → Int → mD → mD
  | 0 => st_222_7 x0 x1 (fun _ _ d => d)
  | n + 1 => st_222_7 x0 x1 (lp_222_7 x0 x1 n)
theorem ls_222_7 {E : mO × tW} {K : tK} {x0 x1 : Int} (hx0 : mdB x0) (p1 : 0 ≤ x1 ∧ x1 ≤ 5) (N7 : Int) (r7 : Int → Int → mD → mD) (ih7 : ∀ (x2 x3 : Int) (v4 : tV) (d : mD), Safe d → (0 ≤ x3 ∧ x3 ≤ 4) → (x2 = 12 + 68 * x1) → 0 ≤ 4 - x3 → 4 - x3 < N7 → ((∀ b : Int, (b < x0 + 1 ∨ x0 + 1 < b) → (r7 x2 x3 d) b = d b) → (∀ i : Int, (0 ≤ i ∧ i ≤ 8 ∧ ¬ i = 1) ∨ (12 ≤ i ∧ i < 420 ∧ (i - 12) % 68 ≤ 4) ∨ (420 ≤ i ∧ i < 452 ∧ i % 2 = 0) ∨ i = 9 ∨ (452 ≤ i ∧ i < 1916 ∧ 5 ≤ (i - 452) % 24) → (r7 x2 x3 d) (x0 + 1) i = d (x0 + 1) i) → Safe (r7 x2 x3 d) → K (.inl none) (r7 x2 x3 d)) → tRun E 222 (7, [.inr (11, x0), .inl (0, x1), .inl (0, x2), .inl (0, x3), v4], [], 0, 0, d) K) (x2 x3 : Int) (v4 : tV) (d : mD) (hS : Safe d) (i0 : 0 ≤ x3 ∧ x3 ≤ 4) (i1 : x2 = 12 + 68 * x1) (hm : 4 - x3 ≤ N7) (h : (∀ b : Int, (b < x0 + 1 ∨ x0 + 1 < b) → (st_222_7 x0 x1 r7 x2 x3 d) b = d b) → (∀ i : Int, (0 ≤ i ∧ i ≤ 8 ∧ ¬ i = 1) ∨ (12 ≤ i ∧ i < 420 ∧ (i - 12) % 68 ≤ 4) ∨ (420 ≤ i ∧ i < 452 ∧ i % 2 = 0) ∨ i = 9 ∨ (452 ≤ i ∧ i < 1916 ∧ 5 ≤ (i - 452) % 24) → (st_222_7 x0 x1 r7 x2 x3 d) (x0 + 1) i = d (x0 + 1) i) → Safe (st_222_7 x0 x1 r7 x2 x3 d) → K (.inl none) (st_222_7 x0 x1 r7 x2 x3 d)) : tRun E 222 (7, [.inr (11, x0), .inl (0, x1), .inl (0, x2), .inl (0, x3), v4], [], 0, 0, d) K := by
  refine t_222_7 ?_
  have w1 : d (x0 + 1) (x2 + 5) = d (x0 + 1) (12 + 68 * x1 + 5) := by rw [i1]
  have q1 := mo_1 hS hx0 x1 (x2 + 1) (by omega) (by omega)
  refine ⟨by omega, ⟨m_inR (by omega) (by omega), m_inR (by omega) (by omega)⟩, fun c0 => ?_, fun c0 => ?_⟩
  · have y0 : st_222_7 x0 x1 r7 x2 x3 d = d := by simp only [st_222_7, if_neg (show ¬ x3 < d (x0 + 1) (x2 + 1) from Int.not_lt.mpr c0)]
    rw [y0] at h
    exact h (show ∀ b : Int, (b < x0 + 1 ∨ x0 + 1 < b) → d b = d b from fun _ _ => rfl) (show ∀ i : Int, (0 ≤ i ∧ i ≤ 8 ∧ ¬ i = 1) ∨ (12 ≤ i ∧ i < 420 ∧ (i - 12) % 68 ≤ 4) ∨ (420 ≤ i ∧ i < 452 ∧ i % 2 = 0) ∨ i = 9 ∨ (452 ≤ i ∧ i < 1916 ∧ 5 ≤ (i - 452) % 24) → d (x0 + 1) i = d (x0 + 1) i from fun _ _ => rfl) hS
  · have q2 := mo_5 hS hx0 x1 (x2 + 5) (by omega) (by omega)
    refine ⟨by omega, m_inR (by omega) (by omega), fun c1 => ?_, fun c1 => ?_⟩
    · have y0 : st_222_7 x0 x1 r7 x2 x3 d = d := by simp only [st_222_7, if_pos (show x3 < d (x0 + 1) (x2 + 1) from c0), if_neg (show ¬ (0 : Int) < d (x0 + 1) (x2 + 5) from Int.not_lt.mpr c1)]
      rw [y0] at h
      exact h (show ∀ b : Int, (b < x0 + 1 ∨ x0 + 1 < b) → d b = d b from fun _ _ => rfl) (show ∀ i : Int, (0 ≤ i ∧ i ≤ 8 ∧ ¬ i = 1) ∨ (12 ≤ i ∧ i < 420 ∧ (i - 12) % 68 ≤ 4) ∨ (420 ≤ i ∧ i < 452 ∧ i % 2 = 0) ∨ i = 9 ∨ (452 ≤ i ∧ i < 1916 ∧ 5 ≤ (i - 452) % 24) → d (x0 + 1) i = d (x0 + 1) i from fun _ _ => rfl) hS
    · refine ⟨by omega, ?_⟩
      refine k_179 hS ?_
      refine t_222_42 ?_
      have q3 := mo_q hS hx0 x1 0 (x2 + 7) (by omega) (by omega) (by omega)
      refine ⟨by omega, ?_⟩
      have hS1 : Safe (mset d (x0 + 1) ((452 + (24 * (d (x0 + 1) (x2 + 7)))) + 4) 1) := smt_4 hS hx0 (d (x0 + 1) (x2 + 7)) ((452 + (24 * (d (x0 + 1) (x2 + 7)))) + 4) (by omega) (by omega) (by omega)
      rw [mset_ni (d := d) (a := x0 + 1) (i := (452 + (24 * (d (x0 + 1) (x2 + 7)))) + 4) (v := (1 : Int)) (b := x0 + 1) (j := (0 : Int)) (by omega)]
      have q4 := mh_0 hS hx0 _ rfl
      refine ⟨by omega, by omega, ?_⟩
      have hS2 : Safe (mset (mset d (x0 + 1) ((452 + (24 * (d (x0 + 1) (x2 + 7)))) + 4) 1) (x0 + 1) ((452 + (24 * (d (x0 + 1) (x2 + 7)))) + 3) (d (x0 + 1) 0)) := smt_3 hS1 hx0 (d (x0 + 1) (x2 + 7)) ((452 + (24 * (d (x0 + 1) (x2 + 7)))) + 3) (by omega) (by omega) (by omega)
      rw [mset_ni (d := mset d (x0 + 1) ((452 + (24 * (d (x0 + 1) (x2 + 7)))) + 4) 1) (a := x0 + 1) (i := (452 + (24 * (d (x0 + 1) (x2 + 7)))) + 3) (v := d (x0 + 1) 0) (b := x0 + 1) (j := x2 + 6) (by omega)]
      rw [mset_ni (d := d) (a := x0 + 1) (i := (452 + (24 * (d (x0 + 1) (x2 + 7)))) + 4) (v := (1 : Int)) (b := x0 + 1) (j := x2 + 6) (by omega)]
      refine ⟨by omega, by omega, ?_⟩
      have hS3 : Safe (mset (mset (mset d (x0 + 1) ((452 + (24 * (d (x0 + 1) (x2 + 7)))) + 4) 1) (x0 + 1) ((452 + (24 * (d (x0 + 1) (x2 + 7)))) + 3) (d (x0 + 1) 0)) (x0 + 1) (x2 + 6) ((d (x0 + 1) (x2 + 6)) + 1)) := smo_6 hS2 hx0 x1 (x2 + 6) (by omega) (by omega)
      have q5 : (mset (mset (mset d (x0 + 1) ((452 + (24 * (d (x0 + 1) (x2 + 7)))) + 4) 1) (x0 + 1) ((452 + (24 * (d (x0 + 1) (x2 + 7)))) + 3) (d (x0 + 1) 0)) (x0 + 1) (x2 + 6) ((d (x0 + 1) (x2 + 6)) + 1)) (x0 + 1) (12 + 68 * x1 + 5) = d (x0 + 1) (12 + 68 * x1 + 5) := ((mset_ni (by omega)).trans (mset_ni (by omega))).trans (mset_ni (by omega))
      refine k_220 hS3 hx0 (by omega) (by omega) (by omega) (fun F1 Q1 n1_0 hS4 => ?_)
      refine t_222_88 ?_
      refine ih7 x2 (x3 + 1) (.inl (0, 452 + (24 * (d (x0 + 1) (x2 + 7))))) (g_220 x0 x1 0 (mset (mset (mset d (x0 + 1) ((452 + (24 * (d (x0 + 1) (x2 + 7)))) + 4) 1) (x0 + 1) ((452 + (24 * (d (x0 + 1) (x2 + 7)))) + 3) (d (x0 + 1) 0)) (x0 + 1) (x2 + 6) ((d (x0 + 1) (x2 + 6)) + 1))) hS4 (by omega) (by omega) (by omega) (by omega) ?_
      intro F Q hS_
      have y0 : st_222_7 x0 x1 r7 x2 x3 d = r7 x2 (x3 + 1) (g_220 x0 x1 0 (mset (mset (mset d (x0 + 1) ((452 + (24 * (d (x0 + 1) (x2 + 7)))) + 4) 1) (x0 + 1) ((452 + (24 * (d (x0 + 1) (x2 + 7)))) + 3) (d (x0 + 1) 0)) (x0 + 1) (x2 + 6) ((d (x0 + 1) (x2 + 6)) + 1))) := by simp only [st_222_7, if_pos (show x3 < d (x0 + 1) (x2 + 1) from c0), if_pos (show (0 : Int) < d (x0 + 1) (x2 + 5) from c1)]
      rw [y0] at h
      exact h (fun b hb => (F b hb).trans ((show ∀ b : Int, (b < x0 + 1 ∨ x0 + 1 < b) → (g_220 x0 x1 0 (mset (mset (mset d (x0 + 1) ((452 + (24 * (d (x0 + 1) (x2 + 7)))) + 4) 1) (x0 + 1) ((452 + (24 * (d (x0 + 1) (x2 + 7)))) + 3) (d (x0 + 1) 0)) (x0 + 1) (x2 + 6) ((d (x0 + 1) (x2 + 6)) + 1))) b = d b from fun b hb => (F1 b (by omega)).trans ((mset_ne (by omega)).trans ((mset_ne (by omega)).trans (mset_ne (by omega))))) b hb)) (fun i hi => (Q i hi).trans ((show ∀ i : Int, (0 ≤ i ∧ i ≤ 8 ∧ ¬ i = 1) ∨ (12 ≤ i ∧ i < 420 ∧ (i - 12) % 68 ≤ 4) ∨ (420 ≤ i ∧ i < 452 ∧ i % 2 = 0) ∨ i = 9 ∨ (452 ≤ i ∧ i < 1916 ∧ 5 ≤ (i - 452) % 24) → (g_220 x0 x1 0 (mset (mset (mset d (x0 + 1) ((452 + (24 * (d (x0 + 1) (x2 + 7)))) + 4) 1) (x0 + 1) ((452 + (24 * (d (x0 + 1) (x2 + 7)))) + 3) (d (x0 + 1) 0)) (x0 + 1) (x2 + 6) ((d (x0 + 1) (x2 + 6)) + 1))) (x0 + 1) i = d (x0 + 1) i from fun i hi => (((Q1 i (by omega)).trans (mset_ni (by omega))).trans (mset_ni (by omega))).trans (mset_ni (by omega))) i hi)) hS_
theorem l_222_7 {E : mO × tW} {K : tK} {x0 x1 : Int} (hx0 : mdB x0) (p1 : 0 ≤ x1 ∧ x1 ≤ 5) : ∀ (n : Nat) (x2 x3 : Int) (v4 : tV) (d : mD), Safe d → (0 ≤ x3 ∧ x3 ≤ 4) → (x2 = 12 + 68 * x1) → 4 - x3 ≤ (n : Int) → ((∀ b : Int, (b < x0 + 1 ∨ x0 + 1 < b) → (lp_222_7 x0 x1 n x2 x3 d) b = d b) → (∀ i : Int, (0 ≤ i ∧ i ≤ 8 ∧ ¬ i = 1) ∨ (12 ≤ i ∧ i < 420 ∧ (i - 12) % 68 ≤ 4) ∨ (420 ≤ i ∧ i < 452 ∧ i % 2 = 0) ∨ i = 9 ∨ (452 ≤ i ∧ i < 1916 ∧ 5 ≤ (i - 452) % 24) → (lp_222_7 x0 x1 n x2 x3 d) (x0 + 1) i = d (x0 + 1) i) → Safe (lp_222_7 x0 x1 n x2 x3 d) → K (.inl none) (lp_222_7 x0 x1 n x2 x3 d)) → tRun E 222 (7, [.inr (11, x0), .inl (0, x1), .inl (0, x2), .inl (0, x3), v4], [], 0, 0, d) K := by
  intro n
  induction n with
  | zero =>
    intro x2 x3 v4 d hS i0 i1 hm  h
    exact ls_222_7 hx0 p1 0 _ (fun _ _ _ _ _ _ _ m0 m1 _ => absurd m1 (by omega)) x2 x3 v4 d hS i0 i1 hm  h
  | succ n ih =>
    intro x2 x3 v4 d hS i0 i1 hm  h
    exact ls_222_7 hx0 p1 ((n + 1 : Nat) : Int) _ (fun x2 x3 v4 d hS i0 i1  m0 m1 h => ih x2 x3 v4 d hS i0 i1 (by omega)  h) x2 x3 v4 d hS i0 i1 hm  h
def g_222 (x0 x1 : Int) (d : mD) : mD := lp_222_7 x0 x1 (4 - 0 : Int).toNat (12 + (68 * x1)) 0 d
theorem k_222 {E : mO × tW} {K : tK} {d : mD} {x0 x1 : Int} (hS : Safe d) (hx0 : mdB x0) (p1 : 0 ≤ x1 ∧ x1 ≤ 5) (h : (∀ b : Int, (b < x0 + 1 ∨ x0 + 1 < b) → (g_222 x0 x1 d) b = d b) → (∀ i : Int, (0 ≤ i ∧ i ≤ 8 ∧ ¬ i = 1) ∨ (12 ≤ i ∧ i < 420 ∧ (i - 12) % 68 ≤ 4) ∨ (420 ≤ i ∧ i < 452 ∧ i % 2 = 0) ∨ i = 9 ∨ (452 ≤ i ∧ i < 1916 ∧ 5 ≤ (i - 452) % 24) → (g_222 x0 x1 d) (x0 + 1) i = d (x0 + 1) i) → Safe (g_222 x0 x1 d) → K (.inl none) (g_222 x0 x1 d)) : tCall E 222 [.inr (11, x0), .inl (0, x1)] d K := by
  refine t_222_0 ?_
  refine k_177 hS ?_
  refine t_222_4 ?_
  refine l_222_7 hx0 p1 (4 - 0 : Int).toNat (12 + (68 * x1)) 0 tu d hS (by omega) (by omega) (by omega) ?_
  intro F Q hS_
  have y0 : g_222 x0 x1 d = lp_222_7 x0 x1 (4 - 0 : Int).toNat (12 + (68 * x1)) 0 d := by simp only [g_222]
  rw [y0] at h
  exact h F Q hS_
def v_230 (x0 x1 x2 : Int) (d : mD) : Int := if d (x0 + 1) ((452 + (24 * x2)) + 2) < d (x0 + 1) ((452 + (24 * x1)) + 2) then (if v_212 x0 x1 d < v_212 x0 x2 d then (if d (x0 + 1) ((452 + (24 * x1)) + 2) < v_212 x0 x1 d then (v_212 x0 x1 d) - (d (x0 + 1) ((452 + (24 * x1)) + 2)) else 0) else if d (x0 + 1) ((452 + (24 * x1)) + 2) < v_212 x0 x2 d then (v_212 x0 x2 d) - (d (x0 + 1) ((452 + (24 * x1)) + 2)) else 0) else if v_212 x0 x1 d < v_212 x0 x2 d then (if d (x0 + 1) ((452 + (24 * x2)) + 2) < v_212 x0 x1 d then (v_212 x0 x1 d) - (d (x0 + 1) ((452 + (24 * x2)) + 2)) else 0) else if d (x0 + 1) ((452 + (24 * x2)) + 2) < v_212 x0 x2 d then (v_212 x0 x2 d) - (d (x0 + 1) ((452 + (24 * x2)) + 2)) else 0
theorem k_230 {E : mO × tW} {K : tK} {d : mD} {x0 x1 x2 : Int} (hS : Safe d) (hx0 : mdB x0) (p1 : 0 ≤ x1 ∧ x1 ≤ 60) (p2 : 0 ≤ x2 ∧ x2 ≤ 60) (h : (0 ≤ (v_230 x0 x1 x2 d) ∧ (v_230 x0 x1 x2 d) ≤ 1200) → K (.inl (some (0, (v_230 x0 x1 x2 d)))) d) : tCall E 230 [.inr (11, x0), .inl (0, x1), .inl (0, x2)] d K := by
  refine t_230_0 ?_
  refine k_179 hS ?_
  refine t_230_8 ?_
  refine ⟨by omega, ?_⟩
  refine k_179 hS ?_
  refine t_230_19 ?_
  have q1 := mt_2 hS hx0 x1 ((452 + (24 * x1)) + 2) (by omega) (by omega)
  have q2 := mt_2 hS hx0 x2 ((452 + (24 * x2)) + 2) (by omega) (by omega)
  refine ⟨by omega, ⟨m_inR (by omega) (by omega), m_inR (by omega) (by omega)⟩, fun c0 => ?_, fun c0 => ?_⟩
  · refine k_179 hS ?_
    refine t_230_47 ?_
    refine ⟨by omega, ?_⟩
    refine k_212 hS hx0 (by omega) (fun e1 => ?_)
    refine t_230_56 ?_
    refine k_212 hS hx0 (by omega) (fun e2 => ?_)
    refine t_230_61 ?_
    refine ⟨⟨m_inR (by omega) (by omega), m_inR (by omega) (by omega)⟩, fun c1 => ?_, fun c1 => ?_⟩
    · refine k_212 hS hx0 (by omega) (fun e3 => ?_)
      refine t_230_77 ?_
      refine ⟨⟨m_inR (by omega) (by omega), m_inR (by omega) (by omega)⟩, fun c2 => ?_, fun c2 => ?_⟩
      · have y0 : v_230 x0 x1 x2 d = 0 := by simp only [v_230, if_neg (show ¬ d (x0 + 1) ((452 + (24 * x2)) + 2) < d (x0 + 1) ((452 + (24 * x1)) + 2) from Int.not_lt.mpr c0), if_neg (show ¬ v_212 x0 x1 d < v_212 x0 x2 d from Int.not_lt.mpr c1), if_neg (show ¬ d (x0 + 1) ((452 + (24 * x2)) + 2) < v_212 x0 x2 d from Int.not_lt.mpr c2)]
        rw [y0] at h
        exact h (show 0 ≤ ((0 : Int)) ∧ ((0 : Int)) ≤ 1200 from (by omega))
      · have y0 : v_230 x0 x1 x2 d = (v_212 x0 x2 d) - (d (x0 + 1) ((452 + (24 * x2)) + 2)) := by simp only [v_230, if_neg (show ¬ d (x0 + 1) ((452 + (24 * x2)) + 2) < d (x0 + 1) ((452 + (24 * x1)) + 2) from Int.not_lt.mpr c0), if_neg (show ¬ v_212 x0 x1 d < v_212 x0 x2 d from Int.not_lt.mpr c1), if_pos (show d (x0 + 1) ((452 + (24 * x2)) + 2) < v_212 x0 x2 d from c2)]
        rw [y0] at h
        exact h (show 0 ≤ ((v_212 x0 x2 d) - (d (x0 + 1) ((452 + (24 * x2)) + 2))) ∧ ((v_212 x0 x2 d) - (d (x0 + 1) ((452 + (24 * x2)) + 2))) ≤ 1200 from (by omega))
    · refine k_212 hS hx0 (by omega) (fun e4 => ?_)
      refine t_230_69 ?_
      refine t_230_77 ?_
      refine ⟨⟨m_inR (by omega) (by omega), m_inR (by omega) (by omega)⟩, fun c2 => ?_, fun c2 => ?_⟩
      · have y0 : v_230 x0 x1 x2 d = 0 := by simp only [v_230, if_neg (show ¬ d (x0 + 1) ((452 + (24 * x2)) + 2) < d (x0 + 1) ((452 + (24 * x1)) + 2) from Int.not_lt.mpr c0), if_pos (show v_212 x0 x1 d < v_212 x0 x2 d from c1), if_neg (show ¬ d (x0 + 1) ((452 + (24 * x2)) + 2) < v_212 x0 x1 d from Int.not_lt.mpr c2)]
        rw [y0] at h
        exact h (show 0 ≤ ((0 : Int)) ∧ ((0 : Int)) ≤ 1200 from (by omega))
      · have y0 : v_230 x0 x1 x2 d = (v_212 x0 x1 d) - (d (x0 + 1) ((452 + (24 * x2)) + 2)) := by simp only [v_230, if_neg (show ¬ d (x0 + 1) ((452 + (24 * x2)) + 2) < d (x0 + 1) ((452 + (24 * x1)) + 2) from Int.not_lt.mpr c0), if_pos (show v_212 x0 x1 d < v_212 x0 x2 d from c1), if_pos (show d (x0 + 1) ((452 + (24 * x2)) + 2) < v_212 x0 x1 d from c2)]
        rw [y0] at h
        exact h (show 0 ≤ ((v_212 x0 x1 d) - (d (x0 + 1) ((452 + (24 * x2)) + 2))) ∧ ((v_212 x0 x1 d) - (d (x0 + 1) ((452 + (24 * x2)) + 2))) ≤ 1200 from (by omega))
  · refine k_179 hS ?_
    refine t_230_33 ?_
    refine ⟨by omega, ?_⟩
    refine k_212 hS hx0 (by omega) (fun e5 => ?_)
    refine t_230_56 ?_
    refine k_212 hS hx0 (by omega) (fun e6 => ?_)
    refine t_230_61 ?_
    refine ⟨⟨m_inR (by omega) (by omega), m_inR (by omega) (by omega)⟩, fun c1 => ?_, fun c1 => ?_⟩
    · refine k_212 hS hx0 (by omega) (fun e7 => ?_)
      refine t_230_77 ?_
      refine ⟨⟨m_inR (by omega) (by omega), m_inR (by omega) (by omega)⟩, fun c2 => ?_, fun c2 => ?_⟩
      · have y0 : v_230 x0 x1 x2 d = 0 := by simp only [v_230, if_pos (show d (x0 + 1) ((452 + (24 * x2)) + 2) < d (x0 + 1) ((452 + (24 * x1)) + 2) from c0), if_neg (show ¬ v_212 x0 x1 d < v_212 x0 x2 d from Int.not_lt.mpr c1), if_neg (show ¬ d (x0 + 1) ((452 + (24 * x1)) + 2) < v_212 x0 x2 d from Int.not_lt.mpr c2)]
        rw [y0] at h
        exact h (show 0 ≤ ((0 : Int)) ∧ ((0 : Int)) ≤ 1200 from (by omega))
      · have y0 : v_230 x0 x1 x2 d = (v_212 x0 x2 d) - (d (x0 + 1) ((452 + (24 * x1)) + 2)) := by simp only [v_230, if_pos (show d (x0 + 1) ((452 + (24 * x2)) + 2) < d (x0 + 1) ((452 + (24 * x1)) + 2) from c0), if_neg (show ¬ v_212 x0 x1 d < v_212 x0 x2 d from Int.not_lt.mpr c1), if_pos (show d (x0 + 1) ((452 + (24 * x1)) + 2) < v_212 x0 x2 d from c2)]
        rw [y0] at h
        exact h (show 0 ≤ ((v_212 x0 x2 d) - (d (x0 + 1) ((452 + (24 * x1)) + 2))) ∧ ((v_212 x0 x2 d) - (d (x0 + 1) ((452 + (24 * x1)) + 2))) ≤ 1200 from (by omega))
    · refine k_212 hS hx0 (by omega) (fun e8 => ?_)
      refine t_230_69 ?_
      refine t_230_77 ?_
      refine ⟨⟨m_inR (by omega) (by omega), m_inR (by omega) (by omega)⟩, fun c2 => ?_, fun c2 => ?_⟩
      · have y0 : v_230 x0 x1 x2 d = 0 := by simp only [v_230, if_pos (show d (x0 + 1) ((452 + (24 * x2)) + 2) < d (x0 + 1) ((452 + (24 * x1)) + 2) from c0), if_pos (show v_212 x0 x1 d < v_212 x0 x2 d from c1), if_neg (show ¬ d (x0 + 1) ((452 + (24 * x1)) + 2) < v_212 x0 x1 d from Int.not_lt.mpr c2)]
        rw [y0] at h
        exact h (show 0 ≤ ((0 : Int)) ∧ ((0 : Int)) ≤ 1200 from (by omega))
      · have y0 : v_230 x0 x1 x2 d = (v_212 x0 x1 d) - (d (x0 + 1) ((452 + (24 * x1)) + 2)) := by simp only [v_230, if_pos (show d (x0 + 1) ((452 + (24 * x2)) + 2) < d (x0 + 1) ((452 + (24 * x1)) + 2) from c0), if_pos (show v_212 x0 x1 d < v_212 x0 x2 d from c1), if_pos (show d (x0 + 1) ((452 + (24 * x1)) + 2) < v_212 x0 x1 d from c2)]
        rw [y0] at h
        exact h (show 0 ≤ ((v_212 x0 x1 d) - (d (x0 + 1) ((452 + (24 * x1)) + 2))) ∧ ((v_212 x0 x1 d) - (d (x0 + 1) ((452 + (24 * x1)) + 2))) ≤ 1200 from (by omega))
def st_231_5 (x0 x1 x2 : Int) (r5 : Int → Int → mD → Int) (x3 x4 : Int) (d : mD) : Int := if x4 < d (x0 + 1) 9 then (if x4 = x1 then r5 x3 (x4 + 1) d else if d (x0 + 1) ((452 + (24 * x4)) + 0) = x2 then (if d (x0 + 1) ((452 + (24 * x4)) + 1) = d (x0 + 1) ((452 + (24 * x1)) + 1) then (if x3 < v_230 x0 x1 x4 d then r5 (v_230 x0 x1 x4 d) (x4 + 1) d else r5 x3 (x4 + 1) d) else r5 x3 (x4 + 1) d) else r5 x3 (x4 + 1) d) else x3
def lp_231_5 (x0 x1 x2 : Int) : Nat → Int → Int → mD → Int
  | 0 => st_231_5 x0 x1 x2 (fun _ _ d => 0)
  | n + 1 => st_231_5 x0 x1 x2 (lp_231_5 x0 x1 x2 n)
theorem ls_231_5 {E : mO × tW} {K : tK} {x0 x1 x2 : Int} (hx0 : mdB x0) (p1 : 0 ≤ x1 ∧ x1 ≤ 60) (p2 : -2147483648 ≤ x2 ∧ x2 ≤ 2147483647) (N5 : Int) (r5 : Int → Int → mD → Int) (ih5 : ∀ (x3 x4 : Int) (v5 : tV) (d : mD), Safe d → (0 ≤ x4 ∧ x4 ≤ 61) → (0 ≤ x3 ∧ x3 ≤ 1200) → 0 ≤ 61 - x4 → 61 - x4 < N5 → ((0 ≤ (r5 x3 x4 d) ∧ (r5 x3 x4 d) ≤ 1200) → K (.inl (some (0, (r5 x3 x4 d)))) d) → tRun E 231 (5, [.inr (11, x0), .inl (0, x1), .inl (0, x2), .inl (0, x3), .inl (0, x4), v5], [], 0, 0, d) K) (x3 x4 : Int) (v5 : tV) (d : mD) (hS : Safe d) (i0 : 0 ≤ x4 ∧ x4 ≤ 61) (i1 : 0 ≤ x3 ∧ x3 ≤ 1200) (hm : 61 - x4 ≤ N5) (h : (0 ≤ (st_231_5 x0 x1 x2 r5 x3 x4 d) ∧ (st_231_5 x0 x1 x2 r5 x3 x4 d) ≤ 1200) → K (.inl (some (0, (st_231_5 x0 x1 x2 r5 x3 x4 d)))) d) : tRun E 231 (5, [.inr (11, x0), .inl (0, x1), .inl (0, x2), .inl (0, x3), .inl (0, x4), v5], [], 0, 0, d) K := by
  refine t_231_5 ?_
  have q1 := mh_9 hS hx0 _ rfl
  refine ⟨by omega, ⟨m_inR (by omega) (by omega), m_inR (by omega) (by omega)⟩, fun c0 => ?_, fun c0 => ?_⟩
  · have y0 : st_231_5 x0 x1 x2 r5 x3 x4 d = x3 := by simp only [st_231_5, if_neg (show ¬ x4 < d (x0 + 1) 9 from Int.not_lt.mpr c0)]
    rw [y0] at h
    exact h (show 0 ≤ x3 ∧ x3 ≤ 1200 from (by omega))
  · refine ⟨⟨m_inR (by omega) (by omega), m_inR (by omega) (by omega)⟩, fun c1 => ?_, fun c1 => ?_⟩
    · refine ⟨m_inR (by omega) (by omega), fun c2 => ?_, fun c2 => ?_⟩
      · refine ih5 x3 (x4 + 1) (.inl (0, 0)) d hS (by omega) (by omega) (by omega) (by omega) ?_
        intro e
        have y0 : st_231_5 x0 x1 x2 r5 x3 x4 d = r5 x3 (x4 + 1) d := by simp only [st_231_5, if_pos (show x4 < d (x0 + 1) 9 from c0), if_pos (show x4 = x1 from c1), if_pos (show (0 : Int) = 0 from c2)]
        rw [y0] at h
        exact h e
      · exact (show False by omega).elim
    · refine k_179 hS ?_
      refine t_231_32 ?_
      have q2 := mt_0 hS hx0 x4 ((452 + (24 * x4)) + 0) (by omega) (by omega)
      refine ⟨by omega, ⟨m_inR (by omega) (by omega), m_inR (by omega) (by omega)⟩, fun c2 => ?_, fun c2 => ?_⟩
      · refine ⟨m_inR (by omega) (by omega), fun c3 => ?_, fun c3 => ?_⟩
        · refine ih5 x3 (x4 + 1) (.inl (0, 0)) d hS (by omega) (by omega) (by omega) (by omega) ?_
          intro e
          have y0 : st_231_5 x0 x1 x2 r5 x3 x4 d = r5 x3 (x4 + 1) d := by simp only [st_231_5, if_pos (show x4 < d (x0 + 1) 9 from c0), if_neg (show ¬ x4 = x1 from c1), if_neg (show ¬ d (x0 + 1) ((452 + (24 * x4)) + 0) = x2 from c2), if_pos (show (0 : Int) = 0 from c3)]
          rw [y0] at h
          exact h e
        · exact (show False by omega).elim
      · refine k_179 hS ?_
        refine t_231_48 ?_
        refine ⟨by omega, ?_⟩
        refine k_179 hS ?_
        refine t_231_59 ?_
        have q3 := mt_1 hS hx0 x4 ((452 + (24 * x4)) + 1) (by omega) (by omega)
        have q4 := mt_1 hS hx0 x1 ((452 + (24 * x1)) + 1) (by omega) (by omega)
        refine ⟨by omega, ⟨m_inR (by omega) (by omega), m_inR (by omega) (by omega)⟩, fun c3 => ?_, fun c3 => ?_⟩
        · refine ⟨m_inR (by omega) (by omega), fun c4 => ?_, fun c4 => ?_⟩
          · refine ih5 x3 (x4 + 1) (.inl (0, 0)) d hS (by omega) (by omega) (by omega) (by omega) ?_
            intro e
            have y0 : st_231_5 x0 x1 x2 r5 x3 x4 d = r5 x3 (x4 + 1) d := by simp only [st_231_5, if_pos (show x4 < d (x0 + 1) 9 from c0), if_neg (show ¬ x4 = x1 from c1), if_pos (show d (x0 + 1) ((452 + (24 * x4)) + 0) = x2 from c2), if_neg (show ¬ d (x0 + 1) ((452 + (24 * x4)) + 1) = d (x0 + 1) ((452 + (24 * x1)) + 1) from c3), if_pos (show (0 : Int) = 0 from c4)]
            rw [y0] at h
            exact h e
          · exact (show False by omega).elim
        · refine ⟨m_inR (by omega) (by omega), fun c4 => ?_, fun c4 => ?_⟩
          · exact (show False by omega).elim
          · refine k_230 hS hx0 (by omega) (by omega) (fun e1 => ?_)
            refine t_231_84 ?_
            refine ⟨⟨m_inR (by omega) (by omega), m_inR (by omega) (by omega)⟩, fun c5 => ?_, fun c5 => ?_⟩
            · refine ih5 x3 (x4 + 1) (.inl (0, 1)) d hS (by omega) (by omega) (by omega) (by omega) ?_
              intro e
              have y0 : st_231_5 x0 x1 x2 r5 x3 x4 d = r5 x3 (x4 + 1) d := by simp only [st_231_5, if_pos (show x4 < d (x0 + 1) 9 from c0), if_neg (show ¬ x4 = x1 from c1), if_pos (show d (x0 + 1) ((452 + (24 * x4)) + 0) = x2 from c2), if_pos (show d (x0 + 1) ((452 + (24 * x4)) + 1) = d (x0 + 1) ((452 + (24 * x1)) + 1) from c3), if_neg (show ¬ (1 : Int) = 0 from c4), if_neg (show ¬ x3 < v_230 x0 x1 x4 d from Int.not_lt.mpr c5)]
              rw [y0] at h
              exact h e
            · refine k_230 hS hx0 (by omega) (by omega) (fun e2 => ?_)
              refine t_231_95 ?_
              refine ih5 (v_230 x0 x1 x4 d) (x4 + 1) (.inl (0, 1)) d hS (by omega) (by omega) (by omega) (by omega) ?_
              intro e
              have y0 : st_231_5 x0 x1 x2 r5 x3 x4 d = r5 (v_230 x0 x1 x4 d) (x4 + 1) d := by simp only [st_231_5, if_pos (show x4 < d (x0 + 1) 9 from c0), if_neg (show ¬ x4 = x1 from c1), if_pos (show d (x0 + 1) ((452 + (24 * x4)) + 0) = x2 from c2), if_pos (show d (x0 + 1) ((452 + (24 * x4)) + 1) = d (x0 + 1) ((452 + (24 * x1)) + 1) from c3), if_neg (show ¬ (1 : Int) = 0 from c4), if_pos (show x3 < v_230 x0 x1 x4 d from c5)]
              rw [y0] at h
              exact h e
theorem l_231_5 {E : mO × tW} {K : tK} {x0 x1 x2 : Int} (hx0 : mdB x0) (p1 : 0 ≤ x1 ∧ x1 ≤ 60) (p2 : -2147483648 ≤ x2 ∧ x2 ≤ 2147483647) : ∀ (n : Nat) (x3 x4 : Int) (v5 : tV) (d : mD), Safe d → (0 ≤ x4 ∧ x4 ≤ 61) → (0 ≤ x3 ∧ x3 ≤ 1200) → 61 - x4 ≤ (n : Int) → ((0 ≤ (lp_231_5 x0 x1 x2 n x3 x4 d) ∧ (lp_231_5 x0 x1 x2 n x3 x4 d) ≤ 1200) → K (.inl (some (0, (lp_231_5 x0 x1 x2 n x3 x4 d)))) d) → tRun E 231 (5, [.inr (11, x0), .inl (0, x1), .inl (0, x2), .inl (0, x3), .inl (0, x4), v5], [], 0, 0, d) K := by
  intro n
  induction n with
  | zero =>
    intro x3 x4 v5 d hS i0 i1 hm  h
    exact ls_231_5 hx0 p1 p2 0 _ (fun _ _ _ _ _ _ _ m0 m1 _ => absurd m1 (by omega)) x3 x4 v5 d hS i0 i1 hm  h
  | succ n ih =>
    intro x3 x4 v5 d hS i0 i1 hm  h
    exact ls_231_5 hx0 p1 p2 ((n + 1 : Nat) : Int) _ (fun x3 x4 v5 d hS i0 i1  m0 m1 h => ih x3 x4 v5 d hS i0 i1 (by omega)  h) x3 x4 v5 d hS i0 i1 hm  h
def v_231 (x0 x1 x2 : Int) (d : mD) : Int := lp_231_5 x0 x1 x2 (61 - 0 : Int).toNat 0 0 d
theorem k_231 {E : mO × tW} {K : tK} {d : mD} {x0 x1 x2 : Int} (hS : Safe d) (hx0 : mdB x0) (p1 : 0 ≤ x1 ∧ x1 ≤ 60) (p2 : -2147483648 ≤ x2 ∧ x2 ≤ 2147483647) (h : (0 ≤ (v_231 x0 x1 x2 d) ∧ (v_231 x0 x1 x2 d) ≤ 1200) → K (.inl (some (0, (v_231 x0 x1 x2 d)))) d) : tCall E 231 [.inr (11, x0), .inl (0, x1), .inl (0, x2)] d K := by
  refine t_231_0 ?_
  refine l_231_5 hx0 p1 p2 (61 - 0 : Int).toNat 0 0 tu d hS (by omega) (by omega) (by omega) ?_
  intro e
  have y0 : v_231 x0 x1 x2 d = lp_231_5 x0 x1 x2 (61 - 0 : Int).toNat 0 0 d := by simp only [v_231]
  rw [y0] at h
  exact h e
def v_232 (x0 x1 x2 : Int) (d : mD) : Int := if (0 : Int) < d (x0 + 1) (((452 + (24 * x1)) + 8) + x2) then (if ((d (x0 + 1) (((452 + (24 * x1)) + 8) + x2)) - 1) / 20 = (d (x0 + 1) 0) / 20 then 1 else 0) else 0
theorem k_232 {E : mO × tW} {K : tK} {d : mD} {x0 x1 x2 : Int} (hS : Safe d) (hx0 : mdB x0) (p1 : 0 ≤ x1 ∧ x1 ≤ 60) (p2 : 0 ≤ x2 ∧ x2 ≤ 15) (h : (0 ≤ (v_232 x0 x1 x2 d) ∧ (v_232 x0 x1 x2 d) ≤ 1) → K (.inl (some (0, (v_232 x0 x1 x2 d)))) d) : tCall E 232 [.inr (11, x0), .inl (0, x1), .inl (0, x2)] d K := by
  refine t_232_0 ?_
  refine k_179 hS ?_
  refine t_232_8 ?_
  have q1 := mt_w hS hx0 x1 x2 (((452 + (24 * x1)) + 8) + x2) (by omega) (by omega) (by omega)
  refine ⟨by omega, m_inR (by omega) (by omega), fun c0 => ?_, fun c0 => ?_⟩
  · refine ⟨by omega, ?_⟩
    have y0 : v_232 x0 x1 x2 d = 0 := by simp only [v_232, if_neg (show ¬ (0 : Int) < d (x0 + 1) (((452 + (24 * x1)) + 8) + x2) from Int.not_lt.mpr c0)]
    rw [y0] at h
    exact h (show 0 ≤ ((0 : Int)) ∧ ((0 : Int)) ≤ 1 from (by omega))
  · have q2 := mh_0 hS hx0 _ rfl
    refine ⟨by omega, by omega, by omega, ⟨m_inR (by omega) (by omega), m_inR (by omega) (by omega)⟩, fun c1 => ?_, fun c1 => ?_⟩
    · refine ⟨by omega, ?_⟩
      have y0 : v_232 x0 x1 x2 d = 0 := by simp only [v_232, if_pos (show (0 : Int) < d (x0 + 1) (((452 + (24 * x1)) + 8) + x2) from c0), if_neg (show ¬ ((d (x0 + 1) (((452 + (24 * x1)) + 8) + x2)) - 1) / 20 = (d (x0 + 1) 0) / 20 from c1)]
      rw [y0] at h
      exact h (show 0 ≤ ((0 : Int)) ∧ ((0 : Int)) ≤ 1 from (by omega))
    · refine ⟨by omega, ?_⟩
      have y0 : v_232 x0 x1 x2 d = 1 := by simp only [v_232, if_pos (show (0 : Int) < d (x0 + 1) (((452 + (24 * x1)) + 8) + x2) from c0), if_pos (show ((d (x0 + 1) (((452 + (24 * x1)) + 8) + x2)) - 1) / 20 = (d (x0 + 1) 0) / 20 from c1)]
      rw [y0] at h
      exact h (show 0 ≤ ((1 : Int)) ∧ ((1 : Int)) ≤ 1 from (by omega))
def st_233_4 (x0 x1 : Int) (r4 : Int → Int → mD → Int) (x2 x3 : Int) (d : mD) : Int := if x3 < d (x0 + 1) 9 then (if v_232 x0 x3 x1 d = 0 then r4 (x2 + 0) (x3 + 1) d else r4 (x2 + 1) (x3 + 1) d) else x2
def lp_233_4 (x0 x1 : Int) : Nat → Int → Int → mD → Int
  | 0 => st_233_4 x0 x1 (fun _ _ d => 0)
  | n + 1 => st_233_4 x0 x1 (lp_233_4 x0 x1 n)
theorem ls_233_4 {E : mO × tW} {K : tK} {x0 x1 : Int} (hx0 : mdB x0) (p1 : 0 ≤ x1 ∧ x1 ≤ 15) (N4 : Int) (r4 : Int → Int → mD → Int) (ih4 : ∀ (x2 x3 : Int) (d : mD), Safe d → (0 ≤ x3 ∧ x3 ≤ 61) → (0 ≤ x2 ∧ x2 ≤ x3) → 0 ≤ 61 - x3 → 61 - x3 < N4 → ((0 ≤ (r4 x2 x3 d) ∧ (r4 x2 x3 d) ≤ 61) → K (.inl (some (0, (r4 x2 x3 d)))) d) → tRun E 233 (4, [.inr (11, x0), .inl (0, x1), .inl (0, x2), .inl (0, x3)], [], 0, 0, d) K) (x2 x3 : Int) (d : mD) (hS : Safe d) (i0 : 0 ≤ x3 ∧ x3 ≤ 61) (i1 : 0 ≤ x2 ∧ x2 ≤ x3) (hm : 61 - x3 ≤ N4) (h : (0 ≤ (st_233_4 x0 x1 r4 x2 x3 d) ∧ (st_233_4 x0 x1 r4 x2 x3 d) ≤ 61) → K (.inl (some (0, (st_233_4 x0 x1 r4 x2 x3 d)))) d) : tRun E 233 (4, [.inr (11, x0), .inl (0, x1), .inl (0, x2), .inl (0, x3)], [], 0, 0, d) K := by
  refine t_233_4 ?_
  have q1 := mh_9 hS hx0 _ rfl
  refine ⟨by omega, ⟨m_inR (by omega) (by omega), m_inR (by omega) (by omega)⟩, fun c0 => ?_, fun c0 => ?_⟩
  · have y0 : st_233_4 x0 x1 r4 x2 x3 d = x2 := by simp only [st_233_4, if_neg (show ¬ x3 < d (x0 + 1) 9 from Int.not_lt.mpr c0)]
    rw [y0] at h
    exact h (show 0 ≤ x2 ∧ x2 ≤ 61 from (by omega))
  · refine k_232 hS hx0 (by omega) (by omega) (fun e1 => ?_)
    refine t_233_22 ?_
    refine ⟨m_inR (by omega) (by omega), fun c1 => ?_, fun c1 => ?_⟩
    · refine ih4 (x2 + 0) (x3 + 1)  d hS (by omega) (by omega) (by omega) (by omega) ?_
      intro e
      have y0 : st_233_4 x0 x1 r4 x2 x3 d = r4 (x2 + 0) (x3 + 1) d := by simp only [st_233_4, if_pos (show x3 < d (x0 + 1) 9 from c0), if_pos (show v_232 x0 x3 x1 d = 0 from c1)]
      rw [y0] at h
      exact h e
    · refine ih4 (x2 + 1) (x3 + 1)  d hS (by omega) (by omega) (by omega) (by omega) ?_
      intro e
      have y0 : st_233_4 x0 x1 r4 x2 x3 d = r4 (x2 + 1) (x3 + 1) d := by simp only [st_233_4, if_pos (show x3 < d (x0 + 1) 9 from c0), if_neg (show ¬ v_232 x0 x3 x1 d = 0 from c1)]
      rw [y0] at h
      exact h e
theorem l_233_4 {E : mO × tW} {K : tK} {x0 x1 : Int} (hx0 : mdB x0) (p1 : 0 ≤ x1 ∧ x1 ≤ 15) : ∀ (n : Nat) (x2 x3 : Int) (d : mD), Safe d → (0 ≤ x3 ∧ x3 ≤ 61) → (0 ≤ x2 ∧ x2 ≤ x3) → 61 - x3 ≤ (n : Int) → ((0 ≤ (lp_233_4 x0 x1 n x2 x3 d) ∧ (lp_233_4 x0 x1 n x2 x3 d) ≤ 61) → K (.inl (some (0, (lp_233_4 x0 x1 n x2 x3 d)))) d) → tRun E 233 (4, [.inr (11, x0), .inl (0, x1), .inl (0, x2), .inl (0, x3)], [], 0, 0, d) K := by
  intro n
  induction n with
  | zero =>
    intro x2 x3  d hS i0 i1 hm  h
    exact ls_233_4 hx0 p1 0 _ (fun _ _  _ _ _ _ m0 m1 _ => absurd m1 (by omega)) x2 x3  d hS i0 i1 hm  h
  | succ n ih =>
    intro x2 x3  d hS i0 i1 hm  h
    exact ls_233_4 hx0 p1 ((n + 1 : Nat) : Int) _ (fun x2 x3  d hS i0 i1  m0 m1 h => ih x2 x3  d hS i0 i1 (by omega)  h) x2 x3  d hS i0 i1 hm  h
def v_233 (x0 x1 : Int) (d : mD) : Int := lp_233_4 x0 x1 (61 - 0 : Int).toNat 0 0 d
theorem k_233 {E : mO × tW} {K : tK} {d : mD} {x0 x1 : Int} (hS : Safe d) (hx0 : mdB x0) (p1 : 0 ≤ x1 ∧ x1 ≤ 15) (h : (0 ≤ (v_233 x0 x1 d) ∧ (v_233 x0 x1 d) ≤ 61) → K (.inl (some (0, (v_233 x0 x1 d)))) d) : tCall E 233 [.inr (11, x0), .inl (0, x1)] d K := by
  refine t_233_0 ?_
  refine l_233_4 hx0 p1 (61 - 0 : Int).toNat 0 0  d hS (by omega) (by omega) (by omega) ?_
  intro e
  have y0 : v_233 x0 x1 d = lp_233_4 x0 x1 (61 - 0 : Int).toNat 0 0 d := by simp only [v_233]
  rw [y0] at h
  exact h e
