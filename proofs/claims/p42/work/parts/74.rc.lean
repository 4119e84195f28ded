/-! ===== contracts of the reference's methods: printed by a program of mine ===== -/
def st_223_71 (x0 : Int) (r71 : Int → mD → mD) (x1 : Int) (d : mD) : mD := if x1 < d (x0 + 1) 9 then (if (d (x0 + 1) 0) % 20 = 0 then (if d (x0 + 1) ((452 + (24 * x1)) + 6) = 0 then r71 (x1 + 1) d else r71 (x1 + 1) (g_218 x0 x1 d)) else g_219 x0 d) else g_219 x0 d
def lp_223_71 (x0 : Int) : Nat → Int → mD → mD
  | 0 => st_223_71 x0 (fun _ d => d)
  | n + 1 => st_223_71 x0 (lp_223_71 x0 n)
theorem ls_223_71 {E : mO × tW} {K : tK} {x0 : Int} (hx0 : mdB x0) (N71 : Int) (r71 : Int → mD → mD) (ih71 : ∀ (x1 : Int) (v2 : tV) (d : mD), Safe d → (0 ≤ x1 ∧ x1 ≤ 61) → 0 ≤ 61 - x1 → 61 - x1 < N71 → ((∀ b : Int, (b < x0 + 1 ∨ x0 + 1 < b) → (r71 x1 d) b = d b) → (∀ i : Int, ((0 ≤ i ∧ i ≤ 8 ∧ ¬ i = 1) ∨ (12 ≤ i ∧ i < 420 ∧ (i - 12) % 68 ≤ 4) ∨ (420 ≤ i ∧ i < 452 ∧ i % 2 = 0) ∨ i = 9 ∨ (452 ≤ i ∧ i < 1916 ∧ 5 ≤ (i - 452) % 24)) ∧ ¬ i = 0 → (r71 x1 d) (x0 + 1) i = d (x0 + 1) i) → ((r71 x1 d) (x0 + 1) 0 = d (x0 + 1) 0) → Safe (r71 x1 d) → K (.inl none) (r71 x1 d)) → tRun E 223 (71, [.inr (11, x0), .inl (0, x1), v2], [], 0, 0, d) K) (x1 : Int) (v2 : tV) (d : mD) (hS : Safe d) (i0 : 0 ≤ x1 ∧ x1 ≤ 61) (hm : 61 - x1 ≤ N71) (h : (∀ b : Int, (b < x0 + 1 ∨ x0 + 1 < b) → (st_223_71 x0 r71 x1 d) b = d b) → (∀ i : Int, ((0 ≤ i ∧ i ≤ 8 ∧ ¬ i = 1) ∨ (12 ≤ i ∧ i < 420 ∧ (i - 12) % 68 ≤ 4) ∨ (420 ≤ i ∧ i < 452 ∧ i % 2 = 0) ∨ i = 9 ∨ (452 ≤ i ∧ i < 1916 ∧ 5 ≤ (i - 452) % 24)) ∧ ¬ i = 0 → (st_223_71 x0 r71 x1 d) (x0 + 1) i = d (x0 + 1) i) → ((st_223_71 x0 r71 x1 d) (x0 + 1) 0 = d (x0 + 1) 0) → Safe (st_223_71 x0 r71 x1 d) → K (.inl none) (st_223_71 x0 r71 x1 d)) : tRun E 223 (71, [.inr (11, x0), .inl (0, x1), v2], [], 0, 0, d) K := by
  refine t_223_71 ?_
  have q1 := mh_9 hS hx0 _ rfl
  refine ⟨by omega, ⟨m_inR (by omega) (by omega), m_inR (by omega) (by omega)⟩, fun c0 => ?_, fun c0 => ?_⟩
  · refine k_219 hS hx0 (fun e1 F1 Q1 hS1 => ?_)
    refine t_223_125 ?_
    have q2 : (g_219 x0 d) (x0 + 1) 0 = d (x0 + 1) 0 := Q1 0 (by omega)
    have y0 : st_223_71 x0 r71 x1 d = g_219 x0 d := by simp only [st_223_71, if_neg (show ¬ x1 < d (x0 + 1) 9 from Int.not_lt.mpr c0)]
    rw [y0] at h
    exact h (show ∀ b : Int, (b < x0 + 1 ∨ x0 + 1 < b) → (g_219 x0 d) b = d b from fun b hb => F1 b (by omega)) (show ∀ i : Int, ((0 ≤ i ∧ i ≤ 8 ∧ ¬ i = 1) ∨ (12 ≤ i ∧ i < 420 ∧ (i - 12) % 68 ≤ 4) ∨ (420 ≤ i ∧ i < 452 ∧ i % 2 = 0) ∨ i = 9 ∨ (452 ≤ i ∧ i < 1916 ∧ 5 ≤ (i - 452) % 24)) ∧ ¬ i = 0 → (g_219 x0 d) (x0 + 1) i = d (x0 + 1) i from fun i hi => Q1 i (by omega)) (show (g_219 x0 d) (x0 + 1) 0 = d (x0 + 1) 0 by omega) hS1
  · have q3 := mh_0 hS hx0 _ rfl
    refine ⟨by omega, by omega, m_inR (by omega) (by omega), fun c1 => ?_, fun c1 => ?_⟩
    · refine k_219 hS hx0 (fun e2 F2 Q2 hS2 => ?_)
      refine t_223_125 ?_
      have q4 : (g_219 x0 d) (x0 + 1) 0 = d (x0 + 1) 0 := Q2 0 (by omega)
      have y0 : st_223_71 x0 r71 x1 d = g_219 x0 d := by simp only [st_223_71, if_pos (show x1 < d (x0 + 1) 9 from c0), if_neg (show ¬ (d (x0 + 1) 0) % 20 = 0 from c1)]
      rw [y0] at h
      exact h (show ∀ b : Int, (b < x0 + 1 ∨ x0 + 1 < b) → (g_219 x0 d) b = d b from fun b hb => F2 b (by omega)) (show ∀ i : Int, ((0 ≤ i ∧ i ≤ 8 ∧ ¬ i = 1) ∨ (12 ≤ i ∧ i < 420 ∧ (i - 12) % 68 ≤ 4) ∨ (420 ≤ i ∧ i < 452 ∧ i % 2 = 0) ∨ i = 9 ∨ (452 ≤ i ∧ i < 1916 ∧ 5 ≤ (i - 452) % 24)) ∧ ¬ i = 0 → (g_219 x0 d) (x0 + 1) i = d (x0 + 1) i from fun i hi => Q2 i (by omega)) (show (g_219 x0 d) (x0 + 1) 0 = d (x0 + 1) 0 by omega) hS2
    · refine k_179 hS ?_
      refine t_223_102 ?_
      have q5 := mt_6 hS hx0 x1 ((452 + (24 * x1)) + 6) (by omega) (by omega)
      refine ⟨by omega, m_inR (by omega) (by omega), fun c2 => ?_, fun c2 => ?_⟩
      · refine ih71 (x1 + 1) v2 d hS (by omega) (by omega) (by omega) ?_
        intro F Q n0 hS_
        have y0 : st_223_71 x0 r71 x1 d = r71 (x1 + 1) d := by simp only [st_223_71, if_pos (show x1 < d (x0 + 1) 9 from c0), if_pos (show (d (x0 + 1) 0) % 20 = 0 from c1), if_pos (show d (x0 + 1) ((452 + (24 * x1)) + 6) = 0 from c2)]
        rw [y0] at h
        exact h F Q (by omega) hS_
      · refine k_218 hS hx0 (by omega) (fun e3 F3 Q3 hS3 => ?_)
        refine t_223_114 ?_
        refine ih71 (x1 + 1) (.inl (0, v_218 x0 x1 d)) (g_218 x0 x1 d) hS3 (by omega) (by omega) (by omega) ?_
        intro F Q n0 hS_
        have q6 : (g_218 x0 x1 d) (x0 + 1) 0 = d (x0 + 1) 0 := Q3 0 (by omega)
        have y0 : st_223_71 x0 r71 x1 d = r71 (x1 + 1) (g_218 x0 x1 d) := by simp only [st_223_71, if_pos (show x1 < d (x0 + 1) 9 from c0), if_pos (show (d (x0 + 1) 0) % 20 = 0 from c1), if_neg (show ¬ d (x0 + 1) ((452 + (24 * x1)) + 6) = 0 from c2)]
        rw [y0] at h
        exact h (fun b hb => (F b hb).trans ((show ∀ b : Int, (b < x0 + 1 ∨ x0 + 1 < b) → (g_218 x0 x1 d) b = d b from fun b hb => F3 b (by omega)) b hb)) (fun i hi => (Q i hi).trans ((show ∀ i : Int, ((0 ≤ i ∧ i ≤ 8 ∧ ¬ i = 1) ∨ (12 ≤ i ∧ i < 420 ∧ (i - 12) % 68 ≤ 4) ∨ (420 ≤ i ∧ i < 452 ∧ i % 2 = 0) ∨ i = 9 ∨ (452 ≤ i ∧ i < 1916 ∧ 5 ≤ (i - 452) % 24)) ∧ ¬ i = 0 → (g_218 x0 x1 d) (x0 + 1) i = d (x0 + 1) i from fun i hi => Q3 i (by omega)) i hi)) (by omega) hS_
theorem l_223_71 {E : mO × tW} {K : tK} {x0 : Int} (hx0 : mdB x0) : ∀ (n : Nat) (x1 : Int) (v2 : tV) (d : mD), Safe d → (0 ≤ x1 ∧ x1 ≤ 61) → 61 - x1 ≤ (n : Int) → ((∀ b : Int, (b < x0 + 1 ∨ x0 + 1 < b) → (lp_223_71 x0 n x1 d) b = d b) → (∀ i : Int, ((0 ≤ i ∧ i ≤ 8 ∧ ¬ i = 1) ∨ (12 ≤ i ∧ i < 420 ∧ (i - 12) % 68 ≤ 4) ∨ (420 ≤ i ∧ i < 452 ∧ i % 2 = 0) ∨ i = 9 ∨ (452 ≤ i ∧ i < 1916 ∧ 5 ≤ (i - 452) % 24)) ∧ ¬ i = 0 → (lp_223_71 x0 n x1 d) (x0 + 1) i = d (x0 + 1) i) → ((lp_223_71 x0 n x1 d) (x0 + 1) 0 = d (x0 + 1) 0) → Safe (lp_223_71 x0 n x1 d) → K (.inl none) (lp_223_71 x0 n x1 d)) → tRun E 223 (71, [.inr (11, x0), .inl (0, x1), v2], [], 0, 0, d) K := by
  intro n
  induction n with
  | zero =>
    intro x1 v2 d hS i0 hm  h
    exact ls_223_71 hx0 0 _ (fun _ _ _ _ _ m0 m1 _ => absurd m1 (by omega)) x1 v2 d hS i0 hm  h
  | succ n ih =>
    intro x1 v2 d hS i0 hm  h
    exact ls_223_71 hx0 ((n + 1 : Nat) : Int) _ (fun x1 v2 d hS i0  m0 m1 h => ih x1 v2 d hS i0 (by omega)  h) x1 v2 d hS i0 hm  h
def st_223_12 (x0 : Int) (r12 : Int → mD → mD) (x1 : Int) (d : mD) : mD := if x1 < d (x0 + 1) 7 then (if d (x0 + 1) ((12 + (68 * x1)) + 4) = 0 then r12 (x1 + 1) d else if (d (x0 + 1) 0) % (d (x0 + 1) ((12 + (68 * x1)) + 2)) = 0 then r12 (x1 + 1) (g_222 x0 x1 d) else r12 (x1 + 1) d) else lp_223_71 x0 (61 - 0 : Int).toNat 0 d
def lp_223_12 (x0 : Int) : Nat → Int → mD → mD
  | 0 => st_223_12 x0 (fun _ d => d)
  | n + 1 => st_223_12 x0 (lp_223_12 x0 n)
theorem ls_223_12 {E : mO × tW} {K : tK} {x0 : Int} (hx0 : mdB x0) (N12 : Int) (r12 : Int → mD → mD) (ih12 : ∀ (x1 : Int) (d : mD), Safe d → (0 ≤ x1 ∧ x1 ≤ 6) → (mpP (d (x0 + 1))) → 0 ≤ 6 - x1 → 6 - x1 < N12 → ((∀ b : Int, (b < x0 + 1 ∨ x0 + 1 < b) → (r12 x1 d) b = d b) → (∀ i : Int, ((0 ≤ i ∧ i ≤ 8 ∧ ¬ i = 1) ∨ (12 ≤ i ∧ i < 420 ∧ (i - 12) % 68 ≤ 4) ∨ (420 ≤ i ∧ i < 452 ∧ i % 2 = 0) ∨ i = 9 ∨ (452 ≤ i ∧ i < 1916 ∧ 5 ≤ (i - 452) % 24)) ∧ ¬ i = 0 → (r12 x1 d) (x0 + 1) i = d (x0 + 1) i) → ((r12 x1 d) (x0 + 1) 0 = d (x0 + 1) 0) → Safe (r12 x1 d) → K (.inl none) (r12 x1 d)) → tRun E 223 (12, [.inr (11, x0), .inl (0, x1), tu], [], 0, 0, d) K) (x1 : Int) (d : mD) (hS : Safe d) (i0 : 0 ≤ x1 ∧ x1 ≤ 6) (hmp : mpP (d (x0 + 1))) (hm : 6 - x1 ≤ N12) (h : (∀ b : Int, (b < x0 + 1 ∨ x0 + 1 < b) → (st_223_12 x0 r12 x1 d) b = d b) → (∀ i : Int, ((0 ≤ i ∧ i ≤ 8 ∧ ¬ i = 1) ∨ (12 ≤ i ∧ i < 420 ∧ (i - 12) % 68 ≤ 4) ∨ (420 ≤ i ∧ i < 452 ∧ i % 2 = 0) ∨ i = 9 ∨ (452 ≤ i ∧ i < 1916 ∧ 5 ≤ (i - 452) % 24)) ∧ ¬ i = 0 → (st_223_12 x0 r12 x1 d) (x0 + 1) i = d (x0 + 1) i) → ((st_223_12 x0 r12 x1 d) (x0 + 1) 0 = d (x0 + 1) 0) → Safe (st_223_12 x0 r12 x1 d) → K (.inl none) (st_223_12 x0 r12 x1 d)) : tRun E 223 (12, [.inr (11, x0), .inl (0, x1), tu], [], 0, 0, d) K := by
  refine t_223_12 ?_
  have q7 := mh_7 hS hx0 _ rfl
  refine ⟨by omega, ⟨m_inR (by omega) (by omega), m_inR (by omega) (by omega)⟩, fun c0 => ?_, fun c0 => ?_⟩
  · refine l_223_71 hx0 (61 - 0 : Int).toNat 0 tu d hS (by omega) (by omega) ?_
    intro F Q n0 hS_
    have y0 : st_223_12 x0 r12 x1 d = lp_223_71 x0 (61 - 0 : Int).toNat 0 d := by simp only [st_223_12, if_neg (show ¬ x1 < d (x0 + 1) 7 from Int.not_lt.mpr c0)]
    rw [y0] at h
    exact h F Q (by omega) hS_
  · refine k_177 hS ?_
    refine t_223_31 ?_
    have q8 := mo_4 hS hx0 x1 ((12 + (68 * x1)) + 4) (by omega) (by omega)
    refine ⟨by omega, m_inR (by omega) (by omega), fun c1 => ?_, fun c1 => ?_⟩
    · refine t_223_63 ?_
      refine ih12 (x1 + 1)  d hS (by omega) hmp (by omega) (by omega) ?_
      intro F Q n0 hS_
      have y0 : st_223_12 x0 r12 x1 d = r12 (x1 + 1) d := by simp only [st_223_12, if_pos (show x1 < d (x0 + 1) 7 from c0), if_pos (show d (x0 + 1) ((12 + (68 * x1)) + 4) = 0 from c1)]
      rw [y0] at h
      exact h F Q (by omega) hS_
    · refine ⟨by omega, ?_⟩
      refine k_177 hS ?_
      refine t_223_51 ?_
      have q9 := mh_0 hS hx0 _ rfl
      have q10 := mo_2 hS hx0 x1 ((12 + (68 * x1)) + 2) (by omega) (by omega)
      have q11 := hmp x1 (by omega) (by omega)
      have q12 := mmod_r (x := d (x0 + 1) 0) (y := d (x0 + 1) ((12 + (68 * x1)) + 2)) (by omega) (by omega)
      refine ⟨by omega, by omega, m_inR (by omega) (by omega), fun c2 => ?_, fun c2 => ?_⟩
      · refine t_223_63 ?_
        refine ih12 (x1 + 1)  d hS (by omega) hmp (by omega) (by omega) ?_
        intro F Q n0 hS_
        have y0 : st_223_12 x0 r12 x1 d = r12 (x1 + 1) d := by simp only [st_223_12, if_pos (show x1 < d (x0 + 1) 7 from c0), if_neg (show ¬ d (x0 + 1) ((12 + (68 * x1)) + 4) = 0 from c1), if_neg (show ¬ (d (x0 + 1) 0) % (d (x0 + 1) ((12 + (68 * x1)) + 2)) = 0 from c2)]
        rw [y0] at h
        exact h F Q (by omega) hS_
      · refine k_222 hS hx0 (by omega) (fun F4 Q4 hS4 => ?_)
        refine t_223_63 ?_
        refine ih12 (x1 + 1)  (g_222 x0 x1 d) hS4 (by omega) (mpP.of (mh_7 hS hx0 _ rfl) (show ∀ i : Int, i = 7 ∨ (12 ≤ i ∧ i < 420 ∧ (i - 12) % 68 = 2) → (g_222 x0 x1 d) (x0 + 1) i = d (x0 + 1) i from fun i hi => Q4 i (by omega)) hmp) (by omega) (by omega) ?_
        intro F Q n0 hS_
        have q13 : (g_222 x0 x1 d) (x0 + 1) 0 = d (x0 + 1) 0 := Q4 0 (by omega)
        have y0 : st_223_12 x0 r12 x1 d = r12 (x1 + 1) (g_222 x0 x1 d) := by simp only [st_223_12, if_pos (show x1 < d (x0 + 1) 7 from c0), if_neg (show ¬ d (x0 + 1) ((12 + (68 * x1)) + 4) = 0 from c1), if_pos (show (d (x0 + 1) 0) % (d (x0 + 1) ((12 + (68 * x1)) + 2)) = 0 from c2)]
        rw [y0] at h
        exact h (fun b hb => (F b hb).trans ((show ∀ b : Int, (b < x0 + 1 ∨ x0 + 1 < b) → (g_222 x0 x1 d) b = d b from fun b hb => F4 b (by omega)) b hb)) (fun i hi => (Q i hi).trans ((show ∀ i : Int, ((0 ≤ i ∧ i ≤ 8 ∧ ¬ i = 1) ∨ (12 ≤ i ∧ i < 420 ∧ (i - 12) % 68 ≤ 4) ∨ (420 ≤ i ∧ i < 452 ∧ i % 2 = 0) ∨ i = 9 ∨ (452 ≤ i ∧ i < 1916 ∧ 5 ≤ (i - 452) % 24)) ∧ ¬ i = 0 → (g_222 x0 x1 d) (x0 + 1) i = d (x0 + 1) i from fun i hi => Q4 i (by omega)) i hi)) (by omega) hS_
theorem l_223_12 {E : mO × tW} {K : tK} {x0 : Int} (hx0 : mdB x0) : ∀ (n : Nat) (x1 : Int) (d : mD), Safe d → (0 ≤ x1 ∧ x1 ≤ 6) → (mpP (d (x0 + 1))) → 6 - x1 ≤ (n : Int) → ((∀ b : Int, (b < x0 + 1 ∨ x0 + 1 < b) → (lp_223_12 x0 n x1 d) b = d b) → (∀ i : Int, ((0 ≤ i ∧ i ≤ 8 ∧ ¬ i = 1) ∨ (12 ≤ i ∧ i < 420 ∧ (i - 12) % 68 ≤ 4) ∨ (420 ≤ i ∧ i < 452 ∧ i % 2 = 0) ∨ i = 9 ∨ (452 ≤ i ∧ i < 1916 ∧ 5 ≤ (i - 452) % 24)) ∧ ¬ i = 0 → (lp_223_12 x0 n x1 d) (x0 + 1) i = d (x0 + 1) i) → ((lp_223_12 x0 n x1 d) (x0 + 1) 0 = d (x0 + 1) 0) → Safe (lp_223_12 x0 n x1 d) → K (.inl none) (lp_223_12 x0 n x1 d)) → tRun E 223 (12, [.inr (11, x0), .inl (0, x1), tu], [], 0, 0, d) K := by
  intro n
  induction n with
  | zero =>
    intro x1  d hS i0 hmp hm  h
    exact ls_223_12 hx0 0 _ (fun _  _ _ _ _ m0 m1 _ => absurd m1 (by omega)) x1  d hS i0 hmp hm  h
  | succ n ih =>
    intro x1  d hS i0 hmp hm  h
    exact ls_223_12 hx0 ((n + 1 : Nat) : Int) _ (fun x1  d hS i0 hmp  m0 m1 h => ih x1  d hS i0 hmp (by omega)  h) x1  d hS i0 hmp hm  h
def g_223 (x0 : Int) (d : mD) : mD := lp_223_12 x0 (6 - 0 : Int).toNat 0 (mset d (x0 + 1) 0 ((d (x0 + 1) 0) + 1))
theorem k_223 {E : mO × tW} {K : tK} {d : mD} {x0 : Int} (hS : Safe d) (hx0 : mdB x0) (hmp : mpP (d (x0 + 1))) (ht : d (x0 + 1) 0 ≤ 1199) (h : (∀ b : Int, (b < x0 + 1 ∨ x0 + 1 < b) → (g_223 x0 d) b = d b) → (∀ i : Int, ((0 ≤ i ∧ i ≤ 8 ∧ ¬ i = 1) ∨ (12 ≤ i ∧ i < 420 ∧ (i - 12) % 68 ≤ 4) ∨ (420 ≤ i ∧ i < 452 ∧ i % 2 = 0) ∨ i = 9 ∨ (452 ≤ i ∧ i < 1916 ∧ 5 ≤ (i - 452) % 24)) ∧ ¬ i = 0 → (g_223 x0 d) (x0 + 1) i = d (x0 + 1) i) → ((g_223 x0 d) (x0 + 1) 0 = d (x0 + 1) 0 + 1) → Safe (g_223 x0 d) → K (.inl none) (g_223 x0 d)) : tCall E 223 [.inr (11, x0)] d K := by
  refine t_223_0 ?_
  have q14 := mh_0 hS hx0 _ rfl
  refine ⟨by omega, by omega, ?_⟩
  have hS5 : Safe (mset d (x0 + 1) 0 ((d (x0 + 1) 0) + 1)) := smh_0 hS hx0 _ rfl (by omega)
  refine l_223_12 hx0 (6 - 0 : Int).toNat 0  (mset d (x0 + 1) 0 ((d (x0 + 1) 0) + 1)) hS5 (by omega) (mpP.of (mh_7 hS hx0 _ rfl) (show ∀ i : Int, i = 7 ∨ (12 ≤ i ∧ i < 420 ∧ (i - 12) % 68 = 2) → (mset d (x0 + 1) 0 ((d (x0 + 1) 0) + 1)) (x0 + 1) i = d (x0 + 1) i from fun i hi => mset_ni (by omega)) hmp) (by omega) ?_
  intro F Q n0 hS_
  have q15 : (mset d (x0 + 1) 0 ((d (x0 + 1) 0) + 1)) (x0 + 1) 0 = (d (x0 + 1) 0) + 1 := mset_eq
  have y0 : g_223 x0 d = lp_223_12 x0 (6 - 0 : Int).toNat 0 (mset d (x0 + 1) 0 ((d (x0 + 1) 0) + 1)) := by simp only [g_223]
  rw [y0] at h
  exact h (fun b hb => (F b hb).trans ((show ∀ b : Int, (b < x0 + 1 ∨ x0 + 1 < b) → (mset d (x0 + 1) 0 ((d (x0 + 1) 0) + 1)) b = d b from fun b hb => mset_ne (by omega)) b hb)) (fun i hi => (Q i hi).trans ((show ∀ i : Int, ((0 ≤ i ∧ i ≤ 8 ∧ ¬ i = 1) ∨ (12 ≤ i ∧ i < 420 ∧ (i - 12) % 68 ≤ 4) ∨ (420 ≤ i ∧ i < 452 ∧ i % 2 = 0) ∨ i = 9 ∨ (452 ≤ i ∧ i < 1916 ∧ 5 ≤ (i - 452) % 24)) ∧ ¬ i = 0 → (mset d (x0 + 1) 0 ((d (x0 + 1) 0) + 1)) (x0 + 1) i = d (x0 + 1) i from fun i hi => mset_ni (by omega)) i hi)) (by omega) hS_
def st_224_17 (x0 x1 x2 : Int) (r17 : Int → Int → Int → mD → Int × mD) (x3 x4 x5 : Int) (d : mD) : Int × mD := if x5 < 24 then r17 x3 x4 (x5 + 1) (mset d (x0 + 1) (x4 + x5) 0) else (x3, mset (mset (mset (mset (mset (mset (mset d (x0 + 1) (x4 + 0) x1) (x0 + 1) (x4 + 1) x2) (x0 + 1) (x4 + 2) (d (x0 + 1) 0)) (x0 + 1) (x4 + 3) ((-1))) (x0 + 1) (((12 + (68 * x2)) + 7) + (d (x0 + 1) ((12 + (68 * x2)) + 5))) x3) (x0 + 1) ((12 + (68 * x2)) + 5) ((d (x0 + 1) ((12 + (68 * x2)) + 5)) + 1)) (x0 + 1) 9 ((d (x0 + 1) 9) + 1))
def lp_224_17 (x0 x1 x2 : Int) : Nat → Int → Int → Int → mD → Int × mD
  | 0 => st_224_17 x0 x1 x2 (fun _ _ _ d => (0, d))
  | n + 1 => st_224_17 x0 x1 x2 (lp_224_17 x0 x1 x2 n)
theorem ls_224_17 {E : mO × tW} {K : tK} {x0 x1 x2 : Int} (hx0 : mdB x0) (p1 : 0 ≤ x1 ∧ x1 ≤ 15) (p2 : 0 ≤ x2 ∧ x2 ≤ 5) (N17 : Int) (r17 : Int → Int → Int → mD → Int × mD) (ih17 : ∀ (x3 x4 x5 : Int) (d : mD), Safe d → (0 ≤ x3 ∧ x3 ≤ 60) → (x4 = 452 + 24 * x3) → (0 ≤ x5 ∧ x5 ≤ 24) → (x3 = d (x0 + 1) 9) → (d (x0 + 1) (12 + 68 * x2 + 5) ≤ 60) → 0 ≤ 24 - x5 → 24 - x5 < N17 → ((0 ≤ (r17 x3 x4 x5 d).1 ∧ (r17 x3 x4 x5 d).1 ≤ 60) → (∀ b : Int, (b < x0 + 1 ∨ x0 + 1 < b) → (r17 x3 x4 x5 d).2 b = d b) → (∀ i : Int, (0 ≤ i ∧ i ≤ 8 ∧ ¬ i = 1) ∨ (12 ≤ i ∧ i < 420 ∧ (i - 12) % 68 ≤ 4) ∨ (420 ≤ i ∧ i < 452 ∧ i % 2 = 0) → (r17 x3 x4 x5 d).2 (x0 + 1) i = d (x0 + 1) i) → Safe (r17 x3 x4 x5 d).2 → K (.inl (some (0, (r17 x3 x4 x5 d).1))) (r17 x3 x4 x5 d).2) → tRun E 224 (17, [.inr (11, x0), .inl (0, x1), .inl (0, x2), .inl (0, x3), .inl (0, x4), .inl (0, x5)], [], 0, 0, d) K) (x3 x4 x5 : Int) (d : mD) (hS : Safe d) (i0 : 0 ≤ x3 ∧ x3 ≤ 60) (i1 : x4 = 452 + 24 * x3) (i2 : 0 ≤ x5 ∧ x5 ≤ 24) (i3 : x3 = d (x0 + 1) 9) (i4 : d (x0 + 1) (12 + 68 * x2 + 5) ≤ 60) (hm : 24 - x5 ≤ N17) (h : (0 ≤ (st_224_17 x0 x1 x2 r17 x3 x4 x5 d).1 ∧ (st_224_17 x0 x1 x2 r17 x3 x4 x5 d).1 ≤ 60) → (∀ b : Int, (b < x0 + 1 ∨ x0 + 1 < b) → (st_224_17 x0 x1 x2 r17 x3 x4 x5 d).2 b = d b) → (∀ i : Int, (0 ≤ i ∧ i ≤ 8 ∧ ¬ i = 1) ∨ (12 ≤ i ∧ i < 420 ∧ (i - 12) % 68 ≤ 4) ∨ (420 ≤ i ∧ i < 452 ∧ i % 2 = 0) → (st_224_17 x0 x1 x2 r17 x3 x4 x5 d).2 (x0 + 1) i = d (x0 + 1) i) → Safe (st_224_17 x0 x1 x2 r17 x3 x4 x5 d).2 → K (.inl (some (0, (st_224_17 x0 x1 x2 r17 x3 x4 x5 d).1))) (st_224_17 x0 x1 x2 r17 x3 x4 x5 d).2) : tRun E 224 (17, [.inr (11, x0), .inl (0, x1), .inl (0, x2), .inl (0, x3), .inl (0, x4), .inl (0, x5)], [], 0, 0, d) K := by
  refine t_224_17 ?_
  refine ⟨⟨m_inR (by omega) (by omega), m_inR (by omega) (by omega)⟩, fun c0 => ?_, fun c0 => ?_⟩
  · refine ⟨by omega, ?_⟩
    have hS1 : Safe (mset d (x0 + 1) (x4 + 0) x1) := smt_0 hS hx0 x3 (x4 + 0) (by omega) (by omega) (by omega)
    refine ⟨by omega, ?_⟩
    have hS2 : Safe (mset (mset d (x0 + 1) (x4 + 0) x1) (x0 + 1) (x4 + 1) x2) := smt_1 hS1 hx0 x3 (x4 + 1) (by omega) (by omega) (by omega)
    rw [mset_ni (d := mset d (x0 + 1) (x4 + 0) x1) (a := x0 + 1) (i := x4 + 1) (v := x2) (b := x0 + 1) (j := (0 : Int)) (by omega)]
    rw [mset_ni (d := d) (a := x0 + 1) (i := x4 + 0) (v := x1) (b := x0 + 1) (j := (0 : Int)) (by omega)]
    have q1 := mh_0 hS hx0 _ rfl
    refine ⟨by omega, by omega, ?_⟩
    have hS3 : Safe (mset (mset (mset d (x0 + 1) (x4 + 0) x1) (x0 + 1) (x4 + 1) x2) (x0 + 1) (x4 + 2) (d (x0 + 1) 0)) := smt_2 hS2 hx0 x3 (x4 + 2) (by omega) (by omega) (by omega)
    refine ⟨by omega, ?_⟩
    have hS4 : Safe (mset (mset (mset (mset d (x0 + 1) (x4 + 0) x1) (x0 + 1) (x4 + 1) x2) (x0 + 1) (x4 + 2) (d (x0 + 1) 0)) (x0 + 1) (x4 + 3) ((-1))) := smt_3 hS3 hx0 x3 (x4 + 3) (by omega) (by omega) (by omega)
    refine k_177 hS4 ?_
    refine t_224_90 ?_
    rw [mset_ni (d := mset (mset (mset d (x0 + 1) (x4 + 0) x1) (x0 + 1) (x4 + 1) x2) (x0 + 1) (x4 + 2) (d (x0 + 1) 0)) (a := x0 + 1) (i := x4 + 3) (v := (-1 : Int)) (b := x0 + 1) (j := (12 + (68 * x2)) + 5) (by omega)]
    rw [mset_ni (d := mset (mset d (x0 + 1) (x4 + 0) x1) (x0 + 1) (x4 + 1) x2) (a := x0 + 1) (i := x4 + 2) (v := d (x0 + 1) 0) (b := x0 + 1) (j := (12 + (68 * x2)) + 5) (by omega)]
    rw [mset_ni (d := mset d (x0 + 1) (x4 + 0) x1) (a := x0 + 1) (i := x4 + 1) (v := x2) (b := x0 + 1) (j := (12 + (68 * x2)) + 5) (by omega)]
    rw [mset_ni (d := d) (a := x0 + 1) (i := x4 + 0) (v := x1) (b := x0 + 1) (j := (12 + (68 * x2)) + 5) (by omega)]
    have q2 := mo_5 hS hx0 x2 ((12 + (68 * x2)) + 5) (by omega) (by omega)
    refine ⟨by omega, by omega, ?_⟩
    have hS5 : Safe (mset (mset (mset (mset (mset d (x0 + 1) (x4 + 0) x1) (x0 + 1) (x4 + 1) x2) (x0 + 1) (x4 + 2) (d (x0 + 1) 0)) (x0 + 1) (x4 + 3) ((-1))) (x0 + 1) (((12 + (68 * x2)) + 7) + (d (x0 + 1) ((12 + (68 * x2)) + 5))) x3) := smo_q hS4 hx0 x2 (d (x0 + 1) ((12 + (68 * x2)) + 5)) (((12 + (68 * x2)) + 7) + (d (x0 + 1) ((12 + (68 * x2)) + 5))) (by omega) (by omega) (by omega) (by omega)
    rw [mset_ni (d := mset (mset (mset (mset d (x0 + 1) (x4 + 0) x1) (x0 + 1) (x4 + 1) x2) (x0 + 1) (x4 + 2) (d (x0 + 1) 0)) (x0 + 1) (x4 + 3) ((-1))) (a := x0 + 1) (i := ((12 + (68 * x2)) + 7) + (d (x0 + 1) ((12 + (68 * x2)) + 5))) (v := x3) (b := x0 + 1) (j := (12 + (68 * x2)) + 5) (by omega)]
    rw [mset_ni (d := mset (mset (mset d (x0 + 1) (x4 + 0) x1) (x0 + 1) (x4 + 1) x2) (x0 + 1) (x4 + 2) (d (x0 + 1) 0)) (a := x0 + 1) (i := x4 + 3) (v := (-1 : Int)) (b := x0 + 1) (j := (12 + (68 * x2)) + 5) (by omega)]
    rw [mset_ni (d := mset (mset d (x0 + 1) (x4 + 0) x1) (x0 + 1) (x4 + 1) x2) (a := x0 + 1) (i := x4 + 2) (v := d (x0 + 1) 0) (b := x0 + 1) (j := (12 + (68 * x2)) + 5) (by omega)]
    rw [mset_ni (d := mset d (x0 + 1) (x4 + 0) x1) (a := x0 + 1) (i := x4 + 1) (v := x2) (b := x0 + 1) (j := (12 + (68 * x2)) + 5) (by omega)]
    rw [mset_ni (d := d) (a := x0 + 1) (i := x4 + 0) (v := x1) (b := x0 + 1) (j := (12 + (68 * x2)) + 5) (by omega)]
    refine ⟨by omega, by omega, ?_⟩
    have hS6 : Safe (mset (mset (mset (mset (mset (mset d (x0 + 1) (x4 + 0) x1) (x0 + 1) (x4 + 1) x2) (x0 + 1) (x4 + 2) (d (x0 + 1) 0)) (x0 + 1) (x4 + 3) ((-1))) (x0 + 1) (((12 + (68 * x2)) + 7) + (d (x0 + 1) ((12 + (68 * x2)) + 5))) x3) (x0 + 1) ((12 + (68 * x2)) + 5) ((d (x0 + 1) ((12 + (68 * x2)) + 5)) + 1)) := smo_5 hS5 hx0 x2 ((12 + (68 * x2)) + 5) (by omega) (by omega) (by omega)
    rw [mset_ni (d := mset (mset (mset (mset (mset d (x0 + 1) (x4 + 0) x1) (x0 + 1) (x4 + 1) x2) (x0 + 1) (x4 + 2) (d (x0 + 1) 0)) (x0 + 1) (x4 + 3) ((-1))) (x0 + 1) (((12 + (68 * x2)) + 7) + (d (x0 + 1) ((12 + (68 * x2)) + 5))) x3) (a := x0 + 1) (i := (12 + (68 * x2)) + 5) (v := (d (x0 + 1) ((12 + (68 * x2)) + 5)) + 1) (b := x0 + 1) (j := (9 : Int)) (by omega)]
    rw [mset_ni (d := mset (mset (mset (mset d (x0 + 1) (x4 + 0) x1) (x0 + 1) (x4 + 1) x2) (x0 + 1) (x4 + 2) (d (x0 + 1) 0)) (x0 + 1) (x4 + 3) ((-1))) (a := x0 + 1) (i := ((12 + (68 * x2)) + 7) + (d (x0 + 1) ((12 + (68 * x2)) + 5))) (v := x3) (b := x0 + 1) (j := (9 : Int)) (by omega)]
    rw [mset_ni (d := mset (mset (mset d (x0 + 1) (x4 + 0) x1) (x0 + 1) (x4 + 1) x2) (x0 + 1) (x4 + 2) (d (x0 + 1) 0)) (a := x0 + 1) (i := x4 + 3) (v := (-1 : Int)) (b := x0 + 1) (j := (9 : Int)) (by omega)]
    rw [mset_ni (d := mset (mset d (x0 + 1) (x4 + 0) x1) (x0 + 1) (x4 + 1) x2) (a := x0 + 1) (i := x4 + 2) (v := d (x0 + 1) 0) (b := x0 + 1) (j := (9 : Int)) (by omega)]
    rw [mset_ni (d := mset d (x0 + 1) (x4 + 0) x1) (a := x0 + 1) (i := x4 + 1) (v := x2) (b := x0 + 1) (j := (9 : Int)) (by omega)]
    rw [mset_ni (d := d) (a := x0 + 1) (i := x4 + 0) (v := x1) (b := x0 + 1) (j := (9 : Int)) (by omega)]
    have q3 := mh_9 hS hx0 _ rfl
    refine ⟨by omega, by omega, ?_⟩
    have hS7 : Safe (mset (mset (mset (mset (mset (mset (mset d (x0 + 1) (x4 + 0) x1) (x0 + 1) (x4 + 1) x2) (x0 + 1) (x4 + 2) (d (x0 + 1) 0)) (x0 + 1) (x4 + 3) ((-1))) (x0 + 1) (((12 + (68 * x2)) + 7) + (d (x0 + 1) ((12 + (68 * x2)) + 5))) x3) (x0 + 1) ((12 + (68 * x2)) + 5) ((d (x0 + 1) ((12 + (68 * x2)) + 5)) + 1)) (x0 + 1) 9 ((d (x0 + 1) 9) + 1)) := smh_9 hS6 hx0 _ rfl (by omega)
    have y0 : st_224_17 x0 x1 x2 r17 x3 x4 x5 d = (x3, mset (mset (mset (mset (mset (mset (mset d (x0 + 1) (x4 + 0) x1) (x0 + 1) (x4 + 1) x2) (x0 + 1) (x4 + 2) (d (x0 + 1) 0)) (x0 + 1) (x4 + 3) ((-1))) (x0 + 1) (((12 + (68 * x2)) + 7) + (d (x0 + 1) ((12 + (68 * x2)) + 5))) x3) (x0 + 1) ((12 + (68 * x2)) + 5) ((d (x0 + 1) ((12 + (68 * x2)) + 5)) + 1)) (x0 + 1) 9 ((d (x0 + 1) 9) + 1)) := by simp only [st_224_17, if_neg (show ¬ x5 < 24 from Int.not_lt.mpr c0)]
    rw [y0] at h
    exact h (show 0 ≤ x3 ∧ x3 ≤ 60 from (by omega)) (show ∀ b : Int, (b < x0 + 1 ∨ x0 + 1 < b) → (mset (mset (mset (mset (mset (mset (mset d (x0 + 1) (x4 + 0) x1) (x0 + 1) (x4 + 1) x2) (x0 + 1) (x4 + 2) (d (x0 + 1) 0)) (x0 + 1) (x4 + 3) ((-1))) (x0 + 1) (((12 + (68 * x2)) + 7) + (d (x0 + 1) ((12 + (68 * x2)) + 5))) x3) (x0 + 1) ((12 + (68 * x2)) + 5) ((d (x0 + 1) ((12 + (68 * x2)) + 5)) + 1)) (x0 + 1) 9 ((d (x0 + 1) 9) + 1)) b = d b from fun b hb => (mset_ne (by omega)).trans ((mset_ne (by omega)).trans ((mset_ne (by omega)).trans ((mset_ne (by omega)).trans ((mset_ne (by omega)).trans ((mset_ne (by omega)).trans (mset_ne (by omega)))))))) (show ∀ i : Int, (0 ≤ i ∧ i ≤ 8 ∧ ¬ i = 1) ∨ (12 ≤ i ∧ i < 420 ∧ (i - 12) % 68 ≤ 4) ∨ (420 ≤ i ∧ i < 452 ∧ i % 2 = 0) → (mset (mset (mset (mset (mset (mset (mset d (x0 + 1) (x4 + 0) x1) (x0 + 1) (x4 + 1) x2) (x0 + 1) (x4 + 2) (d (x0 + 1) 0)) (x0 + 1) (x4 + 3) ((-1))) (x0 + 1) (((12 + (68 * x2)) + 7) + (d (x0 + 1) ((12 + (68 * x2)) + 5))) x3) (x0 + 1) ((12 + (68 * x2)) + 5) ((d (x0 + 1) ((12 + (68 * x2)) + 5)) + 1)) (x0 + 1) 9 ((d (x0 + 1) 9) + 1)) (x0 + 1) i = d (x0 + 1) i from fun i hi => ((((((mset_ni (by omega)).trans (mset_ni (by omega))).trans (mset_ni (by omega))).trans (mset_ni (by omega))).trans (mset_ni (by omega))).trans (mset_ni (by omega))).trans (mset_ni (by omega))) hS7
  · refine ⟨by omega, ?_⟩
    have hS8 : Safe (mset d (x0 + 1) (x4 + x5) 0) := smz hS hx0 (x4 + x5)
    have q4 : (mset d (x0 + 1) (x4 + x5) 0) (x0 + 1) 9 = d (x0 + 1) 9 := mset_ni (by omega)
    have q5 : (mset d (x0 + 1) (x4 + x5) 0) (x0 + 1) (12 + 68 * x2 + 5) = d (x0 + 1) (12 + 68 * x2 + 5) := mset_ni (by omega)
    refine ih17 x3 x4 (x5 + 1)  (mset d (x0 + 1) (x4 + x5) 0) hS8 (by omega) (by omega) (by omega) (by omega) (by omega) (by omega) (by omega) ?_
    intro e F Q hS_
    have y0 : st_224_17 x0 x1 x2 r17 x3 x4 x5 d = r17 x3 x4 (x5 + 1) (mset d (x0 + 1) (x4 + x5) 0) := by simp only [st_224_17, if_pos (show x5 < 24 from c0)]
    rw [y0] at h
    exact h e (fun b hb => (F b hb).trans ((show ∀ b : Int, (b < x0 + 1 ∨ x0 + 1 < b) → (mset d (x0 + 1) (x4 + x5) 0) b = d b from fun b hb => mset_ne (by omega)) b hb)) (fun i hi => (Q i hi).trans ((show ∀ i : Int, (0 ≤ i ∧ i ≤ 8 ∧ ¬ i = 1) ∨ (12 ≤ i ∧ i < 420 ∧ (i - 12) % 68 ≤ 4) ∨ (420 ≤ i ∧ i < 452 ∧ i % 2 = 0) → (mset d (x0 + 1) (x4 + x5) 0) (x0 + 1) i = d (x0 + 1) i from fun i hi => mset_ni (by omega)) i hi)) hS_
theorem l_224_17 {E : mO × tW} {K : tK} {x0 x1 x2 : Int} (hx0 : mdB x0) (p1 : 0 ≤ x1 ∧ x1 ≤ 15) (p2 : 0 ≤ x2 ∧ x2 ≤ 5) : ∀ (n : Nat) (x3 x4 x5 : Int) (d : mD), Safe d → (0 ≤ x3 ∧ x3 ≤ 60) → (x4 = 452 + 24 * x3) → (0 ≤ x5 ∧ x5 ≤ 24) → (x3 = d (x0 + 1) 9) → (d (x0 + 1) (12 + 68 * x2 + 5) ≤ 60) → 24 - x5 ≤ (n : Int) → ((0 ≤ (lp_224_17 x0 x1 x2 n x3 x4 x5 d).1 ∧ (lp_224_17 x0 x1 x2 n x3 x4 x5 d).1 ≤ 60) → (∀ b : Int, (b < x0 + 1 ∨ x0 + 1 < b) → (lp_224_17 x0 x1 x2 n x3 x4 x5 d).2 b = d b) → (∀ i : Int, (0 ≤ i ∧ i ≤ 8 ∧ ¬ i = 1) ∨ (12 ≤ i ∧ i < 420 ∧ (i - 12) % 68 ≤ 4) ∨ (420 ≤ i ∧ i < 452 ∧ i % 2 = 0) → (lp_224_17 x0 x1 x2 n x3 x4 x5 d).2 (x0 + 1) i = d (x0 + 1) i) → Safe (lp_224_17 x0 x1 x2 n x3 x4 x5 d).2 → K (.inl (some (0, (lp_224_17 x0 x1 x2 n x3 x4 x5 d).1))) (lp_224_17 x0 x1 x2 n x3 x4 x5 d).2) → tRun E 224 (17, [.inr (11, x0), .inl (0, x1), .inl (0, x2), .inl (0, x3), .inl (0, x4), .inl (0, x5)], [], 0, 0, d) K := by
  intro n
  induction n with
  | zero =>
    intro x3 x4 x5  d hS i0 i1 i2 i3 i4 hm  h
    exact ls_224_17 hx0 p1 p2 0 _ (fun _ _ _  _ _ _ _ _ _ _ m0 m1 _ => absurd m1 (by omega)) x3 x4 x5  d hS i0 i1 i2 i3 i4 hm  h
  | succ n ih =>
    intro x3 x4 x5  d hS i0 i1 i2 i3 i4 hm  h
    exact ls_224_17 hx0 p1 p2 ((n + 1 : Nat) : Int) _ (fun x3 x4 x5  d hS i0 i1 i2 i3 i4  m0 m1 h => ih x3 x4 x5  d hS i0 i1 i2 i3 i4 (by omega)  h) x3 x4 x5  d hS i0 i1 i2 i3 i4 hm  h
def f_224 (x0 x1 x2 : Int) (d : mD) : Int × mD := lp_224_17 x0 x1 x2 (24 - 0 : Int).toNat (d (x0 + 1) 9) (452 + (24 * (d (x0 + 1) 9))) 0 d
def v_224 (x0 x1 x2 : Int) (d : mD) : Int := (f_224 x0 x1 x2 d).1
def g_224 (x0 x1 x2 : Int) (d : mD) : mD := (f_224 x0 x1 x2 d).2
theorem k_224 {E : mO × tW} {K : tK} {d : mD} {x0 x1 x2 : Int} (hS : Safe d) (hx0 : mdB x0) (p1 : 0 ≤ x1 ∧ x1 ≤ 15) (p2 : 0 ≤ x2 ∧ x2 ≤ 5) (ht : d (x0 + 1) 9 ≤ 60) (hq : d (x0 + 1) (12 + 68 * x2 + 5) ≤ 60) (h : (0 ≤ (v_224 x0 x1 x2 d) ∧ (v_224 x0 x1 x2 d) ≤ 60) → (∀ b : Int, (b < x0 + 1 ∨ x0 + 1 < b) → (g_224 x0 x1 x2 d) b = d b) → (∀ i : Int, (0 ≤ i ∧ i ≤ 8 ∧ ¬ i = 1) ∨ (12 ≤ i ∧ i < 420 ∧ (i - 12) % 68 ≤ 4) ∨ (420 ≤ i ∧ i < 452 ∧ i % 2 = 0) → (g_224 x0 x1 x2 d) (x0 + 1) i = d (x0 + 1) i) → Safe (g_224 x0 x1 x2 d) → K (.inl (some (0, (v_224 x0 x1 x2 d)))) (g_224 x0 x1 x2 d)) : tCall E 224 [.inr (11, x0), .inl (0, x1), .inl (0, x2)] d K := by
  simp only [v_224, g_224] at h
  refine t_224_0 ?_
  refine ⟨by omega, ?_⟩
  refine k_179 hS ?_
  refine t_224_12 ?_
  have q6 := mh_9 hS hx0 _ rfl
  refine l_224_17 hx0 p1 p2 (24 - 0 : Int).toNat (d (x0 + 1) 9) (452 + (24 * (d (x0 + 1) 9))) 0  d hS (by omega) (by omega) (by omega) (by omega) (by omega) (by omega) ?_
  intro e F Q hS_
  have y0 : f_224 x0 x1 x2 d = lp_224_17 x0 x1 x2 (24 - 0 : Int).toNat (d (x0 + 1) 9) (452 + (24 * (d (x0 + 1) 9))) 0 d := by simp only [f_224]
  rw [y0] at h
  exact h e F Q hS_
def st_225_57 (x0 x1 x2 : Int) (r57 : Int → Int → Int → mD → Int) (x3 x4 x5 : Int) (d : mD) : Int := if x5 < d (x0 + 1) (x3 + 5) then (if d (x0 + 1) ((452 + (24 * (d (x0 + 1) ((x3 + 7) + x5)))) + 0) = x1 then r57 x3 (miand x4 0) (x5 + 1) d else r57 x3 (miand x4 1) (x5 + 1) d) else x4
def lp_225_57 (x0 x1 x2 : Int) : Nat → Int → Int → Int → mD → Int
  | 0 => st_225_57 x0 x1 x2 (fun _ _ _ d => 0)
  | n + 1 => st_225_57 x0 x1 x2 (lp_225_57 x0 x1 x2 n)
theorem ls_225_57 {E : mO × tW} {K : tK} {x0 x1 x2 : Int} (hx0 : mdB x0) (p1 : -2147483648 ≤ x1 ∧ x1 ≤ 2147483647) (p2 : 0 ≤ x2 ∧ x2 ≤ 5) (N57 : Int) (r57 : Int → Int → Int → mD → Int) (ih57 : ∀ (x3 x4 x5 : Int) (d : mD), Safe d → (x3 = 12 + 68 * x2) → ((0 ≤ x4 ∧ x4 ≤ 1) ∧ (x4 = 0 ∨ (d (x0 + 1) 9 ≤ 59 ∧ d (x0 + 1) (12 + 68 * x2 + 5) ≤ 19))) → (0 ≤ x5 ∧ x5 ≤ 61) → 0 ≤ 61 - x5 → 61 - x5 < N57 → (((0 ≤ (r57 x3 x4 x5 d) ∧ (r57 x3 x4 x5 d) ≤ 1) ∧ ((r57 x3 x4 x5 d) = 0 ∨ (d (x0 + 1) 9 ≤ 59 ∧ d (x0 + 1) (12 + 68 * x2 + 5) ≤ 19))) → K (.inl (some (0, (r57 x3 x4 x5 d)))) d) → tRun E 225 (57, [.inr (11, x0), .inl (0, x1), .inl (0, x2), .inl (0, x3), .inl (0, x4), .inl (0, x5)], [], 0, 0, d) K) (x3 x4 x5 : Int) (d : mD) (hS : Safe d) (i0 : x3 = 12 + 68 * x2) (i1 : (0 ≤ x4 ∧ x4 ≤ 1) ∧ (x4 = 0 ∨ (d (x0 + 1) 9 ≤ 59 ∧ d (x0 + 1) (12 + 68 * x2 + 5) ≤ 19))) (i2 : 0 ≤ x5 ∧ x5 ≤ 61) (hm : 61 - x5 ≤ N57) (h : ((0 ≤ (st_225_57 x0 x1 x2 r57 x3 x4 x5 d) ∧ (st_225_57 x0 x1 x2 r57 x3 x4 x5 d) ≤ 1) ∧ ((st_225_57 x0 x1 x2 r57 x3 x4 x5 d) = 0 ∨ (d (x0 + 1) 9 ≤ 59 ∧ d (x0 + 1) (12 + 68 * x2 + 5) ≤ 19))) → K (.inl (some (0, (st_225_57 x0 x1 x2 r57 x3 x4 x5 d)))) d) : tRun E 225 (57, [.inr (11, x0), .inl (0, x1), .inl (0, x2), .inl (0, x3), .inl (0, x4), .inl (0, x5)], [], 0, 0, d) K := by
  refine t_225_57 ?_
  have w1 := mbool x4
  have w2 : d (x0 + 1) (x3 + 5) = d (x0 + 1) (12 + 68 * x2 + 5) := by rw [i0]
  have q1 := mo_5 hS hx0 x2 (x3 + 5) (by omega) (by omega)
  refine ⟨by omega, ⟨m_inR (by omega) (by omega), m_inR (by omega) (by omega)⟩, fun c0 => ?_, fun c0 => ?_⟩
  · refine ⟨by omega, ?_⟩
    have y0 : st_225_57 x0 x1 x2 r57 x3 x4 x5 d = x4 := by simp only [st_225_57, if_neg (show ¬ x5 < d (x0 + 1) (x3 + 5) from Int.not_lt.mpr c0)]
    rw [y0] at h
    exact h (show (0 ≤ x4 ∧ x4 ≤ 1) ∧ (x4 = 0 ∨ (d (x0 + 1) 9 ≤ 59 ∧ d (x0 + 1) (12 + 68 * x2 + 5) ≤ 19)) from (by omega))
  · refine ⟨by omega, ?_⟩
    refine k_179 hS ?_
    refine t_225_91 ?_
    have q2 := mo_q hS hx0 x2 x5 ((x3 + 7) + x5) (by omega) (by omega) (by omega)
    have q3 := mt_0 hS hx0 (d (x0 + 1) ((x3 + 7) + x5)) ((452 + (24 * (d (x0 + 1) ((x3 + 7) + x5)))) + 0) (by omega) (by omega)
    refine ⟨by omega, ⟨m_inR (by omega) (by omega), m_inR (by omega) (by omega)⟩, fun c1 => ?_, fun c1 => ?_⟩
    · have q4 := miand_r x4 0 (by decide) (by decide)
      have q5 := mbool x4
      refine ih57 x3 (miand x4 0) (x5 + 1)  d hS (by omega) (by omega) (by omega) (by omega) (by omega) ?_
      intro e
      have y0 : st_225_57 x0 x1 x2 r57 x3 x4 x5 d = r57 x3 (miand x4 0) (x5 + 1) d := by simp only [st_225_57, if_pos (show x5 < d (x0 + 1) (x3 + 5) from c0), if_pos (show d (x0 + 1) ((452 + (24 * (d (x0 + 1) ((x3 + 7) + x5)))) + 0) = x1 from c1)]
      rw [y0] at h
      exact h e
    · have q6 := miand_r x4 1 (by decide) (by decide)
      have q7 := mbool x4
      refine ih57 x3 (miand x4 1) (x5 + 1)  d hS (by omega) (by omega) (by omega) (by omega) (by omega) ?_
      intro e
      have y0 : st_225_57 x0 x1 x2 r57 x3 x4 x5 d = r57 x3 (miand x4 1) (x5 + 1) d := by simp only [st_225_57, if_pos (show x5 < d (x0 + 1) (x3 + 5) from c0), if_neg (show ¬ d (x0 + 1) ((452 + (24 * (d (x0 + 1) ((x3 + 7) + x5)))) + 0) = x1 from c1)]
      rw [y0] at h
      exact h e
theorem l_225_57 {E : mO × tW} {K : tK} {x0 x1 x2 : Int} (hx0 : mdB x0) (p1 : -2147483648 ≤ x1 ∧ x1 ≤ 2147483647) (p2 : 0 ≤ x2 ∧ x2 ≤ 5) : ∀ (n : Nat) (x3 x4 x5 : Int) (d : mD), Safe d → (x3 = 12 + 68 * x2) → ((0 ≤ x4 ∧ x4 ≤ 1) ∧ (x4 = 0 ∨ (d (x0 + 1) 9 ≤ 59 ∧ d (x0 + 1) (12 + 68 * x2 + 5) ≤ 19))) → (0 ≤ x5 ∧ x5 ≤ 61) → 61 - x5 ≤ (n : Int) → (((0 ≤ (lp_225_57 x0 x1 x2 n x3 x4 x5 d) ∧ (lp_225_57 x0 x1 x2 n x3 x4 x5 d) ≤ 1) ∧ ((lp_225_57 x0 x1 x2 n x3 x4 x5 d) = 0 ∨ (d (x0 + 1) 9 ≤ 59 ∧ d (x0 + 1) (12 + 68 * x2 + 5) ≤ 19))) → K (.inl (some (0, (lp_225_57 x0 x1 x2 n x3 x4 x5 d)))) d) → tRun E 225 (57, [.inr (11, x0), .inl (0, x1), .inl (0, x2), .inl (0, x3), .inl (0, x4), .inl (0, x5)], [], 0, 0, d) K := by
  intro n
  induction n with
  | zero =>
    intro x3 x4 x5  d hS i0 i1 i2 hm  h
    exact ls_225_57 hx0 p1 p2 0 _ (fun _ _ _  _ _ _ _ _ m0 m1 _ => absurd m1 (by omega)) x3 x4 x5  d hS i0 i1 i2 hm  h
  | succ n ih =>
    intro x3 x4 x5  d hS i0 i1 i2 hm  h
    exact ls_225_57 hx0 p1 p2 ((n + 1 : Nat) : Int) _ (fun x3 x4 x5  d hS i0 i1 i2  m0 m1 h => ih x3 x4 x5  d hS i0 i1 i2 (by omega)  h) x3 x4 x5  d hS i0 i1 i2 hm  h
def v_225 (x0 x1 x2 : Int) (d : mD) : Int := if d (x0 + 1) 9 < 60 then (if d (x0 + 1) ((12 + (68 * x2)) + 4) = 0 then lp_225_57 x0 x1 x2 (61 - 0 : Int).toNat (12 + (68 * x2)) 0 0 d else if d (x0 + 1) ((12 + (68 * x2)) + 5) < d (x0 + 1) ((12 + (68 * x2)) + 3) then lp_225_57 x0 x1 x2 (61 - 0 : Int).toNat (12 + (68 * x2)) 1 0 d else lp_225_57 x0 x1 x2 (61 - 0 : Int).toNat (12 + (68 * x2)) 0 0 d) else lp_225_57 x0 x1 x2 (61 - 0 : Int).toNat (12 + (68 * x2)) 0 0 d
theorem k_225 {E : mO × tW} {K : tK} {d : mD} {x0 x1 x2 : Int} (hS : Safe d) (hx0 : mdB x0) (p1 : -2147483648 ≤ x1 ∧ x1 ≤ 2147483647) (p2 : 0 ≤ x2 ∧ x2 ≤ 5) (h : ((0 ≤ (v_225 x0 x1 x2 d) ∧ (v_225 x0 x1 x2 d) ≤ 1) ∧ ((v_225 x0 x1 x2 d) = 0 ∨ (d (x0 + 1) 9 ≤ 59 ∧ d (x0 + 1) (12 + 68 * x2 + 5) ≤ 19))) → K (.inl (some (0, (v_225 x0 x1 x2 d)))) d) : tCall E 225 [.inr (11, x0), .inl (0, x1), .inl (0, x2)] d K := by
  refine t_225_0 ?_
  refine k_177 hS ?_
  refine t_225_4 ?_
  have q8 := mh_9 hS hx0 _ rfl
  refine ⟨by omega, ⟨m_inR (by omega) (by omega), m_inR (by omega) (by omega)⟩, fun c0 => ?_, fun c0 => ?_⟩
  · refine l_225_57 hx0 p1 p2 (61 - 0 : Int).toNat (12 + (68 * x2)) 0 0  d hS (by omega) (by omega) (by omega) (by omega) ?_
    intro e
    have y0 : v_225 x0 x1 x2 d = lp_225_57 x0 x1 x2 (61 - 0 : Int).toNat (12 + (68 * x2)) 0 0 d := by simp only [v_225, if_neg (show ¬ d (x0 + 1) 9 < 60 from Int.not_lt.mpr c0)]
    rw [y0] at h
    exact h e
  · have q9 := mo_4 hS hx0 x2 ((12 + (68 * x2)) + 4) (by omega) (by omega)
    refine ⟨by omega, m_inR (by omega) (by omega), fun c1 => ?_, fun c1 => ?_⟩
    · refine l_225_57 hx0 p1 p2 (61 - 0 : Int).toNat (12 + (68 * x2)) 0 0  d hS (by omega) (by omega) (by omega) (by omega) ?_
      intro e
      have y0 : v_225 x0 x1 x2 d = lp_225_57 x0 x1 x2 (61 - 0 : Int).toNat (12 + (68 * x2)) 0 0 d := by simp only [v_225, if_pos (show d (x0 + 1) 9 < 60 from c0), if_pos (show d (x0 + 1) ((12 + (68 * x2)) + 4) = 0 from c1)]
      rw [y0] at h
      exact h e
    · have q10 := mo_5 hS hx0 x2 ((12 + (68 * x2)) + 5) (by omega) (by omega)
      have q11 := mo_3 hS hx0 x2 ((12 + (68 * x2)) + 3) (by omega) (by omega)
      refine ⟨by omega, by omega, ⟨m_inR (by omega) (by omega), m_inR (by omega) (by omega)⟩, fun c2 => ?_, fun c2 => ?_⟩
      · refine l_225_57 hx0 p1 p2 (61 - 0 : Int).toNat (12 + (68 * x2)) 0 0  d hS (by omega) (by omega) (by omega) (by omega) ?_
        intro e
        have y0 : v_225 x0 x1 x2 d = lp_225_57 x0 x1 x2 (61 - 0 : Int).toNat (12 + (68 * x2)) 0 0 d := by simp only [v_225, if_pos (show d (x0 + 1) 9 < 60 from c0), if_neg (show ¬ d (x0 + 1) ((12 + (68 * x2)) + 4) = 0 from c1), if_neg (show ¬ d (x0 + 1) ((12 + (68 * x2)) + 5) < d (x0 + 1) ((12 + (68 * x2)) + 3) from Int.not_lt.mpr c2)]
        rw [y0] at h
        exact h e
      · refine l_225_57 hx0 p1 p2 (61 - 0 : Int).toNat (12 + (68 * x2)) 1 0  d hS (by omega) (by omega) (by omega) (by omega) ?_
        intro e
        have y0 : v_225 x0 x1 x2 d = lp_225_57 x0 x1 x2 (61 - 0 : Int).toNat (12 + (68 * x2)) 1 0 d := by simp only [v_225, if_pos (show d (x0 + 1) 9 < 60 from c0), if_neg (show ¬ d (x0 + 1) ((12 + (68 * x2)) + 4) = 0 from c1), if_pos (show d (x0 + 1) ((12 + (68 * x2)) + 5) < d (x0 + 1) ((12 + (68 * x2)) + 3) from c2)]
        rw [y0] at h
        exact h e
def v_226 (x0 x1 x2 : Int) (d : mD) : Int := v_224 x0 x1 x2 d
def g_226 (x0 x1 x2 : Int) (d : mD) : mD := g_224 x0 x1 x2 d
theorem k_226 {E : mO × tW} {K : tK} {d : mD} {x0 x1 x2 : Int} (hS : Safe d) (hx0 : mdB x0) (p1 : 0 ≤ x1 ∧ x1 ≤ 15) (p2 : 0 ≤ x2 ∧ x2 ≤ 5) (ht : d (x0 + 1) 9 ≤ 60) (hq : d (x0 + 1) (12 + 68 * x2 + 5) ≤ 60) (h : (0 ≤ (v_226 x0 x1 x2 d) ∧ (v_226 x0 x1 x2 d) ≤ 60) → (∀ b : Int, (b < x0 + 1 ∨ x0 + 1 < b) → (g_226 x0 x1 x2 d) b = d b) → (∀ i : Int, (0 ≤ i ∧ i ≤ 8 ∧ ¬ i = 1) ∨ (12 ≤ i ∧ i < 420 ∧ (i - 12) % 68 ≤ 4) ∨ (420 ≤ i ∧ i < 452 ∧ i % 2 = 0) → (g_226 x0 x1 x2 d) (x0 + 1) i = d (x0 + 1) i) → Safe (g_226 x0 x1 x2 d) → K (.inl (some (0, (v_226 x0 x1 x2 d)))) (g_226 x0 x1 x2 d)) : tCall E 226 [.inr (11, x0), .inl (0, x1), .inl (0, x2)] d K := by
  refine t_226_0 ?_
  refine k_224 hS hx0 (by omega) (by omega) (by omega) (by omega) (fun e1 F1 Q1 hS1 => ?_)
  refine t_226_6 ?_
  have y0 : v_226 x0 x1 x2 d = v_224 x0 x1 x2 d := by simp only [v_226]
  have y1 : g_226 x0 x1 x2 d = g_224 x0 x1 x2 d := by simp only [g_226]
  rw [y0] at h
  rw [y1] at h
  exact h (show 0 ≤ (v_224 x0 x1 x2 d) ∧ (v_224 x0 x1 x2 d) ≤ 60 from (by omega)) (show ∀ b : Int, (b < x0 + 1 ∨ x0 + 1 < b) → (g_224 x0 x1 x2 d) b = d b from fun b hb => F1 b (by omega)) (show ∀ i : Int, (0 ≤ i ∧ i ≤ 8 ∧ ¬ i = 1) ∨ (12 ≤ i ∧ i < 420 ∧ (i - 12) % 68 ≤ 4) ∨ (420 ≤ i ∧ i < 452 ∧ i % 2 = 0) → (g_224 x0 x1 x2 d) (x0 + 1) i = d (x0 + 1) i from fun i hi => Q1 i (by omega)) hS1
def v_227 (x0 x1 : Int) (d : mD) : Int := if d (x0 + 1) ((452 + (24 * x1)) + 4) = 1 then (if d (x0 + 1) ((452 + (24 * x1)) + 5) = 0 then 1 else 0) else 0
theorem k_227 {E : mO × tW} {K : tK} {d : mD} {x0 x1 : Int} (hS : Safe d) (hx0 : mdB x0) (p1 : 0 ≤ x1 ∧ x1 ≤ 60) (h : (0 ≤ (v_227 x0 x1 d) ∧ (v_227 x0 x1 d) ≤ 1) → K (.inl (some (0, (v_227 x0 x1 d)))) d) : tCall E 227 [.inr (11, x0), .inl (0, x1)] d K := by
  refine t_227_0 ?_
  refine k_179 hS ?_
  refine t_227_8 ?_
  have q1 := mt_4 hS hx0 x1 ((452 + (24 * x1)) + 4) (by omega) (by omega)
  refine ⟨by omega, ⟨m_inR (by omega) (by omega), m_inR (by omega) (by omega)⟩, fun c0 => ?_, fun c0 => ?_⟩
  · refine ⟨by omega, ?_⟩
    have y0 : v_227 x0 x1 d = 0 := by simp only [v_227, if_neg (show ¬ d (x0 + 1) ((452 + (24 * x1)) + 4) = 1 from c0)]
    rw [y0] at h
    exact h (show 0 ≤ ((0 : Int)) ∧ ((0 : Int)) ≤ 1 from (by omega))
  · refine k_179 hS ?_
    refine t_227_23 ?_
    have q2 := mt_5 hS hx0 x1 ((452 + (24 * x1)) + 5) (by omega) (by omega)
    refine ⟨by omega, m_inR (by omega) (by omega), fun c1 => ?_, fun c1 => ?_⟩
    · refine ⟨by omega, ?_⟩
      have y0 : v_227 x0 x1 d = 0 := by simp only [v_227, if_pos (show d (x0 + 1) ((452 + (24 * x1)) + 4) = 1 from c0), if_neg (show ¬ d (x0 + 1) ((452 + (24 * x1)) + 5) = 0 from c1)]
      rw [y0] at h
      exact h (show 0 ≤ ((0 : Int)) ∧ ((0 : Int)) ≤ 1 from (by omega))
    · refine ⟨by omega, ?_⟩
      have y0 : v_227 x0 x1 d = 1 := by simp only [v_227, if_pos (show d (x0 + 1) ((452 + (24 * x1)) + 4) = 1 from c0), if_pos (show d (x0 + 1) ((452 + (24 * x1)) + 5) = 0 from c1)]
      rw [y0] at h
      exact h (show 0 ≤ ((1 : Int)) ∧ ((1 : Int)) ≤ 1 from (by omega))
def mwP (f : Int → Int) : Prop := ∀ t, 0 ≤ t → t ≤ 60 → f (452 + 24 * t + 6) = 1 ∨ f (452 + 24 * t + 7) ≤ 2
theorem mwP.of {f g : Int → Int} (Q : ∀ i : Int, 452 ≤ i ∧ i < 1916 ∧ ((i - 452) % 24 = 6 ∨ (i - 452) % 24 = 7) → f i = g i) (h : mwP g) : mwP f := by
  intro t t0 t1
  rw [Q (452 + 24 * t + 6) (by omega), Q (452 + 24 * t + 7) (by omega)]
  exact h t t0 t1
theorem mwP.eq {f g : Int → Int} (e : f = g) (h : mwP g) : mwP f := e ▸ h
theorem mwP.ne {d : mD} {x i v : Int} (e : ∀ t, 0 ≤ t → t ≤ 60 → i ≠ 452 + 24 * t + 6 ∧ i ≠ 452 + 24 * t + 7) (h : mwP (d x)) : mwP ((mset d x i v) x) := by
  intro t t0 t1
  have := e t t0 t1
  rw [mset_ni (show 452 + 24 * t + 6 ≠ i by omega), mset_ni (show 452 + 24 * t + 7 ≠ i by omega)]
  exact h t t0 t1
theorem mwP.p6 {d : mD} {x i : Int} (e : (i - 452) % 24 = 6) (h : mwP (d x)) : mwP ((mset d x i 1) x) := by
  intro t t0 t1
  rw [mset_ni (show 452 + 24 * t + 7 ≠ i by omega)]
  by_cases c : 452 + 24 * t + 6 = i
  · left; exact mset_e2 c
  · rw [mset_ni c]; exact h t t0 t1
theorem mwP.p7 {d : mD} {x i v : Int} (e : (i - 452) % 24 = 7) (hv : v ≤ 2) (h : mwP (d x)) : mwP ((mset d x i v) x) := by
  intro t t0 t1
  rw [mset_ni (show 452 + 24 * t + 6 ≠ i by omega)]
  by_cases c : 452 + 24 * t + 7 = i
  · right; rw [mset_e2 c]; exact hv
  · rw [mset_ni c]; exact h t t0 t1
theorem mwP.p67 {d : mD} {x i j v : Int} (e : (i - 452) % 24 = 7) (e2 : j + 1 = i) (h : mwP (d x)) : mwP ((mset (mset d x i v) x j 1) x) := by
  intro t t0 t1
  by_cases c : 452 + 24 * t + 6 = j
  · left; exact mset_e2 c
  · rw [mset_ni c, mset_ni (show 452 + 24 * t + 7 ≠ j by omega), mset_ni (show 452 + 24 * t + 6 ≠ i by omega), mset_ni (show 452 + 24 * t + 7 ≠ i by omega)]
    exact h t t0 t1
def v_228 (x0 x1 : Int) (d : mD) : Int := if (0 : Int) < d (x0 + 1) 3 then 0 else v_218 x0 x1 (mset (mset d (x0 + 1) ((452 + (24 * x1)) + 5) 1) (x0 + 1) ((452 + (24 * x1)) + 6) 1)
def g_228 (x0 x1 : Int) (d : mD) : mD := if (0 : Int) < d (x0 + 1) 3 then mset d (x0 + 1) ((452 + (24 * x1)) + 5) 1 else g_218 x0 x1 (mset (mset d (x0 + 1) ((452 + (24 * x1)) + 5) 1) (x0 + 1) ((452 + (24 * x1)) + 6) 1)
theorem k_228 {E : mO × tW} {K : tK} {d : mD} {x0 x1 : Int} (hS : Safe d) (hx0 : mdB x0) (p1 : 0 ≤ x1 ∧ x1 ≤ 60) (hmp : mpP (d (x0 + 1))) (hmw : mwP (d (x0 + 1))) (h : (0 ≤ (v_228 x0 x1 d) ∧ (v_228 x0 x1 d) ≤ 1400) → (∀ b : Int, (b < x0 + 1 ∨ x0 + 1 < b) → (g_228 x0 x1 d) b = d b) → (∀ i : Int, (0 ≤ i ∧ i ≤ 9) ∨ (11 ≤ i ∧ i < 452) → (g_228 x0 x1 d) (x0 + 1) i = d (x0 + 1) i) → mpP ((g_228 x0 x1 d) (x0 + 1)) → mwP ((g_228 x0 x1 d) (x0 + 1)) → Safe (g_228 x0 x1 d) → K (.inl (some (0, (v_228 x0 x1 d)))) (g_228 x0 x1 d)) : tCall E 228 [.inr (11, x0), .inl (0, x1)] d K := by
  refine t_228_0 ?_
  refine k_179 hS ?_
  refine t_228_8 ?_
  refine ⟨by omega, ?_⟩
  have hS1 : Safe (mset d (x0 + 1) ((452 + (24 * x1)) + 5) 1) := smt_5 hS hx0 x1 ((452 + (24 * x1)) + 5) (by omega) (by omega) (by omega)
  rw [mset_ni (d := d) (a := x0 + 1) (i := (452 + (24 * x1)) + 5) (v := (1 : Int)) (b := x0 + 1) (j := (3 : Int)) (by omega)]
  have q1 := mh_3 hS hx0 _ rfl
  refine ⟨by omega, m_inR (by omega) (by omega), fun c0 => ?_, fun c0 => ?_⟩
  · refine k_179 hS1 ?_
    refine t_228_31 ?_
    refine ⟨by omega, ?_⟩
    have hS2 : Safe (mset (mset d (x0 + 1) ((452 + (24 * x1)) + 5) 1) (x0 + 1) ((452 + (24 * x1)) + 6) 1) := smt_6 hS1 hx0 x1 ((452 + (24 * x1)) + 6) (by omega) (by omega) (by omega)
    refine k_218 hS2 hx0 (by omega) (fun e1 F1 Q1 hS3 => ?_)
    refine t_228_41 ?_
    have y0 : v_228 x0 x1 d = v_218 x0 x1 (mset (mset d (x0 + 1) ((452 + (24 * x1)) + 5) 1) (x0 + 1) ((452 + (24 * x1)) + 6) 1) := by simp only [v_228, if_neg (show ¬ (0 : Int) < d (x0 + 1) 3 from Int.not_lt.mpr c0)]
    have y1 : g_228 x0 x1 d = g_218 x0 x1 (mset (mset d (x0 + 1) ((452 + (24 * x1)) + 5) 1) (x0 + 1) ((452 + (24 * x1)) + 6) 1) := by simp only [g_228, if_neg (show ¬ (0 : Int) < d (x0 + 1) 3 from Int.not_lt.mpr c0)]
    rw [y0] at h
    rw [y1] at h
    exact h (show 0 ≤ (v_218 x0 x1 (mset (mset d (x0 + 1) ((452 + (24 * x1)) + 5) 1) (x0 + 1) ((452 + (24 * x1)) + 6) 1)) ∧ (v_218 x0 x1 (mset (mset d (x0 + 1) ((452 + (24 * x1)) + 5) 1) (x0 + 1) ((452 + (24 * x1)) + 6) 1)) ≤ 1400 from (by omega)) (show ∀ b : Int, (b < x0 + 1 ∨ x0 + 1 < b) → (g_218 x0 x1 (mset (mset d (x0 + 1) ((452 + (24 * x1)) + 5) 1) (x0 + 1) ((452 + (24 * x1)) + 6) 1)) b = d b from fun b hb => (F1 b (by omega)).trans ((mset_ne (by omega)).trans (mset_ne (by omega)))) (show ∀ i : Int, (0 ≤ i ∧ i ≤ 9) ∨ (11 ≤ i ∧ i < 452) → (g_218 x0 x1 (mset (mset d (x0 + 1) ((452 + (24 * x1)) + 5) 1) (x0 + 1) ((452 + (24 * x1)) + 6) 1)) (x0 + 1) i = d (x0 + 1) i from fun i hi => ((Q1 i (by omega)).trans (mset_ni (by omega))).trans (mset_ni (by omega))) (mpP.of (mh_7 hS hx0 _ rfl) (show ∀ i : Int, i = 7 ∨ (12 ≤ i ∧ i < 420 ∧ (i - 12) % 68 = 2) → (g_218 x0 x1 (mset (mset d (x0 + 1) ((452 + (24 * x1)) + 5) 1) (x0 + 1) ((452 + (24 * x1)) + 6) 1)) (x0 + 1) i = d (x0 + 1) i from fun i hi => ((Q1 i (by omega)).trans (mset_ni (by omega))).trans (mset_ni (by omega))) hmp) (mwP.of (fun i hi => Q1 i (by omega)) (mwP.p6 (by omega) (mwP.ne (fun t t0 t1 => by omega) hmw))) hS3
  · have y0 : v_228 x0 x1 d = 0 := by simp only [v_228, if_pos (show (0 : Int) < d (x0 + 1) 3 from c0)]
    have y1 : g_228 x0 x1 d = mset d (x0 + 1) ((452 + (24 * x1)) + 5) 1 := by simp only [g_228, if_pos (show (0 : Int) < d (x0 + 1) 3 from c0)]
    rw [y0] at h
    rw [y1] at h
    exact h (show 0 ≤ ((0 : Int)) ∧ ((0 : Int)) ≤ 1400 from (by omega)) (show ∀ b : Int, (b < x0 + 1 ∨ x0 + 1 < b) → (mset d (x0 + 1) ((452 + (24 * x1)) + 5) 1) b = d b from fun b hb => mset_ne (by omega)) (show ∀ i : Int, (0 ≤ i ∧ i ≤ 9) ∨ (11 ≤ i ∧ i < 452) → (mset d (x0 + 1) ((452 + (24 * x1)) + 5) 1) (x0 + 1) i = d (x0 + 1) i from fun i hi => mset_ni (by omega)) (mpP.of (mh_7 hS hx0 _ rfl) (show ∀ i : Int, i = 7 ∨ (12 ≤ i ∧ i < 420 ∧ (i - 12) % 68 = 2) → (mset d (x0 + 1) ((452 + (24 * x1)) + 5) 1) (x0 + 1) i = d (x0 + 1) i from fun i hi => mset_ni (by omega)) hmp) (mwP.ne (fun t t0 t1 => by omega) hmw) hS1
def v_235 (x0 x1 x2 : Int) (d : mD) : Int := if (d (x0 + 1) ((452 + (24 * x1)) + 7)) + 1 < d (x0 + 1) 3 then 0 else v_218 x0 x1 (mset (mset (mset d (x0 + 1) (((452 + (24 * x1)) + 8) + x2) ((d (x0 + 1) 0) + 1)) (x0 + 1) ((452 + (24 * x1)) + 7) ((d (x0 + 1) ((452 + (24 * x1)) + 7)) + 1)) (x0 + 1) ((452 + (24 * x1)) + 6) 1)
def g_235 (x0 x1 x2 : Int) (d : mD) : mD := if (d (x0 + 1) ((452 + (24 * x1)) + 7)) + 1 < d (x0 + 1) 3 then mset (mset d (x0 + 1) (((452 + (24 * x1)) + 8) + x2) ((d (x0 + 1) 0) + 1)) (x0 + 1) ((452 + (24 * x1)) + 7) ((d (x0 + 1) ((452 + (24 * x1)) + 7)) + 1) else g_218 x0 x1 (mset (mset (mset d (x0 + 1) (((452 + (24 * x1)) + 8) + x2) ((d (x0 + 1) 0) + 1)) (x0 + 1) ((452 + (24 * x1)) + 7) ((d (x0 + 1) ((452 + (24 * x1)) + 7)) + 1)) (x0 + 1) ((452 + (24 * x1)) + 6) 1)
theorem k_235 {E : mO × tW} {K : tK} {d : mD} {x0 x1 x2 : Int} (hS : Safe d) (hx0 : mdB x0) (p1 : 0 ≤ x1 ∧ x1 ≤ 60) (p2 : 0 ≤ x2 ∧ x2 ≤ 15) (hmp : mpP (d (x0 + 1))) (hmw : mwP (d (x0 + 1))) (hm : d (x0 + 1) (452 + 24 * x1 + 6) = 0) (h : (0 ≤ (v_235 x0 x1 x2 d) ∧ (v_235 x0 x1 x2 d) ≤ 1400) → (∀ b : Int, (b < x0 + 1 ∨ x0 + 1 < b) → (g_235 x0 x1 x2 d) b = d b) → (∀ i : Int, (0 ≤ i ∧ i ≤ 9) ∨ (11 ≤ i ∧ i < 452) → (g_235 x0 x1 x2 d) (x0 + 1) i = d (x0 + 1) i) → mpP ((g_235 x0 x1 x2 d) (x0 + 1)) → mwP ((g_235 x0 x1 x2 d) (x0 + 1)) → Safe (g_235 x0 x1 x2 d) → K (.inl (some (0, (v_235 x0 x1 x2 d)))) (g_235 x0 x1 x2 d)) : tCall E 235 [.inr (11, x0), .inl (0, x1), .inl (0, x2)] d K := by
  refine t_235_0 ?_
  have w1 := hmw x1 (by omega) (by omega)
  have w2 := mh_3 hS hx0 _ rfl
  refine k_179 hS ?_
  refine t_235_4 ?_
  have q1 := mh_0 hS hx0 _ rfl
  refine ⟨by omega, by omega, ?_⟩
  have hS1 : Safe (mset d (x0 + 1) (((452 + (24 * x1)) + 8) + x2) ((d (x0 + 1) 0) + 1)) := smt_w hS hx0 x1 x2 (((452 + (24 * x1)) + 8) + x2) (by omega) (by omega) (by omega) (by omega)
  rw [mset_ni (d := d) (a := x0 + 1) (i := ((452 + (24 * x1)) + 8) + x2) (v := (d (x0 + 1) 0) + 1) (b := x0 + 1) (j := (452 + (24 * x1)) + 7) (by omega)]
  have q2 := mt_7 hS hx0 x1 ((452 + (24 * x1)) + 7) (by omega) (by omega)
  refine ⟨by omega, by omega, ?_⟩
  have hS2 : Safe (mset (mset d (x0 + 1) (((452 + (24 * x1)) + 8) + x2) ((d (x0 + 1) 0) + 1)) (x0 + 1) ((452 + (24 * x1)) + 7) ((d (x0 + 1) ((452 + (24 * x1)) + 7)) + 1)) := smt_7 hS1 hx0 x1 ((452 + (24 * x1)) + 7) (by omega) (by omega) (by omega)
  rw [mset_eq (d := mset d (x0 + 1) (((452 + (24 * x1)) + 8) + x2) ((d (x0 + 1) 0) + 1)) (a := x0 + 1) (i := (452 + (24 * x1)) + 7) (v := (d (x0 + 1) ((452 + (24 * x1)) + 7)) + 1)]
  rw [mset_ni (d := mset d (x0 + 1) (((452 + (24 * x1)) + 8) + x2) ((d (x0 + 1) 0) + 1)) (a := x0 + 1) (i := (452 + (24 * x1)) + 7) (v := (d (x0 + 1) ((452 + (24 * x1)) + 7)) + 1) (b := x0 + 1) (j := (3 : Int)) (by omega)]
  rw [mset_ni (d := d) (a := x0 + 1) (i := ((452 + (24 * x1)) + 8) + x2) (v := (d (x0 + 1) 0) + 1) (b := x0 + 1) (j := (3 : Int)) (by omega)]
  have q3 := mh_3 hS hx0 _ rfl
  refine ⟨by omega, by omega, ⟨m_inR (by omega) (by omega), m_inR (by omega) (by omega)⟩, fun c0 => ?_, fun c0 => ?_⟩
  · refine ⟨by omega, ?_⟩
    have hS3 : Safe (mset (mset (mset d (x0 + 1) (((452 + (24 * x1)) + 8) + x2) ((d (x0 + 1) 0) + 1)) (x0 + 1) ((452 + (24 * x1)) + 7) ((d (x0 + 1) ((452 + (24 * x1)) + 7)) + 1)) (x0 + 1) ((452 + (24 * x1)) + 6) 1) := smt_6 hS2 hx0 x1 ((452 + (24 * x1)) + 6) (by omega) (by omega) (by omega)
    refine k_218 hS3 hx0 (by omega) (fun e1 F1 Q1 hS4 => ?_)
    refine t_235_72 ?_
    have y0 : v_235 x0 x1 x2 d = v_218 x0 x1 (mset (mset (mset d (x0 + 1) (((452 + (24 * x1)) + 8) + x2) ((d (x0 + 1) 0) + 1)) (x0 + 1) ((452 + (24 * x1)) + 7) ((d (x0 + 1) ((452 + (24 * x1)) + 7)) + 1)) (x0 + 1) ((452 + (24 * x1)) + 6) 1) := by simp only [v_235, if_neg (show ¬ (d (x0 + 1) ((452 + (24 * x1)) + 7)) + 1 < d (x0 + 1) 3 from Int.not_lt.mpr c0)]
    have y1 : g_235 x0 x1 x2 d = g_218 x0 x1 (mset (mset (mset d (x0 + 1) (((452 + (24 * x1)) + 8) + x2) ((d (x0 + 1) 0) + 1)) (x0 + 1) ((452 + (24 * x1)) + 7) ((d (x0 + 1) ((452 + (24 * x1)) + 7)) + 1)) (x0 + 1) ((452 + (24 * x1)) + 6) 1) := by simp only [g_235, if_neg (show ¬ (d (x0 + 1) ((452 + (24 * x1)) + 7)) + 1 < d (x0 + 1) 3 from Int.not_lt.mpr c0)]
    rw [y0] at h
    rw [y1] at h
    exact h (show 0 ≤ (v_218 x0 x1 (mset (mset (mset d (x0 + 1) (((452 + (24 * x1)) + 8) + x2) ((d (x0 + 1) 0) + 1)) (x0 + 1) ((452 + (24 * x1)) + 7) ((d (x0 + 1) ((452 + (24 * x1)) + 7)) + 1)) (x0 + 1) ((452 + (24 * x1)) + 6) 1)) ∧ (v_218 x0 x1 (mset (mset (mset d (x0 + 1) (((452 + (24 * x1)) + 8) + x2) ((d (x0 + 1) 0) + 1)) (x0 + 1) ((452 + (24 * x1)) + 7) ((d (x0 + 1) ((452 + (24 * x1)) + 7)) + 1)) (x0 + 1) ((452 + (24 * x1)) + 6) 1)) ≤ 1400 from (by omega)) (show ∀ b : Int, (b < x0 + 1 ∨ x0 + 1 < b) → (g_218 x0 x1 (mset (mset (mset d (x0 + 1) (((452 + (24 * x1)) + 8) + x2) ((d (x0 + 1) 0) + 1)) (x0 + 1) ((452 + (24 * x1)) + 7) ((d (x0 + 1) ((452 + (24 * x1)) + 7)) + 1)) (x0 + 1) ((452 + (24 * x1)) + 6) 1)) b = d b from fun b hb => (F1 b (by omega)).trans ((mset_ne (by omega)).trans ((mset_ne (by omega)).trans (mset_ne (by omega))))) (show ∀ i : Int, (0 ≤ i ∧ i ≤ 9) ∨ (11 ≤ i ∧ i < 452) → (g_218 x0 x1 (mset (mset (mset d (x0 + 1) (((452 + (24 * x1)) + 8) + x2) ((d (x0 + 1) 0) + 1)) (x0 + 1) ((452 + (24 * x1)) + 7) ((d (x0 + 1) ((452 + (24 * x1)) + 7)) + 1)) (x0 + 1) ((452 + (24 * x1)) + 6) 1)) (x0 + 1) i = d (x0 + 1) i from fun i hi => (((Q1 i (by omega)).trans (mset_ni (by omega))).trans (mset_ni (by omega))).trans (mset_ni (by omega))) (mpP.of (mh_7 hS hx0 _ rfl) (show ∀ i : Int, i = 7 ∨ (12 ≤ i ∧ i < 420 ∧ (i - 12) % 68 = 2) → (g_218 x0 x1 (mset (mset (mset d (x0 + 1) (((452 + (24 * x1)) + 8) + x2) ((d (x0 + 1) 0) + 1)) (x0 + 1) ((452 + (24 * x1)) + 7) ((d (x0 + 1) ((452 + (24 * x1)) + 7)) + 1)) (x0 + 1) ((452 + (24 * x1)) + 6) 1)) (x0 + 1) i = d (x0 + 1) i from fun i hi => (((Q1 i (by omega)).trans (mset_ni (by omega))).trans (mset_ni (by omega))).trans (mset_ni (by omega))) hmp) (mwP.of (fun i hi => Q1 i (by omega)) (mwP.p67 (by omega) (by omega) (mwP.ne (fun t t0 t1 => by omega) hmw))) hS4
  · have y0 : v_235 x0 x1 x2 d = 0 := by simp only [v_235, if_pos (show (d (x0 + 1) ((452 + (24 * x1)) + 7)) + 1 < d (x0 + 1) 3 from c0)]
    have y1 : g_235 x0 x1 x2 d = mset (mset d (x0 + 1) (((452 + (24 * x1)) + 8) + x2) ((d (x0 + 1) 0) + 1)) (x0 + 1) ((452 + (24 * x1)) + 7) ((d (x0 + 1) ((452 + (24 * x1)) + 7)) + 1) := by simp only [g_235, if_pos (show (d (x0 + 1) ((452 + (24 * x1)) + 7)) + 1 < d (x0 + 1) 3 from c0)]
    rw [y0] at h
    rw [y1] at h
    exact h (show 0 ≤ ((0 : Int)) ∧ ((0 : Int)) ≤ 1400 from (by omega)) (show ∀ b : Int, (b < x0 + 1 ∨ x0 + 1 < b) → (mset (mset d (x0 + 1) (((452 + (24 * x1)) + 8) + x2) ((d (x0 + 1) 0) + 1)) (x0 + 1) ((452 + (24 * x1)) + 7) ((d (x0 + 1) ((452 + (24 * x1)) + 7)) + 1)) b = d b from fun b hb => (mset_ne (by omega)).trans (mset_ne (by omega))) (show ∀ i : Int, (0 ≤ i ∧ i ≤ 9) ∨ (11 ≤ i ∧ i < 452) → (mset (mset d (x0 + 1) (((452 + (24 * x1)) + 8) + x2) ((d (x0 + 1) 0) + 1)) (x0 + 1) ((452 + (24 * x1)) + 7) ((d (x0 + 1) ((452 + (24 * x1)) + 7)) + 1)) (x0 + 1) i = d (x0 + 1) i from fun i hi => (mset_ni (by omega)).trans (mset_ni (by omega))) (mpP.of (mh_7 hS hx0 _ rfl) (show ∀ i : Int, i = 7 ∨ (12 ≤ i ∧ i < 420 ∧ (i - 12) % 68 = 2) → (mset (mset d (x0 + 1) (((452 + (24 * x1)) + 8) + x2) ((d (x0 + 1) 0) + 1)) (x0 + 1) ((452 + (24 * x1)) + 7) ((d (x0 + 1) ((452 + (24 * x1)) + 7)) + 1)) (x0 + 1) i = d (x0 + 1) i from fun i hi => (mset_ni (by omega)).trans (mset_ni (by omega))) hmp) (mwP.p7 (by omega) (by omega) (mwP.ne (fun t t0 t1 => by omega) hmw)) hS2
def st_234_97 (x0 x1 x2 : Int) (r97 : Int → Int → Int → mD → Int) (x3 x4 x5 : Int) (d : mD) : Int := if x5 < d (x0 + 1) 9 then (if d (x0 + 1) ((452 + (24 * x5)) + 0) = x2 then (if v_232 x0 x5 (d (x0 + 1) (x3 + 0)) d = 0 then r97 x3 (mior x4 0) (x5 + 1) d else r97 x3 (mior x4 1) (x5 + 1) d) else r97 x3 (mior x4 0) (x5 + 1) d) else if x4 = 0 then 0 else 7
def lp_234_97 (x0 x1 x2 : Int) : Nat → Int → Int → Int → mD → Int
  | 0 => st_234_97 x0 x1 x2 (fun _ _ _ d => 0)
  | n + 1 => st_234_97 x0 x1 x2 (lp_234_97 x0 x1 x2 n)
theorem ls_234_97 {E : mO × tW} {K : tK} {x0 x1 x2 : Int} (hx0 : mdB x0) (p1 : 0 ≤ x1 ∧ x1 ≤ 60) (p2 : 0 ≤ x2 ∧ x2 ≤ 15) (N97 : Int) (r97 : Int → Int → Int → mD → Int) (ih97 : ∀ (x3 x4 x5 : Int) (d : mD), Safe d → (x3 = 452 + 24 * x1) → (0 ≤ x4 ∧ x4 ≤ 1) → (0 ≤ x5 ∧ x5 ≤ 61) → (d (x0 + 1) (452 + 24 * x1 + 6) = 0) → 0 ≤ 61 - x5 → 61 - x5 < N97 → (((0 ≤ (r97 x3 x4 x5 d) ∧ (r97 x3 x4 x5 d) ≤ 7) ∧ (¬ (r97 x3 x4 x5 d) = 0 ∨ d (x0 + 1) (452 + 24 * x1 + 6) = 0)) → K (.inl (some (0, (r97 x3 x4 x5 d)))) d) → tRun E 234 (97, [.inr (11, x0), .inl (0, x1), .inl (0, x2), .inl (0, x3), .inl (0, x4), .inl (0, x5)], [], 0, 0, d) K) (x3 x4 x5 : Int) (d : mD) (hS : Safe d) (i0 : x3 = 452 + 24 * x1) (i1 : 0 ≤ x4 ∧ x4 ≤ 1) (i2 : 0 ≤ x5 ∧ x5 ≤ 61) (i3 : d (x0 + 1) (452 + 24 * x1 + 6) = 0) (hm : 61 - x5 ≤ N97) (h : ((0 ≤ (st_234_97 x0 x1 x2 r97 x3 x4 x5 d) ∧ (st_234_97 x0 x1 x2 r97 x3 x4 x5 d) ≤ 7) ∧ (¬ (st_234_97 x0 x1 x2 r97 x3 x4 x5 d) = 0 ∨ d (x0 + 1) (452 + 24 * x1 + 6) = 0)) → K (.inl (some (0, (st_234_97 x0 x1 x2 r97 x3 x4 x5 d)))) d) : tRun E 234 (97, [.inr (11, x0), .inl (0, x1), .inl (0, x2), .inl (0, x3), .inl (0, x4), .inl (0, x5)], [], 0, 0, d) K := by
  refine t_234_97 ?_
  have w1 := mbool x4
  have q1 := mh_9 hS hx0 _ rfl
  refine ⟨by omega, ⟨m_inR (by omega) (by omega), m_inR (by omega) (by omega)⟩, fun c0 => ?_, fun c0 => ?_⟩
  · refine ⟨m_inR (by omega) (by omega), fun c1 => ?_, fun c1 => ?_⟩
    · have y0 : st_234_97 x0 x1 x2 r97 x3 x4 x5 d = 0 := by simp only [st_234_97, if_neg (show ¬ x5 < d (x0 + 1) 9 from Int.not_lt.mpr c0), if_pos (show x4 = 0 from c1)]
      rw [y0] at h
      exact h (show (0 ≤ ((0 : Int)) ∧ ((0 : Int)) ≤ 7) ∧ (¬ ((0 : Int)) = 0 ∨ d (x0 + 1) (452 + 24 * x1 + 6) = 0) from (by omega))
    · have y0 : st_234_97 x0 x1 x2 r97 x3 x4 x5 d = 7 := by simp only [st_234_97, if_neg (show ¬ x5 < d (x0 + 1) 9 from Int.not_lt.mpr c0), if_neg (show ¬ x4 = 0 from c1)]
      rw [y0] at h
      exact h (show (0 ≤ ((7 : Int)) ∧ ((7 : Int)) ≤ 7) ∧ (¬ ((7 : Int)) = 0 ∨ d (x0 + 1) (452 + 24 * x1 + 6) = 0) from (by omega))
  · refine k_179 hS ?_
    refine t_234_120 ?_
    have q2 := mt_0 hS hx0 x5 ((452 + (24 * x5)) + 0) (by omega) (by omega)
    refine ⟨by omega, ⟨m_inR (by omega) (by omega), m_inR (by omega) (by omega)⟩, fun c1 => ?_, fun c1 => ?_⟩
    · have q3 := mbool x4
      refine ih97 x3 (mior x4 0) (x5 + 1)  d hS (by omega) (by omega) (by omega) (by omega) (by omega) (by omega) ?_
      intro e
      have y0 : st_234_97 x0 x1 x2 r97 x3 x4 x5 d = r97 x3 (mior x4 0) (x5 + 1) d := by simp only [st_234_97, if_pos (show x5 < d (x0 + 1) 9 from c0), if_neg (show ¬ d (x0 + 1) ((452 + (24 * x5)) + 0) = x2 from c1)]
      rw [y0] at h
      exact h e
    · refine ⟨by omega, ?_⟩
      have q4 := mt_0 hS hx0 x1 (x3 + 0) (by omega) (by omega)
      refine k_232 hS hx0 (by omega) (by omega) (fun e1 => ?_)
      refine t_234_141 ?_
      refine ⟨m_inR (by omega) (by omega), fun c2 => ?_, fun c2 => ?_⟩
      · have q5 := mbool x4
        refine ih97 x3 (mior x4 0) (x5 + 1)  d hS (by omega) (by omega) (by omega) (by omega) (by omega) (by omega) ?_
        intro e
        have y0 : st_234_97 x0 x1 x2 r97 x3 x4 x5 d = r97 x3 (mior x4 0) (x5 + 1) d := by simp only [st_234_97, if_pos (show x5 < d (x0 + 1) 9 from c0), if_pos (show d (x0 + 1) ((452 + (24 * x5)) + 0) = x2 from c1), if_pos (show v_232 x0 x5 (d (x0 + 1) (x3 + 0)) d = 0 from c2)]
        rw [y0] at h
        exact h e
      · have q6 := mbool x4
        refine ih97 x3 (mior x4 1) (x5 + 1)  d hS (by omega) (by omega) (by omega) (by omega) (by omega) (by omega) ?_
        intro e
        have y0 : st_234_97 x0 x1 x2 r97 x3 x4 x5 d = r97 x3 (mior x4 1) (x5 + 1) d := by simp only [st_234_97, if_pos (show x5 < d (x0 + 1) 9 from c0), if_pos (show d (x0 + 1) ((452 + (24 * x5)) + 0) = x2 from c1), if_neg (show ¬ v_232 x0 x5 (d (x0 + 1) (x3 + 0)) d = 0 from c2)]
        rw [y0] at h
        exact h e
theorem l_234_97 {E : mO × tW} {K : tK} {x0 x1 x2 : Int} (hx0 : mdB x0) (p1 : 0 ≤ x1 ∧ x1 ≤ 60) (p2 : 0 ≤ x2 ∧ x2 ≤ 15) : ∀ (n : Nat) (x3 x4 x5 : Int) (d : mD), Safe d → (x3 = 452 + 24 * x1) → (0 ≤ x4 ∧ x4 ≤ 1) → (0 ≤ x5 ∧ x5 ≤ 61) → (d (x0 + 1) (452 + 24 * x1 + 6) = 0) → 61 - x5 ≤ (n : Int) → (((0 ≤ (lp_234_97 x0 x1 x2 n x3 x4 x5 d) ∧ (lp_234_97 x0 x1 x2 n x3 x4 x5 d) ≤ 7) ∧ (¬ (lp_234_97 x0 x1 x2 n x3 x4 x5 d) = 0 ∨ d (x0 + 1) (452 + 24 * x1 + 6) = 0)) → K (.inl (some (0, (lp_234_97 x0 x1 x2 n x3 x4 x5 d)))) d) → tRun E 234 (97, [.inr (11, x0), .inl (0, x1), .inl (0, x2), .inl (0, x3), .inl (0, x4), .inl (0, x5)], [], 0, 0, d) K := by
  intro n
  induction n with
  | zero =>
    intro x3 x4 x5  d hS i0 i1 i2 i3 hm  h
    exact ls_234_97 hx0 p1 p2 0 _ (fun _ _ _  _ _ _ _ _ _ m0 m1 _ => absurd m1 (by omega)) x3 x4 x5  d hS i0 i1 i2 i3 hm  h
  | succ n ih =>
    intro x3 x4 x5  d hS i0 i1 i2 i3 hm  h
    exact ls_234_97 hx0 p1 p2 ((n + 1 : Nat) : Int) _ (fun x3 x4 x5  d hS i0 i1 i2 i3  m0 m1 h => ih x3 x4 x5  d hS i0 i1 i2 i3 (by omega)  h) x3 x4 x5  d hS i0 i1 i2 i3 hm  h
def v_234 (x0 x1 x2 : Int) (d : mD) : Int := if d (x0 + 1) ((452 + (24 * x1)) + 5) = 0 then 1 else if d (x0 + 1) ((452 + (24 * x1)) + 6) = 0 then (if d (x0 + 1) ((452 + (24 * x1)) + 0) = x2 then 3 else if d (x0 + 1) (((452 + (24 * x1)) + 8) + x2) = 0 then (if v_231 x0 x1 x2 d < d (x0 + 1) 4 then 5 else if v_233 x0 x2 d < 3 then lp_234_97 x0 x1 x2 (61 - 0 : Int).toNat (452 + (24 * x1)) 0 0 d else 6) else 4) else 2
theorem k_234 {E : mO × tW} {K : tK} {d : mD} {x0 x1 x2 : Int} (hS : Safe d) (hx0 : mdB x0) (p1 : 0 ≤ x1 ∧ x1 ≤ 60) (p2 : 0 ≤ x2 ∧ x2 ≤ 15) (h : ((0 ≤ (v_234 x0 x1 x2 d) ∧ (v_234 x0 x1 x2 d) ≤ 7) ∧ (¬ (v_234 x0 x1 x2 d) = 0 ∨ d (x0 + 1) (452 + 24 * x1 + 6) = 0)) → K (.inl (some (0, (v_234 x0 x1 x2 d)))) d) : tCall E 234 [.inr (11, x0), .inl (0, x1), .inl (0, x2)] d K := by
  refine t_234_0 ?_
  refine k_179 hS ?_
  refine t_234_4 ?_
  have q7 := mt_5 hS hx0 x1 ((452 + (24 * x1)) + 5) (by omega) (by omega)
  refine ⟨by omega, m_inR (by omega) (by omega), fun c0 => ?_, fun c0 => ?_⟩
  · have q8 := mt_6 hS hx0 x1 ((452 + (24 * x1)) + 6) (by omega) (by omega)
    refine ⟨by omega, m_inR (by omega) (by omega), fun c1 => ?_, fun c1 => ?_⟩
    · have q9 := mt_0 hS hx0 x1 ((452 + (24 * x1)) + 0) (by omega) (by omega)
      refine ⟨by omega, ⟨m_inR (by omega) (by omega), m_inR (by omega) (by omega)⟩, fun c2 => ?_, fun c2 => ?_⟩
      · have q10 := mt_w hS hx0 x1 x2 (((452 + (24 * x1)) + 8) + x2) (by omega) (by omega) (by omega)
        refine ⟨by omega, m_inR (by omega) (by omega), fun c3 => ?_, fun c3 => ?_⟩
        · refine k_231 hS hx0 (by omega) (m_inR (by omega) (by omega)) (fun e2 => ?_)
          refine t_234_68 ?_
          have q11 := mh_4 hS hx0 _ rfl
          refine ⟨by omega, ⟨m_inR (by omega) (by omega), m_inR (by omega) (by omega)⟩, fun c4 => ?_, fun c4 => ?_⟩
          · refine k_233 hS hx0 (by omega) (fun e3 => ?_)
            refine t_234_84 ?_
            refine ⟨⟨m_inR (by omega) (by omega), m_inR (by omega) (by omega)⟩, fun c5 => ?_, fun c5 => ?_⟩
            · refine l_234_97 hx0 p1 p2 (61 - 0 : Int).toNat (452 + (24 * x1)) 0 0  d hS (by omega) (by omega) (by omega) (by omega) (by omega) ?_
              intro e
              have y0 : v_234 x0 x1 x2 d = lp_234_97 x0 x1 x2 (61 - 0 : Int).toNat (452 + (24 * x1)) 0 0 d := by simp only [v_234, if_neg (show ¬ d (x0 + 1) ((452 + (24 * x1)) + 5) = 0 from c0), if_pos (show d (x0 + 1) ((452 + (24 * x1)) + 6) = 0 from c1), if_neg (show ¬ d (x0 + 1) ((452 + (24 * x1)) + 0) = x2 from c2), if_pos (show d (x0 + 1) (((452 + (24 * x1)) + 8) + x2) = 0 from c3), if_neg (show ¬ v_231 x0 x1 x2 d < d (x0 + 1) 4 from Int.not_lt.mpr c4), if_pos (show v_233 x0 x2 d < 3 from c5)]
              rw [y0] at h
              exact h e
            · have y0 : v_234 x0 x1 x2 d = 6 := by simp only [v_234, if_neg (show ¬ d (x0 + 1) ((452 + (24 * x1)) + 5) = 0 from c0), if_pos (show d (x0 + 1) ((452 + (24 * x1)) + 6) = 0 from c1), if_neg (show ¬ d (x0 + 1) ((452 + (24 * x1)) + 0) = x2 from c2), if_pos (show d (x0 + 1) (((452 + (24 * x1)) + 8) + x2) = 0 from c3), if_neg (show ¬ v_231 x0 x1 x2 d < d (x0 + 1) 4 from Int.not_lt.mpr c4), if_neg (show ¬ v_233 x0 x2 d < 3 from Int.not_lt.mpr c5)]
              rw [y0] at h
              exact h (show (0 ≤ ((6 : Int)) ∧ ((6 : Int)) ≤ 7) ∧ (¬ ((6 : Int)) = 0 ∨ d (x0 + 1) (452 + 24 * x1 + 6) = 0) from (by omega))
          · have y0 : v_234 x0 x1 x2 d = 5 := by simp only [v_234, if_neg (show ¬ d (x0 + 1) ((452 + (24 * x1)) + 5) = 0 from c0), if_pos (show d (x0 + 1) ((452 + (24 * x1)) + 6) = 0 from c1), if_neg (show ¬ d (x0 + 1) ((452 + (24 * x1)) + 0) = x2 from c2), if_pos (show d (x0 + 1) (((452 + (24 * x1)) + 8) + x2) = 0 from c3), if_pos (show v_231 x0 x1 x2 d < d (x0 + 1) 4 from c4)]
            rw [y0] at h
            exact h (show (0 ≤ ((5 : Int)) ∧ ((5 : Int)) ≤ 7) ∧ (¬ ((5 : Int)) = 0 ∨ d (x0 + 1) (452 + 24 * x1 + 6) = 0) from (by omega))
        · have y0 : v_234 x0 x1 x2 d = 4 := by simp only [v_234, if_neg (show ¬ d (x0 + 1) ((452 + (24 * x1)) + 5) = 0 from c0), if_pos (show d (x0 + 1) ((452 + (24 * x1)) + 6) = 0 from c1), if_neg (show ¬ d (x0 + 1) ((452 + (24 * x1)) + 0) = x2 from c2), if_neg (show ¬ d (x0 + 1) (((452 + (24 * x1)) + 8) + x2) = 0 from c3)]
          rw [y0] at h
          exact h (show (0 ≤ ((4 : Int)) ∧ ((4 : Int)) ≤ 7) ∧ (¬ ((4 : Int)) = 0 ∨ d (x0 + 1) (452 + 24 * x1 + 6) = 0) from (by omega))
      · have y0 : v_234 x0 x1 x2 d = 3 := by simp only [v_234, if_neg (show ¬ d (x0 + 1) ((452 + (24 * x1)) + 5) = 0 from c0), if_pos (show d (x0 + 1) ((452 + (24 * x1)) + 6) = 0 from c1), if_pos (show d (x0 + 1) ((452 + (24 * x1)) + 0) = x2 from c2)]
        rw [y0] at h
        exact h (show (0 ≤ ((3 : Int)) ∧ ((3 : Int)) ≤ 7) ∧ (¬ ((3 : Int)) = 0 ∨ d (x0 + 1) (452 + 24 * x1 + 6) = 0) from (by omega))
    · have y0 : v_234 x0 x1 x2 d = 2 := by simp only [v_234, if_neg (show ¬ d (x0 + 1) ((452 + (24 * x1)) + 5) = 0 from c0), if_neg (show ¬ d (x0 + 1) ((452 + (24 * x1)) + 6) = 0 from c1)]
      rw [y0] at h
      exact h (show (0 ≤ ((2 : Int)) ∧ ((2 : Int)) ≤ 7) ∧ (¬ ((2 : Int)) = 0 ∨ d (x0 + 1) (452 + 24 * x1 + 6) = 0) from (by omega))
  · have y0 : v_234 x0 x1 x2 d = 1 := by simp only [v_234, if_pos (show d (x0 + 1) ((452 + (24 * x1)) + 5) = 0 from c0)]
    rw [y0] at h
    exact h (show (0 ≤ ((1 : Int)) ∧ ((1 : Int)) ≤ 7) ∧ (¬ ((1 : Int)) = 0 ∨ d (x0 + 1) (452 + 24 * x1 + 6) = 0) from (by omega))
def v_236 (x0 x1 : Int) (d : mD) : Int := v_176 x1 0 ((d (x0 + 1) 7) - 1) d
theorem k_236 {E : mO × tW} {K : tK} {d : mD} {x0 x1 : Int} (hS : Safe d) (hx0 : mdB x0) (p1 : -2147483648 ≤ x1 ∧ x1 ≤ 2147483647) (h : ((0 ≤ (v_236 x0 x1 d) ∧ (v_236 x0 x1 d) ≤ 1) ∧ ((v_236 x0 x1 d) = 0 ∨ (0 ≤ x1 ∧ x1 < d (x0 + 1) 7)) ∧ ((v_236 x0 x1 d) = 1 ∨ x1 < 0 ∨ d (x0 + 1) 7 ≤ x1)) → K (.inl (some (0, (v_236 x0 x1 d)))) d) : tCall E 236 [.inr (11, x0), .inl (0, x1)] d K := by
  refine t_236_0 ?_
  have q1 := mh_7 hS hx0 _ rfl
  refine ⟨m_inR (by omega) (by omega), by omega, m_inR (by omega) (by omega), ?_⟩
  refine k_176 hS (m_inR (by omega) (by omega)) (m_inR (by omega) (by omega)) (m_inR (by omega) (by omega)) (fun e1 => ?_)
  refine t_236_16 ?_
  refine ⟨by omega, ?_⟩
  have y0 : v_236 x0 x1 d = v_176 x1 0 ((d (x0 + 1) 7) - 1) d := by simp only [v_236]
  rw [y0] at h
  exact h (show (0 ≤ (v_176 x1 0 ((d (x0 + 1) 7) - 1) d) ∧ (v_176 x1 0 ((d (x0 + 1) 7) - 1) d) ≤ 1) ∧ ((v_176 x1 0 ((d (x0 + 1) 7) - 1) d) = 0 ∨ (0 ≤ x1 ∧ x1 < d (x0 + 1) 7)) ∧ ((v_176 x1 0 ((d (x0 + 1) 7) - 1) d) = 1 ∨ x1 < 0 ∨ d (x0 + 1) 7 ≤ x1) from (by omega))
def v_237 (x0 x1 : Int) (d : mD) : Int := v_176 x1 0 ((d (x0 + 1) 8) - 1) d
theorem k_237 {E : mO × tW} {K : tK} {d : mD} {x0 x1 : Int} (hS : Safe d) (hx0 : mdB x0) (p1 : -2147483648 ≤ x1 ∧ x1 ≤ 2147483647) (h : ((0 ≤ (v_237 x0 x1 d) ∧ (v_237 x0 x1 d) ≤ 1) ∧ ((v_237 x0 x1 d) = 0 ∨ (0 ≤ x1 ∧ x1 < d (x0 + 1) 8)) ∧ ((v_237 x0 x1 d) = 1 ∨ x1 < 0 ∨ d (x0 + 1) 8 ≤ x1)) → K (.inl (some (0, (v_237 x0 x1 d)))) d) : tCall E 237 [.inr (11, x0), .inl (0, x1)] d K := by
  refine t_237_0 ?_
  have q1 := mh_8 hS hx0 _ rfl
  refine ⟨m_inR (by omega) (by omega), by omega, m_inR (by omega) (by omega), ?_⟩
  refine k_176 hS (m_inR (by omega) (by omega)) (m_inR (by omega) (by omega)) (m_inR (by omega) (by omega)) (fun e1 => ?_)
  refine t_237_16 ?_
  refine ⟨by omega, ?_⟩
  have y0 : v_237 x0 x1 d = v_176 x1 0 ((d (x0 + 1) 8) - 1) d := by simp only [v_237]
  rw [y0] at h
  exact h (show (0 ≤ (v_176 x1 0 ((d (x0 + 1) 8) - 1) d) ∧ (v_176 x1 0 ((d (x0 + 1) 8) - 1) d) ≤ 1) ∧ ((v_176 x1 0 ((d (x0 + 1) 8) - 1) d) = 0 ∨ (0 ≤ x1 ∧ x1 < d (x0 + 1) 8)) ∧ ((v_176 x1 0 ((d (x0 + 1) 8) - 1) d) = 1 ∨ x1 < 0 ∨ d (x0 + 1) 8 ≤ x1) from (by omega))
def v_238 (x0 x1 : Int) (d : mD) : Int := v_176 x1 0 ((d (x0 + 1) 9) - 1) d
theorem k_238 {E : mO × tW} {K : tK} {d : mD} {x0 x1 : Int} (hS : Safe d) (hx0 : mdB x0) (p1 : -2147483648 ≤ x1 ∧ x1 ≤ 2147483647) (h : ((0 ≤ (v_238 x0 x1 d) ∧ (v_238 x0 x1 d) ≤ 1) ∧ ((v_238 x0 x1 d) = 0 ∨ (0 ≤ x1 ∧ x1 < d (x0 + 1) 9)) ∧ ((v_238 x0 x1 d) = 1 ∨ x1 < 0 ∨ d (x0 + 1) 9 ≤ x1)) → K (.inl (some (0, (v_238 x0 x1 d)))) d) : tCall E 238 [.inr (11, x0), .inl (0, x1)] d K := by
  refine t_238_0 ?_
  have q1 := mh_9 hS hx0 _ rfl
  refine ⟨m_inR (by omega) (by omega), by omega, m_inR (by omega) (by omega), ?_⟩
  refine k_176 hS (m_inR (by omega) (by omega)) (m_inR (by omega) (by omega)) (m_inR (by omega) (by omega)) (fun e1 => ?_)
  refine t_238_16 ?_
  refine ⟨by omega, ?_⟩
  have y0 : v_238 x0 x1 d = v_176 x1 0 ((d (x0 + 1) 9) - 1) d := by simp only [v_238]
  rw [y0] at h
  exact h (show (0 ≤ (v_176 x1 0 ((d (x0 + 1) 9) - 1) d) ∧ (v_176 x1 0 ((d (x0 + 1) 9) - 1) d) ≤ 1) ∧ ((v_176 x1 0 ((d (x0 + 1) 9) - 1) d) = 0 ∨ (0 ≤ x1 ∧ x1 < d (x0 + 1) 9)) ∧ ((v_176 x1 0 ((d (x0 + 1) 9) - 1) d) = 1 ∨ x1 < 0 ∨ d (x0 + 1) 9 ≤ x1) from (by omega))
