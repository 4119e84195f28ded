/-! ===== contracts of the reference's methods: printed by a program of mine ===== -/
def st_278_54 (x0 : Int) (r54 : Int → mD → mD) (x1 : Int) (d : mD) : mD := if x1 < 3116 then r54 (x1 + 1) (mset d (x0 + 2) ((3116 * (d x0 7)) + x1) (d (x0 + 1) x1)) else mset d x0 7 ((d x0 7) + 1)
def lp_278_54 (x0 : Int) : Nat → Int → mD → mD
  | 0 => st_278_54 x0 (fun _ d => d)
  | n + 1 => st_278_54 x0 (lp_278_54 x0 n)
theorem ls_278_54 {E : mO × tW} {K : tK} {x0 : Int} (hx0 : mdB x0) (N54 : Int) (r54 : Int → mD → mD) (ih54 : ∀ (x1 : Int) (d : mD), Safe d → (0 ≤ x1 ∧ x1 ≤ 3116) → (d x0 7 ≤ 7) → 0 ≤ 3116 - x1 → 3116 - x1 < N54 → ((∀ b : Int, (b < x0 ∨ x0 < b) ∧ (b < x0 + 2 ∨ x0 + 2 < b) → (r54 x1 d) b = d b) → Safe (r54 x1 d) → K (.inl none) (r54 x1 d)) → tRun E 278 (54, [.inr (11, x0), .inl (0, x1)], [], 0, 0, d) K) (x1 : Int) (d : mD) (hS : Safe d) (i0 : 0 ≤ x1 ∧ x1 ≤ 3116) (i1 : d x0 7 ≤ 7) (hm : 3116 - x1 ≤ N54) (h : (∀ b : Int, (b < x0 ∨ x0 < b) ∧ (b < x0 + 2 ∨ x0 + 2 < b) → (st_278_54 x0 r54 x1 d) b = d b) → Safe (st_278_54 x0 r54 x1 d) → K (.inl none) (st_278_54 x0 r54 x1 d)) : tRun E 278 (54, [.inr (11, x0), .inl (0, x1)], [], 0, 0, d) K := by
  refine t_278_54 ?_
  refine ⟨⟨m_inR (by omega) (by omega), m_inR (by omega) (by omega)⟩, fun c0 => ?_, fun c0 => ?_⟩
  · have q1 := r_11_f7 hS hx0
    have hS1 : Safe (mset d x0 7 ((d x0 7) + 1)) := s_11_f7 hS hx0 (by omega)
    have y0 : st_278_54 x0 r54 x1 d = mset d x0 7 ((d x0 7) + 1) := by simp only [st_278_54, if_neg (show ¬ x1 < 3116 from Int.not_lt.mpr c0)]
    rw [y0] at h
    exact h (show ∀ b : Int, (b < x0 ∨ x0 < b) ∧ (b < x0 + 2 ∨ x0 + 2 < b) → (mset d x0 7 ((d x0 7) + 1)) b = d b from fun b hb => mset_ne (by omega)) hS1
  · have q2 := r_11_f7 hS hx0
    refine ⟨by omega, by omega, ?_⟩
    have hS2 : Safe (mset d (x0 + 2) ((3116 * (d x0 7)) + x1) (d (x0 + 1) x1)) := sr_2 hS hx0 (j := x1) (by omega) (rr_1 hS hx0 x1)
    have q3 : (mset d (x0 + 2) ((3116 * (d x0 7)) + x1) (d (x0 + 1) x1)) x0 7 = d x0 7 := congrFun (mset_ne (by omega)) 7
    refine ih54 (x1 + 1)  (mset d (x0 + 2) ((3116 * (d x0 7)) + x1) (d (x0 + 1) x1)) hS2 (by omega) (by omega) (by omega) (by omega) ?_
    intro F hS_
    have y0 : st_278_54 x0 r54 x1 d = r54 (x1 + 1) (mset d (x0 + 2) ((3116 * (d x0 7)) + x1) (d (x0 + 1) x1)) := by simp only [st_278_54, if_pos (show x1 < 3116 from c0)]
    rw [y0] at h
    exact h (fun b hb => (F b hb).trans ((show ∀ b : Int, (b < x0 ∨ x0 < b) ∧ (b < x0 + 2 ∨ x0 + 2 < b) → (mset d (x0 + 2) ((3116 * (d x0 7)) + x1) (d (x0 + 1) x1)) b = d b from fun b hb => mset_ne (by omega)) b hb)) hS_
theorem l_278_54 {E : mO × tW} {K : tK} {x0 : Int} (hx0 : mdB x0) : ∀ (n : Nat) (x1 : Int) (d : mD), Safe d → (0 ≤ x1 ∧ x1 ≤ 3116) → (d x0 7 ≤ 7) → 3116 - x1 ≤ (n : Int) → ((∀ b : Int, (b < x0 ∨ x0 < b) ∧ (b < x0 + 2 ∨ x0 + 2 < b) → (lp_278_54 x0 n x1 d) b = d b) → Safe (lp_278_54 x0 n x1 d) → K (.inl none) (lp_278_54 x0 n x1 d)) → tRun E 278 (54, [.inr (11, x0), .inl (0, x1)], [], 0, 0, d) K := by
  intro n
  induction n with
  | zero =>
    intro x1  d hS i0 i1 hm  h
    exact ls_278_54 hx0 0 _ (fun _  _ _ _ _ m0 m1 _ => absurd m1 (by omega)) x1  d hS i0 i1 hm  h
  | succ n ih =>
    intro x1  d hS i0 i1 hm  h
    exact ls_278_54 hx0 ((n + 1 : Nat) : Int) _ (fun x1  d hS i0 i1  m0 m1 h => ih x1  d hS i0 i1 (by omega)  h) x1  d hS i0 i1 hm  h
def st_278_13 (x0 : Int) (r13 : Int → mD → mD) (x1 : Int) (d : mD) : mD := if x1 < 24928 then r13 (x1 + 1) (mset d (x0 + 2) (x1 - 3116) (d (x0 + 2) x1)) else lp_278_54 x0 (3116 - 0 : Int).toNat 0 (mset d x0 7 ((d x0 7) - 1))
def lp_278_13 (x0 : Int) : Nat → Int → mD → mD
  | 0 => st_278_13 x0 (fun _ d => d)
  | n + 1 => st_278_13 x0 (lp_278_13 x0 n)
theorem ls_278_13 {E : mO × tW} {K : tK} {x0 : Int} (hx0 : mdB x0) (N13 : Int) (r13 : Int → mD → mD) (ih13 : ∀ (x1 : Int) (d : mD), Safe d → (3116 ≤ x1 ∧ x1 ≤ 24928) → (d x0 7 = 8) → 0 ≤ 24928 - x1 → 24928 - x1 < N13 → ((∀ b : Int, (b < x0 ∨ x0 < b) ∧ (b < x0 + 2 ∨ x0 + 2 < b) → (r13 x1 d) b = d b) → Safe (r13 x1 d) → K (.inl none) (r13 x1 d)) → tRun E 278 (13, [.inr (11, x0), .inl (0, x1)], [], 0, 0, d) K) (x1 : Int) (d : mD) (hS : Safe d) (i0 : 3116 ≤ x1 ∧ x1 ≤ 24928) (i1 : d x0 7 = 8) (hm : 24928 - x1 ≤ N13) (h : (∀ b : Int, (b < x0 ∨ x0 < b) ∧ (b < x0 + 2 ∨ x0 + 2 < b) → (st_278_13 x0 r13 x1 d) b = d b) → Safe (st_278_13 x0 r13 x1 d) → K (.inl none) (st_278_13 x0 r13 x1 d)) : tRun E 278 (13, [.inr (11, x0), .inl (0, x1)], [], 0, 0, d) K := by
  refine t_278_13 ?_
  refine ⟨⟨m_inR (by omega) (by omega), m_inR (by omega) (by omega)⟩, fun c0 => ?_, fun c0 => ?_⟩
  · have q4 := r_11_f7 hS hx0
    have hS3 : Safe (mset d x0 7 ((d x0 7) - 1)) := s_11_f7 hS hx0 (by omega)
    have q5 : (mset d x0 7 ((d x0 7) - 1)) x0 7 = (d x0 7) - 1 := mset_eq
    refine l_278_54 hx0 (3116 - 0 : Int).toNat 0  (mset d x0 7 ((d x0 7) - 1)) hS3 (by omega) (by omega) (by omega) ?_
    intro F hS_
    have y0 : st_278_13 x0 r13 x1 d = lp_278_54 x0 (3116 - 0 : Int).toNat 0 (mset d x0 7 ((d x0 7) - 1)) := by simp only [st_278_13, if_neg (show ¬ x1 < 24928 from Int.not_lt.mpr c0)]
    rw [y0] at h
    exact h (fun b hb => (F b hb).trans ((show ∀ b : Int, (b < x0 ∨ x0 < b) ∧ (b < x0 + 2 ∨ x0 + 2 < b) → (mset d x0 7 ((d x0 7) - 1)) b = d b from fun b hb => mset_ne (by omega)) b hb)) hS_
  · refine ⟨by omega, by omega, ?_⟩
    have hS4 : Safe (mset d (x0 + 2) (x1 - 3116) (d (x0 + 2) x1)) := sr_2 hS hx0 (j := (x1) % 3116) (by omega) (rr_2 hS hx0 x1)
    have q6 : (mset d (x0 + 2) (x1 - 3116) (d (x0 + 2) x1)) x0 7 = d x0 7 := congrFun (mset_ne (by omega)) 7
    refine ih13 (x1 + 1)  (mset d (x0 + 2) (x1 - 3116) (d (x0 + 2) x1)) hS4 (by omega) (by omega) (by omega) (by omega) ?_
    intro F hS_
    have y0 : st_278_13 x0 r13 x1 d = r13 (x1 + 1) (mset d (x0 + 2) (x1 - 3116) (d (x0 + 2) x1)) := by simp only [st_278_13, if_pos (show x1 < 24928 from c0)]
    rw [y0] at h
    exact h (fun b hb => (F b hb).trans ((show ∀ b : Int, (b < x0 ∨ x0 < b) ∧ (b < x0 + 2 ∨ x0 + 2 < b) → (mset d (x0 + 2) (x1 - 3116) (d (x0 + 2) x1)) b = d b from fun b hb => mset_ne (by omega)) b hb)) hS_
theorem l_278_13 {E : mO × tW} {K : tK} {x0 : Int} (hx0 : mdB x0) : ∀ (n : Nat) (x1 : Int) (d : mD), Safe d → (3116 ≤ x1 ∧ x1 ≤ 24928) → (d x0 7 = 8) → 24928 - x1 ≤ (n : Int) → ((∀ b : Int, (b < x0 ∨ x0 < b) ∧ (b < x0 + 2 ∨ x0 + 2 < b) → (lp_278_13 x0 n x1 d) b = d b) → Safe (lp_278_13 x0 n x1 d) → K (.inl none) (lp_278_13 x0 n x1 d)) → tRun E 278 (13, [.inr (11, x0), .inl (0, x1)], [], 0, 0, d) K := by
  intro n
  induction n with
  | zero =>
    intro x1  d hS i0 i1 hm  h
    exact ls_278_13 hx0 0 _ (fun _  _ _ _ _ m0 m1 _ => absurd m1 (by omega)) x1  d hS i0 i1 hm  h
  | succ n ih =>
    intro x1  d hS i0 i1 hm  h
    exact ls_278_13 hx0 ((n + 1 : Nat) : Int) _ (fun x1  d hS i0 i1  m0 m1 h => ih x1  d hS i0 i1 (by omega)  h) x1  d hS i0 i1 hm  h
def g_278 (x0 : Int) (d : mD) : mD := if d x0 7 = 8 then lp_278_13 x0 (24928 - 3116 : Int).toNat 3116 d else lp_278_54 x0 (3116 - 0 : Int).toNat 0 d
theorem k_278 {E : mO × tW} {K : tK} {d : mD} {x0 : Int} (hS : Safe d) (hx0 : mdB x0) (h : (∀ b : Int, (b < x0 ∨ x0 < b) ∧ (b < x0 + 2 ∨ x0 + 2 < b) → (g_278 x0 d) b = d b) → Safe (g_278 x0 d) → K (.inl none) (g_278 x0 d)) : tCall E 278 [.inr (11, x0)] d K := by
  refine t_278_0 ?_
  have w0 := mh_0 hS hx0 _ rfl
  have w7 := mh_7 hS hx0 _ rfl
  have w8 := mh_8 hS hx0 _ rfl
  have w9 := mh_9 hS hx0 _ rfl
  have w10 := mh_10 hS hx0 _ rfl
  have w11 := mh_11 hS hx0 _ rfl
  have q7 := r_11_f7 hS hx0
  refine ⟨⟨m_inR (by omega) (by omega), m_inR (by omega) (by omega)⟩, fun c0 => ?_, fun c0 => ?_⟩
  · refine l_278_54 hx0 (3116 - 0 : Int).toNat 0  d hS (by omega) (by omega) (by omega) ?_
    intro F hS_
    have y0 : g_278 x0 d = lp_278_54 x0 (3116 - 0 : Int).toNat 0 d := by simp only [g_278, if_neg (show ¬ d x0 7 = 8 from c0)]
    rw [y0] at h
    exact h F hS_
  · refine l_278_13 hx0 (24928 - 3116 : Int).toNat 3116  d hS (by omega) (by omega) (by omega) ?_
    intro F hS_
    have y0 : g_278 x0 d = lp_278_13 x0 (24928 - 3116 : Int).toNat 3116 d := by simp only [g_278, if_pos (show d x0 7 = 8 from c0)]
    rw [y0] at h
    exact h F hS_
def v_279 (x0 x1 x2 : Int) (d : mD) : Int := if v_237 x0 x1 d = 0 then 0 else if v_236 x0 x2 d = 0 then 0 else if v_225 x0 x1 x2 d = 0 then 0 else v_226 x0 x1 x2 (g_278 x0 (mset d x0 0 0))
def g_279 (x0 x1 x2 : Int) (d : mD) : mD := if v_237 x0 x1 d = 0 then mset d x0 0 1 else if v_236 x0 x2 d = 0 then mset d x0 0 1 else if v_225 x0 x1 x2 d = 0 then mset d x0 0 2 else g_226 x0 x1 x2 (g_278 x0 (mset d x0 0 0))
theorem k_279 {E : mO × tW} {K : tK} {d : mD} {x0 x1 x2 : Int} (hS : Safe d) (hx0 : mdB x0) (p1 : -2147483648 ≤ x1 ∧ x1 ≤ 2147483647) (p2 : -2147483648 ≤ x2 ∧ x2 ≤ 2147483647) (h : (∀ b : Int, (b < x0 ∨ x0 + 2 < b) → (g_279 x0 x1 x2 d) b = d b) → Safe (g_279 x0 x1 x2 d) → K (.inl (some (0, (v_279 x0 x1 x2 d)))) (g_279 x0 x1 x2 d)) : tCall E 279 [.inr (11, x0), .inl (0, x1), .inl (0, x2)] d K := by
  refine t_279_0 ?_
  have w0 := mh_0 hS hx0 _ rfl
  have w7 := mh_7 hS hx0 _ rfl
  have w8 := mh_8 hS hx0 _ rfl
  have w9 := mh_9 hS hx0 _ rfl
  have w10 := mh_10 hS hx0 _ rfl
  have w11 := mh_11 hS hx0 _ rfl
  refine k_237 hS hx0 (m_inR (by omega) (by omega)) (fun e1 => ?_)
  refine t_279_6 ?_
  refine ⟨m_inR (by omega) (by omega), fun c0 => ?_, fun c0 => ?_⟩
  · have hS1 : Safe (mset d x0 0 1) := s_11_f0 hS hx0 (by omega)
    rw [mset_eq (d := d) (a := x0) (i := (0 : Int)) (v := (1 : Int))]
    refine ⟨m_inR (by omega) (by omega), fun c1 => ?_, fun c1 => ?_⟩
    · exact (show False by omega).elim
    · have y0 : v_279 x0 x1 x2 d = 0 := by simp only [v_279, if_pos (show v_237 x0 x1 d = 0 from c0), if_pos (show (0 : Int) < 1 from c1)]
      have y1 : g_279 x0 x1 x2 d = mset d x0 0 1 := by simp only [g_279, if_pos (show v_237 x0 x1 d = 0 from c0), if_pos (show (0 : Int) < 1 from c1)]
      rw [y0] at h
      rw [y1] at h
      exact h (show ∀ b : Int, (b < x0 ∨ x0 + 2 < b) → (mset d x0 0 1) b = d b from fun b hb => mset_ne (by omega)) hS1
  · refine k_236 hS hx0 (m_inR (by omega) (by omega)) (fun e2 => ?_)
    refine t_279_14 ?_
    refine ⟨m_inR (by omega) (by omega), fun c1 => ?_, fun c1 => ?_⟩
    · refine k_225 hS hx0 (m_inR (by omega) (by omega)) (by omega) (fun e3 => ?_)
      refine t_279_27 ?_
      refine ⟨m_inR (by omega) (by omega), fun c2 => ?_, fun c2 => ?_⟩
      · have hS2 : Safe (mset d x0 0 2) := s_11_f0 hS hx0 (by omega)
        rw [mset_eq (d := d) (a := x0) (i := (0 : Int)) (v := (2 : Int))]
        refine ⟨m_inR (by omega) (by omega), fun c3 => ?_, fun c3 => ?_⟩
        · exact (show False by omega).elim
        · have y0 : v_279 x0 x1 x2 d = 0 := by simp only [v_279, if_neg (show ¬ v_237 x0 x1 d = 0 from c0), if_neg (show ¬ v_236 x0 x2 d = 0 from c1), if_pos (show v_225 x0 x1 x2 d = 0 from c2), if_pos (show (0 : Int) < 2 from c3)]
          have y1 : g_279 x0 x1 x2 d = mset d x0 0 2 := by simp only [g_279, if_neg (show ¬ v_237 x0 x1 d = 0 from c0), if_neg (show ¬ v_236 x0 x2 d = 0 from c1), if_pos (show v_225 x0 x1 x2 d = 0 from c2), if_pos (show (0 : Int) < 2 from c3)]
          rw [y0] at h
          rw [y1] at h
          exact h (show ∀ b : Int, (b < x0 ∨ x0 + 2 < b) → (mset d x0 0 2) b = d b from fun b hb => mset_ne (by omega)) hS2
      · have hS3 : Safe (mset d x0 0 0) := s_11_f0 hS hx0 (by omega)
        rw [mset_eq (d := d) (a := x0) (i := (0 : Int)) (v := (0 : Int))]
        refine ⟨m_inR (by omega) (by omega), fun c3 => ?_, fun c3 => ?_⟩
        · refine k_278 hS3 hx0 (fun F1 hS4 => ?_)
          refine t_279_51 ?_
          have q1 : (g_278 x0 (mset d x0 0 0)) (x0 + 1) 9 = d (x0 + 1) 9 := (congrFun (F1 (x0 + 1) (by omega)) 9).trans (congrFun (mset_ne (by omega)) 9)
          have q2 : (g_278 x0 (mset d x0 0 0)) (x0 + 1) (12 + 68 * x2 + 5) = d (x0 + 1) (12 + 68 * x2 + 5) := (congrFun (F1 (x0 + 1) (by omega)) (12 + 68 * x2 + 5)).trans (congrFun (mset_ne (by omega)) (12 + 68 * x2 + 5))
          refine k_226 hS4 hx0 (by omega) (by omega) (by omega) (by omega) (fun e4 F2 Q2 hS5 => ?_)
          refine t_279_57 ?_
          have y0 : v_279 x0 x1 x2 d = v_226 x0 x1 x2 (g_278 x0 (mset d x0 0 0)) := by simp only [v_279, if_neg (show ¬ v_237 x0 x1 d = 0 from c0), if_neg (show ¬ v_236 x0 x2 d = 0 from c1), if_neg (show ¬ v_225 x0 x1 x2 d = 0 from c2), if_neg (show ¬ (0 : Int) < 0 from Int.not_lt.mpr c3)]
          have y1 : g_279 x0 x1 x2 d = g_226 x0 x1 x2 (g_278 x0 (mset d x0 0 0)) := by simp only [g_279, if_neg (show ¬ v_237 x0 x1 d = 0 from c0), if_neg (show ¬ v_236 x0 x2 d = 0 from c1), if_neg (show ¬ v_225 x0 x1 x2 d = 0 from c2), if_neg (show ¬ (0 : Int) < 0 from Int.not_lt.mpr c3)]
          rw [y0] at h
          rw [y1] at h
          exact h (show ∀ b : Int, (b < x0 ∨ x0 + 2 < b) → (g_226 x0 x1 x2 (g_278 x0 (mset d x0 0 0))) b = d b from fun b hb => (F2 b (by omega)).trans ((F1 b (by omega)).trans (mset_ne (by omega)))) hS5
        · exact (show False by omega).elim
    · have hS6 : Safe (mset d x0 0 1) := s_11_f0 hS hx0 (by omega)
      rw [mset_eq (d := d) (a := x0) (i := (0 : Int)) (v := (1 : Int))]
      refine ⟨m_inR (by omega) (by omega), fun c2 => ?_, fun c2 => ?_⟩
      · exact (show False by omega).elim
      · have y0 : v_279 x0 x1 x2 d = 0 := by simp only [v_279, if_neg (show ¬ v_237 x0 x1 d = 0 from c0), if_pos (show v_236 x0 x2 d = 0 from c1), if_pos (show (0 : Int) < 1 from c2)]
        have y1 : g_279 x0 x1 x2 d = mset d x0 0 1 := by simp only [g_279, if_neg (show ¬ v_237 x0 x1 d = 0 from c0), if_pos (show v_236 x0 x2 d = 0 from c1), if_pos (show (0 : Int) < 1 from c2)]
        rw [y0] at h
        rw [y1] at h
        exact h (show ∀ b : Int, (b < x0 ∨ x0 + 2 < b) → (mset d x0 0 1) b = d b from fun b hb => mset_ne (by omega)) hS6
def st_282_59 (x0 x1 : Int) (r59 : Int → Int → mD → Int × mD) (x2 x3 : Int) (d : mD) : Int × mD := if x3 < x1 then r59 x2 (x3 + 1) (g_223 x0 d) else ((v_281 x0 d) - x2, d)
def lp_282_59 (x0 x1 : Int) : Nat → Int → Int → mD → Int × mD
  | 0 => st_282_59 x0 x1 (fun _ _ d => (0, d))
  | n + 1 => st_282_59 x0 x1 (lp_282_59 x0 x1 n)
theorem ls_282_59 {E : mO × tW} {K : tK} {x0 x1 : Int} (hx0 : mdB x0) (p1 : -2147483648 ≤ x1 ∧ x1 ≤ 2147483647) (N59 : Int) (r59 : Int → Int → mD → Int × mD) (ih59 : ∀ (x2 x3 : Int) (d : mD), Safe d → (0 ≤ x3 ∧ x3 ≤ x1 ∧ x1 ≤ 99) → (0 ≤ x2 ∧ x2 ≤ 61) → (d (x0 + 1) 0 + (x1 - x3) ≤ 999) → (mpP (d (x0 + 1))) → 0 ≤ x1 - x3 → x1 - x3 < N59 → ((∀ b : Int, (b < x0 ∨ x0 + 2 < b) → (r59 x2 x3 d).2 b = d b) → Safe (r59 x2 x3 d).2 → K (.inl (some (0, (r59 x2 x3 d).1))) (r59 x2 x3 d).2) → tRun E 282 (59, [.inr (11, x0), .inl (0, x1), .inl (0, x2), .inl (0, x3)], [], 0, 0, d) K) (x2 x3 : Int) (d : mD) (hS : Safe d) (i0 : 0 ≤ x3 ∧ x3 ≤ x1 ∧ x1 ≤ 99) (i1 : 0 ≤ x2 ∧ x2 ≤ 61) (i2 : d (x0 + 1) 0 + (x1 - x3) ≤ 999) (hmp : mpP (d (x0 + 1))) (hm : x1 - x3 ≤ N59) (h : (∀ b : Int, (b < x0 ∨ x0 + 2 < b) → (st_282_59 x0 x1 r59 x2 x3 d).2 b = d b) → Safe (st_282_59 x0 x1 r59 x2 x3 d).2 → K (.inl (some (0, (st_282_59 x0 x1 r59 x2 x3 d).1))) (st_282_59 x0 x1 r59 x2 x3 d).2) : tRun E 282 (59, [.inr (11, x0), .inl (0, x1), .inl (0, x2), .inl (0, x3)], [], 0, 0, d) K := by
  refine t_282_59 ?_
  refine ⟨⟨m_inR (by omega) (by omega), m_inR (by omega) (by omega)⟩, fun c0 => ?_, fun c0 => ?_⟩
  · refine k_281 hS hx0 (fun e1 => ?_)
    refine t_282_78 ?_
    have y0 : st_282_59 x0 x1 r59 x2 x3 d = ((v_281 x0 d) - x2, d) := by simp only [st_282_59, if_neg (show ¬ x3 < x1 from Int.not_lt.mpr c0)]
    rw [y0] at h
    exact h (show ∀ b : Int, (b < x0 ∨ x0 + 2 < b) → d b = d b from fun _ _ => rfl) hS
  · refine k_223 hS hx0 hmp (by omega) (fun F1 Q1 n1_0 hS1 => ?_)
    refine t_282_68 ?_
    refine ih59 x2 (x3 + 1)  (g_223 x0 d) hS1 (by omega) (by omega) (by omega) (mpP.of (mh_7 hS hx0 _ rfl) (show ∀ i : Int, i = 7 ∨ (12 ≤ i ∧ i < 420 ∧ (i - 12) % 68 = 2) → (g_223 x0 d) (x0 + 1) i = d (x0 + 1) i from fun i hi => Q1 i (by omega)) hmp) (by omega) (by omega) ?_
    intro F hS_
    have y0 : st_282_59 x0 x1 r59 x2 x3 d = r59 x2 (x3 + 1) (g_223 x0 d) := by simp only [st_282_59, if_pos (show x3 < x1 from c0)]
    rw [y0] at h
    exact h (fun b hb => (F b hb).trans ((show ∀ b : Int, (b < x0 ∨ x0 + 2 < b) → (g_223 x0 d) b = d b from fun b hb => F1 b (by omega)) b hb)) hS_
theorem l_282_59 {E : mO × tW} {K : tK} {x0 x1 : Int} (hx0 : mdB x0) (p1 : -2147483648 ≤ x1 ∧ x1 ≤ 2147483647) : ∀ (n : Nat) (x2 x3 : Int) (d : mD), Safe d → (0 ≤ x3 ∧ x3 ≤ x1 ∧ x1 ≤ 99) → (0 ≤ x2 ∧ x2 ≤ 61) → (d (x0 + 1) 0 + (x1 - x3) ≤ 999) → (mpP (d (x0 + 1))) → x1 - x3 ≤ (n : Int) → ((∀ b : Int, (b < x0 ∨ x0 + 2 < b) → (lp_282_59 x0 x1 n x2 x3 d).2 b = d b) → Safe (lp_282_59 x0 x1 n x2 x3 d).2 → K (.inl (some (0, (lp_282_59 x0 x1 n x2 x3 d).1))) (lp_282_59 x0 x1 n x2 x3 d).2) → tRun E 282 (59, [.inr (11, x0), .inl (0, x1), .inl (0, x2), .inl (0, x3)], [], 0, 0, d) K := by
  intro n
  induction n with
  | zero =>
    intro x2 x3  d hS i0 i1 i2 hmp hm  h
    exact ls_282_59 hx0 p1 0 _ (fun _ _  _ _ _ _ _ _ m0 m1 _ => absurd m1 (by omega)) x2 x3  d hS i0 i1 i2 hmp hm  h
  | succ n ih =>
    intro x2 x3  d hS i0 i1 i2 hmp hm  h
    exact ls_282_59 hx0 p1 ((n + 1 : Nat) : Int) _ (fun x2 x3  d hS i0 i1 i2 hmp  m0 m1 h => ih x2 x3  d hS i0 i1 i2 hmp (by omega)  h) x2 x3  d hS i0 i1 i2 hmp hm  h
def f_282 (x0 x1 : Int) (d : mD) : Int × mD := if v_176 x1 1 99 d = 0 then (0, mset d x0 0 1) else if (999 : Int) < (d (x0 + 1) 0) + x1 then (0, mset d x0 0 2) else lp_282_59 x0 x1 (x1 - 0 : Int).toNat (v_281 x0 (g_278 x0 (mset d x0 0 0))) 0 (g_278 x0 (mset d x0 0 0))
def v_282 (x0 x1 : Int) (d : mD) : Int := (f_282 x0 x1 d).1
def g_282 (x0 x1 : Int) (d : mD) : mD := (f_282 x0 x1 d).2
theorem k_282 {E : mO × tW} {K : tK} {d : mD} {x0 x1 : Int} (hS : Safe d) (hx0 : mdB x0) (p1 : -2147483648 ≤ x1 ∧ x1 ≤ 2147483647) (hmp : mpP (d (x0 + 1))) (h : (∀ b : Int, (b < x0 ∨ x0 + 2 < b) → (g_282 x0 x1 d) b = d b) → Safe (g_282 x0 x1 d) → K (.inl (some (0, (v_282 x0 x1 d)))) (g_282 x0 x1 d)) : tCall E 282 [.inr (11, x0), .inl (0, x1)] d K := by
  simp only [v_282, g_282] at h
  refine t_282_0 ?_
  have w0 := mh_0 hS hx0 _ rfl
  have w7 := mh_7 hS hx0 _ rfl
  have w8 := mh_8 hS hx0 _ rfl
  have w9 := mh_9 hS hx0 _ rfl
  have w10 := mh_10 hS hx0 _ rfl
  have w11 := mh_11 hS hx0 _ rfl
  refine ⟨m_inR (by omega) (by omega), ?_⟩
  refine k_176 hS (m_inR (by omega) (by omega)) (m_inR (by omega) (by omega)) (m_inR (by omega) (by omega)) (fun e2 => ?_)
  refine t_282_10 ?_
  refine ⟨m_inR (by omega) (by omega), fun c0 => ?_, fun c0 => ?_⟩
  · have q1 := mh_0 hS hx0 _ rfl
    refine ⟨by omega, ⟨m_inR (by omega) (by omega), m_inR (by omega) (by omega)⟩, fun c1 => ?_, fun c1 => ?_⟩
    · have hS2 : Safe (mset d x0 0 0) := s_11_f0 hS hx0 (by omega)
      rw [mset_eq (d := d) (a := x0) (i := (0 : Int)) (v := (0 : Int))]
      refine ⟨m_inR (by omega) (by omega), fun c2 => ?_, fun c2 => ?_⟩
      · refine k_278 hS2 hx0 (fun F2 hS3 => ?_)
        refine t_282_52 ?_
        refine k_281 hS3 hx0 (fun e3 => ?_)
        refine t_282_56 ?_
        have q2 : (g_278 x0 (mset d x0 0 0)) (x0 + 1) 0 = d (x0 + 1) 0 := (congrFun (F2 (x0 + 1) (by omega)) 0).trans (congrFun (mset_ne (by omega)) 0)
        refine l_282_59 hx0 p1 (x1 - 0 : Int).toNat (v_281 x0 (g_278 x0 (mset d x0 0 0))) 0  (g_278 x0 (mset d x0 0 0)) hS3 (by omega) (by omega) (by omega) (mpP.of (mh_7 hS hx0 _ rfl) (show ∀ i : Int, i = 7 ∨ (12 ≤ i ∧ i < 420 ∧ (i - 12) % 68 = 2) → (g_278 x0 (mset d x0 0 0)) (x0 + 1) i = d (x0 + 1) i from fun i hi => (congrFun (F2 (x0 + 1) (by omega)) i).trans (congrFun (mset_ne (by omega)) i)) hmp) (by omega) ?_
        intro F hS_
        have y0 : f_282 x0 x1 d = lp_282_59 x0 x1 (x1 - 0 : Int).toNat (v_281 x0 (g_278 x0 (mset d x0 0 0))) 0 (g_278 x0 (mset d x0 0 0)) := by simp only [f_282, if_neg (show ¬ v_176 x1 1 99 d = 0 from c0), if_neg (show ¬ (999 : Int) < (d (x0 + 1) 0) + x1 from Int.not_lt.mpr c1), if_neg (show ¬ (0 : Int) < 0 from Int.not_lt.mpr c2)]
        rw [y0] at h
        exact h (fun b hb => (F b hb).trans ((show ∀ b : Int, (b < x0 ∨ x0 + 2 < b) → (g_278 x0 (mset d x0 0 0)) b = d b from fun b hb => (F2 b (by omega)).trans (mset_ne (by omega))) b hb)) hS_
      · exact (show False by omega).elim
    · have hS4 : Safe (mset d x0 0 2) := s_11_f0 hS hx0 (by omega)
      rw [mset_eq (d := d) (a := x0) (i := (0 : Int)) (v := (2 : Int))]
      refine ⟨m_inR (by omega) (by omega), fun c2 => ?_, fun c2 => ?_⟩
      · exact (show False by omega).elim
      · have y0 : f_282 x0 x1 d = (0, mset d x0 0 2) := by simp only [f_282, if_neg (show ¬ v_176 x1 1 99 d = 0 from c0), if_pos (show (999 : Int) < (d (x0 + 1) 0) + x1 from c1), if_pos (show (0 : Int) < 2 from c2)]
        rw [y0] at h
        exact h (show ∀ b : Int, (b < x0 ∨ x0 + 2 < b) → (mset d x0 0 2) b = d b from fun b hb => mset_ne (by omega)) hS4
  · have hS5 : Safe (mset d x0 0 1) := s_11_f0 hS hx0 (by omega)
    rw [mset_eq (d := d) (a := x0) (i := (0 : Int)) (v := (1 : Int))]
    refine ⟨m_inR (by omega) (by omega), fun c1 => ?_, fun c1 => ?_⟩
    · exact (show False by omega).elim
    · have y0 : f_282 x0 x1 d = (0, mset d x0 0 1) := by simp only [f_282, if_pos (show v_176 x1 1 99 d = 0 from c0), if_pos (show (0 : Int) < 1 from c1)]
      rw [y0] at h
      exact h (show ∀ b : Int, (b < x0 ∨ x0 + 2 < b) → (mset d x0 0 1) b = d b from fun b hb => mset_ne (by omega)) hS5
def v_283 (x0 x1 : Int) (d : mD) : Int := if v_238 x0 x1 d = 0 then 0 else if v_227 x0 x1 d = 0 then 0 else v_228 x0 x1 (g_278 x0 (mset d x0 0 0))
def g_283 (x0 x1 : Int) (d : mD) : mD := if v_238 x0 x1 d = 0 then mset d x0 0 1 else if v_227 x0 x1 d = 0 then mset d x0 0 2 else g_228 x0 x1 (g_278 x0 (mset d x0 0 0))
theorem k_283 {E : mO × tW} {K : tK} {d : mD} {x0 x1 : Int} (hS : Safe d) (hx0 : mdB x0) (p1 : -2147483648 ≤ x1 ∧ x1 ≤ 2147483647) (hmp : mpP (d (x0 + 1))) (hmw : mwP (d (x0 + 1))) (h : (∀ b : Int, (b < x0 ∨ x0 + 2 < b) → (g_283 x0 x1 d) b = d b) → Safe (g_283 x0 x1 d) → K (.inl (some (0, (v_283 x0 x1 d)))) (g_283 x0 x1 d)) : tCall E 283 [.inr (11, x0), .inl (0, x1)] d K := by
  refine t_283_0 ?_
  have w0 := mh_0 hS hx0 _ rfl
  have w7 := mh_7 hS hx0 _ rfl
  have w8 := mh_8 hS hx0 _ rfl
  have w9 := mh_9 hS hx0 _ rfl
  have w10 := mh_10 hS hx0 _ rfl
  have w11 := mh_11 hS hx0 _ rfl
  refine k_238 hS hx0 (m_inR (by omega) (by omega)) (fun e1 => ?_)
  refine t_283_6 ?_
  refine ⟨m_inR (by omega) (by omega), fun c0 => ?_, fun c0 => ?_⟩
  · refine k_227 hS hx0 (by omega) (fun e2 => ?_)
    refine t_283_18 ?_
    refine ⟨m_inR (by omega) (by omega), fun c1 => ?_, fun c1 => ?_⟩
    · have hS1 : Safe (mset d x0 0 2) := s_11_f0 hS hx0 (by omega)
      rw [mset_eq (d := d) (a := x0) (i := (0 : Int)) (v := (2 : Int))]
      refine ⟨m_inR (by omega) (by omega), fun c2 => ?_, fun c2 => ?_⟩
      · exact (show False by omega).elim
      · have y0 : v_283 x0 x1 d = 0 := by simp only [v_283, if_neg (show ¬ v_238 x0 x1 d = 0 from c0), if_pos (show v_227 x0 x1 d = 0 from c1), if_pos (show (0 : Int) < 2 from c2)]
        have y1 : g_283 x0 x1 d = mset d x0 0 2 := by simp only [g_283, if_neg (show ¬ v_238 x0 x1 d = 0 from c0), if_pos (show v_227 x0 x1 d = 0 from c1), if_pos (show (0 : Int) < 2 from c2)]
        rw [y0] at h
        rw [y1] at h
        exact h (show ∀ b : Int, (b < x0 ∨ x0 + 2 < b) → (mset d x0 0 2) b = d b from fun b hb => mset_ne (by omega)) hS1
    · have hS2 : Safe (mset d x0 0 0) := s_11_f0 hS hx0 (by omega)
      rw [mset_eq (d := d) (a := x0) (i := (0 : Int)) (v := (0 : Int))]
      refine ⟨m_inR (by omega) (by omega), fun c2 => ?_, fun c2 => ?_⟩
      · refine k_278 hS2 hx0 (fun F1 hS3 => ?_)
        refine t_283_42 ?_
        refine k_228 hS3 hx0 (by omega) (mpP.of (mh_7 hS hx0 _ rfl) (show ∀ i : Int, i = 7 ∨ (12 ≤ i ∧ i < 420 ∧ (i - 12) % 68 = 2) → (g_278 x0 (mset d x0 0 0)) (x0 + 1) i = d (x0 + 1) i from fun i hi => (congrFun (F1 (x0 + 1) (by omega)) i).trans (congrFun (mset_ne (by omega)) i)) hmp) (mwP.eq (F1 (x0 + 1) (by omega)) (mwP.eq (mset_ne (by omega)) hmw)) (fun e3 F2 Q2 P2hmp P2hmw hS4 => ?_)
        refine t_283_47 ?_
        have y0 : v_283 x0 x1 d = v_228 x0 x1 (g_278 x0 (mset d x0 0 0)) := by simp only [v_283, if_neg (show ¬ v_238 x0 x1 d = 0 from c0), if_neg (show ¬ v_227 x0 x1 d = 0 from c1), if_neg (show ¬ (0 : Int) < 0 from Int.not_lt.mpr c2)]
        have y1 : g_283 x0 x1 d = g_228 x0 x1 (g_278 x0 (mset d x0 0 0)) := by simp only [g_283, if_neg (show ¬ v_238 x0 x1 d = 0 from c0), if_neg (show ¬ v_227 x0 x1 d = 0 from c1), if_neg (show ¬ (0 : Int) < 0 from Int.not_lt.mpr c2)]
        rw [y0] at h
        rw [y1] at h
        exact h (show ∀ b : Int, (b < x0 ∨ x0 + 2 < b) → (g_228 x0 x1 (g_278 x0 (mset d x0 0 0))) b = d b from fun b hb => (F2 b (by omega)).trans ((F1 b (by omega)).trans (mset_ne (by omega)))) hS4
      · exact (show False by omega).elim
  · have hS5 : Safe (mset d x0 0 1) := s_11_f0 hS hx0 (by omega)
    rw [mset_eq (d := d) (a := x0) (i := (0 : Int)) (v := (1 : Int))]
    refine ⟨m_inR (by omega) (by omega), fun c1 => ?_, fun c1 => ?_⟩
    · exact (show False by omega).elim
    · have y0 : v_283 x0 x1 d = 0 := by simp only [v_283, if_pos (show v_238 x0 x1 d = 0 from c0), if_pos (show (0 : Int) < 1 from c1)]
      have y1 : g_283 x0 x1 d = mset d x0 0 1 := by simp only [g_283, if_pos (show v_238 x0 x1 d = 0 from c0), if_pos (show (0 : Int) < 1 from c1)]
      rw [y0] at h
      rw [y1] at h
      exact h (show ∀ b : Int, (b < x0 ∨ x0 + 2 < b) → (mset d x0 0 1) b = d b from fun b hb => mset_ne (by omega)) hS5
def v_284 (x0 x1 x2 : Int) (d : mD) : Int := if v_238 x0 x1 d = 0 then 0 else if v_237 x0 x2 d = 0 then 0 else if v_234 x0 x1 x2 d = 0 then v_235 x0 x1 x2 (g_278 x0 (mset d x0 0 0)) else 0
def g_284 (x0 x1 x2 : Int) (d : mD) : mD := if v_238 x0 x1 d = 0 then mset d x0 0 1 else if v_237 x0 x2 d = 0 then mset d x0 0 1 else if v_234 x0 x1 x2 d = 0 then g_235 x0 x1 x2 (g_278 x0 (mset d x0 0 0)) else mset d x0 0 2
theorem k_284 {E : mO × tW} {K : tK} {d : mD} {x0 x1 x2 : Int} (hS : Safe d) (hx0 : mdB x0) (p1 : -2147483648 ≤ x1 ∧ x1 ≤ 2147483647) (p2 : -2147483648 ≤ x2 ∧ x2 ≤ 2147483647) (hmp : mpP (d (x0 + 1))) (hmw : mwP (d (x0 + 1))) (h : (∀ b : Int, (b < x0 ∨ x0 + 2 < b) → (g_284 x0 x1 x2 d) b = d b) → Safe (g_284 x0 x1 x2 d) → K (.inl (some (0, (v_284 x0 x1 x2 d)))) (g_284 x0 x1 x2 d)) : tCall E 284 [.inr (11, x0), .inl (0, x1), .inl (0, x2)] d K := by
  refine t_284_0 ?_
  have w0 := mh_0 hS hx0 _ rfl
  have w7 := mh_7 hS hx0 _ rfl
  have w8 := mh_8 hS hx0 _ rfl
  have w9 := mh_9 hS hx0 _ rfl
  have w10 := mh_10 hS hx0 _ rfl
  have w11 := mh_11 hS hx0 _ rfl
  refine k_238 hS hx0 (m_inR (by omega) (by omega)) (fun e1 => ?_)
  refine t_284_6 ?_
  refine ⟨m_inR (by omega) (by omega), fun c0 => ?_, fun c0 => ?_⟩
  · have hS1 : Safe (mset d x0 0 1) := s_11_f0 hS hx0 (by omega)
    rw [mset_eq (d := d) (a := x0) (i := (0 : Int)) (v := (1 : Int))]
    refine ⟨m_inR (by omega) (by omega), fun c1 => ?_, fun c1 => ?_⟩
    · exact (show False by omega).elim
    · have y0 : v_284 x0 x1 x2 d = 0 := by simp only [v_284, if_pos (show v_238 x0 x1 d = 0 from c0), if_pos (show (0 : Int) < 1 from c1)]
      have y1 : g_284 x0 x1 x2 d = mset d x0 0 1 := by simp only [g_284, if_pos (show v_238 x0 x1 d = 0 from c0), if_pos (show (0 : Int) < 1 from c1)]
      rw [y0] at h
      rw [y1] at h
      exact h (show ∀ b : Int, (b < x0 ∨ x0 + 2 < b) → (mset d x0 0 1) b = d b from fun b hb => mset_ne (by omega)) hS1
  · refine k_237 hS hx0 (m_inR (by omega) (by omega)) (fun e2 => ?_)
    refine t_284_14 ?_
    refine ⟨m_inR (by omega) (by omega), fun c1 => ?_, fun c1 => ?_⟩
    · refine k_234 hS hx0 (by omega) (by omega) (fun e3 => ?_)
      refine t_284_27 ?_
      refine ⟨m_inR (by omega) (by omega), fun c2 => ?_, fun c2 => ?_⟩
      · have hS2 : Safe (mset d x0 0 2) := s_11_f0 hS hx0 (by omega)
        rw [mset_eq (d := d) (a := x0) (i := (0 : Int)) (v := (2 : Int))]
        refine ⟨m_inR (by omega) (by omega), fun c3 => ?_, fun c3 => ?_⟩
        · exact (show False by omega).elim
        · have y0 : v_284 x0 x1 x2 d = 0 := by simp only [v_284, if_neg (show ¬ v_238 x0 x1 d = 0 from c0), if_neg (show ¬ v_237 x0 x2 d = 0 from c1), if_neg (show ¬ v_234 x0 x1 x2 d = 0 from c2), if_pos (show (0 : Int) < 2 from c3)]
          have y1 : g_284 x0 x1 x2 d = mset d x0 0 2 := by simp only [g_284, if_neg (show ¬ v_238 x0 x1 d = 0 from c0), if_neg (show ¬ v_237 x0 x2 d = 0 from c1), if_neg (show ¬ v_234 x0 x1 x2 d = 0 from c2), if_pos (show (0 : Int) < 2 from c3)]
          rw [y0] at h
          rw [y1] at h
          exact h (show ∀ b : Int, (b < x0 ∨ x0 + 2 < b) → (mset d x0 0 2) b = d b from fun b hb => mset_ne (by omega)) hS2
      · have hS3 : Safe (mset d x0 0 0) := s_11_f0 hS hx0 (by omega)
        rw [mset_eq (d := d) (a := x0) (i := (0 : Int)) (v := (0 : Int))]
        refine ⟨m_inR (by omega) (by omega), fun c3 => ?_, fun c3 => ?_⟩
        · refine k_278 hS3 hx0 (fun F1 hS4 => ?_)
          refine t_284_51 ?_
          have q1 : (g_278 x0 (mset d x0 0 0)) (x0 + 1) (452 + 24 * x1 + 6) = d (x0 + 1) (452 + 24 * x1 + 6) := (congrFun (F1 (x0 + 1) (by omega)) (452 + 24 * x1 + 6)).trans (congrFun (mset_ne (by omega)) (452 + 24 * x1 + 6))
          refine k_235 hS4 hx0 (by omega) (by omega) (mpP.of (mh_7 hS hx0 _ rfl) (show ∀ i : Int, i = 7 ∨ (12 ≤ i ∧ i < 420 ∧ (i - 12) % 68 = 2) → (g_278 x0 (mset d x0 0 0)) (x0 + 1) i = d (x0 + 1) i from fun i hi => (congrFun (F1 (x0 + 1) (by omega)) i).trans (congrFun (mset_ne (by omega)) i)) hmp) (mwP.eq (F1 (x0 + 1) (by omega)) (mwP.eq (mset_ne (by omega)) hmw)) (by omega) (fun e4 F2 Q2 P2hmp P2hmw hS5 => ?_)
          refine t_284_57 ?_
          have y0 : v_284 x0 x1 x2 d = v_235 x0 x1 x2 (g_278 x0 (mset d x0 0 0)) := by simp only [v_284, if_neg (show ¬ v_238 x0 x1 d = 0 from c0), if_neg (show ¬ v_237 x0 x2 d = 0 from c1), if_pos (show v_234 x0 x1 x2 d = 0 from c2), if_neg (show ¬ (0 : Int) < 0 from Int.not_lt.mpr c3)]
          have y1 : g_284 x0 x1 x2 d = g_235 x0 x1 x2 (g_278 x0 (mset d x0 0 0)) := by simp only [g_284, if_neg (show ¬ v_238 x0 x1 d = 0 from c0), if_neg (show ¬ v_237 x0 x2 d = 0 from c1), if_pos (show v_234 x0 x1 x2 d = 0 from c2), if_neg (show ¬ (0 : Int) < 0 from Int.not_lt.mpr c3)]
          rw [y0] at h
          rw [y1] at h
          exact h (show ∀ b : Int, (b < x0 ∨ x0 + 2 < b) → (g_235 x0 x1 x2 (g_278 x0 (mset d x0 0 0))) b = d b from fun b hb => (F2 b (by omega)).trans ((F1 b (by omega)).trans (mset_ne (by omega)))) hS5
        · exact (show False by omega).elim
    · have hS6 : Safe (mset d x0 0 1) := s_11_f0 hS hx0 (by omega)
      rw [mset_eq (d := d) (a := x0) (i := (0 : Int)) (v := (1 : Int))]
      refine ⟨m_inR (by omega) (by omega), fun c2 => ?_, fun c2 => ?_⟩
      · exact (show False by omega).elim
      · have y0 : v_284 x0 x1 x2 d = 0 := by simp only [v_284, if_neg (show ¬ v_238 x0 x1 d = 0 from c0), if_pos (show v_237 x0 x2 d = 0 from c1), if_pos (show (0 : Int) < 1 from c2)]
        have y1 : g_284 x0 x1 x2 d = mset d x0 0 1 := by simp only [g_284, if_neg (show ¬ v_238 x0 x1 d = 0 from c0), if_pos (show v_237 x0 x2 d = 0 from c1), if_pos (show (0 : Int) < 1 from c2)]
        rw [y0] at h
        rw [y1] at h
        exact h (show ∀ b : Int, (b < x0 ∨ x0 + 2 < b) → (mset d x0 0 1) b = d b from fun b hb => mset_ne (by omega)) hS6
def st_285_79 (x0 x1 x2 x3 : Int) (r79 : Int → Int → mD → Int × mD) (x4 x5 : Int) (d : mD) : Int × mD := if x5 < d (x0 + 1) 10 then (if (0 : Int) < x4 then (if d (x0 + 1) ((1916 + (5 * x5)) + 0) = x1 then (if d (x0 + 1) ((1916 + (5 * x5)) + 3) = 0 then r79 (x4 + (-1)) (x5 + 1) (mset d (x0 + 1) ((1916 + (5 * x5)) + 0) x2) else r79 x4 (x5 + 1) d) else r79 x4 (x5 + 1) d) else (v_245 x0 x2 0 d, d)) else (v_245 x0 x2 0 d, d)
def lp_285_79 (x0 x1 x2 x3 : Int) : Nat → Int → Int → mD → Int × mD
  | 0 => st_285_79 x0 x1 x2 x3 (fun _ _ d => (0, d))
  | n + 1 => st_285_79 x0 x1 x2 x3 (lp_285_79 x0 x1 x2 x3 n)
theorem ls_285_79 {E : mO × tW} {K : tK} {x0 x1 x2 x3 : Int} (hx0 : mdB x0) (p1 : -2147483648 ≤ x1 ∧ x1 ≤ 2147483647) (p2 : -2147483648 ≤ x2 ∧ x2 ≤ 2147483647) (p3 : -2147483648 ≤ x3 ∧ x3 ≤ 2147483647) (N79 : Int) (r79 : Int → Int → mD → Int × mD) (ih79 : ∀ (x4 x5 : Int) (d : mD), Safe d → (0 ≤ x5 ∧ x5 ≤ 200) → (0 ≤ x4 ∧ x4 ≤ 200) → (0 ≤ x2 ∧ x2 ≤ 15) → 0 ≤ 200 - x5 → 200 - x5 < N79 → ((∀ b : Int, (b < x0 ∨ x0 + 2 < b) → (r79 x4 x5 d).2 b = d b) → Safe (r79 x4 x5 d).2 → K (.inl (some (0, (r79 x4 x5 d).1))) (r79 x4 x5 d).2) → tRun E 285 (79, [.inr (11, x0), .inl (0, x1), .inl (0, x2), .inl (0, x3), .inl (0, x4), .inl (0, x5)], [], 0, 0, d) K) (x4 x5 : Int) (d : mD) (hS : Safe d) (i0 : 0 ≤ x5 ∧ x5 ≤ 200) (i1 : 0 ≤ x4 ∧ x4 ≤ 200) (i2 : 0 ≤ x2 ∧ x2 ≤ 15) (hm : 200 - x5 ≤ N79) (h : (∀ b : Int, (b < x0 ∨ x0 + 2 < b) → (st_285_79 x0 x1 x2 x3 r79 x4 x5 d).2 b = d b) → Safe (st_285_79 x0 x1 x2 x3 r79 x4 x5 d).2 → K (.inl (some (0, (st_285_79 x0 x1 x2 x3 r79 x4 x5 d).1))) (st_285_79 x0 x1 x2 x3 r79 x4 x5 d).2) : tRun E 285 (79, [.inr (11, x0), .inl (0, x1), .inl (0, x2), .inl (0, x3), .inl (0, x4), .inl (0, x5)], [], 0, 0, d) K := by
  refine t_285_79 ?_
  have q1 := mh_10 hS hx0 _ rfl
  refine ⟨by omega, ⟨m_inR (by omega) (by omega), m_inR (by omega) (by omega)⟩, fun c0 => ?_, fun c0 => ?_⟩
  · refine k_245 hS hx0 (m_inR (by omega) (by omega)) (m_inR (by omega) (by omega)) (fun e1 => ?_)
    refine t_285_155 ?_
    have y0 : st_285_79 x0 x1 x2 x3 r79 x4 x5 d = (v_245 x0 x2 0 d, d) := by simp only [st_285_79, if_neg (show ¬ x5 < d (x0 + 1) 10 from Int.not_lt.mpr c0)]
    rw [y0] at h
    exact h (show ∀ b : Int, (b < x0 ∨ x0 + 2 < b) → d b = d b from fun _ _ => rfl) hS
  · refine ⟨m_inR (by omega) (by omega), fun c1 => ?_, fun c1 => ?_⟩
    · refine k_245 hS hx0 (m_inR (by omega) (by omega)) (m_inR (by omega) (by omega)) (fun e2 => ?_)
      refine t_285_155 ?_
      have y0 : st_285_79 x0 x1 x2 x3 r79 x4 x5 d = (v_245 x0 x2 0 d, d) := by simp only [st_285_79, if_pos (show x5 < d (x0 + 1) 10 from c0), if_neg (show ¬ (0 : Int) < x4 from Int.not_lt.mpr c1)]
      rw [y0] at h
      exact h (show ∀ b : Int, (b < x0 ∨ x0 + 2 < b) → d b = d b from fun _ _ => rfl) hS
    · refine k_180 hS ?_
      refine t_285_105 ?_
      have q2 := mk_0 hS hx0 x5 ((1916 + (5 * x5)) + 0) (by omega) (by omega)
      refine ⟨by omega, ⟨m_inR (by omega) (by omega), m_inR (by omega) (by omega)⟩, fun c2 => ?_, fun c2 => ?_⟩
      · refine ih79 x4 (x5 + 1)  d hS (by omega) (by omega) (by omega) (by omega) (by omega) ?_
        intro F hS_
        have y0 : st_285_79 x0 x1 x2 x3 r79 x4 x5 d = r79 x4 (x5 + 1) d := by simp only [st_285_79, if_pos (show x5 < d (x0 + 1) 10 from c0), if_pos (show (0 : Int) < x4 from c1), if_neg (show ¬ d (x0 + 1) ((1916 + (5 * x5)) + 0) = x1 from c2)]
        rw [y0] at h
        exact h F hS_
      · refine k_180 hS ?_
        refine t_285_121 ?_
        have q3 := mk_3 hS hx0 x5 ((1916 + (5 * x5)) + 3) (by omega) (by omega)
        refine ⟨by omega, m_inR (by omega) (by omega), fun c3 => ?_, fun c3 => ?_⟩
        · refine ih79 x4 (x5 + 1)  d hS (by omega) (by omega) (by omega) (by omega) (by omega) ?_
          intro F hS_
          have y0 : st_285_79 x0 x1 x2 x3 r79 x4 x5 d = r79 x4 (x5 + 1) d := by simp only [st_285_79, if_pos (show x5 < d (x0 + 1) 10 from c0), if_pos (show (0 : Int) < x4 from c1), if_pos (show d (x0 + 1) ((1916 + (5 * x5)) + 0) = x1 from c2), if_neg (show ¬ d (x0 + 1) ((1916 + (5 * x5)) + 3) = 0 from c3)]
          rw [y0] at h
          exact h F hS_
        · refine k_180 hS ?_
          refine t_285_136 ?_
          refine ⟨by omega, ?_⟩
          have hS1 : Safe (mset d (x0 + 1) ((1916 + (5 * x5)) + 0) x2) := smk_0 hS hx0 x5 ((1916 + (5 * x5)) + 0) (by omega) (by omega) (by omega)
          refine ih79 (x4 + (-1)) (x5 + 1)  (mset d (x0 + 1) ((1916 + (5 * x5)) + 0) x2) hS1 (by omega) (by omega) (by omega) (by omega) (by omega) ?_
          intro F hS_
          have y0 : st_285_79 x0 x1 x2 x3 r79 x4 x5 d = r79 (x4 + (-1)) (x5 + 1) (mset d (x0 + 1) ((1916 + (5 * x5)) + 0) x2) := by simp only [st_285_79, if_pos (show x5 < d (x0 + 1) 10 from c0), if_pos (show (0 : Int) < x4 from c1), if_pos (show d (x0 + 1) ((1916 + (5 * x5)) + 0) = x1 from c2), if_pos (show d (x0 + 1) ((1916 + (5 * x5)) + 3) = 0 from c3)]
          rw [y0] at h
          exact h (fun b hb => (F b hb).trans ((show ∀ b : Int, (b < x0 ∨ x0 + 2 < b) → (mset d (x0 + 1) ((1916 + (5 * x5)) + 0) x2) b = d b from fun b hb => mset_ne (by omega)) b hb)) hS_
theorem l_285_79 {E : mO × tW} {K : tK} {x0 x1 x2 x3 : Int} (hx0 : mdB x0) (p1 : -2147483648 ≤ x1 ∧ x1 ≤ 2147483647) (p2 : -2147483648 ≤ x2 ∧ x2 ≤ 2147483647) (p3 : -2147483648 ≤ x3 ∧ x3 ≤ 2147483647) : ∀ (n : Nat) (x4 x5 : Int) (d : mD), Safe d → (0 ≤ x5 ∧ x5 ≤ 200) → (0 ≤ x4 ∧ x4 ≤ 200) → (0 ≤ x2 ∧ x2 ≤ 15) → 200 - x5 ≤ (n : Int) → ((∀ b : Int, (b < x0 ∨ x0 + 2 < b) → (lp_285_79 x0 x1 x2 x3 n x4 x5 d).2 b = d b) → Safe (lp_285_79 x0 x1 x2 x3 n x4 x5 d).2 → K (.inl (some (0, (lp_285_79 x0 x1 x2 x3 n x4 x5 d).1))) (lp_285_79 x0 x1 x2 x3 n x4 x5 d).2) → tRun E 285 (79, [.inr (11, x0), .inl (0, x1), .inl (0, x2), .inl (0, x3), .inl (0, x4), .inl (0, x5)], [], 0, 0, d) K := by
  intro n
  induction n with
  | zero =>
    intro x4 x5  d hS i0 i1 i2 hm  h
    exact ls_285_79 hx0 p1 p2 p3 0 _ (fun _ _  _ _ _ _ _ m0 m1 _ => absurd m1 (by omega)) x4 x5  d hS i0 i1 i2 hm  h
  | succ n ih =>
    intro x4 x5  d hS i0 i1 i2 hm  h
    exact ls_285_79 hx0 p1 p2 p3 ((n + 1 : Nat) : Int) _ (fun x4 x5  d hS i0 i1 i2  m0 m1 h => ih x4 x5  d hS i0 i1 i2 (by omega)  h) x4 x5  d hS i0 i1 i2 hm  h
def f_285 (x0 x1 x2 x3 : Int) (d : mD) : Int × mD := if v_237 x0 x1 d = 0 then (0, mset d x0 0 1) else if v_237 x0 x2 d = 0 then (0, mset d x0 0 1) else if v_176 x3 1 200 d = 0 then (0, mset d x0 0 2) else if x1 = x2 then (0, mset d x0 0 3) else if v_245 x0 x1 0 d < x3 then (0, mset d x0 0 3) else lp_285_79 x0 x1 x2 x3 (200 - 0 : Int).toNat x3 0 (g_278 x0 (mset d x0 0 0))
def v_285 (x0 x1 x2 x3 : Int) (d : mD) : Int := (f_285 x0 x1 x2 x3 d).1
def g_285 (x0 x1 x2 x3 : Int) (d : mD) : mD := (f_285 x0 x1 x2 x3 d).2
theorem k_285 {E : mO × tW} {K : tK} {d : mD} {x0 x1 x2 x3 : Int} (hS : Safe d) (hx0 : mdB x0) (p1 : -2147483648 ≤ x1 ∧ x1 ≤ 2147483647) (p2 : -2147483648 ≤ x2 ∧ x2 ≤ 2147483647) (p3 : -2147483648 ≤ x3 ∧ x3 ≤ 2147483647) (h : (∀ b : Int, (b < x0 ∨ x0 + 2 < b) → (g_285 x0 x1 x2 x3 d) b = d b) → Safe (g_285 x0 x1 x2 x3 d) → K (.inl (some (0, (v_285 x0 x1 x2 x3 d)))) (g_285 x0 x1 x2 x3 d)) : tCall E 285 [.inr (11, x0), .inl (0, x1), .inl (0, x2), .inl (0, x3)] d K := by
  simp only [v_285, g_285] at h
  refine t_285_0 ?_
  have w0 := mh_0 hS hx0 _ rfl
  have w7 := mh_7 hS hx0 _ rfl
  have w8 := mh_8 hS hx0 _ rfl
  have w9 := mh_9 hS hx0 _ rfl
  have w10 := mh_10 hS hx0 _ rfl
  have w11 := mh_11 hS hx0 _ rfl
  refine k_237 hS hx0 (m_inR (by omega) (by omega)) (fun e3 => ?_)
  refine t_285_6 ?_
  refine ⟨m_inR (by omega) (by omega), fun c0 => ?_, fun c0 => ?_⟩
  · have hS2 : Safe (mset d x0 0 1) := s_11_f0 hS hx0 (by omega)
    rw [mset_eq (d := d) (a := x0) (i := (0 : Int)) (v := (1 : Int))]
    refine ⟨m_inR (by omega) (by omega), fun c1 => ?_, fun c1 => ?_⟩
    · exact (show False by omega).elim
    · have y0 : f_285 x0 x1 x2 x3 d = (0, mset d x0 0 1) := by simp only [f_285, if_pos (show v_237 x0 x1 d = 0 from c0), if_pos (show (0 : Int) < 1 from c1)]
      rw [y0] at h
      exact h (show ∀ b : Int, (b < x0 ∨ x0 + 2 < b) → (mset d x0 0 1) b = d b from fun b hb => mset_ne (by omega)) hS2
  · refine k_237 hS hx0 (m_inR (by omega) (by omega)) (fun e4 => ?_)
    refine t_285_14 ?_
    refine ⟨m_inR (by omega) (by omega), fun c1 => ?_, fun c1 => ?_⟩
    · refine ⟨m_inR (by omega) (by omega), ?_⟩
      refine k_176 hS (m_inR (by omega) (by omega)) (m_inR (by omega) (by omega)) (m_inR (by omega) (by omega)) (fun e5 => ?_)
      refine t_285_30 ?_
      refine ⟨m_inR (by omega) (by omega), fun c2 => ?_, fun c2 => ?_⟩
      · refine ⟨⟨m_inR (by omega) (by omega), m_inR (by omega) (by omega)⟩, fun c3 => ?_, fun c3 => ?_⟩
        · have hS3 : Safe (mset d x0 0 3) := s_11_f0 hS hx0 (by omega)
          rw [mset_eq (d := d) (a := x0) (i := (0 : Int)) (v := (3 : Int))]
          refine ⟨m_inR (by omega) (by omega), fun c4 => ?_, fun c4 => ?_⟩
          · exact (show False by omega).elim
          · have y0 : f_285 x0 x1 x2 x3 d = (0, mset d x0 0 3) := by simp only [f_285, if_neg (show ¬ v_237 x0 x1 d = 0 from c0), if_neg (show ¬ v_237 x0 x2 d = 0 from c1), if_neg (show ¬ v_176 x3 1 200 d = 0 from c2), if_pos (show x1 = x2 from c3), if_pos (show (0 : Int) < 3 from c4)]
            rw [y0] at h
            exact h (show ∀ b : Int, (b < x0 ∨ x0 + 2 < b) → (mset d x0 0 3) b = d b from fun b hb => mset_ne (by omega)) hS3
        · refine k_245 hS hx0 (m_inR (by omega) (by omega)) (m_inR (by omega) (by omega)) (fun e6 => ?_)
          refine t_285_48 ?_
          refine ⟨⟨m_inR (by omega) (by omega), m_inR (by omega) (by omega)⟩, fun c4 => ?_, fun c4 => ?_⟩
          · have hS4 : Safe (mset d x0 0 0) := s_11_f0 hS hx0 (by omega)
            rw [mset_eq (d := d) (a := x0) (i := (0 : Int)) (v := (0 : Int))]
            refine ⟨m_inR (by omega) (by omega), fun c5 => ?_, fun c5 => ?_⟩
            · refine k_278 hS4 hx0 (fun F1 hS5 => ?_)
              refine t_285_73 ?_
              refine l_285_79 hx0 p1 p2 p3 (200 - 0 : Int).toNat x3 0  (g_278 x0 (mset d x0 0 0)) hS5 (by omega) (by omega) (by omega) (by omega) ?_
              intro F hS_
              have y0 : f_285 x0 x1 x2 x3 d = lp_285_79 x0 x1 x2 x3 (200 - 0 : Int).toNat x3 0 (g_278 x0 (mset d x0 0 0)) := by simp only [f_285, if_neg (show ¬ v_237 x0 x1 d = 0 from c0), if_neg (show ¬ v_237 x0 x2 d = 0 from c1), if_neg (show ¬ v_176 x3 1 200 d = 0 from c2), if_neg (show ¬ x1 = x2 from c3), if_neg (show ¬ v_245 x0 x1 0 d < x3 from Int.not_lt.mpr c4), if_neg (show ¬ (0 : Int) < 0 from Int.not_lt.mpr c5)]
              rw [y0] at h
              exact h (fun b hb => (F b hb).trans ((show ∀ b : Int, (b < x0 ∨ x0 + 2 < b) → (g_278 x0 (mset d x0 0 0)) b = d b from fun b hb => (F1 b (by omega)).trans (mset_ne (by omega))) b hb)) hS_
            · exact (show False by omega).elim
          · have hS6 : Safe (mset d x0 0 3) := s_11_f0 hS hx0 (by omega)
            rw [mset_eq (d := d) (a := x0) (i := (0 : Int)) (v := (3 : Int))]
            refine ⟨m_inR (by omega) (by omega), fun c5 => ?_, fun c5 => ?_⟩
            · exact (show False by omega).elim
            · have y0 : f_285 x0 x1 x2 x3 d = (0, mset d x0 0 3) := by simp only [f_285, if_neg (show ¬ v_237 x0 x1 d = 0 from c0), if_neg (show ¬ v_237 x0 x2 d = 0 from c1), if_neg (show ¬ v_176 x3 1 200 d = 0 from c2), if_neg (show ¬ x1 = x2 from c3), if_pos (show v_245 x0 x1 0 d < x3 from c4), if_pos (show (0 : Int) < 3 from c5)]
              rw [y0] at h
              exact h (show ∀ b : Int, (b < x0 ∨ x0 + 2 < b) → (mset d x0 0 3) b = d b from fun b hb => mset_ne (by omega)) hS6
      · have hS7 : Safe (mset d x0 0 2) := s_11_f0 hS hx0 (by omega)
        rw [mset_eq (d := d) (a := x0) (i := (0 : Int)) (v := (2 : Int))]
        refine ⟨m_inR (by omega) (by omega), fun c3 => ?_, fun c3 => ?_⟩
        · exact (show False by omega).elim
        · have y0 : f_285 x0 x1 x2 x3 d = (0, mset d x0 0 2) := by simp only [f_285, if_neg (show ¬ v_237 x0 x1 d = 0 from c0), if_neg (show ¬ v_237 x0 x2 d = 0 from c1), if_pos (show v_176 x3 1 200 d = 0 from c2), if_pos (show (0 : Int) < 2 from c3)]
          rw [y0] at h
          exact h (show ∀ b : Int, (b < x0 ∨ x0 + 2 < b) → (mset d x0 0 2) b = d b from fun b hb => mset_ne (by omega)) hS7
    · have hS8 : Safe (mset d x0 0 1) := s_11_f0 hS hx0 (by omega)
      rw [mset_eq (d := d) (a := x0) (i := (0 : Int)) (v := (1 : Int))]
      refine ⟨m_inR (by omega) (by omega), fun c2 => ?_, fun c2 => ?_⟩
      · exact (show False by omega).elim
      · have y0 : f_285 x0 x1 x2 x3 d = (0, mset d x0 0 1) := by simp only [f_285, if_neg (show ¬ v_237 x0 x1 d = 0 from c0), if_pos (show v_237 x0 x2 d = 0 from c1), if_pos (show (0 : Int) < 1 from c2)]
        rw [y0] at h
        exact h (show ∀ b : Int, (b < x0 ∨ x0 + 2 < b) → (mset d x0 0 1) b = d b from fun b hb => mset_ne (by omega)) hS8
def v_287 (x0 x1 : Int) (d : mD) : Int := if v_176 x1 1 9999 d = 0 then 0 else if (99999 : Int) < (d (x0 + 1) 1) + x1 then 0 else (g_219 x0 (mset (g_278 x0 (mset d x0 0 0)) (x0 + 1) 1 ((d (x0 + 1) 1) + x1))) (x0 + 1) 1
def g_287 (x0 x1 : Int) (d : mD) : mD := if v_176 x1 1 9999 d = 0 then mset d x0 0 1 else if (99999 : Int) < (d (x0 + 1) 1) + x1 then mset d x0 0 2 else g_219 x0 (mset (g_278 x0 (mset d x0 0 0)) (x0 + 1) 1 ((d (x0 + 1) 1) + x1))
theorem k_287 {E : mO × tW} {K : tK} {d : mD} {x0 x1 : Int} (hS : Safe d) (hx0 : mdB x0) (p1 : -2147483648 ≤ x1 ∧ x1 ≤ 2147483647) (h : (∀ b : Int, (b < x0 ∨ x0 + 2 < b) → (g_287 x0 x1 d) b = d b) → Safe (g_287 x0 x1 d) → K (.inl (some (0, (v_287 x0 x1 d)))) (g_287 x0 x1 d)) : tCall E 287 [.inr (11, x0), .inl (0, x1)] d K := by
  refine t_287_0 ?_
  have w0 := mh_0 hS hx0 _ rfl
  have w7 := mh_7 hS hx0 _ rfl
  have w8 := mh_8 hS hx0 _ rfl
  have w9 := mh_9 hS hx0 _ rfl
  have w10 := mh_10 hS hx0 _ rfl
  have w11 := mh_11 hS hx0 _ rfl
  refine ⟨m_inR (by omega) (by omega), ?_⟩
  refine k_176 hS (m_inR (by omega) (by omega)) (m_inR (by omega) (by omega)) (m_inR (by omega) (by omega)) (fun e1 => ?_)
  refine t_287_10 ?_
  refine ⟨m_inR (by omega) (by omega), fun c0 => ?_, fun c0 => ?_⟩
  · have q1 := mh_1 hS hx0 _ rfl
    refine ⟨by omega, ⟨m_inR (by omega) (by omega), m_inR (by omega) (by omega)⟩, fun c1 => ?_, fun c1 => ?_⟩
    · have hS1 : Safe (mset d x0 0 0) := s_11_f0 hS hx0 (by omega)
      rw [mset_eq (d := d) (a := x0) (i := (0 : Int)) (v := (0 : Int))]
      refine ⟨m_inR (by omega) (by omega), fun c2 => ?_, fun c2 => ?_⟩
      · refine k_278 hS1 hx0 (fun F1 hS2 => ?_)
        refine t_287_51 ?_
        rw [F1 (x0 + 1) (by omega)]
        rw [mset_ni (d := d) (a := x0) (i := (0 : Int)) (v := (0 : Int)) (b := x0 + 1) (j := (1 : Int)) (by omega)]
        refine ⟨by omega, by omega, ?_⟩
        have hS3 : Safe (mset (g_278 x0 (mset d x0 0 0)) (x0 + 1) 1 ((d (x0 + 1) 1) + x1)) := smh_1 hS2 hx0 _ rfl (by omega)
        refine k_219 hS3 hx0 (fun e2 F2 Q2 hS4 => ?_)
        refine t_287_65 ?_
        have q2 := mh_1 hS4 hx0 _ rfl
        refine ⟨by omega, ?_⟩
        have y0 : v_287 x0 x1 d = (g_219 x0 (mset (g_278 x0 (mset d x0 0 0)) (x0 + 1) 1 ((d (x0 + 1) 1) + x1))) (x0 + 1) 1 := by simp only [v_287, if_neg (show ¬ v_176 x1 1 9999 d = 0 from c0), if_neg (show ¬ (99999 : Int) < (d (x0 + 1) 1) + x1 from Int.not_lt.mpr c1), if_neg (show ¬ (0 : Int) < 0 from Int.not_lt.mpr c2)]
        have y1 : g_287 x0 x1 d = g_219 x0 (mset (g_278 x0 (mset d x0 0 0)) (x0 + 1) 1 ((d (x0 + 1) 1) + x1)) := by simp only [g_287, if_neg (show ¬ v_176 x1 1 9999 d = 0 from c0), if_neg (show ¬ (99999 : Int) < (d (x0 + 1) 1) + x1 from Int.not_lt.mpr c1), if_neg (show ¬ (0 : Int) < 0 from Int.not_lt.mpr c2)]
        rw [y0] at h
        rw [y1] at h
        exact h (show ∀ b : Int, (b < x0 ∨ x0 + 2 < b) → (g_219 x0 (mset (g_278 x0 (mset d x0 0 0)) (x0 + 1) 1 ((d (x0 + 1) 1) + x1))) b = d b from fun b hb => (F2 b (by omega)).trans ((mset_ne (by omega)).trans ((F1 b (by omega)).trans (mset_ne (by omega))))) hS4
      · exact (show False by omega).elim
    · have hS5 : Safe (mset d x0 0 2) := s_11_f0 hS hx0 (by omega)
      rw [mset_eq (d := d) (a := x0) (i := (0 : Int)) (v := (2 : Int))]
      refine ⟨m_inR (by omega) (by omega), fun c2 => ?_, fun c2 => ?_⟩
      · exact (show False by omega).elim
      · have y0 : v_287 x0 x1 d = 0 := by simp only [v_287, if_neg (show ¬ v_176 x1 1 9999 d = 0 from c0), if_pos (show (99999 : Int) < (d (x0 + 1) 1) + x1 from c1), if_pos (show (0 : Int) < 2 from c2)]
        have y1 : g_287 x0 x1 d = mset d x0 0 2 := by simp only [g_287, if_neg (show ¬ v_176 x1 1 9999 d = 0 from c0), if_pos (show (99999 : Int) < (d (x0 + 1) 1) + x1 from c1), if_pos (show (0 : Int) < 2 from c2)]
        rw [y0] at h
        rw [y1] at h
        exact h (show ∀ b : Int, (b < x0 ∨ x0 + 2 < b) → (mset d x0 0 2) b = d b from fun b hb => mset_ne (by omega)) hS5
  · have hS6 : Safe (mset d x0 0 1) := s_11_f0 hS hx0 (by omega)
    rw [mset_eq (d := d) (a := x0) (i := (0 : Int)) (v := (1 : Int))]
    refine ⟨m_inR (by omega) (by omega), fun c1 => ?_, fun c1 => ?_⟩
    · exact (show False by omega).elim
    · have y0 : v_287 x0 x1 d = 0 := by simp only [v_287, if_pos (show v_176 x1 1 9999 d = 0 from c0), if_pos (show (0 : Int) < 1 from c1)]
      have y1 : g_287 x0 x1 d = mset d x0 0 1 := by simp only [g_287, if_pos (show v_176 x1 1 9999 d = 0 from c0), if_pos (show (0 : Int) < 1 from c1)]
      rw [y0] at h
      rw [y1] at h
      exact h (show ∀ b : Int, (b < x0 ∨ x0 + 2 < b) → (mset d x0 0 1) b = d b from fun b hb => mset_ne (by omega)) hS6
def v_288 (x0 x1 x2 : Int) (d : mD) : Int := if v_236 x0 x1 d = 0 then 0 else if v_236 x0 x2 d = 0 then 0 else if v_270 x0 x1 x2 d = 0 then 0 else (g_229 x0 x1 x2 (g_278 x0 (mset d x0 0 0))) (x0 + 1) ((12 + (68 * x2)) + 5)
def g_288 (x0 x1 x2 : Int) (d : mD) : mD := if v_236 x0 x1 d = 0 then mset d x0 0 1 else if v_236 x0 x2 d = 0 then mset d x0 0 1 else if v_270 x0 x1 x2 d = 0 then mset d x0 0 2 else g_229 x0 x1 x2 (g_278 x0 (mset d x0 0 0))
theorem k_288 {E : mO × tW} {K : tK} {d : mD} {x0 x1 x2 : Int} (hS : Safe d) (hx0 : mdB x0) (p1 : -2147483648 ≤ x1 ∧ x1 ≤ 2147483647) (p2 : -2147483648 ≤ x2 ∧ x2 ≤ 2147483647) (hqq : qqP (d (x0 + 1))) (h : (∀ b : Int, (b < x0 ∨ x0 + 2 < b) → (g_288 x0 x1 x2 d) b = d b) → Safe (g_288 x0 x1 x2 d) → K (.inl (some (0, (v_288 x0 x1 x2 d)))) (g_288 x0 x1 x2 d)) : tCall E 288 [.inr (11, x0), .inl (0, x1), .inl (0, x2)] d K := by
  refine t_288_0 ?_
  have w0 := mh_0 hS hx0 _ rfl
  have w7 := mh_7 hS hx0 _ rfl
  have w8 := mh_8 hS hx0 _ rfl
  have w9 := mh_9 hS hx0 _ rfl
  have w10 := mh_10 hS hx0 _ rfl
  have w11 := mh_11 hS hx0 _ rfl
  refine k_236 hS hx0 (m_inR (by omega) (by omega)) (fun e1 => ?_)
  refine t_288_6 ?_
  refine ⟨m_inR (by omega) (by omega), fun c0 => ?_, fun c0 => ?_⟩
  · have hS1 : Safe (mset d x0 0 1) := s_11_f0 hS hx0 (by omega)
    rw [mset_eq (d := d) (a := x0) (i := (0 : Int)) (v := (1 : Int))]
    refine ⟨m_inR (by omega) (by omega), fun c1 => ?_, fun c1 => ?_⟩
    · exact (show False by omega).elim
    · have y0 : v_288 x0 x1 x2 d = 0 := by simp only [v_288, if_pos (show v_236 x0 x1 d = 0 from c0), if_pos (show (0 : Int) < 1 from c1)]
      have y1 : g_288 x0 x1 x2 d = mset d x0 0 1 := by simp only [g_288, if_pos (show v_236 x0 x1 d = 0 from c0), if_pos (show (0 : Int) < 1 from c1)]
      rw [y0] at h
      rw [y1] at h
      exact h (show ∀ b : Int, (b < x0 ∨ x0 + 2 < b) → (mset d x0 0 1) b = d b from fun b hb => mset_ne (by omega)) hS1
  · refine k_236 hS hx0 (m_inR (by omega) (by omega)) (fun e2 => ?_)
    refine t_288_14 ?_
    refine ⟨m_inR (by omega) (by omega), fun c1 => ?_, fun c1 => ?_⟩
    · refine k_270 hS hx0 (by omega) (by omega) (fun e3 => ?_)
      refine t_288_27 ?_
      refine ⟨m_inR (by omega) (by omega), fun c2 => ?_, fun c2 => ?_⟩
      · have hS2 : Safe (mset d x0 0 2) := s_11_f0 hS hx0 (by omega)
        rw [mset_eq (d := d) (a := x0) (i := (0 : Int)) (v := (2 : Int))]
        refine ⟨m_inR (by omega) (by omega), fun c3 => ?_, fun c3 => ?_⟩
        · exact (show False by omega).elim
        · have y0 : v_288 x0 x1 x2 d = 0 := by simp only [v_288, if_neg (show ¬ v_236 x0 x1 d = 0 from c0), if_neg (show ¬ v_236 x0 x2 d = 0 from c1), if_pos (show v_270 x0 x1 x2 d = 0 from c2), if_pos (show (0 : Int) < 2 from c3)]
          have y1 : g_288 x0 x1 x2 d = mset d x0 0 2 := by simp only [g_288, if_neg (show ¬ v_236 x0 x1 d = 0 from c0), if_neg (show ¬ v_236 x0 x2 d = 0 from c1), if_pos (show v_270 x0 x1 x2 d = 0 from c2), if_pos (show (0 : Int) < 2 from c3)]
          rw [y0] at h
          rw [y1] at h
          exact h (show ∀ b : Int, (b < x0 ∨ x0 + 2 < b) → (mset d x0 0 2) b = d b from fun b hb => mset_ne (by omega)) hS2
      · have hS3 : Safe (mset d x0 0 0) := s_11_f0 hS hx0 (by omega)
        rw [mset_eq (d := d) (a := x0) (i := (0 : Int)) (v := (0 : Int))]
        refine ⟨m_inR (by omega) (by omega), fun c3 => ?_, fun c3 => ?_⟩
        · refine k_278 hS3 hx0 (fun F1 hS4 => ?_)
          refine t_288_51 ?_
          have q1 : (g_278 x0 (mset d x0 0 0)) (x0 + 1) (12 + 68 * x1 + 5) = d (x0 + 1) (12 + 68 * x1 + 5) := (congrFun (F1 (x0 + 1) (by omega)) (12 + 68 * x1 + 5)).trans (congrFun (mset_ne (by omega)) (12 + 68 * x1 + 5))
          have q2 : (g_278 x0 (mset d x0 0 0)) (x0 + 1) (12 + 68 * x2 + 5) = d (x0 + 1) (12 + 68 * x2 + 5) := (congrFun (F1 (x0 + 1) (by omega)) (12 + 68 * x2 + 5)).trans (congrFun (mset_ne (by omega)) (12 + 68 * x2 + 5))
          refine k_229 hS4 hx0 (by omega) (by omega) (by have u1 := hqq x1 (by omega) (by omega); have u2 := hqq x2 (by omega) (by omega); omega) (by omega) (fun F2 Q2 hS5 => ?_)
          refine t_288_57 ?_
          refine k_177 hS5 ?_
          refine t_288_65 ?_
          have q3 := mo_5 hS5 hx0 x2 ((12 + (68 * x2)) + 5) (by omega) (by omega)
          refine ⟨by omega, ?_⟩
          have y0 : v_288 x0 x1 x2 d = (g_229 x0 x1 x2 (g_278 x0 (mset d x0 0 0))) (x0 + 1) ((12 + (68 * x2)) + 5) := by simp only [v_288, if_neg (show ¬ v_236 x0 x1 d = 0 from c0), if_neg (show ¬ v_236 x0 x2 d = 0 from c1), if_neg (show ¬ v_270 x0 x1 x2 d = 0 from c2), if_neg (show ¬ (0 : Int) < 0 from Int.not_lt.mpr c3)]
          have y1 : g_288 x0 x1 x2 d = g_229 x0 x1 x2 (g_278 x0 (mset d x0 0 0)) := by simp only [g_288, if_neg (show ¬ v_236 x0 x1 d = 0 from c0), if_neg (show ¬ v_236 x0 x2 d = 0 from c1), if_neg (show ¬ v_270 x0 x1 x2 d = 0 from c2), if_neg (show ¬ (0 : Int) < 0 from Int.not_lt.mpr c3)]
          rw [y0] at h
          rw [y1] at h
          exact h (show ∀ b : Int, (b < x0 ∨ x0 + 2 < b) → (g_229 x0 x1 x2 (g_278 x0 (mset d x0 0 0))) b = d b from fun b hb => (F2 b (by omega)).trans ((F1 b (by omega)).trans (mset_ne (by omega)))) hS5
        · exact (show False by omega).elim
    · have hS6 : Safe (mset d x0 0 1) := s_11_f0 hS hx0 (by omega)
      rw [mset_eq (d := d) (a := x0) (i := (0 : Int)) (v := (1 : Int))]
      refine ⟨m_inR (by omega) (by omega), fun c2 => ?_, fun c2 => ?_⟩
      · exact (show False by omega).elim
      · have y0 : v_288 x0 x1 x2 d = 0 := by simp only [v_288, if_neg (show ¬ v_236 x0 x1 d = 0 from c0), if_pos (show v_236 x0 x2 d = 0 from c1), if_pos (show (0 : Int) < 1 from c2)]
        have y1 : g_288 x0 x1 x2 d = mset d x0 0 1 := by simp only [g_288, if_neg (show ¬ v_236 x0 x1 d = 0 from c0), if_pos (show v_236 x0 x2 d = 0 from c1), if_pos (show (0 : Int) < 1 from c2)]
        rw [y0] at h
        rw [y1] at h
        exact h (show ∀ b : Int, (b < x0 ∨ x0 + 2 < b) → (mset d x0 0 1) b = d b from fun b hb => mset_ne (by omega)) hS6
def st_289_64 (x0 x1 : Int) (r64 : Int → Int → mD → Int × mD) (x2 x3 : Int) (d : mD) : Int × mD := if x3 < d (x0 + 1) 7 then r64 (x2 + (d (x0 + 1) ((12 + (68 * x3)) + 4))) (x3 + 1) d else (x2, d)
def lp_289_64 (x0 x1 : Int) : Nat → Int → Int → mD → Int × mD
  | 0 => st_289_64 x0 x1 (fun _ _ d => (0, d))
  | n + 1 => st_289_64 x0 x1 (lp_289_64 x0 x1 n)
theorem ls_289_64 {E : mO × tW} {K : tK} {x0 x1 : Int} (hx0 : mdB x0) (p1 : -2147483648 ≤ x1 ∧ x1 ≤ 2147483647) (N64 : Int) (r64 : Int → Int → mD → Int × mD) (ih64 : ∀ (x2 x3 : Int) (d : mD), Safe d → (0 ≤ x3 ∧ x3 ≤ 6) → 0 ≤ 6 - x3 → 6 - x3 < N64 → ((∀ b : Int, (b < x0 ∨ x0 + 2 < b) → (r64 x2 x3 d).2 b = d b) → Safe (r64 x2 x3 d).2 → K (.inl (some (0, (r64 x2 x3 d).1))) (r64 x2 x3 d).2) → tRun E 289 (64, [.inr (11, x0), .inl (0, x1), .inl (0, x2), .inl (0, x3)], [], 0, 0, d) K) (x2 x3 : Int) (d : mD) (hS : Safe d) (i0 : 0 ≤ x3 ∧ x3 ≤ 6) (hm : 6 - x3 ≤ N64) (h : (∀ b : Int, (b < x0 ∨ x0 + 2 < b) → (st_289_64 x0 x1 r64 x2 x3 d).2 b = d b) → Safe (st_289_64 x0 x1 r64 x2 x3 d).2 → K (.inl (some (0, (st_289_64 x0 x1 r64 x2 x3 d).1))) (st_289_64 x0 x1 r64 x2 x3 d).2) : tRun E 289 (64, [.inr (11, x0), .inl (0, x1), .inl (0, x2), .inl (0, x3)], [], 0, 0, d) K := by
  refine t_289_64 ?_
  have q1 := mh_7 hS hx0 _ rfl
  refine ⟨by omega, ⟨m_inR (by omega) (by omega), m_inR (by omega) (by omega)⟩, fun c0 => ?_, fun c0 => ?_⟩
  · have y0 : st_289_64 x0 x1 r64 x2 x3 d = (x2, d) := by simp only [st_289_64, if_neg (show ¬ x3 < d (x0 + 1) 7 from Int.not_lt.mpr c0)]
    rw [y0] at h
    exact h (show ∀ b : Int, (b < x0 ∨ x0 + 2 < b) → d b = d b from fun _ _ => rfl) hS
  · refine k_177 hS ?_
    refine t_289_84 ?_
    refine ⟨by omega, ?_⟩
    have q2 := mo_4 hS hx0 x3 ((12 + (68 * x3)) + 4) (by omega) (by omega)
    refine ih64 (x2 + (d (x0 + 1) ((12 + (68 * x3)) + 4))) (x3 + 1)  d hS (by omega) (by omega) (by omega) ?_
    intro F hS_
    have y0 : st_289_64 x0 x1 r64 x2 x3 d = r64 (x2 + (d (x0 + 1) ((12 + (68 * x3)) + 4))) (x3 + 1) d := by simp only [st_289_64, if_pos (show x3 < d (x0 + 1) 7 from c0)]
    rw [y0] at h
    exact h F hS_
theorem l_289_64 {E : mO × tW} {K : tK} {x0 x1 : Int} (hx0 : mdB x0) (p1 : -2147483648 ≤ x1 ∧ x1 ≤ 2147483647) : ∀ (n : Nat) (x2 x3 : Int) (d : mD), Safe d → (0 ≤ x3 ∧ x3 ≤ 6) → 6 - x3 ≤ (n : Int) → ((∀ b : Int, (b < x0 ∨ x0 + 2 < b) → (lp_289_64 x0 x1 n x2 x3 d).2 b = d b) → Safe (lp_289_64 x0 x1 n x2 x3 d).2 → K (.inl (some (0, (lp_289_64 x0 x1 n x2 x3 d).1))) (lp_289_64 x0 x1 n x2 x3 d).2) → tRun E 289 (64, [.inr (11, x0), .inl (0, x1), .inl (0, x2), .inl (0, x3)], [], 0, 0, d) K := by
  intro n
  induction n with
  | zero =>
    intro x2 x3  d hS i0 hm  h
    exact ls_289_64 hx0 p1 0 _ (fun _ _  _ _ _ m0 m1 _ => absurd m1 (by omega)) x2 x3  d hS i0 hm  h
  | succ n ih =>
    intro x2 x3  d hS i0 hm  h
    exact ls_289_64 hx0 p1 ((n + 1 : Nat) : Int) _ (fun x2 x3  d hS i0  m0 m1 h => ih x2 x3  d hS i0 (by omega)  h) x2 x3  d hS i0 hm  h
def f_289 (x0 x1 : Int) (d : mD) : Int × mD := if v_236 x0 x1 d = 0 then (0, mset d x0 0 1) else if d (x0 + 1) ((12 + (68 * x1)) + 4) = 0 then lp_289_64 x0 x1 (6 - 0 : Int).toNat 0 0 (mset (g_278 x0 (mset d x0 0 0)) (x0 + 1) ((12 + (68 * x1)) + 4) 1) else (0, mset d x0 0 2)
def v_289 (x0 x1 : Int) (d : mD) : Int := (f_289 x0 x1 d).1
def g_289 (x0 x1 : Int) (d : mD) : mD := (f_289 x0 x1 d).2
theorem k_289 {E : mO × tW} {K : tK} {d : mD} {x0 x1 : Int} (hS : Safe d) (hx0 : mdB x0) (p1 : -2147483648 ≤ x1 ∧ x1 ≤ 2147483647) (h : (∀ b : Int, (b < x0 ∨ x0 + 2 < b) → (g_289 x0 x1 d) b = d b) → Safe (g_289 x0 x1 d) → K (.inl (some (0, (v_289 x0 x1 d)))) (g_289 x0 x1 d)) : tCall E 289 [.inr (11, x0), .inl (0, x1)] d K := by
  simp only [v_289, g_289] at h
  refine t_289_0 ?_
  have w0 := mh_0 hS hx0 _ rfl
  have w7 := mh_7 hS hx0 _ rfl
  have w8 := mh_8 hS hx0 _ rfl
  have w9 := mh_9 hS hx0 _ rfl
  have w10 := mh_10 hS hx0 _ rfl
  have w11 := mh_11 hS hx0 _ rfl
  refine k_236 hS hx0 (m_inR (by omega) (by omega)) (fun e1 => ?_)
  refine t_289_6 ?_
  refine ⟨m_inR (by omega) (by omega), fun c0 => ?_, fun c0 => ?_⟩
  · refine k_177 hS ?_
    refine t_289_21 ?_
    have q3 := mo_4 hS hx0 x1 ((12 + (68 * x1)) + 4) (by omega) (by omega)
    refine ⟨by omega, m_inR (by omega) (by omega), fun c1 => ?_, fun c1 => ?_⟩
    · have hS1 : Safe (mset d x0 0 2) := s_11_f0 hS hx0 (by omega)
      rw [mset_eq (d := d) (a := x0) (i := (0 : Int)) (v := (2 : Int))]
      refine ⟨m_inR (by omega) (by omega), fun c2 => ?_, fun c2 => ?_⟩
      · exact (show False by omega).elim
      · have y0 : f_289 x0 x1 d = (0, mset d x0 0 2) := by simp only [f_289, if_neg (show ¬ v_236 x0 x1 d = 0 from c0), if_neg (show ¬ d (x0 + 1) ((12 + (68 * x1)) + 4) = 0 from c1), if_pos (show (0 : Int) < 2 from c2)]
        rw [y0] at h
        exact h (show ∀ b : Int, (b < x0 ∨ x0 + 2 < b) → (mset d x0 0 2) b = d b from fun b hb => mset_ne (by omega)) hS1
    · have hS2 : Safe (mset d x0 0 0) := s_11_f0 hS hx0 (by omega)
      rw [mset_eq (d := d) (a := x0) (i := (0 : Int)) (v := (0 : Int))]
      refine ⟨m_inR (by omega) (by omega), fun c2 => ?_, fun c2 => ?_⟩
      · refine k_278 hS2 hx0 (fun F1 hS3 => ?_)
        refine t_289_48 ?_
        refine k_177 hS3 ?_
        refine t_289_56 ?_
        refine ⟨by omega, ?_⟩
        have hS4 : Safe (mset (g_278 x0 (mset d x0 0 0)) (x0 + 1) ((12 + (68 * x1)) + 4) 1) := smo_4 hS3 hx0 x1 ((12 + (68 * x1)) + 4) (by omega) (by omega) (by omega)
        refine l_289_64 hx0 p1 (6 - 0 : Int).toNat 0 0  (mset (g_278 x0 (mset d x0 0 0)) (x0 + 1) ((12 + (68 * x1)) + 4) 1) hS4 (by omega) (by omega) ?_
        intro F hS_
        have y0 : f_289 x0 x1 d = lp_289_64 x0 x1 (6 - 0 : Int).toNat 0 0 (mset (g_278 x0 (mset d x0 0 0)) (x0 + 1) ((12 + (68 * x1)) + 4) 1) := by simp only [f_289, if_neg (show ¬ v_236 x0 x1 d = 0 from c0), if_pos (show d (x0 + 1) ((12 + (68 * x1)) + 4) = 0 from c1), if_neg (show ¬ (0 : Int) < 0 from Int.not_lt.mpr c2)]
        rw [y0] at h
        exact h (fun b hb => (F b hb).trans ((show ∀ b : Int, (b < x0 ∨ x0 + 2 < b) → (mset (g_278 x0 (mset d x0 0 0)) (x0 + 1) ((12 + (68 * x1)) + 4) 1) b = d b from fun b hb => (mset_ne (by omega)).trans ((F1 b (by omega)).trans (mset_ne (by omega)))) b hb)) hS_
      · exact (show False by omega).elim
  · have hS5 : Safe (mset d x0 0 1) := s_11_f0 hS hx0 (by omega)
    rw [mset_eq (d := d) (a := x0) (i := (0 : Int)) (v := (1 : Int))]
    refine ⟨m_inR (by omega) (by omega), fun c1 => ?_, fun c1 => ?_⟩
    · exact (show False by omega).elim
    · have y0 : f_289 x0 x1 d = (0, mset d x0 0 1) := by simp only [f_289, if_pos (show v_236 x0 x1 d = 0 from c0), if_pos (show (0 : Int) < 1 from c1)]
      rw [y0] at h
      exact h (show ∀ b : Int, (b < x0 ∨ x0 + 2 < b) → (mset d x0 0 1) b = d b from fun b hb => mset_ne (by omega)) hS5
def v_291 (x0 : Int) (d : mD) : Int := if x0 < 2 then 0 else 1
theorem k_291 {E : mO × tW} {K : tK} {d : mD} {x0 : Int} (hS : Safe d) (p0 : -2147483648 ≤ x0 ∧ x0 ≤ 2147483647) (h : ((0 ≤ (v_291 x0 d) ∧ (v_291 x0 d) ≤ 1)) → K (.inl (some (0, (v_291 x0 d)))) d) : tCall E 291 [.inl (0, x0)] d K := by
  refine t_291_0 ?_
  refine ⟨⟨m_inR (by omega) (by omega), m_inR (by omega) (by omega)⟩, fun c0 => ?_, fun c0 => ?_⟩
  · have y0 : v_291 x0 d = 1 := by simp only [v_291, if_neg (show ¬ x0 < 2 from Int.not_lt.mpr c0)]
    rw [y0] at h
    exact h (show (0 ≤ ((1 : Int)) ∧ ((1 : Int)) ≤ 1) from (by omega))
  · have y0 : v_291 x0 d = 0 := by simp only [v_291, if_pos (show x0 < 2 from c0)]
    rw [y0] at h
    exact h (show (0 ≤ ((0 : Int)) ∧ ((0 : Int)) ≤ 1) from (by omega))
def v_292 (x0 : Int) (d : mD) : Int := if x0 = 1 then 3 else if x0 = 3 then 20 else if x0 = 4 then 99 else 9
theorem k_292 {E : mO × tW} {K : tK} {d : mD} {x0 : Int} (hS : Safe d) (p0 : -2147483648 ≤ x0 ∧ x0 ≤ 2147483647) (h : ((0 ≤ (v_292 x0 d) ∧ (v_292 x0 d) ≤ 99) ∧ (¬ x0 = 1 ∨ (v_292 x0 d) ≤ 3)) → K (.inl (some (0, (v_292 x0 d)))) d) : tCall E 292 [.inl (0, x0)] d K := by
  refine t_292_0 ?_
  refine ⟨⟨m_inR (by omega) (by omega), m_inR (by omega) (by omega)⟩, fun c0 => ?_, fun c0 => ?_⟩
  · refine ⟨⟨m_inR (by omega) (by omega), m_inR (by omega) (by omega)⟩, fun c1 => ?_, fun c1 => ?_⟩
    · refine ⟨⟨m_inR (by omega) (by omega), m_inR (by omega) (by omega)⟩, fun c2 => ?_, fun c2 => ?_⟩
      · have y0 : v_292 x0 d = 9 := by simp only [v_292, if_neg (show ¬ x0 = 1 from c0), if_neg (show ¬ x0 = 3 from c1), if_neg (show ¬ x0 = 4 from c2)]
        rw [y0] at h
        exact h (show (0 ≤ ((9 : Int)) ∧ ((9 : Int)) ≤ 99) ∧ (¬ x0 = 1 ∨ ((9 : Int)) ≤ 3) from (by omega))
      · have y0 : v_292 x0 d = 99 := by simp only [v_292, if_neg (show ¬ x0 = 1 from c0), if_neg (show ¬ x0 = 3 from c1), if_pos (show x0 = 4 from c2)]
        rw [y0] at h
        exact h (show (0 ≤ ((99 : Int)) ∧ ((99 : Int)) ≤ 99) ∧ (¬ x0 = 1 ∨ ((99 : Int)) ≤ 3) from (by omega))
    · have y0 : v_292 x0 d = 20 := by simp only [v_292, if_neg (show ¬ x0 = 1 from c0), if_pos (show x0 = 3 from c1)]
      rw [y0] at h
      exact h (show (0 ≤ ((20 : Int)) ∧ ((20 : Int)) ≤ 99) ∧ (¬ x0 = 1 ∨ ((20 : Int)) ≤ 3) from (by omega))
  · have y0 : v_292 x0 d = 3 := by simp only [v_292, if_pos (show x0 = 1 from c0)]
    rw [y0] at h
    exact h (show (0 ≤ ((3 : Int)) ∧ ((3 : Int)) ≤ 99) ∧ (¬ x0 = 1 ∨ ((3 : Int)) ≤ 3) from (by omega))
def v_293 (x0 x1 x2 : Int) (d : mD) : Int := if v_176 x1 0 4 d = 0 then 0 else if v_176 x2 (v_291 x1 d) (v_292 x1 d) d = 0 then 0 else d (x0 + 1) (2 + x1)
def g_293 (x0 x1 x2 : Int) (d : mD) : mD := if v_176 x1 0 4 d = 0 then mset d x0 0 1 else if v_176 x2 (v_291 x1 d) (v_292 x1 d) d = 0 then mset d x0 0 1 else mset (g_278 x0 (mset d x0 0 0)) (x0 + 1) (2 + x1) x2
theorem k_293 {E : mO × tW} {K : tK} {d : mD} {x0 x1 x2 : Int} (hS : Safe d) (hx0 : mdB x0) (p1 : -2147483648 ≤ x1 ∧ x1 ≤ 2147483647) (p2 : -2147483648 ≤ x2 ∧ x2 ≤ 2147483647) (h : (∀ b : Int, (b < x0 ∨ x0 + 2 < b) → (g_293 x0 x1 x2 d) b = d b) → Safe (g_293 x0 x1 x2 d) → K (.inl (some (0, (v_293 x0 x1 x2 d)))) (g_293 x0 x1 x2 d)) : tCall E 293 [.inr (11, x0), .inl (0, x1), .inl (0, x2)] d K := by
  refine t_293_0 ?_
  have w0 := mh_0 hS hx0 _ rfl
  have w7 := mh_7 hS hx0 _ rfl
  have w8 := mh_8 hS hx0 _ rfl
  have w9 := mh_9 hS hx0 _ rfl
  have w10 := mh_10 hS hx0 _ rfl
  have w11 := mh_11 hS hx0 _ rfl
  refine ⟨m_inR (by omega) (by omega), ?_⟩
  refine k_176 hS (m_inR (by omega) (by omega)) (m_inR (by omega) (by omega)) (m_inR (by omega) (by omega)) (fun e1 => ?_)
  refine t_293_10 ?_
  refine ⟨m_inR (by omega) (by omega), fun c0 => ?_, fun c0 => ?_⟩
  · have hS1 : Safe (mset d x0 0 1) := s_11_f0 hS hx0 (by omega)
    rw [mset_eq (d := d) (a := x0) (i := (0 : Int)) (v := (1 : Int))]
    refine ⟨m_inR (by omega) (by omega), fun c1 => ?_, fun c1 => ?_⟩
    · exact (show False by omega).elim
    · have y0 : v_293 x0 x1 x2 d = 0 := by simp only [v_293, if_pos (show v_176 x1 0 4 d = 0 from c0), if_pos (show (0 : Int) < 1 from c1)]
      have y1 : g_293 x0 x1 x2 d = mset d x0 0 1 := by simp only [g_293, if_pos (show v_176 x1 0 4 d = 0 from c0), if_pos (show (0 : Int) < 1 from c1)]
      rw [y0] at h
      rw [y1] at h
      exact h (show ∀ b : Int, (b < x0 ∨ x0 + 2 < b) → (mset d x0 0 1) b = d b from fun b hb => mset_ne (by omega)) hS1
  · refine ⟨m_inR (by omega) (by omega), ?_⟩
    refine k_291 hS (m_inR (by omega) (by omega)) (fun e2 => ?_)
    refine t_293_19 ?_
    refine ⟨m_inR (by omega) (by omega), ?_⟩
    refine k_292 hS (m_inR (by omega) (by omega)) (fun e3 => ?_)
    refine t_293_24 ?_
    refine ⟨m_inR (by omega) (by omega), ?_⟩
    refine k_176 hS (m_inR (by omega) (by omega)) (m_inR (by omega) (by omega)) (m_inR (by omega) (by omega)) (fun e4 => ?_)
    refine t_293_28 ?_
    refine ⟨m_inR (by omega) (by omega), fun c1 => ?_, fun c1 => ?_⟩
    · have hS2 : Safe (mset d x0 0 1) := s_11_f0 hS hx0 (by omega)
      rw [mset_eq (d := d) (a := x0) (i := (0 : Int)) (v := (1 : Int))]
      refine ⟨m_inR (by omega) (by omega), fun c2 => ?_, fun c2 => ?_⟩
      · exact (show False by omega).elim
      · have y0 : v_293 x0 x1 x2 d = 0 := by simp only [v_293, if_neg (show ¬ v_176 x1 0 4 d = 0 from c0), if_pos (show v_176 x2 (v_291 x1 d) (v_292 x1 d) d = 0 from c1), if_pos (show (0 : Int) < 1 from c2)]
        have y1 : g_293 x0 x1 x2 d = mset d x0 0 1 := by simp only [g_293, if_neg (show ¬ v_176 x1 0 4 d = 0 from c0), if_pos (show v_176 x2 (v_291 x1 d) (v_292 x1 d) d = 0 from c1), if_pos (show (0 : Int) < 1 from c2)]
        rw [y0] at h
        rw [y1] at h
        exact h (show ∀ b : Int, (b < x0 ∨ x0 + 2 < b) → (mset d x0 0 1) b = d b from fun b hb => mset_ne (by omega)) hS2
    · have hS3 : Safe (mset d x0 0 0) := s_11_f0 hS hx0 (by omega)
      rw [mset_eq (d := d) (a := x0) (i := (0 : Int)) (v := (0 : Int))]
      refine ⟨m_inR (by omega) (by omega), fun c2 => ?_, fun c2 => ?_⟩
      · refine k_278 hS3 hx0 (fun F1 hS4 => ?_)
        refine t_293_52 ?_
        rw [F1 (x0 + 1) (by omega)]
        rw [mset_ne (d := d) (a := x0) (i := (0 : Int)) (v := (0 : Int)) (b := x0 + 1) (by omega)]
        refine ⟨by omega, by omega, ?_⟩
        have hS5 : Safe (mset (g_278 x0 (mset d x0 0 0)) (x0 + 1) (2 + x1) x2) := smstg hS4 hx0 x1 (2 + x1) (by omega) (by omega) (by omega)
        have q1 := mstg hS hx0 x1 (2 + x1) (by omega) (by omega)
        have y0 : v_293 x0 x1 x2 d = d (x0 + 1) (2 + x1) := by simp only [v_293, if_neg (show ¬ v_176 x1 0 4 d = 0 from c0), if_neg (show ¬ v_176 x2 (v_291 x1 d) (v_292 x1 d) d = 0 from c1), if_neg (show ¬ (0 : Int) < 0 from Int.not_lt.mpr c2)]
        have y1 : g_293 x0 x1 x2 d = mset (g_278 x0 (mset d x0 0 0)) (x0 + 1) (2 + x1) x2 := by simp only [g_293, if_neg (show ¬ v_176 x1 0 4 d = 0 from c0), if_neg (show ¬ v_176 x2 (v_291 x1 d) (v_292 x1 d) d = 0 from c1), if_neg (show ¬ (0 : Int) < 0 from Int.not_lt.mpr c2)]
        rw [y0] at h
        rw [y1] at h
        exact h (show ∀ b : Int, (b < x0 ∨ x0 + 2 < b) → (mset (g_278 x0 (mset d x0 0 0)) (x0 + 1) (2 + x1) x2) b = d b from fun b hb => (mset_ne (by omega)).trans ((F1 b (by omega)).trans (mset_ne (by omega)))) hS5
      · exact (show False by omega).elim
def st_294_37 (x0 : Int) (r37 : Int → mD → Int × mD) (x1 : Int) (d : mD) : Int × mD := if x1 < 3116 then r37 (x1 + 1) (mset d (x0 + 1) x1 (d (x0 + 2) ((3116 * (d x0 7)) + x1))) else (d x0 7, d)
def lp_294_37 (x0 : Int) : Nat → Int → mD → Int × mD
  | 0 => st_294_37 x0 (fun _ d => (0, d))
  | n + 1 => st_294_37 x0 (lp_294_37 x0 n)
theorem ls_294_37 {E : mO × tW} {K : tK} {x0 : Int} (hx0 : mdB x0) (N37 : Int) (r37 : Int → mD → Int × mD) (ih37 : ∀ (x1 : Int) (d : mD), Safe d → (0 ≤ x1 ∧ x1 ≤ 3116) → (0 ≤ d x0 7 ∧ d x0 7 ≤ 7) → 0 ≤ 3116 - x1 → 3116 - x1 < N37 → ((∀ b : Int, (b < x0 ∨ x0 + 1 < b) → (r37 x1 d).2 b = d b) → Safe (r37 x1 d).2 → K (.inl (some (0, (r37 x1 d).1))) (r37 x1 d).2) → tRun E 294 (37, [.inr (11, x0), .inl (0, x1)], [], 0, 0, d) K) (x1 : Int) (d : mD) (hS : Safe d) (i0 : 0 ≤ x1 ∧ x1 ≤ 3116) (i1 : 0 ≤ d x0 7 ∧ d x0 7 ≤ 7) (hm : 3116 - x1 ≤ N37) (h : (∀ b : Int, (b < x0 ∨ x0 + 1 < b) → (st_294_37 x0 r37 x1 d).2 b = d b) → Safe (st_294_37 x0 r37 x1 d).2 → K (.inl (some (0, (st_294_37 x0 r37 x1 d).1))) (st_294_37 x0 r37 x1 d).2) : tRun E 294 (37, [.inr (11, x0), .inl (0, x1)], [], 0, 0, d) K := by
  refine t_294_37 ?_
  refine ⟨⟨m_inR (by omega) (by omega), m_inR (by omega) (by omega)⟩, fun c0 => ?_, fun c0 => ?_⟩
  · have q1 := r_11_f7 hS hx0
    have y0 : st_294_37 x0 r37 x1 d = (d x0 7, d) := by simp only [st_294_37, if_neg (show ¬ x1 < 3116 from Int.not_lt.mpr c0)]
    rw [y0] at h
    exact h (show ∀ b : Int, (b < x0 ∨ x0 + 1 < b) → d b = d b from fun _ _ => rfl) hS
  · have q2 := r_11_f7 hS hx0
    refine ⟨by omega, by omega, ?_⟩
    have hS1 : Safe (mset d (x0 + 1) x1 (d (x0 + 2) ((3116 * (d x0 7)) + x1))) := sr_1 hS hx0 (j := ((3116 * (d x0 7)) + x1) % 3116) (by omega) (rr_2 hS hx0 ((3116 * (d x0 7)) + x1))
    have q3 : (mset d (x0 + 1) x1 (d (x0 + 2) ((3116 * (d x0 7)) + x1))) x0 7 = d x0 7 := congrFun (mset_ne (by omega)) 7
    refine ih37 (x1 + 1)  (mset d (x0 + 1) x1 (d (x0 + 2) ((3116 * (d x0 7)) + x1))) hS1 (by omega) (by omega) (by omega) (by omega) ?_
    intro F hS_
    have y0 : st_294_37 x0 r37 x1 d = r37 (x1 + 1) (mset d (x0 + 1) x1 (d (x0 + 2) ((3116 * (d x0 7)) + x1))) := by simp only [st_294_37, if_pos (show x1 < 3116 from c0)]
    rw [y0] at h
    exact h (fun b hb => (F b hb).trans ((show ∀ b : Int, (b < x0 ∨ x0 + 1 < b) → (mset d (x0 + 1) x1 (d (x0 + 2) ((3116 * (d x0 7)) + x1))) b = d b from fun b hb => mset_ne (by omega)) b hb)) hS_
theorem l_294_37 {E : mO × tW} {K : tK} {x0 : Int} (hx0 : mdB x0) : ∀ (n : Nat) (x1 : Int) (d : mD), Safe d → (0 ≤ x1 ∧ x1 ≤ 3116) → (0 ≤ d x0 7 ∧ d x0 7 ≤ 7) → 3116 - x1 ≤ (n : Int) → ((∀ b : Int, (b < x0 ∨ x0 + 1 < b) → (lp_294_37 x0 n x1 d).2 b = d b) → Safe (lp_294_37 x0 n x1 d).2 → K (.inl (some (0, (lp_294_37 x0 n x1 d).1))) (lp_294_37 x0 n x1 d).2) → tRun E 294 (37, [.inr (11, x0), .inl (0, x1)], [], 0, 0, d) K := by
  intro n
  induction n with
  | zero =>
    intro x1  d hS i0 i1 hm  h
    exact ls_294_37 hx0 0 _ (fun _  _ _ _ _ m0 m1 _ => absurd m1 (by omega)) x1  d hS i0 i1 hm  h
  | succ n ih =>
    intro x1  d hS i0 i1 hm  h
    exact ls_294_37 hx0 ((n + 1 : Nat) : Int) _ (fun x1  d hS i0 i1  m0 m1 h => ih x1  d hS i0 i1 (by omega)  h) x1  d hS i0 i1 hm  h
def f_294 (x0 : Int) (d : mD) : Int × mD := if (0 : Int) < d x0 7 then lp_294_37 x0 (3116 - 0 : Int).toNat 0 (mset (mset d x0 0 0) x0 7 ((d x0 7) - 1)) else (0, mset d x0 0 1)
def v_294 (x0 : Int) (d : mD) : Int := (f_294 x0 d).1
def g_294 (x0 : Int) (d : mD) : mD := (f_294 x0 d).2
theorem k_294 {E : mO × tW} {K : tK} {d : mD} {x0 : Int} (hS : Safe d) (hx0 : mdB x0) (h : (∀ b : Int, (b < x0 ∨ x0 + 1 < b) → (g_294 x0 d) b = d b) → Safe (g_294 x0 d) → K (.inl (some (0, (v_294 x0 d)))) (g_294 x0 d)) : tCall E 294 [.inr (11, x0)] d K := by
  simp only [v_294, g_294] at h
  refine t_294_0 ?_
  have w0 := mh_0 hS hx0 _ rfl
  have w7 := mh_7 hS hx0 _ rfl
  have w8 := mh_8 hS hx0 _ rfl
  have w9 := mh_9 hS hx0 _ rfl
  have w10 := mh_10 hS hx0 _ rfl
  have w11 := mh_11 hS hx0 _ rfl
  have q4 := r_11_f7 hS hx0
  refine ⟨m_inR (by omega) (by omega), fun c0 => ?_, fun c0 => ?_⟩
  · have hS2 : Safe (mset d x0 0 1) := s_11_f0 hS hx0 (by omega)
    rw [mset_eq (d := d) (a := x0) (i := (0 : Int)) (v := (1 : Int))]
    refine ⟨m_inR (by omega) (by omega), fun c1 => ?_, fun c1 => ?_⟩
    · exact (show False by omega).elim
    · have y0 : f_294 x0 d = (0, mset d x0 0 1) := by simp only [f_294, if_neg (show ¬ (0 : Int) < d x0 7 from Int.not_lt.mpr c0), if_pos (show (0 : Int) < 1 from c1)]
      rw [y0] at h
      exact h (show ∀ b : Int, (b < x0 ∨ x0 + 1 < b) → (mset d x0 0 1) b = d b from fun b hb => mset_ne (by omega)) hS2
  · have hS3 : Safe (mset d x0 0 0) := s_11_f0 hS hx0 (by omega)
    rw [mset_eq (d := d) (a := x0) (i := (0 : Int)) (v := (0 : Int))]
    refine ⟨m_inR (by omega) (by omega), fun c1 => ?_, fun c1 => ?_⟩
    · rw [mset_ni (d := d) (a := x0) (i := (0 : Int)) (v := (0 : Int)) (b := x0) (j := (7 : Int)) (by omega)]
      have hS4 : Safe (mset (mset d x0 0 0) x0 7 ((d x0 7) - 1)) := s_11_f7 hS3 hx0 (by omega)
      have q5 : (mset (mset d x0 0 0) x0 7 ((d x0 7) - 1)) x0 7 = (d x0 7) - 1 := mset_eq
      refine l_294_37 hx0 (3116 - 0 : Int).toNat 0  (mset (mset d x0 0 0) x0 7 ((d x0 7) - 1)) hS4 (by omega) (by omega) (by omega) ?_
      intro F hS_
      have y0 : f_294 x0 d = lp_294_37 x0 (3116 - 0 : Int).toNat 0 (mset (mset d x0 0 0) x0 7 ((d x0 7) - 1)) := by simp only [f_294, if_pos (show (0 : Int) < d x0 7 from c0), if_neg (show ¬ (0 : Int) < 0 from Int.not_lt.mpr c1)]
      rw [y0] at h
      exact h (fun b hb => (F b hb).trans ((show ∀ b : Int, (b < x0 ∨ x0 + 1 < b) → (mset (mset d x0 0 0) x0 7 ((d x0 7) - 1)) b = d b from fun b hb => (mset_ne (by omega)).trans (mset_ne (by omega))) b hb)) hS_
    · exact (show False by omega).elim
def st_295_29 (x0 x1 : Int) (r29 : Int → mD → mD) (x2 : Int) (d : mD) : mD := if x2 < 3116 then r29 (x2 + 1) (mset d (x0 + 3) ((3116 * x1) + x2) (d (x0 + 1) x2)) else mset d (x0 + 6) x1 1
def lp_295_29 (x0 x1 : Int) : Nat → Int → mD → mD
  | 0 => st_295_29 x0 x1 (fun _ d => d)
  | n + 1 => st_295_29 x0 x1 (lp_295_29 x0 x1 n)
theorem ls_295_29 {E : mO × tW} {K : tK} {x0 x1 : Int} (hx0 : mdB x0) (p1 : -2147483648 ≤ x1 ∧ x1 ≤ 2147483647) (N29 : Int) (r29 : Int → mD → mD) (ih29 : ∀ (x2 : Int) (d : mD), Safe d → (0 ≤ x2 ∧ x2 ≤ 3116) → (0 ≤ x1 ∧ x1 ≤ 1) → 0 ≤ 3116 - x2 → 3116 - x2 < N29 → ((∀ b : Int, (b < x0 ∨ x0 < b) ∧ (b < x0 + 3 ∨ x0 + 3 < b) ∧ (b < x0 + 6 ∨ x0 + 6 < b) → (r29 x2 d) b = d b) → Safe (r29 x2 d) → K (.inl none) (r29 x2 d)) → tRun E 295 (29, [.inr (11, x0), .inl (0, x1), .inl (0, x2)], [], 0, 0, d) K) (x2 : Int) (d : mD) (hS : Safe d) (i0 : 0 ≤ x2 ∧ x2 ≤ 3116) (i1 : 0 ≤ x1 ∧ x1 ≤ 1) (hm : 3116 - x2 ≤ N29) (h : (∀ b : Int, (b < x0 ∨ x0 < b) ∧ (b < x0 + 3 ∨ x0 + 3 < b) ∧ (b < x0 + 6 ∨ x0 + 6 < b) → (st_295_29 x0 x1 r29 x2 d) b = d b) → Safe (st_295_29 x0 x1 r29 x2 d) → K (.inl none) (st_295_29 x0 x1 r29 x2 d)) : tRun E 295 (29, [.inr (11, x0), .inl (0, x1), .inl (0, x2)], [], 0, 0, d) K := by
  refine t_295_29 ?_
  refine ⟨⟨m_inR (by omega) (by omega), m_inR (by omega) (by omega)⟩, fun c0 => ?_, fun c0 => ?_⟩
  · refine ⟨by omega, ?_⟩
    have hS1 : Safe (mset d (x0 + 6) x1 1) := s_11_6 hS hx0 (by omega)
    have y0 : st_295_29 x0 x1 r29 x2 d = mset d (x0 + 6) x1 1 := by simp only [st_295_29, if_neg (show ¬ x2 < 3116 from Int.not_lt.mpr c0)]
    rw [y0] at h
    exact h (show ∀ b : Int, (b < x0 ∨ x0 < b) ∧ (b < x0 + 3 ∨ x0 + 3 < b) ∧ (b < x0 + 6 ∨ x0 + 6 < b) → (mset d (x0 + 6) x1 1) b = d b from fun b hb => mset_ne (by omega)) hS1
  · refine ⟨by omega, by omega, ?_⟩
    have hS2 : Safe (mset d (x0 + 3) ((3116 * x1) + x2) (d (x0 + 1) x2)) := sr_3 hS hx0 (j := x2) (by omega) (rr_1 hS hx0 x2)
    refine ih29 (x2 + 1)  (mset d (x0 + 3) ((3116 * x1) + x2) (d (x0 + 1) x2)) hS2 (by omega) (by omega) (by omega) (by omega) ?_
    intro F hS_
    have y0 : st_295_29 x0 x1 r29 x2 d = r29 (x2 + 1) (mset d (x0 + 3) ((3116 * x1) + x2) (d (x0 + 1) x2)) := by simp only [st_295_29, if_pos (show x2 < 3116 from c0)]
    rw [y0] at h
    exact h (fun b hb => (F b hb).trans ((show ∀ b : Int, (b < x0 ∨ x0 < b) ∧ (b < x0 + 3 ∨ x0 + 3 < b) ∧ (b < x0 + 6 ∨ x0 + 6 < b) → (mset d (x0 + 3) ((3116 * x1) + x2) (d (x0 + 1) x2)) b = d b from fun b hb => mset_ne (by omega)) b hb)) hS_
theorem l_295_29 {E : mO × tW} {K : tK} {x0 x1 : Int} (hx0 : mdB x0) (p1 : -2147483648 ≤ x1 ∧ x1 ≤ 2147483647) : ∀ (n : Nat) (x2 : Int) (d : mD), Safe d → (0 ≤ x2 ∧ x2 ≤ 3116) → (0 ≤ x1 ∧ x1 ≤ 1) → 3116 - x2 ≤ (n : Int) → ((∀ b : Int, (b < x0 ∨ x0 < b) ∧ (b < x0 + 3 ∨ x0 + 3 < b) ∧ (b < x0 + 6 ∨ x0 + 6 < b) → (lp_295_29 x0 x1 n x2 d) b = d b) → Safe (lp_295_29 x0 x1 n x2 d) → K (.inl none) (lp_295_29 x0 x1 n x2 d)) → tRun E 295 (29, [.inr (11, x0), .inl (0, x1), .inl (0, x2)], [], 0, 0, d) K := by
  intro n
  induction n with
  | zero =>
    intro x2  d hS i0 i1 hm  h
    exact ls_295_29 hx0 p1 0 _ (fun _  _ _ _ _ m0 m1 _ => absurd m1 (by omega)) x2  d hS i0 i1 hm  h
  | succ n ih =>
    intro x2  d hS i0 i1 hm  h
    exact ls_295_29 hx0 p1 ((n + 1 : Nat) : Int) _ (fun x2  d hS i0 i1  m0 m1 h => ih x2  d hS i0 i1 (by omega)  h) x2  d hS i0 i1 hm  h
def g_295 (x0 x1 : Int) (d : mD) : mD := if v_176 x1 0 1 d = 0 then mset d x0 0 1 else lp_295_29 x0 x1 (3116 - 0 : Int).toNat 0 (mset d x0 0 0)
theorem k_295 {E : mO × tW} {K : tK} {d : mD} {x0 x1 : Int} (hS : Safe d) (hx0 : mdB x0) (p1 : -2147483648 ≤ x1 ∧ x1 ≤ 2147483647) (h : (∀ b : Int, (b < x0 ∨ x0 < b) ∧ (b < x0 + 3 ∨ x0 + 3 < b) ∧ (b < x0 + 6 ∨ x0 + 6 < b) → (g_295 x0 x1 d) b = d b) → Safe (g_295 x0 x1 d) → K (.inl none) (g_295 x0 x1 d)) : tCall E 295 [.inr (11, x0), .inl (0, x1)] d K := by
  refine t_295_0 ?_
  have w0 := mh_0 hS hx0 _ rfl
  have w7 := mh_7 hS hx0 _ rfl
  have w8 := mh_8 hS hx0 _ rfl
  have w9 := mh_9 hS hx0 _ rfl
  have w10 := mh_10 hS hx0 _ rfl
  have w11 := mh_11 hS hx0 _ rfl
  refine ⟨m_inR (by omega) (by omega), ?_⟩
  refine k_176 hS (m_inR (by omega) (by omega)) (m_inR (by omega) (by omega)) (m_inR (by omega) (by omega)) (fun e1 => ?_)
  refine t_295_8 ?_
  refine ⟨m_inR (by omega) (by omega), fun c0 => ?_, fun c0 => ?_⟩
  · have hS3 : Safe (mset d x0 0 1) := s_11_f0 hS hx0 (by omega)
    rw [mset_eq (d := d) (a := x0) (i := (0 : Int)) (v := (1 : Int))]
    refine ⟨m_inR (by omega) (by omega), fun c1 => ?_, fun c1 => ?_⟩
    · exact (show False by omega).elim
    · have y0 : g_295 x0 x1 d = mset d x0 0 1 := by simp only [g_295, if_pos (show v_176 x1 0 1 d = 0 from c0), if_pos (show (0 : Int) < 1 from c1)]
      rw [y0] at h
      exact h (show ∀ b : Int, (b < x0 ∨ x0 < b) ∧ (b < x0 + 3 ∨ x0 + 3 < b) ∧ (b < x0 + 6 ∨ x0 + 6 < b) → (mset d x0 0 1) b = d b from fun b hb => mset_ne (by omega)) hS3
  · have hS4 : Safe (mset d x0 0 0) := s_11_f0 hS hx0 (by omega)
    rw [mset_eq (d := d) (a := x0) (i := (0 : Int)) (v := (0 : Int))]
    refine ⟨m_inR (by omega) (by omega), fun c1 => ?_, fun c1 => ?_⟩
    · refine l_295_29 hx0 p1 (3116 - 0 : Int).toNat 0  (mset d x0 0 0) hS4 (by omega) (by omega) (by omega) ?_
      intro F hS_
      have y0 : g_295 x0 x1 d = lp_295_29 x0 x1 (3116 - 0 : Int).toNat 0 (mset d x0 0 0) := by simp only [g_295, if_neg (show ¬ v_176 x1 0 1 d = 0 from c0), if_neg (show ¬ (0 : Int) < 0 from Int.not_lt.mpr c1)]
      rw [y0] at h
      exact h (fun b hb => (F b hb).trans ((show ∀ b : Int, (b < x0 ∨ x0 < b) ∧ (b < x0 + 3 ∨ x0 + 3 < b) ∧ (b < x0 + 6 ∨ x0 + 6 < b) → (mset d x0 0 0) b = d b from fun b hb => mset_ne (by omega)) b hb)) hS_
    · exact (show False by omega).elim
def st_296_42 (x0 x1 : Int) (r42 : Int → mD → mD) (x2 : Int) (d : mD) : mD := if x2 < 3116 then r42 (x2 + 1) (mset d (x0 + 1) x2 (d (x0 + 3) ((3116 * x1) + x2))) else mset d x0 7 0
def lp_296_42 (x0 x1 : Int) : Nat → Int → mD → mD
  | 0 => st_296_42 x0 x1 (fun _ d => d)
  | n + 1 => st_296_42 x0 x1 (lp_296_42 x0 x1 n)
theorem ls_296_42 {E : mO × tW} {K : tK} {x0 x1 : Int} (hx0 : mdB x0) (p1 : -2147483648 ≤ x1 ∧ x1 ≤ 2147483647) (N42 : Int) (r42 : Int → mD → mD) (ih42 : ∀ (x2 : Int) (d : mD), Safe d → (0 ≤ x2 ∧ x2 ≤ 3116) → (0 ≤ x1 ∧ x1 ≤ 1) → 0 ≤ 3116 - x2 → 3116 - x2 < N42 → ((∀ b : Int, (b < x0 ∨ x0 + 1 < b) → (r42 x2 d) b = d b) → Safe (r42 x2 d) → K (.inl none) (r42 x2 d)) → tRun E 296 (42, [.inr (11, x0), .inl (0, x1), .inl (0, x2)], [], 0, 0, d) K) (x2 : Int) (d : mD) (hS : Safe d) (i0 : 0 ≤ x2 ∧ x2 ≤ 3116) (i1 : 0 ≤ x1 ∧ x1 ≤ 1) (hm : 3116 - x2 ≤ N42) (h : (∀ b : Int, (b < x0 ∨ x0 + 1 < b) → (st_296_42 x0 x1 r42 x2 d) b = d b) → Safe (st_296_42 x0 x1 r42 x2 d) → K (.inl none) (st_296_42 x0 x1 r42 x2 d)) : tRun E 296 (42, [.inr (11, x0), .inl (0, x1), .inl (0, x2)], [], 0, 0, d) K := by
  refine t_296_42 ?_
  refine ⟨⟨m_inR (by omega) (by omega), m_inR (by omega) (by omega)⟩, fun c0 => ?_, fun c0 => ?_⟩
  · have hS1 : Safe (mset d x0 7 0) := s_11_f7 hS hx0 (by omega)
    have y0 : st_296_42 x0 x1 r42 x2 d = mset d x0 7 0 := by simp only [st_296_42, if_neg (show ¬ x2 < 3116 from Int.not_lt.mpr c0)]
    rw [y0] at h
    exact h (show ∀ b : Int, (b < x0 ∨ x0 + 1 < b) → (mset d x0 7 0) b = d b from fun b hb => mset_ne (by omega)) hS1
  · refine ⟨by omega, by omega, ?_⟩
    have hS2 : Safe (mset d (x0 + 1) x2 (d (x0 + 3) ((3116 * x1) + x2))) := sr_1 hS hx0 (j := ((3116 * x1) + x2) % 3116) (by omega) (rr_3 hS hx0 ((3116 * x1) + x2))
    refine ih42 (x2 + 1)  (mset d (x0 + 1) x2 (d (x0 + 3) ((3116 * x1) + x2))) hS2 (by omega) (by omega) (by omega) (by omega) ?_
    intro F hS_
    have y0 : st_296_42 x0 x1 r42 x2 d = r42 (x2 + 1) (mset d (x0 + 1) x2 (d (x0 + 3) ((3116 * x1) + x2))) := by simp only [st_296_42, if_pos (show x2 < 3116 from c0)]
    rw [y0] at h
    exact h (fun b hb => (F b hb).trans ((show ∀ b : Int, (b < x0 ∨ x0 + 1 < b) → (mset d (x0 + 1) x2 (d (x0 + 3) ((3116 * x1) + x2))) b = d b from fun b hb => mset_ne (by omega)) b hb)) hS_
theorem l_296_42 {E : mO × tW} {K : tK} {x0 x1 : Int} (hx0 : mdB x0) (p1 : -2147483648 ≤ x1 ∧ x1 ≤ 2147483647) : ∀ (n : Nat) (x2 : Int) (d : mD), Safe d → (0 ≤ x2 ∧ x2 ≤ 3116) → (0 ≤ x1 ∧ x1 ≤ 1) → 3116 - x2 ≤ (n : Int) → ((∀ b : Int, (b < x0 ∨ x0 + 1 < b) → (lp_296_42 x0 x1 n x2 d) b = d b) → Safe (lp_296_42 x0 x1 n x2 d) → K (.inl none) (lp_296_42 x0 x1 n x2 d)) → tRun E 296 (42, [.inr (11, x0), .inl (0, x1), .inl (0, x2)], [], 0, 0, d) K := by
  intro n
  induction n with
  | zero =>
    intro x2  d hS i0 i1 hm  h
    exact ls_296_42 hx0 p1 0 _ (fun _  _ _ _ _ m0 m1 _ => absurd m1 (by omega)) x2  d hS i0 i1 hm  h
  | succ n ih =>
    intro x2  d hS i0 i1 hm  h
    exact ls_296_42 hx0 p1 ((n + 1 : Nat) : Int) _ (fun x2  d hS i0 i1  m0 m1 h => ih x2  d hS i0 i1 (by omega)  h) x2  d hS i0 i1 hm  h
def g_296 (x0 x1 : Int) (d : mD) : mD := if v_176 x1 0 1 d = 0 then mset d x0 0 1 else if d (x0 + 6) x1 = 0 then mset d x0 0 2 else lp_296_42 x0 x1 (3116 - 0 : Int).toNat 0 (mset d x0 0 0)
theorem k_296 {E : mO × tW} {K : tK} {d : mD} {x0 x1 : Int} (hS : Safe d) (hx0 : mdB x0) (p1 : -2147483648 ≤ x1 ∧ x1 ≤ 2147483647) (h : (∀ b : Int, (b < x0 ∨ x0 + 1 < b) → (g_296 x0 x1 d) b = d b) → Safe (g_296 x0 x1 d) → K (.inl none) (g_296 x0 x1 d)) : tCall E 296 [.inr (11, x0), .inl (0, x1)] d K := by
  refine t_296_0 ?_
  have w0 := mh_0 hS hx0 _ rfl
  have w7 := mh_7 hS hx0 _ rfl
  have w8 := mh_8 hS hx0 _ rfl
  have w9 := mh_9 hS hx0 _ rfl
  have w10 := mh_10 hS hx0 _ rfl
  have w11 := mh_11 hS hx0 _ rfl
  refine ⟨m_inR (by omega) (by omega), ?_⟩
  refine k_176 hS (m_inR (by omega) (by omega)) (m_inR (by omega) (by omega)) (m_inR (by omega) (by omega)) (fun e1 => ?_)
  refine t_296_8 ?_
  refine ⟨m_inR (by omega) (by omega), fun c0 => ?_, fun c0 => ?_⟩
  · have q1 := r_11_6 hS hx0 x1
    refine ⟨by omega, m_inR (by omega) (by omega), fun c1 => ?_, fun c1 => ?_⟩
    · have hS3 : Safe (mset d x0 0 2) := s_11_f0 hS hx0 (by omega)
      rw [mset_eq (d := d) (a := x0) (i := (0 : Int)) (v := (2 : Int))]
      refine ⟨m_inR (by omega) (by omega), fun c2 => ?_, fun c2 => ?_⟩
      · exact (show False by omega).elim
      · have y0 : g_296 x0 x1 d = mset d x0 0 2 := by simp only [g_296, if_neg (show ¬ v_176 x1 0 1 d = 0 from c0), if_pos (show d (x0 + 6) x1 = 0 from c1), if_pos (show (0 : Int) < 2 from c2)]
        rw [y0] at h
        exact h (show ∀ b : Int, (b < x0 ∨ x0 + 1 < b) → (mset d x0 0 2) b = d b from fun b hb => mset_ne (by omega)) hS3
    · have hS4 : Safe (mset d x0 0 0) := s_11_f0 hS hx0 (by omega)
      rw [mset_eq (d := d) (a := x0) (i := (0 : Int)) (v := (0 : Int))]
      refine ⟨m_inR (by omega) (by omega), fun c2 => ?_, fun c2 => ?_⟩
      · refine l_296_42 hx0 p1 (3116 - 0 : Int).toNat 0  (mset d x0 0 0) hS4 (by omega) (by omega) (by omega) ?_
        intro F hS_
        have y0 : g_296 x0 x1 d = lp_296_42 x0 x1 (3116 - 0 : Int).toNat 0 (mset d x0 0 0) := by simp only [g_296, if_neg (show ¬ v_176 x1 0 1 d = 0 from c0), if_neg (show ¬ d (x0 + 6) x1 = 0 from c1), if_neg (show ¬ (0 : Int) < 0 from Int.not_lt.mpr c2)]
        rw [y0] at h
        exact h (fun b hb => (F b hb).trans ((show ∀ b : Int, (b < x0 ∨ x0 + 1 < b) → (mset d x0 0 0) b = d b from fun b hb => mset_ne (by omega)) b hb)) hS_
      · exact (show False by omega).elim
  · have hS5 : Safe (mset d x0 0 1) := s_11_f0 hS hx0 (by omega)
    rw [mset_eq (d := d) (a := x0) (i := (0 : Int)) (v := (1 : Int))]
    refine ⟨m_inR (by omega) (by omega), fun c1 => ?_, fun c1 => ?_⟩
    · exact (show False by omega).elim
    · have y0 : g_296 x0 x1 d = mset d x0 0 1 := by simp only [g_296, if_pos (show v_176 x1 0 1 d = 0 from c0), if_pos (show (0 : Int) < 1 from c1)]
      rw [y0] at h
      exact h (show ∀ b : Int, (b < x0 ∨ x0 + 1 < b) → (mset d x0 0 1) b = d b from fun b hb => mset_ne (by omega)) hS5
