/-! ===== contracts of the reference's methods: printed by a program of mine ===== -/
def g_188 (x0 x1 x2 : Int) (d : mD) : mD := if d x0 13 = 0 then mset (mset (mset d x0 13 1) x0 11 x1) x0 12 x2 else d
theorem k_188 {E : mO × tW} {K : tK} {d : mD} {x0 x1 x2 : Int} (hS : Safe d) (hx0 : mdB x0) (p1 : 0 ≤ x1 ∧ x1 ≤ 6) (p2 : 0 ≤ x2 ∧ x2 ≤ 1000) (h : (∀ b : Int, (b < x0 ∨ x0 < b) → (g_188 x0 x1 x2 d) b = d b) → (g_188 x0 x1 x2 d) x0 9 = d x0 9 → ((g_188 x0 x1 x2 d) x0 13 = 1) → (d x0 10 ≤ (g_188 x0 x1 x2 d) x0 10) → (d x0 13 = 0 ∨ ¬ (g_188 x0 x1 x2 d) x0 13 = 0) → Safe (g_188 x0 x1 x2 d) → K (.inl none) (g_188 x0 x1 x2 d)) : tCall E 188 [.inr (11, x0), .inl (0, x1), .inl (0, x2)] d K := by
  refine t_188_0 ?_
  have q1 := r_11_f13 hS hx0
  refine ⟨m_inR (by omega) (by omega), fun c0 => ?_, fun c0 => ?_⟩
  · have y0 : g_188 x0 x1 x2 d = d := by simp only [g_188, if_neg (show ¬ d x0 13 = 0 from c0)]
    rw [y0] at h
    exact h (show ∀ b : Int, (b < x0 ∨ x0 < b) → d b = d b from fun _ _ => rfl) (show d x0 9 = d x0 9 from rfl) (show d x0 13 = 1 by omega) (show d x0 10 ≤ d x0 10 by omega) (show d x0 13 = 0 ∨ ¬ d x0 13 = 0 by omega) hS
  · refine ⟨by omega, ?_⟩
    have hS1 : Safe (mset d x0 13 1) := s_11_f13 hS hx0 (by omega)
    have hS2 : Safe (mset (mset d x0 13 1) x0 11 x1) := s_11_f11 hS1 hx0 (by omega)
    have hS3 : Safe (mset (mset (mset d x0 13 1) x0 11 x1) x0 12 x2) := s_11_f12 hS2 hx0 (by omega)
    have q2 : (mset (mset (mset d x0 13 1) x0 11 x1) x0 12 x2) x0 13 = 1 := ((mset_ni (by omega)).trans (mset_ni (by omega))).trans (mset_eq)
    have q3 : (mset (mset (mset d x0 13 1) x0 11 x1) x0 12 x2) x0 10 = d x0 10 := ((mset_ni (by omega)).trans (mset_ni (by omega))).trans (mset_ni (by omega))
    have y0 : g_188 x0 x1 x2 d = mset (mset (mset d x0 13 1) x0 11 x1) x0 12 x2 := by simp only [g_188, if_pos (show d x0 13 = 0 from c0)]
    rw [y0] at h
    exact h (show ∀ b : Int, (b < x0 ∨ x0 < b) → (mset (mset (mset d x0 13 1) x0 11 x1) x0 12 x2) b = d b from fun b hb => (mset_ne (by omega)).trans ((mset_ne (by omega)).trans (mset_ne (by omega)))) (show (mset (mset (mset d x0 13 1) x0 11 x1) x0 12 x2) x0 9 = d x0 9 from ((mset_ni (by omega)).trans (mset_ni (by omega))).trans (mset_ni (by omega))) (show (mset (mset (mset d x0 13 1) x0 11 x1) x0 12 x2) x0 13 = 1 by omega) (show d x0 10 ≤ (mset (mset (mset d x0 13 1) x0 11 x1) x0 12 x2) x0 10 by omega) (show d x0 13 = 0 ∨ ¬ (mset (mset (mset d x0 13 1) x0 11 x1) x0 12 x2) x0 13 = 0 by omega) hS3
def st_189_0 (x0 : Int) (r0 : mD → mD) (d : mD) : mD := if d x0 10 < d x0 9 then (if d (x0 + 7) (d x0 10) = 10 then r0 (mset d x0 10 ((d x0 10) + 1)) else if d (x0 + 7) (d x0 10) = 32 then r0 (mset d x0 10 ((d x0 10) + 1)) else d) else d
def lp_189_0 (x0 : Int) : Nat → mD → mD
  | 0 => st_189_0 x0 (fun d => d)
  | n + 1 => st_189_0 x0 (lp_189_0 x0 n)
theorem ls_189_0 {E : mO × tW} {K : tK} {x0 : Int} (hx0 : mdB x0) (N0 : Int) (r0 : mD → mD) (ih0 : ∀ (d : mD), Safe d → 0 ≤ 1000 - d x0 10 → 1000 - d x0 10 < N0 → ((∀ b : Int, (b < x0 ∨ x0 < b) → (r0  d) b = d b) → (r0  d) x0 9 = d x0 9 → (d x0 10 ≤ (r0  d) x0 10) → (d x0 13 = 0 ∨ ¬ (r0  d) x0 13 = 0) → Safe (r0  d) → K (.inl none) (r0  d)) → tRun E 189 (0, [.inr (11, x0)], [], 0, 0, d) K) (d : mD) (hS : Safe d) (hm : 1000 - d x0 10 ≤ N0) (h : (∀ b : Int, (b < x0 ∨ x0 < b) → (st_189_0 x0 r0 d) b = d b) → (st_189_0 x0 r0 d) x0 9 = d x0 9 → (d x0 10 ≤ (st_189_0 x0 r0 d) x0 10) → (d x0 13 = 0 ∨ ¬ (st_189_0 x0 r0 d) x0 13 = 0) → Safe (st_189_0 x0 r0 d) → K (.inl none) (st_189_0 x0 r0 d)) : tRun E 189 (0, [.inr (11, x0)], [], 0, 0, d) K := by
  refine t_189_0 ?_
  have w8 := r_11_f9 hS hx0
  have w9 := r_11_f10 hS hx0
  have q1 := r_11_f10 hS hx0
  have q2 := r_11_f9 hS hx0
  refine ⟨⟨m_inR (by omega) (by omega), m_inR (by omega) (by omega)⟩, fun c0 => ?_, fun c0 => ?_⟩
  · have y0 : st_189_0 x0 r0 d = d := by simp only [st_189_0, if_neg (show ¬ d x0 10 < d x0 9 from Int.not_lt.mpr c0)]
    rw [y0] at h
    exact h (show ∀ b : Int, (b < x0 ∨ x0 < b) → d b = d b from fun _ _ => rfl) (show d x0 9 = d x0 9 from rfl) (show d x0 10 ≤ d x0 10 by omega) (show d x0 13 = 0 ∨ ¬ d x0 13 = 0 by omega) hS
  · have q3 := r_11_7 hS hx0 (d x0 10)
    refine ⟨by omega, ⟨m_inR (by omega) (by omega), m_inR (by omega) (by omega)⟩, fun c1 => ?_, fun c1 => ?_⟩
    · have hS1 : Safe (mset d x0 10 ((d x0 10) + 1)) := s_11_f10 hS hx0 (by omega)
      have q4 := r_11_f10 hS1 hx0
      have q5 : (mset d x0 10 ((d x0 10) + 1)) x0 10 = (d x0 10) + 1 := mset_eq
      refine ih0   (mset d x0 10 ((d x0 10) + 1)) hS1 (by omega) (by omega) ?_
      intro F k0 n0 n1 hS_
      have q6 : (mset d x0 10 ((d x0 10) + 1)) x0 13 = d x0 13 := mset_ni (by omega)
      have y0 : st_189_0 x0 r0 d = r0 (mset d x0 10 ((d x0 10) + 1)) := by simp only [st_189_0, if_pos (show d x0 10 < d x0 9 from c0), if_pos (show d (x0 + 7) (d x0 10) = 10 from c1)]
      rw [y0] at h
      exact h (fun b hb => (F b hb).trans ((show ∀ b : Int, (b < x0 ∨ x0 < b) → (mset d x0 10 ((d x0 10) + 1)) b = d b from fun b hb => mset_ne (by omega)) b hb)) (k0.trans (mset_ni (by omega))) (by omega) (by omega) hS_
    · refine ⟨by omega, ⟨m_inR (by omega) (by omega), m_inR (by omega) (by omega)⟩, fun c2 => ?_, fun c2 => ?_⟩
      · have y0 : st_189_0 x0 r0 d = d := by simp only [st_189_0, if_pos (show d x0 10 < d x0 9 from c0), if_neg (show ¬ d (x0 + 7) (d x0 10) = 10 from c1), if_neg (show ¬ d (x0 + 7) (d x0 10) = 32 from c2)]
        rw [y0] at h
        exact h (show ∀ b : Int, (b < x0 ∨ x0 < b) → d b = d b from fun _ _ => rfl) (show d x0 9 = d x0 9 from rfl) (show d x0 10 ≤ d x0 10 by omega) (show d x0 13 = 0 ∨ ¬ d x0 13 = 0 by omega) hS
      · have hS2 : Safe (mset d x0 10 ((d x0 10) + 1)) := s_11_f10 hS hx0 (by omega)
        have q7 := r_11_f10 hS2 hx0
        have q8 : (mset d x0 10 ((d x0 10) + 1)) x0 10 = (d x0 10) + 1 := mset_eq
        refine ih0   (mset d x0 10 ((d x0 10) + 1)) hS2 (by omega) (by omega) ?_
        intro F k0 n0 n1 hS_
        have q9 : (mset d x0 10 ((d x0 10) + 1)) x0 13 = d x0 13 := mset_ni (by omega)
        have y0 : st_189_0 x0 r0 d = r0 (mset d x0 10 ((d x0 10) + 1)) := by simp only [st_189_0, if_pos (show d x0 10 < d x0 9 from c0), if_neg (show ¬ d (x0 + 7) (d x0 10) = 10 from c1), if_pos (show d (x0 + 7) (d x0 10) = 32 from c2)]
        rw [y0] at h
        exact h (fun b hb => (F b hb).trans ((show ∀ b : Int, (b < x0 ∨ x0 < b) → (mset d x0 10 ((d x0 10) + 1)) b = d b from fun b hb => mset_ne (by omega)) b hb)) (k0.trans (mset_ni (by omega))) (by omega) (by omega) hS_
theorem l_189_0 {E : mO × tW} {K : tK} {x0 : Int} (hx0 : mdB x0) : ∀ (n : Nat) (d : mD), Safe d → 1000 - d x0 10 ≤ (n : Int) → ((∀ b : Int, (b < x0 ∨ x0 < b) → (lp_189_0 x0 n d) b = d b) → (lp_189_0 x0 n d) x0 9 = d x0 9 → (d x0 10 ≤ (lp_189_0 x0 n d) x0 10) → (d x0 13 = 0 ∨ ¬ (lp_189_0 x0 n d) x0 13 = 0) → Safe (lp_189_0 x0 n d) → K (.inl none) (lp_189_0 x0 n d)) → tRun E 189 (0, [.inr (11, x0)], [], 0, 0, d) K := by
  intro n
  induction n with
  | zero =>
    intro   d hS  hm  h
    exact ls_189_0 hx0 0 _ (fun   _ _  m0 m1 _ => absurd m1 (by omega))   d hS  hm  h
  | succ n ih =>
    intro   d hS  hm  h
    exact ls_189_0 hx0 ((n + 1 : Nat) : Int) _ (fun   d hS   m0 m1 h => ih   d hS  (by omega)  h)   d hS  hm  h
def g_189 (x0 : Int) (d : mD) : mD := lp_189_0 x0 (1000 - d x0 10 : Int).toNat d
theorem k_189 {E : mO × tW} {K : tK} {d : mD} {x0 : Int} (hS : Safe d) (hx0 : mdB x0) (h : (∀ b : Int, (b < x0 ∨ x0 < b) → (g_189 x0 d) b = d b) → (g_189 x0 d) x0 9 = d x0 9 → (d x0 10 ≤ (g_189 x0 d) x0 10) → (d x0 13 = 0 ∨ ¬ (g_189 x0 d) x0 13 = 0) → Safe (g_189 x0 d) → K (.inl none) (g_189 x0 d)) : tCall E 189 [.inr (11, x0)] d K := by
  have q10 := r_11_f10 hS hx0
  refine l_189_0 hx0 (1000 - d x0 10 : Int).toNat   d hS (by omega) ?_
  intro F k0 n0 n1 hS_
  have y0 : g_189 x0 d = lp_189_0 x0 (1000 - d x0 10 : Int).toNat d := by simp only [g_189]
  rw [y0] at h
  exact h F k0 (by omega) (by omega) hS_
def v_192 (x0 x1 : Int) (d : mD) : Int := if (g_189 x0 d) x0 10 < d x0 9 then (if d (x0 + 7) ((g_189 x0 d) x0 10) = x1 then 1 else 0) else 0
def g_192 (x0 x1 : Int) (d : mD) : mD := g_189 x0 d
theorem k_192 {E : mO × tW} {K : tK} {d : mD} {x0 x1 : Int} (hS : Safe d) (hx0 : mdB x0) (p1 : -2147483648 ≤ x1 ∧ x1 ≤ 2147483647) (h : (0 ≤ (v_192 x0 x1 d) ∧ (v_192 x0 x1 d) ≤ 1) → (∀ b : Int, (b < x0 ∨ x0 < b) → (g_192 x0 x1 d) b = d b) → (g_192 x0 x1 d) x0 9 = d x0 9 → (d x0 10 ≤ (g_192 x0 x1 d) x0 10) → (d x0 13 = 0 ∨ ¬ (g_192 x0 x1 d) x0 13 = 0) → ((v_192 x0 x1 d) = 0 ∨ (g_192 x0 x1 d) x0 10 < (g_192 x0 x1 d) x0 9) → Safe (g_192 x0 x1 d) → K (.inl (some (0, (v_192 x0 x1 d)))) (g_192 x0 x1 d)) : tCall E 192 [.inr (11, x0), .inl (0, x1)] d K := by
  refine t_192_0 ?_
  have w8 := r_11_f9 hS hx0
  have w9 := r_11_f10 hS hx0
  refine k_189 hS hx0 (fun F1 k1_0 n1_0 n1_1 hS1 => ?_)
  refine t_192_4 ?_
  have w8 := r_11_f9 hS1 hx0
  have w9 := r_11_f10 hS1 hx0
  rw [k1_0]
  have q1 := r_11_f10 hS1 hx0
  have q2 := r_11_f9 hS hx0
  refine ⟨⟨m_inR (by omega) (by omega), m_inR (by omega) (by omega)⟩, fun c0 => ?_, fun c0 => ?_⟩
  · refine ⟨by omega, ?_⟩
    have q3 : (g_189 x0 d) x0 9 = d x0 9 := k1_0
    have y0 : v_192 x0 x1 d = 0 := by simp only [v_192, if_neg (show ¬ (g_189 x0 d) x0 10 < d x0 9 from Int.not_lt.mpr c0)]
    have y1 : g_192 x0 x1 d = g_189 x0 d := by simp only [g_192, if_neg (show ¬ (g_189 x0 d) x0 10 < d x0 9 from Int.not_lt.mpr c0)]
    rw [y0] at h
    rw [y1] at h
    exact h (show 0 ≤ ((0 : Int)) ∧ ((0 : Int)) ≤ 1 from (by omega)) (show ∀ b : Int, (b < x0 ∨ x0 < b) → (g_189 x0 d) b = d b from fun b hb => F1 b (by omega)) (show (g_189 x0 d) x0 9 = d x0 9 from k1_0) (show d x0 10 ≤ (g_189 x0 d) x0 10 by omega) (show d x0 13 = 0 ∨ ¬ (g_189 x0 d) x0 13 = 0 by omega) (show ((0 : Int)) = 0 ∨ (g_189 x0 d) x0 10 < (g_189 x0 d) x0 9 by omega) hS1
  · rw [F1 (x0 + 7) (by omega)]
    have q4 := r_11_7 hS hx0 ((g_189 x0 d) x0 10)
    refine ⟨by omega, ⟨m_inR (by omega) (by omega), m_inR (by omega) (by omega)⟩, fun c1 => ?_, fun c1 => ?_⟩
    · refine ⟨by omega, ?_⟩
      have q5 : (g_189 x0 d) x0 9 = d x0 9 := k1_0
      have y0 : v_192 x0 x1 d = 0 := by simp only [v_192, if_pos (show (g_189 x0 d) x0 10 < d x0 9 from c0), if_neg (show ¬ d (x0 + 7) ((g_189 x0 d) x0 10) = x1 from c1)]
      have y1 : g_192 x0 x1 d = g_189 x0 d := by simp only [g_192, if_pos (show (g_189 x0 d) x0 10 < d x0 9 from c0), if_neg (show ¬ d (x0 + 7) ((g_189 x0 d) x0 10) = x1 from c1)]
      rw [y0] at h
      rw [y1] at h
      exact h (show 0 ≤ ((0 : Int)) ∧ ((0 : Int)) ≤ 1 from (by omega)) (show ∀ b : Int, (b < x0 ∨ x0 < b) → (g_189 x0 d) b = d b from fun b hb => F1 b (by omega)) (show (g_189 x0 d) x0 9 = d x0 9 from k1_0) (show d x0 10 ≤ (g_189 x0 d) x0 10 by omega) (show d x0 13 = 0 ∨ ¬ (g_189 x0 d) x0 13 = 0 by omega) (show ((0 : Int)) = 0 ∨ (g_189 x0 d) x0 10 < (g_189 x0 d) x0 9 by omega) hS1
    · refine ⟨by omega, ?_⟩
      have q6 : (g_189 x0 d) x0 9 = d x0 9 := k1_0
      have y0 : v_192 x0 x1 d = 1 := by simp only [v_192, if_pos (show (g_189 x0 d) x0 10 < d x0 9 from c0), if_pos (show d (x0 + 7) ((g_189 x0 d) x0 10) = x1 from c1)]
      have y1 : g_192 x0 x1 d = g_189 x0 d := by simp only [g_192, if_pos (show (g_189 x0 d) x0 10 < d x0 9 from c0), if_pos (show d (x0 + 7) ((g_189 x0 d) x0 10) = x1 from c1)]
      rw [y0] at h
      rw [y1] at h
      exact h (show 0 ≤ ((1 : Int)) ∧ ((1 : Int)) ≤ 1 from (by omega)) (show ∀ b : Int, (b < x0 ∨ x0 < b) → (g_189 x0 d) b = d b from fun b hb => F1 b (by omega)) (show (g_189 x0 d) x0 9 = d x0 9 from k1_0) (show d x0 10 ≤ (g_189 x0 d) x0 10 by omega) (show d x0 13 = 0 ∨ ¬ (g_189 x0 d) x0 13 = 0 by omega) (show ((1 : Int)) = 0 ∨ (g_189 x0 d) x0 10 < (g_189 x0 d) x0 9 by omega) hS1
def tb27 (k : Int) : Int := 27 ^ k.toNat - 1
theorem tb27_s (k : Int) : (0 ≤ k ∧ tb27 (k + 1) = 27 * tb27 k + 26) ∨ k < 0 := by
  by_cases h : 0 ≤ k
  · left
    refine ⟨h, ?_⟩
    unfold tb27
    rw [show (k + 1).toNat = k.toNat + 1 by omega, Int.pow_succ]
    omega
  · right; omega
theorem tb27_b (k : Int) : (k = 0 ∧ tb27 k = 0) ∨ (1 ≤ k ∧ k ≤ 6 ∧ 0 ≤ tb27 k ∧ tb27 k ≤ 387420488) ∨ (7 ≤ k ∧ k ≤ 8 ∧ 0 ≤ tb27 k ∧ tb27 k ≤ 282429536480) ∨ 8 < k ∨ k < 0 := by
  by_cases h : 0 ≤ k ∧ k ≤ 8
  · have h : k = 0 ∨ k = 1 ∨ k = 2 ∨ k = 3 ∨ k = 4 ∨ k = 5 ∨ k = 6 ∨ k = 7 ∨ k = 8 := by omega
    rcases h with h | h | h | h | h | h | h | h | h <;> subst h <;> decide
  · omega
def st_193_17 (x0 x1 : Int) (r17 : Int → Int → mD → Int × mD) (x2 x4 : Int) (d : mD) : Int × mD := if v_190 x0 (d x0 10) d = 0 then (x2, d) else if x4 < x1 then r17 ((((27 * x2) + (d (x0 + 7) (d x0 10))) - 97) + 1) (x4 + 1) (mset d x0 10 ((d x0 10) + 1)) else r17 ((-1)) (x4 + 1) (mset d x0 10 ((d x0 10) + 1))
def lp_193_17 (x0 x1 : Int) : Nat → Int → Int → mD → Int × mD
  | 0 => st_193_17 x0 x1 (fun _ _ d => (0, d))
  | n + 1 => st_193_17 x0 x1 (lp_193_17 x0 x1 n)
theorem ls_193_17 {E : mO × tW} {K : tK} {x0 x1 : Int} (hx0 : mdB x0) (p1 : 6 ≤ x1 ∧ x1 ≤ 8) (h68 : x1 = 6 ∨ x1 = 8) (N17 : Int) (r17 : Int → Int → mD → Int × mD) (ih17 : ∀ (x2 x4 : Int) (d : mD), Safe d → ((x4 ≤ x1 ∧ 0 ≤ x2 ∧ x2 ≤ tb27 x4) ∨ (x1 < x4 ∧ x2 = -1)) → (0 ≤ x4 ∧ x4 ≤ d x0 10) → 0 ≤ 1000 - d x0 10 → 1000 - d x0 10 < N17 → (((-1 ≤ (r17 x2 x4 d).1 ∧ (r17 x2 x4 d).1 ≤ 282429536480) ∧ (¬ x1 = 6 ∨ (r17 x2 x4 d).1 ≤ 387420488)) → (∀ b : Int, (b < x0 ∨ x0 < b) → (r17 x2 x4 d).2 b = d b) → (r17 x2 x4 d).2 x0 9 = d x0 9 → (d x0 10 ≤ (r17 x2 x4 d).2 x0 10) → (d x0 13 = 0 ∨ ¬ (r17 x2 x4 d).2 x0 13 = 0) → (¬ x4 = 0 ∨ ¬ 1 ≤ (r17 x2 x4 d).1 ∨ d x0 10 < (r17 x2 x4 d).2 x0 10) → Safe (r17 x2 x4 d).2 → K (.inl (some (1, (r17 x2 x4 d).1))) (r17 x2 x4 d).2) → tRun E 193 (17, [.inr (11, x0), .inl (0, x1), .inl (1, x2), tu, .inl (0, x4)], [], 0, 0, d) K) (x2 x4 : Int) (d : mD) (hS : Safe d) (i0 : (x4 ≤ x1 ∧ 0 ≤ x2 ∧ x2 ≤ tb27 x4) ∨ (x1 < x4 ∧ x2 = -1)) (i1 : 0 ≤ x4 ∧ x4 ≤ d x0 10) (hm : 1000 - d x0 10 ≤ N17) (h : ((-1 ≤ (st_193_17 x0 x1 r17 x2 x4 d).1 ∧ (st_193_17 x0 x1 r17 x2 x4 d).1 ≤ 282429536480) ∧ (¬ x1 = 6 ∨ (st_193_17 x0 x1 r17 x2 x4 d).1 ≤ 387420488)) → (∀ b : Int, (b < x0 ∨ x0 < b) → (st_193_17 x0 x1 r17 x2 x4 d).2 b = d b) → (st_193_17 x0 x1 r17 x2 x4 d).2 x0 9 = d x0 9 → (d x0 10 ≤ (st_193_17 x0 x1 r17 x2 x4 d).2 x0 10) → (d x0 13 = 0 ∨ ¬ (st_193_17 x0 x1 r17 x2 x4 d).2 x0 13 = 0) → (¬ x4 = 0 ∨ ¬ 1 ≤ (st_193_17 x0 x1 r17 x2 x4 d).1 ∨ d x0 10 < (st_193_17 x0 x1 r17 x2 x4 d).2 x0 10) → Safe (st_193_17 x0 x1 r17 x2 x4 d).2 → K (.inl (some (1, (st_193_17 x0 x1 r17 x2 x4 d).1))) (st_193_17 x0 x1 r17 x2 x4 d).2) : tRun E 193 (17, [.inr (11, x0), .inl (0, x1), .inl (1, x2), tu, .inl (0, x4)], [], 0, 0, d) K := by
  refine t_193_17 ?_
  have w1 := tb27_s x4
  have w2 := tb27_b x4
  have w8 := r_11_f9 hS hx0
  have w9 := r_11_f10 hS hx0
  have q1 := r_11_f10 hS hx0
  refine k_190 hS hx0 (by omega) (fun e1 => ?_)
  refine t_193_25 ?_
  have w8 := r_11_f9 hS hx0
  have w9 := r_11_f10 hS hx0
  refine ⟨m_inR (by omega) (by omega), fun c0 => ?_, fun c0 => ?_⟩
  · have y0 : st_193_17 x0 x1 r17 x2 x4 d = (x2, d) := by simp only [st_193_17, if_pos (show v_190 x0 (d x0 10) d = 0 from c0)]
    rw [y0] at h
    exact h (show (-1 ≤ x2 ∧ x2 ≤ 282429536480) ∧ (¬ x1 = 6 ∨ x2 ≤ 387420488) from (by omega)) (show ∀ b : Int, (b < x0 ∨ x0 < b) → d b = d b from fun _ _ => rfl) (show d x0 9 = d x0 9 from rfl) (show d x0 10 ≤ d x0 10 by omega) (show d x0 13 = 0 ∨ ¬ d x0 13 = 0 by omega) (show ¬ x4 = 0 ∨ ¬ 1 ≤ x2 ∨ d x0 10 < d x0 10 by omega) hS
  · refine ⟨⟨m_inR (by omega) (by omega), m_inR (by omega) (by omega)⟩, fun c1 => ?_, fun c1 => ?_⟩
    · have hS1 : Safe (mset d x0 10 ((d x0 10) + 1)) := s_11_f10 hS hx0 (by omega)
      have q2 := tb27_b 0
      have q3 : (mset d x0 10 ((d x0 10) + 1)) x0 10 = (d x0 10) + 1 := mset_eq
      refine ih17 ((-1)) (x4 + 1)  (mset d x0 10 ((d x0 10) + 1)) hS1 (by omega) (by omega) (by omega) (by omega) ?_
      intro e F k0 n0 n1 n2 hS_
      have q4 : (mset d x0 10 ((d x0 10) + 1)) x0 13 = d x0 13 := mset_ni (by omega)
      have y0 : st_193_17 x0 x1 r17 x2 x4 d = r17 ((-1)) (x4 + 1) (mset d x0 10 ((d x0 10) + 1)) := by simp only [st_193_17, if_neg (show ¬ v_190 x0 (d x0 10) d = 0 from c0), if_neg (show ¬ x4 < x1 from Int.not_lt.mpr c1)]
      rw [y0] at h
      exact h e (fun b hb => (F b hb).trans ((show ∀ b : Int, (b < x0 ∨ x0 < b) → (mset d x0 10 ((d x0 10) + 1)) b = d b from fun b hb => mset_ne (by omega)) b hb)) (k0.trans (mset_ni (by omega))) (by omega) (by omega) (by omega) hS_
    · have q5 := r_11_7 hS hx0 (d x0 10)
      refine ⟨by omega, m_inR (by omega) (by omega), ?_⟩
      have hS2 : Safe (mset d x0 10 ((d x0 10) + 1)) := s_11_f10 hS hx0 (by omega)
      have q6 := tb27_b 0
      have q7 : (mset d x0 10 ((d x0 10) + 1)) x0 10 = (d x0 10) + 1 := mset_eq
      refine ih17 ((((27 * x2) + (d (x0 + 7) (d x0 10))) - 97) + 1) (x4 + 1)  (mset d x0 10 ((d x0 10) + 1)) hS2 (by omega) (by omega) (by omega) (by omega) ?_
      intro e F k0 n0 n1 n2 hS_
      have q8 : (mset d x0 10 ((d x0 10) + 1)) x0 13 = d x0 13 := mset_ni (by omega)
      have y0 : st_193_17 x0 x1 r17 x2 x4 d = r17 ((((27 * x2) + (d (x0 + 7) (d x0 10))) - 97) + 1) (x4 + 1) (mset d x0 10 ((d x0 10) + 1)) := by simp only [st_193_17, if_neg (show ¬ v_190 x0 (d x0 10) d = 0 from c0), if_pos (show x4 < x1 from c1)]
      rw [y0] at h
      exact h e (fun b hb => (F b hb).trans ((show ∀ b : Int, (b < x0 ∨ x0 < b) → (mset d x0 10 ((d x0 10) + 1)) b = d b from fun b hb => mset_ne (by omega)) b hb)) (k0.trans (mset_ni (by omega))) (by omega) (by omega) (by omega) hS_
theorem l_193_17 {E : mO × tW} {K : tK} {x0 x1 : Int} (hx0 : mdB x0) (p1 : 6 ≤ x1 ∧ x1 ≤ 8) (h68 : x1 = 6 ∨ x1 = 8) : ∀ (n : Nat) (x2 x4 : Int) (d : mD), Safe d → ((x4 ≤ x1 ∧ 0 ≤ x2 ∧ x2 ≤ tb27 x4) ∨ (x1 < x4 ∧ x2 = -1)) → (0 ≤ x4 ∧ x4 ≤ d x0 10) → 1000 - d x0 10 ≤ (n : Int) → (((-1 ≤ (lp_193_17 x0 x1 n x2 x4 d).1 ∧ (lp_193_17 x0 x1 n x2 x4 d).1 ≤ 282429536480) ∧ (¬ x1 = 6 ∨ (lp_193_17 x0 x1 n x2 x4 d).1 ≤ 387420488)) → (∀ b : Int, (b < x0 ∨ x0 < b) → (lp_193_17 x0 x1 n x2 x4 d).2 b = d b) → (lp_193_17 x0 x1 n x2 x4 d).2 x0 9 = d x0 9 → (d x0 10 ≤ (lp_193_17 x0 x1 n x2 x4 d).2 x0 10) → (d x0 13 = 0 ∨ ¬ (lp_193_17 x0 x1 n x2 x4 d).2 x0 13 = 0) → (¬ x4 = 0 ∨ ¬ 1 ≤ (lp_193_17 x0 x1 n x2 x4 d).1 ∨ d x0 10 < (lp_193_17 x0 x1 n x2 x4 d).2 x0 10) → Safe (lp_193_17 x0 x1 n x2 x4 d).2 → K (.inl (some (1, (lp_193_17 x0 x1 n x2 x4 d).1))) (lp_193_17 x0 x1 n x2 x4 d).2) → tRun E 193 (17, [.inr (11, x0), .inl (0, x1), .inl (1, x2), tu, .inl (0, x4)], [], 0, 0, d) K := by
  intro n
  induction n with
  | zero =>
    intro x2 x4  d hS i0 i1 hm  h
    exact ls_193_17 hx0 p1 h68 0 _ (fun _ _  _ _ _ _ m0 m1 _ => absurd m1 (by omega)) x2 x4  d hS i0 i1 hm  h
  | succ n ih =>
    intro x2 x4  d hS i0 i1 hm  h
    exact ls_193_17 hx0 p1 h68 ((n + 1 : Nat) : Int) _ (fun x2 x4  d hS i0 i1  m0 m1 h => ih x2 x4  d hS i0 i1 (by omega)  h) x2 x4  d hS i0 i1 hm  h
def f_193 (x0 x1 : Int) (d : mD) : Int × mD := lp_193_17 x0 x1 (1000 - (mset (g_189 x0 d) x0 16 ((g_189 x0 d) x0 10)) x0 10 : Int).toNat 0 0 (mset (g_189 x0 d) x0 16 ((g_189 x0 d) x0 10))
def v_193 (x0 x1 : Int) (d : mD) : Int := (f_193 x0 x1 d).1
def g_193 (x0 x1 : Int) (d : mD) : mD := (f_193 x0 x1 d).2
theorem k_193 {E : mO × tW} {K : tK} {d : mD} {x0 x1 : Int} (hS : Safe d) (hx0 : mdB x0) (p1 : 6 ≤ x1 ∧ x1 ≤ 8) (h68 : x1 = 6 ∨ x1 = 8) (h : ((-1 ≤ (v_193 x0 x1 d) ∧ (v_193 x0 x1 d) ≤ 282429536480) ∧ (¬ x1 = 6 ∨ (v_193 x0 x1 d) ≤ 387420488)) → (∀ b : Int, (b < x0 ∨ x0 < b) → (g_193 x0 x1 d) b = d b) → (g_193 x0 x1 d) x0 9 = d x0 9 → (d x0 10 ≤ (g_193 x0 x1 d) x0 10) → (d x0 13 = 0 ∨ ¬ (g_193 x0 x1 d) x0 13 = 0) → (¬ 1 ≤ (v_193 x0 x1 d) ∨ d x0 10 < (g_193 x0 x1 d) x0 10) → Safe (g_193 x0 x1 d) → K (.inl (some (1, (v_193 x0 x1 d)))) (g_193 x0 x1 d)) : tCall E 193 [.inr (11, x0), .inl (0, x1)] d K := by
  simp only [v_193, g_193] at h
  refine t_193_0 ?_
  have w8 := r_11_f9 hS hx0
  have w9 := r_11_f10 hS hx0
  refine k_189 hS hx0 (fun F1 k1_0 n1_0 n1_1 hS3 => ?_)
  refine t_193_4 ?_
  have w8 := r_11_f9 hS3 hx0
  have w9 := r_11_f10 hS3 hx0
  have q9 := r_11_f10 hS3 hx0
  have hS4 : Safe (mset (g_189 x0 d) x0 16 ((g_189 x0 d) x0 10)) := s_11_f16 hS3 hx0 (by omega)
  have q10 := tb27_b 0
  have q11 : (mset (g_189 x0 d) x0 16 ((g_189 x0 d) x0 10)) x0 10 = (g_189 x0 d) x0 10 := mset_ni (by omega)
  refine l_193_17 hx0 p1 h68 (1000 - (mset (g_189 x0 d) x0 16 ((g_189 x0 d) x0 10)) x0 10 : Int).toNat 0 0  (mset (g_189 x0 d) x0 16 ((g_189 x0 d) x0 10)) hS4 (by omega) (by omega) (by omega) ?_
  intro e F k0 n0 n1 n2 hS_
  have q12 : (mset (g_189 x0 d) x0 16 ((g_189 x0 d) x0 10)) x0 13 = (g_189 x0 d) x0 13 := mset_ni (by omega)
  have y0 : f_193 x0 x1 d = lp_193_17 x0 x1 (1000 - (mset (g_189 x0 d) x0 16 ((g_189 x0 d) x0 10)) x0 10 : Int).toNat 0 0 (mset (g_189 x0 d) x0 16 ((g_189 x0 d) x0 10)) := by simp only [f_193]
  rw [y0] at h
  exact h e (fun b hb => (F b hb).trans ((show ∀ b : Int, (b < x0 ∨ x0 < b) → (mset (g_189 x0 d) x0 16 ((g_189 x0 d) x0 10)) b = d b from fun b hb => (mset_ne (by omega)).trans (F1 b (by omega))) b hb)) (k0.trans ((mset_ni (by omega)).trans (k1_0))) (by omega) (by omega) (by omega) hS_
