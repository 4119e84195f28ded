/-! ===== contracts of the reference's methods: printed by a program of mine ===== -/
def g_188 (x0 x1 x2 : Int) (d : mD) : mD := if d x0 13 = 0 then mset (mset (mset d x0 13 1) x0 11 x1) x0 12 x2 else d
theorem k_188 {E : mO × tW} {K : tK} {d : mD} {x0 x1 x2 : Int} (hS : Safe d) (hx0 : mdB x0) (p1 : 0 ≤ x1 ∧ x1 ≤ 6) (p2 : 0 ≤ x2 ∧ x2 ≤ 1000) (h : (∀ b : Int, (b < x0 ∨ x0 < b) → (g_188 x0 x1 x2 d) b = d b) → (g_188 x0 x1 x2 d) x0 9 = d x0 9 → ((g_188 x0 x1 x2 d) x0 13 = 1) → (d x0 10 ≤ (g_188 x0 x1 x2 d) x0 10) → (d x0 13 = 0 ∨ ¬ (g_188 x0 x1 x2 d) x0 13 = 0) → Safe (g_188 x0 x1 x2 d) → K (.inl none) (g_188 x0 x1 x2 d)) : tCall E 188 [.inr (11, x0), .inl (0, x1), .inl (0, x2)] d K := by
  refine t_188_0 ?_
  have q1 := r_11_f13 hS hx0
  refine ⟨m_inR (by omega) (by omega), fun c0 => ?_, fun c0 => ?_⟩
  · have y0 : g_188 x0 x1 x2 d = d := by simp only [g_188, if_neg (show ¬ d x0 13 = 0 from c0)]
    rw [y0] at h
    exact h (show ∀ b : Int, (b < x0 ∨ x0 < b) → d b = d b from fun _ _ => rfl) (show d x0 9 = d x0 9 from rfl) (show d x0 13 = 1 by omega) (show d x0 10 ≤ d x0 10 by omega) (show d x0 13 = 0 ∨ ¬ d x0 13 = 0 by omega) hS
  · refine ⟨by omega, ?_⟩
    have hS1 : Safe (mset d x0 13 1) := s_11_f13 hS hx0 (by omega)
    have hS2 : Safe (mset (mset d x0 13 1) x0 11 x1) := s_11_f11 hS1 hx0 (by omega)
    have hS3 : Safe (mset (mset (mset d x0 13 1) x0 11 x1) x0 12 x2) := s_11_f12 hS2 hx0 (by omega)
    have q2 : (mset (mset (mset d x0 13 1) x0 11 x1) x0 12 x2) x0 13 = 1 := ((mset_ni (by omega)).trans (mset_ni (by omega))).trans (mset_eq)
    have q3 : (mset (mset (mset d x0 13 1) x0 11 x1) x0 12 x2) x0 10 = d x0 10 := ((mset_ni (by omega)).trans (mset_ni (by omega))).trans (mset_ni (by omega))
    have y0 : g_188 x0 x1 x2 d = mset (mset (mset d x0 13 1) x0 11 x1) x0 12 x2 := by simp only [g_188, if_pos (show d x0 13 = 0 from c0)]
    rw [y0] at h
    exact h (show ∀ b : Int, (b < x0 ∨ x0 < b) → (mset (mset (mset d x0 13 1) x0 11 x1) x0 12 x2) b = d b from fun b hb => (mset_ne (by omega)).trans ((mset_ne (by omega)).trans (mset_ne (by omega)))) (show (mset (mset (mset d x0 13 1) x0 11 x1) x0 12 x2) x0 9 = d x0 9 from ((mset_ni (by omega)).trans (mset_ni (by omega))).trans (mset_ni (by omega))) (show (mset (mset (mset d x0 13 1) x0 11 x1) x0 12 x2) x0 13 = 1 by omega) (show d x0 10 ≤ (mset (mset (mset d x0 13 1) x0 11 x1) x0 12 x2) x0 10 by omega) (show d x0 13 = 0 ∨ ¬ (mset (mset (mset d x0 13 1) x0 11 x1) x0 12 x2) x0 13 = 0 by omega) hS3
def st_189_0 (x0 : Int) (r0 : mD → mD) (d : mD) : mD := if d x0 10 < d x0 9 then (if d (x0 + 7) (d x0 10) = 10 then r0 (mset d x0 10 ((d x0 10) + 1)) else if d (x0 + 7) (d x0 10) = 32 then r0 (mset d x0 10 ((d x0 10) + 1)) else d) else d
def lp_189_0 (x0 : Int) : Nat → mD → mD
  | 0 => st_189_0 x0 (fun d => d)
  | n + 1 => st_189_0 x0 (lp_189_0 x0 n)
theorem ls_189_0 {E : mO × tW} {K : tK} {x0 : Int} (hx0 : mdB x0) (N0 : Int) (r0 : mD → mD) (ih0 : ∀ (d : mD), Safe d → 0 ≤ 1000 - d x0 10 → 1000 - d x0 10 < N0 → ((∀ b : Int, (b < x0 ∨ x0 < b) → (r0  d) b = d b) → (r0  d) x0 9 = d x0 9 → (d x0 10 ≤ (r0  d) x0 10) → (d x0 13 = 0 ∨ ¬ (r0  d) x0 13 = 0) → Safe (r0  d) → K (.inl none) (r0  d)) → tRun E 189 (0, [.inr (11, x0)], [], 0, 0, d) K) (d : mD) (hS : Safe d) (hm : 1000 - d x0 10 ≤ N0) (h : (∀ b : Int, (b < x0 ∨ x0 < b) → (st_189_0 x0 r0 d) b = d b) → (st_189_0 x0 r0 d) x0 9 = d x0 9 → (d x0 10 ≤ (st_189_0 x0 r0 d) x0 10) → (d x0 13 = 0 ∨ ¬ (st_189_0 x0 r0 d) x0 13 = 0) → Safe (st_189_0 x0 r0 d) → K (.inl none) (st_189_0 x0 r0 d)) : tRun E 189 (0, [.inr (11, x0)], [], 0, 0, d) K := by
  refine t_189_0 ?_
  have w8 := r_11_f9 hS hx0
  have w9 := r_11_f10 hS hx0
  have q1 := r_11_f10 hS hx0
  have q2 := r_11_f9 hS hx0
  refine ⟨⟨m_inR (by omega) (by omega), m_inR (by omega) (by omega)⟩, fun c0 => ?_, fun c0 => ?_⟩
  · have y0 : st_189_0 x0 r0 d = d := by simp only [st_189_0, if_neg (show ¬ d x0 10 < d x0 9 from Int.not_lt.mpr c0)]
    rw [y0] at h
    exact h (show ∀ b : Int, (b < x0 ∨ x0 < b) → d b = d b from fun _ _ => rfl) (show d x0 9 = d x0 9 from rfl) (show d x0 10 ≤ d x0 10 by omega) (show d x0 13 = 0 ∨ ¬ d x0 13 = 0 by omega) hS
  · have q3 := r_11_7 hS hx0 (d x0 10)
    refine ⟨by omega, ⟨m_inR (by omega) (by omega), m_inR (by omega) (by omega)⟩, fun c1 => ?_, fun c1 => ?_⟩
    · have hS1 : Safe (mset d x0 10 ((d x0 10) + 1)) := s_11_f10 hS hx0 (by omega)
      have q4 := r_11_f10 hS1 hx0
      have q5 : (mset d x0 10 ((d x0 10) + 1)) x0 10 = (d x0 10) + 1 := mset_eq
      refine ih0   (mset d x0 10 ((d x0 10) + 1)) hS1 (by omega) (by omega) ?_
      intro F k0 n0 n1 hS_
      have q6 : (mset d x0 10 ((d x0 10) + 1)) x0 13 = d x0 13 := mset_ni (by omega)
      have y0 : st_189_0 x0 r0 d = r0 (mset d x0 10 ((d x0 10) + 1)) := by simp only [st_189_0, if_pos (show d x0 10 < d x0 9 from c0), if_pos (show d (x0 + 7) (d x0 10) = 10 from c1)]
      rw [y0] at h
      exact h (fun b hb => (F b hb).trans ((show ∀ b : Int, (b < x0 ∨ x0 < b) → (mset d x0 10 ((d x0 10) + 1)) b = d b from fun b hb => mset_ne (by omega)) b hb)) (k0.trans (mset_ni (by omega))) (by omega) (by omega) hS_
    · refine ⟨by omega, ⟨m_inR (by omega) (by omega), m_inR (by omega) (by omega)⟩, fun c2 => ?_, fun c2 => ?_⟩
      · have y0 : st_189_0 x0 r0 d = d := by simp only [st_189_0, if_pos (show d x0 10 < d x0 9 from c0), if_neg (show ¬ d (x0 + 7) (d x0 10) = 10 from c1), if_neg (show ¬ d (x0 + 7) (d x0 10) = 32 from c2)]
        rw [y0] at h
        exact h (show ∀ b : Int, (b < x0 ∨ x0 < b) → d b = d b from fun _ _ => rfl) (show d x0 9 = d x0 9 from rfl) (show d x0 10 ≤ d x0 10 by omega) (show d x0 13 = 0 ∨ ¬ d x0 13 = 0 by omega) hS
      · have hS2 : Safe (mset d x0 10 ((d x0 10) + 1)) := s_11_f10 hS hx0 (by omega)
        have q7 := r_11_f10 hS2 hx0
        have q8 : (mset d x0 10 ((d x0 10) + 1)) x0 10 = (d x0 10) + 1 := mset_eq
        refine ih0   (mset d x0 10 ((d x0 10) + 1)) hS2 (by omega) (by omega) ?_
        intro F k0 n0 n1 hS_
        have q9 : (mset d x0 10 ((d x0 10) + 1)) x0 13 = d x0 13 := mset_ni (by omega)
        have y0 : st_189_0 x0 r0 d = r0 (mset d x0 10 ((d x0 10) + 1)) := by simp only [st_189_0, if_pos (show d x0 10 < d x0 9 from c0), if_neg (show ¬ d (x0 + 7) (d x0 10) = 10 from c1), if_pos (show d (x0 + 7) (d x0 10) = 32 from c2)]
        rw [y0] at h
        exact h (fun b hb => (F b hb).trans ((show ∀ b : Int, (b < x0 ∨ x0 < b) → (mset d x0 10 ((d x0 10) + 1)) b = d b from fun b hb => mset_ne (by omega)) b hb)) (k0.trans (mset_ni (by omega))) (by omega) (by omega) hS_
theorem l_189_0 {E : mO × tW} {K : tK} {x0 : Int} (hx0 : mdB x0) : ∀ (n : Nat) (d : mD), Safe d → 1000 - d x0 10 ≤ (n : Int) → ((∀ b : Int, (b < x0 ∨ x0 < b) → (lp_189_0 x0 n d) b = d b) → (lp_189_0 x0 n d) x0 9 = d x0 9 → (d x0 10 ≤ (lp_189_0 x0 n d) x0 10) → (d x0 13 = 0 ∨ ¬ (lp_189_0 x0 n d) x0 13 = 0) → Safe (lp_189_0 x0 n d) → K (.inl none) (lp_189_0 x0 n d)) → tRun E 189 (0, [.inr (11, x0)], [], 0, 0, d) K := by
  intro n
  induction n with
  | zero =>
    intro   d hS  hm  h
    exact ls_189_0 hx0 0 _ (fun   _ _  m0 m1 _ => absurd m1 (by omega))   d hS  hm  h
  | succ n ih =>
    intro   d hS  hm  h
    exact ls_189_0 hx0 ((n + 1 : Nat) : Int) _ (fun   d hS   m0 m1 h => ih   d hS  (by omega)  h)   d hS  hm  h
def g_189 (x0 : Int) (d : mD) : mD := lp_189_0 x0 (1000 - d x0 10 : Int).toNat d
theorem k_189 {E : mO × tW} {K : tK} {d : mD} {x0 : Int} (hS : Safe d) (hx0 : mdB x0) (h : (∀ b : Int, (b < x0 ∨ x0 < b) → (g_189 x0 d) b = d b) → (g_189 x0 d) x0 9 = d x0 9 → (d x0 10 ≤ (g_189 x0 d) x0 10) → (d x0 13 = 0 ∨ ¬ (g_189 x0 d) x0 13 = 0) → Safe (g_189 x0 d) → K (.inl none) (g_189 x0 d)) : tCall E 189 [.inr (11, x0)] d K := by
  have q10 := r_11_f10 hS hx0
  refine l_189_0 hx0 (1000 - d x0 10 : Int).toNat   d hS (by omega) ?_
  intro F k0 n0 n1 hS_
  have y0 : g_189 x0 d = lp_189_0 x0 (1000 - d x0 10 : Int).toNat d := by simp only [g_189]
  rw [y0] at h
  exact h F k0 (by omega) (by omega) hS_
def v_192 (x0 x1 : Int) (d : mD) : Int := if (g_189 x0 d) x0 10 < d x0 9 then (if d (x0 + 7) ((g_189 x0 d) x0 10) = x1 then 1 else 0) else 0
def g_192 (x0 x1 : Int) (d : mD) : mD := g_189 x0 d
theorem k_192 {E : mO × tW} {K : tK} {d : mD} {x0 x1 : Int} (hS : Safe d) (hx0 : mdB x0) (p1 : -2147483648 ≤ x1 ∧ x1 ≤ 2147483647) (h : (0 ≤ (v_192 x0 x1 d) ∧ (v_192 x0 x1 d) ≤ 1) → (∀ b : Int, (b < x0 ∨ x0 < b) → (g_192 x0 x1 d) b = d b) → (g_192 x0 x1 d) x0 9 = d x0 9 → (d x0 10 ≤ (g_192 x0 x1 d) x0 10) → (d x0 13 = 0 ∨ ¬ (g_192 x0 x1 d) x0 13 = 0) → ((v_192 x0 x1 d) = 0 ∨ (g_192 x0 x1 d) x0 10 < (g_192 x0 x1 d) x0 9) → Safe (g_192 x0 x1 d) → K (.inl (some (0, (v_192 x0 x1 d)))) (g_192 x0 x1 d)) : tCall E 192 [.inr (11, x0), .inl (0, x1)] d K := by
  refine t_192_0 ?_
  have w8 := r_11_f9 hS hx0
  have w9 := r_11_f10 hS hx0
  refine k_189 hS hx0 (fun F1 k1_0 n1_0 n1_1 hS1 => ?_)
  refine t_192_4 ?_
  have w8 := r_11_f9 hS1 hx0
  have w9 := r_11_f10 hS1 hx0
  rw [k1_0]
  have q1 := r_11_f10 hS1 hx0
  have q2 := r_11_f9 hS hx0
  refine ⟨⟨m_inR (by omega) (by omega), m_inR (by omega) (by omega)⟩, fun c0 => ?_, fun c0 => ?_⟩
  · refine ⟨by omega, ?_⟩
    have q3 : (g_189 x0 d) x0 9 = d x0 9 := k1_0
    have y0 : v_192 x0 x1 d = 0 := by simp only [v_192, if_neg (show ¬ (g_189 x0 d) x0 10 < d x0 9 from Int.not_lt.mpr c0)]
    have y1 : g_192 x0 x1 d = g_189 x0 d := by simp only [g_192, if_neg (show ¬ (g_189 x0 d) x0 10 < d x0 9 from Int.not_lt.mpr c0)]
    rw [y0] at h
    rw [y1] at h
    exact h (show 0 ≤ ((0 : Int)) ∧ ((0 : Int)) ≤ 1 from (by omega)) (show ∀ b : Int, (b < x0 ∨ x0 < b) → (g_189 x0 d) b = d b from fun b hb => F1 b (by omega)) (show (g_189 x0 d) x0 9 = d x0 9 from k1_0) (show d x0 10 ≤ (g_189 x0 d) x0 10 by omega) (show d x0 13 = 0 ∨ ¬ (g_189 x0 d) x0 13 = 0 by omega) (show ((0 : Int)) = 0 ∨ (g_189 x0 d) x0 10 < (g_189 x0 d) x0 9 by omega) hS1
  · rw [F1 (x0 + 7) (by omega)]
    have q4 := r_11_7 hS hx0 ((g_189 x0 d) x0 10)
    refine ⟨by omega, ⟨m_inR (by omega) (by omega), m_inR (by omega) (by omega)⟩, fun c1 => ?_, fun c1 => ?_⟩
    · refine ⟨by omega, ?_⟩
      have q5 : (g_189 x0 d) x0 9 = d x0 9 := k1_0
      have y0 : v_192 x0 x1 d = 0 := by simp only [v_192, if_pos (show (g_189 x0 d) x0 10 < d x0 9 from c0), if_neg (show ¬ d (x0 + 7) ((g_189 x0 d) x0 10) = x1 from c1)]
      have y1 : g_192 x0 x1 d = g_189 x0 d := by simp only [g_192, if_pos (show (g_189 x0 d) x0 10 < d x0 9 from c0), if_neg (show ¬ d (x0 + 7) ((g_189 x0 d) x0 10) = x1 from c1)]
      rw [y0] at h
      rw [y1] at h
      exact h (show 0 ≤ ((0 : Int)) ∧ ((0 : Int)) ≤ 1 from (by omega)) (show ∀ b : Int, (b < x0 ∨ x0 < b) → (g_189 x0 d) b = d b from fun b hb => F1 b (by omega)) (show (g_189 x0 d) x0 9 = d x0 9 from k1_0) (show d x0 10 ≤ (g_189 x0 d) x0 10 by omega) (show d x0 13 = 0 ∨ ¬ (g_189 x0 d) x0 13 = 0 by omega) (show ((0 : Int)) = 0 ∨ (g_189 x0 d) x0 10 < (g_189 x0 d) x0 9 by omega) hS1
    · refine ⟨by omega, ?_⟩
      have q6 : (g_189 x0 d) x0 9 = d x0 9 := k1_0
      have y0 : v_192 x0 x1 d = 1 := by simp only [v_192, if_pos (show (g_189 x0 d) x0 10 < d x0 9 from c0), if_pos (show d (x0 + 7) ((g_189 x0 d) x0 10) = x1 from c1)]
      have y1 : g_192 x0 x1 d = g_189 x0 d := by simp only [g_192, if_pos (show (g_189 x0 d) x0 10 < d x0 9 from c0), if_pos (show d (x0 + 7) ((g_189 x0 d) x0 10) = x1 from c1)]
      rw [y0] at h
      rw [y1] at h
      exact h (show 0 ≤ ((1 : Int)) ∧ ((1 : Int)) ≤ 1 from (by omega)) (show ∀ b : Int, (b < x0 ∨ x0 < b) → (g_189 x0 d) b = d b from fun b hb => F1 b (by omega)) (show (g_189 x0 d) x0 9 = d x0 9 from k1_0) (show d x0 10 ≤ (g_189 x0 d) x0 10 by omega) (show d x0 13 = 0 ∨ ¬ (g_189 x0 d) x0 13 = 0 by omega) (show ((1 : Int)) = 0 ∨ (g_189 x0 d) x0 10 < (g_189 x0 d) x0 9 by omega) hS1
def tb27 (k : Int) : Int := 27 ^ k.toNat - 1
theorem tb27_s (k : Int) : (0 ≤ k ∧ tb27 (k + 1) = 27 * tb27 k + 26) ∨ k < 0 := by
  by_cases h : 0 ≤ k
  · left
    refine ⟨h, ?_⟩
    unfold tb27
    rw [show (k + 1).toNat = k.toNat + 1 by omega, Int.pow_succ]
    omega
  · right; omega
theorem tb27_b (k : Int) : (k = 0 ∧ tb27 k = 0) ∨ (1 ≤ k ∧ k ≤ 6 ∧ 0 ≤ tb27 k ∧ tb27 k ≤ 387420488) ∨ (7 ≤ k ∧ k ≤ 8 ∧ 0 ≤ tb27 k ∧ tb27 k ≤ 282429536480) ∨ 8 < k ∨ k < 0 := by
  by_cases h : 0 ≤ k ∧ k ≤ 8
  · have h : k = 0 ∨ k = 1 ∨ k = 2 ∨ k = 3 ∨ k = 4 ∨ k = 5 ∨ k = 6 ∨ k = 7 ∨ k = 8 := by omega
    rcases h with h | h | h | h | h | h | h | h | h <;> subst h <;> decide
  · omega
def st_193_17 (x0 x1 : Int) (r17 : Int → Int → mD → Int × mD) (x2 x4 : Int) (d : mD) : Int × mD := if v_190 x0 (d x0 10) d = 0 then (x2, d) else if x4 < x1 then r17 ((((27 * x2) + (d (x0 + 7) (d x0 10))) - 97) + 1) (x4 + 1) (mset d x0 10 ((d x0 10) + 1)) else r17 ((-1)) (x4 + 1) (mset d x0 10 ((d x0 10) + 1))
def lp_193_17 (x0 x1 : Int) : Nat → Int → Int → mD → Int × mD
  | 0 => st_193_17 x0 x1 (fun _ _ d => (0, d))
  | n + 1 => st_193_17 x0 x1 (lp_193_17 x0 x1 n)
theorem ls_193_17 {E : mO × tW} {K : tK} {x0 x1 : Int} (hx0 : mdB x0) (p1 : 6 ≤ x1 ∧ x1 ≤ 8) (h68 : x1 = 6 ∨ x1 = 8) (N17 : Int) (r17 : Int → Int → mD → Int × mD) (ih17 : ∀ (x2 x4 : Int) (d : mD), Safe d → ((x4 ≤ x1 ∧ 0 ≤ x2 ∧ x2 ≤ tb27 x4) ∨ (x1 < x4 ∧ x2 = -1)) → (0 ≤ x4 ∧ x4 ≤ d x0 10) → 0 ≤ 1000 - d x0 10 → 1000 - d x0 10 < N17 → (((-1 ≤ (r17 x2 x4 d).1 ∧ (r17 x2 x4 d).1 ≤ 282429536480) ∧ (¬ x1 = 6 ∨ (r17 x2 x4 d).1 ≤ 387420488)) → (∀ b : Int, (b < x0 ∨ x0 < b) → (r17 x2 x4 d).2 b = d b) → (r17 x2 x4 d).2 x0 9 = d x0 9 → (d x0 10 ≤ (r17 x2 x4 d).2 x0 10) → (d x0 13 = 0 ∨ ¬ (r17 x2 x4 d).2 x0 13 = 0) → (¬ x4 = 0 ∨ ¬ 1 ≤ (r17 x2 x4 d).1 ∨ d x0 10 < (r17 x2 x4 d).2 x0 10) → Safe (r17 x2 x4 d).2 → K (.inl (some (1, (r17 x2 x4 d).1))) (r17 x2 x4 d).2) → tRun E 193 (17, [.inr (11, x0), .inl (0, x1), .inl (1, x2), tu, .inl (0, x4)], [], 0, 0, d) K) (x2 x4 : Int) (d : mD) (hS : Safe d) (i0 : (x4 ≤ x1 ∧ 0 ≤ x2 ∧ x2 ≤ tb27 x4) ∨ (x1 < x4 ∧ x2 = -1)) (i1 : 0 ≤ x4 ∧ x4 ≤ d x0 10) (hm : 1000 - d x0 10 ≤ N17) (h : ((-1 ≤ (st_193_17 x0 x1 r17 x2 x4 d).1 ∧ (st_193_17 x0 x1 r17 x2 x4 d).1 ≤ 282429536480) ∧ (¬ x1 = 6 ∨ (st_193_17 x0 x1 r17 x2 x4 d).1 ≤ 387420488)) → (∀ b : Int, (b < x0 ∨ x0 < b) → (st_193_17 x0 x1 r17 x2 x4 d).2 b = d b) → (st_193_17 x0 x1 r17 x2 x4 d).2 x0 9 = d x0 9 → (d x0 10 ≤ (st_193_17 x0 x1 r17 x2 x4 d).2 x0 10) → (d x0 13 = 0 ∨ ¬ (st_193_17 x0 x1 r17 x2 x4 d).2 x0 13 = 0) → (¬ x4 = 0 ∨ ¬ 1 ≤ (st_193_17 x0 x1 r17 x2 x4 d).1 ∨ d x0 10 < (st_193_17 x0 x1 r17 x2 x4 d).2 x0 10) → Safe (st_193_17 x0 x1 r17 x2 x4 d).2 → K (.inl (some (1, (st_193_17 x0 x1 r17 x2 x4 d).1))) (st_193_17 x0 x1 r17 x2 x4 d).2) : tRun E 193 (17, [.inr (11, x0), .inl (0, x1), .inl (1, x2), tu, .inl (0, x4)], [], 0, 0, d) K := by
  refine t_193_17 ?_
  have w1 := tb27_s x4
  have w2 := tb27_b x4
  have w8 := r_11_f9 hS hx0
  have w9 := r_11_f10 hS hx0
  have q1 := r_11_f10 hS hx0
  refine k_190 hS hx0 (by omega) (fun e1 => ?_)
  refine t_193_25 ?_
  have w8 := r_11_f9 hS hx0
  have w9 := r_11_f10 hS hx0
  refine ⟨m_inR (by omega) (by omega), fun c0 => ?_, fun c0 => ?_⟩
  · have y0 : st_193_17 x0 x1 r17 x2 x4 d = (x2, d) := by simp only [st_193_17, if_pos (show v_190 x0 (d x0 10) d = 0 from c0)]
    rw [y0] at h
    exact h (show (-1 ≤ x2 ∧ x2 ≤ 282429536480) ∧ (¬ x1 = 6 ∨ x2 ≤ 387420488) from (by omega)) (show ∀ b : Int, (b < x0 ∨ x0 < b) → d b = d b from fun _ _ => rfl) (show d x0 9 = d x0 9 from rfl) (show d x0 10 ≤ d x0 10 by omega) (show d x0 13 = 0 ∨ ¬ d x0 13 = 0 by omega) (show ¬ x4 = 0 ∨ ¬ 1 ≤ x2 ∨ d x0 10 < d x0 10 by omega) hS
  · refine ⟨⟨m_inR (by omega) (by omega), m_inR (by omega) (by omega)⟩, fun c1 => ?_, fun c1 => ?_⟩
    · have hS1 : Safe (mset d x0 10 ((d x0 10) + 1)) := s_11_f10 hS hx0 (by omega)
      have q2 := tb27_b 0
      have q3 : (mset d x0 10 ((d x0 10) + 1)) x0 10 = (d x0 10) + 1 := mset_eq
      refine ih17 ((-1)) (x4 + 1)  (mset d x0 10 ((d x0 10) + 1)) hS1 (by omega) (by omega) (by omega) (by omega) ?_
      intro e F k0 n0 n1 n2 hS_
      have q4 : (mset d x0 10 ((d x0 10) + 1)) x0 13 = d x0 13 := mset_ni (by omega)
      have y0 : st_193_17 x0 x1 r17 x2 x4 d = r17 ((-1)) (x4 + 1) (mset d x0 10 ((d x0 10) + 1)) := by simp only [st_193_17, if_neg (show ¬ v_190 x0 (d x0 10) d = 0 from c0), if_neg (show ¬ x4 < x1 from Int.not_lt.mpr c1)]
      rw [y0] at h
      exact h e (fun b hb => (F b hb).trans ((show ∀ b : Int, (b < x0 ∨ x0 < b) → (mset d x0 10 ((d x0 10) + 1)) b = d b from fun b hb => mset_ne (by omega)) b hb)) (k0.trans (mset_ni (by omega))) (by omega) (by omega) (by omega) hS_
    · have q5 := r_11_7 hS hx0 (d x0 10)
      refine ⟨by omega, m_inR (by omega) (by omega), ?_⟩
      have hS2 : Safe (mset d x0 10 ((d x0 10) + 1)) := s_11_f10 hS hx0 (by omega)
      have q6 := tb27_b 0
      have q7 : (mset d x0 10 ((d x0 10) + 1)) x0 10 = (d x0 10) + 1 := mset_eq
      refine ih17 ((((27 * x2) + (d (x0 + 7) (d x0 10))) - 97) + 1) (x4 + 1)  (mset d x0 10 ((d x0 10) + 1)) hS2 (by omega) (by omega) (by omega) (by omega) ?_
      intro e F k0 n0 n1 n2 hS_
      have q8 : (mset d x0 10 ((d x0 10) + 1)) x0 13 = d x0 13 := mset_ni (by omega)
      have y0 : st_193_17 x0 x1 r17 x2 x4 d = r17 ((((27 * x2) + (d (x0 + 7) (d x0 10))) - 97) + 1) (x4 + 1) (mset d x0 10 ((d x0 10) + 1)) := by simp only [st_193_17, if_neg (show ¬ v_190 x0 (d x0 10) d = 0 from c0), if_pos (show x4 < x1 from c1)]
      rw [y0] at h
      exact h e (fun b hb => (F b hb).trans ((show ∀ b : Int, (b < x0 ∨ x0 < b) → (mset d x0 10 ((d x0 10) + 1)) b = d b from fun b hb => mset_ne (by omega)) b hb)) (k0.trans (mset_ni (by omega))) (by omega) (by omega) (by omega) hS_
theorem l_193_17 {E : mO × tW} {K : tK} {x0 x1 : Int} (hx0 : mdB x0) (p1 : 6 ≤ x1 ∧ x1 ≤ 8) (h68 : x1 = 6 ∨ x1 = 8) : ∀ (n : Nat) (x2 x4 : Int) (d : mD), Safe d → ((x4 ≤ x1 ∧ 0 ≤ x2 ∧ x2 ≤ tb27 x4) ∨ (x1 < x4 ∧ x2 = -1)) → (0 ≤ x4 ∧ x4 ≤ d x0 10) → 1000 - d x0 10 ≤ (n : Int) → (((-1 ≤ (lp_193_17 x0 x1 n x2 x4 d).1 ∧ (lp_193_17 x0 x1 n x2 x4 d).1 ≤ 282429536480) ∧ (¬ x1 = 6 ∨ (lp_193_17 x0 x1 n x2 x4 d).1 ≤ 387420488)) → (∀ b : Int, (b < x0 ∨ x0 < b) → (lp_193_17 x0 x1 n x2 x4 d).2 b = d b) → (lp_193_17 x0 x1 n x2 x4 d).2 x0 9 = d x0 9 → (d x0 10 ≤ (lp_193_17 x0 x1 n x2 x4 d).2 x0 10) → (d x0 13 = 0 ∨ ¬ (lp_193_17 x0 x1 n x2 x4 d).2 x0 13 = 0) → (¬ x4 = 0 ∨ ¬ 1 ≤ (lp_193_17 x0 x1 n x2 x4 d).1 ∨ d x0 10 < (lp_193_17 x0 x1 n x2 x4 d).2 x0 10) → Safe (lp_193_17 x0 x1 n x2 x4 d).2 → K (.inl (some (1, (lp_193_17 x0 x1 n x2 x4 d).1))) (lp_193_17 x0 x1 n x2 x4 d).2) → tRun E 193 (17, [.inr (11, x0), .inl (0, x1), .inl (1, x2), tu, .inl (0, x4)], [], 0, 0, d) K := by
  intro n
  induction n with
  | zero =>
    intro x2 x4  d hS i0 i1 hm  h
    exact ls_193_17 hx0 p1 h68 0 _ (fun _ _  _ _ _ _ m0 m1 _ => absurd m1 (by omega)) x2 x4  d hS i0 i1 hm  h
  | succ n ih =>
    intro x2 x4  d hS i0 i1 hm  h
    exact ls_193_17 hx0 p1 h68 ((n + 1 : Nat) : Int) _ (fun x2 x4  d hS i0 i1  m0 m1 h => ih x2 x4  d hS i0 i1 (by omega)  h) x2 x4  d hS i0 i1 hm  h
def f_193 (x0 x1 : Int) (d : mD) : Int × mD := lp_193_17 x0 x1 (1000 - (mset (g_189 x0 d) x0 16 ((g_189 x0 d) x0 10)) x0 10 : Int).toNat 0 0 (mset (g_189 x0 d) x0 16 ((g_189 x0 d) x0 10))
def v_193 (x0 x1 : Int) (d : mD) : Int := (f_193 x0 x1 d).1
def g_193 (x0 x1 : Int) (d : mD) : mD := (f_193 x0 x1 d).2
theorem k_193 {E : mO × tW} {K : tK} {d : mD} {x0 x1 : Int} (hS : Safe d) (hx0 : mdB x0) (p1 : 6 ≤ x1 ∧ x1 ≤ 8) (h68 : x1 = 6 ∨ x1 = 8) (h : ((-1 ≤ (v_193 x0 x1 d) ∧ (v_193 x0 x1 d) ≤ 282429536480) ∧ (¬ x1 = 6 ∨ (v_193 x0 x1 d) ≤ 387420488)) → (∀ b : Int, (b < x0 ∨ x0 < b) → (g_193 x0 x1 d) b = d b) → (g_193 x0 x1 d) x0 9 = d x0 9 → (d x0 10 ≤ (g_193 x0 x1 d) x0 10) → (d x0 13 = 0 ∨ ¬ (g_193 x0 x1 d) x0 13 = 0) → (¬ 1 ≤ (v_193 x0 x1 d) ∨ d x0 10 < (g_193 x0 x1 d) x0 10) → Safe (g_193 x0 x1 d) → K (.inl (some (1, (v_193 x0 x1 d)))) (g_193 x0 x1 d)) : tCall E 193 [.inr (11, x0), .inl (0, x1)] d K := by
  simp only [v_193, g_193] at h
  refine t_193_0 ?_
  have w8 := r_11_f9 hS hx0
  have w9 := r_11_f10 hS hx0
  refine k_189 hS hx0 (fun F1 k1_0 n1_0 n1_1 hS3 => ?_)
  refine t_193_4 ?_
  have w8 := r_11_f9 hS3 hx0
  have w9 := r_11_f10 hS3 hx0
  have q9 := r_11_f10 hS3 hx0
  have hS4 : Safe (mset (g_189 x0 d) x0 16 ((g_189 x0 d) x0 10)) := s_11_f16 hS3 hx0 (by omega)
  have q10 := tb27_b 0
  have q11 : (mset (g_189 x0 d) x0 16 ((g_189 x0 d) x0 10)) x0 10 = (g_189 x0 d) x0 10 := mset_ni (by omega)
  refine l_193_17 hx0 p1 h68 (1000 - (mset (g_189 x0 d) x0 16 ((g_189 x0 d) x0 10)) x0 10 : Int).toNat 0 0  (mset (g_189 x0 d) x0 16 ((g_189 x0 d) x0 10)) hS4 (by omega) (by omega) (by omega) ?_
  intro e F k0 n0 n1 n2 hS_
  have q12 : (mset (g_189 x0 d) x0 16 ((g_189 x0 d) x0 10)) x0 13 = (g_189 x0 d) x0 13 := mset_ni (by omega)
  have y0 : f_193 x0 x1 d = lp_193_17 x0 x1 (1000 - (mset (g_189 x0 d) x0 16 ((g_189 x0 d) x0 10)) x0 10 : Int).toNat 0 0 (mset (g_189 x0 d) x0 16 ((g_189 x0 d) x0 10)) := by simp only [f_193]
  rw [y0] at h
  exact h e (fun b hb => (F b hb).trans ((show ∀ b : Int, (b < x0 ∨ x0 < b) → (mset (g_189 x0 d) x0 16 ((g_189 x0 d) x0 10)) b = d b from fun b hb => (mset_ne (by omega)).trans (F1 b (by omega))) b hb)) (k0.trans ((mset_ni (by omega)).trans (k1_0))) (by omega) (by omega) (by omega) hS_
/-! ===== contracts of the reference's methods: printed by a program of mine ===== -/
def st_197_28 (x0 x1 x2 : Int) (r28 : Int → mD → Int × mD) (x3 : Int) (d : mD) : Int × mD := if v_191 x0 (d x0 10) d = 0 then (if x3 = 0 then (if (g_188 x0 1 (d x0 15) d) x0 13 = 0 then ((g_188 x0 1 (d x0 15) d) x0 14, g_188 x0 1 (d x0 15) d) else (0, g_188 x0 1 (d x0 15) d)) else if (5 : Int) < x3 then (if (g_188 x0 1 (d x0 15) d) x0 13 = 0 then ((g_188 x0 1 (d x0 15) d) x0 14, g_188 x0 1 (d x0 15) d) else (0, g_188 x0 1 (d x0 15) d)) else if v_176 (d x0 14) x1 x2 d = 0 then (if (g_188 x0 2 (d x0 15) d) x0 13 = 0 then ((g_188 x0 2 (d x0 15) d) x0 14, g_188 x0 2 (d x0 15) d) else (0, g_188 x0 2 (d x0 15) d)) else if d x0 13 = 0 then (d x0 14, d) else (0, d)) else if x3 < 5 then r28 (x3 + 1) (mset (mset d x0 14 (((10 * (d x0 14)) + (d (x0 + 7) (d x0 10))) - 48)) x0 10 ((d x0 10) + 1)) else r28 (x3 + 1) (mset (mset d x0 14 (d x0 14)) x0 10 ((d x0 10) + 1))
def lp_197_28 (x0 x1 x2 : Int) : Nat → Int → mD → Int × mD
  | 0 => st_197_28 x0 x1 x2 (fun _ d => (0, d))
  | n + 1 => st_197_28 x0 x1 x2 (lp_197_28 x0 x1 x2 n)
theorem ls_197_28 {E : mO × tW} {K : tK} {x0 x1 x2 : Int} (hx0 : mdB x0) (p1 : 0 ≤ x1 ∧ x1 ≤ 99999) (p2 : 0 ≤ x2 ∧ x2 ≤ 99999) (N28 : Int) (r28 : Int → mD → Int × mD) (ih28 : ∀ (x3 : Int) (d : mD), Safe d → (0 ≤ x3 ∧ x3 ≤ d x0 10) → (0 ≤ d x0 14 ∧ ((x3 = 0 ∧ d x0 14 ≤ 0) ∨ (x3 = 1 ∧ d x0 14 ≤ 9) ∨ (x3 = 2 ∧ d x0 14 ≤ 99) ∨ (x3 = 3 ∧ d x0 14 ≤ 999) ∨ (x3 = 4 ∧ d x0 14 ≤ 9999) ∨ (5 ≤ x3 ∧ d x0 14 ≤ 99999))) → 0 ≤ 1000 - d x0 10 → 1000 - d x0 10 < N28 → (((0 ≤ (r28 x3 d).1 ∧ (r28 x3 d).1 ≤ x2) ∧ ((r28 x3 d).1 = 0 ∨ x1 ≤ (r28 x3 d).1)) → (∀ b : Int, (b < x0 ∨ x0 < b) → (r28 x3 d).2 b = d b) → (r28 x3 d).2 x0 9 = d x0 9 → (d x0 10 ≤ (r28 x3 d).2 x0 10) → (d x0 13 = 0 ∨ ¬ (r28 x3 d).2 x0 13 = 0) → (¬ (r28 x3 d).2 x0 13 = 0 ∨ (x1 ≤ (r28 x3 d).1 ∧ (r28 x3 d).1 ≤ x2)) → Safe (r28 x3 d).2 → K (.inl (some (0, (r28 x3 d).1))) (r28 x3 d).2) → tRun E 197 (28, [.inr (11, x0), .inl (0, x1), .inl (0, x2), .inl (0, x3)], [], 0, 0, d) K) (x3 : Int) (d : mD) (hS : Safe d) (i0 : 0 ≤ x3 ∧ x3 ≤ d x0 10) (i1 : 0 ≤ d x0 14 ∧ ((x3 = 0 ∧ d x0 14 ≤ 0) ∨ (x3 = 1 ∧ d x0 14 ≤ 9) ∨ (x3 = 2 ∧ d x0 14 ≤ 99) ∨ (x3 = 3 ∧ d x0 14 ≤ 999) ∨ (x3 = 4 ∧ d x0 14 ≤ 9999) ∨ (5 ≤ x3 ∧ d x0 14 ≤ 99999))) (hm : 1000 - d x0 10 ≤ N28) (h : ((0 ≤ (st_197_28 x0 x1 x2 r28 x3 d).1 ∧ (st_197_28 x0 x1 x2 r28 x3 d).1 ≤ x2) ∧ ((st_197_28 x0 x1 x2 r28 x3 d).1 = 0 ∨ x1 ≤ (st_197_28 x0 x1 x2 r28 x3 d).1)) → (∀ b : Int, (b < x0 ∨ x0 < b) → (st_197_28 x0 x1 x2 r28 x3 d).2 b = d b) → (st_197_28 x0 x1 x2 r28 x3 d).2 x0 9 = d x0 9 → (d x0 10 ≤ (st_197_28 x0 x1 x2 r28 x3 d).2 x0 10) → (d x0 13 = 0 ∨ ¬ (st_197_28 x0 x1 x2 r28 x3 d).2 x0 13 = 0) → (¬ (st_197_28 x0 x1 x2 r28 x3 d).2 x0 13 = 0 ∨ (x1 ≤ (st_197_28 x0 x1 x2 r28 x3 d).1 ∧ (st_197_28 x0 x1 x2 r28 x3 d).1 ≤ x2)) → Safe (st_197_28 x0 x1 x2 r28 x3 d).2 → K (.inl (some (0, (st_197_28 x0 x1 x2 r28 x3 d).1))) (st_197_28 x0 x1 x2 r28 x3 d).2) : tRun E 197 (28, [.inr (11, x0), .inl (0, x1), .inl (0, x2), .inl (0, x3)], [], 0, 0, d) K := by
  refine t_197_28 ?_
  have w8 := r_11_f9 hS hx0
  have w9 := r_11_f10 hS hx0
  have q1 := r_11_f10 hS hx0
  refine k_191 hS hx0 (by omega) (fun e1 => ?_)
  refine t_197_36 ?_
  have w8 := r_11_f9 hS hx0
  have w9 := r_11_f10 hS hx0
  refine ⟨m_inR (by omega) (by omega), fun c0 => ?_, fun c0 => ?_⟩
  · refine ⟨m_inR (by omega) (by omega), fun c1 => ?_, fun c1 => ?_⟩
    · have q2 := r_11_f15 hS hx0
      refine k_188 hS hx0 (by omega) (by omega) (fun F1 k1_0 n1_0 n1_1 n1_2 hS1 => ?_)
      refine t_197_109 ?_
      have w8 := r_11_f9 hS1 hx0
      have w9 := r_11_f10 hS1 hx0
      refine t_197_136 ?_
      have w8 := r_11_f9 hS1 hx0
      have w9 := r_11_f10 hS1 hx0
      have q3 := r_11_f13 hS1 hx0
      refine ⟨m_inR (by omega) (by omega), fun c2 => ?_, fun c2 => ?_⟩
      · have q4 := r_11_f14 hS1 hx0
        have y0 : st_197_28 x0 x1 x2 r28 x3 d = ((g_188 x0 1 (d x0 15) d) x0 14, g_188 x0 1 (d x0 15) d) := by simp only [st_197_28, if_pos (show v_191 x0 (d x0 10) d = 0 from c0), if_pos (show x3 = 0 from c1), if_pos (show (g_188 x0 1 (d x0 15) d) x0 13 = 0 from c2)]
        rw [y0] at h
        exact h (show (0 ≤ ((g_188 x0 1 (d x0 15) d) x0 14) ∧ ((g_188 x0 1 (d x0 15) d) x0 14) ≤ x2) ∧ (((g_188 x0 1 (d x0 15) d) x0 14) = 0 ∨ x1 ≤ ((g_188 x0 1 (d x0 15) d) x0 14)) from (by omega)) (show ∀ b : Int, (b < x0 ∨ x0 < b) → (g_188 x0 1 (d x0 15) d) b = d b from fun b hb => F1 b (by omega)) (show (g_188 x0 1 (d x0 15) d) x0 9 = d x0 9 from k1_0) (show d x0 10 ≤ (g_188 x0 1 (d x0 15) d) x0 10 by omega) (show d x0 13 = 0 ∨ ¬ (g_188 x0 1 (d x0 15) d) x0 13 = 0 by omega) (show ¬ (g_188 x0 1 (d x0 15) d) x0 13 = 0 ∨ (x1 ≤ ((g_188 x0 1 (d x0 15) d) x0 14) ∧ ((g_188 x0 1 (d x0 15) d) x0 14) ≤ x2) by omega) hS1
      · have y0 : st_197_28 x0 x1 x2 r28 x3 d = (0, g_188 x0 1 (d x0 15) d) := by simp only [st_197_28, if_pos (show v_191 x0 (d x0 10) d = 0 from c0), if_pos (show x3 = 0 from c1), if_neg (show ¬ (g_188 x0 1 (d x0 15) d) x0 13 = 0 from c2)]
        rw [y0] at h
        exact h (show (0 ≤ ((0 : Int)) ∧ ((0 : Int)) ≤ x2) ∧ (((0 : Int)) = 0 ∨ x1 ≤ ((0 : Int))) from (by omega)) (show ∀ b : Int, (b < x0 ∨ x0 < b) → (g_188 x0 1 (d x0 15) d) b = d b from fun b hb => F1 b (by omega)) (show (g_188 x0 1 (d x0 15) d) x0 9 = d x0 9 from k1_0) (show d x0 10 ≤ (g_188 x0 1 (d x0 15) d) x0 10 by omega) (show d x0 13 = 0 ∨ ¬ (g_188 x0 1 (d x0 15) d) x0 13 = 0 by omega) (show ¬ (g_188 x0 1 (d x0 15) d) x0 13 = 0 ∨ (x1 ≤ ((0 : Int)) ∧ ((0 : Int)) ≤ x2) by omega) hS1
    · refine ⟨⟨m_inR (by omega) (by omega), m_inR (by omega) (by omega)⟩, fun c2 => ?_, fun c2 => ?_⟩
      · have q5 := r_11_f14 hS hx0
        refine ⟨m_inR (by omega) (by omega), m_inR (by omega) (by omega), m_inR (by omega) (by omega), ?_⟩
        refine k_176 hS (m_inR (by omega) (by omega)) (m_inR (by omega) (by omega)) (m_inR (by omega) (by omega)) (fun e2 => ?_)
        refine t_197_124 ?_
        have w8 := r_11_f9 hS hx0
        have w9 := r_11_f10 hS hx0
        refine ⟨m_inR (by omega) (by omega), fun c3 => ?_, fun c3 => ?_⟩
        · refine t_197_136 ?_
          have w8 := r_11_f9 hS hx0
          have w9 := r_11_f10 hS hx0
          have q6 := r_11_f13 hS hx0
          refine ⟨m_inR (by omega) (by omega), fun c4 => ?_, fun c4 => ?_⟩
          · have y0 : st_197_28 x0 x1 x2 r28 x3 d = (d x0 14, d) := by simp only [st_197_28, if_pos (show v_191 x0 (d x0 10) d = 0 from c0), if_neg (show ¬ x3 = 0 from c1), if_neg (show ¬ (5 : Int) < x3 from Int.not_lt.mpr c2), if_neg (show ¬ v_176 (d x0 14) x1 x2 d = 0 from c3), if_pos (show d x0 13 = 0 from c4)]
            rw [y0] at h
            exact h (show (0 ≤ (d x0 14) ∧ (d x0 14) ≤ x2) ∧ ((d x0 14) = 0 ∨ x1 ≤ (d x0 14)) from (by omega)) (show ∀ b : Int, (b < x0 ∨ x0 < b) → d b = d b from fun _ _ => rfl) (show d x0 9 = d x0 9 from rfl) (show d x0 10 ≤ d x0 10 by omega) (show d x0 13 = 0 ∨ ¬ d x0 13 = 0 by omega) (show ¬ d x0 13 = 0 ∨ (x1 ≤ (d x0 14) ∧ (d x0 14) ≤ x2) by omega) hS
          · have y0 : st_197_28 x0 x1 x2 r28 x3 d = (0, d) := by simp only [st_197_28, if_pos (show v_191 x0 (d x0 10) d = 0 from c0), if_neg (show ¬ x3 = 0 from c1), if_neg (show ¬ (5 : Int) < x3 from Int.not_lt.mpr c2), if_neg (show ¬ v_176 (d x0 14) x1 x2 d = 0 from c3), if_neg (show ¬ d x0 13 = 0 from c4)]
            rw [y0] at h
            exact h (show (0 ≤ ((0 : Int)) ∧ ((0 : Int)) ≤ x2) ∧ (((0 : Int)) = 0 ∨ x1 ≤ ((0 : Int))) from (by omega)) (show ∀ b : Int, (b < x0 ∨ x0 < b) → d b = d b from fun _ _ => rfl) (show d x0 9 = d x0 9 from rfl) (show d x0 10 ≤ d x0 10 by omega) (show d x0 13 = 0 ∨ ¬ d x0 13 = 0 by omega) (show ¬ d x0 13 = 0 ∨ (x1 ≤ ((0 : Int)) ∧ ((0 : Int)) ≤ x2) by omega) hS
        · have q7 := r_11_f15 hS hx0
          refine k_188 hS hx0 (by omega) (by omega) (fun F2 k2_0 n2_0 n2_1 n2_2 hS2 => ?_)
          refine t_197_136 ?_
          have w8 := r_11_f9 hS2 hx0
          have w9 := r_11_f10 hS2 hx0
          have q8 := r_11_f13 hS2 hx0
          refine ⟨m_inR (by omega) (by omega), fun c4 => ?_, fun c4 => ?_⟩
          · have q9 := r_11_f14 hS2 hx0
            have y0 : st_197_28 x0 x1 x2 r28 x3 d = ((g_188 x0 2 (d x0 15) d) x0 14, g_188 x0 2 (d x0 15) d) := by simp only [st_197_28, if_pos (show v_191 x0 (d x0 10) d = 0 from c0), if_neg (show ¬ x3 = 0 from c1), if_neg (show ¬ (5 : Int) < x3 from Int.not_lt.mpr c2), if_pos (show v_176 (d x0 14) x1 x2 d = 0 from c3), if_pos (show (g_188 x0 2 (d x0 15) d) x0 13 = 0 from c4)]
            rw [y0] at h
            exact h (show (0 ≤ ((g_188 x0 2 (d x0 15) d) x0 14) ∧ ((g_188 x0 2 (d x0 15) d) x0 14) ≤ x2) ∧ (((g_188 x0 2 (d x0 15) d) x0 14) = 0 ∨ x1 ≤ ((g_188 x0 2 (d x0 15) d) x0 14)) from (by omega)) (show ∀ b : Int, (b < x0 ∨ x0 < b) → (g_188 x0 2 (d x0 15) d) b = d b from fun b hb => F2 b (by omega)) (show (g_188 x0 2 (d x0 15) d) x0 9 = d x0 9 from k2_0) (show d x0 10 ≤ (g_188 x0 2 (d x0 15) d) x0 10 by omega) (show d x0 13 = 0 ∨ ¬ (g_188 x0 2 (d x0 15) d) x0 13 = 0 by omega) (show ¬ (g_188 x0 2 (d x0 15) d) x0 13 = 0 ∨ (x1 ≤ ((g_188 x0 2 (d x0 15) d) x0 14) ∧ ((g_188 x0 2 (d x0 15) d) x0 14) ≤ x2) by omega) hS2
          · have y0 : st_197_28 x0 x1 x2 r28 x3 d = (0, g_188 x0 2 (d x0 15) d) := by simp only [st_197_28, if_pos (show v_191 x0 (d x0 10) d = 0 from c0), if_neg (show ¬ x3 = 0 from c1), if_neg (show ¬ (5 : Int) < x3 from Int.not_lt.mpr c2), if_pos (show v_176 (d x0 14) x1 x2 d = 0 from c3), if_neg (show ¬ (g_188 x0 2 (d x0 15) d) x0 13 = 0 from c4)]
            rw [y0] at h
            exact h (show (0 ≤ ((0 : Int)) ∧ ((0 : Int)) ≤ x2) ∧ (((0 : Int)) = 0 ∨ x1 ≤ ((0 : Int))) from (by omega)) (show ∀ b : Int, (b < x0 ∨ x0 < b) → (g_188 x0 2 (d x0 15) d) b = d b from fun b hb => F2 b (by omega)) (show (g_188 x0 2 (d x0 15) d) x0 9 = d x0 9 from k2_0) (show d x0 10 ≤ (g_188 x0 2 (d x0 15) d) x0 10 by omega) (show d x0 13 = 0 ∨ ¬ (g_188 x0 2 (d x0 15) d) x0 13 = 0 by omega) (show ¬ (g_188 x0 2 (d x0 15) d) x0 13 = 0 ∨ (x1 ≤ ((0 : Int)) ∧ ((0 : Int)) ≤ x2) by omega) hS2
      · have q10 := r_11_f15 hS hx0
        refine k_188 hS hx0 (by omega) (by omega) (fun F3 k3_0 n3_0 n3_1 n3_2 hS3 => ?_)
        refine t_197_109 ?_
        have w8 := r_11_f9 hS3 hx0
        have w9 := r_11_f10 hS3 hx0
        refine t_197_136 ?_
        have w8 := r_11_f9 hS3 hx0
        have w9 := r_11_f10 hS3 hx0
        have q11 := r_11_f13 hS3 hx0
        refine ⟨m_inR (by omega) (by omega), fun c3 => ?_, fun c3 => ?_⟩
        · have q12 := r_11_f14 hS3 hx0
          have y0 : st_197_28 x0 x1 x2 r28 x3 d = ((g_188 x0 1 (d x0 15) d) x0 14, g_188 x0 1 (d x0 15) d) := by simp only [st_197_28, if_pos (show v_191 x0 (d x0 10) d = 0 from c0), if_neg (show ¬ x3 = 0 from c1), if_pos (show (5 : Int) < x3 from c2), if_pos (show (g_188 x0 1 (d x0 15) d) x0 13 = 0 from c3)]
          rw [y0] at h
          exact h (show (0 ≤ ((g_188 x0 1 (d x0 15) d) x0 14) ∧ ((g_188 x0 1 (d x0 15) d) x0 14) ≤ x2) ∧ (((g_188 x0 1 (d x0 15) d) x0 14) = 0 ∨ x1 ≤ ((g_188 x0 1 (d x0 15) d) x0 14)) from (by omega)) (show ∀ b : Int, (b < x0 ∨ x0 < b) → (g_188 x0 1 (d x0 15) d) b = d b from fun b hb => F3 b (by omega)) (show (g_188 x0 1 (d x0 15) d) x0 9 = d x0 9 from k3_0) (show d x0 10 ≤ (g_188 x0 1 (d x0 15) d) x0 10 by omega) (show d x0 13 = 0 ∨ ¬ (g_188 x0 1 (d x0 15) d) x0 13 = 0 by omega) (show ¬ (g_188 x0 1 (d x0 15) d) x0 13 = 0 ∨ (x1 ≤ ((g_188 x0 1 (d x0 15) d) x0 14) ∧ ((g_188 x0 1 (d x0 15) d) x0 14) ≤ x2) by omega) hS3
        · have y0 : st_197_28 x0 x1 x2 r28 x3 d = (0, g_188 x0 1 (d x0 15) d) := by simp only [st_197_28, if_pos (show v_191 x0 (d x0 10) d = 0 from c0), if_neg (show ¬ x3 = 0 from c1), if_pos (show (5 : Int) < x3 from c2), if_neg (show ¬ (g_188 x0 1 (d x0 15) d) x0 13 = 0 from c3)]
          rw [y0] at h
          exact h (show (0 ≤ ((0 : Int)) ∧ ((0 : Int)) ≤ x2) ∧ (((0 : Int)) = 0 ∨ x1 ≤ ((0 : Int))) from (by omega)) (show ∀ b : Int, (b < x0 ∨ x0 < b) → (g_188 x0 1 (d x0 15) d) b = d b from fun b hb => F3 b (by omega)) (show (g_188 x0 1 (d x0 15) d) x0 9 = d x0 9 from k3_0) (show d x0 10 ≤ (g_188 x0 1 (d x0 15) d) x0 10 by omega) (show d x0 13 = 0 ∨ ¬ (g_188 x0 1 (d x0 15) d) x0 13 = 0 by omega) (show ¬ (g_188 x0 1 (d x0 15) d) x0 13 = 0 ∨ (x1 ≤ ((0 : Int)) ∧ ((0 : Int)) ≤ x2) by omega) hS3
  · refine ⟨⟨m_inR (by omega) (by omega), m_inR (by omega) (by omega)⟩, fun c1 => ?_, fun c1 => ?_⟩
    · have q13 := r_11_f14 hS hx0
      have hS4 : Safe (mset d x0 14 (d x0 14)) := s_11_f14 hS hx0 (by omega)
      rw [mset_ni (d := d) (a := x0) (i := (14 : Int)) (v := d x0 14) (b := x0) (j := (10 : Int)) (by omega)]
      have hS5 : Safe (mset (mset d x0 14 (d x0 14)) x0 10 ((d x0 10) + 1)) := s_11_f10 hS4 hx0 (by omega)
      have q14 : (mset (mset d x0 14 (d x0 14)) x0 10 ((d x0 10) + 1)) x0 10 = (d x0 10) + 1 := mset_eq
      have q15 : (mset (mset d x0 14 (d x0 14)) x0 10 ((d x0 10) + 1)) x0 14 = d x0 14 := (mset_ni (by omega)).trans (mset_eq)
      refine ih28 (x3 + 1)  (mset (mset d x0 14 (d x0 14)) x0 10 ((d x0 10) + 1)) hS5 (by omega) (by obtain ⟨z0, z⟩ := i1; rcases z with z | z | z | z | z | z <;> omega) (by omega) (by omega) ?_
      intro e F k0 n0 n1 n2 hS_
      have q16 : (mset (mset d x0 14 (d x0 14)) x0 10 ((d x0 10) + 1)) x0 13 = d x0 13 := (mset_ni (by omega)).trans (mset_ni (by omega))
      have y0 : st_197_28 x0 x1 x2 r28 x3 d = r28 (x3 + 1) (mset (mset d x0 14 (d x0 14)) x0 10 ((d x0 10) + 1)) := by simp only [st_197_28, if_neg (show ¬ v_191 x0 (d x0 10) d = 0 from c0), if_neg (show ¬ x3 < 5 from Int.not_lt.mpr c1)]
      rw [y0] at h
      exact h e (fun b hb => (F b hb).trans ((show ∀ b : Int, (b < x0 ∨ x0 < b) → (mset (mset d x0 14 (d x0 14)) x0 10 ((d x0 10) + 1)) b = d b from fun b hb => (mset_ne (by omega)).trans (mset_ne (by omega))) b hb)) (k0.trans ((mset_ni (by omega)).trans (mset_ni (by omega)))) (by omega) (by omega) (by omega) hS_
    · have q17 := r_11_f14 hS hx0
      have q18 := r_11_7 hS hx0 (d x0 10)
      refine ⟨by omega, ?_⟩
      have hS6 : Safe (mset d x0 14 (((10 * (d x0 14)) + (d (x0 + 7) (d x0 10))) - 48)) := s_11_f14 hS hx0 (by omega)
      rw [mset_ni (d := d) (a := x0) (i := (14 : Int)) (v := ((10 * (d x0 14)) + (d (x0 + 7) (d x0 10))) - 48) (b := x0) (j := (10 : Int)) (by omega)]
      have hS7 : Safe (mset (mset d x0 14 (((10 * (d x0 14)) + (d (x0 + 7) (d x0 10))) - 48)) x0 10 ((d x0 10) + 1)) := s_11_f10 hS6 hx0 (by omega)
      have q19 : (mset (mset d x0 14 (((10 * (d x0 14)) + (d (x0 + 7) (d x0 10))) - 48)) x0 10 ((d x0 10) + 1)) x0 10 = (d x0 10) + 1 := mset_eq
      have q20 : (mset (mset d x0 14 (((10 * (d x0 14)) + (d (x0 + 7) (d x0 10))) - 48)) x0 10 ((d x0 10) + 1)) x0 14 = ((10 * (d x0 14)) + (d (x0 + 7) (d x0 10))) - 48 := (mset_ni (by omega)).trans (mset_eq)
      refine ih28 (x3 + 1)  (mset (mset d x0 14 (((10 * (d x0 14)) + (d (x0 + 7) (d x0 10))) - 48)) x0 10 ((d x0 10) + 1)) hS7 (by omega) (by obtain ⟨z0, z⟩ := i1; rcases z with z | z | z | z | z | z <;> omega) (by omega) (by omega) ?_
      intro e F k0 n0 n1 n2 hS_
      have q21 : (mset (mset d x0 14 (((10 * (d x0 14)) + (d (x0 + 7) (d x0 10))) - 48)) x0 10 ((d x0 10) + 1)) x0 13 = d x0 13 := (mset_ni (by omega)).trans (mset_ni (by omega))
      have y0 : st_197_28 x0 x1 x2 r28 x3 d = r28 (x3 + 1) (mset (mset d x0 14 (((10 * (d x0 14)) + (d (x0 + 7) (d x0 10))) - 48)) x0 10 ((d x0 10) + 1)) := by simp only [st_197_28, if_neg (show ¬ v_191 x0 (d x0 10) d = 0 from c0), if_pos (show x3 < 5 from c1)]
      rw [y0] at h
      exact h e (fun b hb => (F b hb).trans ((show ∀ b : Int, (b < x0 ∨ x0 < b) → (mset (mset d x0 14 (((10 * (d x0 14)) + (d (x0 + 7) (d x0 10))) - 48)) x0 10 ((d x0 10) + 1)) b = d b from fun b hb => (mset_ne (by omega)).trans (mset_ne (by omega))) b hb)) (k0.trans ((mset_ni (by omega)).trans (mset_ni (by omega)))) (by omega) (by omega) (by omega) hS_
theorem l_197_28 {E : mO × tW} {K : tK} {x0 x1 x2 : Int} (hx0 : mdB x0) (p1 : 0 ≤ x1 ∧ x1 ≤ 99999) (p2 : 0 ≤ x2 ∧ x2 ≤ 99999) : ∀ (n : Nat) (x3 : Int) (d : mD), Safe d → (0 ≤ x3 ∧ x3 ≤ d x0 10) → (0 ≤ d x0 14 ∧ ((x3 = 0 ∧ d x0 14 ≤ 0) ∨ (x3 = 1 ∧ d x0 14 ≤ 9) ∨ (x3 = 2 ∧ d x0 14 ≤ 99) ∨ (x3 = 3 ∧ d x0 14 ≤ 999) ∨ (x3 = 4 ∧ d x0 14 ≤ 9999) ∨ (5 ≤ x3 ∧ d x0 14 ≤ 99999))) → 1000 - d x0 10 ≤ (n : Int) → (((0 ≤ (lp_197_28 x0 x1 x2 n x3 d).1 ∧ (lp_197_28 x0 x1 x2 n x3 d).1 ≤ x2) ∧ ((lp_197_28 x0 x1 x2 n x3 d).1 = 0 ∨ x1 ≤ (lp_197_28 x0 x1 x2 n x3 d).1)) → (∀ b : Int, (b < x0 ∨ x0 < b) → (lp_197_28 x0 x1 x2 n x3 d).2 b = d b) → (lp_197_28 x0 x1 x2 n x3 d).2 x0 9 = d x0 9 → (d x0 10 ≤ (lp_197_28 x0 x1 x2 n x3 d).2 x0 10) → (d x0 13 = 0 ∨ ¬ (lp_197_28 x0 x1 x2 n x3 d).2 x0 13 = 0) → (¬ (lp_197_28 x0 x1 x2 n x3 d).2 x0 13 = 0 ∨ (x1 ≤ (lp_197_28 x0 x1 x2 n x3 d).1 ∧ (lp_197_28 x0 x1 x2 n x3 d).1 ≤ x2)) → Safe (lp_197_28 x0 x1 x2 n x3 d).2 → K (.inl (some (0, (lp_197_28 x0 x1 x2 n x3 d).1))) (lp_197_28 x0 x1 x2 n x3 d).2) → tRun E 197 (28, [.inr (11, x0), .inl (0, x1), .inl (0, x2), .inl (0, x3)], [], 0, 0, d) K := by
  intro n
  induction n with
  | zero =>
    intro x3  d hS i0 i1 hm  h
    exact ls_197_28 hx0 p1 p2 0 _ (fun _  _ _ _ _ m0 m1 _ => absurd m1 (by omega)) x3  d hS i0 i1 hm  h
  | succ n ih =>
    intro x3  d hS i0 i1 hm  h
    exact ls_197_28 hx0 p1 p2 ((n + 1 : Nat) : Int) _ (fun x3  d hS i0 i1  m0 m1 h => ih x3  d hS i0 i1 (by omega)  h) x3  d hS i0 i1 hm  h
def f_197 (x0 x1 x2 : Int) (d : mD) : Int × mD := if d x0 13 = 0 then lp_197_28 x0 x1 x2 (1000 - (mset (mset (g_189 x0 d) x0 15 ((g_189 x0 d) x0 10)) x0 14 0) x0 10 : Int).toNat 0 (mset (mset (g_189 x0 d) x0 15 ((g_189 x0 d) x0 10)) x0 14 0) else (0, d)
def v_197 (x0 x1 x2 : Int) (d : mD) : Int := (f_197 x0 x1 x2 d).1
def g_197 (x0 x1 x2 : Int) (d : mD) : mD := (f_197 x0 x1 x2 d).2
theorem k_197 {E : mO × tW} {K : tK} {d : mD} {x0 x1 x2 : Int} (hS : Safe d) (hx0 : mdB x0) (p1 : 0 ≤ x1 ∧ x1 ≤ 99999) (p2 : 0 ≤ x2 ∧ x2 ≤ 99999) (h : ((0 ≤ (v_197 x0 x1 x2 d) ∧ (v_197 x0 x1 x2 d) ≤ x2) ∧ ((v_197 x0 x1 x2 d) = 0 ∨ x1 ≤ (v_197 x0 x1 x2 d))) → (∀ b : Int, (b < x0 ∨ x0 < b) → (g_197 x0 x1 x2 d) b = d b) → (g_197 x0 x1 x2 d) x0 9 = d x0 9 → (d x0 10 ≤ (g_197 x0 x1 x2 d) x0 10) → (d x0 13 = 0 ∨ ¬ (g_197 x0 x1 x2 d) x0 13 = 0) → (¬ (g_197 x0 x1 x2 d) x0 13 = 0 ∨ (x1 ≤ (v_197 x0 x1 x2 d) ∧ (v_197 x0 x1 x2 d) ≤ x2)) → Safe (g_197 x0 x1 x2 d) → K (.inl (some (0, (v_197 x0 x1 x2 d)))) (g_197 x0 x1 x2 d)) : tCall E 197 [.inr (11, x0), .inl (0, x1), .inl (0, x2)] d K := by
  simp only [v_197, g_197] at h
  refine t_197_0 ?_
  have w8 := r_11_f9 hS hx0
  have w9 := r_11_f10 hS hx0
  have q22 := r_11_f13 hS hx0
  refine ⟨m_inR (by omega) (by omega), fun c0 => ?_, fun c0 => ?_⟩
  · refine k_189 hS hx0 (fun F4 k4_0 n4_0 n4_1 hS8 => ?_)
    refine t_197_13 ?_
    have w8 := r_11_f9 hS8 hx0
    have w9 := r_11_f10 hS8 hx0
    have q23 := r_11_f10 hS8 hx0
    have hS9 : Safe (mset (g_189 x0 d) x0 15 ((g_189 x0 d) x0 10)) := s_11_f15 hS8 hx0 (by omega)
    have hS10 : Safe (mset (mset (g_189 x0 d) x0 15 ((g_189 x0 d) x0 10)) x0 14 0) := s_11_f14 hS9 hx0 (by omega)
    have q24 : (mset (mset (g_189 x0 d) x0 15 ((g_189 x0 d) x0 10)) x0 14 0) x0 10 = (g_189 x0 d) x0 10 := (mset_ni (by omega)).trans (mset_ni (by omega))
    have q25 : (mset (mset (g_189 x0 d) x0 15 ((g_189 x0 d) x0 10)) x0 14 0) x0 14 = 0 := mset_eq
    refine l_197_28 hx0 p1 p2 (1000 - (mset (mset (g_189 x0 d) x0 15 ((g_189 x0 d) x0 10)) x0 14 0) x0 10 : Int).toNat 0  (mset (mset (g_189 x0 d) x0 15 ((g_189 x0 d) x0 10)) x0 14 0) hS10 (by omega) (by omega) (by omega) ?_
    intro e F k0 n0 n1 n2 hS_
    have q26 : (mset (mset (g_189 x0 d) x0 15 ((g_189 x0 d) x0 10)) x0 14 0) x0 13 = (g_189 x0 d) x0 13 := (mset_ni (by omega)).trans (mset_ni (by omega))
    have y0 : f_197 x0 x1 x2 d = lp_197_28 x0 x1 x2 (1000 - (mset (mset (g_189 x0 d) x0 15 ((g_189 x0 d) x0 10)) x0 14 0) x0 10 : Int).toNat 0 (mset (mset (g_189 x0 d) x0 15 ((g_189 x0 d) x0 10)) x0 14 0) := by simp only [f_197, if_pos (show d x0 13 = 0 from c0)]
    rw [y0] at h
    exact h e (fun b hb => (F b hb).trans ((show ∀ b : Int, (b < x0 ∨ x0 < b) → (mset (mset (g_189 x0 d) x0 15 ((g_189 x0 d) x0 10)) x0 14 0) b = d b from fun b hb => (mset_ne (by omega)).trans ((mset_ne (by omega)).trans (F4 b (by omega)))) b hb)) (k0.trans (((mset_ni (by omega)).trans (mset_ni (by omega))).trans (k4_0))) (by omega) (by omega) (by omega) hS_
  · have y0 : f_197 x0 x1 x2 d = (0, d) := by simp only [f_197, if_neg (show ¬ d x0 13 = 0 from c0)]
    rw [y0] at h
    exact h (show (0 ≤ ((0 : Int)) ∧ ((0 : Int)) ≤ x2) ∧ (((0 : Int)) = 0 ∨ x1 ≤ ((0 : Int))) from (by omega)) (show ∀ b : Int, (b < x0 ∨ x0 < b) → d b = d b from fun _ _ => rfl) (show d x0 9 = d x0 9 from rfl) (show d x0 10 ≤ d x0 10 by omega) (show d x0 13 = 0 ∨ ¬ d x0 13 = 0 by omega) (show ¬ d x0 13 = 0 ∨ (x1 ≤ ((0 : Int)) ∧ ((0 : Int)) ≤ x2) by omega) hS
/-! ===== contracts of the reference's methods: printed by a program of mine ===== -/
theorem bl_189 {x0 : Int} : ∀ (n : Nat) (d : mD), d x0 9 ≤ 1000 → 1000 - d x0 10 ≤ (n : Int) → (¬ ((lp_189_0 x0 n d) x0 10 < (lp_189_0 x0 n d) x0 9 ∧ ((lp_189_0 x0 n d) (x0 + 7) ((lp_189_0 x0 n d) x0 10) = 10 ∨ (lp_189_0 x0 n d) (x0 + 7) ((lp_189_0 x0 n d) x0 10) = 32))) ∧ (lp_189_0 x0 n d) x0 9 = d x0 9 ∧ (lp_189_0 x0 n d) (x0 + 7) = d (x0 + 7) := by
  intro n
  induction n with
  | zero =>
    intro d h9 hn
    have e : lp_189_0 x0 0 d = d := by
      show st_189_0 x0 _ d = d
      unfold st_189_0
      rw [if_neg (by omega)]
    rw [e]
    exact ⟨fun c => by omega, rfl, rfl⟩
  | succ n ih =>
    intro d h9 hn
    have e1 : (mset d x0 10 (d x0 10 + 1)) x0 9 = d x0 9 := mset_ni (by omega)
    have e2 : (mset d x0 10 (d x0 10 + 1)) (x0 + 7) = d (x0 + 7) := mset_ne (by omega)
    have e3 : (mset d x0 10 (d x0 10 + 1)) x0 10 = d x0 10 + 1 := mset_eq
    have k := ih (mset d x0 10 (d x0 10 + 1)) (by omega) (by omega)
    rw [e1, e2] at k
    have e : lp_189_0 x0 (n + 1) d = if d x0 10 < d x0 9 then (if d (x0 + 7) (d x0 10) = 10 then lp_189_0 x0 n (mset d x0 10 ((d x0 10) + 1)) else if d (x0 + 7) (d x0 10) = 32 then lp_189_0 x0 n (mset d x0 10 ((d x0 10) + 1)) else d) else d := rfl
    rw [e]
    by_cases c : d x0 10 < d x0 9
    · rw [if_pos c]
      by_cases c1 : d (x0 + 7) (d x0 10) = 10
      · rw [if_pos c1]; exact k
      · rw [if_neg c1]
        by_cases c2 : d (x0 + 7) (d x0 10) = 32
        · rw [if_pos c2]; exact k
        · rw [if_neg c2]
          exact ⟨fun z => z.2.elim c1 c2, rfl, rfl⟩
    · rw [if_neg c]
      exact ⟨fun z => c z.1, rfl, rfl⟩
theorem bl_stay {x0 : Int} {d : mD} (h : ¬ (d x0 10 < d x0 9 ∧ (d (x0 + 7) (d x0 10) = 10 ∨ d (x0 + 7) (d x0 10) = 32))) (n : Nat) : lp_189_0 x0 n d = d := by
  have g : ∀ r, st_189_0 x0 r d = d := by
    intro r
    unfold st_189_0
    by_cases c : d x0 10 < d x0 9
    · rw [if_pos c, if_neg (fun z => h ⟨c, Or.inl z⟩), if_neg (fun z => h ⟨c, Or.inr z⟩)]
    · rw [if_neg c]
  cases n with
  | zero => exact g _
  | succ n => exact g _
theorem isn2 {x0 : Int} {d : mD} (h9 : d x0 9 ≤ 1000) : ¬ v_192 x0 59 d = 0 ∨ v_192 x0 59 (g_192 x0 59 d) = 0 := by
  by_cases h : v_192 x0 59 d = 0
  · right
    have k := bl_189 (x0 := x0) (1000 - d x0 10 : Int).toNat d h9 (by omega)
    have e : g_189 x0 (g_189 x0 d) = g_189 x0 d := bl_stay k.1 _
    have k2 : (g_189 x0 d) x0 9 = d x0 9 := k.2.1
    have k3 : (g_189 x0 d) (x0 + 7) = d (x0 + 7) := k.2.2
    unfold v_192 g_192
    rw [e, k2, k3]
    exact h
  · exact Or.inl h
def v_194 (x0 x1 : Int) (d : mD) : Int := if (g_189 x0 d) x0 13 = 0 then (if mcmp (v_193 x0 8 (g_189 x0 d)) x1 = 0 then 1 else 0) else 0
def g_194 (x0 x1 : Int) (d : mD) : mD := if (g_189 x0 d) x0 13 = 0 then (if mcmp (v_193 x0 8 (g_189 x0 d)) x1 = 0 then g_193 x0 8 (g_189 x0 d) else mset (g_193 x0 8 (g_189 x0 d)) x0 10 ((g_189 x0 d) x0 10)) else mset (g_189 x0 d) x0 10 ((g_189 x0 d) x0 10)
theorem k_194 {E : mO × tW} {K : tK} {d : mD} {x0 x1 : Int} (hS : Safe d) (hx0 : mdB x0) (p1 : 1 ≤ x1 ∧ x1 ≤ 282429536480) (h : (0 ≤ (v_194 x0 x1 d) ∧ (v_194 x0 x1 d) ≤ 1) → (∀ b : Int, (b < x0 ∨ x0 < b) → (g_194 x0 x1 d) b = d b) → (g_194 x0 x1 d) x0 9 = d x0 9 → (d x0 10 ≤ (g_194 x0 x1 d) x0 10) → (d x0 13 = 0 ∨ ¬ (g_194 x0 x1 d) x0 13 = 0) → ((v_194 x0 x1 d) = 0 ∨ d x0 10 < (g_194 x0 x1 d) x0 10) → Safe (g_194 x0 x1 d) → K (.inl (some (0, (v_194 x0 x1 d)))) (g_194 x0 x1 d)) : tCall E 194 [.inr (11, x0), .inl (1, x1)] d K := by
  refine t_194_0 ?_
  have w8 := r_11_f9 hS hx0
  have w9 := r_11_f10 hS hx0
  refine k_189 hS hx0 (fun F1 k1_0 n1_0 n1_1 hS1 => ?_)
  refine t_194_4 ?_
  have w8 := r_11_f9 hS1 hx0
  have w9 := r_11_f10 hS1 hx0
  have q1 := r_11_f13 hS1 hx0
  refine ⟨m_inR (by omega) (by omega), fun c0 => ?_, fun c0 => ?_⟩
  · refine ⟨m_inR (by omega) (by omega), fun c1 => ?_, fun c1 => ?_⟩
    · exact (show False by omega).elim
    · have q2 := r_11_f10 hS1 hx0
      have hS2 : Safe (mset (g_189 x0 d) x0 10 ((g_189 x0 d) x0 10)) := s_11_f10 hS1 hx0 (by omega)
      refine ⟨by omega, ?_⟩
      have q3 : (mset (g_189 x0 d) x0 10 ((g_189 x0 d) x0 10)) x0 10 = (g_189 x0 d) x0 10 := mset_eq
      have q4 : (mset (g_189 x0 d) x0 10 ((g_189 x0 d) x0 10)) x0 13 = (g_189 x0 d) x0 13 := mset_ni (by omega)
      have y0 : v_194 x0 x1 d = 0 := by simp only [v_194, if_neg (show ¬ (g_189 x0 d) x0 13 = 0 from c0), if_pos (show (0 : Int) = 0 from c1)]
      have y1 : g_194 x0 x1 d = mset (g_189 x0 d) x0 10 ((g_189 x0 d) x0 10) := by simp only [g_194, if_neg (show ¬ (g_189 x0 d) x0 13 = 0 from c0), if_pos (show (0 : Int) = 0 from c1)]
      rw [y0] at h
      rw [y1] at h
      exact h (show 0 ≤ ((0 : Int)) ∧ ((0 : Int)) ≤ 1 from (by omega)) (show ∀ b : Int, (b < x0 ∨ x0 < b) → (mset (g_189 x0 d) x0 10 ((g_189 x0 d) x0 10)) b = d b from fun b hb => (mset_ne (by omega)).trans (F1 b (by omega))) (show (mset (g_189 x0 d) x0 10 ((g_189 x0 d) x0 10)) x0 9 = d x0 9 from (mset_ni (by omega)).trans (k1_0)) (show d x0 10 ≤ (mset (g_189 x0 d) x0 10 ((g_189 x0 d) x0 10)) x0 10 by omega) (show d x0 13 = 0 ∨ ¬ (mset (g_189 x0 d) x0 10 ((g_189 x0 d) x0 10)) x0 13 = 0 by omega) (show ((0 : Int)) = 0 ∨ d x0 10 < (mset (g_189 x0 d) x0 10 ((g_189 x0 d) x0 10)) x0 10 by omega) hS2
  · refine k_193 hS1 hx0 (by omega) (by omega) (fun e1 F2 k2_0 n2_0 n2_1 n2_2 hS3 => ?_)
    refine t_194_22 ?_
    have w8 := r_11_f9 hS3 hx0
    have w9 := r_11_f10 hS3 hx0
    have q5 := mcmp_r (v_193 x0 8 (g_189 x0 d)) x1
    refine ⟨⟨⟨by omega, by omega⟩, ⟨by omega, by omega⟩⟩, m_inR (by omega) (by omega), fun c1 => ?_, fun c1 => ?_⟩
    · refine ⟨m_inR (by omega) (by omega), fun c2 => ?_, fun c2 => ?_⟩
      · exact (show False by omega).elim
      · have q6 := r_11_f10 hS1 hx0
        have hS4 : Safe (mset (g_193 x0 8 (g_189 x0 d)) x0 10 ((g_189 x0 d) x0 10)) := s_11_f10 hS3 hx0 (by omega)
        refine ⟨by omega, ?_⟩
        have q7 : (mset (g_193 x0 8 (g_189 x0 d)) x0 10 ((g_189 x0 d) x0 10)) x0 10 = (g_189 x0 d) x0 10 := mset_eq
        have q8 : (mset (g_193 x0 8 (g_189 x0 d)) x0 10 ((g_189 x0 d) x0 10)) x0 13 = (g_193 x0 8 (g_189 x0 d)) x0 13 := mset_ni (by omega)
        have y0 : v_194 x0 x1 d = 0 := by simp only [v_194, if_pos (show (g_189 x0 d) x0 13 = 0 from c0), if_neg (show ¬ mcmp (v_193 x0 8 (g_189 x0 d)) x1 = 0 from c1), if_pos (show (0 : Int) = 0 from c2)]
        have y1 : g_194 x0 x1 d = mset (g_193 x0 8 (g_189 x0 d)) x0 10 ((g_189 x0 d) x0 10) := by simp only [g_194, if_pos (show (g_189 x0 d) x0 13 = 0 from c0), if_neg (show ¬ mcmp (v_193 x0 8 (g_189 x0 d)) x1 = 0 from c1), if_pos (show (0 : Int) = 0 from c2)]
        rw [y0] at h
        rw [y1] at h
        exact h (show 0 ≤ ((0 : Int)) ∧ ((0 : Int)) ≤ 1 from (by omega)) (show ∀ b : Int, (b < x0 ∨ x0 < b) → (mset (g_193 x0 8 (g_189 x0 d)) x0 10 ((g_189 x0 d) x0 10)) b = d b from fun b hb => (mset_ne (by omega)).trans ((F2 b (by omega)).trans (F1 b (by omega)))) (show (mset (g_193 x0 8 (g_189 x0 d)) x0 10 ((g_189 x0 d) x0 10)) x0 9 = d x0 9 from ((mset_ni (by omega)).trans (k2_0)).trans (k1_0)) (show d x0 10 ≤ (mset (g_193 x0 8 (g_189 x0 d)) x0 10 ((g_189 x0 d) x0 10)) x0 10 by omega) (show d x0 13 = 0 ∨ ¬ (mset (g_193 x0 8 (g_189 x0 d)) x0 10 ((g_189 x0 d) x0 10)) x0 13 = 0 by omega) (show ((0 : Int)) = 0 ∨ d x0 10 < (mset (g_193 x0 8 (g_189 x0 d)) x0 10 ((g_189 x0 d) x0 10)) x0 10 by omega) hS4
    · refine ⟨m_inR (by omega) (by omega), fun c2 => ?_, fun c2 => ?_⟩
      · refine ⟨by omega, ?_⟩
        have y0 : v_194 x0 x1 d = 1 := by simp only [v_194, if_pos (show (g_189 x0 d) x0 13 = 0 from c0), if_pos (show mcmp (v_193 x0 8 (g_189 x0 d)) x1 = 0 from c1), if_neg (show ¬ (1 : Int) = 0 from c2)]
        have y1 : g_194 x0 x1 d = g_193 x0 8 (g_189 x0 d) := by simp only [g_194, if_pos (show (g_189 x0 d) x0 13 = 0 from c0), if_pos (show mcmp (v_193 x0 8 (g_189 x0 d)) x1 = 0 from c1), if_neg (show ¬ (1 : Int) = 0 from c2)]
        rw [y0] at h
        rw [y1] at h
        exact h (show 0 ≤ ((1 : Int)) ∧ ((1 : Int)) ≤ 1 from (by omega)) (show ∀ b : Int, (b < x0 ∨ x0 < b) → (g_193 x0 8 (g_189 x0 d)) b = d b from fun b hb => (F2 b (by omega)).trans (F1 b (by omega))) (show (g_193 x0 8 (g_189 x0 d)) x0 9 = d x0 9 from (k2_0).trans (k1_0)) (show d x0 10 ≤ (g_193 x0 8 (g_189 x0 d)) x0 10 by omega) (show d x0 13 = 0 ∨ ¬ (g_193 x0 8 (g_189 x0 d)) x0 13 = 0 by omega) (show ((1 : Int)) = 0 ∨ d x0 10 < (g_193 x0 8 (g_189 x0 d)) x0 10 by omega) hS3
      · exact (show False by omega).elim
def g_195 (x0 : Int) (d : mD) : mD := if d x0 13 = 0 then (if v_192 x0 59 d = 0 then g_188 x0 1 ((g_192 x0 59 d) x0 10) (g_192 x0 59 d) else mset (g_192 x0 59 d) x0 10 (((g_192 x0 59 d) x0 10) + 1)) else d
theorem k_195 {E : mO × tW} {K : tK} {d : mD} {x0 : Int} (hS : Safe d) (hx0 : mdB x0) (h : (∀ b : Int, (b < x0 ∨ x0 < b) → (g_195 x0 d) b = d b) → (g_195 x0 d) x0 9 = d x0 9 → (d x0 10 ≤ (g_195 x0 d) x0 10) → (d x0 13 = 0 ∨ ¬ (g_195 x0 d) x0 13 = 0) → (¬ d x0 13 = 0 ∨ ¬ v_192 x0 59 d = 0 ∨ ¬ (g_195 x0 d) x0 13 = 0) → Safe (g_195 x0 d) → K (.inl none) (g_195 x0 d)) : tCall E 195 [.inr (11, x0)] d K := by
  refine t_195_0 ?_
  have w8 := r_11_f9 hS hx0
  have w9 := r_11_f10 hS hx0
  have q1 := r_11_f13 hS hx0
  refine ⟨m_inR (by omega) (by omega), fun c0 => ?_, fun c0 => ?_⟩
  · refine t_195_38 ?_
    have w8 := r_11_f9 hS hx0
    have w9 := r_11_f10 hS hx0
    have y0 : g_195 x0 d = d := by simp only [g_195, if_neg (show ¬ d x0 13 = 0 from c0)]
    rw [y0] at h
    exact h (show ∀ b : Int, (b < x0 ∨ x0 < b) → d b = d b from fun _ _ => rfl) (show d x0 9 = d x0 9 from rfl) (show d x0 10 ≤ d x0 10 by omega) (show d x0 13 = 0 ∨ ¬ d x0 13 = 0 by omega) (show ¬ d x0 13 = 0 ∨ ¬ v_192 x0 59 d = 0 ∨ ¬ d x0 13 = 0 by omega) hS
  · refine k_192 hS hx0 (m_inR (by omega) (by omega)) (fun e1 F1 k1_0 n1_0 n1_1 n1_2 hS1 => ?_)
    refine t_195_13 ?_
    have w8 := r_11_f9 hS1 hx0
    have w9 := r_11_f10 hS1 hx0
    refine ⟨m_inR (by omega) (by omega), fun c1 => ?_, fun c1 => ?_⟩
    · have q2 := r_11_f10 hS1 hx0
      refine k_188 hS1 hx0 (by omega) (by omega) (fun F2 k2_0 n2_0 n2_1 n2_2 hS2 => ?_)
      refine t_195_38 ?_
      have w8 := r_11_f9 hS2 hx0
      have w9 := r_11_f10 hS2 hx0
      have y0 : g_195 x0 d = g_188 x0 1 ((g_192 x0 59 d) x0 10) (g_192 x0 59 d) := by simp only [g_195, if_pos (show d x0 13 = 0 from c0), if_pos (show v_192 x0 59 d = 0 from c1)]
      rw [y0] at h
      exact h (show ∀ b : Int, (b < x0 ∨ x0 < b) → (g_188 x0 1 ((g_192 x0 59 d) x0 10) (g_192 x0 59 d)) b = d b from fun b hb => (F2 b (by omega)).trans (F1 b (by omega))) (show (g_188 x0 1 ((g_192 x0 59 d) x0 10) (g_192 x0 59 d)) x0 9 = d x0 9 from (k2_0).trans (k1_0)) (show d x0 10 ≤ (g_188 x0 1 ((g_192 x0 59 d) x0 10) (g_192 x0 59 d)) x0 10 by omega) (show d x0 13 = 0 ∨ ¬ (g_188 x0 1 ((g_192 x0 59 d) x0 10) (g_192 x0 59 d)) x0 13 = 0 by omega) (show ¬ d x0 13 = 0 ∨ ¬ v_192 x0 59 d = 0 ∨ ¬ (g_188 x0 1 ((g_192 x0 59 d) x0 10) (g_192 x0 59 d)) x0 13 = 0 by omega) hS2
    · have q3 := r_11_f10 hS1 hx0
      have hS3 : Safe (mset (g_192 x0 59 d) x0 10 (((g_192 x0 59 d) x0 10) + 1)) := s_11_f10 hS1 hx0 (by omega)
      refine t_195_38 ?_
      have w8 := r_11_f9 hS3 hx0
      have w9 := r_11_f10 hS3 hx0
      have q4 : (mset (g_192 x0 59 d) x0 10 (((g_192 x0 59 d) x0 10) + 1)) x0 10 = ((g_192 x0 59 d) x0 10) + 1 := mset_eq
      have q5 : (mset (g_192 x0 59 d) x0 10 (((g_192 x0 59 d) x0 10) + 1)) x0 13 = (g_192 x0 59 d) x0 13 := mset_ni (by omega)
      have y0 : g_195 x0 d = mset (g_192 x0 59 d) x0 10 (((g_192 x0 59 d) x0 10) + 1) := by simp only [g_195, if_pos (show d x0 13 = 0 from c0), if_neg (show ¬ v_192 x0 59 d = 0 from c1)]
      rw [y0] at h
      exact h (show ∀ b : Int, (b < x0 ∨ x0 < b) → (mset (g_192 x0 59 d) x0 10 (((g_192 x0 59 d) x0 10) + 1)) b = d b from fun b hb => (mset_ne (by omega)).trans (F1 b (by omega))) (show (mset (g_192 x0 59 d) x0 10 (((g_192 x0 59 d) x0 10) + 1)) x0 9 = d x0 9 from (mset_ni (by omega)).trans (k1_0)) (show d x0 10 ≤ (mset (g_192 x0 59 d) x0 10 (((g_192 x0 59 d) x0 10) + 1)) x0 10 by omega) (show d x0 13 = 0 ∨ ¬ (mset (g_192 x0 59 d) x0 10 (((g_192 x0 59 d) x0 10) + 1)) x0 13 = 0 by omega) (show ¬ d x0 13 = 0 ∨ ¬ v_192 x0 59 d = 0 ∨ ¬ (mset (g_192 x0 59 d) x0 10 (((g_192 x0 59 d) x0 10) + 1)) x0 13 = 0 by omega) hS3
def v_196 (x0 x1 : Int) (d : mD) : Int := if d x0 13 = 0 then (if v_192 x0 59 d = 0 then (if (g_195 x0 (g_192 x0 59 d)) x0 13 = 0 then 1 else 0) else if x1 = 0 then (if (g_195 x0 (g_188 x0 6 ((g_192 x0 59 d) x0 10) (g_192 x0 59 d))) x0 13 = 0 then 1 else 0) else if (g_195 x0 (g_192 x0 59 d)) x0 13 = 0 then 1 else 0) else if (g_195 x0 d) x0 13 = 0 then 1 else 0
def g_196 (x0 x1 : Int) (d : mD) : mD := if d x0 13 = 0 then (if v_192 x0 59 d = 0 then g_195 x0 (g_192 x0 59 d) else if x1 = 0 then g_195 x0 (g_188 x0 6 ((g_192 x0 59 d) x0 10) (g_192 x0 59 d)) else g_195 x0 (g_192 x0 59 d)) else g_195 x0 d
theorem k_196 {E : mO × tW} {K : tK} {d : mD} {x0 x1 : Int} (hS : Safe d) (hx0 : mdB x0) (p1 : 0 ≤ x1 ∧ x1 ≤ 1) (h : ((0 ≤ (v_196 x0 x1 d) ∧ (v_196 x0 x1 d) ≤ 1) ∧ ((v_196 x0 x1 d) = 0 ∨ ¬ x1 = 0)) → (∀ b : Int, (b < x0 ∨ x0 < b) → (g_196 x0 x1 d) b = d b) → (g_196 x0 x1 d) x0 9 = d x0 9 → (d x0 10 ≤ (g_196 x0 x1 d) x0 10) → (d x0 13 = 0 ∨ ¬ (g_196 x0 x1 d) x0 13 = 0) → ((v_196 x0 x1 d) = 0 ∨ (g_196 x0 x1 d) x0 13 = 0) → Safe (g_196 x0 x1 d) → K (.inl (some (0, (v_196 x0 x1 d)))) (g_196 x0 x1 d)) : tCall E 196 [.inr (11, x0), .inl (0, x1)] d K := by
  refine t_196_0 ?_
  have w8 := r_11_f9 hS hx0
  have w9 := r_11_f10 hS hx0
  have w7 := isn2 (x0 := x0) (r_11_f9 hS hx0).2
  have q1 := r_11_f13 hS hx0
  refine ⟨m_inR (by omega) (by omega), fun c0 => ?_, fun c0 => ?_⟩
  · refine t_196_30 ?_
    have w8 := r_11_f9 hS hx0
    have w9 := r_11_f10 hS hx0
    have w7 := isn2 (x0 := x0) (r_11_f9 hS hx0).2
    refine k_195 hS hx0 (fun F1 k1_0 n1_0 n1_1 n1_2 hS1 => ?_)
    refine t_196_34 ?_
    have w8 := r_11_f9 hS1 hx0
    have w9 := r_11_f10 hS1 hx0
    have w7 := isn2 (x0 := x0) (r_11_f9 hS hx0).2
    have q2 := r_11_f13 hS1 hx0
    refine ⟨m_inR (by omega) (by omega), fun c1 => ?_, fun c1 => ?_⟩
    · refine ⟨by omega, ?_⟩
      have y0 : v_196 x0 x1 d = 0 := by simp only [v_196, if_neg (show ¬ d x0 13 = 0 from c0), if_neg (show ¬ (g_195 x0 d) x0 13 = 0 from c1)]
      have y1 : g_196 x0 x1 d = g_195 x0 d := by simp only [g_196, if_neg (show ¬ d x0 13 = 0 from c0), if_neg (show ¬ (g_195 x0 d) x0 13 = 0 from c1)]
      rw [y0] at h
      rw [y1] at h
      exact h (show (0 ≤ ((0 : Int)) ∧ ((0 : Int)) ≤ 1) ∧ (((0 : Int)) = 0 ∨ ¬ x1 = 0) from (by omega)) (show ∀ b : Int, (b < x0 ∨ x0 < b) → (g_195 x0 d) b = d b from fun b hb => F1 b (by omega)) (show (g_195 x0 d) x0 9 = d x0 9 from k1_0) (show d x0 10 ≤ (g_195 x0 d) x0 10 by omega) (show d x0 13 = 0 ∨ ¬ (g_195 x0 d) x0 13 = 0 by omega) (show ((0 : Int)) = 0 ∨ (g_195 x0 d) x0 13 = 0 by omega) hS1
    · refine ⟨by omega, ?_⟩
      have y0 : v_196 x0 x1 d = 1 := by simp only [v_196, if_neg (show ¬ d x0 13 = 0 from c0), if_pos (show (g_195 x0 d) x0 13 = 0 from c1)]
      have y1 : g_196 x0 x1 d = g_195 x0 d := by simp only [g_196, if_neg (show ¬ d x0 13 = 0 from c0), if_pos (show (g_195 x0 d) x0 13 = 0 from c1)]
      rw [y0] at h
      rw [y1] at h
      exact h (show (0 ≤ ((1 : Int)) ∧ ((1 : Int)) ≤ 1) ∧ (((1 : Int)) = 0 ∨ ¬ x1 = 0) from (by omega)) (show ∀ b : Int, (b < x0 ∨ x0 < b) → (g_195 x0 d) b = d b from fun b hb => F1 b (by omega)) (show (g_195 x0 d) x0 9 = d x0 9 from k1_0) (show d x0 10 ≤ (g_195 x0 d) x0 10 by omega) (show d x0 13 = 0 ∨ ¬ (g_195 x0 d) x0 13 = 0 by omega) (show ((1 : Int)) = 0 ∨ (g_195 x0 d) x0 13 = 0 by omega) hS1
  · refine k_192 hS hx0 (m_inR (by omega) (by omega)) (fun e1 F2 k2_0 n2_0 n2_1 n2_2 hS2 => ?_)
    refine t_196_13 ?_
    have w8 := r_11_f9 hS2 hx0
    have w9 := r_11_f10 hS2 hx0
    have w7 := isn2 (x0 := x0) (r_11_f9 hS hx0).2
    refine ⟨m_inR (by omega) (by omega), fun c1 => ?_, fun c1 => ?_⟩
    · refine t_196_30 ?_
      have w8 := r_11_f9 hS2 hx0
      have w9 := r_11_f10 hS2 hx0
      have w7 := isn2 (x0 := x0) (r_11_f9 hS hx0).2
      refine k_195 hS2 hx0 (fun F3 k3_0 n3_0 n3_1 n3_2 hS3 => ?_)
      refine t_196_34 ?_
      have w8 := r_11_f9 hS3 hx0
      have w9 := r_11_f10 hS3 hx0
      have w7 := isn2 (x0 := x0) (r_11_f9 hS hx0).2
      have q3 := r_11_f13 hS3 hx0
      refine ⟨m_inR (by omega) (by omega), fun c2 => ?_, fun c2 => ?_⟩
      · refine ⟨by omega, ?_⟩
        have y0 : v_196 x0 x1 d = 0 := by simp only [v_196, if_pos (show d x0 13 = 0 from c0), if_pos (show v_192 x0 59 d = 0 from c1), if_neg (show ¬ (g_195 x0 (g_192 x0 59 d)) x0 13 = 0 from c2)]
        have y1 : g_196 x0 x1 d = g_195 x0 (g_192 x0 59 d) := by simp only [g_196, if_pos (show d x0 13 = 0 from c0), if_pos (show v_192 x0 59 d = 0 from c1), if_neg (show ¬ (g_195 x0 (g_192 x0 59 d)) x0 13 = 0 from c2)]
        rw [y0] at h
        rw [y1] at h
        exact h (show (0 ≤ ((0 : Int)) ∧ ((0 : Int)) ≤ 1) ∧ (((0 : Int)) = 0 ∨ ¬ x1 = 0) from (by omega)) (show ∀ b : Int, (b < x0 ∨ x0 < b) → (g_195 x0 (g_192 x0 59 d)) b = d b from fun b hb => (F3 b (by omega)).trans (F2 b (by omega))) (show (g_195 x0 (g_192 x0 59 d)) x0 9 = d x0 9 from (k3_0).trans (k2_0)) (show d x0 10 ≤ (g_195 x0 (g_192 x0 59 d)) x0 10 by omega) (show d x0 13 = 0 ∨ ¬ (g_195 x0 (g_192 x0 59 d)) x0 13 = 0 by omega) (show ((0 : Int)) = 0 ∨ (g_195 x0 (g_192 x0 59 d)) x0 13 = 0 by omega) hS3
      · refine ⟨by omega, ?_⟩
        have y0 : v_196 x0 x1 d = 1 := by simp only [v_196, if_pos (show d x0 13 = 0 from c0), if_pos (show v_192 x0 59 d = 0 from c1), if_pos (show (g_195 x0 (g_192 x0 59 d)) x0 13 = 0 from c2)]
        have y1 : g_196 x0 x1 d = g_195 x0 (g_192 x0 59 d) := by simp only [g_196, if_pos (show d x0 13 = 0 from c0), if_pos (show v_192 x0 59 d = 0 from c1), if_pos (show (g_195 x0 (g_192 x0 59 d)) x0 13 = 0 from c2)]
        rw [y0] at h
        rw [y1] at h
        exact h (show (0 ≤ ((1 : Int)) ∧ ((1 : Int)) ≤ 1) ∧ (((1 : Int)) = 0 ∨ ¬ x1 = 0) from (by omega)) (show ∀ b : Int, (b < x0 ∨ x0 < b) → (g_195 x0 (g_192 x0 59 d)) b = d b from fun b hb => (F3 b (by omega)).trans (F2 b (by omega))) (show (g_195 x0 (g_192 x0 59 d)) x0 9 = d x0 9 from (k3_0).trans (k2_0)) (show d x0 10 ≤ (g_195 x0 (g_192 x0 59 d)) x0 10 by omega) (show d x0 13 = 0 ∨ ¬ (g_195 x0 (g_192 x0 59 d)) x0 13 = 0 by omega) (show ((1 : Int)) = 0 ∨ (g_195 x0 (g_192 x0 59 d)) x0 13 = 0 by omega) hS3
    · refine ⟨m_inR (by omega) (by omega), fun c2 => ?_, fun c2 => ?_⟩
      · refine t_196_30 ?_
        have w8 := r_11_f9 hS2 hx0
        have w9 := r_11_f10 hS2 hx0
        have w7 := isn2 (x0 := x0) (r_11_f9 hS hx0).2
        refine k_195 hS2 hx0 (fun F4 k4_0 n4_0 n4_1 n4_2 hS4 => ?_)
        refine t_196_34 ?_
        have w8 := r_11_f9 hS4 hx0
        have w9 := r_11_f10 hS4 hx0
        have w7 := isn2 (x0 := x0) (r_11_f9 hS hx0).2
        have q4 := r_11_f13 hS4 hx0
        refine ⟨m_inR (by omega) (by omega), fun c3 => ?_, fun c3 => ?_⟩
        · refine ⟨by omega, ?_⟩
          have y0 : v_196 x0 x1 d = 0 := by simp only [v_196, if_pos (show d x0 13 = 0 from c0), if_neg (show ¬ v_192 x0 59 d = 0 from c1), if_neg (show ¬ x1 = 0 from c2), if_neg (show ¬ (g_195 x0 (g_192 x0 59 d)) x0 13 = 0 from c3)]
          have y1 : g_196 x0 x1 d = g_195 x0 (g_192 x0 59 d) := by simp only [g_196, if_pos (show d x0 13 = 0 from c0), if_neg (show ¬ v_192 x0 59 d = 0 from c1), if_neg (show ¬ x1 = 0 from c2), if_neg (show ¬ (g_195 x0 (g_192 x0 59 d)) x0 13 = 0 from c3)]
          rw [y0] at h
          rw [y1] at h
          exact h (show (0 ≤ ((0 : Int)) ∧ ((0 : Int)) ≤ 1) ∧ (((0 : Int)) = 0 ∨ ¬ x1 = 0) from (by omega)) (show ∀ b : Int, (b < x0 ∨ x0 < b) → (g_195 x0 (g_192 x0 59 d)) b = d b from fun b hb => (F4 b (by omega)).trans (F2 b (by omega))) (show (g_195 x0 (g_192 x0 59 d)) x0 9 = d x0 9 from (k4_0).trans (k2_0)) (show d x0 10 ≤ (g_195 x0 (g_192 x0 59 d)) x0 10 by omega) (show d x0 13 = 0 ∨ ¬ (g_195 x0 (g_192 x0 59 d)) x0 13 = 0 by omega) (show ((0 : Int)) = 0 ∨ (g_195 x0 (g_192 x0 59 d)) x0 13 = 0 by omega) hS4
        · refine ⟨by omega, ?_⟩
          have y0 : v_196 x0 x1 d = 1 := by simp only [v_196, if_pos (show d x0 13 = 0 from c0), if_neg (show ¬ v_192 x0 59 d = 0 from c1), if_neg (show ¬ x1 = 0 from c2), if_pos (show (g_195 x0 (g_192 x0 59 d)) x0 13 = 0 from c3)]
          have y1 : g_196 x0 x1 d = g_195 x0 (g_192 x0 59 d) := by simp only [g_196, if_pos (show d x0 13 = 0 from c0), if_neg (show ¬ v_192 x0 59 d = 0 from c1), if_neg (show ¬ x1 = 0 from c2), if_pos (show (g_195 x0 (g_192 x0 59 d)) x0 13 = 0 from c3)]
          rw [y0] at h
          rw [y1] at h
          exact h (show (0 ≤ ((1 : Int)) ∧ ((1 : Int)) ≤ 1) ∧ (((1 : Int)) = 0 ∨ ¬ x1 = 0) from (by omega)) (show ∀ b : Int, (b < x0 ∨ x0 < b) → (g_195 x0 (g_192 x0 59 d)) b = d b from fun b hb => (F4 b (by omega)).trans (F2 b (by omega))) (show (g_195 x0 (g_192 x0 59 d)) x0 9 = d x0 9 from (k4_0).trans (k2_0)) (show d x0 10 ≤ (g_195 x0 (g_192 x0 59 d)) x0 10 by omega) (show d x0 13 = 0 ∨ ¬ (g_195 x0 (g_192 x0 59 d)) x0 13 = 0 by omega) (show ((1 : Int)) = 0 ∨ (g_195 x0 (g_192 x0 59 d)) x0 13 = 0 by omega) hS4
      · have q5 := r_11_f10 hS2 hx0
        refine k_188 hS2 hx0 (by omega) (by omega) (fun F5 k5_0 n5_0 n5_1 n5_2 hS5 => ?_)
        refine t_196_30 ?_
        have w8 := r_11_f9 hS5 hx0
        have w9 := r_11_f10 hS5 hx0
        have w7 := isn2 (x0 := x0) (r_11_f9 hS hx0).2
        refine k_195 hS5 hx0 (fun F6 k6_0 n6_0 n6_1 n6_2 hS6 => ?_)
        refine t_196_34 ?_
        have w8 := r_11_f9 hS6 hx0
        have w9 := r_11_f10 hS6 hx0
        have w7 := isn2 (x0 := x0) (r_11_f9 hS hx0).2
        have q6 := r_11_f13 hS6 hx0
        refine ⟨m_inR (by omega) (by omega), fun c3 => ?_, fun c3 => ?_⟩
        · refine ⟨by omega, ?_⟩
          have y0 : v_196 x0 x1 d = 0 := by simp only [v_196, if_pos (show d x0 13 = 0 from c0), if_neg (show ¬ v_192 x0 59 d = 0 from c1), if_pos (show x1 = 0 from c2), if_neg (show ¬ (g_195 x0 (g_188 x0 6 ((g_192 x0 59 d) x0 10) (g_192 x0 59 d))) x0 13 = 0 from c3)]
          have y1 : g_196 x0 x1 d = g_195 x0 (g_188 x0 6 ((g_192 x0 59 d) x0 10) (g_192 x0 59 d)) := by simp only [g_196, if_pos (show d x0 13 = 0 from c0), if_neg (show ¬ v_192 x0 59 d = 0 from c1), if_pos (show x1 = 0 from c2), if_neg (show ¬ (g_195 x0 (g_188 x0 6 ((g_192 x0 59 d) x0 10) (g_192 x0 59 d))) x0 13 = 0 from c3)]
          rw [y0] at h
          rw [y1] at h
          exact h (show (0 ≤ ((0 : Int)) ∧ ((0 : Int)) ≤ 1) ∧ (((0 : Int)) = 0 ∨ ¬ x1 = 0) from (by omega)) (show ∀ b : Int, (b < x0 ∨ x0 < b) → (g_195 x0 (g_188 x0 6 ((g_192 x0 59 d) x0 10) (g_192 x0 59 d))) b = d b from fun b hb => (F6 b (by omega)).trans ((F5 b (by omega)).trans (F2 b (by omega)))) (show (g_195 x0 (g_188 x0 6 ((g_192 x0 59 d) x0 10) (g_192 x0 59 d))) x0 9 = d x0 9 from ((k6_0).trans (k5_0)).trans (k2_0)) (show d x0 10 ≤ (g_195 x0 (g_188 x0 6 ((g_192 x0 59 d) x0 10) (g_192 x0 59 d))) x0 10 by omega) (show d x0 13 = 0 ∨ ¬ (g_195 x0 (g_188 x0 6 ((g_192 x0 59 d) x0 10) (g_192 x0 59 d))) x0 13 = 0 by omega) (show ((0 : Int)) = 0 ∨ (g_195 x0 (g_188 x0 6 ((g_192 x0 59 d) x0 10) (g_192 x0 59 d))) x0 13 = 0 by omega) hS6
        · refine ⟨by omega, ?_⟩
          have y0 : v_196 x0 x1 d = 1 := by simp only [v_196, if_pos (show d x0 13 = 0 from c0), if_neg (show ¬ v_192 x0 59 d = 0 from c1), if_pos (show x1 = 0 from c2), if_pos (show (g_195 x0 (g_188 x0 6 ((g_192 x0 59 d) x0 10) (g_192 x0 59 d))) x0 13 = 0 from c3)]
          have y1 : g_196 x0 x1 d = g_195 x0 (g_188 x0 6 ((g_192 x0 59 d) x0 10) (g_192 x0 59 d)) := by simp only [g_196, if_pos (show d x0 13 = 0 from c0), if_neg (show ¬ v_192 x0 59 d = 0 from c1), if_pos (show x1 = 0 from c2), if_pos (show (g_195 x0 (g_188 x0 6 ((g_192 x0 59 d) x0 10) (g_192 x0 59 d))) x0 13 = 0 from c3)]
          rw [y0] at h
          rw [y1] at h
          exact h (show (0 ≤ ((1 : Int)) ∧ ((1 : Int)) ≤ 1) ∧ (((1 : Int)) = 0 ∨ ¬ x1 = 0) from (by omega)) (show ∀ b : Int, (b < x0 ∨ x0 < b) → (g_195 x0 (g_188 x0 6 ((g_192 x0 59 d) x0 10) (g_192 x0 59 d))) b = d b from fun b hb => (F6 b (by omega)).trans ((F5 b (by omega)).trans (F2 b (by omega)))) (show (g_195 x0 (g_188 x0 6 ((g_192 x0 59 d) x0 10) (g_192 x0 59 d))) x0 9 = d x0 9 from ((k6_0).trans (k5_0)).trans (k2_0)) (show d x0 10 ≤ (g_195 x0 (g_188 x0 6 ((g_192 x0 59 d) x0 10) (g_192 x0 59 d))) x0 10 by omega) (show d x0 13 = 0 ∨ ¬ (g_195 x0 (g_188 x0 6 ((g_192 x0 59 d) x0 10) (g_192 x0 59 d))) x0 13 = 0 by omega) (show ((1 : Int)) = 0 ∨ (g_195 x0 (g_188 x0 6 ((g_192 x0 59 d) x0 10) (g_192 x0 59 d))) x0 13 = 0 by omega) hS6
def v_198 (x0 : Int) (d : mD) : Int := if d x0 13 = 0 then (if (0 : Int) < mcmp (v_193 x0 6 d) 0 then (if (g_193 x0 6 d) x0 13 = 0 then v_193 x0 6 d else 0) else if (g_188 x0 1 ((g_193 x0 6 d) x0 16) (g_193 x0 6 d)) x0 13 = 0 then v_193 x0 6 d else 0) else 0
def g_198 (x0 : Int) (d : mD) : mD := if d x0 13 = 0 then (if (0 : Int) < mcmp (v_193 x0 6 d) 0 then g_193 x0 6 d else g_188 x0 1 ((g_193 x0 6 d) x0 16) (g_193 x0 6 d)) else d
theorem k_198 {E : mO × tW} {K : tK} {d : mD} {x0 : Int} (hS : Safe d) (hx0 : mdB x0) (h : (0 ≤ (v_198 x0 d) ∧ (v_198 x0 d) ≤ 387420488) → (∀ b : Int, (b < x0 ∨ x0 < b) → (g_198 x0 d) b = d b) → (g_198 x0 d) x0 9 = d x0 9 → (d x0 10 ≤ (g_198 x0 d) x0 10) → (d x0 13 = 0 ∨ ¬ (g_198 x0 d) x0 13 = 0) → Safe (g_198 x0 d) → K (.inl (some (0, (v_198 x0 d)))) (g_198 x0 d)) : tCall E 198 [.inr (11, x0)] d K := by
  refine t_198_0 ?_
  have w8 := r_11_f9 hS hx0
  have w9 := r_11_f10 hS hx0
  have q1 := r_11_f13 hS hx0
  refine ⟨m_inR (by omega) (by omega), fun c0 => ?_, fun c0 => ?_⟩
  · refine k_193 hS hx0 (by omega) (by omega) (fun e1 F1 k1_0 n1_0 n1_1 n1_2 hS1 => ?_)
    refine t_198_15 ?_
    have w8 := r_11_f9 hS1 hx0
    have w9 := r_11_f10 hS1 hx0
    have q2 := mcmp_r (v_193 x0 6 d) 0
    refine ⟨⟨⟨by omega, by omega⟩, ⟨by omega, by omega⟩⟩, m_inR (by omega) (by omega), fun c1 => ?_, fun c1 => ?_⟩
    · refine t_198_31 ?_
      have w8 := r_11_f9 hS1 hx0
      have w9 := r_11_f10 hS1 hx0
      have q3 := r_11_f13 hS1 hx0
      refine ⟨m_inR (by omega) (by omega), fun c2 => ?_, fun c2 => ?_⟩
      · have y0 : v_198 x0 d = v_193 x0 6 d := by simp only [v_198, if_pos (show d x0 13 = 0 from c0), if_pos (show (0 : Int) < mcmp (v_193 x0 6 d) 0 from c1), if_pos (show (g_193 x0 6 d) x0 13 = 0 from c2)]
        have y1 : g_198 x0 d = g_193 x0 6 d := by simp only [g_198, if_pos (show d x0 13 = 0 from c0), if_pos (show (0 : Int) < mcmp (v_193 x0 6 d) 0 from c1), if_pos (show (g_193 x0 6 d) x0 13 = 0 from c2)]
        rw [y0] at h
        rw [y1] at h
        exact h (show 0 ≤ (v_193 x0 6 d) ∧ (v_193 x0 6 d) ≤ 387420488 from (by omega)) (show ∀ b : Int, (b < x0 ∨ x0 < b) → (g_193 x0 6 d) b = d b from fun b hb => F1 b (by omega)) (show (g_193 x0 6 d) x0 9 = d x0 9 from k1_0) (show d x0 10 ≤ (g_193 x0 6 d) x0 10 by omega) (show d x0 13 = 0 ∨ ¬ (g_193 x0 6 d) x0 13 = 0 by omega) hS1
      · have y0 : v_198 x0 d = 0 := by simp only [v_198, if_pos (show d x0 13 = 0 from c0), if_pos (show (0 : Int) < mcmp (v_193 x0 6 d) 0 from c1), if_neg (show ¬ (g_193 x0 6 d) x0 13 = 0 from c2)]
        have y1 : g_198 x0 d = g_193 x0 6 d := by simp only [g_198, if_pos (show d x0 13 = 0 from c0), if_pos (show (0 : Int) < mcmp (v_193 x0 6 d) 0 from c1), if_neg (show ¬ (g_193 x0 6 d) x0 13 = 0 from c2)]
        rw [y0] at h
        rw [y1] at h
        exact h (show 0 ≤ ((0 : Int)) ∧ ((0 : Int)) ≤ 387420488 from (by omega)) (show ∀ b : Int, (b < x0 ∨ x0 < b) → (g_193 x0 6 d) b = d b from fun b hb => F1 b (by omega)) (show (g_193 x0 6 d) x0 9 = d x0 9 from k1_0) (show d x0 10 ≤ (g_193 x0 6 d) x0 10 by omega) (show d x0 13 = 0 ∨ ¬ (g_193 x0 6 d) x0 13 = 0 by omega) hS1
    · have q4 := r_11_f16 hS1 hx0
      refine k_188 hS1 hx0 (by omega) (by omega) (fun F2 k2_0 n2_0 n2_1 n2_2 hS2 => ?_)
      refine t_198_31 ?_
      have w8 := r_11_f9 hS2 hx0
      have w9 := r_11_f10 hS2 hx0
      have q5 := r_11_f13 hS2 hx0
      refine ⟨m_inR (by omega) (by omega), fun c2 => ?_, fun c2 => ?_⟩
      · have y0 : v_198 x0 d = v_193 x0 6 d := by simp only [v_198, if_pos (show d x0 13 = 0 from c0), if_neg (show ¬ (0 : Int) < mcmp (v_193 x0 6 d) 0 from Int.not_lt.mpr c1), if_pos (show (g_188 x0 1 ((g_193 x0 6 d) x0 16) (g_193 x0 6 d)) x0 13 = 0 from c2)]
        have y1 : g_198 x0 d = g_188 x0 1 ((g_193 x0 6 d) x0 16) (g_193 x0 6 d) := by simp only [g_198, if_pos (show d x0 13 = 0 from c0), if_neg (show ¬ (0 : Int) < mcmp (v_193 x0 6 d) 0 from Int.not_lt.mpr c1), if_pos (show (g_188 x0 1 ((g_193 x0 6 d) x0 16) (g_193 x0 6 d)) x0 13 = 0 from c2)]
        rw [y0] at h
        rw [y1] at h
        exact h (show 0 ≤ (v_193 x0 6 d) ∧ (v_193 x0 6 d) ≤ 387420488 from (by omega)) (show ∀ b : Int, (b < x0 ∨ x0 < b) → (g_188 x0 1 ((g_193 x0 6 d) x0 16) (g_193 x0 6 d)) b = d b from fun b hb => (F2 b (by omega)).trans (F1 b (by omega))) (show (g_188 x0 1 ((g_193 x0 6 d) x0 16) (g_193 x0 6 d)) x0 9 = d x0 9 from (k2_0).trans (k1_0)) (show d x0 10 ≤ (g_188 x0 1 ((g_193 x0 6 d) x0 16) (g_193 x0 6 d)) x0 10 by omega) (show d x0 13 = 0 ∨ ¬ (g_188 x0 1 ((g_193 x0 6 d) x0 16) (g_193 x0 6 d)) x0 13 = 0 by omega) hS2
      · have y0 : v_198 x0 d = 0 := by simp only [v_198, if_pos (show d x0 13 = 0 from c0), if_neg (show ¬ (0 : Int) < mcmp (v_193 x0 6 d) 0 from Int.not_lt.mpr c1), if_neg (show ¬ (g_188 x0 1 ((g_193 x0 6 d) x0 16) (g_193 x0 6 d)) x0 13 = 0 from c2)]
        have y1 : g_198 x0 d = g_188 x0 1 ((g_193 x0 6 d) x0 16) (g_193 x0 6 d) := by simp only [g_198, if_pos (show d x0 13 = 0 from c0), if_neg (show ¬ (0 : Int) < mcmp (v_193 x0 6 d) 0 from Int.not_lt.mpr c1), if_neg (show ¬ (g_188 x0 1 ((g_193 x0 6 d) x0 16) (g_193 x0 6 d)) x0 13 = 0 from c2)]
        rw [y0] at h
        rw [y1] at h
        exact h (show 0 ≤ ((0 : Int)) ∧ ((0 : Int)) ≤ 387420488 from (by omega)) (show ∀ b : Int, (b < x0 ∨ x0 < b) → (g_188 x0 1 ((g_193 x0 6 d) x0 16) (g_193 x0 6 d)) b = d b from fun b hb => (F2 b (by omega)).trans (F1 b (by omega))) (show (g_188 x0 1 ((g_193 x0 6 d) x0 16) (g_193 x0 6 d)) x0 9 = d x0 9 from (k2_0).trans (k1_0)) (show d x0 10 ≤ (g_188 x0 1 ((g_193 x0 6 d) x0 16) (g_193 x0 6 d)) x0 10 by omega) (show d x0 13 = 0 ∨ ¬ (g_188 x0 1 ((g_193 x0 6 d) x0 16) (g_193 x0 6 d)) x0 13 = 0 by omega) hS2
  · have y0 : v_198 x0 d = 0 := by simp only [v_198, if_neg (show ¬ d x0 13 = 0 from c0)]
    have y1 : g_198 x0 d = d := by simp only [g_198, if_neg (show ¬ d x0 13 = 0 from c0)]
    rw [y0] at h
    rw [y1] at h
    exact h (show 0 ≤ ((0 : Int)) ∧ ((0 : Int)) ≤ 387420488 from (by omega)) (show ∀ b : Int, (b < x0 ∨ x0 < b) → d b = d b from fun _ _ => rfl) (show d x0 9 = d x0 9 from rfl) (show d x0 10 ≤ d x0 10 by omega) (show d x0 13 = 0 ∨ ¬ d x0 13 = 0 by omega) hS
def v_199 (x0 x1 : Int) (d : mD) : Int := if v_183 x0 (v_198 x0 d) (g_198 x0 d) = (-1) then (if (g_188 x0 4 ((g_198 x0 d) x0 16) (g_198 x0 d)) x0 13 = 0 then v_183 x0 (v_198 x0 d) (g_198 x0 d) else 0) else if x1 = 0 then (if (g_198 x0 d) x0 13 = 0 then v_183 x0 (v_198 x0 d) (g_198 x0 d) else 0) else if v_201 x0 (v_183 x0 (v_198 x0 d) (g_198 x0 d)) (g_198 x0 d) = (-1) then (if (g_188 x0 4 ((g_198 x0 d) x0 16) (g_198 x0 d)) x0 13 = 0 then v_183 x0 (v_198 x0 d) (g_198 x0 d) else 0) else if (g_198 x0 d) x0 13 = 0 then v_183 x0 (v_198 x0 d) (g_198 x0 d) else 0
def g_199 (x0 x1 : Int) (d : mD) : mD := if v_183 x0 (v_198 x0 d) (g_198 x0 d) = (-1) then g_188 x0 4 ((g_198 x0 d) x0 16) (g_198 x0 d) else if x1 = 0 then g_198 x0 d else if v_201 x0 (v_183 x0 (v_198 x0 d) (g_198 x0 d)) (g_198 x0 d) = (-1) then g_188 x0 4 ((g_198 x0 d) x0 16) (g_198 x0 d) else g_198 x0 d
theorem k_199 {E : mO × tW} {K : tK} {d : mD} {x0 x1 : Int} (hS : Safe d) (hx0 : mdB x0) (p1 : 0 ≤ x1 ∧ x1 ≤ 1) (h : (0 ≤ (v_199 x0 x1 d) ∧ (v_199 x0 x1 d) ≤ 15) → (∀ b : Int, (b < x0 ∨ x0 < b) → (g_199 x0 x1 d) b = d b) → (g_199 x0 x1 d) x0 9 = d x0 9 → (d x0 10 ≤ (g_199 x0 x1 d) x0 10) → (d x0 13 = 0 ∨ ¬ (g_199 x0 x1 d) x0 13 = 0) → (¬ (g_199 x0 x1 d) x0 13 = 0 ∨ x1 = 0 ∨ 0 ≤ v_201 x0 (v_199 x0 x1 d) (g_199 x0 x1 d)) → Safe (g_199 x0 x1 d) → K (.inl (some (0, (v_199 x0 x1 d)))) (g_199 x0 x1 d)) : tCall E 199 [.inr (11, x0), .inl (0, x1)] d K := by
  refine t_199_0 ?_
  have w8 := r_11_f9 hS hx0
  have w9 := r_11_f10 hS hx0
  refine k_198 hS hx0 (fun e1 F1 k1_0 n1_0 n1_1 hS1 => ?_)
  refine t_199_5 ?_
  have w8 := r_11_f9 hS1 hx0
  have w9 := r_11_f10 hS1 hx0
  refine k_183 hS1 hx0 (m_inR (by omega) (by omega)) (fun e2 => ?_)
  refine t_199_8 ?_
  have w8 := r_11_f9 hS1 hx0
  have w9 := r_11_f10 hS1 hx0
  refine ⟨⟨m_inR (by omega) (by omega), m_inR (by omega) (by omega)⟩, fun c0 => ?_, fun c0 => ?_⟩
  · have q1 := r_11_f16 hS1 hx0
    refine k_188 hS1 hx0 (by omega) (by omega) (fun F2 k2_0 n2_0 n2_1 n2_2 hS2 => ?_)
    refine t_199_36 ?_
    have w8 := r_11_f9 hS2 hx0
    have w9 := r_11_f10 hS2 hx0
    have q2 := r_11_f13 hS2 hx0
    refine ⟨m_inR (by omega) (by omega), fun c1 => ?_, fun c1 => ?_⟩
    · have y0 : v_199 x0 x1 d = v_183 x0 (v_198 x0 d) (g_198 x0 d) := by simp only [v_199, if_pos (show v_183 x0 (v_198 x0 d) (g_198 x0 d) = (-1) from c0), if_pos (show (g_188 x0 4 ((g_198 x0 d) x0 16) (g_198 x0 d)) x0 13 = 0 from c1)]
      have y1 : g_199 x0 x1 d = g_188 x0 4 ((g_198 x0 d) x0 16) (g_198 x0 d) := by simp only [g_199, if_pos (show v_183 x0 (v_198 x0 d) (g_198 x0 d) = (-1) from c0), if_pos (show (g_188 x0 4 ((g_198 x0 d) x0 16) (g_198 x0 d)) x0 13 = 0 from c1)]
      rw [y0] at h
      rw [y1] at h
      exact h (show 0 ≤ (v_183 x0 (v_198 x0 d) (g_198 x0 d)) ∧ (v_183 x0 (v_198 x0 d) (g_198 x0 d)) ≤ 15 from (by omega)) (show ∀ b : Int, (b < x0 ∨ x0 < b) → (g_188 x0 4 ((g_198 x0 d) x0 16) (g_198 x0 d)) b = d b from fun b hb => (F2 b (by omega)).trans (F1 b (by omega))) (show (g_188 x0 4 ((g_198 x0 d) x0 16) (g_198 x0 d)) x0 9 = d x0 9 from (k2_0).trans (k1_0)) (show d x0 10 ≤ (g_188 x0 4 ((g_198 x0 d) x0 16) (g_198 x0 d)) x0 10 by omega) (show d x0 13 = 0 ∨ ¬ (g_188 x0 4 ((g_198 x0 d) x0 16) (g_198 x0 d)) x0 13 = 0 by omega) (show ¬ (g_188 x0 4 ((g_198 x0 d) x0 16) (g_198 x0 d)) x0 13 = 0 ∨ x1 = 0 ∨ 0 ≤ v_201 x0 (v_183 x0 (v_198 x0 d) (g_198 x0 d)) (g_188 x0 4 ((g_198 x0 d) x0 16) (g_198 x0 d)) by omega) hS2
    · have y0 : v_199 x0 x1 d = 0 := by simp only [v_199, if_pos (show v_183 x0 (v_198 x0 d) (g_198 x0 d) = (-1) from c0), if_neg (show ¬ (g_188 x0 4 ((g_198 x0 d) x0 16) (g_198 x0 d)) x0 13 = 0 from c1)]
      have y1 : g_199 x0 x1 d = g_188 x0 4 ((g_198 x0 d) x0 16) (g_198 x0 d) := by simp only [g_199, if_pos (show v_183 x0 (v_198 x0 d) (g_198 x0 d) = (-1) from c0), if_neg (show ¬ (g_188 x0 4 ((g_198 x0 d) x0 16) (g_198 x0 d)) x0 13 = 0 from c1)]
      rw [y0] at h
      rw [y1] at h
      exact h (show 0 ≤ ((0 : Int)) ∧ ((0 : Int)) ≤ 15 from (by omega)) (show ∀ b : Int, (b < x0 ∨ x0 < b) → (g_188 x0 4 ((g_198 x0 d) x0 16) (g_198 x0 d)) b = d b from fun b hb => (F2 b (by omega)).trans (F1 b (by omega))) (show (g_188 x0 4 ((g_198 x0 d) x0 16) (g_198 x0 d)) x0 9 = d x0 9 from (k2_0).trans (k1_0)) (show d x0 10 ≤ (g_188 x0 4 ((g_198 x0 d) x0 16) (g_198 x0 d)) x0 10 by omega) (show d x0 13 = 0 ∨ ¬ (g_188 x0 4 ((g_198 x0 d) x0 16) (g_198 x0 d)) x0 13 = 0 by omega) (show ¬ (g_188 x0 4 ((g_198 x0 d) x0 16) (g_198 x0 d)) x0 13 = 0 ∨ x1 = 0 ∨ 0 ≤ v_201 x0 ((0 : Int)) (g_188 x0 4 ((g_198 x0 d) x0 16) (g_198 x0 d)) by omega) hS2
  · refine ⟨m_inR (by omega) (by omega), fun c1 => ?_, fun c1 => ?_⟩
    · refine t_199_36 ?_
      have w8 := r_11_f9 hS1 hx0
      have w9 := r_11_f10 hS1 hx0
      have q3 := r_11_f13 hS1 hx0
      refine ⟨m_inR (by omega) (by omega), fun c2 => ?_, fun c2 => ?_⟩
      · have y0 : v_199 x0 x1 d = v_183 x0 (v_198 x0 d) (g_198 x0 d) := by simp only [v_199, if_neg (show ¬ v_183 x0 (v_198 x0 d) (g_198 x0 d) = (-1) from c0), if_pos (show x1 = 0 from c1), if_pos (show (g_198 x0 d) x0 13 = 0 from c2)]
        have y1 : g_199 x0 x1 d = g_198 x0 d := by simp only [g_199, if_neg (show ¬ v_183 x0 (v_198 x0 d) (g_198 x0 d) = (-1) from c0), if_pos (show x1 = 0 from c1), if_pos (show (g_198 x0 d) x0 13 = 0 from c2)]
        rw [y0] at h
        rw [y1] at h
        exact h (show 0 ≤ (v_183 x0 (v_198 x0 d) (g_198 x0 d)) ∧ (v_183 x0 (v_198 x0 d) (g_198 x0 d)) ≤ 15 from (by omega)) (show ∀ b : Int, (b < x0 ∨ x0 < b) → (g_198 x0 d) b = d b from fun b hb => F1 b (by omega)) (show (g_198 x0 d) x0 9 = d x0 9 from k1_0) (show d x0 10 ≤ (g_198 x0 d) x0 10 by omega) (show d x0 13 = 0 ∨ ¬ (g_198 x0 d) x0 13 = 0 by omega) (show ¬ (g_198 x0 d) x0 13 = 0 ∨ x1 = 0 ∨ 0 ≤ v_201 x0 (v_183 x0 (v_198 x0 d) (g_198 x0 d)) (g_198 x0 d) by omega) hS1
      · have y0 : v_199 x0 x1 d = 0 := by simp only [v_199, if_neg (show ¬ v_183 x0 (v_198 x0 d) (g_198 x0 d) = (-1) from c0), if_pos (show x1 = 0 from c1), if_neg (show ¬ (g_198 x0 d) x0 13 = 0 from c2)]
        have y1 : g_199 x0 x1 d = g_198 x0 d := by simp only [g_199, if_neg (show ¬ v_183 x0 (v_198 x0 d) (g_198 x0 d) = (-1) from c0), if_pos (show x1 = 0 from c1), if_neg (show ¬ (g_198 x0 d) x0 13 = 0 from c2)]
        rw [y0] at h
        rw [y1] at h
        exact h (show 0 ≤ ((0 : Int)) ∧ ((0 : Int)) ≤ 15 from (by omega)) (show ∀ b : Int, (b < x0 ∨ x0 < b) → (g_198 x0 d) b = d b from fun b hb => F1 b (by omega)) (show (g_198 x0 d) x0 9 = d x0 9 from k1_0) (show d x0 10 ≤ (g_198 x0 d) x0 10 by omega) (show d x0 13 = 0 ∨ ¬ (g_198 x0 d) x0 13 = 0 by omega) (show ¬ (g_198 x0 d) x0 13 = 0 ∨ x1 = 0 ∨ 0 ≤ v_201 x0 ((0 : Int)) (g_198 x0 d) by omega) hS1
    · refine k_201 hS1 hx0 (m_inR (by omega) (by omega)) (fun e3 => ?_)
      refine t_199_23 ?_
      have w8 := r_11_f9 hS1 hx0
      have w9 := r_11_f10 hS1 hx0
      refine ⟨⟨m_inR (by omega) (by omega), m_inR (by omega) (by omega)⟩, fun c2 => ?_, fun c2 => ?_⟩
      · refine t_199_36 ?_
        have w8 := r_11_f9 hS1 hx0
        have w9 := r_11_f10 hS1 hx0
        have q4 := r_11_f13 hS1 hx0
        refine ⟨m_inR (by omega) (by omega), fun c3 => ?_, fun c3 => ?_⟩
        · have y0 : v_199 x0 x1 d = v_183 x0 (v_198 x0 d) (g_198 x0 d) := by simp only [v_199, if_neg (show ¬ v_183 x0 (v_198 x0 d) (g_198 x0 d) = (-1) from c0), if_neg (show ¬ x1 = 0 from c1), if_neg (show ¬ v_201 x0 (v_183 x0 (v_198 x0 d) (g_198 x0 d)) (g_198 x0 d) = (-1) from c2), if_pos (show (g_198 x0 d) x0 13 = 0 from c3)]
          have y1 : g_199 x0 x1 d = g_198 x0 d := by simp only [g_199, if_neg (show ¬ v_183 x0 (v_198 x0 d) (g_198 x0 d) = (-1) from c0), if_neg (show ¬ x1 = 0 from c1), if_neg (show ¬ v_201 x0 (v_183 x0 (v_198 x0 d) (g_198 x0 d)) (g_198 x0 d) = (-1) from c2), if_pos (show (g_198 x0 d) x0 13 = 0 from c3)]
          rw [y0] at h
          rw [y1] at h
          exact h (show 0 ≤ (v_183 x0 (v_198 x0 d) (g_198 x0 d)) ∧ (v_183 x0 (v_198 x0 d) (g_198 x0 d)) ≤ 15 from (by omega)) (show ∀ b : Int, (b < x0 ∨ x0 < b) → (g_198 x0 d) b = d b from fun b hb => F1 b (by omega)) (show (g_198 x0 d) x0 9 = d x0 9 from k1_0) (show d x0 10 ≤ (g_198 x0 d) x0 10 by omega) (show d x0 13 = 0 ∨ ¬ (g_198 x0 d) x0 13 = 0 by omega) (show ¬ (g_198 x0 d) x0 13 = 0 ∨ x1 = 0 ∨ 0 ≤ v_201 x0 (v_183 x0 (v_198 x0 d) (g_198 x0 d)) (g_198 x0 d) by omega) hS1
        · have y0 : v_199 x0 x1 d = 0 := by simp only [v_199, if_neg (show ¬ v_183 x0 (v_198 x0 d) (g_198 x0 d) = (-1) from c0), if_neg (show ¬ x1 = 0 from c1), if_neg (show ¬ v_201 x0 (v_183 x0 (v_198 x0 d) (g_198 x0 d)) (g_198 x0 d) = (-1) from c2), if_neg (show ¬ (g_198 x0 d) x0 13 = 0 from c3)]
          have y1 : g_199 x0 x1 d = g_198 x0 d := by simp only [g_199, if_neg (show ¬ v_183 x0 (v_198 x0 d) (g_198 x0 d) = (-1) from c0), if_neg (show ¬ x1 = 0 from c1), if_neg (show ¬ v_201 x0 (v_183 x0 (v_198 x0 d) (g_198 x0 d)) (g_198 x0 d) = (-1) from c2), if_neg (show ¬ (g_198 x0 d) x0 13 = 0 from c3)]
          rw [y0] at h
          rw [y1] at h
          exact h (show 0 ≤ ((0 : Int)) ∧ ((0 : Int)) ≤ 15 from (by omega)) (show ∀ b : Int, (b < x0 ∨ x0 < b) → (g_198 x0 d) b = d b from fun b hb => F1 b (by omega)) (show (g_198 x0 d) x0 9 = d x0 9 from k1_0) (show d x0 10 ≤ (g_198 x0 d) x0 10 by omega) (show d x0 13 = 0 ∨ ¬ (g_198 x0 d) x0 13 = 0 by omega) (show ¬ (g_198 x0 d) x0 13 = 0 ∨ x1 = 0 ∨ 0 ≤ v_201 x0 ((0 : Int)) (g_198 x0 d) by omega) hS1
      · have q5 := r_11_f16 hS1 hx0
        refine k_188 hS1 hx0 (by omega) (by omega) (fun F3 k3_0 n3_0 n3_1 n3_2 hS3 => ?_)
        refine t_199_36 ?_
        have w8 := r_11_f9 hS3 hx0
        have w9 := r_11_f10 hS3 hx0
        have q6 := r_11_f13 hS3 hx0
        refine ⟨m_inR (by omega) (by omega), fun c3 => ?_, fun c3 => ?_⟩
        · have y0 : v_199 x0 x1 d = v_183 x0 (v_198 x0 d) (g_198 x0 d) := by simp only [v_199, if_neg (show ¬ v_183 x0 (v_198 x0 d) (g_198 x0 d) = (-1) from c0), if_neg (show ¬ x1 = 0 from c1), if_pos (show v_201 x0 (v_183 x0 (v_198 x0 d) (g_198 x0 d)) (g_198 x0 d) = (-1) from c2), if_pos (show (g_188 x0 4 ((g_198 x0 d) x0 16) (g_198 x0 d)) x0 13 = 0 from c3)]
          have y1 : g_199 x0 x1 d = g_188 x0 4 ((g_198 x0 d) x0 16) (g_198 x0 d) := by simp only [g_199, if_neg (show ¬ v_183 x0 (v_198 x0 d) (g_198 x0 d) = (-1) from c0), if_neg (show ¬ x1 = 0 from c1), if_pos (show v_201 x0 (v_183 x0 (v_198 x0 d) (g_198 x0 d)) (g_198 x0 d) = (-1) from c2), if_pos (show (g_188 x0 4 ((g_198 x0 d) x0 16) (g_198 x0 d)) x0 13 = 0 from c3)]
          rw [y0] at h
          rw [y1] at h
          exact h (show 0 ≤ (v_183 x0 (v_198 x0 d) (g_198 x0 d)) ∧ (v_183 x0 (v_198 x0 d) (g_198 x0 d)) ≤ 15 from (by omega)) (show ∀ b : Int, (b < x0 ∨ x0 < b) → (g_188 x0 4 ((g_198 x0 d) x0 16) (g_198 x0 d)) b = d b from fun b hb => (F3 b (by omega)).trans (F1 b (by omega))) (show (g_188 x0 4 ((g_198 x0 d) x0 16) (g_198 x0 d)) x0 9 = d x0 9 from (k3_0).trans (k1_0)) (show d x0 10 ≤ (g_188 x0 4 ((g_198 x0 d) x0 16) (g_198 x0 d)) x0 10 by omega) (show d x0 13 = 0 ∨ ¬ (g_188 x0 4 ((g_198 x0 d) x0 16) (g_198 x0 d)) x0 13 = 0 by omega) (show ¬ (g_188 x0 4 ((g_198 x0 d) x0 16) (g_198 x0 d)) x0 13 = 0 ∨ x1 = 0 ∨ 0 ≤ v_201 x0 (v_183 x0 (v_198 x0 d) (g_198 x0 d)) (g_188 x0 4 ((g_198 x0 d) x0 16) (g_198 x0 d)) by omega) hS3
        · have y0 : v_199 x0 x1 d = 0 := by simp only [v_199, if_neg (show ¬ v_183 x0 (v_198 x0 d) (g_198 x0 d) = (-1) from c0), if_neg (show ¬ x1 = 0 from c1), if_pos (show v_201 x0 (v_183 x0 (v_198 x0 d) (g_198 x0 d)) (g_198 x0 d) = (-1) from c2), if_neg (show ¬ (g_188 x0 4 ((g_198 x0 d) x0 16) (g_198 x0 d)) x0 13 = 0 from c3)]
          have y1 : g_199 x0 x1 d = g_188 x0 4 ((g_198 x0 d) x0 16) (g_198 x0 d) := by simp only [g_199, if_neg (show ¬ v_183 x0 (v_198 x0 d) (g_198 x0 d) = (-1) from c0), if_neg (show ¬ x1 = 0 from c1), if_pos (show v_201 x0 (v_183 x0 (v_198 x0 d) (g_198 x0 d)) (g_198 x0 d) = (-1) from c2), if_neg (show ¬ (g_188 x0 4 ((g_198 x0 d) x0 16) (g_198 x0 d)) x0 13 = 0 from c3)]
          rw [y0] at h
          rw [y1] at h
          exact h (show 0 ≤ ((0 : Int)) ∧ ((0 : Int)) ≤ 15 from (by omega)) (show ∀ b : Int, (b < x0 ∨ x0 < b) → (g_188 x0 4 ((g_198 x0 d) x0 16) (g_198 x0 d)) b = d b from fun b hb => (F3 b (by omega)).trans (F1 b (by omega))) (show (g_188 x0 4 ((g_198 x0 d) x0 16) (g_198 x0 d)) x0 9 = d x0 9 from (k3_0).trans (k1_0)) (show d x0 10 ≤ (g_188 x0 4 ((g_198 x0 d) x0 16) (g_198 x0 d)) x0 10 by omega) (show d x0 13 = 0 ∨ ¬ (g_188 x0 4 ((g_198 x0 d) x0 16) (g_198 x0 d)) x0 13 = 0 by omega) (show ¬ (g_188 x0 4 ((g_198 x0 d) x0 16) (g_198 x0 d)) x0 13 = 0 ∨ x1 = 0 ∨ 0 ≤ v_201 x0 ((0 : Int)) (g_188 x0 4 ((g_198 x0 d) x0 16) (g_198 x0 d)) by omega) hS3
def v_200 (x0 : Int) (d : mD) : Int := if v_184 x0 (v_198 x0 d) (g_198 x0 d) = (-1) then (if (g_188 x0 4 ((g_198 x0 d) x0 16) (g_198 x0 d)) x0 13 = 0 then v_184 x0 (v_198 x0 d) (g_198 x0 d) else 0) else if (g_198 x0 d) x0 13 = 0 then v_184 x0 (v_198 x0 d) (g_198 x0 d) else 0
def g_200 (x0 : Int) (d : mD) : mD := if v_184 x0 (v_198 x0 d) (g_198 x0 d) = (-1) then g_188 x0 4 ((g_198 x0 d) x0 16) (g_198 x0 d) else g_198 x0 d
theorem k_200 {E : mO × tW} {K : tK} {d : mD} {x0 : Int} (hS : Safe d) (hx0 : mdB x0) (h : (0 ≤ (v_200 x0 d) ∧ (v_200 x0 d) ≤ 5) → (∀ b : Int, (b < x0 ∨ x0 < b) → (g_200 x0 d) b = d b) → (g_200 x0 d) x0 9 = d x0 9 → (d x0 10 ≤ (g_200 x0 d) x0 10) → (d x0 13 = 0 ∨ ¬ (g_200 x0 d) x0 13 = 0) → Safe (g_200 x0 d) → K (.inl (some (0, (v_200 x0 d)))) (g_200 x0 d)) : tCall E 200 [.inr (11, x0)] d K := by
  refine t_200_0 ?_
  have w8 := r_11_f9 hS hx0
  have w9 := r_11_f10 hS hx0
  refine k_198 hS hx0 (fun e1 F1 k1_0 n1_0 n1_1 hS1 => ?_)
  refine t_200_5 ?_
  have w8 := r_11_f9 hS1 hx0
  have w9 := r_11_f10 hS1 hx0
  refine k_184 hS1 hx0 (m_inR (by omega) (by omega)) (fun e2 => ?_)
  refine t_200_8 ?_
  have w8 := r_11_f9 hS1 hx0
  have w9 := r_11_f10 hS1 hx0
  refine ⟨⟨m_inR (by omega) (by omega), m_inR (by omega) (by omega)⟩, fun c0 => ?_, fun c0 => ?_⟩
  · refine t_200_23 ?_
    have w8 := r_11_f9 hS1 hx0
    have w9 := r_11_f10 hS1 hx0
    have q1 := r_11_f13 hS1 hx0
    refine ⟨m_inR (by omega) (by omega), fun c1 => ?_, fun c1 => ?_⟩
    · have y0 : v_200 x0 d = v_184 x0 (v_198 x0 d) (g_198 x0 d) := by simp only [v_200, if_neg (show ¬ v_184 x0 (v_198 x0 d) (g_198 x0 d) = (-1) from c0), if_pos (show (g_198 x0 d) x0 13 = 0 from c1)]
      have y1 : g_200 x0 d = g_198 x0 d := by simp only [g_200, if_neg (show ¬ v_184 x0 (v_198 x0 d) (g_198 x0 d) = (-1) from c0), if_pos (show (g_198 x0 d) x0 13 = 0 from c1)]
      rw [y0] at h
      rw [y1] at h
      exact h (show 0 ≤ (v_184 x0 (v_198 x0 d) (g_198 x0 d)) ∧ (v_184 x0 (v_198 x0 d) (g_198 x0 d)) ≤ 5 from (by omega)) (show ∀ b : Int, (b < x0 ∨ x0 < b) → (g_198 x0 d) b = d b from fun b hb => F1 b (by omega)) (show (g_198 x0 d) x0 9 = d x0 9 from k1_0) (show d x0 10 ≤ (g_198 x0 d) x0 10 by omega) (show d x0 13 = 0 ∨ ¬ (g_198 x0 d) x0 13 = 0 by omega) hS1
    · have y0 : v_200 x0 d = 0 := by simp only [v_200, if_neg (show ¬ v_184 x0 (v_198 x0 d) (g_198 x0 d) = (-1) from c0), if_neg (show ¬ (g_198 x0 d) x0 13 = 0 from c1)]
      have y1 : g_200 x0 d = g_198 x0 d := by simp only [g_200, if_neg (show ¬ v_184 x0 (v_198 x0 d) (g_198 x0 d) = (-1) from c0), if_neg (show ¬ (g_198 x0 d) x0 13 = 0 from c1)]
      rw [y0] at h
      rw [y1] at h
      exact h (show 0 ≤ ((0 : Int)) ∧ ((0 : Int)) ≤ 5 from (by omega)) (show ∀ b : Int, (b < x0 ∨ x0 < b) → (g_198 x0 d) b = d b from fun b hb => F1 b (by omega)) (show (g_198 x0 d) x0 9 = d x0 9 from k1_0) (show d x0 10 ≤ (g_198 x0 d) x0 10 by omega) (show d x0 13 = 0 ∨ ¬ (g_198 x0 d) x0 13 = 0 by omega) hS1
  · have q2 := r_11_f16 hS1 hx0
    refine k_188 hS1 hx0 (by omega) (by omega) (fun F2 k2_0 n2_0 n2_1 n2_2 hS2 => ?_)
    refine t_200_23 ?_
    have w8 := r_11_f9 hS2 hx0
    have w9 := r_11_f10 hS2 hx0
    have q3 := r_11_f13 hS2 hx0
    refine ⟨m_inR (by omega) (by omega), fun c1 => ?_, fun c1 => ?_⟩
    · have y0 : v_200 x0 d = v_184 x0 (v_198 x0 d) (g_198 x0 d) := by simp only [v_200, if_pos (show v_184 x0 (v_198 x0 d) (g_198 x0 d) = (-1) from c0), if_pos (show (g_188 x0 4 ((g_198 x0 d) x0 16) (g_198 x0 d)) x0 13 = 0 from c1)]
      have y1 : g_200 x0 d = g_188 x0 4 ((g_198 x0 d) x0 16) (g_198 x0 d) := by simp only [g_200, if_pos (show v_184 x0 (v_198 x0 d) (g_198 x0 d) = (-1) from c0), if_pos (show (g_188 x0 4 ((g_198 x0 d) x0 16) (g_198 x0 d)) x0 13 = 0 from c1)]
      rw [y0] at h
      rw [y1] at h
      exact h (show 0 ≤ (v_184 x0 (v_198 x0 d) (g_198 x0 d)) ∧ (v_184 x0 (v_198 x0 d) (g_198 x0 d)) ≤ 5 from (by omega)) (show ∀ b : Int, (b < x0 ∨ x0 < b) → (g_188 x0 4 ((g_198 x0 d) x0 16) (g_198 x0 d)) b = d b from fun b hb => (F2 b (by omega)).trans (F1 b (by omega))) (show (g_188 x0 4 ((g_198 x0 d) x0 16) (g_198 x0 d)) x0 9 = d x0 9 from (k2_0).trans (k1_0)) (show d x0 10 ≤ (g_188 x0 4 ((g_198 x0 d) x0 16) (g_198 x0 d)) x0 10 by omega) (show d x0 13 = 0 ∨ ¬ (g_188 x0 4 ((g_198 x0 d) x0 16) (g_198 x0 d)) x0 13 = 0 by omega) hS2
    · have y0 : v_200 x0 d = 0 := by simp only [v_200, if_pos (show v_184 x0 (v_198 x0 d) (g_198 x0 d) = (-1) from c0), if_neg (show ¬ (g_188 x0 4 ((g_198 x0 d) x0 16) (g_198 x0 d)) x0 13 = 0 from c1)]
      have y1 : g_200 x0 d = g_188 x0 4 ((g_198 x0 d) x0 16) (g_198 x0 d) := by simp only [g_200, if_pos (show v_184 x0 (v_198 x0 d) (g_198 x0 d) = (-1) from c0), if_neg (show ¬ (g_188 x0 4 ((g_198 x0 d) x0 16) (g_198 x0 d)) x0 13 = 0 from c1)]
      rw [y0] at h
      rw [y1] at h
      exact h (show 0 ≤ ((0 : Int)) ∧ ((0 : Int)) ≤ 5 from (by omega)) (show ∀ b : Int, (b < x0 ∨ x0 < b) → (g_188 x0 4 ((g_198 x0 d) x0 16) (g_198 x0 d)) b = d b from fun b hb => (F2 b (by omega)).trans (F1 b (by omega))) (show (g_188 x0 4 ((g_198 x0 d) x0 16) (g_198 x0 d)) x0 9 = d x0 9 from (k2_0).trans (k1_0)) (show d x0 10 ≤ (g_188 x0 4 ((g_198 x0 d) x0 16) (g_198 x0 d)) x0 10 by omega) (show d x0 13 = 0 ∨ ¬ (g_188 x0 4 ((g_198 x0 d) x0 16) (g_198 x0 d)) x0 13 = 0 by omega) hS2
/-! ===== contracts of the reference's methods: printed by a program of mine ===== -/
def st_210_4 (x0 : Int) (r4 : Int → Int → mD → Int × mD) (x1 x2 : Int) (d : mD) : Int × mD := if x2 < d x0 9 then (if v_190 x0 x2 d = 0 then r4 ((-1)) (x2 + 1) d else if x2 < 6 then (if x1 < 0 then r4 ((-1)) (x2 + 1) d else r4 ((((27 * x1) + (d (x0 + 7) x2)) - 97) + 1) (x2 + 1) d) else r4 ((-1)) (x2 + 1) d) else if x1 < 0 then (0, mset d x0 9 0) else (x1, mset d x0 9 0)
def lp_210_4 (x0 : Int) : Nat → Int → Int → mD → Int × mD
  | 0 => st_210_4 x0 (fun _ _ d => (0, d))
  | n + 1 => st_210_4 x0 (lp_210_4 x0 n)
theorem ls_210_4 {E : mO × tW} {K : tK} {x0 : Int} (hx0 : mdB x0) (N4 : Int) (r4 : Int → Int → mD → Int × mD) (ih4 : ∀ (x1 x2 : Int) (d : mD), Safe d → (0 ≤ x2 ∧ x2 ≤ 1000) → (-1 ≤ x1 ∧ ((x2 = 0 ∧ x1 ≤ 0) ∨ (x2 = 1 ∧ x1 ≤ 26) ∨ (x2 = 2 ∧ x1 ≤ 728) ∨ (x2 = 3 ∧ x1 ≤ 19682) ∨ (x2 = 4 ∧ x1 ≤ 531440) ∨ (x2 = 5 ∧ x1 ≤ 14348906) ∨ (6 ≤ x2 ∧ x1 ≤ 387420488))) → 0 ≤ 1000 - x2 → 1000 - x2 < N4 → ((0 ≤ (r4 x1 x2 d).1 ∧ (r4 x1 x2 d).1 ≤ 387420488) → (∀ b : Int, (b < x0 ∨ x0 < b) → (r4 x1 x2 d).2 b = d b) → Safe (r4 x1 x2 d).2 → K (.inl (some (0, (r4 x1 x2 d).1))) (r4 x1 x2 d).2) → tRun E 210 (4, [.inr (11, x0), .inl (0, x1), .inl (0, x2)], [], 0, 0, d) K) (x1 x2 : Int) (d : mD) (hS : Safe d) (i0 : 0 ≤ x2 ∧ x2 ≤ 1000) (i1 : -1 ≤ x1 ∧ ((x2 = 0 ∧ x1 ≤ 0) ∨ (x2 = 1 ∧ x1 ≤ 26) ∨ (x2 = 2 ∧ x1 ≤ 728) ∨ (x2 = 3 ∧ x1 ≤ 19682) ∨ (x2 = 4 ∧ x1 ≤ 531440) ∨ (x2 = 5 ∧ x1 ≤ 14348906) ∨ (6 ≤ x2 ∧ x1 ≤ 387420488))) (hm : 1000 - x2 ≤ N4) (h : (0 ≤ (st_210_4 x0 r4 x1 x2 d).1 ∧ (st_210_4 x0 r4 x1 x2 d).1 ≤ 387420488) → (∀ b : Int, (b < x0 ∨ x0 < b) → (st_210_4 x0 r4 x1 x2 d).2 b = d b) → Safe (st_210_4 x0 r4 x1 x2 d).2 → K (.inl (some (0, (st_210_4 x0 r4 x1 x2 d).1))) (st_210_4 x0 r4 x1 x2 d).2) : tRun E 210 (4, [.inr (11, x0), .inl (0, x1), .inl (0, x2)], [], 0, 0, d) K := by
  refine t_210_4 ?_
  have w8 := r_11_f9 hS hx0
  have w9 := r_11_f10 hS hx0
  have q1 := r_11_f9 hS hx0
  refine ⟨⟨m_inR (by omega) (by omega), m_inR (by omega) (by omega)⟩, fun c0 => ?_, fun c0 => ?_⟩
  · have hS1 : Safe (mset d x0 9 0) := s_11_f9 hS hx0 (by omega)
    refine ⟨m_inR (by omega) (by omega), fun c1 => ?_, fun c1 => ?_⟩
    · have y0 : st_210_4 x0 r4 x1 x2 d = (x1, mset d x0 9 0) := by simp only [st_210_4, if_neg (show ¬ x2 < d x0 9 from Int.not_lt.mpr c0), if_neg (show ¬ x1 < 0 from Int.not_lt.mpr c1)]
      rw [y0] at h
      exact h (show 0 ≤ x1 ∧ x1 ≤ 387420488 from (by omega)) (show ∀ b : Int, (b < x0 ∨ x0 < b) → (mset d x0 9 0) b = d b from fun b hb => mset_ne (by omega)) hS1
    · have y0 : st_210_4 x0 r4 x1 x2 d = (0, mset d x0 9 0) := by simp only [st_210_4, if_neg (show ¬ x2 < d x0 9 from Int.not_lt.mpr c0), if_pos (show x1 < 0 from c1)]
      rw [y0] at h
      exact h (show 0 ≤ ((0 : Int)) ∧ ((0 : Int)) ≤ 387420488 from (by omega)) (show ∀ b : Int, (b < x0 ∨ x0 < b) → (mset d x0 9 0) b = d b from fun b hb => mset_ne (by omega)) hS1
  · refine k_190 hS hx0 (by omega) (fun e1 => ?_)
    refine t_210_17 ?_
    have w8 := r_11_f9 hS hx0
    have w9 := r_11_f10 hS hx0
    refine ⟨m_inR (by omega) (by omega), fun c1 => ?_, fun c1 => ?_⟩
    · refine ih4 ((-1)) (x2 + 1)  d hS (by omega) (by obtain ⟨z0, z⟩ := i1; rcases z with z | z | z | z | z | z | z <;> omega) (by omega) (by omega) ?_
      intro e F hS_
      have y0 : st_210_4 x0 r4 x1 x2 d = r4 ((-1)) (x2 + 1) d := by simp only [st_210_4, if_pos (show x2 < d x0 9 from c0), if_pos (show v_190 x0 x2 d = 0 from c1)]
      rw [y0] at h
      exact h e F hS_
    · refine ⟨⟨m_inR (by omega) (by omega), m_inR (by omega) (by omega)⟩, fun c2 => ?_, fun c2 => ?_⟩
      · refine ih4 ((-1)) (x2 + 1)  d hS (by omega) (by obtain ⟨z0, z⟩ := i1; rcases z with z | z | z | z | z | z | z <;> omega) (by omega) (by omega) ?_
        intro e F hS_
        have y0 : st_210_4 x0 r4 x1 x2 d = r4 ((-1)) (x2 + 1) d := by simp only [st_210_4, if_pos (show x2 < d x0 9 from c0), if_neg (show ¬ v_190 x0 x2 d = 0 from c1), if_neg (show ¬ x2 < 6 from Int.not_lt.mpr c2)]
        rw [y0] at h
        exact h e F hS_
      · refine ⟨m_inR (by omega) (by omega), fun c3 => ?_, fun c3 => ?_⟩
        · refine ih4 ((-1)) (x2 + 1)  d hS (by omega) (by obtain ⟨z0, z⟩ := i1; rcases z with z | z | z | z | z | z | z <;> omega) (by omega) (by omega) ?_
          intro e F hS_
          have y0 : st_210_4 x0 r4 x1 x2 d = r4 ((-1)) (x2 + 1) d := by simp only [st_210_4, if_pos (show x2 < d x0 9 from c0), if_neg (show ¬ v_190 x0 x2 d = 0 from c1), if_pos (show x2 < 6 from c2), if_pos (show x1 < 0 from c3)]
          rw [y0] at h
          exact h e F hS_
        · refine ⟨by omega, ?_⟩
          have q2 := r_11_7 hS hx0 x2
          refine ih4 ((((27 * x1) + (d (x0 + 7) x2)) - 97) + 1) (x2 + 1)  d hS (by omega) (by obtain ⟨z0, z⟩ := i1; rcases z with z | z | z | z | z | z | z <;> omega) (by omega) (by omega) ?_
          intro e F hS_
          have y0 : st_210_4 x0 r4 x1 x2 d = r4 ((((27 * x1) + (d (x0 + 7) x2)) - 97) + 1) (x2 + 1) d := by simp only [st_210_4, if_pos (show x2 < d x0 9 from c0), if_neg (show ¬ v_190 x0 x2 d = 0 from c1), if_pos (show x2 < 6 from c2), if_neg (show ¬ x1 < 0 from Int.not_lt.mpr c3)]
          rw [y0] at h
          exact h e F hS_
theorem l_210_4 {E : mO × tW} {K : tK} {x0 : Int} (hx0 : mdB x0) : ∀ (n : Nat) (x1 x2 : Int) (d : mD), Safe d → (0 ≤ x2 ∧ x2 ≤ 1000) → (-1 ≤ x1 ∧ ((x2 = 0 ∧ x1 ≤ 0) ∨ (x2 = 1 ∧ x1 ≤ 26) ∨ (x2 = 2 ∧ x1 ≤ 728) ∨ (x2 = 3 ∧ x1 ≤ 19682) ∨ (x2 = 4 ∧ x1 ≤ 531440) ∨ (x2 = 5 ∧ x1 ≤ 14348906) ∨ (6 ≤ x2 ∧ x1 ≤ 387420488))) → 1000 - x2 ≤ (n : Int) → ((0 ≤ (lp_210_4 x0 n x1 x2 d).1 ∧ (lp_210_4 x0 n x1 x2 d).1 ≤ 387420488) → (∀ b : Int, (b < x0 ∨ x0 < b) → (lp_210_4 x0 n x1 x2 d).2 b = d b) → Safe (lp_210_4 x0 n x1 x2 d).2 → K (.inl (some (0, (lp_210_4 x0 n x1 x2 d).1))) (lp_210_4 x0 n x1 x2 d).2) → tRun E 210 (4, [.inr (11, x0), .inl (0, x1), .inl (0, x2)], [], 0, 0, d) K := by
  intro n
  induction n with
  | zero =>
    intro x1 x2  d hS i0 i1 hm  h
    exact ls_210_4 hx0 0 _ (fun _ _  _ _ _ _ m0 m1 _ => absurd m1 (by omega)) x1 x2  d hS i0 i1 hm  h
  | succ n ih =>
    intro x1 x2  d hS i0 i1 hm  h
    exact ls_210_4 hx0 ((n + 1 : Nat) : Int) _ (fun x1 x2  d hS i0 i1  m0 m1 h => ih x1 x2  d hS i0 i1 (by omega)  h) x1 x2  d hS i0 i1 hm  h
def f_210 (x0 : Int) (d : mD) : Int × mD := lp_210_4 x0 (1000 - 0 : Int).toNat 0 0 d
def v_210 (x0 : Int) (d : mD) : Int := (f_210 x0 d).1
def g_210 (x0 : Int) (d : mD) : mD := (f_210 x0 d).2
theorem k_210 {E : mO × tW} {K : tK} {d : mD} {x0 : Int} (hS : Safe d) (hx0 : mdB x0) (h : (0 ≤ (v_210 x0 d) ∧ (v_210 x0 d) ≤ 387420488) → (∀ b : Int, (b < x0 ∨ x0 < b) → (g_210 x0 d) b = d b) → Safe (g_210 x0 d) → K (.inl (some (0, (v_210 x0 d)))) (g_210 x0 d)) : tCall E 210 [.inr (11, x0)] d K := by
  simp only [v_210, g_210] at h
  refine t_210_0 ?_
  have w8 := r_11_f9 hS hx0
  have w9 := r_11_f10 hS hx0
  refine l_210_4 hx0 (1000 - 0 : Int).toNat 0 0  d hS (by omega) (by omega) (by omega) ?_
  intro e F hS_
  have y0 : f_210 x0 d = lp_210_4 x0 (1000 - 0 : Int).toNat 0 0 d := by simp only [f_210]
  rw [y0] at h
  exact h e F hS_
def v_208 (x0 : Int) (d : mD) : Int := d x0 11
def g_208 (x0 : Int) (d : mD) : mD := mset d x0 0 0
theorem k_208 {E : mO × tW} {K : tK} {d : mD} {x0 : Int} (hS : Safe d) (hx0 : mdB x0) (h : (∀ b : Int, (b < x0 ∨ x0 < b) → (g_208 x0 d) b = d b) → Safe (g_208 x0 d) → K (.inl (some (0, (v_208 x0 d)))) (g_208 x0 d)) : tCall E 208 [.inr (11, x0)] d K := by
  refine t_208_0 ?_
  have hS1 : Safe (mset d x0 0 0) := s_11_f0 hS hx0 (by omega)
  rw [mset_ni (d := d) (a := x0) (i := (0 : Int)) (v := (0 : Int)) (b := x0) (j := (11 : Int)) (by omega)]
  have q1 := r_11_f11 hS hx0
  have y0 : v_208 x0 d = d x0 11 := by simp only [v_208]
  have y1 : g_208 x0 d = mset d x0 0 0 := by simp only [g_208]
  rw [y0] at h
  rw [y1] at h
  exact h (show ∀ b : Int, (b < x0 ∨ x0 < b) → (mset d x0 0 0) b = d b from fun b hb => mset_ne (by omega)) hS1
def v_209 (x0 : Int) (d : mD) : Int := d x0 12
def g_209 (x0 : Int) (d : mD) : mD := mset d x0 0 0
theorem k_209 {E : mO × tW} {K : tK} {d : mD} {x0 : Int} (hS : Safe d) (hx0 : mdB x0) (h : (∀ b : Int, (b < x0 ∨ x0 < b) → (g_209 x0 d) b = d b) → Safe (g_209 x0 d) → K (.inl (some (0, (v_209 x0 d)))) (g_209 x0 d)) : tCall E 209 [.inr (11, x0)] d K := by
  refine t_209_0 ?_
  have hS1 : Safe (mset d x0 0 0) := s_11_f0 hS hx0 (by omega)
  rw [mset_ni (d := d) (a := x0) (i := (0 : Int)) (v := (0 : Int)) (b := x0) (j := (12 : Int)) (by omega)]
  have q1 := r_11_f12 hS hx0
  have y0 : v_209 x0 d = d x0 12 := by simp only [v_209]
  have y1 : g_209 x0 d = mset d x0 0 0 := by simp only [g_209]
  rw [y0] at h
  rw [y1] at h
  exact h (show ∀ b : Int, (b < x0 ∨ x0 < b) → (mset d x0 0 0) b = d b from fun b hb => mset_ne (by omega)) hS1
def v_211 (x0 x1 : Int) (d : mD) : Int := if x1 = 0 then (if v_183 x0 (v_210 x0 d) (g_210 x0 d) = (-1) then 0 else v_183 x0 (v_210 x0 d) (g_210 x0 d)) else if v_184 x0 (v_210 x0 d) (g_210 x0 d) = (-1) then 0 else v_184 x0 (v_210 x0 d) (g_210 x0 d)
def g_211 (x0 x1 : Int) (d : mD) : mD := if x1 = 0 then (if v_183 x0 (v_210 x0 d) (g_210 x0 d) = (-1) then mset (g_210 x0 d) x0 0 1 else mset (g_210 x0 d) x0 0 0) else if v_184 x0 (v_210 x0 d) (g_210 x0 d) = (-1) then mset (g_210 x0 d) x0 0 1 else mset (g_210 x0 d) x0 0 0
theorem k_211 {E : mO × tW} {K : tK} {d : mD} {x0 x1 : Int} (hS : Safe d) (hx0 : mdB x0) (p1 : 0 ≤ x1 ∧ x1 ≤ 1) (h : (∀ b : Int, (b < x0 ∨ x0 < b) → (g_211 x0 x1 d) b = d b) → Safe (g_211 x0 x1 d) → K (.inl (some (0, (v_211 x0 x1 d)))) (g_211 x0 x1 d)) : tCall E 211 [.inr (11, x0), .inl (0, x1)] d K := by
  refine t_211_0 ?_
  refine k_210 hS hx0 (fun e1 F1 hS1 => ?_)
  refine t_211_4 ?_
  refine ⟨m_inR (by omega) (by omega), fun c0 => ?_, fun c0 => ?_⟩
  · refine k_183 hS1 hx0 (m_inR (by omega) (by omega)) (fun e2 => ?_)
    refine t_211_22 ?_
    refine ⟨⟨m_inR (by omega) (by omega), m_inR (by omega) (by omega)⟩, fun c1 => ?_, fun c1 => ?_⟩
    · have hS2 : Safe (mset (g_210 x0 d) x0 0 0) := s_11_f0 hS1 hx0 (by omega)
      rw [mset_eq (d := g_210 x0 d) (a := x0) (i := (0 : Int)) (v := (0 : Int))]
      refine ⟨m_inR (by omega) (by omega), fun c2 => ?_, fun c2 => ?_⟩
      · have y0 : v_211 x0 x1 d = v_183 x0 (v_210 x0 d) (g_210 x0 d) := by simp only [v_211, if_pos (show x1 = 0 from c0), if_neg (show ¬ v_183 x0 (v_210 x0 d) (g_210 x0 d) = (-1) from c1), if_neg (show ¬ (0 : Int) < 0 from Int.not_lt.mpr c2)]
        have y1 : g_211 x0 x1 d = mset (g_210 x0 d) x0 0 0 := by simp only [g_211, if_pos (show x1 = 0 from c0), if_neg (show ¬ v_183 x0 (v_210 x0 d) (g_210 x0 d) = (-1) from c1), if_neg (show ¬ (0 : Int) < 0 from Int.not_lt.mpr c2)]
        rw [y0] at h
        rw [y1] at h
        exact h (show ∀ b : Int, (b < x0 ∨ x0 < b) → (mset (g_210 x0 d) x0 0 0) b = d b from fun b hb => (mset_ne (by omega)).trans (F1 b (by omega))) hS2
      · exact (show False by omega).elim
    · have hS3 : Safe (mset (g_210 x0 d) x0 0 1) := s_11_f0 hS1 hx0 (by omega)
      rw [mset_eq (d := g_210 x0 d) (a := x0) (i := (0 : Int)) (v := (1 : Int))]
      refine ⟨m_inR (by omega) (by omega), fun c2 => ?_, fun c2 => ?_⟩
      · exact (show False by omega).elim
      · have y0 : v_211 x0 x1 d = 0 := by simp only [v_211, if_pos (show x1 = 0 from c0), if_pos (show v_183 x0 (v_210 x0 d) (g_210 x0 d) = (-1) from c1), if_pos (show (0 : Int) < 1 from c2)]
        have y1 : g_211 x0 x1 d = mset (g_210 x0 d) x0 0 1 := by simp only [g_211, if_pos (show x1 = 0 from c0), if_pos (show v_183 x0 (v_210 x0 d) (g_210 x0 d) = (-1) from c1), if_pos (show (0 : Int) < 1 from c2)]
        rw [y0] at h
        rw [y1] at h
        exact h (show ∀ b : Int, (b < x0 ∨ x0 < b) → (mset (g_210 x0 d) x0 0 1) b = d b from fun b hb => (mset_ne (by omega)).trans (F1 b (by omega))) hS3
  · refine k_184 hS1 hx0 (m_inR (by omega) (by omega)) (fun e3 => ?_)
    refine t_211_14 ?_
    refine t_211_22 ?_
    refine ⟨⟨m_inR (by omega) (by omega), m_inR (by omega) (by omega)⟩, fun c1 => ?_, fun c1 => ?_⟩
    · have hS4 : Safe (mset (g_210 x0 d) x0 0 0) := s_11_f0 hS1 hx0 (by omega)
      rw [mset_eq (d := g_210 x0 d) (a := x0) (i := (0 : Int)) (v := (0 : Int))]
      refine ⟨m_inR (by omega) (by omega), fun c2 => ?_, fun c2 => ?_⟩
      · have y0 : v_211 x0 x1 d = v_184 x0 (v_210 x0 d) (g_210 x0 d) := by simp only [v_211, if_neg (show ¬ x1 = 0 from c0), if_neg (show ¬ v_184 x0 (v_210 x0 d) (g_210 x0 d) = (-1) from c1), if_neg (show ¬ (0 : Int) < 0 from Int.not_lt.mpr c2)]
        have y1 : g_211 x0 x1 d = mset (g_210 x0 d) x0 0 0 := by simp only [g_211, if_neg (show ¬ x1 = 0 from c0), if_neg (show ¬ v_184 x0 (v_210 x0 d) (g_210 x0 d) = (-1) from c1), if_neg (show ¬ (0 : Int) < 0 from Int.not_lt.mpr c2)]
        rw [y0] at h
        rw [y1] at h
        exact h (show ∀ b : Int, (b < x0 ∨ x0 < b) → (mset (g_210 x0 d) x0 0 0) b = d b from fun b hb => (mset_ne (by omega)).trans (F1 b (by omega))) hS4
      · exact (show False by omega).elim
    · have hS5 : Safe (mset (g_210 x0 d) x0 0 1) := s_11_f0 hS1 hx0 (by omega)
      rw [mset_eq (d := g_210 x0 d) (a := x0) (i := (0 : Int)) (v := (1 : Int))]
      refine ⟨m_inR (by omega) (by omega), fun c2 => ?_, fun c2 => ?_⟩
      · exact (show False by omega).elim
      · have y0 : v_211 x0 x1 d = 0 := by simp only [v_211, if_neg (show ¬ x1 = 0 from c0), if_pos (show v_184 x0 (v_210 x0 d) (g_210 x0 d) = (-1) from c1), if_pos (show (0 : Int) < 1 from c2)]
        have y1 : g_211 x0 x1 d = mset (g_210 x0 d) x0 0 1 := by simp only [g_211, if_neg (show ¬ x1 = 0 from c0), if_pos (show v_184 x0 (v_210 x0 d) (g_210 x0 d) = (-1) from c1), if_pos (show (0 : Int) < 1 from c2)]
        rw [y0] at h
        rw [y1] at h
        exact h (show ∀ b : Int, (b < x0 ∨ x0 < b) → (mset (g_210 x0 d) x0 0 1) b = d b from fun b hb => (mset_ne (by omega)).trans (F1 b (by omega))) hS5
