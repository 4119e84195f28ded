/-! ===== World's small changes ===== -/
theorem mz_e {d : mD} {a i v b j : Int} (h1 : b = a) (h2 : j = i) : mset d a i v b j = v := by simp [mset, h1, h2]
theorem mz_c {d : mD} {x sp y dp n b j : Int} (h : ¬ b = y) : mcopy d x sp y dp n b j = d b j := by rw [mcopy_ne h]
def g_352 (x0 x1 x2 r : Int) (d : mD) : mD := mset (mset (mcopy (mset d (x0 + 5) (d (x0 + 11) x1) (d (x0 + 5) (d (x0 + 11) x1) - 1)) (x0 + 9) (61 * d (x0 + 11) x1 + r + 1) (x0 + 9) (61 * d (x0 + 11) x1 + r) (d (x0 + 5) (d (x0 + 11) x1) - 1 - r)) (x0 + 14) x1 x2) (x0 + 13) x1 (d x0 0)
theorem k_352 {E : mO × tW} {K : tK} {d : mD} {x0 x1 x2 : Int} (hS : SW x0 d) (h1 : 0 ≤ x1 ∧ x1 < 61) (hw : 0 ≤ d (x0 + 11) x1 ∧ d (x0 + 11) x1 < 6) (hn : 0 ≤ d (x0 + 5) (d (x0 + 11) x1) ∧ d (x0 + 5) (d (x0 + 11) x1) ≤ 61) (hp : ∃ k, 0 ≤ k ∧ k < d (x0 + 5) (d (x0 + 11) x1) ∧ d (x0 + 9) (61 * d (x0 + 11) x1 + k) = x1)
    (h : ∀ r, 0 ≤ r → r < d (x0 + 5) (d (x0 + 11) x1) → d (x0 + 9) (61 * d (x0 + 11) x1 + r) = x1 → (∀ j, 0 ≤ j → j < r → ¬ d (x0 + 9) (61 * d (x0 + 11) x1 + j) = x1) → K (.inl none) (g_352 x0 x1 x2 r d)) : tCall E 352 [.inr (41, x0), .inl (0, x1), .inl (0, x2)] d K := by
  refine t_352_0 ⟨h1, ?_⟩
  refine k_351 hS h1 hw hn (fun r hr => ?_)
  rcases hr with ⟨-, hno⟩ | ⟨r0, r1, r2, r3⟩
  · obtain ⟨k, k0, k1, k2⟩ := hp
    exact absurd k2 (hno k k0 k1)
  · have k := h r r0 r1 r2 r3
    unfold g_352 at k
    refine t_352_14 ?_
    simp (disch := omega) only [mz_e, mz_i, mz_a, mz_c]
    rw [show 61 * d (x0 + 11) x1 + (d (x0 + 5) (d (x0 + 11) x1) - 1) - (61 * d (x0 + 11) x1 + r) = d (x0 + 5) (d (x0 + 11) x1) - 1 - r by omega]
    exact ⟨h1, hw, hw, h1, h1, hw, ⟨by omega, by omega, by omega, by omega, by omega⟩, h1, h1, k⟩
def g_354 (x0 x1 x2 : Int) (d : mD) : mD := mset (mset (mset (mset (mset (mset (mset (mset (mset (mset (mset d x0 4 (d x0 4 + 1)) (x0 + 10) (d x0 4) x1) (x0 + 11) (d x0 4) x2) (x0 + 12) (d x0 4) (d x0 0)) (x0 + 13) (d x0 4) (-1)) (x0 + 14) (d x0 4) 0) (x0 + 15) (d x0 4) 0) (x0 + 16) (d x0 4) 0) (x0 + 17) (d x0 4) 0) (x0 + 9) (61 * x2 + d (x0 + 5) x2) (d x0 4)) (x0 + 5) x2 (d (x0 + 5) x2 + 1)
theorem k_354 {E : mO × tW} {K : tK} {d : mD} {x0 x1 x2 : Int} (h2 : 0 ≤ x2 ∧ x2 < 6) (ht : 0 ≤ d x0 4 ∧ d x0 4 < 61) (hq : 0 ≤ d (x0 + 5) x2 ∧ d (x0 + 5) x2 < 61) (k : K (.inl (some (0, d x0 4))) (g_354 x0 x1 x2 d)) : tCall E 354 [.inr (41, x0), .inl (0, x1), .inl (0, x2)] d K := by
  refine t_354_0 ?_
  unfold g_354 at k
  simp (disch := omega) only [mz_e, mz_i, mz_a]
  repeat' apply And.intro
  all_goals first
    | exact k
    | exact Or.inl trivial
    | omega
