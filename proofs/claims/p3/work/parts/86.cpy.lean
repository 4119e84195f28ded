/-! ===== a state of the class is copied ===== -/
theorem c34l {x0 x1 : Int} (hx : ¬ x0 + 5 = x1 + 5) : ∀ (n : Nat) (x : Int) (d : mD), 0 ≤ x → 6 - x ≤ (n : Int) → (∀ b, ¬ b = x0 + 5 → lp_34_100 x0 x1 n x d b = d b) ∧ (∀ o, 0 ≤ o → o < x → lp_34_100 x0 x1 n x d (x0 + 5) o = d (x0 + 5) o) ∧ ∀ o, x ≤ o → o < 6 → lp_34_100 x0 x1 n x d (x0 + 5) o = d (x1 + 5) o := by
  intro n
  induction n with
  | zero =>
    intro x d h0 hn
    have e : lp_34_100 x0 x1 0 x d = d := by
      show st_34_100 x0 x1 _ x d = d
      unfold st_34_100
      rw [if_neg (by omega)]
    rw [e]
    exact ⟨fun _ _ => rfl, fun _ _ _ => rfl, fun o a b => by omega⟩
  | succ n ih =>
    intro x d h0 hn
    by_cases hc : x < 6
    · have e : lp_34_100 x0 x1 (n + 1) x d = lp_34_100 x0 x1 n (x + 1) (mset d (x0 + 5) x (d (x1 + 5) x)) := by
        show st_34_100 x0 x1 _ x d = _
        unfold st_34_100
        rw [if_pos hc]
      rw [e]
      obtain ⟨i1, i2, i3⟩ := ih (x + 1) (mset d (x0 + 5) x (d (x1 + 5) x)) (by omega) (by omega)
      refine ⟨fun b hb => by rw [i1 b hb]; funext j; exact ms_a hb, fun o a b => by rw [i2 o a (by omega), ms_i (by omega)], fun o a b => ?_⟩
      by_cases ho : o = x
      · rw [i2 o (by omega) (by omega), ms_e rfl ho, ho]
      · rw [i3 o (by omega) b, ms_a (by omega)]
    · have e : lp_34_100 x0 x1 (n + 1) x d = d := by
        show st_34_100 x0 x1 _ x d = d
        unfold st_34_100
        rw [if_neg hc]
      rw [e]
      exact ⟨fun _ _ => rfl, fun _ _ _ => rfl, fun o a b => by omega⟩
theorem c46l {x0 x1 : Int} (hx : x0 + 40 ≤ x1 ∨ x1 + 40 ≤ x0) : ∀ (n : Nat) (x : Int) (d : mD), 0 ≤ x → d x0 0 ≤ 16 → d x0 0 - x ≤ (n : Int) → (∀ b, (b < x0 + 8 + 2 * x ∨ x0 + 39 ≤ b) → lp_46_85 x0 x1 n x d b = d b) ∧ ∀ p, x ≤ p → p < d x0 0 → ∀ i, 0 ≤ i → i < 16 → lp_46_85 x0 x1 n x d (x0 + 8 + 2 * p) i = d (x1 + 8 + 2 * p) i := by
  intro n
  induction n with
  | zero =>
    intro x d h0 h16 hn
    have e : lp_46_85 x0 x1 0 x d = d := by
      show st_46_85 x0 x1 _ x d = d
      unfold st_46_85
      rw [if_neg (by omega)]
    rw [e]
    exact ⟨fun _ _ => rfl, fun o a b => by omega⟩
  | succ n ih =>
    intro x d h0 h16 hn
    by_cases hc : x < d x0 0
    · have e : lp_46_85 x0 x1 (n + 1) x d = lp_46_85 x0 x1 n (x + 1) (g_11 (x0 + 6 + (1 + 2 * x)) (x1 + 6 + (1 + 2 * x)) d) := by
        show st_46_85 x0 x1 _ x d = _
        unfold st_46_85
        rw [if_pos hc]
      rw [e]
      have e0 : g_11 (x0 + 6 + (1 + 2 * x)) (x1 + 6 + (1 + 2 * x)) d x0 0 = d x0 0 := by
        unfold g_11
        rw [mc_n (by omega)]
      obtain ⟨i1, i3⟩ := ih (x + 1) (g_11 (x0 + 6 + (1 + 2 * x)) (x1 + 6 + (1 + 2 * x)) d) (by omega) (by rw [e0]; exact h16) (by rw [e0]; omega)
      rw [e0] at i3
      refine ⟨fun b hb => ?_, fun p a b i u v => ?_⟩
      · rw [i1 b (by omega)]
        funext j
        unfold g_11
        rw [mc_n (by omega)]
      · by_cases ho : p = x
        · rw [i1 _ (by omega)]
          unfold g_11
          rw [mc_e (by omega) u v]
          congr 1
          omega
        · rw [i3 p (by omega) b i u v]
          unfold g_11
          rw [mc_n (by omega)]
    · have e : lp_46_85 x0 x1 (n + 1) x d = d := by
        show st_46_85 x0 x1 _ x d = d
        unfold st_46_85
        rw [if_neg hc]
      rw [e]
      exact ⟨fun _ _ => rfl, fun o a b => by omega⟩
-- each part of the copy: what it leaves, what it brings
theorem c34 {a s : Int} (hx : a + 63 ≤ s ∨ s + 63 ≤ a) (d : mD) : (∀ b, (b < a + 2 ∨ a + 9 < b) → g_34 (a + 2) (s + 2) d b = d b) ∧ g_34 (a + 2) (s + 2) d (a + 2) 0 = d (s + 2) 0 ∧ (∀ o, 0 ≤ o → o < 6 → g_34 (a + 2) (s + 2) d (a + 3) o = d (s + 3) o ∧ g_34 (a + 2) (s + 2) d (a + 4) o = d (s + 4) o ∧ g_34 (a + 2) (s + 2) d (a + 5) o = d (s + 5) o ∧ g_34 (a + 2) (s + 2) d (a + 6) o = d (s + 6) o ∧ g_34 (a + 2) (s + 2) d (a + 7) o = d (s + 7) o ∧ g_34 (a + 2) (s + 2) d (a + 8) o = d (s + 8) o) ∧ ∀ i, 0 ≤ i → i < 96 → g_34 (a + 2) (s + 2) d (a + 9) i = d (s + 9) i := by
  unfold g_34
  obtain ⟨i1, -, i3⟩ := c34l (x0 := a + 2) (x1 := s + 2) (by omega) (6 - 0 : Int).toNat 0 (mcopy (mcopy (mcopy (mcopy (mcopy (mcopy (mset d (a + 2) 0 (d (s + 2) 0)) (s + 2 + 1) 0 (a + 2 + 1) 0 6) (s + 2 + 2) 0 (a + 2 + 2) 0 6) (s + 2 + 3) 0 (a + 2 + 3) 0 6) (s + 2 + 4) 0 (a + 2 + 4) 0 6) (s + 2 + 6) 0 (a + 2 + 6) 0 6) (s + 2 + 7) 0 (a + 2 + 7) 0 96) (by decide) (by decide)
  simp only [Int.add_assoc, Int.reduceAdd] at i1 i3 ⊢
  refine ⟨fun b hb => ?_, ?_, fun o x y => ⟨?_, ?_, ?_, ?_, ?_, ?_⟩, fun i x y => ?_⟩
  · rw [i1 b (by omega)]
    funext j
    simp (disch := omega) only [mc_n, ms_a]
  · rw [i1 _ (by omega)]
    simp (disch := omega) only [mc_n, ms_e]
  · rw [i1 _ (by omega)]
    simp (disch := omega) only [mc_e, mc_n, ms_a]
  · rw [i1 _ (by omega)]
    simp (disch := omega) only [mc_e, mc_n, ms_a]
  · rw [i1 _ (by omega)]
    simp (disch := omega) only [mc_e, mc_n, ms_a]
  · rw [i1 _ (by omega)]
    simp (disch := omega) only [mc_e, mc_n, ms_a]
  · rw [i3 o x y]
    simp (disch := omega) only [mc_e, mc_n, ms_a]
  · rw [i1 _ (by omega)]
    simp (disch := omega) only [mc_e, mc_n, ms_a]
  · rw [i1 _ (by omega)]
    simp (disch := omega) only [mc_e, mc_n, ms_a]
theorem c46 {a s : Int} (hx : a + 63 ≤ s ∨ s + 63 ≤ a) (d : mD) (h16 : d (s + 10) 0 ≤ 16) : (∀ b, (b < a + 10 ∨ a + 50 ≤ b) → g_46 (a + 10) (s + 10) d b = d b) ∧ g_46 (a + 10) (s + 10) d (a + 49) = d (a + 49) ∧ g_46 (a + 10) (s + 10) d (a + 10) 0 = d (s + 10) 0 ∧ (∀ p, 0 ≤ p → p < 16 → g_46 (a + 10) (s + 10) d (a + 11) p = d (s + 11) p ∧ g_46 (a + 10) (s + 10) d (a + 12) p = d (s + 12) p ∧ g_46 (a + 10) (s + 10) d (a + 13) p = d (s + 13) p ∧ g_46 (a + 10) (s + 10) d (a + 14) p = d (s + 14) p ∧ g_46 (a + 10) (s + 10) d (a + 15) p = d (s + 15) p) ∧ ∀ p, 0 ≤ p → p < d (s + 10) 0 → ∀ i, 0 ≤ i → i < 16 → g_46 (a + 10) (s + 10) d (a + 18 + 2 * p) i = d (s + 18 + 2 * p) i := by
  unfold g_46
  have e0 : (mcopy (mcopy (mcopy (mcopy (mcopy (mset d (a + 10) 0 (d (s + 10) 0)) (s + 10 + 1) 0 (a + 10 + 1) 0 16) (s + 10 + 2) 0 (a + 10 + 2) 0 16) (s + 10 + 3) 0 (a + 10 + 3) 0 16) (s + 10 + 4) 0 (a + 10 + 4) 0 16) (s + 10 + 5) 0 (a + 10 + 5) 0 16) (a + 10) 0 = d (s + 10) 0 := by
    simp (disch := omega) only [mc_n, ms_e]
  obtain ⟨i1, i3⟩ := c46l (x0 := a + 10) (x1 := s + 10) (by omega) (16 - 0 : Int).toNat 0 (mcopy (mcopy (mcopy (mcopy (mcopy (mset d (a + 10) 0 (d (s + 10) 0)) (s + 10 + 1) 0 (a + 10 + 1) 0 16) (s + 10 + 2) 0 (a + 10 + 2) 0 16) (s + 10 + 3) 0 (a + 10 + 3) 0 16) (s + 10 + 4) 0 (a + 10 + 4) 0 16) (s + 10 + 5) 0 (a + 10 + 5) 0 16) (by decide) (by rw [e0]; exact h16) (by rw [e0, show (((16 - 0 : Int).toNat : Nat) : Int) = 16 by decide]; omega)
  rw [e0] at i3
  simp only [Int.add_assoc, Int.reduceAdd] at i1 i3 ⊢
  refine ⟨fun b hb => ?_, ?_, ?_, fun o x y => ⟨?_, ?_, ?_, ?_, ?_⟩, fun p x y i u v => ?_⟩
  · rw [i1 b (by omega)]
    funext j
    simp (disch := omega) only [mc_n, ms_a]
  · rw [i1 _ (by omega)]
    funext j
    simp (disch := omega) only [mc_n, ms_a]
  · rw [i1 _ (by omega)]
    simp (disch := omega) only [mc_n, ms_e]
  · rw [i1 _ (by omega)]
    simp (disch := omega) only [mc_e, mc_n, ms_a]
  · rw [i1 _ (by omega)]
    simp (disch := omega) only [mc_e, mc_n, ms_a]
  · rw [i1 _ (by omega)]
    simp (disch := omega) only [mc_e, mc_n, ms_a]
  · rw [i1 _ (by omega)]
    simp (disch := omega) only [mc_e, mc_n, ms_a]
  · rw [i1 _ (by omega)]
    simp (disch := omega) only [mc_e, mc_n, ms_a]
  · rw [i3 p x y i u v]
    simp (disch := omega) only [mc_e, mc_n, ms_a]
theorem c95 {a s : Int} (hx : a + 63 ≤ s ∨ s + 63 ≤ a) (d : mD) : (∀ b, (b < a + 49 ∨ a + 56 < b) → g_95 (a + 49) (s + 49) d b = d b) ∧ g_95 (a + 49) (s + 49) d (a + 49) 0 = d (s + 49) 0 ∧ ∀ t, 0 ≤ t → t < d (s + 49) 0 → g_95 (a + 49) (s + 49) d (a + 50) t = d (s + 50) t ∧ g_95 (a + 49) (s + 49) d (a + 51) t = d (s + 51) t ∧ g_95 (a + 49) (s + 49) d (a + 52) t = d (s + 52) t ∧ g_95 (a + 49) (s + 49) d (a + 53) t = d (s + 53) t ∧ g_95 (a + 49) (s + 49) d (a + 54) t = d (s + 54) t ∧ g_95 (a + 49) (s + 49) d (a + 55) t = d (s + 55) t ∧ g_95 (a + 49) (s + 49) d (a + 56) t = d (s + 56) t := by
  unfold g_95
  simp only [Int.add_assoc, Int.reduceAdd]
  refine ⟨fun b hb => ?_, ?_, fun t x y => ⟨?_, ?_, ?_, ?_, ?_, ?_, ?_⟩⟩
  · funext j
    simp (disch := omega) only [mc_n, ms_a]
  all_goals simp (disch := omega) only [mc_e, mc_n, ms_a, ms_e]
theorem c108 {a s : Int} (hx : a + 63 ≤ s ∨ s + 63 ≤ a) (d : mD) : (∀ b, (b < a + 57 ∨ a + 62 < b) → g_108 (a + 57) (s + 57) d b = d b) ∧ g_108 (a + 57) (s + 57) d (a + 57) 0 = d (s + 57) 0 ∧ g_108 (a + 57) (s + 57) d (a + 57) 5 = d (s + 57) 5 ∧ (∀ k, 0 ≤ k → k < d (s + 57) 0 → g_108 (a + 57) (s + 57) d (a + 58) k = d (s + 58) k ∧ g_108 (a + 57) (s + 57) d (a + 59) k = d (s + 59) k ∧ g_108 (a + 57) (s + 57) d (a + 60) k = d (s + 60) k ∧ g_108 (a + 57) (s + 57) d (a + 61) k = d (s + 61) k) ∧ ∀ k, 0 ≤ k → k < d (s + 57) 5 → g_108 (a + 57) (s + 57) d (a + 62) k = d (s + 62) k := by
  unfold g_108
  simp only [Int.add_assoc, Int.reduceAdd]
  have e5 : (mcopy (mcopy (mcopy (mcopy (mset d (a + 57) 0 (d (s + 57) 0)) (s + 58) 0 (a + 58) 0 (d (s + 57) 0)) (s + 59) 0 (a + 59) 0 (d (s + 57) 0)) (s + 60) 0 (a + 60) 0 (d (s + 57) 0)) (s + 61) 0 (a + 61) 0 (d (s + 57) 0)) (s + 57) 5 = d (s + 57) 5 := by
    simp (disch := omega) only [mc_n, ms_a]
  rw [e5]
  refine ⟨fun b hb => ?_, ?_, ?_, fun t x y => ⟨?_, ?_, ?_, ?_⟩, fun k x y => ?_⟩
  · funext j
    simp (disch := omega) only [mc_n, ms_a]
  all_goals simp (disch := omega) only [mc_e, mc_n, ms_a, ms_i, ms_e]
theorem cpy {a s : Int} (hx : a + 63 ≤ s ∨ s + 63 ≤ a) (d : mD) (h16 : d (s + 10) 0 ≤ 16) : CEq s d a (g_59 a s d) := by
  unfold g_59
  have e1 : (mset (mset (mcopy d (s + 1) 0 (a + 1) 0 5) a 1 (d s 1)) a 2 (d s 2)) = (mset (mset (mcopy d (s + 1) 0 (a + 1) 0 5) a 1 (d s 1)) a 2 (d s 2)) := rfl
  generalize hd1 : (mset (mset (mcopy d (s + 1) 0 (a + 1) 0 5) a 1 (d s 1)) a 2 (d s 2)) = d1
  have f1 : ∀ b, (b < a ∨ a + 1 < b) → d1 b = d b := fun b hb => by
    rw [← hd1]
    funext j
    simp (disch := omega) only [mc_n, ms_a]
  obtain ⟨a1, a2, a3, a4⟩ := c34 hx d1
  generalize g_34 (a + 2) (s + 2) d1 = d2 at *
  obtain ⟨b1, b1', b2, b3, b4⟩ := c46 hx d2 (by rw [a1 _ (by omega), f1 _ (by omega)]; exact h16)
  generalize g_46 (a + 10) (s + 10) d2 = d3 at *
  obtain ⟨c1, c2, c3⟩ := c95 hx d3
  generalize g_95 (a + 49) (s + 49) d3 = d4 at *
  obtain ⟨e1, e2, e3, e4, e5⟩ := c108 hx d4
  generalize g_108 (a + 57) (s + 57) d4 = d5 at *
  have s2 : ∀ b, s ≤ b → b < s + 63 → d2 b = d b := fun b x y => by rw [a1 b (by omega), f1 b (by omega)]
  have s3 : ∀ b, s ≤ b → b < s + 63 → d3 b = d b := fun b x y => by rw [b1 b (by omega), s2 b x y]
  have s4 : ∀ b, s ≤ b → b < s + 63 → d4 b = d b := fun b x y => by rw [c1 b (by omega), s3 b x y]
  refine ⟨⟨?_, ?_, fun k x y => ?_⟩, ⟨?_, fun o x y => ?_⟩, fun i x y => ?_, ⟨?_, fun p x y => ?_⟩, fun p x y i u v => ?_, ⟨?_, fun t x y => ?_⟩, ⟨?_, fun k x y => ?_⟩, ?_, fun k x y => ?_⟩
  · rw [e1 _ (by omega), c1 _ (by omega), b1 _ (by omega), a1 _ (by omega), ← hd1]
    simp (disch := omega) only [ms_i, ms_e]
  · rw [e1 _ (by omega), c1 _ (by omega), b1 _ (by omega), a1 _ (by omega), ← hd1]
    simp (disch := omega) only [ms_e]
  · rw [e1 _ (by omega), c1 _ (by omega), b1 _ (by omega), a1 _ (by omega), ← hd1]
    simp (disch := omega) only [ms_a, mc_e]
  · rw [e1 _ (by omega), c1 _ (by omega), b1 _ (by omega), a2, f1 _ (by omega)]
  · obtain ⟨g1, g2, g3, g4, g5, g6⟩ := a3 o x y
    rw [e1 _ (by omega), e1 _ (by omega), e1 _ (by omega), e1 _ (by omega), e1 _ (by omega), e1 _ (by omega), c1 _ (by omega), c1 _ (by omega), c1 _ (by omega), c1 _ (by omega), c1 _ (by omega), c1 _ (by omega), b1 _ (by omega), b1 _ (by omega), b1 _ (by omega), b1 _ (by omega), b1 _ (by omega), b1 _ (by omega), g1, g2, g3, g4, g5, g6]
    rw [f1 _ (by omega), f1 _ (by omega), f1 _ (by omega), f1 _ (by omega), f1 _ (by omega), f1 _ (by omega)]
    exact ⟨rfl, rfl, rfl, rfl, rfl, rfl⟩
  · rw [e1 _ (by omega), c1 _ (by omega), b1 _ (by omega), a4 i x y, f1 _ (by omega)]
  · rw [e1 _ (by omega), c1 _ (by omega), b2, s2 _ (by omega) (by omega)]
  · obtain ⟨g1, g2, g3, g4, g5⟩ := b3 p x y
    rw [e1 _ (by omega), e1 _ (by omega), e1 _ (by omega), e1 _ (by omega), e1 _ (by omega), c1 _ (by omega), c1 _ (by omega), c1 _ (by omega), c1 _ (by omega), c1 _ (by omega), g1, g2, g3, g4, g5]
    rw [s2 _ (by omega) (by omega), s2 _ (by omega) (by omega), s2 _ (by omega) (by omega), s2 _ (by omega) (by omega), s2 _ (by omega) (by omega)]
    exact ⟨rfl, rfl, rfl, rfl, rfl⟩
  · rw [e1 _ (by omega), c1 _ (by omega), b4 p x (by rw [s2 _ (by omega) (by omega)]; exact y) i u v, s2 _ (by omega) (by omega)]
  · rw [e1 _ (by omega), c2, s3 _ (by omega) (by omega)]
  · obtain ⟨g1, g2, g3, g4, g5, g6, g7⟩ := c3 t x (by rw [s3 _ (by omega) (by omega)]; exact y)
    rw [e1 _ (by omega), e1 _ (by omega), e1 _ (by omega), e1 _ (by omega), e1 _ (by omega), e1 _ (by omega), e1 _ (by omega), g1, g2, g3, g4, g5, g6, g7]
    rw [s3 _ (by omega) (by omega), s3 _ (by omega) (by omega), s3 _ (by omega) (by omega), s3 _ (by omega) (by omega), s3 _ (by omega) (by omega), s3 _ (by omega) (by omega), s3 _ (by omega) (by omega)]
    exact ⟨rfl, rfl, rfl, rfl, rfl, rfl, rfl⟩
  · rw [e2, s4 _ (by omega) (by omega)]
  · obtain ⟨g1, g2, g3, g4⟩ := e4 k x (by rw [s4 _ (by omega) (by omega)]; exact y)
    rw [g1, g2, g3, g4]
    rw [s4 _ (by omega) (by omega), s4 _ (by omega) (by omega), s4 _ (by omega) (by omega), s4 _ (by omega) (by omega)]
    exact ⟨rfl, rfl, rfl, rfl⟩
  · rw [e3, s4 _ (by omega) (by omega)]
  · rw [e5 k x (by rw [s4 _ (by omega) (by omega)]; exact y), s4 _ (by omega) (by omega)]
