/-! ===== contracts of the reference's methods: printed by a program of mine ===== -/
theorem bl_189 {x0 : Int} : ∀ (n : Nat) (d : mD), d x0 9 ≤ 1000 → 1000 - d x0 10 ≤ (n : Int) → (¬ ((lp_189_0 x0 n d) x0 10 < (lp_189_0 x0 n d) x0 9 ∧ ((lp_189_0 x0 n d) (x0 + 7) ((lp_189_0 x0 n d) x0 10) = 10 ∨ (lp_189_0 x0 n d) (x0 + 7) ((lp_189_0 x0 n d) x0 10) = 32))) ∧ (lp_189_0 x0 n d) x0 9 = d x0 9 ∧ (lp_189_0 x0 n d) (x0 + 7) = d (x0 + 7) := by
  intro n
  induction n with
  | zero =>
    intro d h9 hn
    have e : lp_189_0 x0 0 d = d := by
      show st_189_0 x0 _ d = d
      unfold st_189_0
      rw [if_neg (by omega)]
    rw [e]
    exact ⟨fun c => by omega, rfl, rfl⟩
  | succ n ih =>
    intro d h9 hn
    have e1 : (mset d x0 10 (d x0 10 + 1)) x0 9 = d x0 9 := mset_ni (by omega)
    have e2 : (mset d x0 10 (d x0 10 + 1)) (x0 + 7) = d (x0 + 7) := mset_ne (by omega)
    have e3 : (mset d x0 10 (d x0 10 + 1)) x0 10 = d x0 10 + 1 := mset_eq
    have k := ih (mset d x0 10 (d x0 10 + 1)) (by omega) (by omega)
    rw [e1, e2] at k
    have e : lp_189_0 x0 (n + 1) d = if d x0 10 < d x0 9 then (if d (x0 + 7) (d x0 10) = 10 then lp_189_0 x0 n (mset d x0 10 ((d x0 10) + 1)) else if d (x0 + 7) (d x0 10) = 32 then lp_189_0 x0 n (mset d x0 10 ((d x0 10) + 1)) else d) else d := rfl
    rw [e]
    by_cases c : d x0 10 < d x0 9
    · rw [if_pos c]
      by_cases c1 : d (x0 + 7) (d x0 10) = 10
      · rw [if_pos c1]; exact k
      · rw [if_neg c1]
        by_cases c2 : d (x0 + 7) (d x0 10) = 32
        · rw [if_pos c2]; exact k
        · rw [if_neg c2]
          exact ⟨fun z => z.2.elim c1 c2, rfl, rfl⟩
    · rw [if_neg c]
      exact ⟨fun z => c z.1, rfl, rfl⟩
theorem bl_stay {x0 : Int} {d : mD} (h : ¬ (d x0 10 < d x0 9 ∧ (d (x0 + 7) (d x0 10) = 10 ∨ d (x0 + 7) (d x0 10) = 32))) (n : Nat) : lp_189_0 x0 n d = d := by
  have g : ∀ r, st_189_0 x0 r d = d := by
    intro r
    unfold st_189_0
    by_cases c : d x0 10 < d x0 9
    · rw [if_pos c, if_neg (fun z => h ⟨c, Or.inl z⟩), if_neg (fun z => h ⟨c, Or.inr z⟩)]
    · rw [if_neg c]
  cases n with
  | zero => exact g _
  | succ n => exact g _
theorem isn2 {x0 : Int} {d : mD} (h9 : d x0 9 ≤ 1000) : ¬ v_192 x0 59 d = 0 ∨ v_192 x0 59 (g_192 x0 59 d) = 0 := by
  by_cases h : v_192 x0 59 d = 0
  · right
    have k := bl_189 (x0 := x0) (1000 - d x0 10 : Int).toNat d h9 (by omega)
    have e : g_189 x0 (g_189 x0 d) = g_189 x0 d := bl_stay k.1 _
    have k2 : (g_189 x0 d) x0 9 = d x0 9 := k.2.1
    have k3 : (g_189 x0 d) (x0 + 7) = d (x0 + 7) := k.2.2
    unfold v_192 g_192
    rw [e, k2, k3]
    exact h
  · exact Or.inl h
def v_194 (x0 x1 : Int) (d : mD) : Int := if (g_189 x0 d) x0 13 = 0 then (if mcmp (v_193 x0 8 (g_189 x0 d)) x1 = 0 then 1 else 0) else 0
def g_194 (x0 x1 : Int) (d : mD) : mD := if (g_189 x0 d) x0 13 = 0 then (if mcmp (v_193 x0 8 (g_189 x0 d)) x1 = 0 then g_193 x0 8 (g_189 x0 d) else mset (g_193 x0 8 (g_189 x0 d)) x0 10 ((g_189 x0 d) x0 10)) else mset (g_189 x0 d) x0 10 ((g_189 x0 d) x0 10)
theorem k_194 {E : mO × tW} {K : tK} {d : mD} {x0 x1 : Int} (hS : Safe d) (hx0 : mdB x0) (p1 : 1 ≤ x1 ∧ x1 ≤ 282429536480) (h : (0 ≤ (v_194 x0 x1 d) ∧ (v_194 x0 x1 d) ≤ 1) → (∀ b : Int, (b < x0 ∨ x0 < b) → (g_194 x0 x1 d) b = d b) → (g_194 x0 x1 d) x0 9 = d x0 9 → (d x0 10 ≤ (g_194 x0 x1 d) x0 10) → (d x0 13 = 0 ∨ ¬ (g_194 x0 x1 d) x0 13 = 0) → ((v_194 x0 x1 d) = 0 ∨ d x0 10 < (g_194 x0 x1 d) x0 10) → Safe (g_194 x0 x1 d) → K (.inl (some (0, (v_194 x0 x1 d)))) (g_194 x0 x1 d)) : tCall E 194 [.inr (11, x0), .inl (1, x1)] d K := by
  refine t_194_0 ?_
  have w8 := r_11_f9 hS hx0
  have w9 := r_11_f10 hS hx0
  refine k_189 hS hx0 (fun F1 k1_0 n1_0 n1_1 hS1 => ?_)
  refine t_194_4 ?_
  have w8 := r_11_f9 hS1 hx0
  have w9 := r_11_f10 hS1 hx0
  have q1 := r_11_f13 hS1 hx0
  refine ⟨m_inR (by omega) (by omega), fun c0 => ?_, fun c0 => ?_⟩
  · refine ⟨m_inR (by omega) (by omega), fun c1 => ?_, fun c1 => ?_⟩
    · exact (show False by omega).elim
    · have q2 := r_11_f10 hS1 hx0
      have hS2 : Safe (mset (g_189 x0 d) x0 10 ((g_189 x0 d) x0 10)) := s_11_f10 hS1 hx0 (by omega)
      refine ⟨by omega, ?_⟩
      have q3 : (mset (g_189 x0 d) x0 10 ((g_189 x0 d) x0 10)) x0 10 = (g_189 x0 d) x0 10 := mset_eq
      have q4 : (mset (g_189 x0 d) x0 10 ((g_189 x0 d) x0 10)) x0 13 = (g_189 x0 d) x0 13 := mset_ni (by omega)
      have y0 : v_194 x0 x1 d = 0 := by simp only [v_194, if_neg (show ¬ (g_189 x0 d) x0 13 = 0 from c0), if_pos (show (0 : Int) = 0 from c1)]
      have y1 : g_194 x0 x1 d = mset (g_189 x0 d) x0 10 ((g_189 x0 d) x0 10) := by simp only [g_194, if_neg (show ¬ (g_189 x0 d) x0 13 = 0 from c0), if_pos (show (0 : Int) = 0 from c1)]
      rw [y0] at h
      rw [y1] at h
      exact h (show 0 ≤ ((0 : Int)) ∧ ((0 : Int)) ≤ 1 from (by omega)) (show ∀ b : Int, (b < x0 ∨ x0 < b) → (mset (g_189 x0 d) x0 10 ((g_189 x0 d) x0 10)) b = d b from fun b hb => (mset_ne (by omega)).trans (F1 b (by omega))) (show (mset (g_189 x0 d) x0 10 ((g_189 x0 d) x0 10)) x0 9 = d x0 9 from (mset_ni (by omega)).trans (k1_0)) (show d x0 10 ≤ (mset (g_189 x0 d) x0 10 ((g_189 x0 d) x0 10)) x0 10 by omega) (show d x0 13 = 0 ∨ ¬ (mset (g_189 x0 d) x0 10 ((g_189 x0 d) x0 10)) x0 13 = 0 by omega) (show ((0 : Int)) = 0 ∨ d x0 10 < (mset (g_189 x0 d) x0 10 ((g_189 x0 d) x0 10)) x0 10 by omega) hS2
  · refine k_193 hS1 hx0 (by omega) (by omega) (fun e1 F2 k2_0 n2_0 n2_1 n2_2 hS3 => ?_)
    refine t_194_22 ?_
    have w8 := r_11_f9 hS3 hx0
    have w9 := r_11_f10 hS3 hx0
    have q5 := mcmp_r (v_193 x0 8 (g_189 x0 d)) x1
    refine ⟨⟨⟨by omega, by omega⟩, ⟨by omega, by omega⟩⟩, m_inR (by omega) (by omega), fun c1 => ?_, fun c1 => ?_⟩
    · refine ⟨m_inR (by omega) (by omega), fun c2 => ?_, fun c2 => ?_⟩
      · exact (show False by omega).elim
      · have q6 := r_11_f10 hS1 hx0
        have hS4 : Safe (mset (g_193 x0 8 (g_189 x0 d)) x0 10 ((g_189 x0 d) x0 10)) := s_11_f10 hS3 hx0 (by omega)
        refine ⟨by omega, ?_⟩
        have q7 : (mset (g_193 x0 8 (g_189 x0 d)) x0 10 ((g_189 x0 d) x0 10)) x0 10 = (g_189 x0 d) x0 10 := mset_eq
        have q8 : (mset (g_193 x0 8 (g_189 x0 d)) x0 10 ((g_189 x0 d) x0 10)) x0 13 = (g_193 x0 8 (g_189 x0 d)) x0 13 := mset_ni (by omega)
        have y0 : v_194 x0 x1 d = 0 := by simp only [v_194, if_pos (show (g_189 x0 d) x0 13 = 0 from c0), if_neg (show ¬ mcmp (v_193 x0 8 (g_189 x0 d)) x1 = 0 from c1), if_pos (show (0 : Int) = 0 from c2)]
        have y1 : g_194 x0 x1 d = mset (g_193 x0 8 (g_189 x0 d)) x0 10 ((g_189 x0 d) x0 10) := by simp only [g_194, if_pos (show (g_189 x0 d) x0 13 = 0 from c0), if_neg (show ¬ mcmp (v_193 x0 8 (g_189 x0 d)) x1 = 0 from c1), if_pos (show (0 : Int) = 0 from c2)]
        rw [y0] at h
        rw [y1] at h
        exact h (show 0 ≤ ((0 : Int)) ∧ ((0 : Int)) ≤ 1 from (by omega)) (show ∀ b : Int, (b < x0 ∨ x0 < b) → (mset (g_193 x0 8 (g_189 x0 d)) x0 10 ((g_189 x0 d) x0 10)) b = d b from fun b hb => (mset_ne (by omega)).trans ((F2 b (by omega)).trans (F1 b (by omega)))) (show (mset (g_193 x0 8 (g_189 x0 d)) x0 10 ((g_189 x0 d) x0 10)) x0 9 = d x0 9 from ((mset_ni (by omega)).trans (k2_0)).trans (k1_0)) (show d x0 10 ≤ (mset (g_193 x0 8 (g_189 x0 d)) x0 10 ((g_189 x0 d) x0 10)) x0 10 by omega) (show d x0 13 = 0 ∨ ¬ (mset (g_193 x0 8 (g_189 x0 d)) x0 10 ((g_189 x0 d) x0 10)) x0 13 = 0 by omega) (show ((0 : Int)) = 0 ∨ d x0 10 < (mset (g_193 x0 8 (g_189 x0 d)) x0 10 ((g_189 x0 d) x0 10)) x0 10 by omega) hS4
    · refine ⟨m_inR (by omega) (by omega), fun c2 => ?_, fun c2 => ?_⟩
      · refine ⟨by omega, ?_⟩
        have y0 : v_194 x0 x1 d = 1 := by simp only [v_194, if_pos (show (g_189 x0 d) x0 13 = 0 from c0), if_pos (show mcmp (v_193 x0 8 (g_189 x0 d)) x1 = 0 from c1), if_neg (show ¬ (1 : Int) = 0 from c2)]
        have y1 : g_194 x0 x1 d = g_193 x0 8 (g_189 x0 d) := by simp only [g_194, if_pos (show (g_189 x0 d) x0 13 = 0 from c0), if_pos (show mcmp (v_193 x0 8 (g_189 x0 d)) x1 = 0 from c1), if_neg (show ¬ (1 : Int) = 0 from c2)]
        rw [y0] at h
        rw [y1] at h
        exact h (show 0 ≤ ((1 : Int)) ∧ ((1 : Int)) ≤ 1 from (by omega)) (show ∀ b : Int, (b < x0 ∨ x0 < b) → (g_193 x0 8 (g_189 x0 d)) b = d b from fun b hb => (F2 b (by omega)).trans (F1 b (by omega))) (show (g_193 x0 8 (g_189 x0 d)) x0 9 = d x0 9 from (k2_0).trans (k1_0)) (show d x0 10 ≤ (g_193 x0 8 (g_189 x0 d)) x0 10 by omega) (show d x0 13 = 0 ∨ ¬ (g_193 x0 8 (g_189 x0 d)) x0 13 = 0 by omega) (show ((1 : Int)) = 0 ∨ d x0 10 < (g_193 x0 8 (g_189 x0 d)) x0 10 by omega) hS3
      · exact (show False by omega).elim
def g_195 (x0 : Int) (d : mD) : mD := if d x0 13 = 0 then (if v_192 x0 59 d = 0 then g_188 x0 1 ((g_192 x0 59 d) x0 10) (g_192 x0 59 d) else mset (g_192 x0 59 d) x0 10 (((g_192 x0 59 d) x0 10) + 1)) else d
theorem k_195 {E : mO × tW} {K : tK} {d : mD} {x0 : Int} (hS : Safe d) (hx0 : mdB x0) (h : (∀ b : Int, (b < x0 ∨ x0 < b) → (g_195 x0 d) b = d b) → (g_195 x0 d) x0 9 = d x0 9 → (d x0 10 ≤ (g_195 x0 d) x0 10) → (d x0 13 = 0 ∨ ¬ (g_195 x0 d) x0 13 = 0) → (¬ d x0 13 = 0 ∨ ¬ v_192 x0 59 d = 0 ∨ ¬ (g_195 x0 d) x0 13 = 0) → Safe (g_195 x0 d) → K (.inl none) (g_195 x0 d)) : tCall E 195 [.inr (11, x0)] d K := by
  refine t_195_0 ?_
  have w8 := r_11_f9 hS hx0
  have w9 := r_11_f10 hS hx0
  have q1 := r_11_f13 hS hx0
  refine ⟨m_inR (by omega) (by omega), fun c0 => ?_, fun c0 => ?_⟩
  · refine t_195_38 ?_
    have w8 := r_11_f9 hS hx0
    have w9 := r_11_f10 hS hx0
    have y0 : g_195 x0 d = d := by simp only [g_195, if_neg (show ¬ d x0 13 = 0 from c0)]
    rw [y0] at h
    exact h (show ∀ b : Int, (b < x0 ∨ x0 < b) → d b = d b from fun _ _ => rfl) (show d x0 9 = d x0 9 from rfl) (show d x0 10 ≤ d x0 10 by omega) (show d x0 13 = 0 ∨ ¬ d x0 13 = 0 by omega) (show ¬ d x0 13 = 0 ∨ ¬ v_192 x0 59 d = 0 ∨ ¬ d x0 13 = 0 by omega) hS
  · refine k_192 hS hx0 (m_inR (by omega) (by omega)) (fun e1 F1 k1_0 n1_0 n1_1 n1_2 hS1 => ?_)
    refine t_195_13 ?_
    have w8 := r_11_f9 hS1 hx0
    have w9 := r_11_f10 hS1 hx0
    refine ⟨m_inR (by omega) (by omega), fun c1 => ?_, fun c1 => ?_⟩
    · have q2 := r_11_f10 hS1 hx0
      refine k_188 hS1 hx0 (by omega) (by omega) (fun F2 k2_0 n2_0 n2_1 n2_2 hS2 => ?_)
      refine t_195_38 ?_
      have w8 := r_11_f9 hS2 hx0
      have w9 := r_11_f10 hS2 hx0
      have y0 : g_195 x0 d = g_188 x0 1 ((g_192 x0 59 d) x0 10) (g_192 x0 59 d) := by simp only [g_195, if_pos (show d x0 13 = 0 from c0), if_pos (show v_192 x0 59 d = 0 from c1)]
      rw [y0] at h
      exact h (show ∀ b : Int, (b < x0 ∨ x0 < b) → (g_188 x0 1 ((g_192 x0 59 d) x0 10) (g_192 x0 59 d)) b = d b from fun b hb => (F2 b (by omega)).trans (F1 b (by omega))) (show (g_188 x0 1 ((g_192 x0 59 d) x0 10) (g_192 x0 59 d)) x0 9 = d x0 9 from (k2_0).trans (k1_0)) (show d x0 10 ≤ (g_188 x0 1 ((g_192 x0 59 d) x0 10) (g_192 x0 59 d)) x0 10 by omega) (show d x0 13 = 0 ∨ ¬ (g_188 x0 1 ((g_192 x0 59 d) x0 10) (g_192 x0 59 d)) x0 13 = 0 by omega) (show ¬ d x0 13 = 0 ∨ ¬ v_192 x0 59 d = 0 ∨ ¬ (g_188 x0 1 ((g_192 x0 59 d) x0 10) (g_192 x0 59 d)) x0 13 = 0 by omega) hS2
    · have q3 := r_11_f10 hS1 hx0
      have hS3 : Safe (mset (g_192 x0 59 d) x0 10 (((g_192 x0 59 d) x0 10) + 1)) := s_11_f10 hS1 hx0 (by omega)
      refine t_195_38 ?_
      have w8 := r_11_f9 hS3 hx0
      have w9 := r_11_f10 hS3 hx0
      have q4 : (mset (g_192 x0 59 d) x0 10 (((g_192 x0 59 d) x0 10) + 1)) x0 10 = ((g_192 x0 59 d) x0 10) + 1 := mset_eq
      have q5 : (mset (g_192 x0 59 d) x0 10 (((g_192 x0 59 d) x0 10) + 1)) x0 13 = (g_192 x0 59 d) x0 13 := mset_ni (by omega)
      have y0 : g_195 x0 d = mset (g_192 x0 59 d) x0 10 (((g_192 x0 59 d) x0 10) + 1) := by simp only [g_195, if_pos (show d x0 13 = 0 from c0), if_neg (show ¬ v_192 x0 59 d = 0 from c1)]
      rw [y0] at h
      exact h (show ∀ b : Int, (b < x0 ∨ x0 < b) → (mset (g_192 x0 59 d) x0 10 (((g_192 x0 59 d) x0 10) + 1)) b = d b from fun b hb => (mset_ne (by omega)).trans (F1 b (by omega))) (show (mset (g_192 x0 59 d) x0 10 (((g_192 x0 59 d) x0 10) + 1)) x0 9 = d x0 9 from (mset_ni (by omega)).trans (k1_0)) (show d x0 10 ≤ (mset (g_192 x0 59 d) x0 10 (((g_192 x0 59 d) x0 10) + 1)) x0 10 by omega) (show d x0 13 = 0 ∨ ¬ (mset (g_192 x0 59 d) x0 10 (((g_192 x0 59 d) x0 10) + 1)) x0 13 = 0 by omega) (show ¬ d x0 13 = 0 ∨ ¬ v_192 x0 59 d = 0 ∨ ¬ (mset (g_192 x0 59 d) x0 10 (((g_192 x0 59 d) x0 10) + 1)) x0 13 = 0 by omega) hS3
def v_196 (x0 x1 : Int) (d : mD) : Int := if d x0 13 = 0 then (if v_192 x0 59 d = 0 then (if (g_195 x0 (g_192 x0 59 d)) x0 13 = 0 then 1 else 0) else if x1 = 0 then (if (g_195 x0 (g_188 x0 6 ((g_192 x0 59 d) x0 10) (g_192 x0 59 d))) x0 13 = 0 then 1 else 0) else if (g_195 x0 (g_192 x0 59 d)) x0 13 = 0 then 1 else 0) else if (g_195 x0 d) x0 13 = 0 then 1 else 0
def g_196 (x0 x1 : Int) (d : mD) : mD := if d x0 13 = 0 then (if v_192 x0 59 d = 0 then g_195 x0 (g_192 x0 59 d) else if x1 = 0 then g_195 x0 (g_188 x0 6 ((g_192 x0 59 d) x0 10) (g_192 x0 59 d)) else g_195 x0 (g_192 x0 59 d)) else g_195 x0 d
theorem k_196 {E : mO × tW} {K : tK} {d : mD} {x0 x1 : Int} (hS : Safe d) (hx0 : mdB x0) (p1 : 0 ≤ x1 ∧ x1 ≤ 1) (h : ((0 ≤ (v_196 x0 x1 d) ∧ (v_196 x0 x1 d) ≤ 1) ∧ ((v_196 x0 x1 d) = 0 ∨ ¬ x1 = 0)) → (∀ b : Int, (b < x0 ∨ x0 < b) → (g_196 x0 x1 d) b = d b) → (g_196 x0 x1 d) x0 9 = d x0 9 → (d x0 10 ≤ (g_196 x0 x1 d) x0 10) → (d x0 13 = 0 ∨ ¬ (g_196 x0 x1 d) x0 13 = 0) → ((v_196 x0 x1 d) = 0 ∨ (g_196 x0 x1 d) x0 13 = 0) → Safe (g_196 x0 x1 d) → K (.inl (some (0, (v_196 x0 x1 d)))) (g_196 x0 x1 d)) : tCall E 196 [.inr (11, x0), .inl (0, x1)] d K := by
  refine t_196_0 ?_
  have w8 := r_11_f9 hS hx0
  have w9 := r_11_f10 hS hx0
  have w7 := isn2 (x0 := x0) (r_11_f9 hS hx0).2
  have q1 := r_11_f13 hS hx0
  refine ⟨m_inR (by omega) (by omega), fun c0 => ?_, fun c0 => ?_⟩
  · refine t_196_30 ?_
    have w8 := r_11_f9 hS hx0
    have w9 := r_11_f10 hS hx0
    have w7 := isn2 (x0 := x0) (r_11_f9 hS hx0).2
    refine k_195 hS hx0 (fun F1 k1_0 n1_0 n1_1 n1_2 hS1 => ?_)
    refine t_196_34 ?_
    have w8 := r_11_f9 hS1 hx0
    have w9 := r_11_f10 hS1 hx0
    have w7 := isn2 (x0 := x0) (r_11_f9 hS hx0).2
    have q2 := r_11_f13 hS1 hx0
    refine ⟨m_inR (by omega) (by omega), fun c1 => ?_, fun c1 => ?_⟩
    · refine ⟨by omega, ?_⟩
      have y0 : v_196 x0 x1 d = 0 := by simp only [v_196, if_neg (show ¬ d x0 13 = 0 from c0), if_neg (show ¬ (g_195 x0 d) x0 13 = 0 from c1)]
      have y1 : g_196 x0 x1 d = g_195 x0 d := by simp only [g_196, if_neg (show ¬ d x0 13 = 0 from c0), if_neg (show ¬ (g_195 x0 d) x0 13 = 0 from c1)]
      rw [y0] at h
      rw [y1] at h
      exact h (show (0 ≤ ((0 : Int)) ∧ ((0 : Int)) ≤ 1) ∧ (((0 : Int)) = 0 ∨ ¬ x1 = 0) from (by omega)) (show ∀ b : Int, (b < x0 ∨ x0 < b) → (g_195 x0 d) b = d b from fun b hb => F1 b (by omega)) (show (g_195 x0 d) x0 9 = d x0 9 from k1_0) (show d x0 10 ≤ (g_195 x0 d) x0 10 by omega) (show d x0 13 = 0 ∨ ¬ (g_195 x0 d) x0 13 = 0 by omega) (show ((0 : Int)) = 0 ∨ (g_195 x0 d) x0 13 = 0 by omega) hS1
    · refine ⟨by omega, ?_⟩
      have y0 : v_196 x0 x1 d = 1 := by simp only [v_196, if_neg (show ¬ d x0 13 = 0 from c0), if_pos (show (g_195 x0 d) x0 13 = 0 from c1)]
      have y1 : g_196 x0 x1 d = g_195 x0 d := by simp only [g_196, if_neg (show ¬ d x0 13 = 0 from c0), if_pos (show (g_195 x0 d) x0 13 = 0 from c1)]
      rw [y0] at h
      rw [y1] at h
      exact h (show (0 ≤ ((1 : Int)) ∧ ((1 : Int)) ≤ 1) ∧ (((1 : Int)) = 0 ∨ ¬ x1 = 0) from (by omega)) (show ∀ b : Int, (b < x0 ∨ x0 < b) → (g_195 x0 d) b = d b from fun b hb => F1 b (by omega)) (show (g_195 x0 d) x0 9 = d x0 9 from k1_0) (show d x0 10 ≤ (g_195 x0 d) x0 10 by omega) (show d x0 13 = 0 ∨ ¬ (g_195 x0 d) x0 13 = 0 by omega) (show ((1 : Int)) = 0 ∨ (g_195 x0 d) x0 13 = 0 by omega) hS1
  · refine k_192 hS hx0 (m_inR (by omega) (by omega)) (fun e1 F2 k2_0 n2_0 n2_1 n2_2 hS2 => ?_)
    refine t_196_13 ?_
    have w8 := r_11_f9 hS2 hx0
    have w9 := r_11_f10 hS2 hx0
    have w7 := isn2 (x0 := x0) (r_11_f9 hS hx0).2
    refine ⟨m_inR (by omega) (by omega), fun c1 => ?_, fun c1 => ?_⟩
    · refine t_196_30 ?_
      have w8 := r_11_f9 hS2 hx0
      have w9 := r_11_f10 hS2 hx0
      have w7 := isn2 (x0 := x0) (r_11_f9 hS hx0).2
      refine k_195 hS2 hx0 (fun F3 k3_0 n3_0 n3_1 n3_2 hS3 => ?_)
      refine t_196_34 ?_
      have w8 := r_11_f9 hS3 hx0
      have w9 := r_11_f10 hS3 hx0
      have w7 := isn2 (x0 := x0) (r_11_f9 hS hx0).2
      have q3 := r_11_f13 hS3 hx0
      refine ⟨m_inR (by omega) (by omega), fun c2 => ?_, fun c2 => ?_⟩
      · refine ⟨by omega, ?_⟩
        have y0 : v_196 x0 x1 d = 0 := by simp only [v_196, if_pos (show d x0 13 = 0 from c0), if_pos (show v_192 x0 59 d = 0 from c1), if_neg (show ¬ (g_195 x0 (g_192 x0 59 d)) x0 13 = 0 from c2)]
        have y1 : g_196 x0 x1 d = g_195 x0 (g_192 x0 59 d) := by simp only [g_196, if_pos (show d x0 13 = 0 from c0), if_pos (show v_192 x0 59 d = 0 from c1), if_neg (show ¬ (g_195 x0 (g_192 x0 59 d)) x0 13 = 0 from c2)]
        rw [y0] at h
        rw [y1] at h
        exact h (show (0 ≤ ((0 : Int)) ∧ ((0 : Int)) ≤ 1) ∧ (((0 : Int)) = 0 ∨ ¬ x1 = 0) from (by omega)) (show ∀ b : Int, (b < x0 ∨ x0 < b) → (g_195 x0 (g_192 x0 59 d)) b = d b from fun b hb => (F3 b (by omega)).trans (F2 b (by omega))) (show (g_195 x0 (g_192 x0 59 d)) x0 9 = d x0 9 from (k3_0).trans (k2_0)) (show d x0 10 ≤ (g_195 x0 (g_192 x0 59 d)) x0 10 by omega) (show d x0 13 = 0 ∨ ¬ (g_195 x0 (g_192 x0 59 d)) x0 13 = 0 by omega) (show ((0 : Int)) = 0 ∨ (g_195 x0 (g_192 x0 59 d)) x0 13 = 0 by omega) hS3
      · refine ⟨by omega, ?_⟩
        have y0 : v_196 x0 x1 d = 1 := by simp only [v_196, if_pos (show d x0 13 = 0 from c0), if_pos (show v_192 x0 59 d = 0 from c1), if_pos (show (g_195 x0 (g_192 x0 59 d)) x0 13 = 0 from c2)]
        have y1 : g_196 x0 x1 d = g_195 x0 (g_192 x0 59 d) := by simp only [g_196, if_pos (show d x0 13 = 0 from c0), if_pos (show v_192 x0 59 d = 0 from c1), if_pos (show (g_195 x0 (g_192 x0 59 d)) x0 13 = 0 from c2)]
        rw [y0] at h
        rw [y1] at h
        exact h (show (0 ≤ ((1 : Int)) ∧ ((1 : Int)) ≤ 1) ∧ (((1 : Int)) = 0 ∨ ¬ x1 = 0) from (by omega)) (show ∀ b : Int, (b < x0 ∨ x0 < b) → (g_195 x0 (g_192 x0 59 d)) b = d b from fun b hb => (F3 b (by omega)).trans (F2 b (by omega))) (show (g_195 x0 (g_192 x0 59 d)) x0 9 = d x0 9 from (k3_0).trans (k2_0)) (show d x0 10 ≤ (g_195 x0 (g_192 x0 59 d)) x0 10 by omega) (show d x0 13 = 0 ∨ ¬ (g_195 x0 (g_192 x0 59 d)) x0 13 = 0 by omega) (show ((1 : Int)) = 0 ∨ (g_195 x0 (g_192 x0 59 d)) x0 13 = 0 by omega) hS3
    · refine ⟨m_inR (by omega) (by omega), fun c2 => ?_, fun c2 => ?_⟩
      · refine t_196_30 ?_
        have w8 := r_11_f9 hS2 hx0
        have w9 := r_11_f10 hS2 hx0
        have w7 := isn2 (x0 := x0) (r_11_f9 hS hx0).2
        refine k_195 hS2 hx0 (fun F4 k4_0 n4_0 n4_1 n4_2 hS4 => ?_)
        refine t_196_34 ?_
        have w8 := r_11_f9 hS4 hx0
        have w9 := r_11_f10 hS4 hx0
        have w7 := isn2 (x0 := x0) (r_11_f9 hS hx0).2
        have q4 := r_11_f13 hS4 hx0
        refine ⟨m_inR (by omega) (by omega), fun c3 => ?_, fun c3 => ?_⟩
        · refine ⟨by omega, ?_⟩
          have y0 : v_196 x0 x1 d = 0 := by simp only [v_196, if_pos (show d x0 13 = 0 from c0), if_neg (show ¬ v_192 x0 59 d = 0 from c1), if_neg (show ¬ x1 = 0 from c2), if_neg (show ¬ (g_195 x0 (g_192 x0 59 d)) x0 13 = 0 from c3)]
          have y1 : g_196 x0 x1 d = g_195 x0 (g_192 x0 59 d) := by simp only [g_196, if_pos (show d x0 13 = 0 from c0), if_neg (show ¬ v_192 x0 59 d = 0 from c1), if_neg (show ¬ x1 = 0 from c2), if_neg (show ¬ (g_195 x0 (g_192 x0 59 d)) x0 13 = 0 from c3)]
          rw [y0] at h
          rw [y1] at h
          exact h (show (0 ≤ ((0 : Int)) ∧ ((0 : Int)) ≤ 1) ∧ (((0 : Int)) = 0 ∨ ¬ x1 = 0) from (by omega)) (show ∀ b : Int, (b < x0 ∨ x0 < b) → (g_195 x0 (g_192 x0 59 d)) b = d b from fun b hb => (F4 b (by omega)).trans (F2 b (by omega))) (show (g_195 x0 (g_192 x0 59 d)) x0 9 = d x0 9 from (k4_0).trans (k2_0)) (show d x0 10 ≤ (g_195 x0 (g_192 x0 59 d)) x0 10 by omega) (show d x0 13 = 0 ∨ ¬ (g_195 x0 (g_192 x0 59 d)) x0 13 = 0 by omega) (show ((0 : Int)) = 0 ∨ (g_195 x0 (g_192 x0 59 d)) x0 13 = 0 by omega) hS4
        · refine ⟨by omega, ?_⟩
          have y0 : v_196 x0 x1 d = 1 := by simp only [v_196, if_pos (show d x0 13 = 0 from c0), if_neg (show ¬ v_192 x0 59 d = 0 from c1), if_neg (show ¬ x1 = 0 from c2), if_pos (show (g_195 x0 (g_192 x0 59 d)) x0 13 = 0 from c3)]
          have y1 : g_196 x0 x1 d = g_195 x0 (g_192 x0 59 d) := by simp only [g_196, if_pos (show d x0 13 = 0 from c0), if_neg (show ¬ v_192 x0 59 d = 0 from c1), if_neg (show ¬ x1 = 0 from c2), if_pos (show (g_195 x0 (g_192 x0 59 d)) x0 13 = 0 from c3)]
          rw [y0] at h
          rw [y1] at h
          exact h (show (0 ≤ ((1 : Int)) ∧ ((1 : Int)) ≤ 1) ∧ (((1 : Int)) = 0 ∨ ¬ x1 = 0) from (by omega)) (show ∀ b : Int, (b < x0 ∨ x0 < b) → (g_195 x0 (g_192 x0 59 d)) b = d b from fun b hb => (F4 b (by omega)).trans (F2 b (by omega))) (show (g_195 x0 (g_192 x0 59 d)) x0 9 = d x0 9 from (k4_0).trans (k2_0)) (show d x0 10 ≤ (g_195 x0 (g_192 x0 59 d)) x0 10 by omega) (show d x0 13 = 0 ∨ ¬ (g_195 x0 (g_192 x0 59 d)) x0 13 = 0 by omega) (show ((1 : Int)) = 0 ∨ (g_195 x0 (g_192 x0 59 d)) x0 13 = 0 by omega) hS4
      · have q5 := r_11_f10 hS2 hx0
        refine k_188 hS2 hx0 (by omega) (by omega) (fun F5 k5_0 n5_0 n5_1 n5_2 hS5 => ?_)
        refine t_196_30 ?_
        have w8 := r_11_f9 hS5 hx0
        have w9 := r_11_f10 hS5 hx0
        have w7 := isn2 (x0 := x0) (r_11_f9 hS hx0).2
        refine k_195 hS5 hx0 (fun F6 k6_0 n6_0 n6_1 n6_2 hS6 => ?_)
        refine t_196_34 ?_
        have w8 := r_11_f9 hS6 hx0
        have w9 := r_11_f10 hS6 hx0
        have w7 := isn2 (x0 := x0) (r_11_f9 hS hx0).2
        have q6 := r_11_f13 hS6 hx0
        refine ⟨m_inR (by omega) (by omega), fun c3 => ?_, fun c3 => ?_⟩
        · refine ⟨by omega, ?_⟩
          have y0 : v_196 x0 x1 d = 0 := by simp only [v_196, if_pos (show d x0 13 = 0 from c0), if_neg (show ¬ v_192 x0 59 d = 0 from c1), if_pos (show x1 = 0 from c2), if_neg (show ¬ (g_195 x0 (g_188 x0 6 ((g_192 x0 59 d) x0 10) (g_192 x0 59 d))) x0 13 = 0 from c3)]
          have y1 : g_196 x0 x1 d = g_195 x0 (g_188 x0 6 ((g_192 x0 59 d) x0 10) (g_192 x0 59 d)) := by simp only [g_196, if_pos (show d x0 13 = 0 from c0), if_neg (show ¬ v_192 x0 59 d = 0 from c1), if_pos (show x1 = 0 from c2), if_neg (show ¬ (g_195 x0 (g_188 x0 6 ((g_192 x0 59 d) x0 10) (g_192 x0 59 d))) x0 13 = 0 from c3)]
          rw [y0] at h
          rw [y1] at h
          exact h (show (0 ≤ ((0 : Int)) ∧ ((0 : Int)) ≤ 1) ∧ (((0 : Int)) = 0 ∨ ¬ x1 = 0) from (by omega)) (show ∀ b : Int, (b < x0 ∨ x0 < b) → (g_195 x0 (g_188 x0 6 ((g_192 x0 59 d) x0 10) (g_192 x0 59 d))) b = d b from fun b hb => (F6 b (by omega)).trans ((F5 b (by omega)).trans (F2 b (by omega)))) (show (g_195 x0 (g_188 x0 6 ((g_192 x0 59 d) x0 10) (g_192 x0 59 d))) x0 9 = d x0 9 from ((k6_0).trans (k5_0)).trans (k2_0)) (show d x0 10 ≤ (g_195 x0 (g_188 x0 6 ((g_192 x0 59 d) x0 10) (g_192 x0 59 d))) x0 10 by omega) (show d x0 13 = 0 ∨ ¬ (g_195 x0 (g_188 x0 6 ((g_192 x0 59 d) x0 10) (g_192 x0 59 d))) x0 13 = 0 by omega) (show ((0 : Int)) = 0 ∨ (g_195 x0 (g_188 x0 6 ((g_192 x0 59 d) x0 10) (g_192 x0 59 d))) x0 13 = 0 by omega) hS6
        · refine ⟨by omega, ?_⟩
          have y0 : v_196 x0 x1 d = 1 := by simp only [v_196, if_pos (show d x0 13 = 0 from c0), if_neg (show ¬ v_192 x0 59 d = 0 from c1), if_pos (show x1 = 0 from c2), if_pos (show (g_195 x0 (g_188 x0 6 ((g_192 x0 59 d) x0 10) (g_192 x0 59 d))) x0 13 = 0 from c3)]
          have y1 : g_196 x0 x1 d = g_195 x0 (g_188 x0 6 ((g_192 x0 59 d) x0 10) (g_192 x0 59 d)) := by simp only [g_196, if_pos (show d x0 13 = 0 from c0), if_neg (show ¬ v_192 x0 59 d = 0 from c1), if_pos (show x1 = 0 from c2), if_pos (show (g_195 x0 (g_188 x0 6 ((g_192 x0 59 d) x0 10) (g_192 x0 59 d))) x0 13 = 0 from c3)]
          rw [y0] at h
          rw [y1] at h
          exact h (show (0 ≤ ((1 : Int)) ∧ ((1 : Int)) ≤ 1) ∧ (((1 : Int)) = 0 ∨ ¬ x1 = 0) from (by omega)) (show ∀ b : Int, (b < x0 ∨ x0 < b) → (g_195 x0 (g_188 x0 6 ((g_192 x0 59 d) x0 10) (g_192 x0 59 d))) b = d b from fun b hb => (F6 b (by omega)).trans ((F5 b (by omega)).trans (F2 b (by omega)))) (show (g_195 x0 (g_188 x0 6 ((g_192 x0 59 d) x0 10) (g_192 x0 59 d))) x0 9 = d x0 9 from ((k6_0).trans (k5_0)).trans (k2_0)) (show d x0 10 ≤ (g_195 x0 (g_188 x0 6 ((g_192 x0 59 d) x0 10) (g_192 x0 59 d))) x0 10 by omega) (show d x0 13 = 0 ∨ ¬ (g_195 x0 (g_188 x0 6 ((g_192 x0 59 d) x0 10) (g_192 x0 59 d))) x0 13 = 0 by omega) (show ((1 : Int)) = 0 ∨ (g_195 x0 (g_188 x0 6 ((g_192 x0 59 d) x0 10) (g_192 x0 59 d))) x0 13 = 0 by omega) hS6
def v_198 (x0 : Int) (d : mD) : Int := if d x0 13 = 0 then (if (0 : Int) < mcmp (v_193 x0 6 d) 0 then (if (g_193 x0 6 d) x0 13 = 0 then v_193 x0 6 d else 0) else if (g_188 x0 1 ((g_193 x0 6 d) x0 16) (g_193 x0 6 d)) x0 13 = 0 then v_193 x0 6 d else 0) else 0
def g_198 (x0 : Int) (d : mD) : mD := if d x0 13 = 0 then (if (0 : Int) < mcmp (v_193 x0 6 d) 0 then g_193 x0 6 d else g_188 x0 1 ((g_193 x0 6 d) x0 16) (g_193 x0 6 d)) else d
theorem k_198 {E : mO × tW} {K : tK} {d : mD} {x0 : Int} (hS : Safe d) (hx0 : mdB x0) (h : (0 ≤ (v_198 x0 d) ∧ (v_198 x0 d) ≤ 387420488) → (∀ b : Int, (b < x0 ∨ x0 < b) → (g_198 x0 d) b = d b) → (g_198 x0 d) x0 9 = d x0 9 → (d x0 10 ≤ (g_198 x0 d) x0 10) → (d x0 13 = 0 ∨ ¬ (g_198 x0 d) x0 13 = 0) → Safe (g_198 x0 d) → K (.inl (some (0, (v_198 x0 d)))) (g_198 x0 d)) : tCall E 198 [.inr (11, x0)] d K := by
  refine t_198_0 ?_
  have w8 := r_11_f9 hS hx0
  have w9 := r_11_f10 hS hx0
  have q1 := r_11_f13 hS hx0
  refine ⟨m_inR (by omega) (by omega), fun c0 => ?_, fun c0 => ?_⟩
  · refine k_193 hS hx0 (by omega) (by omega) (fun e1 F1 k1_0 n1_0 n1_1 n1_2 hS1 => ?_)
    refine t_198_15 ?_
    have w8 := r_11_f9 hS1 hx0
    have w9 := r_11_f10 hS1 hx0
    have q2 := mcmp_r (v_193 x0 6 d) 0
    refine ⟨⟨⟨by omega, by omega⟩, ⟨by omega, by omega⟩⟩, m_inR (by omega) (by omega), fun c1 => ?_, fun c1 => ?_⟩
    · refine t_198_31 ?_
      have w8 := r_11_f9 hS1 hx0
      have w9 := r_11_f10 hS1 hx0
      have q3 := r_11_f13 hS1 hx0
      refine ⟨m_inR (by omega) (by omega), fun c2 => ?_, fun c2 => ?_⟩
      · have y0 : v_198 x0 d = v_193 x0 6 d := by simp only [v_198, if_pos (show d x0 13 = 0 from c0), if_pos (show (0 : Int) < mcmp (v_193 x0 6 d) 0 from c1), if_pos (show (g_193 x0 6 d) x0 13 = 0 from c2)]
        have y1 : g_198 x0 d = g_193 x0 6 d := by simp only [g_198, if_pos (show d x0 13 = 0 from c0), if_pos (show (0 : Int) < mcmp (v_193 x0 6 d) 0 from c1), if_pos (show (g_193 x0 6 d) x0 13 = 0 from c2)]
        rw [y0] at h
        rw [y1] at h
        exact h (show 0 ≤ (v_193 x0 6 d) ∧ (v_193 x0 6 d) ≤ 387420488 from (by omega)) (show ∀ b : Int, (b < x0 ∨ x0 < b) → (g_193 x0 6 d) b = d b from fun b hb => F1 b (by omega)) (show (g_193 x0 6 d) x0 9 = d x0 9 from k1_0) (show d x0 10 ≤ (g_193 x0 6 d) x0 10 by omega) (show d x0 13 = 0 ∨ ¬ (g_193 x0 6 d) x0 13 = 0 by omega) hS1
      · have y0 : v_198 x0 d = 0 := by simp only [v_198, if_pos (show d x0 13 = 0 from c0), if_pos (show (0 : Int) < mcmp (v_193 x0 6 d) 0 from c1), if_neg (show ¬ (g_193 x0 6 d) x0 13 = 0 from c2)]
        have y1 : g_198 x0 d = g_193 x0 6 d := by simp only [g_198, if_pos (show d x0 13 = 0 from c0), if_pos (show (0 : Int) < mcmp (v_193 x0 6 d) 0 from c1), if_neg (show ¬ (g_193 x0 6 d) x0 13 = 0 from c2)]
        rw [y0] at h
        rw [y1] at h
        exact h (show 0 ≤ ((0 : Int)) ∧ ((0 : Int)) ≤ 387420488 from (by omega)) (show ∀ b : Int, (b < x0 ∨ x0 < b) → (g_193 x0 6 d) b = d b from fun b hb => F1 b (by omega)) (show (g_193 x0 6 d) x0 9 = d x0 9 from k1_0) (show d x0 10 ≤ (g_193 x0 6 d) x0 10 by omega) (show d x0 13 = 0 ∨ ¬ (g_193 x0 6 d) x0 13 = 0 by omega) hS1
    · have q4 := r_11_f16 hS1 hx0
      refine k_188 hS1 hx0 (by omega) (by omega) (fun F2 k2_0 n2_0 n2_1 n2_2 hS2 => ?_)
      refine t_198_31 ?_
      have w8 := r_11_f9 hS2 hx0
      have w9 := r_11_f10 hS2 hx0
      have q5 := r_11_f13 hS2 hx0
      refine ⟨m_inR (by omega) (by omega), fun c2 => ?_, fun c2 => ?_⟩
      · have y0 : v_198 x0 d = v_193 x0 6 d := by simp only [v_198, if_pos (show d x0 13 = 0 from c0), if_neg (show ¬ (0 : Int) < mcmp (v_193 x0 6 d) 0 from Int.not_lt.mpr c1), if_pos (show (g_188 x0 1 ((g_193 x0 6 d) x0 16) (g_193 x0 6 d)) x0 13 = 0 from c2)]
        have y1 : g_198 x0 d = g_188 x0 1 ((g_193 x0 6 d) x0 16) (g_193 x0 6 d) := by simp only [g_198, if_pos (show d x0 13 = 0 from c0), if_neg (show ¬ (0 : Int) < mcmp (v_193 x0 6 d) 0 from Int.not_lt.mpr c1), if_pos (show (g_188 x0 1 ((g_193 x0 6 d) x0 16) (g_193 x0 6 d)) x0 13 = 0 from c2)]
        rw [y0] at h
        rw [y1] at h
        exact h (show 0 ≤ (v_193 x0 6 d) ∧ (v_193 x0 6 d) ≤ 387420488 from (by omega)) (show ∀ b : Int, (b < x0 ∨ x0 < b) → (g_188 x0 1 ((g_193 x0 6 d) x0 16) (g_193 x0 6 d)) b = d b from fun b hb => (F2 b (by omega)).trans (F1 b (by omega))) (show (g_188 x0 1 ((g_193 x0 6 d) x0 16) (g_193 x0 6 d)) x0 9 = d x0 9 from (k2_0).trans (k1_0)) (show d x0 10 ≤ (g_188 x0 1 ((g_193 x0 6 d) x0 16) (g_193 x0 6 d)) x0 10 by omega) (show d x0 13 = 0 ∨ ¬ (g_188 x0 1 ((g_193 x0 6 d) x0 16) (g_193 x0 6 d)) x0 13 = 0 by omega) hS2
      · have y0 : v_198 x0 d = 0 := by simp only [v_198, if_pos (show d x0 13 = 0 from c0), if_neg (show ¬ (0 : Int) < mcmp (v_193 x0 6 d) 0 from Int.not_lt.mpr c1), if_neg (show ¬ (g_188 x0 1 ((g_193 x0 6 d) x0 16) (g_193 x0 6 d)) x0 13 = 0 from c2)]
        have y1 : g_198 x0 d = g_188 x0 1 ((g_193 x0 6 d) x0 16) (g_193 x0 6 d) := by simp only [g_198, if_pos (show d x0 13 = 0 from c0), if_neg (show ¬ (0 : Int) < mcmp (v_193 x0 6 d) 0 from Int.not_lt.mpr c1), if_neg (show ¬ (g_188 x0 1 ((g_193 x0 6 d) x0 16) (g_193 x0 6 d)) x0 13 = 0 from c2)]
        rw [y0] at h
        rw [y1] at h
        exact h (show 0 ≤ ((0 : Int)) ∧ ((0 : Int)) ≤ 387420488 from (by omega)) (show ∀ b : Int, (b < x0 ∨ x0 < b) → (g_188 x0 1 ((g_193 x0 6 d) x0 16) (g_193 x0 6 d)) b = d b from fun b hb => (F2 b (by omega)).trans (F1 b (by omega))) (show (g_188 x0 1 ((g_193 x0 6 d) x0 16) (g_193 x0 6 d)) x0 9 = d x0 9 from (k2_0).trans (k1_0)) (show d x0 10 ≤ (g_188 x0 1 ((g_193 x0 6 d) x0 16) (g_193 x0 6 d)) x0 10 by omega) (show d x0 13 = 0 ∨ ¬ (g_188 x0 1 ((g_193 x0 6 d) x0 16) (g_193 x0 6 d)) x0 13 = 0 by omega) hS2
  · have y0 : v_198 x0 d = 0 := by simp only [v_198, if_neg (show ¬ d x0 13 = 0 from c0)]
    have y1 : g_198 x0 d = d := by simp only [g_198, if_neg (show ¬ d x0 13 = 0 from c0)]
    rw [y0] at h
    rw [y1] at h
    exact h (show 0 ≤ ((0 : Int)) ∧ ((0 : Int)) ≤ 387420488 from (by omega)) (show ∀ b : Int, (b < x0 ∨ x0 < b) → d b = d b from fun _ _ => rfl) (show d x0 9 = d x0 9 from rfl) (show d x0 10 ≤ d x0 10 by omega) (show d x0 13 = 0 ∨ ¬ d x0 13 = 0 by omega) hS
def v_199 (x0 x1 : Int) (d : mD) : Int := if v_183 x0 (v_198 x0 d) (g_198 x0 d) = (-1) then (if (g_188 x0 4 ((g_198 x0 d) x0 16) (g_198 x0 d)) x0 13 = 0 then v_183 x0 (v_198 x0 d) (g_198 x0 d) else 0) else if x1 = 0 then (if (g_198 x0 d) x0 13 = 0 then v_183 x0 (v_198 x0 d) (g_198 x0 d) else 0) else if v_201 x0 (v_183 x0 (v_198 x0 d) (g_198 x0 d)) (g_198 x0 d) = (-1) then (if (g_188 x0 4 ((g_198 x0 d) x0 16) (g_198 x0 d)) x0 13 = 0 then v_183 x0 (v_198 x0 d) (g_198 x0 d) else 0) else if (g_198 x0 d) x0 13 = 0 then v_183 x0 (v_198 x0 d) (g_198 x0 d) else 0
def g_199 (x0 x1 : Int) (d : mD) : mD := if v_183 x0 (v_198 x0 d) (g_198 x0 d) = (-1) then g_188 x0 4 ((g_198 x0 d) x0 16) (g_198 x0 d) else if x1 = 0 then g_198 x0 d else if v_201 x0 (v_183 x0 (v_198 x0 d) (g_198 x0 d)) (g_198 x0 d) = (-1) then g_188 x0 4 ((g_198 x0 d) x0 16) (g_198 x0 d) else g_198 x0 d
theorem k_199 {E : mO × tW} {K : tK} {d : mD} {x0 x1 : Int} (hS : Safe d) (hx0 : mdB x0) (p1 : 0 ≤ x1 ∧ x1 ≤ 1) (h : (0 ≤ (v_199 x0 x1 d) ∧ (v_199 x0 x1 d) ≤ 15) → (∀ b : Int, (b < x0 ∨ x0 < b) → (g_199 x0 x1 d) b = d b) → (g_199 x0 x1 d) x0 9 = d x0 9 → (d x0 10 ≤ (g_199 x0 x1 d) x0 10) → (d x0 13 = 0 ∨ ¬ (g_199 x0 x1 d) x0 13 = 0) → (¬ (g_199 x0 x1 d) x0 13 = 0 ∨ x1 = 0 ∨ 0 ≤ v_201 x0 (v_199 x0 x1 d) (g_199 x0 x1 d)) → Safe (g_199 x0 x1 d) → K (.inl (some (0, (v_199 x0 x1 d)))) (g_199 x0 x1 d)) : tCall E 199 [.inr (11, x0), .inl (0, x1)] d K := by
  refine t_199_0 ?_
  have w8 := r_11_f9 hS hx0
  have w9 := r_11_f10 hS hx0
  refine k_198 hS hx0 (fun e1 F1 k1_0 n1_0 n1_1 hS1 => ?_)
  refine t_199_5 ?_
  have w8 := r_11_f9 hS1 hx0
  have w9 := r_11_f10 hS1 hx0
  refine k_183 hS1 hx0 (m_inR (by omega) (by omega)) (fun e2 => ?_)
  refine t_199_8 ?_
  have w8 := r_11_f9 hS1 hx0
  have w9 := r_11_f10 hS1 hx0
  refine ⟨⟨m_inR (by omega) (by omega), m_inR (by omega) (by omega)⟩, fun c0 => ?_, fun c0 => ?_⟩
  · have q1 := r_11_f16 hS1 hx0
    refine k_188 hS1 hx0 (by omega) (by omega) (fun F2 k2_0 n2_0 n2_1 n2_2 hS2 => ?_)
    refine t_199_36 ?_
    have w8 := r_11_f9 hS2 hx0
    have w9 := r_11_f10 hS2 hx0
    have q2 := r_11_f13 hS2 hx0
    refine ⟨m_inR (by omega) (by omega), fun c1 => ?_, fun c1 => ?_⟩
    · have y0 : v_199 x0 x1 d = v_183 x0 (v_198 x0 d) (g_198 x0 d) := by simp only [v_199, if_pos (show v_183 x0 (v_198 x0 d) (g_198 x0 d) = (-1) from c0), if_pos (show (g_188 x0 4 ((g_198 x0 d) x0 16) (g_198 x0 d)) x0 13 = 0 from c1)]
      have y1 : g_199 x0 x1 d = g_188 x0 4 ((g_198 x0 d) x0 16) (g_198 x0 d) := by simp only [g_199, if_pos (show v_183 x0 (v_198 x0 d) (g_198 x0 d) = (-1) from c0), if_pos (show (g_188 x0 4 ((g_198 x0 d) x0 16) (g_198 x0 d)) x0 13 = 0 from c1)]
      rw [y0] at h
      rw [y1] at h
      exact h (show 0 ≤ (v_183 x0 (v_198 x0 d) (g_198 x0 d)) ∧ (v_183 x0 (v_198 x0 d) (g_198 x0 d)) ≤ 15 from (by omega)) (show ∀ b : Int, (b < x0 ∨ x0 < b) → (g_188 x0 4 ((g_198 x0 d) x0 16) (g_198 x0 d)) b = d b from fun b hb => (F2 b (by omega)).trans (F1 b (by omega))) (show (g_188 x0 4 ((g_198 x0 d) x0 16) (g_198 x0 d)) x0 9 = d x0 9 from (k2_0).trans (k1_0)) (show d x0 10 ≤ (g_188 x0 4 ((g_198 x0 d) x0 16) (g_198 x0 d)) x0 10 by omega) (show d x0 13 = 0 ∨ ¬ (g_188 x0 4 ((g_198 x0 d) x0 16) (g_198 x0 d)) x0 13 = 0 by omega) (show ¬ (g_188 x0 4 ((g_198 x0 d) x0 16) (g_198 x0 d)) x0 13 = 0 ∨ x1 = 0 ∨ 0 ≤ v_201 x0 (v_183 x0 (v_198 x0 d) (g_198 x0 d)) (g_188 x0 4 ((g_198 x0 d) x0 16) (g_198 x0 d)) by omega) hS2
    · have y0 : v_199 x0 x1 d = 0 := by simp only [v_199, if_pos (show v_183 x0 (v_198 x0 d) (g_198 x0 d) = (-1) from c0), if_neg (show ¬ (g_188 x0 4 ((g_198 x0 d) x0 16) (g_198 x0 d)) x0 13 = 0 from c1)]
      have y1 : g_199 x0 x1 d = g_188 x0 4 ((g_198 x0 d) x0 16) (g_198 x0 d) := by simp only [g_199, if_pos (show v_183 x0 (v_198 x0 d) (g_198 x0 d) = (-1) from c0), if_neg (show ¬ (g_188 x0 4 ((g_198 x0 d) x0 16) (g_198 x0 d)) x0 13 = 0 from c1)]
      rw [y0] at h
      rw [y1] at h
      exact h (show 0 ≤ ((0 : Int)) ∧ ((0 : Int)) ≤ 15 from (by omega)) (show ∀ b : Int, (b < x0 ∨ x0 < b) → (g_188 x0 4 ((g_198 x0 d) x0 16) (g_198 x0 d)) b = d b from fun b hb => (F2 b (by omega)).trans (F1 b (by omega))) (show (g_188 x0 4 ((g_198 x0 d) x0 16) (g_198 x0 d)) x0 9 = d x0 9 from (k2_0).trans (k1_0)) (show d x0 10 ≤ (g_188 x0 4 ((g_198 x0 d) x0 16) (g_198 x0 d)) x0 10 by omega) (show d x0 13 = 0 ∨ ¬ (g_188 x0 4 ((g_198 x0 d) x0 16) (g_198 x0 d)) x0 13 = 0 by omega) (show ¬ (g_188 x0 4 ((g_198 x0 d) x0 16) (g_198 x0 d)) x0 13 = 0 ∨ x1 = 0 ∨ 0 ≤ v_201 x0 ((0 : Int)) (g_188 x0 4 ((g_198 x0 d) x0 16) (g_198 x0 d)) by omega) hS2
  · refine ⟨m_inR (by omega) (by omega), fun c1 => ?_, fun c1 => ?_⟩
    · refine t_199_36 ?_
      have w8 := r_11_f9 hS1 hx0
      have w9 := r_11_f10 hS1 hx0
      have q3 := r_11_f13 hS1 hx0
      refine ⟨m_inR (by omega) (by omega), fun c2 => ?_, fun c2 => ?_⟩
      · have y0 : v_199 x0 x1 d = v_183 x0 (v_198 x0 d) (g_198 x0 d) := by simp only [v_199, if_neg (show ¬ v_183 x0 (v_198 x0 d) (g_198 x0 d) = (-1) from c0), if_pos (show x1 = 0 from c1), if_pos (show (g_198 x0 d) x0 13 = 0 from c2)]
        have y1 : g_199 x0 x1 d = g_198 x0 d := by simp only [g_199, if_neg (show ¬ v_183 x0 (v_198 x0 d) (g_198 x0 d) = (-1) from c0), if_pos (show x1 = 0 from c1), if_pos (show (g_198 x0 d) x0 13 = 0 from c2)]
        rw [y0] at h
        rw [y1] at h
        exact h (show 0 ≤ (v_183 x0 (v_198 x0 d) (g_198 x0 d)) ∧ (v_183 x0 (v_198 x0 d) (g_198 x0 d)) ≤ 15 from (by omega)) (show ∀ b : Int, (b < x0 ∨ x0 < b) → (g_198 x0 d) b = d b from fun b hb => F1 b (by omega)) (show (g_198 x0 d) x0 9 = d x0 9 from k1_0) (show d x0 10 ≤ (g_198 x0 d) x0 10 by omega) (show d x0 13 = 0 ∨ ¬ (g_198 x0 d) x0 13 = 0 by omega) (show ¬ (g_198 x0 d) x0 13 = 0 ∨ x1 = 0 ∨ 0 ≤ v_201 x0 (v_183 x0 (v_198 x0 d) (g_198 x0 d)) (g_198 x0 d) by omega) hS1
      · have y0 : v_199 x0 x1 d = 0 := by simp only [v_199, if_neg (show ¬ v_183 x0 (v_198 x0 d) (g_198 x0 d) = (-1) from c0), if_pos (show x1 = 0 from c1), if_neg (show ¬ (g_198 x0 d) x0 13 = 0 from c2)]
        have y1 : g_199 x0 x1 d = g_198 x0 d := by simp only [g_199, if_neg (show ¬ v_183 x0 (v_198 x0 d) (g_198 x0 d) = (-1) from c0), if_pos (show x1 = 0 from c1), if_neg (show ¬ (g_198 x0 d) x0 13 = 0 from c2)]
        rw [y0] at h
        rw [y1] at h
        exact h (show 0 ≤ ((0 : Int)) ∧ ((0 : Int)) ≤ 15 from (by omega)) (show ∀ b : Int, (b < x0 ∨ x0 < b) → (g_198 x0 d) b = d b from fun b hb => F1 b (by omega)) (show (g_198 x0 d) x0 9 = d x0 9 from k1_0) (show d x0 10 ≤ (g_198 x0 d) x0 10 by omega) (show d x0 13 = 0 ∨ ¬ (g_198 x0 d) x0 13 = 0 by omega) (show ¬ (g_198 x0 d) x0 13 = 0 ∨ x1 = 0 ∨ 0 ≤ v_201 x0 ((0 : Int)) (g_198 x0 d) by omega) hS1
    · refine k_201 hS1 hx0 (m_inR (by omega) (by omega)) (fun e3 => ?_)
      refine t_199_23 ?_
      have w8 := r_11_f9 hS1 hx0
      have w9 := r_11_f10 hS1 hx0
      refine ⟨⟨m_inR (by omega) (by omega), m_inR (by omega) (by omega)⟩, fun c2 => ?_, fun c2 => ?_⟩
      · refine t_199_36 ?_
        have w8 := r_11_f9 hS1 hx0
        have w9 := r_11_f10 hS1 hx0
        have q4 := r_11_f13 hS1 hx0
        refine ⟨m_inR (by omega) (by omega), fun c3 => ?_, fun c3 => ?_⟩
        · have y0 : v_199 x0 x1 d = v_183 x0 (v_198 x0 d) (g_198 x0 d) := by simp only [v_199, if_neg (show ¬ v_183 x0 (v_198 x0 d) (g_198 x0 d) = (-1) from c0), if_neg (show ¬ x1 = 0 from c1), if_neg (show ¬ v_201 x0 (v_183 x0 (v_198 x0 d) (g_198 x0 d)) (g_198 x0 d) = (-1) from c2), if_pos (show (g_198 x0 d) x0 13 = 0 from c3)]
          have y1 : g_199 x0 x1 d = g_198 x0 d := by simp only [g_199, if_neg (show ¬ v_183 x0 (v_198 x0 d) (g_198 x0 d) = (-1) from c0), if_neg (show ¬ x1 = 0 from c1), if_neg (show ¬ v_201 x0 (v_183 x0 (v_198 x0 d) (g_198 x0 d)) (g_198 x0 d) = (-1) from c2), if_pos (show (g_198 x0 d) x0 13 = 0 from c3)]
          rw [y0] at h
          rw [y1] at h
          exact h (show 0 ≤ (v_183 x0 (v_198 x0 d) (g_198 x0 d)) ∧ (v_183 x0 (v_198 x0 d) (g_198 x0 d)) ≤ 15 from (by omega)) (show ∀ b : Int, (b < x0 ∨ x0 < b) → (g_198 x0 d) b = d b from fun b hb => F1 b (by omega)) (show (g_198 x0 d) x0 9 = d x0 9 from k1_0) (show d x0 10 ≤ (g_198 x0 d) x0 10 by omega) (show d x0 13 = 0 ∨ ¬ (g_198 x0 d) x0 13 = 0 by omega) (show ¬ (g_198 x0 d) x0 13 = 0 ∨ x1 = 0 ∨ 0 ≤ v_201 x0 (v_183 x0 (v_198 x0 d) (g_198 x0 d)) (g_198 x0 d) by omega) hS1
        · have y0 : v_199 x0 x1 d = 0 := by simp only [v_199, if_neg (show ¬ v_183 x0 (v_198 x0 d) (g_198 x0 d) = (-1) from c0), if_neg (show ¬ x1 = 0 from c1), if_neg (show ¬ v_201 x0 (v_183 x0 (v_198 x0 d) (g_198 x0 d)) (g_198 x0 d) = (-1) from c2), if_neg (show ¬ (g_198 x0 d) x0 13 = 0 from c3)]
          have y1 : g_199 x0 x1 d = g_198 x0 d := by simp only [g_199, if_neg (show ¬ v_183 x0 (v_198 x0 d) (g_198 x0 d) = (-1) from c0), if_neg (show ¬ x1 = 0 from c1), if_neg (show ¬ v_201 x0 (v_183 x0 (v_198 x0 d) (g_198 x0 d)) (g_198 x0 d) = (-1) from c2), if_neg (show ¬ (g_198 x0 d) x0 13 = 0 from c3)]
          rw [y0] at h
          rw [y1] at h
          exact h (show 0 ≤ ((0 : Int)) ∧ ((0 : Int)) ≤ 15 from (by omega)) (show ∀ b : Int, (b < x0 ∨ x0 < b) → (g_198 x0 d) b = d b from fun b hb => F1 b (by omega)) (show (g_198 x0 d) x0 9 = d x0 9 from k1_0) (show d x0 10 ≤ (g_198 x0 d) x0 10 by omega) (show d x0 13 = 0 ∨ ¬ (g_198 x0 d) x0 13 = 0 by omega) (show ¬ (g_198 x0 d) x0 13 = 0 ∨ x1 = 0 ∨ 0 ≤ v_201 x0 ((0 : Int)) (g_198 x0 d) by omega) hS1
      · have q5 := r_11_f16 hS1 hx0
        refine k_188 hS1 hx0 (by omega) (by omega) (fun F3 k3_0 n3_0 n3_1 n3_2 hS3 => ?_)
        refine t_199_36 ?_
        have w8 := r_11_f9 hS3 hx0
        have w9 := r_11_f10 hS3 hx0
        have q6 := r_11_f13 hS3 hx0
        refine ⟨m_inR (by omega) (by omega), fun c3 => ?_, fun c3 => ?_⟩
        · have y0 : v_199 x0 x1 d = v_183 x0 (v_198 x0 d) (g_198 x0 d) := by simp only [v_199, if_neg (show ¬ v_183 x0 (v_198 x0 d) (g_198 x0 d) = (-1) from c0), if_neg (show ¬ x1 = 0 from c1), if_pos (show v_201 x0 (v_183 x0 (v_198 x0 d) (g_198 x0 d)) (g_198 x0 d) = (-1) from c2), if_pos (show (g_188 x0 4 ((g_198 x0 d) x0 16) (g_198 x0 d)) x0 13 = 0 from c3)]
          have y1 : g_199 x0 x1 d = g_188 x0 4 ((g_198 x0 d) x0 16) (g_198 x0 d) := by simp only [g_199, if_neg (show ¬ v_183 x0 (v_198 x0 d) (g_198 x0 d) = (-1) from c0), if_neg (show ¬ x1 = 0 from c1), if_pos (show v_201 x0 (v_183 x0 (v_198 x0 d) (g_198 x0 d)) (g_198 x0 d) = (-1) from c2), if_pos (show (g_188 x0 4 ((g_198 x0 d) x0 16) (g_198 x0 d)) x0 13 = 0 from c3)]
          rw [y0] at h
          rw [y1] at h
          exact h (show 0 ≤ (v_183 x0 (v_198 x0 d) (g_198 x0 d)) ∧ (v_183 x0 (v_198 x0 d) (g_198 x0 d)) ≤ 15 from (by omega)) (show ∀ b : Int, (b < x0 ∨ x0 < b) → (g_188 x0 4 ((g_198 x0 d) x0 16) (g_198 x0 d)) b = d b from fun b hb => (F3 b (by omega)).trans (F1 b (by omega))) (show (g_188 x0 4 ((g_198 x0 d) x0 16) (g_198 x0 d)) x0 9 = d x0 9 from (k3_0).trans (k1_0)) (show d x0 10 ≤ (g_188 x0 4 ((g_198 x0 d) x0 16) (g_198 x0 d)) x0 10 by omega) (show d x0 13 = 0 ∨ ¬ (g_188 x0 4 ((g_198 x0 d) x0 16) (g_198 x0 d)) x0 13 = 0 by omega) (show ¬ (g_188 x0 4 ((g_198 x0 d) x0 16) (g_198 x0 d)) x0 13 = 0 ∨ x1 = 0 ∨ 0 ≤ v_201 x0 (v_183 x0 (v_198 x0 d) (g_198 x0 d)) (g_188 x0 4 ((g_198 x0 d) x0 16) (g_198 x0 d)) by omega) hS3
        · have y0 : v_199 x0 x1 d = 0 := by simp only [v_199, if_neg (show ¬ v_183 x0 (v_198 x0 d) (g_198 x0 d) = (-1) from c0), if_neg (show ¬ x1 = 0 from c1), if_pos (show v_201 x0 (v_183 x0 (v_198 x0 d) (g_198 x0 d)) (g_198 x0 d) = (-1) from c2), if_neg (show ¬ (g_188 x0 4 ((g_198 x0 d) x0 16) (g_198 x0 d)) x0 13 = 0 from c3)]
          have y1 : g_199 x0 x1 d = g_188 x0 4 ((g_198 x0 d) x0 16) (g_198 x0 d) := by simp only [g_199, if_neg (show ¬ v_183 x0 (v_198 x0 d) (g_198 x0 d) = (-1) from c0), if_neg (show ¬ x1 = 0 from c1), if_pos (show v_201 x0 (v_183 x0 (v_198 x0 d) (g_198 x0 d)) (g_198 x0 d) = (-1) from c2), if_neg (show ¬ (g_188 x0 4 ((g_198 x0 d) x0 16) (g_198 x0 d)) x0 13 = 0 from c3)]
          rw [y0] at h
          rw [y1] at h
          exact h (show 0 ≤ ((0 : Int)) ∧ ((0 : Int)) ≤ 15 from (by omega)) (show ∀ b : Int, (b < x0 ∨ x0 < b) → (g_188 x0 4 ((g_198 x0 d) x0 16) (g_198 x0 d)) b = d b from fun b hb => (F3 b (by omega)).trans (F1 b (by omega))) (show (g_188 x0 4 ((g_198 x0 d) x0 16) (g_198 x0 d)) x0 9 = d x0 9 from (k3_0).trans (k1_0)) (show d x0 10 ≤ (g_188 x0 4 ((g_198 x0 d) x0 16) (g_198 x0 d)) x0 10 by omega) (show d x0 13 = 0 ∨ ¬ (g_188 x0 4 ((g_198 x0 d) x0 16) (g_198 x0 d)) x0 13 = 0 by omega) (show ¬ (g_188 x0 4 ((g_198 x0 d) x0 16) (g_198 x0 d)) x0 13 = 0 ∨ x1 = 0 ∨ 0 ≤ v_201 x0 ((0 : Int)) (g_188 x0 4 ((g_198 x0 d) x0 16) (g_198 x0 d)) by omega) hS3
def v_200 (x0 : Int) (d : mD) : Int := if v_184 x0 (v_198 x0 d) (g_198 x0 d) = (-1) then (if (g_188 x0 4 ((g_198 x0 d) x0 16) (g_198 x0 d)) x0 13 = 0 then v_184 x0 (v_198 x0 d) (g_198 x0 d) else 0) else if (g_198 x0 d) x0 13 = 0 then v_184 x0 (v_198 x0 d) (g_198 x0 d) else 0
def g_200 (x0 : Int) (d : mD) : mD := if v_184 x0 (v_198 x0 d) (g_198 x0 d) = (-1) then g_188 x0 4 ((g_198 x0 d) x0 16) (g_198 x0 d) else g_198 x0 d
theorem k_200 {E : mO × tW} {K : tK} {d : mD} {x0 : Int} (hS : Safe d) (hx0 : mdB x0) (h : (0 ≤ (v_200 x0 d) ∧ (v_200 x0 d) ≤ 5) → (∀ b : Int, (b < x0 ∨ x0 < b) → (g_200 x0 d) b = d b) → (g_200 x0 d) x0 9 = d x0 9 → (d x0 10 ≤ (g_200 x0 d) x0 10) → (d x0 13 = 0 ∨ ¬ (g_200 x0 d) x0 13 = 0) → Safe (g_200 x0 d) → K (.inl (some (0, (v_200 x0 d)))) (g_200 x0 d)) : tCall E 200 [.inr (11, x0)] d K := by
  refine t_200_0 ?_
  have w8 := r_11_f9 hS hx0
  have w9 := r_11_f10 hS hx0
  refine k_198 hS hx0 (fun e1 F1 k1_0 n1_0 n1_1 hS1 => ?_)
  refine t_200_5 ?_
  have w8 := r_11_f9 hS1 hx0
  have w9 := r_11_f10 hS1 hx0
  refine k_184 hS1 hx0 (m_inR (by omega) (by omega)) (fun e2 => ?_)
  refine t_200_8 ?_
  have w8 := r_11_f9 hS1 hx0
  have w9 := r_11_f10 hS1 hx0
  refine ⟨⟨m_inR (by omega) (by omega), m_inR (by omega) (by omega)⟩, fun c0 => ?_, fun c0 => ?_⟩
  · refine t_200_23 ?_
    have w8 := r_11_f9 hS1 hx0
    have w9 := r_11_f10 hS1 hx0
    have q1 := r_11_f13 hS1 hx0
    refine ⟨m_inR (by omega) (by omega), fun c1 => ?_, fun c1 => ?_⟩
    · have y0 : v_200 x0 d = v_184 x0 (v_198 x0 d) (g_198 x0 d) := by simp only [v_200, if_neg (show ¬ v_184 x0 (v_198 x0 d) (g_198 x0 d) = (-1) from c0), if_pos (show (g_198 x0 d) x0 13 = 0 from c1)]
      have y1 : g_200 x0 d = g_198 x0 d := by simp only [g_200, if_neg (show ¬ v_184 x0 (v_198 x0 d) (g_198 x0 d) = (-1) from c0), if_pos (show (g_198 x0 d) x0 13 = 0 from c1)]
      rw [y0] at h
      rw [y1] at h
      exact h (show 0 ≤ (v_184 x0 (v_198 x0 d) (g_198 x0 d)) ∧ (v_184 x0 (v_198 x0 d) (g_198 x0 d)) ≤ 5 from (by omega)) (show ∀ b : Int, (b < x0 ∨ x0 < b) → (g_198 x0 d) b = d b from fun b hb => F1 b (by omega)) (show (g_198 x0 d) x0 9 = d x0 9 from k1_0) (show d x0 10 ≤ (g_198 x0 d) x0 10 by omega) (show d x0 13 = 0 ∨ ¬ (g_198 x0 d) x0 13 = 0 by omega) hS1
    · have y0 : v_200 x0 d = 0 := by simp only [v_200, if_neg (show ¬ v_184 x0 (v_198 x0 d) (g_198 x0 d) = (-1) from c0), if_neg (show ¬ (g_198 x0 d) x0 13 = 0 from c1)]
      have y1 : g_200 x0 d = g_198 x0 d := by simp only [g_200, if_neg (show ¬ v_184 x0 (v_198 x0 d) (g_198 x0 d) = (-1) from c0), if_neg (show ¬ (g_198 x0 d) x0 13 = 0 from c1)]
      rw [y0] at h
      rw [y1] at h
      exact h (show 0 ≤ ((0 : Int)) ∧ ((0 : Int)) ≤ 5 from (by omega)) (show ∀ b : Int, (b < x0 ∨ x0 < b) → (g_198 x0 d) b = d b from fun b hb => F1 b (by omega)) (show (g_198 x0 d) x0 9 = d x0 9 from k1_0) (show d x0 10 ≤ (g_198 x0 d) x0 10 by omega) (show d x0 13 = 0 ∨ ¬ (g_198 x0 d) x0 13 = 0 by omega) hS1
  · have q2 := r_11_f16 hS1 hx0
    refine k_188 hS1 hx0 (by omega) (by omega) (fun F2 k2_0 n2_0 n2_1 n2_2 hS2 => ?_)
    refine t_200_23 ?_
    have w8 := r_11_f9 hS2 hx0
    have w9 := r_11_f10 hS2 hx0
    have q3 := r_11_f13 hS2 hx0
    refine ⟨m_inR (by omega) (by omega), fun c1 => ?_, fun c1 => ?_⟩
    · have y0 : v_200 x0 d = v_184 x0 (v_198 x0 d) (g_198 x0 d) := by simp only [v_200, if_pos (show v_184 x0 (v_198 x0 d) (g_198 x0 d) = (-1) from c0), if_pos (show (g_188 x0 4 ((g_198 x0 d) x0 16) (g_198 x0 d)) x0 13 = 0 from c1)]
      have y1 : g_200 x0 d = g_188 x0 4 ((g_198 x0 d) x0 16) (g_198 x0 d) := by simp only [g_200, if_pos (show v_184 x0 (v_198 x0 d) (g_198 x0 d) = (-1) from c0), if_pos (show (g_188 x0 4 ((g_198 x0 d) x0 16) (g_198 x0 d)) x0 13 = 0 from c1)]
      rw [y0] at h
      rw [y1] at h
      exact h (show 0 ≤ (v_184 x0 (v_198 x0 d) (g_198 x0 d)) ∧ (v_184 x0 (v_198 x0 d) (g_198 x0 d)) ≤ 5 from (by omega)) (show ∀ b : Int, (b < x0 ∨ x0 < b) → (g_188 x0 4 ((g_198 x0 d) x0 16) (g_198 x0 d)) b = d b from fun b hb => (F2 b (by omega)).trans (F1 b (by omega))) (show (g_188 x0 4 ((g_198 x0 d) x0 16) (g_198 x0 d)) x0 9 = d x0 9 from (k2_0).trans (k1_0)) (show d x0 10 ≤ (g_188 x0 4 ((g_198 x0 d) x0 16) (g_198 x0 d)) x0 10 by omega) (show d x0 13 = 0 ∨ ¬ (g_188 x0 4 ((g_198 x0 d) x0 16) (g_198 x0 d)) x0 13 = 0 by omega) hS2
    · have y0 : v_200 x0 d = 0 := by simp only [v_200, if_pos (show v_184 x0 (v_198 x0 d) (g_198 x0 d) = (-1) from c0), if_neg (show ¬ (g_188 x0 4 ((g_198 x0 d) x0 16) (g_198 x0 d)) x0 13 = 0 from c1)]
      have y1 : g_200 x0 d = g_188 x0 4 ((g_198 x0 d) x0 16) (g_198 x0 d) := by simp only [g_200, if_pos (show v_184 x0 (v_198 x0 d) (g_198 x0 d) = (-1) from c0), if_neg (show ¬ (g_188 x0 4 ((g_198 x0 d) x0 16) (g_198 x0 d)) x0 13 = 0 from c1)]
      rw [y0] at h
      rw [y1] at h
      exact h (show 0 ≤ ((0 : Int)) ∧ ((0 : Int)) ≤ 5 from (by omega)) (show ∀ b : Int, (b < x0 ∨ x0 < b) → (g_188 x0 4 ((g_198 x0 d) x0 16) (g_198 x0 d)) b = d b from fun b hb => (F2 b (by omega)).trans (F1 b (by omega))) (show (g_188 x0 4 ((g_198 x0 d) x0 16) (g_198 x0 d)) x0 9 = d x0 9 from (k2_0).trans (k1_0)) (show d x0 10 ≤ (g_188 x0 4 ((g_198 x0 d) x0 16) (g_198 x0 d)) x0 10 by omega) (show d x0 13 = 0 ∨ ¬ (g_188 x0 4 ((g_198 x0 d) x0 16) (g_198 x0 d)) x0 13 = 0 by omega) hS2
