/-! ===== contracts of the reference's methods: printed by a program of mine ===== -/
theorem mcp_0 (d : mD) (x y : Int) : mcopy d x 0 y 0 0 = d := by
  funext b j
  unfold mcopy
  exact if_neg (fun c => by omega)
theorem mcp_s (d : mD) (x y : Int) {n : Int} (h : 0 ≤ n) : mset (mcopy d x 0 y 0 n) y n (d x n) = mcopy d x 0 y 0 (n + 1) := by
  funext b j
  unfold mset mcopy
  by_cases hb : b = y
  · subst hb
    by_cases hj : j = n
    · subst hj
      rw [if_pos ⟨rfl, rfl⟩, if_pos ⟨rfl, h, by omega⟩, show 0 + (j - 0) = j by omega]
    · rw [if_neg (fun c => hj c.2)]
      by_cases hr : 0 ≤ j ∧ j < 0 + n
      · rw [if_pos ⟨rfl, hr⟩, if_pos ⟨rfl, hr.1, by omega⟩]
      · rw [if_neg (fun c => hr c.2), if_neg (fun c => hr ⟨c.2.1, by omega⟩)]
  · rw [if_neg (fun c => hb c.1), if_neg (fun c => hb c.1), if_neg (fun c => hb c.1)]
theorem mcp_at {d : mD} {x y n i : Int} (h0 : 0 ≤ i) (h1 : i < n) : mcopy d x 0 y 0 n y i = d x i := by
  unfold mcopy
  rw [if_pos ⟨rfl, h0, by omega⟩, show 0 + (i - 0) = i by omega]
theorem as4 {d : mD} {x : Int} (hS : Safe d) (hx : mdB x) (k : Int) : (0 ≤ k ∧ k ≤ 60 ∧ 0 ≤ d (x + 4) (452 + 24 * k + 4) ∧ d (x + 4) (452 + 24 * k + 4) ≤ 2) ∨ k < 0 ∨ 60 < k := by
  by_cases h : 0 ≤ k ∧ k ≤ 60
  · exact Or.inl ⟨h.1, h.2, rgW_at (wk_t h (f := 4) (by decide) (n := 44) (by decide) rfl) (rr_4 hS hx _)⟩
  · omega
def g_255 (x0 : Int) (d : mD) : mD := mcopy d (x0 + 1) 0 (x0 + 4) 0 3116
theorem k_255 {E : mO × tW} {K : tK} {d : mD} {x0 : Int} (hS : Safe d) (hx0 : mdB x0) (h : (∀ b : Int, (b < x0 + 4 ∨ x0 + 4 < b) → (g_255 x0 d) b = d b) → (∀ i : Int, 0 ≤ i → i < 3116 → (g_255 x0 d) (x0 + 4) i = d (x0 + 1) i) → Safe (g_255 x0 d) → K (.inl none) (g_255 x0 d)) : tCall E 255 [.inr (11, x0)] d K := by
  refine t_255_0 ?_
  refine t_rounds (fun i d => (2, [.inr (11, x0), .inl (0, i)], [], 0, 0, d)) (fun i d' => d' = mcopy d (x0 + 1) 0 (x0 + 4) 0 i ∧ Safe d') (N := 3116) (by decide) (fun i d' h0 h1 hd k => ?_) (fun d' hd => ?_) ⟨(mcp_0 d _ _).symm, hS⟩
  · obtain ⟨rfl, hs⟩ := hd
    refine t_255_2 ⟨⟨m_inR (by omega) (by omega), m_inR (by omega) (by omega)⟩, fun c => absurd c (by omega), fun _ => ⟨by omega, by omega, k _ ⟨?_, ?_⟩⟩⟩
    · rw [mcopy_ne (show x0 + 1 ≠ x0 + 4 by omega)]
      exact mcp_s d (x0 + 1) (x0 + 4) h0
    · exact sr_4 hs hx0 (j := i) rfl (rr_1 hs hx0 i)
  · obtain ⟨rfl, hs⟩ := hd
    exact t_255_2 ⟨⟨m_inR (by omega) (by omega), m_inR (by omega) (by omega)⟩, fun _ => h (fun b hb => mcopy_ne (by omega)) (fun i i0 i1 => mcp_at i0 i1) hs, fun c => absurd c (by omega)⟩
def g_256 (x0 : Int) (d : mD) : mD := mcopy d (x0 + 4) 0 (x0 + 1) 0 3116
theorem k_256 {E : mO × tW} {K : tK} {d : mD} {x0 : Int} (hS : Safe d) (hx0 : mdB x0) (h : (∀ b : Int, (b < x0 + 1 ∨ x0 + 1 < b) → (g_256 x0 d) b = d b) → (∀ i : Int, 0 ≤ i → i < 3116 → (g_256 x0 d) (x0 + 1) i = d (x0 + 4) i) → Safe (g_256 x0 d) → K (.inl none) (g_256 x0 d)) : tCall E 256 [.inr (11, x0)] d K := by
  refine t_256_0 ?_
  refine t_rounds (fun i d => (2, [.inr (11, x0), .inl (0, i)], [], 0, 0, d)) (fun i d' => d' = mcopy d (x0 + 4) 0 (x0 + 1) 0 i ∧ Safe d') (N := 3116) (by decide) (fun i d' h0 h1 hd k => ?_) (fun d' hd => ?_) ⟨(mcp_0 d _ _).symm, hS⟩
  · obtain ⟨rfl, hs⟩ := hd
    refine t_256_2 ⟨⟨m_inR (by omega) (by omega), m_inR (by omega) (by omega)⟩, fun c => absurd c (by omega), fun _ => ⟨by omega, by omega, k _ ⟨?_, ?_⟩⟩⟩
    · rw [mcopy_ne (show x0 + 4 ≠ x0 + 1 by omega)]
      exact mcp_s d (x0 + 4) (x0 + 1) h0
    · exact sr_1 hs hx0 (j := i) rfl (rr_4 hs hx0 i)
  · obtain ⟨rfl, hs⟩ := hd
    exact t_256_2 ⟨⟨m_inR (by omega) (by omega), m_inR (by omega) (by omega)⟩, fun _ => h (fun b hb => mcopy_ne (by omega)) (fun i i0 i1 => mcp_at i0 i1) hs, fun c => absurd c (by omega)⟩
def v_257 (x0 x1 : Int) (d : mD) : Int := if v_238 x0 x1 d = 0 then 0 else if d (x0 + 1) ((452 + (24 * x1)) + 4) = 1 then v_218 x0 x1 (g_255 x0 (mset d x0 0 0)) else 0
def g_257 (x0 x1 : Int) (d : mD) : mD := if v_238 x0 x1 d = 0 then mset d x0 0 1 else if d (x0 + 1) ((452 + (24 * x1)) + 4) = 1 then g_256 x0 (g_218 x0 x1 (g_255 x0 (mset d x0 0 0))) else mset d x0 0 0
theorem k_257 {E : mO × tW} {K : tK} {d : mD} {x0 x1 : Int} (hS : Safe d) (hx0 : mdB x0) (p1 : -2147483648 ≤ x1 ∧ x1 ≤ 2147483647) (h : (∀ b : Int, (b < x0 ∨ x0 + 1 < b) ∧ (b < x0 + 4 ∨ x0 + 4 < b) → (g_257 x0 x1 d) b = d b) → Safe (g_257 x0 x1 d) → K (.inl (some (0, (v_257 x0 x1 d)))) (g_257 x0 x1 d)) : tCall E 257 [.inr (11, x0), .inl (0, x1)] d K := by
  refine t_257_0 ?_
  have w0 := mh_0 hS hx0 _ rfl
  have w7 := mh_7 hS hx0 _ rfl
  have w8 := mh_8 hS hx0 _ rfl
  have w9 := mh_9 hS hx0 _ rfl
  have w10 := mh_10 hS hx0 _ rfl
  have w11 := mh_11 hS hx0 _ rfl
  refine k_238 hS hx0 (m_inR (by omega) (by omega)) (fun e1 => ?_)
  refine t_257_6 ?_
  refine ⟨m_inR (by omega) (by omega), fun c0 => ?_, fun c0 => ?_⟩
  · have hS1 : Safe (mset d x0 0 1) := s_11_f0 hS hx0 (by omega)
    rw [mset_eq (d := d) (a := x0) (i := (0 : Int)) (v := (1 : Int))]
    refine ⟨m_inR (by omega) (by omega), fun c1 => ?_, fun c1 => ?_⟩
    · have y0 : v_257 x0 x1 d = 0 := by simp only [v_257, if_pos (show v_238 x0 x1 d = 0 from c0), if_pos (show (0 : Int) < 1 from c1)]
      have y1 : g_257 x0 x1 d = mset d x0 0 1 := by simp only [g_257, if_pos (show v_238 x0 x1 d = 0 from c0), if_pos (show (0 : Int) < 1 from c1)]
      rw [y0] at h
      rw [y1] at h
      exact h (show ∀ b : Int, (b < x0 ∨ x0 + 1 < b) ∧ (b < x0 + 4 ∨ x0 + 4 < b) → (mset d x0 0 1) b = d b from fun b hb => mset_ne (by omega)) hS1
    · exact (show False by omega).elim
  · have hS2 : Safe (mset d x0 0 0) := s_11_f0 hS hx0 (by omega)
    rw [mset_eq (d := d) (a := x0) (i := (0 : Int)) (v := (0 : Int))]
    refine ⟨m_inR (by omega) (by omega), fun c1 => ?_, fun c1 => ?_⟩
    · exact (show False by omega).elim
    · refine k_179 hS2 ?_
      refine t_257_32 ?_
      rw [mset_ne (d := d) (a := x0) (i := (0 : Int)) (v := (0 : Int)) (b := x0 + 1) (by omega)]
      have q1 := mt_4 hS hx0 x1 ((452 + (24 * x1)) + 4) (by omega) (by omega)
      refine ⟨by omega, ⟨m_inR (by omega) (by omega), m_inR (by omega) (by omega)⟩, fun c2 => ?_, fun c2 => ?_⟩
      · refine k_255 hS2 hx0 (fun F1 K1_0 hS3 => ?_)
        refine t_257_45 ?_
        refine k_218 hS3 hx0 (by omega) (fun e2 F2 Q2 hS4 => ?_)
        refine t_257_50 ?_
        refine k_256 hS4 hx0 (fun F3 K3_0 hS5 => ?_)
        refine t_257_55 ?_
        have y0 : v_257 x0 x1 d = v_218 x0 x1 (g_255 x0 (mset d x0 0 0)) := by simp only [v_257, if_neg (show ¬ v_238 x0 x1 d = 0 from c0), if_neg (show ¬ (0 : Int) < 0 from Int.not_lt.mpr c1), if_pos (show d (x0 + 1) ((452 + (24 * x1)) + 4) = 1 from c2)]
        have y1 : g_257 x0 x1 d = g_256 x0 (g_218 x0 x1 (g_255 x0 (mset d x0 0 0))) := by simp only [g_257, if_neg (show ¬ v_238 x0 x1 d = 0 from c0), if_neg (show ¬ (0 : Int) < 0 from Int.not_lt.mpr c1), if_pos (show d (x0 + 1) ((452 + (24 * x1)) + 4) = 1 from c2)]
        rw [y0] at h
        rw [y1] at h
        exact h (show ∀ b : Int, (b < x0 ∨ x0 + 1 < b) ∧ (b < x0 + 4 ∨ x0 + 4 < b) → (g_256 x0 (g_218 x0 x1 (g_255 x0 (mset d x0 0 0)))) b = d b from fun b hb => (F3 b (by omega)).trans ((F2 b (by omega)).trans ((F1 b (by omega)).trans (mset_ne (by omega))))) hS5
      · have y0 : v_257 x0 x1 d = 0 := by simp only [v_257, if_neg (show ¬ v_238 x0 x1 d = 0 from c0), if_neg (show ¬ (0 : Int) < 0 from Int.not_lt.mpr c1), if_neg (show ¬ d (x0 + 1) ((452 + (24 * x1)) + 4) = 1 from c2)]
        have y1 : g_257 x0 x1 d = mset d x0 0 0 := by simp only [g_257, if_neg (show ¬ v_238 x0 x1 d = 0 from c0), if_neg (show ¬ (0 : Int) < 0 from Int.not_lt.mpr c1), if_neg (show ¬ d (x0 + 1) ((452 + (24 * x1)) + 4) = 1 from c2)]
        rw [y0] at h
        rw [y1] at h
        exact h (show ∀ b : Int, (b < x0 ∨ x0 + 1 < b) ∧ (b < x0 + 4 ∨ x0 + 4 < b) → (mset d x0 0 0) b = d b from fun b hb => mset_ne (by omega)) hS2
def st_263_2 (x0 x1 : Int) (r2 : Int → mD → Int × mD) (x2 : Int) (d : mD) : Int × mD := if (200 : Int) < x2 then (x2, d) else if d (x0 + 1) ((452 + (24 * x1)) + 4) = 1 then (x2, d) else r2 (x2 + 1) (g_223 x0 d)
def lp_263_2 (x0 x1 : Int) : Nat → Int → mD → Int × mD
  | 0 => st_263_2 x0 x1 (fun _ d => (0, d))
  | n + 1 => st_263_2 x0 x1 (lp_263_2 x0 x1 n)
theorem ls_263_2 {E : mO × tW} {K : tK} {x0 x1 : Int} (hx0 : mdB x0) (p1 : 0 ≤ x1 ∧ x1 ≤ 60) (N2 : Int) (r2 : Int → mD → Int × mD) (ih2 : ∀ (x2 : Int) (d : mD), Safe d → (0 ≤ x2 ∧ x2 ≤ 201) → (d (x0 + 1) 0 + (201 - x2) ≤ 1200) → (mpP (d (x0 + 1))) → 0 ≤ 201 - x2 → 201 - x2 < N2 → ((0 ≤ (r2 x2 d).1 ∧ (r2 x2 d).1 ≤ 201) → (∀ b : Int, (b < x0 + 1 ∨ x0 + 1 < b) → (r2 x2 d).2 b = d b) → (∀ i : Int, ((0 ≤ i ∧ i ≤ 8 ∧ ¬ i = 1) ∨ (12 ≤ i ∧ i < 420 ∧ (i - 12) % 68 ≤ 4) ∨ (420 ≤ i ∧ i < 452 ∧ i % 2 = 0) ∨ i = 9 ∨ (452 ≤ i ∧ i < 1916 ∧ 5 ≤ (i - 452) % 24)) ∧ ¬ i = 0 → (r2 x2 d).2 (x0 + 1) i = d (x0 + 1) i) → Safe (r2 x2 d).2 → K (.inl (some (0, (r2 x2 d).1))) (r2 x2 d).2) → tRun E 263 (2, [.inr (11, x0), .inl (0, x1), .inl (0, x2)], [], 0, 0, d) K) (x2 : Int) (d : mD) (hS : Safe d) (i0 : 0 ≤ x2 ∧ x2 ≤ 201) (i1 : d (x0 + 1) 0 + (201 - x2) ≤ 1200) (hmp : mpP (d (x0 + 1))) (hm : 201 - x2 ≤ N2) (h : (0 ≤ (st_263_2 x0 x1 r2 x2 d).1 ∧ (st_263_2 x0 x1 r2 x2 d).1 ≤ 201) → (∀ b : Int, (b < x0 + 1 ∨ x0 + 1 < b) → (st_263_2 x0 x1 r2 x2 d).2 b = d b) → (∀ i : Int, ((0 ≤ i ∧ i ≤ 8 ∧ ¬ i = 1) ∨ (12 ≤ i ∧ i < 420 ∧ (i - 12) % 68 ≤ 4) ∨ (420 ≤ i ∧ i < 452 ∧ i % 2 = 0) ∨ i = 9 ∨ (452 ≤ i ∧ i < 1916 ∧ 5 ≤ (i - 452) % 24)) ∧ ¬ i = 0 → (st_263_2 x0 x1 r2 x2 d).2 (x0 + 1) i = d (x0 + 1) i) → Safe (st_263_2 x0 x1 r2 x2 d).2 → K (.inl (some (0, (st_263_2 x0 x1 r2 x2 d).1))) (st_263_2 x0 x1 r2 x2 d).2) : tRun E 263 (2, [.inr (11, x0), .inl (0, x1), .inl (0, x2)], [], 0, 0, d) K := by
  refine t_263_2 ?_
  refine ⟨⟨m_inR (by omega) (by omega), m_inR (by omega) (by omega)⟩, fun c0 => ?_, fun c0 => ?_⟩
  · have y0 : st_263_2 x0 x1 r2 x2 d = (x2, d) := by simp only [st_263_2, if_pos (show (200 : Int) < x2 from c0)]
    rw [y0] at h
    exact h (show 0 ≤ x2 ∧ x2 ≤ 201 from (by omega)) (show ∀ b : Int, (b < x0 + 1 ∨ x0 + 1 < b) → d b = d b from fun _ _ => rfl) (show ∀ i : Int, ((0 ≤ i ∧ i ≤ 8 ∧ ¬ i = 1) ∨ (12 ≤ i ∧ i < 420 ∧ (i - 12) % 68 ≤ 4) ∨ (420 ≤ i ∧ i < 452 ∧ i % 2 = 0) ∨ i = 9 ∨ (452 ≤ i ∧ i < 1916 ∧ 5 ≤ (i - 452) % 24)) ∧ ¬ i = 0 → d (x0 + 1) i = d (x0 + 1) i from fun _ _ => rfl) hS
  · refine k_179 hS ?_
    refine t_263_17 ?_
    have q1 := mt_4 hS hx0 x1 ((452 + (24 * x1)) + 4) (by omega) (by omega)
    refine ⟨by omega, ⟨m_inR (by omega) (by omega), m_inR (by omega) (by omega)⟩, fun c1 => ?_, fun c1 => ?_⟩
    · have y0 : st_263_2 x0 x1 r2 x2 d = (x2, d) := by simp only [st_263_2, if_neg (show ¬ (200 : Int) < x2 from Int.not_lt.mpr c0), if_pos (show d (x0 + 1) ((452 + (24 * x1)) + 4) = 1 from c1)]
      rw [y0] at h
      exact h (show 0 ≤ x2 ∧ x2 ≤ 201 from (by omega)) (show ∀ b : Int, (b < x0 + 1 ∨ x0 + 1 < b) → d b = d b from fun _ _ => rfl) (show ∀ i : Int, ((0 ≤ i ∧ i ≤ 8 ∧ ¬ i = 1) ∨ (12 ≤ i ∧ i < 420 ∧ (i - 12) % 68 ≤ 4) ∨ (420 ≤ i ∧ i < 452 ∧ i % 2 = 0) ∨ i = 9 ∨ (452 ≤ i ∧ i < 1916 ∧ 5 ≤ (i - 452) % 24)) ∧ ¬ i = 0 → d (x0 + 1) i = d (x0 + 1) i from fun _ _ => rfl) hS
    · refine k_223 hS hx0 hmp (by omega) (fun F1 Q1 n1_0 hS1 => ?_)
      refine t_263_28 ?_
      refine ih2 (x2 + 1)  (g_223 x0 d) hS1 (by omega) (by omega) (mpP.of (mh_7 hS hx0 _ rfl) (show ∀ i : Int, i = 7 ∨ (12 ≤ i ∧ i < 420 ∧ (i - 12) % 68 = 2) → (g_223 x0 d) (x0 + 1) i = d (x0 + 1) i from fun i hi => Q1 i (by omega)) hmp) (by omega) (by omega) ?_
      intro e F Q hS_
      have y0 : st_263_2 x0 x1 r2 x2 d = r2 (x2 + 1) (g_223 x0 d) := by simp only [st_263_2, if_neg (show ¬ (200 : Int) < x2 from Int.not_lt.mpr c0), if_neg (show ¬ d (x0 + 1) ((452 + (24 * x1)) + 4) = 1 from c1)]
      rw [y0] at h
      exact h e (fun b hb => (F b hb).trans ((show ∀ b : Int, (b < x0 + 1 ∨ x0 + 1 < b) → (g_223 x0 d) b = d b from fun b hb => F1 b (by omega)) b hb)) (fun i hi => (Q i hi).trans ((show ∀ i : Int, ((0 ≤ i ∧ i ≤ 8 ∧ ¬ i = 1) ∨ (12 ≤ i ∧ i < 420 ∧ (i - 12) % 68 ≤ 4) ∨ (420 ≤ i ∧ i < 452 ∧ i % 2 = 0) ∨ i = 9 ∨ (452 ≤ i ∧ i < 1916 ∧ 5 ≤ (i - 452) % 24)) ∧ ¬ i = 0 → (g_223 x0 d) (x0 + 1) i = d (x0 + 1) i from fun i hi => Q1 i (by omega)) i hi)) hS_
theorem l_263_2 {E : mO × tW} {K : tK} {x0 x1 : Int} (hx0 : mdB x0) (p1 : 0 ≤ x1 ∧ x1 ≤ 60) : ∀ (n : Nat) (x2 : Int) (d : mD), Safe d → (0 ≤ x2 ∧ x2 ≤ 201) → (d (x0 + 1) 0 + (201 - x2) ≤ 1200) → (mpP (d (x0 + 1))) → 201 - x2 ≤ (n : Int) → ((0 ≤ (lp_263_2 x0 x1 n x2 d).1 ∧ (lp_263_2 x0 x1 n x2 d).1 ≤ 201) → (∀ b : Int, (b < x0 + 1 ∨ x0 + 1 < b) → (lp_263_2 x0 x1 n x2 d).2 b = d b) → (∀ i : Int, ((0 ≤ i ∧ i ≤ 8 ∧ ¬ i = 1) ∨ (12 ≤ i ∧ i < 420 ∧ (i - 12) % 68 ≤ 4) ∨ (420 ≤ i ∧ i < 452 ∧ i % 2 = 0) ∨ i = 9 ∨ (452 ≤ i ∧ i < 1916 ∧ 5 ≤ (i - 452) % 24)) ∧ ¬ i = 0 → (lp_263_2 x0 x1 n x2 d).2 (x0 + 1) i = d (x0 + 1) i) → Safe (lp_263_2 x0 x1 n x2 d).2 → K (.inl (some (0, (lp_263_2 x0 x1 n x2 d).1))) (lp_263_2 x0 x1 n x2 d).2) → tRun E 263 (2, [.inr (11, x0), .inl (0, x1), .inl (0, x2)], [], 0, 0, d) K := by
  intro n
  induction n with
  | zero =>
    intro x2  d hS i0 i1 hmp hm  h
    exact ls_263_2 hx0 p1 0 _ (fun _  _ _ _ _ _ m0 m1 _ => absurd m1 (by omega)) x2  d hS i0 i1 hmp hm  h
  | succ n ih =>
    intro x2  d hS i0 i1 hmp hm  h
    exact ls_263_2 hx0 p1 ((n + 1 : Nat) : Int) _ (fun x2  d hS i0 i1 hmp  m0 m1 h => ih x2  d hS i0 i1 hmp (by omega)  h) x2  d hS i0 i1 hmp hm  h
def f_263 (x0 x1 : Int) (d : mD) : Int × mD := lp_263_2 x0 x1 (201 - 0 : Int).toNat 0 d
def v_263 (x0 x1 : Int) (d : mD) : Int := (f_263 x0 x1 d).1
def g_263 (x0 x1 : Int) (d : mD) : mD := (f_263 x0 x1 d).2
theorem k_263 {E : mO × tW} {K : tK} {d : mD} {x0 x1 : Int} (hS : Safe d) (hx0 : mdB x0) (p1 : 0 ≤ x1 ∧ x1 ≤ 60) (hmp : mpP (d (x0 + 1))) (ht : d (x0 + 1) 0 ≤ 999) (h : (0 ≤ (v_263 x0 x1 d) ∧ (v_263 x0 x1 d) ≤ 201) → (∀ b : Int, (b < x0 + 1 ∨ x0 + 1 < b) → (g_263 x0 x1 d) b = d b) → (∀ i : Int, ((0 ≤ i ∧ i ≤ 8 ∧ ¬ i = 1) ∨ (12 ≤ i ∧ i < 420 ∧ (i - 12) % 68 ≤ 4) ∨ (420 ≤ i ∧ i < 452 ∧ i % 2 = 0) ∨ i = 9 ∨ (452 ≤ i ∧ i < 1916 ∧ 5 ≤ (i - 452) % 24)) ∧ ¬ i = 0 → (g_263 x0 x1 d) (x0 + 1) i = d (x0 + 1) i) → Safe (g_263 x0 x1 d) → K (.inl (some (0, (v_263 x0 x1 d)))) (g_263 x0 x1 d)) : tCall E 263 [.inr (11, x0), .inl (0, x1)] d K := by
  simp only [v_263, g_263] at h
  refine t_263_0 ?_
  have w0 := mh_0 hS hx0 _ rfl
  have w7 := mh_7 hS hx0 _ rfl
  have w8 := mh_8 hS hx0 _ rfl
  have w9 := mh_9 hS hx0 _ rfl
  have w10 := mh_10 hS hx0 _ rfl
  have w11 := mh_11 hS hx0 _ rfl
  refine l_263_2 hx0 p1 (201 - 0 : Int).toNat 0  d hS (by omega) (by omega) hmp (by omega) ?_
  intro e F Q hS_
  have y0 : f_263 x0 x1 d = lp_263_2 x0 x1 (201 - 0 : Int).toNat 0 d := by simp only [f_263]
  rw [y0] at h
  exact h e F Q hS_
def v_264 (x0 x1 : Int) (d : mD) : Int := if v_238 x0 x1 d = 0 then 0 else if (200 : Int) < v_263 x0 x1 (g_255 x0 (mset d x0 0 0)) then 0 else v_263 x0 x1 (g_255 x0 (mset d x0 0 0))
def g_264 (x0 x1 : Int) (d : mD) : mD := if v_238 x0 x1 d = 0 then mset d x0 0 1 else if (200 : Int) < v_263 x0 x1 (g_255 x0 (mset d x0 0 0)) then mset (g_256 x0 (g_263 x0 x1 (g_255 x0 (mset d x0 0 0)))) x0 0 2 else mset (g_256 x0 (g_263 x0 x1 (g_255 x0 (mset d x0 0 0)))) x0 0 0
theorem k_264 {E : mO × tW} {K : tK} {d : mD} {x0 x1 : Int} (hS : Safe d) (hx0 : mdB x0) (p1 : -2147483648 ≤ x1 ∧ x1 ≤ 2147483647) (hmp : mpP (d (x0 + 1))) (ht : d (x0 + 1) 0 ≤ 999) (h : (∀ b : Int, (b < x0 ∨ x0 + 1 < b) ∧ (b < x0 + 4 ∨ x0 + 4 < b) → (g_264 x0 x1 d) b = d b) → Safe (g_264 x0 x1 d) → K (.inl (some (0, (v_264 x0 x1 d)))) (g_264 x0 x1 d)) : tCall E 264 [.inr (11, x0), .inl (0, x1)] d K := by
  refine t_264_0 ?_
  have w0 := mh_0 hS hx0 _ rfl
  have w7 := mh_7 hS hx0 _ rfl
  have w8 := mh_8 hS hx0 _ rfl
  have w9 := mh_9 hS hx0 _ rfl
  have w10 := mh_10 hS hx0 _ rfl
  have w11 := mh_11 hS hx0 _ rfl
  refine k_238 hS hx0 (m_inR (by omega) (by omega)) (fun e1 => ?_)
  refine t_264_6 ?_
  refine ⟨m_inR (by omega) (by omega), fun c0 => ?_, fun c0 => ?_⟩
  · have hS1 : Safe (mset d x0 0 1) := s_11_f0 hS hx0 (by omega)
    rw [mset_eq (d := d) (a := x0) (i := (0 : Int)) (v := (1 : Int))]
    refine ⟨m_inR (by omega) (by omega), fun c1 => ?_, fun c1 => ?_⟩
    · exact (show False by omega).elim
    · have y0 : v_264 x0 x1 d = 0 := by simp only [v_264, if_pos (show v_238 x0 x1 d = 0 from c0), if_pos (show (0 : Int) < 1 from c1)]
      have y1 : g_264 x0 x1 d = mset d x0 0 1 := by simp only [g_264, if_pos (show v_238 x0 x1 d = 0 from c0), if_pos (show (0 : Int) < 1 from c1)]
      rw [y0] at h
      rw [y1] at h
      exact h (show ∀ b : Int, (b < x0 ∨ x0 + 1 < b) ∧ (b < x0 + 4 ∨ x0 + 4 < b) → (mset d x0 0 1) b = d b from fun b hb => mset_ne (by omega)) hS1
  · have hS2 : Safe (mset d x0 0 0) := s_11_f0 hS hx0 (by omega)
    rw [mset_eq (d := d) (a := x0) (i := (0 : Int)) (v := (0 : Int))]
    refine ⟨m_inR (by omega) (by omega), fun c1 => ?_, fun c1 => ?_⟩
    · refine k_255 hS2 hx0 (fun F1 K1_0 hS3 => ?_)
      refine t_264_30 ?_
      have q1 : (g_255 x0 (mset d x0 0 0)) (x0 + 1) 0 = d (x0 + 1) 0 := (congrFun (F1 (x0 + 1) (by omega)) 0).trans (congrFun (mset_ne (by omega)) 0)
      refine k_263 hS3 hx0 (by omega) (mpP.of (mh_7 hS hx0 _ rfl) (show ∀ i : Int, i = 7 ∨ (12 ≤ i ∧ i < 420 ∧ (i - 12) % 68 = 2) → (g_255 x0 (mset d x0 0 0)) (x0 + 1) i = d (x0 + 1) i from fun i hi => (congrFun (F1 (x0 + 1) (by omega)) i).trans (congrFun (mset_ne (by omega)) i)) hmp) (by omega) (fun e2 F2 Q2 hS4 => ?_)
      refine t_264_35 ?_
      refine k_256 hS4 hx0 (fun F3 K3_0 hS5 => ?_)
      refine t_264_40 ?_
      refine ⟨⟨m_inR (by omega) (by omega), m_inR (by omega) (by omega)⟩, fun c2 => ?_, fun c2 => ?_⟩
      · have hS6 : Safe (mset (g_256 x0 (g_263 x0 x1 (g_255 x0 (mset d x0 0 0)))) x0 0 0) := s_11_f0 hS5 hx0 (by omega)
        rw [mset_eq (d := g_256 x0 (g_263 x0 x1 (g_255 x0 (mset d x0 0 0)))) (a := x0) (i := (0 : Int)) (v := (0 : Int))]
        refine ⟨m_inR (by omega) (by omega), fun c3 => ?_, fun c3 => ?_⟩
        · have y0 : v_264 x0 x1 d = v_263 x0 x1 (g_255 x0 (mset d x0 0 0)) := by simp only [v_264, if_neg (show ¬ v_238 x0 x1 d = 0 from c0), if_neg (show ¬ (0 : Int) < 0 from Int.not_lt.mpr c1), if_neg (show ¬ (200 : Int) < v_263 x0 x1 (g_255 x0 (mset d x0 0 0)) from Int.not_lt.mpr c2), if_neg (show ¬ (0 : Int) < 0 from Int.not_lt.mpr c3)]
          have y1 : g_264 x0 x1 d = mset (g_256 x0 (g_263 x0 x1 (g_255 x0 (mset d x0 0 0)))) x0 0 0 := by simp only [g_264, if_neg (show ¬ v_238 x0 x1 d = 0 from c0), if_neg (show ¬ (0 : Int) < 0 from Int.not_lt.mpr c1), if_neg (show ¬ (200 : Int) < v_263 x0 x1 (g_255 x0 (mset d x0 0 0)) from Int.not_lt.mpr c2), if_neg (show ¬ (0 : Int) < 0 from Int.not_lt.mpr c3)]
          rw [y0] at h
          rw [y1] at h
          exact h (show ∀ b : Int, (b < x0 ∨ x0 + 1 < b) ∧ (b < x0 + 4 ∨ x0 + 4 < b) → (mset (g_256 x0 (g_263 x0 x1 (g_255 x0 (mset d x0 0 0)))) x0 0 0) b = d b from fun b hb => (mset_ne (by omega)).trans ((F3 b (by omega)).trans ((F2 b (by omega)).trans ((F1 b (by omega)).trans (mset_ne (by omega)))))) hS6
        · exact (show False by omega).elim
      · have hS7 : Safe (mset (g_256 x0 (g_263 x0 x1 (g_255 x0 (mset d x0 0 0)))) x0 0 2) := s_11_f0 hS5 hx0 (by omega)
        rw [mset_eq (d := g_256 x0 (g_263 x0 x1 (g_255 x0 (mset d x0 0 0)))) (a := x0) (i := (0 : Int)) (v := (2 : Int))]
        refine ⟨m_inR (by omega) (by omega), fun c3 => ?_, fun c3 => ?_⟩
        · exact (show False by omega).elim
        · have y0 : v_264 x0 x1 d = 0 := by simp only [v_264, if_neg (show ¬ v_238 x0 x1 d = 0 from c0), if_neg (show ¬ (0 : Int) < 0 from Int.not_lt.mpr c1), if_pos (show (200 : Int) < v_263 x0 x1 (g_255 x0 (mset d x0 0 0)) from c2), if_pos (show (0 : Int) < 2 from c3)]
          have y1 : g_264 x0 x1 d = mset (g_256 x0 (g_263 x0 x1 (g_255 x0 (mset d x0 0 0)))) x0 0 2 := by simp only [g_264, if_neg (show ¬ v_238 x0 x1 d = 0 from c0), if_neg (show ¬ (0 : Int) < 0 from Int.not_lt.mpr c1), if_pos (show (200 : Int) < v_263 x0 x1 (g_255 x0 (mset d x0 0 0)) from c2), if_pos (show (0 : Int) < 2 from c3)]
          rw [y0] at h
          rw [y1] at h
          exact h (show ∀ b : Int, (b < x0 ∨ x0 + 1 < b) ∧ (b < x0 + 4 ∨ x0 + 4 < b) → (mset (g_256 x0 (g_263 x0 x1 (g_255 x0 (mset d x0 0 0)))) x0 0 2) b = d b from fun b hb => (mset_ne (by omega)).trans ((F3 b (by omega)).trans ((F2 b (by omega)).trans ((F1 b (by omega)).trans (mset_ne (by omega)))))) hS7
    · exact (show False by omega).elim
def st_265_48 (x0 x1 x2 : Int) (r48 : Int → mD → Int × mD) (x3 : Int) (d : mD) : Int × mD := if x3 < x2 then r48 (x3 + 1) (g_223 x0 d) else (d (x0 + 1) ((12 + (68 * x1)) + 5), g_256 x0 d)
def lp_265_48 (x0 x1 x2 : Int) : Nat → Int → mD → Int × mD
  | 0 => st_265_48 x0 x1 x2 (fun _ d => (0, d))
  | n + 1 => st_265_48 x0 x1 x2 (lp_265_48 x0 x1 x2 n)
theorem ls_265_48 {E : mO × tW} {K : tK} {x0 x1 x2 : Int} (hx0 : mdB x0) (p1 : -2147483648 ≤ x1 ∧ x1 ≤ 2147483647) (p2 : -2147483648 ≤ x2 ∧ x2 ≤ 2147483647) (N48 : Int) (r48 : Int → mD → Int × mD) (ih48 : ∀ (x3 : Int) (d : mD), Safe d → (0 ≤ x3 ∧ x3 ≤ x2 ∧ x2 ≤ 200) → (0 ≤ x1 ∧ x1 ≤ 5) → (d (x0 + 1) 0 + (x2 - x3) ≤ 1200) → (mpP (d (x0 + 1))) → 0 ≤ x2 - x3 → x2 - x3 < N48 → ((∀ b : Int, (b < x0 ∨ x0 + 1 < b) ∧ (b < x0 + 4 ∨ x0 + 4 < b) → (r48 x3 d).2 b = d b) → Safe (r48 x3 d).2 → K (.inl (some (0, (r48 x3 d).1))) (r48 x3 d).2) → tRun E 265 (48, [.inr (11, x0), .inl (0, x1), .inl (0, x2), .inl (0, x3)], [], 0, 0, d) K) (x3 : Int) (d : mD) (hS : Safe d) (i0 : 0 ≤ x3 ∧ x3 ≤ x2 ∧ x2 ≤ 200) (i1 : 0 ≤ x1 ∧ x1 ≤ 5) (i2 : d (x0 + 1) 0 + (x2 - x3) ≤ 1200) (hmp : mpP (d (x0 + 1))) (hm : x2 - x3 ≤ N48) (h : (∀ b : Int, (b < x0 ∨ x0 + 1 < b) ∧ (b < x0 + 4 ∨ x0 + 4 < b) → (st_265_48 x0 x1 x2 r48 x3 d).2 b = d b) → Safe (st_265_48 x0 x1 x2 r48 x3 d).2 → K (.inl (some (0, (st_265_48 x0 x1 x2 r48 x3 d).1))) (st_265_48 x0 x1 x2 r48 x3 d).2) : tRun E 265 (48, [.inr (11, x0), .inl (0, x1), .inl (0, x2), .inl (0, x3)], [], 0, 0, d) K := by
  refine t_265_48 ?_
  refine ⟨⟨m_inR (by omega) (by omega), m_inR (by omega) (by omega)⟩, fun c0 => ?_, fun c0 => ?_⟩
  · refine k_177 hS ?_
    refine t_265_71 ?_
    refine ⟨by omega, ?_⟩
    refine k_256 hS hx0 (fun F1 K1_0 hS1 => ?_)
    refine t_265_79 ?_
    have q1 := mo_5 hS hx0 x1 ((12 + (68 * x1)) + 5) (by omega) (by omega)
    have y0 : st_265_48 x0 x1 x2 r48 x3 d = (d (x0 + 1) ((12 + (68 * x1)) + 5), g_256 x0 d) := by simp only [st_265_48, if_neg (show ¬ x3 < x2 from Int.not_lt.mpr c0)]
    rw [y0] at h
    exact h (show ∀ b : Int, (b < x0 ∨ x0 + 1 < b) ∧ (b < x0 + 4 ∨ x0 + 4 < b) → (g_256 x0 d) b = d b from fun b hb => F1 b (by omega)) hS1
  · refine k_223 hS hx0 hmp (by omega) (fun F2 Q2 n2_0 hS2 => ?_)
    refine t_265_57 ?_
    refine ih48 (x3 + 1)  (g_223 x0 d) hS2 (by omega) (by omega) (by omega) (mpP.of (mh_7 hS hx0 _ rfl) (show ∀ i : Int, i = 7 ∨ (12 ≤ i ∧ i < 420 ∧ (i - 12) % 68 = 2) → (g_223 x0 d) (x0 + 1) i = d (x0 + 1) i from fun i hi => Q2 i (by omega)) hmp) (by omega) (by omega) ?_
    intro F hS_
    have y0 : st_265_48 x0 x1 x2 r48 x3 d = r48 (x3 + 1) (g_223 x0 d) := by simp only [st_265_48, if_pos (show x3 < x2 from c0)]
    rw [y0] at h
    exact h (fun b hb => (F b hb).trans ((show ∀ b : Int, (b < x0 ∨ x0 + 1 < b) ∧ (b < x0 + 4 ∨ x0 + 4 < b) → (g_223 x0 d) b = d b from fun b hb => F2 b (by omega)) b hb)) hS_
theorem l_265_48 {E : mO × tW} {K : tK} {x0 x1 x2 : Int} (hx0 : mdB x0) (p1 : -2147483648 ≤ x1 ∧ x1 ≤ 2147483647) (p2 : -2147483648 ≤ x2 ∧ x2 ≤ 2147483647) : ∀ (n : Nat) (x3 : Int) (d : mD), Safe d → (0 ≤ x3 ∧ x3 ≤ x2 ∧ x2 ≤ 200) → (0 ≤ x1 ∧ x1 ≤ 5) → (d (x0 + 1) 0 + (x2 - x3) ≤ 1200) → (mpP (d (x0 + 1))) → x2 - x3 ≤ (n : Int) → ((∀ b : Int, (b < x0 ∨ x0 + 1 < b) ∧ (b < x0 + 4 ∨ x0 + 4 < b) → (lp_265_48 x0 x1 x2 n x3 d).2 b = d b) → Safe (lp_265_48 x0 x1 x2 n x3 d).2 → K (.inl (some (0, (lp_265_48 x0 x1 x2 n x3 d).1))) (lp_265_48 x0 x1 x2 n x3 d).2) → tRun E 265 (48, [.inr (11, x0), .inl (0, x1), .inl (0, x2), .inl (0, x3)], [], 0, 0, d) K := by
  intro n
  induction n with
  | zero =>
    intro x3  d hS i0 i1 i2 hmp hm  h
    exact ls_265_48 hx0 p1 p2 0 _ (fun _  _ _ _ _ _ _ m0 m1 _ => absurd m1 (by omega)) x3  d hS i0 i1 i2 hmp hm  h
  | succ n ih =>
    intro x3  d hS i0 i1 i2 hmp hm  h
    exact ls_265_48 hx0 p1 p2 ((n + 1 : Nat) : Int) _ (fun x3  d hS i0 i1 i2 hmp  m0 m1 h => ih x3  d hS i0 i1 i2 hmp (by omega)  h) x3  d hS i0 i1 i2 hmp hm  h
def f_265 (x0 x1 x2 : Int) (d : mD) : Int × mD := if v_236 x0 x1 d = 0 then (0, mset d x0 0 1) else if v_176 x2 0 200 d = 0 then (0, mset d x0 0 2) else lp_265_48 x0 x1 x2 (x2 - 0 : Int).toNat 0 (g_255 x0 (mset d x0 0 0))
def v_265 (x0 x1 x2 : Int) (d : mD) : Int := (f_265 x0 x1 x2 d).1
def g_265 (x0 x1 x2 : Int) (d : mD) : mD := (f_265 x0 x1 x2 d).2
theorem k_265 {E : mO × tW} {K : tK} {d : mD} {x0 x1 x2 : Int} (hS : Safe d) (hx0 : mdB x0) (p1 : -2147483648 ≤ x1 ∧ x1 ≤ 2147483647) (p2 : -2147483648 ≤ x2 ∧ x2 ≤ 2147483647) (hmp : mpP (d (x0 + 1))) (ht : d (x0 + 1) 0 ≤ 999) (h : (∀ b : Int, (b < x0 ∨ x0 + 1 < b) ∧ (b < x0 + 4 ∨ x0 + 4 < b) → (g_265 x0 x1 x2 d) b = d b) → Safe (g_265 x0 x1 x2 d) → K (.inl (some (0, (v_265 x0 x1 x2 d)))) (g_265 x0 x1 x2 d)) : tCall E 265 [.inr (11, x0), .inl (0, x1), .inl (0, x2)] d K := by
  simp only [v_265, g_265] at h
  refine t_265_0 ?_
  have w0 := mh_0 hS hx0 _ rfl
  have w7 := mh_7 hS hx0 _ rfl
  have w8 := mh_8 hS hx0 _ rfl
  have w9 := mh_9 hS hx0 _ rfl
  have w10 := mh_10 hS hx0 _ rfl
  have w11 := mh_11 hS hx0 _ rfl
  refine k_236 hS hx0 (m_inR (by omega) (by omega)) (fun e1 => ?_)
  refine t_265_6 ?_
  refine ⟨m_inR (by omega) (by omega), fun c0 => ?_, fun c0 => ?_⟩
  · refine ⟨m_inR (by omega) (by omega), ?_⟩
    refine k_176 hS (m_inR (by omega) (by omega)) (m_inR (by omega) (by omega)) (m_inR (by omega) (by omega)) (fun e2 => ?_)
    refine t_265_22 ?_
    refine ⟨m_inR (by omega) (by omega), fun c1 => ?_, fun c1 => ?_⟩
    · have hS3 : Safe (mset d x0 0 2) := s_11_f0 hS hx0 (by omega)
      rw [mset_eq (d := d) (a := x0) (i := (0 : Int)) (v := (2 : Int))]
      refine ⟨m_inR (by omega) (by omega), fun c2 => ?_, fun c2 => ?_⟩
      · exact (show False by omega).elim
      · have y0 : f_265 x0 x1 x2 d = (0, mset d x0 0 2) := by simp only [f_265, if_neg (show ¬ v_236 x0 x1 d = 0 from c0), if_pos (show v_176 x2 0 200 d = 0 from c1), if_pos (show (0 : Int) < 2 from c2)]
        rw [y0] at h
        exact h (show ∀ b : Int, (b < x0 ∨ x0 + 1 < b) ∧ (b < x0 + 4 ∨ x0 + 4 < b) → (mset d x0 0 2) b = d b from fun b hb => mset_ne (by omega)) hS3
    · have hS4 : Safe (mset d x0 0 0) := s_11_f0 hS hx0 (by omega)
      rw [mset_eq (d := d) (a := x0) (i := (0 : Int)) (v := (0 : Int))]
      refine ⟨m_inR (by omega) (by omega), fun c2 => ?_, fun c2 => ?_⟩
      · refine k_255 hS4 hx0 (fun F3 K3_0 hS5 => ?_)
        refine t_265_46 ?_
        have q2 : (g_255 x0 (mset d x0 0 0)) (x0 + 1) 0 = d (x0 + 1) 0 := (congrFun (F3 (x0 + 1) (by omega)) 0).trans (congrFun (mset_ne (by omega)) 0)
        refine l_265_48 hx0 p1 p2 (x2 - 0 : Int).toNat 0  (g_255 x0 (mset d x0 0 0)) hS5 (by omega) (by omega) (by omega) (mpP.of (mh_7 hS hx0 _ rfl) (show ∀ i : Int, i = 7 ∨ (12 ≤ i ∧ i < 420 ∧ (i - 12) % 68 = 2) → (g_255 x0 (mset d x0 0 0)) (x0 + 1) i = d (x0 + 1) i from fun i hi => (congrFun (F3 (x0 + 1) (by omega)) i).trans (congrFun (mset_ne (by omega)) i)) hmp) (by omega) ?_
        intro F hS_
        have y0 : f_265 x0 x1 x2 d = lp_265_48 x0 x1 x2 (x2 - 0 : Int).toNat 0 (g_255 x0 (mset d x0 0 0)) := by simp only [f_265, if_neg (show ¬ v_236 x0 x1 d = 0 from c0), if_neg (show ¬ v_176 x2 0 200 d = 0 from c1), if_neg (show ¬ (0 : Int) < 0 from Int.not_lt.mpr c2)]
        rw [y0] at h
        exact h (fun b hb => (F b hb).trans ((show ∀ b : Int, (b < x0 ∨ x0 + 1 < b) ∧ (b < x0 + 4 ∨ x0 + 4 < b) → (g_255 x0 (mset d x0 0 0)) b = d b from fun b hb => (F3 b (by omega)).trans (mset_ne (by omega))) b hb)) hS_
      · exact (show False by omega).elim
  · have hS6 : Safe (mset d x0 0 1) := s_11_f0 hS hx0 (by omega)
    rw [mset_eq (d := d) (a := x0) (i := (0 : Int)) (v := (1 : Int))]
    refine ⟨m_inR (by omega) (by omega), fun c1 => ?_, fun c1 => ?_⟩
    · exact (show False by omega).elim
    · have y0 : f_265 x0 x1 x2 d = (0, mset d x0 0 1) := by simp only [f_265, if_pos (show v_236 x0 x1 d = 0 from c0), if_pos (show (0 : Int) < 1 from c1)]
      rw [y0] at h
      exact h (show ∀ b : Int, (b < x0 ∨ x0 + 1 < b) ∧ (b < x0 + 4 ∨ x0 + 4 < b) → (mset d x0 0 1) b = d b from fun b hb => mset_ne (by omega)) hS6
def st_266_36 (x0 x1 : Int) (r36 : Int → mD → Int × mD) (x2 : Int) (d : mD) : Int × mD := if x2 < x1 then r36 (x2 + 1) (g_223 x0 d) else (d (x0 + 1) 10, g_256 x0 d)
def lp_266_36 (x0 x1 : Int) : Nat → Int → mD → Int × mD
  | 0 => st_266_36 x0 x1 (fun _ d => (0, d))
  | n + 1 => st_266_36 x0 x1 (lp_266_36 x0 x1 n)
theorem ls_266_36 {E : mO × tW} {K : tK} {x0 x1 : Int} (hx0 : mdB x0) (p1 : -2147483648 ≤ x1 ∧ x1 ≤ 2147483647) (N36 : Int) (r36 : Int → mD → Int × mD) (ih36 : ∀ (x2 : Int) (d : mD), Safe d → (0 ≤ x2 ∧ x2 ≤ x1 ∧ x1 ≤ 200) → (d (x0 + 1) 0 + (x1 - x2) ≤ 1200) → (mpP (d (x0 + 1))) → 0 ≤ x1 - x2 → x1 - x2 < N36 → ((∀ b : Int, (b < x0 ∨ x0 + 1 < b) ∧ (b < x0 + 4 ∨ x0 + 4 < b) → (r36 x2 d).2 b = d b) → Safe (r36 x2 d).2 → K (.inl (some (0, (r36 x2 d).1))) (r36 x2 d).2) → tRun E 266 (36, [.inr (11, x0), .inl (0, x1), .inl (0, x2)], [], 0, 0, d) K) (x2 : Int) (d : mD) (hS : Safe d) (i0 : 0 ≤ x2 ∧ x2 ≤ x1 ∧ x1 ≤ 200) (i1 : d (x0 + 1) 0 + (x1 - x2) ≤ 1200) (hmp : mpP (d (x0 + 1))) (hm : x1 - x2 ≤ N36) (h : (∀ b : Int, (b < x0 ∨ x0 + 1 < b) ∧ (b < x0 + 4 ∨ x0 + 4 < b) → (st_266_36 x0 x1 r36 x2 d).2 b = d b) → Safe (st_266_36 x0 x1 r36 x2 d).2 → K (.inl (some (0, (st_266_36 x0 x1 r36 x2 d).1))) (st_266_36 x0 x1 r36 x2 d).2) : tRun E 266 (36, [.inr (11, x0), .inl (0, x1), .inl (0, x2)], [], 0, 0, d) K := by
  refine t_266_36 ?_
  refine ⟨⟨m_inR (by omega) (by omega), m_inR (by omega) (by omega)⟩, fun c0 => ?_, fun c0 => ?_⟩
  · refine ⟨by omega, ?_⟩
    refine k_256 hS hx0 (fun F1 K1_0 hS1 => ?_)
    refine t_266_63 ?_
    have q1 := mh_10 hS hx0 _ rfl
    have y0 : st_266_36 x0 x1 r36 x2 d = (d (x0 + 1) 10, g_256 x0 d) := by simp only [st_266_36, if_neg (show ¬ x2 < x1 from Int.not_lt.mpr c0)]
    rw [y0] at h
    exact h (show ∀ b : Int, (b < x0 ∨ x0 + 1 < b) ∧ (b < x0 + 4 ∨ x0 + 4 < b) → (g_256 x0 d) b = d b from fun b hb => F1 b (by omega)) hS1
  · refine k_223 hS hx0 hmp (by omega) (fun F2 Q2 n2_0 hS2 => ?_)
    refine t_266_45 ?_
    refine ih36 (x2 + 1)  (g_223 x0 d) hS2 (by omega) (by omega) (mpP.of (mh_7 hS hx0 _ rfl) (show ∀ i : Int, i = 7 ∨ (12 ≤ i ∧ i < 420 ∧ (i - 12) % 68 = 2) → (g_223 x0 d) (x0 + 1) i = d (x0 + 1) i from fun i hi => Q2 i (by omega)) hmp) (by omega) (by omega) ?_
    intro F hS_
    have y0 : st_266_36 x0 x1 r36 x2 d = r36 (x2 + 1) (g_223 x0 d) := by simp only [st_266_36, if_pos (show x2 < x1 from c0)]
    rw [y0] at h
    exact h (fun b hb => (F b hb).trans ((show ∀ b : Int, (b < x0 ∨ x0 + 1 < b) ∧ (b < x0 + 4 ∨ x0 + 4 < b) → (g_223 x0 d) b = d b from fun b hb => F2 b (by omega)) b hb)) hS_
theorem l_266_36 {E : mO × tW} {K : tK} {x0 x1 : Int} (hx0 : mdB x0) (p1 : -2147483648 ≤ x1 ∧ x1 ≤ 2147483647) : ∀ (n : Nat) (x2 : Int) (d : mD), Safe d → (0 ≤ x2 ∧ x2 ≤ x1 ∧ x1 ≤ 200) → (d (x0 + 1) 0 + (x1 - x2) ≤ 1200) → (mpP (d (x0 + 1))) → x1 - x2 ≤ (n : Int) → ((∀ b : Int, (b < x0 ∨ x0 + 1 < b) ∧ (b < x0 + 4 ∨ x0 + 4 < b) → (lp_266_36 x0 x1 n x2 d).2 b = d b) → Safe (lp_266_36 x0 x1 n x2 d).2 → K (.inl (some (0, (lp_266_36 x0 x1 n x2 d).1))) (lp_266_36 x0 x1 n x2 d).2) → tRun E 266 (36, [.inr (11, x0), .inl (0, x1), .inl (0, x2)], [], 0, 0, d) K := by
  intro n
  induction n with
  | zero =>
    intro x2  d hS i0 i1 hmp hm  h
    exact ls_266_36 hx0 p1 0 _ (fun _  _ _ _ _ _ m0 m1 _ => absurd m1 (by omega)) x2  d hS i0 i1 hmp hm  h
  | succ n ih =>
    intro x2  d hS i0 i1 hmp hm  h
    exact ls_266_36 hx0 p1 ((n + 1 : Nat) : Int) _ (fun x2  d hS i0 i1 hmp  m0 m1 h => ih x2  d hS i0 i1 hmp (by omega)  h) x2  d hS i0 i1 hmp hm  h
def f_266 (x0 x1 : Int) (d : mD) : Int × mD := if v_176 x1 0 200 d = 0 then (0, mset d x0 0 1) else lp_266_36 x0 x1 (x1 - 0 : Int).toNat 0 (g_255 x0 (mset d x0 0 0))
def v_266 (x0 x1 : Int) (d : mD) : Int := (f_266 x0 x1 d).1
def g_266 (x0 x1 : Int) (d : mD) : mD := (f_266 x0 x1 d).2
theorem k_266 {E : mO × tW} {K : tK} {d : mD} {x0 x1 : Int} (hS : Safe d) (hx0 : mdB x0) (p1 : -2147483648 ≤ x1 ∧ x1 ≤ 2147483647) (hmp : mpP (d (x0 + 1))) (ht : d (x0 + 1) 0 ≤ 999) (h : (∀ b : Int, (b < x0 ∨ x0 + 1 < b) ∧ (b < x0 + 4 ∨ x0 + 4 < b) → (g_266 x0 x1 d) b = d b) → Safe (g_266 x0 x1 d) → K (.inl (some (0, (v_266 x0 x1 d)))) (g_266 x0 x1 d)) : tCall E 266 [.inr (11, x0), .inl (0, x1)] d K := by
  simp only [v_266, g_266] at h
  refine t_266_0 ?_
  have w0 := mh_0 hS hx0 _ rfl
  have w7 := mh_7 hS hx0 _ rfl
  have w8 := mh_8 hS hx0 _ rfl
  have w9 := mh_9 hS hx0 _ rfl
  have w10 := mh_10 hS hx0 _ rfl
  have w11 := mh_11 hS hx0 _ rfl
  refine ⟨m_inR (by omega) (by omega), ?_⟩
  refine k_176 hS (m_inR (by omega) (by omega)) (m_inR (by omega) (by omega)) (m_inR (by omega) (by omega)) (fun e1 => ?_)
  refine t_266_10 ?_
  refine ⟨m_inR (by omega) (by omega), fun c0 => ?_, fun c0 => ?_⟩
  · have hS3 : Safe (mset d x0 0 1) := s_11_f0 hS hx0 (by omega)
    rw [mset_eq (d := d) (a := x0) (i := (0 : Int)) (v := (1 : Int))]
    refine ⟨m_inR (by omega) (by omega), fun c1 => ?_, fun c1 => ?_⟩
    · exact (show False by omega).elim
    · have y0 : f_266 x0 x1 d = (0, mset d x0 0 1) := by simp only [f_266, if_pos (show v_176 x1 0 200 d = 0 from c0), if_pos (show (0 : Int) < 1 from c1)]
      rw [y0] at h
      exact h (show ∀ b : Int, (b < x0 ∨ x0 + 1 < b) ∧ (b < x0 + 4 ∨ x0 + 4 < b) → (mset d x0 0 1) b = d b from fun b hb => mset_ne (by omega)) hS3
  · have hS4 : Safe (mset d x0 0 0) := s_11_f0 hS hx0 (by omega)
    rw [mset_eq (d := d) (a := x0) (i := (0 : Int)) (v := (0 : Int))]
    refine ⟨m_inR (by omega) (by omega), fun c1 => ?_, fun c1 => ?_⟩
    · refine k_255 hS4 hx0 (fun F3 K3_0 hS5 => ?_)
      refine t_266_34 ?_
      have q2 : (g_255 x0 (mset d x0 0 0)) (x0 + 1) 0 = d (x0 + 1) 0 := (congrFun (F3 (x0 + 1) (by omega)) 0).trans (congrFun (mset_ne (by omega)) 0)
      refine l_266_36 hx0 p1 (x1 - 0 : Int).toNat 0  (g_255 x0 (mset d x0 0 0)) hS5 (by omega) (by omega) (mpP.of (mh_7 hS hx0 _ rfl) (show ∀ i : Int, i = 7 ∨ (12 ≤ i ∧ i < 420 ∧ (i - 12) % 68 = 2) → (g_255 x0 (mset d x0 0 0)) (x0 + 1) i = d (x0 + 1) i from fun i hi => (congrFun (F3 (x0 + 1) (by omega)) i).trans (congrFun (mset_ne (by omega)) i)) hmp) (by omega) ?_
      intro F hS_
      have y0 : f_266 x0 x1 d = lp_266_36 x0 x1 (x1 - 0 : Int).toNat 0 (g_255 x0 (mset d x0 0 0)) := by simp only [f_266, if_neg (show ¬ v_176 x1 0 200 d = 0 from c0), if_neg (show ¬ (0 : Int) < 0 from Int.not_lt.mpr c1)]
      rw [y0] at h
      exact h (fun b hb => (F b hb).trans ((show ∀ b : Int, (b < x0 ∨ x0 + 1 < b) ∧ (b < x0 + 4 ∨ x0 + 4 < b) → (g_255 x0 (mset d x0 0 0)) b = d b from fun b hb => (F3 b (by omega)).trans (mset_ne (by omega))) b hb)) hS_
    · exact (show False by omega).elim
def v_267 (x0 x1 : Int) (d : mD) : Int := if d (x0 + 1) ((12 + (68 * x1)) + 4) = 0 then 201 else v_263 x0 (v_224 x0 0 x1 (g_255 x0 d)) (g_224 x0 0 x1 (g_255 x0 d))
def g_267 (x0 x1 : Int) (d : mD) : mD := if d (x0 + 1) ((12 + (68 * x1)) + 4) = 0 then d else g_256 x0 (g_263 x0 (v_224 x0 0 x1 (g_255 x0 d)) (g_224 x0 0 x1 (g_255 x0 d)))
theorem k_267 {E : mO × tW} {K : tK} {d : mD} {x0 x1 : Int} (hS : Safe d) (hx0 : mdB x0) (p1 : 0 ≤ x1 ∧ x1 ≤ 5) (hmp : mpP (d (x0 + 1))) (ht : d (x0 + 1) 0 ≤ 999) (hqq : qqP (d (x0 + 1))) (hn : d (x0 + 1) 9 ≤ 60) (h : (0 ≤ (v_267 x0 x1 d) ∧ (v_267 x0 x1 d) ≤ 201) → (∀ b : Int, (b < x0 + 1 ∨ x0 + 1 < b) ∧ (b < x0 + 4 ∨ x0 + 4 < b) → (g_267 x0 x1 d) b = d b) → (∀ i : Int, 0 ≤ i ∧ i < 3116 → (g_267 x0 x1 d) (x0 + 1) i = d (x0 + 1) i) → Safe (g_267 x0 x1 d) → K (.inl (some (0, (v_267 x0 x1 d)))) (g_267 x0 x1 d)) : tCall E 267 [.inr (11, x0), .inl (0, x1)] d K := by
  refine t_267_0 ?_
  have w1 := hqq x1 (by omega) (by omega)
  refine k_177 hS ?_
  refine t_267_8 ?_
  have q1 := mo_4 hS hx0 x1 ((12 + (68 * x1)) + 4) (by omega) (by omega)
  refine ⟨by omega, m_inR (by omega) (by omega), fun c0 => ?_, fun c0 => ?_⟩
  · refine k_255 hS hx0 (fun F1 K1_0 hS1 => ?_)
    refine t_267_22 ?_
    have q2 : (g_255 x0 d) (x0 + 1) 9 = d (x0 + 1) 9 := congrFun (F1 (x0 + 1) (by omega)) 9
    have q3 : (g_255 x0 d) (x0 + 1) (12 + 68 * x1 + 5) = d (x0 + 1) (12 + 68 * x1 + 5) := congrFun (F1 (x0 + 1) (by omega)) (12 + 68 * x1 + 5)
    refine k_224 hS1 hx0 (by omega) (by omega) (by omega) (by omega) (fun e1 F2 Q2 hS2 => ?_)
    refine t_267_29 ?_
    have q4 : (g_224 x0 0 x1 (g_255 x0 d)) (x0 + 1) 0 = d (x0 + 1) 0 := (Q2 0 (by omega)).trans (congrFun (F1 (x0 + 1) (by omega)) 0)
    refine k_263 hS2 hx0 (by omega) (mpP.of (mh_7 hS hx0 _ rfl) (show ∀ i : Int, i = 7 ∨ (12 ≤ i ∧ i < 420 ∧ (i - 12) % 68 = 2) → (g_224 x0 0 x1 (g_255 x0 d)) (x0 + 1) i = d (x0 + 1) i from fun i hi => (Q2 i (by omega)).trans (congrFun (F1 (x0 + 1) (by omega)) i)) hmp) (by omega) (fun e2 F3 Q3 hS3 => ?_)
    refine t_267_32 ?_
    refine k_256 hS3 hx0 (fun F4 K4_0 hS4 => ?_)
    refine t_267_37 ?_
    have y0 : v_267 x0 x1 d = v_263 x0 (v_224 x0 0 x1 (g_255 x0 d)) (g_224 x0 0 x1 (g_255 x0 d)) := by simp only [v_267, if_neg (show ¬ d (x0 + 1) ((12 + (68 * x1)) + 4) = 0 from c0)]
    have y1 : g_267 x0 x1 d = g_256 x0 (g_263 x0 (v_224 x0 0 x1 (g_255 x0 d)) (g_224 x0 0 x1 (g_255 x0 d))) := by simp only [g_267, if_neg (show ¬ d (x0 + 1) ((12 + (68 * x1)) + 4) = 0 from c0)]
    rw [y0] at h
    rw [y1] at h
    exact h (show 0 ≤ (v_263 x0 (v_224 x0 0 x1 (g_255 x0 d)) (g_224 x0 0 x1 (g_255 x0 d))) ∧ (v_263 x0 (v_224 x0 0 x1 (g_255 x0 d)) (g_224 x0 0 x1 (g_255 x0 d))) ≤ 201 from (by omega)) (show ∀ b : Int, (b < x0 + 1 ∨ x0 + 1 < b) ∧ (b < x0 + 4 ∨ x0 + 4 < b) → (g_256 x0 (g_263 x0 (v_224 x0 0 x1 (g_255 x0 d)) (g_224 x0 0 x1 (g_255 x0 d)))) b = d b from fun b hb => (F4 b (by omega)).trans ((F3 b (by omega)).trans ((F2 b (by omega)).trans (F1 b (by omega))))) (show ∀ i : Int, 0 ≤ i ∧ i < 3116 → (g_256 x0 (g_263 x0 (v_224 x0 0 x1 (g_255 x0 d)) (g_224 x0 0 x1 (g_255 x0 d)))) (x0 + 1) i = d (x0 + 1) i from fun i hi => (((K4_0 i (by omega) (by omega)).trans (congrFun (F3 (x0 + 4) (by omega)) i)).trans (congrFun (F2 (x0 + 4) (by omega)) i)).trans (K1_0 i (by omega) (by omega))) hS4
  · have y0 : v_267 x0 x1 d = 201 := by simp only [v_267, if_pos (show d (x0 + 1) ((12 + (68 * x1)) + 4) = 0 from c0)]
    have y1 : g_267 x0 x1 d = d := by simp only [g_267, if_pos (show d (x0 + 1) ((12 + (68 * x1)) + 4) = 0 from c0)]
    rw [y0] at h
    rw [y1] at h
    exact h (show 0 ≤ ((201 : Int)) ∧ ((201 : Int)) ≤ 201 from (by omega)) (show ∀ b : Int, (b < x0 + 1 ∨ x0 + 1 < b) ∧ (b < x0 + 4 ∨ x0 + 4 < b) → d b = d b from fun _ _ => rfl) (show ∀ i : Int, 0 ≤ i ∧ i < 3116 → d (x0 + 1) i = d (x0 + 1) i from fun _ _ => rfl) hS
def v_268 (x0 x1 : Int) (d : mD) : Int := if v_236 x0 x1 d = 0 then 0 else if (200 : Int) < v_267 x0 x1 (mset d x0 0 0) then 0 else v_267 x0 x1 (mset d x0 0 0)
def g_268 (x0 x1 : Int) (d : mD) : mD := if v_236 x0 x1 d = 0 then mset d x0 0 1 else if (200 : Int) < v_267 x0 x1 (mset d x0 0 0) then mset (g_267 x0 x1 (mset d x0 0 0)) x0 0 2 else mset (g_267 x0 x1 (mset d x0 0 0)) x0 0 0
theorem k_268 {E : mO × tW} {K : tK} {d : mD} {x0 x1 : Int} (hS : Safe d) (hx0 : mdB x0) (p1 : -2147483648 ≤ x1 ∧ x1 ≤ 2147483647) (hmp : mpP (d (x0 + 1))) (ht : d (x0 + 1) 0 ≤ 999) (hqq : qqP (d (x0 + 1))) (hn : d (x0 + 1) 9 ≤ 60) (h : (∀ b : Int, (b < x0 ∨ x0 + 1 < b) ∧ (b < x0 + 4 ∨ x0 + 4 < b) → (g_268 x0 x1 d) b = d b) → Safe (g_268 x0 x1 d) → K (.inl (some (0, (v_268 x0 x1 d)))) (g_268 x0 x1 d)) : tCall E 268 [.inr (11, x0), .inl (0, x1)] d K := by
  refine t_268_0 ?_
  have w0 := mh_0 hS hx0 _ rfl
  have w7 := mh_7 hS hx0 _ rfl
  have w8 := mh_8 hS hx0 _ rfl
  have w9 := mh_9 hS hx0 _ rfl
  have w10 := mh_10 hS hx0 _ rfl
  have w11 := mh_11 hS hx0 _ rfl
  refine k_236 hS hx0 (m_inR (by omega) (by omega)) (fun e1 => ?_)
  refine t_268_6 ?_
  refine ⟨m_inR (by omega) (by omega), fun c0 => ?_, fun c0 => ?_⟩
  · have hS1 : Safe (mset d x0 0 1) := s_11_f0 hS hx0 (by omega)
    rw [mset_eq (d := d) (a := x0) (i := (0 : Int)) (v := (1 : Int))]
    refine ⟨m_inR (by omega) (by omega), fun c1 => ?_, fun c1 => ?_⟩
    · exact (show False by omega).elim
    · have y0 : v_268 x0 x1 d = 0 := by simp only [v_268, if_pos (show v_236 x0 x1 d = 0 from c0), if_pos (show (0 : Int) < 1 from c1)]
      have y1 : g_268 x0 x1 d = mset d x0 0 1 := by simp only [g_268, if_pos (show v_236 x0 x1 d = 0 from c0), if_pos (show (0 : Int) < 1 from c1)]
      rw [y0] at h
      rw [y1] at h
      exact h (show ∀ b : Int, (b < x0 ∨ x0 + 1 < b) ∧ (b < x0 + 4 ∨ x0 + 4 < b) → (mset d x0 0 1) b = d b from fun b hb => mset_ne (by omega)) hS1
  · have hS2 : Safe (mset d x0 0 0) := s_11_f0 hS hx0 (by omega)
    rw [mset_eq (d := d) (a := x0) (i := (0 : Int)) (v := (0 : Int))]
    refine ⟨m_inR (by omega) (by omega), fun c1 => ?_, fun c1 => ?_⟩
    · have q1 : (mset d x0 0 0) (x0 + 1) 0 = d (x0 + 1) 0 := congrFun (mset_ne (by omega)) 0
      have q2 : (mset d x0 0 0) (x0 + 1) 9 = d (x0 + 1) 9 := congrFun (mset_ne (by omega)) 9
      refine k_267 hS2 hx0 (by omega) (mpP.of (mh_7 hS hx0 _ rfl) (show ∀ i : Int, i = 7 ∨ (12 ≤ i ∧ i < 420 ∧ (i - 12) % 68 = 2) → (mset d x0 0 0) (x0 + 1) i = d (x0 + 1) i from fun i hi => congrFun (mset_ne (by omega)) i) hmp) (by omega) (qqP.of (show ∀ i : Int, 12 ≤ i ∧ i < 420 ∧ (i - 12) % 68 = 5 → (mset d x0 0 0) (x0 + 1) i = d (x0 + 1) i from fun i hi => congrFun (mset_ne (by omega)) i) hqq) (by omega) (fun e2 F1 Q1 hS3 => ?_)
      refine t_268_31 ?_
      refine ⟨⟨m_inR (by omega) (by omega), m_inR (by omega) (by omega)⟩, fun c2 => ?_, fun c2 => ?_⟩
      · have hS4 : Safe (mset (g_267 x0 x1 (mset d x0 0 0)) x0 0 0) := s_11_f0 hS3 hx0 (by omega)
        rw [mset_eq (d := g_267 x0 x1 (mset d x0 0 0)) (a := x0) (i := (0 : Int)) (v := (0 : Int))]
        refine ⟨m_inR (by omega) (by omega), fun c3 => ?_, fun c3 => ?_⟩
        · have y0 : v_268 x0 x1 d = v_267 x0 x1 (mset d x0 0 0) := by simp only [v_268, if_neg (show ¬ v_236 x0 x1 d = 0 from c0), if_neg (show ¬ (0 : Int) < 0 from Int.not_lt.mpr c1), if_neg (show ¬ (200 : Int) < v_267 x0 x1 (mset d x0 0 0) from Int.not_lt.mpr c2), if_neg (show ¬ (0 : Int) < 0 from Int.not_lt.mpr c3)]
          have y1 : g_268 x0 x1 d = mset (g_267 x0 x1 (mset d x0 0 0)) x0 0 0 := by simp only [g_268, if_neg (show ¬ v_236 x0 x1 d = 0 from c0), if_neg (show ¬ (0 : Int) < 0 from Int.not_lt.mpr c1), if_neg (show ¬ (200 : Int) < v_267 x0 x1 (mset d x0 0 0) from Int.not_lt.mpr c2), if_neg (show ¬ (0 : Int) < 0 from Int.not_lt.mpr c3)]
          rw [y0] at h
          rw [y1] at h
          exact h (show ∀ b : Int, (b < x0 ∨ x0 + 1 < b) ∧ (b < x0 + 4 ∨ x0 + 4 < b) → (mset (g_267 x0 x1 (mset d x0 0 0)) x0 0 0) b = d b from fun b hb => (mset_ne (by omega)).trans ((F1 b (by omega)).trans (mset_ne (by omega)))) hS4
        · exact (show False by omega).elim
      · have hS5 : Safe (mset (g_267 x0 x1 (mset d x0 0 0)) x0 0 2) := s_11_f0 hS3 hx0 (by omega)
        rw [mset_eq (d := g_267 x0 x1 (mset d x0 0 0)) (a := x0) (i := (0 : Int)) (v := (2 : Int))]
        refine ⟨m_inR (by omega) (by omega), fun c3 => ?_, fun c3 => ?_⟩
        · exact (show False by omega).elim
        · have y0 : v_268 x0 x1 d = 0 := by simp only [v_268, if_neg (show ¬ v_236 x0 x1 d = 0 from c0), if_neg (show ¬ (0 : Int) < 0 from Int.not_lt.mpr c1), if_pos (show (200 : Int) < v_267 x0 x1 (mset d x0 0 0) from c2), if_pos (show (0 : Int) < 2 from c3)]
          have y1 : g_268 x0 x1 d = mset (g_267 x0 x1 (mset d x0 0 0)) x0 0 2 := by simp only [g_268, if_neg (show ¬ v_236 x0 x1 d = 0 from c0), if_neg (show ¬ (0 : Int) < 0 from Int.not_lt.mpr c1), if_pos (show (200 : Int) < v_267 x0 x1 (mset d x0 0 0) from c2), if_pos (show (0 : Int) < 2 from c3)]
          rw [y0] at h
          rw [y1] at h
          exact h (show ∀ b : Int, (b < x0 ∨ x0 + 1 < b) ∧ (b < x0 + 4 ∨ x0 + 4 < b) → (mset (g_267 x0 x1 (mset d x0 0 0)) x0 0 2) b = d b from fun b hb => (mset_ne (by omega)).trans ((F1 b (by omega)).trans (mset_ne (by omega)))) hS5
    · exact (show False by omega).elim
def st_269_8 (x0 : Int) (r8 : Int → Int → Int → mD → Int × mD) (x1 x2 x3 : Int) (d : mD) : Int × mD := if x3 < d (x0 + 1) 7 then (if v_267 x0 x3 d < x2 then r8 x3 (v_267 x0 x3 d) (x3 + 1) (g_267 x0 x3 d) else r8 x1 x2 (x3 + 1) (g_267 x0 x3 d)) else if x1 = (-1) then (0, mset d x0 0 1) else (x1, mset d x0 0 0)
def lp_269_8 (x0 : Int) : Nat → Int → Int → Int → mD → Int × mD
  | 0 => st_269_8 x0 (fun _ _ _ d => (0, d))
  | n + 1 => st_269_8 x0 (lp_269_8 x0 n)
theorem ls_269_8 {E : mO × tW} {K : tK} {x0 : Int} (hx0 : mdB x0) (N8 : Int) (r8 : Int → Int → Int → mD → Int × mD) (ih8 : ∀ (x1 x2 x3 : Int) (v4 : tV) (d : mD), Safe d → (0 ≤ x3 ∧ x3 ≤ 6) → (-1 ≤ x1 ∧ x1 ≤ 5) → (0 ≤ x2 ∧ x2 ≤ 201) → (mpP (d (x0 + 1))) → (d (x0 + 1) 0 ≤ 999) → (qqP (d (x0 + 1))) → (d (x0 + 1) 9 ≤ 60) → 0 ≤ 6 - x3 → 6 - x3 < N8 → ((∀ b : Int, (b < x0 ∨ x0 + 1 < b) ∧ (b < x0 + 4 ∨ x0 + 4 < b) → (r8 x1 x2 x3 d).2 b = d b) → Safe (r8 x1 x2 x3 d).2 → K (.inl (some (0, (r8 x1 x2 x3 d).1))) (r8 x1 x2 x3 d).2) → tRun E 269 (8, [.inr (11, x0), .inl (0, x1), .inl (0, x2), .inl (0, x3), v4], [], 0, 0, d) K) (x1 x2 x3 : Int) (v4 : tV) (d : mD) (hS : Safe d) (i0 : 0 ≤ x3 ∧ x3 ≤ 6) (i1 : -1 ≤ x1 ∧ x1 ≤ 5) (i2 : 0 ≤ x2 ∧ x2 ≤ 201) (hmp : mpP (d (x0 + 1))) (i4 : d (x0 + 1) 0 ≤ 999) (hqq : qqP (d (x0 + 1))) (i6 : d (x0 + 1) 9 ≤ 60) (hm : 6 - x3 ≤ N8) (h : (∀ b : Int, (b < x0 ∨ x0 + 1 < b) ∧ (b < x0 + 4 ∨ x0 + 4 < b) → (st_269_8 x0 r8 x1 x2 x3 d).2 b = d b) → Safe (st_269_8 x0 r8 x1 x2 x3 d).2 → K (.inl (some (0, (st_269_8 x0 r8 x1 x2 x3 d).1))) (st_269_8 x0 r8 x1 x2 x3 d).2) : tRun E 269 (8, [.inr (11, x0), .inl (0, x1), .inl (0, x2), .inl (0, x3), v4], [], 0, 0, d) K := by
  refine t_269_8 ?_
  have q1 := mh_7 hS hx0 _ rfl
  refine ⟨by omega, ⟨m_inR (by omega) (by omega), m_inR (by omega) (by omega)⟩, fun c0 => ?_, fun c0 => ?_⟩
  · refine ⟨⟨m_inR (by omega) (by omega), m_inR (by omega) (by omega)⟩, fun c1 => ?_, fun c1 => ?_⟩
    · have hS1 : Safe (mset d x0 0 0) := s_11_f0 hS hx0 (by omega)
      rw [mset_eq (d := d) (a := x0) (i := (0 : Int)) (v := (0 : Int))]
      refine ⟨m_inR (by omega) (by omega), fun c2 => ?_, fun c2 => ?_⟩
      · have y0 : st_269_8 x0 r8 x1 x2 x3 d = (x1, mset d x0 0 0) := by simp only [st_269_8, if_neg (show ¬ x3 < d (x0 + 1) 7 from Int.not_lt.mpr c0), if_neg (show ¬ x1 = (-1) from c1), if_neg (show ¬ (0 : Int) < 0 from Int.not_lt.mpr c2)]
        rw [y0] at h
        exact h (show ∀ b : Int, (b < x0 ∨ x0 + 1 < b) ∧ (b < x0 + 4 ∨ x0 + 4 < b) → (mset d x0 0 0) b = d b from fun b hb => mset_ne (by omega)) hS1
      · exact (show False by omega).elim
    · have hS2 : Safe (mset d x0 0 1) := s_11_f0 hS hx0 (by omega)
      rw [mset_eq (d := d) (a := x0) (i := (0 : Int)) (v := (1 : Int))]
      refine ⟨m_inR (by omega) (by omega), fun c2 => ?_, fun c2 => ?_⟩
      · exact (show False by omega).elim
      · have y0 : st_269_8 x0 r8 x1 x2 x3 d = (0, mset d x0 0 1) := by simp only [st_269_8, if_neg (show ¬ x3 < d (x0 + 1) 7 from Int.not_lt.mpr c0), if_pos (show x1 = (-1) from c1), if_pos (show (0 : Int) < 1 from c2)]
        rw [y0] at h
        exact h (show ∀ b : Int, (b < x0 ∨ x0 + 1 < b) ∧ (b < x0 + 4 ∨ x0 + 4 < b) → (mset d x0 0 1) b = d b from fun b hb => mset_ne (by omega)) hS2
  · refine k_267 hS hx0 (by omega) hmp (by omega) hqq (by omega) (fun e1 F1 Q1 hS3 => ?_)
    refine t_269_24 ?_
    refine ⟨⟨m_inR (by omega) (by omega), m_inR (by omega) (by omega)⟩, fun c1 => ?_, fun c1 => ?_⟩
    · refine ⟨⟨m_inR (by omega) (by omega), m_inR (by omega) (by omega)⟩, fun c2 => ?_, fun c2 => ?_⟩
      · have q2 : (g_267 x0 x3 d) (x0 + 1) 0 = d (x0 + 1) 0 := Q1 0 (by omega)
        have q3 : (g_267 x0 x3 d) (x0 + 1) 9 = d (x0 + 1) 9 := Q1 9 (by omega)
        refine ih8 x1 x2 (x3 + 1) (.inl (0, v_267 x0 x3 d)) (g_267 x0 x3 d) hS3 (by omega) (by omega) (by omega) (mpP.of (mh_7 hS hx0 _ rfl) (show ∀ i : Int, i = 7 ∨ (12 ≤ i ∧ i < 420 ∧ (i - 12) % 68 = 2) → (g_267 x0 x3 d) (x0 + 1) i = d (x0 + 1) i from fun i hi => Q1 i (by omega)) hmp) (by omega) (qqP.of (show ∀ i : Int, 12 ≤ i ∧ i < 420 ∧ (i - 12) % 68 = 5 → (g_267 x0 x3 d) (x0 + 1) i = d (x0 + 1) i from fun i hi => Q1 i (by omega)) hqq) (by omega) (by omega) (by omega) ?_
        intro F hS_
        have y0 : st_269_8 x0 r8 x1 x2 x3 d = r8 x1 x2 (x3 + 1) (g_267 x0 x3 d) := by simp only [st_269_8, if_pos (show x3 < d (x0 + 1) 7 from c0), if_neg (show ¬ v_267 x0 x3 d < x2 from Int.not_lt.mpr c1), if_neg (show ¬ v_267 x0 x3 d < x2 from Int.not_lt.mpr c2)]
        rw [y0] at h
        exact h (fun b hb => (F b hb).trans ((show ∀ b : Int, (b < x0 ∨ x0 + 1 < b) ∧ (b < x0 + 4 ∨ x0 + 4 < b) → (g_267 x0 x3 d) b = d b from fun b hb => F1 b (by omega)) b hb)) hS_
      · exact (show False by omega).elim
    · refine ⟨⟨m_inR (by omega) (by omega), m_inR (by omega) (by omega)⟩, fun c2 => ?_, fun c2 => ?_⟩
      · exact (show False by omega).elim
      · have q4 : (g_267 x0 x3 d) (x0 + 1) 0 = d (x0 + 1) 0 := Q1 0 (by omega)
        have q5 : (g_267 x0 x3 d) (x0 + 1) 9 = d (x0 + 1) 9 := Q1 9 (by omega)
        refine ih8 x3 (v_267 x0 x3 d) (x3 + 1) (.inl (0, v_267 x0 x3 d)) (g_267 x0 x3 d) hS3 (by omega) (by omega) (by omega) (mpP.of (mh_7 hS hx0 _ rfl) (show ∀ i : Int, i = 7 ∨ (12 ≤ i ∧ i < 420 ∧ (i - 12) % 68 = 2) → (g_267 x0 x3 d) (x0 + 1) i = d (x0 + 1) i from fun i hi => Q1 i (by omega)) hmp) (by omega) (qqP.of (show ∀ i : Int, 12 ≤ i ∧ i < 420 ∧ (i - 12) % 68 = 5 → (g_267 x0 x3 d) (x0 + 1) i = d (x0 + 1) i from fun i hi => Q1 i (by omega)) hqq) (by omega) (by omega) (by omega) ?_
        intro F hS_
        have y0 : st_269_8 x0 r8 x1 x2 x3 d = r8 x3 (v_267 x0 x3 d) (x3 + 1) (g_267 x0 x3 d) := by simp only [st_269_8, if_pos (show x3 < d (x0 + 1) 7 from c0), if_pos (show v_267 x0 x3 d < x2 from c1), if_pos (show v_267 x0 x3 d < x2 from c2)]
        rw [y0] at h
        exact h (fun b hb => (F b hb).trans ((show ∀ b : Int, (b < x0 ∨ x0 + 1 < b) ∧ (b < x0 + 4 ∨ x0 + 4 < b) → (g_267 x0 x3 d) b = d b from fun b hb => F1 b (by omega)) b hb)) hS_
theorem l_269_8 {E : mO × tW} {K : tK} {x0 : Int} (hx0 : mdB x0) : ∀ (n : Nat) (x1 x2 x3 : Int) (v4 : tV) (d : mD), Safe d → (0 ≤ x3 ∧ x3 ≤ 6) → (-1 ≤ x1 ∧ x1 ≤ 5) → (0 ≤ x2 ∧ x2 ≤ 201) → (mpP (d (x0 + 1))) → (d (x0 + 1) 0 ≤ 999) → (qqP (d (x0 + 1))) → (d (x0 + 1) 9 ≤ 60) → 6 - x3 ≤ (n : Int) → ((∀ b : Int, (b < x0 ∨ x0 + 1 < b) ∧ (b < x0 + 4 ∨ x0 + 4 < b) → (lp_269_8 x0 n x1 x2 x3 d).2 b = d b) → Safe (lp_269_8 x0 n x1 x2 x3 d).2 → K (.inl (some (0, (lp_269_8 x0 n x1 x2 x3 d).1))) (lp_269_8 x0 n x1 x2 x3 d).2) → tRun E 269 (8, [.inr (11, x0), .inl (0, x1), .inl (0, x2), .inl (0, x3), v4], [], 0, 0, d) K := by
  intro n
  induction n with
  | zero =>
    intro x1 x2 x3 v4 d hS i0 i1 i2 hmp i4 hqq i6 hm  h
    exact ls_269_8 hx0 0 _ (fun _ _ _ _ _ _ _ _ _ _ _ _ _ m0 m1 _ => absurd m1 (by omega)) x1 x2 x3 v4 d hS i0 i1 i2 hmp i4 hqq i6 hm  h
  | succ n ih =>
    intro x1 x2 x3 v4 d hS i0 i1 i2 hmp i4 hqq i6 hm  h
    exact ls_269_8 hx0 ((n + 1 : Nat) : Int) _ (fun x1 x2 x3 v4 d hS i0 i1 i2 hmp i4 hqq i6  m0 m1 h => ih x1 x2 x3 v4 d hS i0 i1 i2 hmp i4 hqq i6 (by omega)  h) x1 x2 x3 v4 d hS i0 i1 i2 hmp i4 hqq i6 hm  h
def f_269 (x0 : Int) (d : mD) : Int × mD := lp_269_8 x0 (6 - 0 : Int).toNat ((-1)) 201 0 d
def v_269 (x0 : Int) (d : mD) : Int := (f_269 x0 d).1
def g_269 (x0 : Int) (d : mD) : mD := (f_269 x0 d).2
theorem k_269 {E : mO × tW} {K : tK} {d : mD} {x0 : Int} (hS : Safe d) (hx0 : mdB x0) (hmp : mpP (d (x0 + 1))) (ht : d (x0 + 1) 0 ≤ 999) (hqq : qqP (d (x0 + 1))) (hn : d (x0 + 1) 9 ≤ 60) (h : (∀ b : Int, (b < x0 ∨ x0 + 1 < b) ∧ (b < x0 + 4 ∨ x0 + 4 < b) → (g_269 x0 d) b = d b) → Safe (g_269 x0 d) → K (.inl (some (0, (v_269 x0 d)))) (g_269 x0 d)) : tCall E 269 [.inr (11, x0)] d K := by
  simp only [v_269, g_269] at h
  refine t_269_0 ?_
  have w0 := mh_0 hS hx0 _ rfl
  have w7 := mh_7 hS hx0 _ rfl
  have w8 := mh_8 hS hx0 _ rfl
  have w9 := mh_9 hS hx0 _ rfl
  have w10 := mh_10 hS hx0 _ rfl
  have w11 := mh_11 hS hx0 _ rfl
  refine l_269_8 hx0 (6 - 0 : Int).toNat ((-1)) 201 0 tu d hS (by omega) (by omega) (by omega) hmp (by omega) hqq (by omega) (by omega) ?_
  intro F hS_
  have y0 : f_269 x0 d = lp_269_8 x0 (6 - 0 : Int).toNat ((-1)) 201 0 d := by simp only [f_269]
  rw [y0] at h
  exact h F hS_
def st_272_89 (x0 x1 x2 : Int) (r89 : Int → Int → Int → mD → Int × mD) (x3 x4 x5 : Int) (d : mD) : Int × mD := if x5 < d (x0 + 1) 9 then (if d (x0 + 4) ((452 + (24 * x5)) + 4) = 0 then (if d (x0 + 1) ((452 + (24 * x5)) + 4) = 1 then (if x4 < (d (x0 + 1) ((452 + (24 * x5)) + 3)) - (d (x0 + 1) ((452 + (24 * x5)) + 2)) then r89 x3 ((d (x0 + 1) ((452 + (24 * x5)) + 3)) - (d (x0 + 1) ((452 + (24 * x5)) + 2))) (x5 + 1) d else r89 x3 x4 (x5 + 1) d) else r89 x3 x4 (x5 + 1) d) else r89 x3 x4 (x5 + 1) d) else if (0 : Int) < v_271 x0 d then (0, g_256 x0 (mset d x0 0 3)) else (x4, g_256 x0 (mset d x0 0 0))
def lp_272_89 (x0 x1 x2 : Int) : Nat → Int → Int → Int → mD → Int × mD
  | 0 => st_272_89 x0 x1 x2 (fun _ _ _ d => (0, d))
  | n + 1 => st_272_89 x0 x1 x2 (lp_272_89 x0 x1 x2 n)
theorem ls_272_89 {E : mO × tW} {K : tK} {x0 x1 x2 : Int} (hx0 : mdB x0) (p1 : -2147483648 ≤ x1 ∧ x1 ≤ 2147483647) (p2 : -2147483648 ≤ x2 ∧ x2 ≤ 2147483647) (N89 : Int) (r89 : Int → Int → Int → mD → Int × mD) (ih89 : ∀ (x3 x4 x5 : Int) (v6 v7 : tV) (d : mD), Safe d → (0 ≤ x5 ∧ x5 ≤ 61) → (0 ≤ x4 ∧ x4 ≤ 1300) → 0 ≤ 61 - x5 → 61 - x5 < N89 → ((∀ b : Int, (b < x0 ∨ x0 + 1 < b) ∧ (b < x0 + 4 ∨ x0 + 4 < b) → (r89 x3 x4 x5 d).2 b = d b) → Safe (r89 x3 x4 x5 d).2 → K (.inl (some (0, (r89 x3 x4 x5 d).1))) (r89 x3 x4 x5 d).2) → tRun E 272 (89, [.inr (11, x0), .inl (0, x1), .inl (0, x2), .inl (0, x3), .inl (0, x4), .inl (0, x5), v6, v7], [], 0, 0, d) K) (x3 x4 x5 : Int) (v6 v7 : tV) (d : mD) (hS : Safe d) (i0 : 0 ≤ x5 ∧ x5 ≤ 61) (i1 : 0 ≤ x4 ∧ x4 ≤ 1300) (hm : 61 - x5 ≤ N89) (h : (∀ b : Int, (b < x0 ∨ x0 + 1 < b) ∧ (b < x0 + 4 ∨ x0 + 4 < b) → (st_272_89 x0 x1 x2 r89 x3 x4 x5 d).2 b = d b) → Safe (st_272_89 x0 x1 x2 r89 x3 x4 x5 d).2 → K (.inl (some (0, (st_272_89 x0 x1 x2 r89 x3 x4 x5 d).1))) (st_272_89 x0 x1 x2 r89 x3 x4 x5 d).2) : tRun E 272 (89, [.inr (11, x0), .inl (0, x1), .inl (0, x2), .inl (0, x3), .inl (0, x4), .inl (0, x5), v6, v7], [], 0, 0, d) K := by
  refine t_272_89 ?_
  have w9 := as4 hS hx0 x5
  have q1 := mh_9 hS hx0 _ rfl
  refine ⟨by omega, ⟨m_inR (by omega) (by omega), m_inR (by omega) (by omega)⟩, fun c0 => ?_, fun c0 => ?_⟩
  · refine k_271 hS hx0 (fun e1 => ?_)
    refine t_272_206 ?_
    refine ⟨m_inR (by omega) (by omega), fun c1 => ?_, fun c1 => ?_⟩
    · have hS1 : Safe (mset d x0 0 0) := s_11_f0 hS hx0 (by omega)
      refine k_256 hS1 hx0 (fun F1 K1_0 hS2 => ?_)
      refine t_272_221 ?_
      rw [F1 x0 (by omega)]
      rw [mset_eq (d := d) (a := x0) (i := (0 : Int)) (v := (0 : Int))]
      refine ⟨m_inR (by omega) (by omega), fun c2 => ?_, fun c2 => ?_⟩
      · have y0 : st_272_89 x0 x1 x2 r89 x3 x4 x5 d = (x4, g_256 x0 (mset d x0 0 0)) := by simp only [st_272_89, if_neg (show ¬ x5 < d (x0 + 1) 9 from Int.not_lt.mpr c0), if_neg (show ¬ (0 : Int) < v_271 x0 d from Int.not_lt.mpr c1), if_neg (show ¬ (0 : Int) < 0 from Int.not_lt.mpr c2)]
        rw [y0] at h
        exact h (show ∀ b : Int, (b < x0 ∨ x0 + 1 < b) ∧ (b < x0 + 4 ∨ x0 + 4 < b) → (g_256 x0 (mset d x0 0 0)) b = d b from fun b hb => (F1 b (by omega)).trans (mset_ne (by omega))) hS2
      · exact (show False by omega).elim
    · have hS3 : Safe (mset d x0 0 3) := s_11_f0 hS hx0 (by omega)
      refine k_256 hS3 hx0 (fun F2 K2_0 hS4 => ?_)
      refine t_272_221 ?_
      rw [F2 x0 (by omega)]
      rw [mset_eq (d := d) (a := x0) (i := (0 : Int)) (v := (3 : Int))]
      refine ⟨m_inR (by omega) (by omega), fun c2 => ?_, fun c2 => ?_⟩
      · exact (show False by omega).elim
      · have y0 : st_272_89 x0 x1 x2 r89 x3 x4 x5 d = (0, g_256 x0 (mset d x0 0 3)) := by simp only [st_272_89, if_neg (show ¬ x5 < d (x0 + 1) 9 from Int.not_lt.mpr c0), if_pos (show (0 : Int) < v_271 x0 d from c1), if_pos (show (0 : Int) < 3 from c2)]
        rw [y0] at h
        exact h (show ∀ b : Int, (b < x0 ∨ x0 + 1 < b) ∧ (b < x0 + 4 ∨ x0 + 4 < b) → (g_256 x0 (mset d x0 0 3)) b = d b from fun b hb => (F2 b (by omega)).trans (mset_ne (by omega))) hS4
  · refine k_179 hS ?_
    refine t_272_106 ?_
    refine ⟨by omega, m_inR (by omega) (by omega), fun c1 => ?_, fun c1 => ?_⟩
    · refine ⟨m_inR (by omega) (by omega), fun c2 => ?_, fun c2 => ?_⟩
      · refine ih89 x3 x4 (x5 + 1) (.inl (0, 452 + (24 * x5))) (.inl (0, 0)) d hS (by omega) (by omega) (by omega) (by omega) ?_
        intro F hS_
        have y0 : st_272_89 x0 x1 x2 r89 x3 x4 x5 d = r89 x3 x4 (x5 + 1) d := by simp only [st_272_89, if_pos (show x5 < d (x0 + 1) 9 from c0), if_neg (show ¬ d (x0 + 4) ((452 + (24 * x5)) + 4) = 0 from c1), if_pos (show (0 : Int) = 0 from c2)]
        rw [y0] at h
        exact h F hS_
      · exact (show False by omega).elim
    · have q2 := mt_4 hS hx0 x5 ((452 + (24 * x5)) + 4) (by omega) (by omega)
      refine ⟨by omega, ⟨m_inR (by omega) (by omega), m_inR (by omega) (by omega)⟩, fun c2 => ?_, fun c2 => ?_⟩
      · refine ⟨m_inR (by omega) (by omega), fun c3 => ?_, fun c3 => ?_⟩
        · refine ih89 x3 x4 (x5 + 1) (.inl (0, 452 + (24 * x5))) (.inl (0, 0)) d hS (by omega) (by omega) (by omega) (by omega) ?_
          intro F hS_
          have y0 : st_272_89 x0 x1 x2 r89 x3 x4 x5 d = r89 x3 x4 (x5 + 1) d := by simp only [st_272_89, if_pos (show x5 < d (x0 + 1) 9 from c0), if_pos (show d (x0 + 4) ((452 + (24 * x5)) + 4) = 0 from c1), if_neg (show ¬ d (x0 + 1) ((452 + (24 * x5)) + 4) = 1 from c2), if_pos (show (0 : Int) = 0 from c3)]
          rw [y0] at h
          exact h F hS_
        · exact (show False by omega).elim
      · refine ⟨m_inR (by omega) (by omega), fun c3 => ?_, fun c3 => ?_⟩
        · exact (show False by omega).elim
        · have q3 := mt_3 hS hx0 x5 ((452 + (24 * x5)) + 3) (by omega) (by omega)
          have q4 := mt_2 hS hx0 x5 ((452 + (24 * x5)) + 2) (by omega) (by omega)
          refine ⟨by omega, by omega, ⟨m_inR (by omega) (by omega), m_inR (by omega) (by omega)⟩, fun c4 => ?_, fun c4 => ?_⟩
          · refine ih89 x3 x4 (x5 + 1) (.inl (0, 452 + (24 * x5))) (.inl (0, 1)) d hS (by omega) (by omega) (by omega) (by omega) ?_
            intro F hS_
            have y0 : st_272_89 x0 x1 x2 r89 x3 x4 x5 d = r89 x3 x4 (x5 + 1) d := by simp only [st_272_89, if_pos (show x5 < d (x0 + 1) 9 from c0), if_pos (show d (x0 + 4) ((452 + (24 * x5)) + 4) = 0 from c1), if_pos (show d (x0 + 1) ((452 + (24 * x5)) + 4) = 1 from c2), if_neg (show ¬ (1 : Int) = 0 from c3), if_neg (show ¬ x4 < (d (x0 + 1) ((452 + (24 * x5)) + 3)) - (d (x0 + 1) ((452 + (24 * x5)) + 2)) from Int.not_lt.mpr c4)]
            rw [y0] at h
            exact h F hS_
          · refine ⟨by omega, by omega, ?_⟩
            refine ih89 x3 ((d (x0 + 1) ((452 + (24 * x5)) + 3)) - (d (x0 + 1) ((452 + (24 * x5)) + 2))) (x5 + 1) (.inl (0, 452 + (24 * x5))) (.inl (0, 1)) d hS (by omega) (by omega) (by omega) (by omega) ?_
            intro F hS_
            have y0 : st_272_89 x0 x1 x2 r89 x3 x4 x5 d = r89 x3 ((d (x0 + 1) ((452 + (24 * x5)) + 3)) - (d (x0 + 1) ((452 + (24 * x5)) + 2))) (x5 + 1) d := by simp only [st_272_89, if_pos (show x5 < d (x0 + 1) 9 from c0), if_pos (show d (x0 + 4) ((452 + (24 * x5)) + 4) = 0 from c1), if_pos (show d (x0 + 1) ((452 + (24 * x5)) + 4) = 1 from c2), if_neg (show ¬ (1 : Int) = 0 from c3), if_pos (show x4 < (d (x0 + 1) ((452 + (24 * x5)) + 3)) - (d (x0 + 1) ((452 + (24 * x5)) + 2)) from c4)]
            rw [y0] at h
            exact h F hS_
theorem l_272_89 {E : mO × tW} {K : tK} {x0 x1 x2 : Int} (hx0 : mdB x0) (p1 : -2147483648 ≤ x1 ∧ x1 ≤ 2147483647) (p2 : -2147483648 ≤ x2 ∧ x2 ≤ 2147483647) : ∀ (n : Nat) (x3 x4 x5 : Int) (v6 v7 : tV) (d : mD), Safe d → (0 ≤ x5 ∧ x5 ≤ 61) → (0 ≤ x4 ∧ x4 ≤ 1300) → 61 - x5 ≤ (n : Int) → ((∀ b : Int, (b < x0 ∨ x0 + 1 < b) ∧ (b < x0 + 4 ∨ x0 + 4 < b) → (lp_272_89 x0 x1 x2 n x3 x4 x5 d).2 b = d b) → Safe (lp_272_89 x0 x1 x2 n x3 x4 x5 d).2 → K (.inl (some (0, (lp_272_89 x0 x1 x2 n x3 x4 x5 d).1))) (lp_272_89 x0 x1 x2 n x3 x4 x5 d).2) → tRun E 272 (89, [.inr (11, x0), .inl (0, x1), .inl (0, x2), .inl (0, x3), .inl (0, x4), .inl (0, x5), v6, v7], [], 0, 0, d) K := by
  intro n
  induction n with
  | zero =>
    intro x3 x4 x5 v6 v7 d hS i0 i1 hm  h
    exact ls_272_89 hx0 p1 p2 0 _ (fun _ _ _ _ _ _ _ _ _ m0 m1 _ => absurd m1 (by omega)) x3 x4 x5 v6 v7 d hS i0 i1 hm  h
  | succ n ih =>
    intro x3 x4 x5 v6 v7 d hS i0 i1 hm  h
    exact ls_272_89 hx0 p1 p2 ((n + 1 : Nat) : Int) _ (fun x3 x4 x5 v6 v7 d hS i0 i1  m0 m1 h => ih x3 x4 x5 v6 v7 d hS i0 i1 (by omega)  h) x3 x4 x5 v6 v7 d hS i0 i1 hm  h
def st_272_59 (x0 x1 x2 : Int) (r59 : Int → mD → Int × mD) (x3 : Int) (d : mD) : Int × mD := if x3 < 200 then (if (0 : Int) < v_271 x0 d then r59 (x3 + 1) (g_223 x0 d) else lp_272_89 x0 x1 x2 (61 - 0 : Int).toNat x3 0 0 d) else lp_272_89 x0 x1 x2 (61 - 0 : Int).toNat x3 0 0 d
def lp_272_59 (x0 x1 x2 : Int) : Nat → Int → mD → Int × mD
  | 0 => st_272_59 x0 x1 x2 (fun _ d => (0, d))
  | n + 1 => st_272_59 x0 x1 x2 (lp_272_59 x0 x1 x2 n)
theorem ls_272_59 {E : mO × tW} {K : tK} {x0 x1 x2 : Int} (hx0 : mdB x0) (p1 : -2147483648 ≤ x1 ∧ x1 ≤ 2147483647) (p2 : -2147483648 ≤ x2 ∧ x2 ≤ 2147483647) (N59 : Int) (r59 : Int → mD → Int × mD) (ih59 : ∀ (x3 : Int) (d : mD), Safe d → (0 ≤ x3 ∧ x3 ≤ 200) → (d (x0 + 1) 0 + (200 - x3) ≤ 1200) → (mpP (d (x0 + 1))) → 0 ≤ 200 - x3 → 200 - x3 < N59 → ((∀ b : Int, (b < x0 ∨ x0 + 1 < b) ∧ (b < x0 + 4 ∨ x0 + 4 < b) → (r59 x3 d).2 b = d b) → Safe (r59 x3 d).2 → K (.inl (some (0, (r59 x3 d).1))) (r59 x3 d).2) → tRun E 272 (59, [.inr (11, x0), .inl (0, x1), .inl (0, x2), .inl (0, x3), tu, tu, tu, tu], [], 0, 0, d) K) (x3 : Int) (d : mD) (hS : Safe d) (i0 : 0 ≤ x3 ∧ x3 ≤ 200) (i1 : d (x0 + 1) 0 + (200 - x3) ≤ 1200) (hmp : mpP (d (x0 + 1))) (hm : 200 - x3 ≤ N59) (h : (∀ b : Int, (b < x0 ∨ x0 + 1 < b) ∧ (b < x0 + 4 ∨ x0 + 4 < b) → (st_272_59 x0 x1 x2 r59 x3 d).2 b = d b) → Safe (st_272_59 x0 x1 x2 r59 x3 d).2 → K (.inl (some (0, (st_272_59 x0 x1 x2 r59 x3 d).1))) (st_272_59 x0 x1 x2 r59 x3 d).2) : tRun E 272 (59, [.inr (11, x0), .inl (0, x1), .inl (0, x2), .inl (0, x3), tu, tu, tu, tu], [], 0, 0, d) K := by
  refine t_272_59 ?_
  refine ⟨⟨m_inR (by omega) (by omega), m_inR (by omega) (by omega)⟩, fun c0 => ?_, fun c0 => ?_⟩
  · refine l_272_89 hx0 p1 p2 (61 - 0 : Int).toNat x3 0 0 tu tu d hS (by omega) (by omega) (by omega) ?_
    intro F hS_
    have y0 : st_272_59 x0 x1 x2 r59 x3 d = lp_272_89 x0 x1 x2 (61 - 0 : Int).toNat x3 0 0 d := by simp only [st_272_59, if_neg (show ¬ x3 < 200 from Int.not_lt.mpr c0)]
    rw [y0] at h
    exact h F hS_
  · refine k_271 hS hx0 (fun e2 => ?_)
    refine t_272_70 ?_
    refine ⟨m_inR (by omega) (by omega), fun c1 => ?_, fun c1 => ?_⟩
    · refine l_272_89 hx0 p1 p2 (61 - 0 : Int).toNat x3 0 0 tu tu d hS (by omega) (by omega) (by omega) ?_
      intro F hS_
      have y0 : st_272_59 x0 x1 x2 r59 x3 d = lp_272_89 x0 x1 x2 (61 - 0 : Int).toNat x3 0 0 d := by simp only [st_272_59, if_pos (show x3 < 200 from c0), if_neg (show ¬ (0 : Int) < v_271 x0 d from Int.not_lt.mpr c1)]
      rw [y0] at h
      exact h F hS_
    · refine k_223 hS hx0 hmp (by omega) (fun F3 Q3 n3_0 hS5 => ?_)
      refine t_272_77 ?_
      refine ih59 (x3 + 1)  (g_223 x0 d) hS5 (by omega) (by omega) (mpP.of (mh_7 hS hx0 _ rfl) (show ∀ i : Int, i = 7 ∨ (12 ≤ i ∧ i < 420 ∧ (i - 12) % 68 = 2) → (g_223 x0 d) (x0 + 1) i = d (x0 + 1) i from fun i hi => Q3 i (by omega)) hmp) (by omega) (by omega) ?_
      intro F hS_
      have y0 : st_272_59 x0 x1 x2 r59 x3 d = r59 (x3 + 1) (g_223 x0 d) := by simp only [st_272_59, if_pos (show x3 < 200 from c0), if_pos (show (0 : Int) < v_271 x0 d from c1)]
      rw [y0] at h
      exact h (fun b hb => (F b hb).trans ((show ∀ b : Int, (b < x0 ∨ x0 + 1 < b) ∧ (b < x0 + 4 ∨ x0 + 4 < b) → (g_223 x0 d) b = d b from fun b hb => F3 b (by omega)) b hb)) hS_
theorem l_272_59 {E : mO × tW} {K : tK} {x0 x1 x2 : Int} (hx0 : mdB x0) (p1 : -2147483648 ≤ x1 ∧ x1 ≤ 2147483647) (p2 : -2147483648 ≤ x2 ∧ x2 ≤ 2147483647) : ∀ (n : Nat) (x3 : Int) (d : mD), Safe d → (0 ≤ x3 ∧ x3 ≤ 200) → (d (x0 + 1) 0 + (200 - x3) ≤ 1200) → (mpP (d (x0 + 1))) → 200 - x3 ≤ (n : Int) → ((∀ b : Int, (b < x0 ∨ x0 + 1 < b) ∧ (b < x0 + 4 ∨ x0 + 4 < b) → (lp_272_59 x0 x1 x2 n x3 d).2 b = d b) → Safe (lp_272_59 x0 x1 x2 n x3 d).2 → K (.inl (some (0, (lp_272_59 x0 x1 x2 n x3 d).1))) (lp_272_59 x0 x1 x2 n x3 d).2) → tRun E 272 (59, [.inr (11, x0), .inl (0, x1), .inl (0, x2), .inl (0, x3), tu, tu, tu, tu], [], 0, 0, d) K := by
  intro n
  induction n with
  | zero =>
    intro x3  d hS i0 i1 hmp hm  h
    exact ls_272_59 hx0 p1 p2 0 _ (fun _  _ _ _ _ _ m0 m1 _ => absurd m1 (by omega)) x3  d hS i0 i1 hmp hm  h
  | succ n ih =>
    intro x3  d hS i0 i1 hmp hm  h
    exact ls_272_59 hx0 p1 p2 ((n + 1 : Nat) : Int) _ (fun x3  d hS i0 i1 hmp  m0 m1 h => ih x3  d hS i0 i1 hmp (by omega)  h) x3  d hS i0 i1 hmp hm  h
def f_272 (x0 x1 x2 : Int) (d : mD) : Int × mD := if v_236 x0 x1 d = 0 then (0, mset d x0 0 1) else if v_236 x0 x2 d = 0 then (0, mset d x0 0 1) else if v_270 x0 x1 x2 d = 0 then (0, mset d x0 0 2) else lp_272_59 x0 x1 x2 (200 - 0 : Int).toNat 0 (g_229 x0 x1 x2 (g_255 x0 (mset d x0 0 0)))
def v_272 (x0 x1 x2 : Int) (d : mD) : Int := (f_272 x0 x1 x2 d).1
def g_272 (x0 x1 x2 : Int) (d : mD) : mD := (f_272 x0 x1 x2 d).2
theorem k_272 {E : mO × tW} {K : tK} {d : mD} {x0 x1 x2 : Int} (hS : Safe d) (hx0 : mdB x0) (p1 : -2147483648 ≤ x1 ∧ x1 ≤ 2147483647) (p2 : -2147483648 ≤ x2 ∧ x2 ≤ 2147483647) (hmp : mpP (d (x0 + 1))) (ht : d (x0 + 1) 0 ≤ 999) (hqq : qqP (d (x0 + 1))) (h : (∀ b : Int, (b < x0 ∨ x0 + 1 < b) ∧ (b < x0 + 4 ∨ x0 + 4 < b) → (g_272 x0 x1 x2 d) b = d b) → Safe (g_272 x0 x1 x2 d) → K (.inl (some (0, (v_272 x0 x1 x2 d)))) (g_272 x0 x1 x2 d)) : tCall E 272 [.inr (11, x0), .inl (0, x1), .inl (0, x2)] d K := by
  simp only [v_272, g_272] at h
  refine t_272_0 ?_
  have w0 := mh_0 hS hx0 _ rfl
  have w7 := mh_7 hS hx0 _ rfl
  have w8 := mh_8 hS hx0 _ rfl
  have w9 := mh_9 hS hx0 _ rfl
  have w10 := mh_10 hS hx0 _ rfl
  have w11 := mh_11 hS hx0 _ rfl
  refine k_236 hS hx0 (m_inR (by omega) (by omega)) (fun e3 => ?_)
  refine t_272_6 ?_
  refine ⟨m_inR (by omega) (by omega), fun c0 => ?_, fun c0 => ?_⟩
  · have hS6 : Safe (mset d x0 0 1) := s_11_f0 hS hx0 (by omega)
    rw [mset_eq (d := d) (a := x0) (i := (0 : Int)) (v := (1 : Int))]
    refine ⟨m_inR (by omega) (by omega), fun c1 => ?_, fun c1 => ?_⟩
    · exact (show False by omega).elim
    · have y0 : f_272 x0 x1 x2 d = (0, mset d x0 0 1) := by simp only [f_272, if_pos (show v_236 x0 x1 d = 0 from c0), if_pos (show (0 : Int) < 1 from c1)]
      rw [y0] at h
      exact h (show ∀ b : Int, (b < x0 ∨ x0 + 1 < b) ∧ (b < x0 + 4 ∨ x0 + 4 < b) → (mset d x0 0 1) b = d b from fun b hb => mset_ne (by omega)) hS6
  · refine k_236 hS hx0 (m_inR (by omega) (by omega)) (fun e4 => ?_)
    refine t_272_14 ?_
    refine ⟨m_inR (by omega) (by omega), fun c1 => ?_, fun c1 => ?_⟩
    · refine k_270 hS hx0 (by omega) (by omega) (fun e5 => ?_)
      refine t_272_27 ?_
      refine ⟨m_inR (by omega) (by omega), fun c2 => ?_, fun c2 => ?_⟩
      · have hS7 : Safe (mset d x0 0 2) := s_11_f0 hS hx0 (by omega)
        rw [mset_eq (d := d) (a := x0) (i := (0 : Int)) (v := (2 : Int))]
        refine ⟨m_inR (by omega) (by omega), fun c3 => ?_, fun c3 => ?_⟩
        · exact (show False by omega).elim
        · have y0 : f_272 x0 x1 x2 d = (0, mset d x0 0 2) := by simp only [f_272, if_neg (show ¬ v_236 x0 x1 d = 0 from c0), if_neg (show ¬ v_236 x0 x2 d = 0 from c1), if_pos (show v_270 x0 x1 x2 d = 0 from c2), if_pos (show (0 : Int) < 2 from c3)]
          rw [y0] at h
          exact h (show ∀ b : Int, (b < x0 ∨ x0 + 1 < b) ∧ (b < x0 + 4 ∨ x0 + 4 < b) → (mset d x0 0 2) b = d b from fun b hb => mset_ne (by omega)) hS7
      · have hS8 : Safe (mset d x0 0 0) := s_11_f0 hS hx0 (by omega)
        rw [mset_eq (d := d) (a := x0) (i := (0 : Int)) (v := (0 : Int))]
        refine ⟨m_inR (by omega) (by omega), fun c3 => ?_, fun c3 => ?_⟩
        · refine k_255 hS8 hx0 (fun F4 K4_0 hS9 => ?_)
          refine t_272_51 ?_
          have q5 : (g_255 x0 (mset d x0 0 0)) (x0 + 1) (12 + 68 * x1 + 5) = d (x0 + 1) (12 + 68 * x1 + 5) := (congrFun (F4 (x0 + 1) (by omega)) (12 + 68 * x1 + 5)).trans (congrFun (mset_ne (by omega)) (12 + 68 * x1 + 5))
          have q6 : (g_255 x0 (mset d x0 0 0)) (x0 + 1) (12 + 68 * x2 + 5) = d (x0 + 1) (12 + 68 * x2 + 5) := (congrFun (F4 (x0 + 1) (by omega)) (12 + 68 * x2 + 5)).trans (congrFun (mset_ne (by omega)) (12 + 68 * x2 + 5))
          refine k_229 hS9 hx0 (by omega) (by omega) (by have u1 := hqq x1 (by omega) (by omega); have u2 := hqq x2 (by omega) (by omega); omega) (by omega) (fun F5 Q5 hS10 => ?_)
          refine t_272_57 ?_
          have q7 : (g_229 x0 x1 x2 (g_255 x0 (mset d x0 0 0))) (x0 + 1) 0 = d (x0 + 1) 0 := ((Q5 0 (by omega)).trans (congrFun (F4 (x0 + 1) (by omega)) 0)).trans (congrFun (mset_ne (by omega)) 0)
          refine l_272_59 hx0 p1 p2 (200 - 0 : Int).toNat 0  (g_229 x0 x1 x2 (g_255 x0 (mset d x0 0 0))) hS10 (by omega) (by omega) (mpP.of (mh_7 hS hx0 _ rfl) (show ∀ i : Int, i = 7 ∨ (12 ≤ i ∧ i < 420 ∧ (i - 12) % 68 = 2) → (g_229 x0 x1 x2 (g_255 x0 (mset d x0 0 0))) (x0 + 1) i = d (x0 + 1) i from fun i hi => ((Q5 i (by omega)).trans (congrFun (F4 (x0 + 1) (by omega)) i)).trans (congrFun (mset_ne (by omega)) i)) hmp) (by omega) ?_
          intro F hS_
          have y0 : f_272 x0 x1 x2 d = lp_272_59 x0 x1 x2 (200 - 0 : Int).toNat 0 (g_229 x0 x1 x2 (g_255 x0 (mset d x0 0 0))) := by simp only [f_272, if_neg (show ¬ v_236 x0 x1 d = 0 from c0), if_neg (show ¬ v_236 x0 x2 d = 0 from c1), if_neg (show ¬ v_270 x0 x1 x2 d = 0 from c2), if_neg (show ¬ (0 : Int) < 0 from Int.not_lt.mpr c3)]
          rw [y0] at h
          exact h (fun b hb => (F b hb).trans ((show ∀ b : Int, (b < x0 ∨ x0 + 1 < b) ∧ (b < x0 + 4 ∨ x0 + 4 < b) → (g_229 x0 x1 x2 (g_255 x0 (mset d x0 0 0))) b = d b from fun b hb => (F5 b (by omega)).trans ((F4 b (by omega)).trans (mset_ne (by omega)))) b hb)) hS_
        · exact (show False by omega).elim
    · have hS11 : Safe (mset d x0 0 1) := s_11_f0 hS hx0 (by omega)
      rw [mset_eq (d := d) (a := x0) (i := (0 : Int)) (v := (1 : Int))]
      refine ⟨m_inR (by omega) (by omega), fun c2 => ?_, fun c2 => ?_⟩
      · exact (show False by omega).elim
      · have y0 : f_272 x0 x1 x2 d = (0, mset d x0 0 1) := by simp only [f_272, if_neg (show ¬ v_236 x0 x1 d = 0 from c0), if_pos (show v_236 x0 x2 d = 0 from c1), if_pos (show (0 : Int) < 1 from c2)]
        rw [y0] at h
        exact h (show ∀ b : Int, (b < x0 ∨ x0 + 1 < b) ∧ (b < x0 + 4 ∨ x0 + 4 < b) → (mset d x0 0 1) b = d b from fun b hb => mset_ne (by omega)) hS11
