/-! ===== contracts of the reference's methods: printed by a program of mine ===== -/
def qqP (f : Int → Int) : Prop := ∀ o, 0 ≤ o → o ≤ 5 → f (12 + 68 * o + 5) ≤ 30
theorem qqP.of {f g : Int → Int} (Q : ∀ i : Int, 12 ≤ i ∧ i < 420 ∧ (i - 12) % 68 = 5 → f i = g i) (h : qqP g) : qqP f := by
  intro o h0 h1
  rw [Q _ (by omega)]
  exact h o h0 h1
def st_229_237 (x0 x1 x2 : Int) (r199 : Int → Int → Int → mD → mD) (r237 : Int → Int → Int → Int → Int → Int → mD → mD) (x3 x4 x5 x6 x7 x8 : Int) (d : mD) : mD := if x8 < x5 then (if d (x0 + 1) ((452 + (24 * (d (x0 + 1) ((x4 + 7) + x8)))) + 0) = d (x0 + 1) (x6 + 0) then r237 x3 x4 x5 x6 (mior x7 1) (x8 + 1) d else r237 x3 x4 x5 x6 (mior x7 0) (x8 + 1) d) else if x7 = 0 then r199 x3 x4 (x5 + 1) d else r199 x3 x4 x5 (g_220 x0 x2 x5 (mset (mset d (x0 + 1) (x6 + 4) 2) (x0 + 1) (x6 + 3) (d (x0 + 1) 0)))
def lp_229_237 (x0 x1 x2 : Int) (r199 : Int → Int → Int → mD → mD) : Nat → Int → Int → Int → Int → Int → Int → mD → mD
  | 0 => st_229_237 x0 x1 x2 r199 (fun _ _ _ _ _ _ d => d)
  | n + 1 => st_229_237 x0 x1 x2 r199 (lp_229_237 x0 x1 x2 r199 n)
theorem ls_229_237 {E : mO × tW} {K : tK} {x0 x1 x2 : Int} (hx0 : mdB x0) (p1 : 0 ≤ x1 ∧ x1 ≤ 5) (p2 : 0 ≤ x2 ∧ x2 ≤ 5) (hn : ¬ x1 = x2) (N199 : Int) (r199 : Int → Int → Int → mD → mD) (ih199 : ∀ (x3 x4 x5 : Int) (v6 v7 v8 : tV) (d : mD), Safe d → (x3 = 12 + 68 * x1) → (x4 = 12 + 68 * x2) → (0 ≤ x5 ∧ x5 ≤ d (x0 + 1) (12 + 68 * x2 + 5)) → 0 ≤ d (x0 + 1) (12 + 68 * x2 + 5) - x5 → d (x0 + 1) (12 + 68 * x2 + 5) - x5 < N199 → ((∀ b : Int, (b < x0 + 1 ∨ x0 + 1 < b) → (r199 x3 x4 x5 d) b = d b) → (∀ i : Int, i = 7 ∨ (12 ≤ i ∧ i < 420 ∧ (i - 12) % 68 = 2) ∨ i = 0 ∨ i = 8 ∨ i = 9 → (r199 x3 x4 x5 d) (x0 + 1) i = d (x0 + 1) i) → Safe (r199 x3 x4 x5 d) → K (.inl none) (r199 x3 x4 x5 d)) → tRun E 229 (199, [.inr (11, x0), .inl (0, x1), .inl (0, x2), .inl (0, x3), .inl (0, x4), .inl (0, x5), v6, v7, v8], [], 0, 0, d) K) (N237 : Int) (r237 : Int → Int → Int → Int → Int → Int → mD → mD) (ih237 : ∀ (x3 x4 x5 x6 x7 x8 : Int) (d : mD), Safe d → (x3 = 12 + 68 * x1) → (x4 = 12 + 68 * x2) → (0 ≤ x5 ∧ x5 < d (x0 + 1) (12 + 68 * x2 + 5)) → (x6 = 452 + 24 * d (x0 + 1) (x4 + 7 + x5)) → (0 ≤ x7 ∧ x7 ≤ 1) → (0 ≤ x8 ∧ x8 ≤ x5) → (d (x0 + 1) (12 + 68 * x2 + 5) ≤ 61) → d (x0 + 1) (12 + 68 * x2 + 5) - x5 ≤ N199 → 0 ≤ x5 - x8 → x5 - x8 < N237 → ((∀ b : Int, (b < x0 + 1 ∨ x0 + 1 < b) → (r237 x3 x4 x5 x6 x7 x8 d) b = d b) → (∀ i : Int, i = 7 ∨ (12 ≤ i ∧ i < 420 ∧ (i - 12) % 68 = 2) ∨ i = 0 ∨ i = 8 ∨ i = 9 → (r237 x3 x4 x5 x6 x7 x8 d) (x0 + 1) i = d (x0 + 1) i) → Safe (r237 x3 x4 x5 x6 x7 x8 d) → K (.inl none) (r237 x3 x4 x5 x6 x7 x8 d)) → tRun E 229 (237, [.inr (11, x0), .inl (0, x1), .inl (0, x2), .inl (0, x3), .inl (0, x4), .inl (0, x5), .inl (0, x6), .inl (0, x7), .inl (0, x8)], [], 0, 0, d) K) (x3 x4 x5 x6 x7 x8 : Int) (d : mD) (hS : Safe d) (i0 : x3 = 12 + 68 * x1) (i1 : x4 = 12 + 68 * x2) (i2 : 0 ≤ x5 ∧ x5 < d (x0 + 1) (12 + 68 * x2 + 5)) (i3 : x6 = 452 + 24 * d (x0 + 1) (x4 + 7 + x5)) (i4 : 0 ≤ x7 ∧ x7 ≤ 1) (i5 : 0 ≤ x8 ∧ x8 ≤ x5) (i6 : d (x0 + 1) (12 + 68 * x2 + 5) ≤ 61) (hm : x5 - x8 ≤ N237) (m199 : d (x0 + 1) (12 + 68 * x2 + 5) - x5 ≤ N199) (h : (∀ b : Int, (b < x0 + 1 ∨ x0 + 1 < b) → (st_229_237 x0 x1 x2 r199 r237 x3 x4 x5 x6 x7 x8 d) b = d b) → (∀ i : Int, i = 7 ∨ (12 ≤ i ∧ i < 420 ∧ (i - 12) % 68 = 2) ∨ i = 0 ∨ i = 8 ∨ i = 9 → (st_229_237 x0 x1 x2 r199 r237 x3 x4 x5 x6 x7 x8 d) (x0 + 1) i = d (x0 + 1) i) → Safe (st_229_237 x0 x1 x2 r199 r237 x3 x4 x5 x6 x7 x8 d) → K (.inl none) (st_229_237 x0 x1 x2 r199 r237 x3 x4 x5 x6 x7 x8 d)) : tRun E 229 (237, [.inr (11, x0), .inl (0, x1), .inl (0, x2), .inl (0, x3), .inl (0, x4), .inl (0, x5), .inl (0, x6), .inl (0, x7), .inl (0, x8)], [], 0, 0, d) K := by
  refine t_229_237 ?_
  have w1 : d (x0 + 1) (x3 + 5) = d (x0 + 1) (12 + 68 * x1 + 5) := by rw [i0]
  have w2 : d (x0 + 1) (x4 + 5) = d (x0 + 1) (12 + 68 * x2 + 5) := by rw [i1]
  have w3 := mo_q hS hx0 x2 x5 (x4 + 7 + x5) (by omega) (by omega) (by omega)
  have w4 := mbool x7
  refine ⟨⟨m_inR (by omega) (by omega), m_inR (by omega) (by omega)⟩, fun c0 => ?_, fun c0 => ?_⟩
  · refine ⟨m_inR (by omega) (by omega), fun c1 => ?_, fun c1 => ?_⟩
    · refine ih199 x3 x4 (x5 + 1) (.inl (0, x6)) (.inl (0, x7)) (.inl (0, x8)) d hS (by omega) (by omega) (by omega) (by omega) (by omega) ?_
      intro F Q hS_
      have y0 : st_229_237 x0 x1 x2 r199 r237 x3 x4 x5 x6 x7 x8 d = r199 x3 x4 (x5 + 1) d := by simp only [st_229_237, if_neg (show ¬ x8 < x5 from Int.not_lt.mpr c0), if_pos (show x7 = 0 from c1)]
      rw [y0] at h
      exact h F Q hS_
    · refine ⟨by omega, ?_⟩
      have hS1 : Safe (mset d (x0 + 1) (x6 + 4) 2) := smt_4 hS hx0 (d (x0 + 1) (x4 + 7 + x5)) (x6 + 4) (by omega) (by omega) (by omega)
      rw [mset_ni (d := d) (a := x0 + 1) (i := x6 + 4) (v := (2 : Int)) (b := x0 + 1) (j := (0 : Int)) (by omega)]
      have q1 := mh_0 hS hx0 _ rfl
      refine ⟨by omega, by omega, ?_⟩
      have hS2 : Safe (mset (mset d (x0 + 1) (x6 + 4) 2) (x0 + 1) (x6 + 3) (d (x0 + 1) 0)) := smt_3 hS1 hx0 (d (x0 + 1) (x4 + 7 + x5)) (x6 + 3) (by omega) (by omega) (by omega)
      have q2 : (mset (mset d (x0 + 1) (x6 + 4) 2) (x0 + 1) (x6 + 3) (d (x0 + 1) 0)) (x0 + 1) (12 + 68 * x2 + 5) = d (x0 + 1) (12 + 68 * x2 + 5) := (mset_ni (by omega)).trans (mset_ni (by omega))
      refine k_220 hS2 hx0 (by omega) (by omega) (by omega) (fun F1 Q1 n1_0 hS3 => ?_)
      refine t_229_332 ?_
      refine ih199 x3 x4 x5 (.inl (0, x6)) (.inl (0, x7)) (.inl (0, x8)) (g_220 x0 x2 x5 (mset (mset d (x0 + 1) (x6 + 4) 2) (x0 + 1) (x6 + 3) (d (x0 + 1) 0))) hS3 (by omega) (by omega) (by omega) (by omega) (by omega) ?_
      intro F Q hS_
      have y0 : st_229_237 x0 x1 x2 r199 r237 x3 x4 x5 x6 x7 x8 d = r199 x3 x4 x5 (g_220 x0 x2 x5 (mset (mset d (x0 + 1) (x6 + 4) 2) (x0 + 1) (x6 + 3) (d (x0 + 1) 0))) := by simp only [st_229_237, if_neg (show ¬ x8 < x5 from Int.not_lt.mpr c0), if_neg (show ¬ x7 = 0 from c1)]
      rw [y0] at h
      exact h (fun b hb => (F b hb).trans ((show ∀ b : Int, (b < x0 + 1 ∨ x0 + 1 < b) → (g_220 x0 x2 x5 (mset (mset d (x0 + 1) (x6 + 4) 2) (x0 + 1) (x6 + 3) (d (x0 + 1) 0))) b = d b from fun b hb => (F1 b (by omega)).trans ((mset_ne (by omega)).trans (mset_ne (by omega)))) b hb)) (fun i hi => (Q i hi).trans ((show ∀ i : Int, i = 7 ∨ (12 ≤ i ∧ i < 420 ∧ (i - 12) % 68 = 2) ∨ i = 0 ∨ i = 8 ∨ i = 9 → (g_220 x0 x2 x5 (mset (mset d (x0 + 1) (x6 + 4) 2) (x0 + 1) (x6 + 3) (d (x0 + 1) 0))) (x0 + 1) i = d (x0 + 1) i from fun i hi => ((Q1 i (by omega)).trans (mset_ni (by omega))).trans (mset_ni (by omega))) i hi)) hS_
  · refine ⟨by omega, ?_⟩
    refine k_179 hS ?_
    refine t_229_266 ?_
    have q3 := mo_q hS hx0 x2 x8 ((x4 + 7) + x8) (by omega) (by omega) (by omega)
    have q4 := mt_0 hS hx0 (d (x0 + 1) ((x4 + 7) + x8)) ((452 + (24 * (d (x0 + 1) ((x4 + 7) + x8)))) + 0) (by omega) (by omega)
    have q5 := mt_0 hS hx0 (d (x0 + 1) (x4 + 7 + x5)) (x6 + 0) (by omega) (by omega)
    refine ⟨by omega, by omega, ⟨m_inR (by omega) (by omega), m_inR (by omega) (by omega)⟩, fun c1 => ?_, fun c1 => ?_⟩
    · have q6 := mbool x7
      refine ih237 x3 x4 x5 x6 (mior x7 0) (x8 + 1)  d hS (by omega) (by omega) (by omega) (by omega) (by omega) (by omega) (by omega) (by omega) (by omega) (by omega) ?_
      intro F Q hS_
      have y0 : st_229_237 x0 x1 x2 r199 r237 x3 x4 x5 x6 x7 x8 d = r237 x3 x4 x5 x6 (mior x7 0) (x8 + 1) d := by simp only [st_229_237, if_pos (show x8 < x5 from c0), if_neg (show ¬ d (x0 + 1) ((452 + (24 * (d (x0 + 1) ((x4 + 7) + x8)))) + 0) = d (x0 + 1) (x6 + 0) from c1)]
      rw [y0] at h
      exact h F Q hS_
    · have q7 := mbool x7
      refine ih237 x3 x4 x5 x6 (mior x7 1) (x8 + 1)  d hS (by omega) (by omega) (by omega) (by omega) (by omega) (by omega) (by omega) (by omega) (by omega) (by omega) ?_
      intro F Q hS_
      have y0 : st_229_237 x0 x1 x2 r199 r237 x3 x4 x5 x6 x7 x8 d = r237 x3 x4 x5 x6 (mior x7 1) (x8 + 1) d := by simp only [st_229_237, if_pos (show x8 < x5 from c0), if_pos (show d (x0 + 1) ((452 + (24 * (d (x0 + 1) ((x4 + 7) + x8)))) + 0) = d (x0 + 1) (x6 + 0) from c1)]
      rw [y0] at h
      exact h F Q hS_
theorem l_229_237 {E : mO × tW} {K : tK} {x0 x1 x2 : Int} (hx0 : mdB x0) (p1 : 0 ≤ x1 ∧ x1 ≤ 5) (p2 : 0 ≤ x2 ∧ x2 ≤ 5) (hn : ¬ x1 = x2) (N199 : Int) (r199 : Int → Int → Int → mD → mD) (ih199 : ∀ (x3 x4 x5 : Int) (v6 v7 v8 : tV) (d : mD), Safe d → (x3 = 12 + 68 * x1) → (x4 = 12 + 68 * x2) → (0 ≤ x5 ∧ x5 ≤ d (x0 + 1) (12 + 68 * x2 + 5)) → 0 ≤ d (x0 + 1) (12 + 68 * x2 + 5) - x5 → d (x0 + 1) (12 + 68 * x2 + 5) - x5 < N199 → ((∀ b : Int, (b < x0 + 1 ∨ x0 + 1 < b) → (r199 x3 x4 x5 d) b = d b) → (∀ i : Int, i = 7 ∨ (12 ≤ i ∧ i < 420 ∧ (i - 12) % 68 = 2) ∨ i = 0 ∨ i = 8 ∨ i = 9 → (r199 x3 x4 x5 d) (x0 + 1) i = d (x0 + 1) i) → Safe (r199 x3 x4 x5 d) → K (.inl none) (r199 x3 x4 x5 d)) → tRun E 229 (199, [.inr (11, x0), .inl (0, x1), .inl (0, x2), .inl (0, x3), .inl (0, x4), .inl (0, x5), v6, v7, v8], [], 0, 0, d) K) : ∀ (n : Nat) (x3 x4 x5 x6 x7 x8 : Int) (d : mD), Safe d → (x3 = 12 + 68 * x1) → (x4 = 12 + 68 * x2) → (0 ≤ x5 ∧ x5 < d (x0 + 1) (12 + 68 * x2 + 5)) → (x6 = 452 + 24 * d (x0 + 1) (x4 + 7 + x5)) → (0 ≤ x7 ∧ x7 ≤ 1) → (0 ≤ x8 ∧ x8 ≤ x5) → (d (x0 + 1) (12 + 68 * x2 + 5) ≤ 61) → x5 - x8 ≤ (n : Int) → d (x0 + 1) (12 + 68 * x2 + 5) - x5 ≤ N199 → ((∀ b : Int, (b < x0 + 1 ∨ x0 + 1 < b) → (lp_229_237 x0 x1 x2 r199 n x3 x4 x5 x6 x7 x8 d) b = d b) → (∀ i : Int, i = 7 ∨ (12 ≤ i ∧ i < 420 ∧ (i - 12) % 68 = 2) ∨ i = 0 ∨ i = 8 ∨ i = 9 → (lp_229_237 x0 x1 x2 r199 n x3 x4 x5 x6 x7 x8 d) (x0 + 1) i = d (x0 + 1) i) → Safe (lp_229_237 x0 x1 x2 r199 n x3 x4 x5 x6 x7 x8 d) → K (.inl none) (lp_229_237 x0 x1 x2 r199 n x3 x4 x5 x6 x7 x8 d)) → tRun E 229 (237, [.inr (11, x0), .inl (0, x1), .inl (0, x2), .inl (0, x3), .inl (0, x4), .inl (0, x5), .inl (0, x6), .inl (0, x7), .inl (0, x8)], [], 0, 0, d) K := by
  intro n
  induction n with
  | zero =>
    intro x3 x4 x5 x6 x7 x8  d hS i0 i1 i2 i3 i4 i5 i6 hm m199 h
    exact ls_229_237 hx0 p1 p2 hn N199 r199 ih199 0 _ (fun _ _ _ _ _ _  _ _ _ _ _ _ _ _ _ _ m0 m1 _ => absurd m1 (by omega)) x3 x4 x5 x6 x7 x8  d hS i0 i1 i2 i3 i4 i5 i6 hm m199 h
  | succ n ih =>
    intro x3 x4 x5 x6 x7 x8  d hS i0 i1 i2 i3 i4 i5 i6 hm m199 h
    exact ls_229_237 hx0 p1 p2 hn N199 r199 ih199 ((n + 1 : Nat) : Int) _ (fun x3 x4 x5 x6 x7 x8  d hS i0 i1 i2 i3 i4 i5 i6 m199 m0 m1 h => ih x3 x4 x5 x6 x7 x8  d hS i0 i1 i2 i3 i4 i5 i6 (by omega) m199 h) x3 x4 x5 x6 x7 x8  d hS i0 i1 i2 i3 i4 i5 i6 hm m199 h
def st_229_199 (x0 x1 x2 : Int) (r199 : Int → Int → Int → mD → mD) (x3 x4 x5 : Int) (d : mD) : mD := if x5 < d (x0 + 1) (x4 + 5) then lp_229_237 x0 x1 x2 r199 (x5 - 0 : Int).toNat x3 x4 x5 (452 + (24 * (d (x0 + 1) ((x4 + 7) + x5)))) 0 0 d else d
def lp_229_199 (x0 x1 x2 : Int) : Nat → Int → Int → Int → mD → mD
  | 0 => st_229_199 x0 x1 x2 (fun _ _ _ d => d)
  | n + 1 => st_229_199 x0 x1 x2 (lp_229_199 x0 x1 x2 n)
theorem ls_229_199 {E : mO × tW} {K : tK} {x0 x1 x2 : Int} (hx0 : mdB x0) (p1 : 0 ≤ x1 ∧ x1 ≤ 5) (p2 : 0 ≤ x2 ∧ x2 ≤ 5) (hn : ¬ x1 = x2) (N199 : Int) (r199 : Int → Int → Int → mD → mD) (ih199 : ∀ (x3 x4 x5 : Int) (v6 v7 v8 : tV) (d : mD), Safe d → (x3 = 12 + 68 * x1) → (x4 = 12 + 68 * x2) → (0 ≤ x5 ∧ x5 ≤ d (x0 + 1) (12 + 68 * x2 + 5)) → 0 ≤ d (x0 + 1) (12 + 68 * x2 + 5) - x5 → d (x0 + 1) (12 + 68 * x2 + 5) - x5 < N199 → ((∀ b : Int, (b < x0 + 1 ∨ x0 + 1 < b) → (r199 x3 x4 x5 d) b = d b) → (∀ i : Int, i = 7 ∨ (12 ≤ i ∧ i < 420 ∧ (i - 12) % 68 = 2) ∨ i = 0 ∨ i = 8 ∨ i = 9 → (r199 x3 x4 x5 d) (x0 + 1) i = d (x0 + 1) i) → Safe (r199 x3 x4 x5 d) → K (.inl none) (r199 x3 x4 x5 d)) → tRun E 229 (199, [.inr (11, x0), .inl (0, x1), .inl (0, x2), .inl (0, x3), .inl (0, x4), .inl (0, x5), v6, v7, v8], [], 0, 0, d) K) (x3 x4 x5 : Int) (v6 v7 v8 : tV) (d : mD) (hS : Safe d) (i0 : x3 = 12 + 68 * x1) (i1 : x4 = 12 + 68 * x2) (i2 : 0 ≤ x5 ∧ x5 ≤ d (x0 + 1) (12 + 68 * x2 + 5)) (hm : d (x0 + 1) (12 + 68 * x2 + 5) - x5 ≤ N199) (h : (∀ b : Int, (b < x0 + 1 ∨ x0 + 1 < b) → (st_229_199 x0 x1 x2 r199 x3 x4 x5 d) b = d b) → (∀ i : Int, i = 7 ∨ (12 ≤ i ∧ i < 420 ∧ (i - 12) % 68 = 2) ∨ i = 0 ∨ i = 8 ∨ i = 9 → (st_229_199 x0 x1 x2 r199 x3 x4 x5 d) (x0 + 1) i = d (x0 + 1) i) → Safe (st_229_199 x0 x1 x2 r199 x3 x4 x5 d) → K (.inl none) (st_229_199 x0 x1 x2 r199 x3 x4 x5 d)) : tRun E 229 (199, [.inr (11, x0), .inl (0, x1), .inl (0, x2), .inl (0, x3), .inl (0, x4), .inl (0, x5), v6, v7, v8], [], 0, 0, d) K := by
  refine t_229_199 ?_
  have w1 : d (x0 + 1) (x3 + 5) = d (x0 + 1) (12 + 68 * x1 + 5) := by rw [i0]
  have w2 : d (x0 + 1) (x4 + 5) = d (x0 + 1) (12 + 68 * x2 + 5) := by rw [i1]
  have q8 := mo_5 hS hx0 x2 (x4 + 5) (by omega) (by omega)
  refine ⟨by omega, ⟨m_inR (by omega) (by omega), m_inR (by omega) (by omega)⟩, fun c0 => ?_, fun c0 => ?_⟩
  · have y0 : st_229_199 x0 x1 x2 r199 x3 x4 x5 d = d := by simp only [st_229_199, if_neg (show ¬ x5 < d (x0 + 1) (x4 + 5) from Int.not_lt.mpr c0)]
    rw [y0] at h
    exact h (show ∀ b : Int, (b < x0 + 1 ∨ x0 + 1 < b) → d b = d b from fun _ _ => rfl) (show ∀ i : Int, i = 7 ∨ (12 ≤ i ∧ i < 420 ∧ (i - 12) % 68 = 2) ∨ i = 0 ∨ i = 8 ∨ i = 9 → d (x0 + 1) i = d (x0 + 1) i from fun _ _ => rfl) hS
  · refine ⟨by omega, ?_⟩
    refine k_179 hS ?_
    refine t_229_229 ?_
    have q9 := mo_q hS hx0 x2 x5 ((x4 + 7) + x5) (by omega) (by omega) (by omega)
    refine l_229_237 hx0 p1 p2 hn N199 r199 ih199 (x5 - 0 : Int).toNat x3 x4 x5 (452 + (24 * (d (x0 + 1) ((x4 + 7) + x5)))) 0 0  d hS (by omega) (by omega) (by omega) (by omega) (by omega) (by omega) (by omega) (by omega) (by omega) ?_
    intro F Q hS_
    have y0 : st_229_199 x0 x1 x2 r199 x3 x4 x5 d = lp_229_237 x0 x1 x2 r199 (x5 - 0 : Int).toNat x3 x4 x5 (452 + (24 * (d (x0 + 1) ((x4 + 7) + x5)))) 0 0 d := by simp only [st_229_199, if_pos (show x5 < d (x0 + 1) (x4 + 5) from c0)]
    rw [y0] at h
    exact h F Q hS_
theorem l_229_199 {E : mO × tW} {K : tK} {x0 x1 x2 : Int} (hx0 : mdB x0) (p1 : 0 ≤ x1 ∧ x1 ≤ 5) (p2 : 0 ≤ x2 ∧ x2 ≤ 5) (hn : ¬ x1 = x2) : ∀ (n : Nat) (x3 x4 x5 : Int) (v6 v7 v8 : tV) (d : mD), Safe d → (x3 = 12 + 68 * x1) → (x4 = 12 + 68 * x2) → (0 ≤ x5 ∧ x5 ≤ d (x0 + 1) (12 + 68 * x2 + 5)) → d (x0 + 1) (12 + 68 * x2 + 5) - x5 ≤ (n : Int) → ((∀ b : Int, (b < x0 + 1 ∨ x0 + 1 < b) → (lp_229_199 x0 x1 x2 n x3 x4 x5 d) b = d b) → (∀ i : Int, i = 7 ∨ (12 ≤ i ∧ i < 420 ∧ (i - 12) % 68 = 2) ∨ i = 0 ∨ i = 8 ∨ i = 9 → (lp_229_199 x0 x1 x2 n x3 x4 x5 d) (x0 + 1) i = d (x0 + 1) i) → Safe (lp_229_199 x0 x1 x2 n x3 x4 x5 d) → K (.inl none) (lp_229_199 x0 x1 x2 n x3 x4 x5 d)) → tRun E 229 (199, [.inr (11, x0), .inl (0, x1), .inl (0, x2), .inl (0, x3), .inl (0, x4), .inl (0, x5), v6, v7, v8], [], 0, 0, d) K := by
  intro n
  induction n with
  | zero =>
    intro x3 x4 x5 v6 v7 v8 d hS i0 i1 i2 hm  h
    exact ls_229_199 hx0 p1 p2 hn 0 _ (fun _ _ _ _ _ _ _ _ _ _ _ m0 m1 _ => absurd m1 (by omega)) x3 x4 x5 v6 v7 v8 d hS i0 i1 i2 hm  h
  | succ n ih =>
    intro x3 x4 x5 v6 v7 v8 d hS i0 i1 i2 hm  h
    exact ls_229_199 hx0 p1 p2 hn ((n + 1 : Nat) : Int) _ (fun x3 x4 x5 v6 v7 v8 d hS i0 i1 i2  m0 m1 h => ih x3 x4 x5 v6 v7 v8 d hS i0 i1 i2 (by omega)  h) x3 x4 x5 v6 v7 v8 d hS i0 i1 i2 hm  h
def st_229_61 (x0 x1 x2 : Int) (r23 : Int → Int → Int → mD → mD) (r61 : Int → Int → Int → Int → Int → mD → mD) (x3 x4 x5 x6 x7 : Int) (d : mD) : mD := if (0 : Int) < x7 then (if d (x0 + 1) ((452 + (24 * x6)) + 2) < d (x0 + 1) ((452 + (24 * (d (x0 + 1) (((x4 + 7) + x7) - 1)))) + 2) then r61 x3 x4 x5 x6 (x7 + (-1)) (mset d (x0 + 1) ((x4 + 7) + x7) (d (x0 + 1) (((x4 + 7) + x7) - 1))) else r23 x3 x4 (x5 + 1) (mset (mset (mset d (x0 + 1) ((x4 + 7) + x7) x6) (x0 + 1) (x4 + 5) ((d (x0 + 1) (x4 + 5)) + 1)) (x0 + 1) ((452 + (24 * x6)) + 1) x2)) else r23 x3 x4 (x5 + 1) (mset (mset (mset d (x0 + 1) ((x4 + 7) + x7) x6) (x0 + 1) (x4 + 5) ((d (x0 + 1) (x4 + 5)) + 1)) (x0 + 1) ((452 + (24 * x6)) + 1) x2)
def lp_229_61 (x0 x1 x2 : Int) (r23 : Int → Int → Int → mD → mD) : Nat → Int → Int → Int → Int → Int → mD → mD
  | 0 => st_229_61 x0 x1 x2 r23 (fun _ _ _ _ _ d => d)
  | n + 1 => st_229_61 x0 x1 x2 r23 (lp_229_61 x0 x1 x2 r23 n)
theorem ls_229_61 {E : mO × tW} {K : tK} {x0 x1 x2 : Int} (hx0 : mdB x0) (p1 : 0 ≤ x1 ∧ x1 ≤ 5) (p2 : 0 ≤ x2 ∧ x2 ≤ 5) (hn : ¬ x1 = x2) (N23 : Int) (r23 : Int → Int → Int → mD → mD) (ih23 : ∀ (x3 x4 x5 : Int) (v6 v7 : tV) (d : mD), Safe d → (x3 = 12 + 68 * x1) → (x4 = 12 + 68 * x2) → (0 ≤ x5 ∧ x5 ≤ 61) → (d (x0 + 1) (12 + 68 * x1 + 5) + d (x0 + 1) (12 + 68 * x2 + 5) - x5 ≤ 61) → (0 ≤ d (x0 + 1) (12 + 68 * x2 + 5)) → 0 ≤ 61 - x5 → 61 - x5 < N23 → ((∀ b : Int, (b < x0 + 1 ∨ x0 + 1 < b) → (r23 x3 x4 x5 d) b = d b) → (∀ i : Int, i = 7 ∨ (12 ≤ i ∧ i < 420 ∧ (i - 12) % 68 = 2) ∨ i = 0 ∨ i = 8 ∨ i = 9 → (r23 x3 x4 x5 d) (x0 + 1) i = d (x0 + 1) i) → Safe (r23 x3 x4 x5 d) → K (.inl none) (r23 x3 x4 x5 d)) → tRun E 229 (23, [.inr (11, x0), .inl (0, x1), .inl (0, x2), .inl (0, x3), .inl (0, x4), .inl (0, x5), v6, v7, tu], [], 0, 0, d) K) (N61 : Int) (r61 : Int → Int → Int → Int → Int → mD → mD) (ih61 : ∀ (x3 x4 x5 x6 x7 : Int) (d : mD), Safe d → (x3 = 12 + 68 * x1) → (x4 = 12 + 68 * x2) → (0 ≤ x5 ∧ x5 ≤ 60) → (d (x0 + 1) (12 + 68 * x1 + 5) + d (x0 + 1) (12 + 68 * x2 + 5) - x5 ≤ 61) → (0 ≤ d (x0 + 1) (12 + 68 * x2 + 5)) → (x5 < d (x0 + 1) (12 + 68 * x1 + 5)) → (0 ≤ x6 ∧ x6 ≤ 60) → (0 ≤ x7 ∧ x7 ≤ d (x0 + 1) (12 + 68 * x2 + 5)) → 61 - x5 ≤ N23 → 0 ≤ x7 → x7 < N61 → ((∀ b : Int, (b < x0 + 1 ∨ x0 + 1 < b) → (r61 x3 x4 x5 x6 x7 d) b = d b) → (∀ i : Int, i = 7 ∨ (12 ≤ i ∧ i < 420 ∧ (i - 12) % 68 = 2) ∨ i = 0 ∨ i = 8 ∨ i = 9 → (r61 x3 x4 x5 x6 x7 d) (x0 + 1) i = d (x0 + 1) i) → Safe (r61 x3 x4 x5 x6 x7 d) → K (.inl none) (r61 x3 x4 x5 x6 x7 d)) → tRun E 229 (61, [.inr (11, x0), .inl (0, x1), .inl (0, x2), .inl (0, x3), .inl (0, x4), .inl (0, x5), .inl (0, x6), .inl (0, x7), tu], [], 0, 0, d) K) (x3 x4 x5 x6 x7 : Int) (d : mD) (hS : Safe d) (i0 : x3 = 12 + 68 * x1) (i1 : x4 = 12 + 68 * x2) (i2 : 0 ≤ x5 ∧ x5 ≤ 60) (i3 : d (x0 + 1) (12 + 68 * x1 + 5) + d (x0 + 1) (12 + 68 * x2 + 5) - x5 ≤ 61) (i4 : 0 ≤ d (x0 + 1) (12 + 68 * x2 + 5)) (i5 : x5 < d (x0 + 1) (12 + 68 * x1 + 5)) (i6 : 0 ≤ x6 ∧ x6 ≤ 60) (i7 : 0 ≤ x7 ∧ x7 ≤ d (x0 + 1) (12 + 68 * x2 + 5)) (hm : x7 ≤ N61) (m23 : 61 - x5 ≤ N23) (h : (∀ b : Int, (b < x0 + 1 ∨ x0 + 1 < b) → (st_229_61 x0 x1 x2 r23 r61 x3 x4 x5 x6 x7 d) b = d b) → (∀ i : Int, i = 7 ∨ (12 ≤ i ∧ i < 420 ∧ (i - 12) % 68 = 2) ∨ i = 0 ∨ i = 8 ∨ i = 9 → (st_229_61 x0 x1 x2 r23 r61 x3 x4 x5 x6 x7 d) (x0 + 1) i = d (x0 + 1) i) → Safe (st_229_61 x0 x1 x2 r23 r61 x3 x4 x5 x6 x7 d) → K (.inl none) (st_229_61 x0 x1 x2 r23 r61 x3 x4 x5 x6 x7 d)) : tRun E 229 (61, [.inr (11, x0), .inl (0, x1), .inl (0, x2), .inl (0, x3), .inl (0, x4), .inl (0, x5), .inl (0, x6), .inl (0, x7), tu], [], 0, 0, d) K := by
  refine t_229_61 ?_
  have w1 : d (x0 + 1) (x3 + 5) = d (x0 + 1) (12 + 68 * x1 + 5) := by rw [i0]
  have w2 : d (x0 + 1) (x4 + 5) = d (x0 + 1) (12 + 68 * x2 + 5) := by rw [i1]
  refine ⟨m_inR (by omega) (by omega), fun c0 => ?_, fun c0 => ?_⟩
  · refine ⟨by omega, ?_⟩
    have hS4 : Safe (mset d (x0 + 1) ((x4 + 7) + x7) x6) := smo_q hS hx0 x2 x7 ((x4 + 7) + x7) (by omega) (by omega) (by omega) (by omega)
    rw [mset_ni (d := d) (a := x0 + 1) (i := (x4 + 7) + x7) (v := x6) (b := x0 + 1) (j := x4 + 5) (by omega)]
    have q10 := mo_5 hS hx0 x2 (x4 + 5) (by omega) (by omega)
    refine ⟨by omega, by omega, ?_⟩
    have hS5 : Safe (mset (mset d (x0 + 1) ((x4 + 7) + x7) x6) (x0 + 1) (x4 + 5) ((d (x0 + 1) (x4 + 5)) + 1)) := smo_5 hS4 hx0 x2 (x4 + 5) (by omega) (by omega) (by omega)
    refine k_179 hS5 ?_
    refine t_229_177 ?_
    refine ⟨by omega, ?_⟩
    have hS6 : Safe (mset (mset (mset d (x0 + 1) ((x4 + 7) + x7) x6) (x0 + 1) (x4 + 5) ((d (x0 + 1) (x4 + 5)) + 1)) (x0 + 1) ((452 + (24 * x6)) + 1) x2) := smt_1 hS5 hx0 x6 ((452 + (24 * x6)) + 1) (by omega) (by omega) (by omega)
    have q11 := mo_5 hS6 hx0 x2 (12 + 68 * x2 + 5) (by omega) (by omega)
    have q12 : (mset (mset (mset d (x0 + 1) ((x4 + 7) + x7) x6) (x0 + 1) (x4 + 5) ((d (x0 + 1) (x4 + 5)) + 1)) (x0 + 1) ((452 + (24 * x6)) + 1) x2) (x0 + 1) (12 + 68 * x1 + 5) = d (x0 + 1) (12 + 68 * x1 + 5) := ((mset_ni (by omega)).trans (mset_ni (by omega))).trans (mset_ni (by omega))
    have q13 : (mset (mset (mset d (x0 + 1) ((x4 + 7) + x7) x6) (x0 + 1) (x4 + 5) ((d (x0 + 1) (x4 + 5)) + 1)) (x0 + 1) ((452 + (24 * x6)) + 1) x2) (x0 + 1) (12 + 68 * x2 + 5) = (d (x0 + 1) (x4 + 5)) + 1 := (mset_ni (by omega)).trans (mset_e2 (by omega))
    refine ih23 x3 x4 (x5 + 1) (.inl (0, x6)) (.inl (0, x7)) (mset (mset (mset d (x0 + 1) ((x4 + 7) + x7) x6) (x0 + 1) (x4 + 5) ((d (x0 + 1) (x4 + 5)) + 1)) (x0 + 1) ((452 + (24 * x6)) + 1) x2) hS6 (by omega) (by omega) (by omega) (by omega) (by omega) (by omega) (by omega) ?_
    intro F Q hS_
    have y0 : st_229_61 x0 x1 x2 r23 r61 x3 x4 x5 x6 x7 d = r23 x3 x4 (x5 + 1) (mset (mset (mset d (x0 + 1) ((x4 + 7) + x7) x6) (x0 + 1) (x4 + 5) ((d (x0 + 1) (x4 + 5)) + 1)) (x0 + 1) ((452 + (24 * x6)) + 1) x2) := by simp only [st_229_61, if_neg (show ¬ (0 : Int) < x7 from Int.not_lt.mpr c0)]
    rw [y0] at h
    exact h (fun b hb => (F b hb).trans ((show ∀ b : Int, (b < x0 + 1 ∨ x0 + 1 < b) → (mset (mset (mset d (x0 + 1) ((x4 + 7) + x7) x6) (x0 + 1) (x4 + 5) ((d (x0 + 1) (x4 + 5)) + 1)) (x0 + 1) ((452 + (24 * x6)) + 1) x2) b = d b from fun b hb => (mset_ne (by omega)).trans ((mset_ne (by omega)).trans (mset_ne (by omega)))) b hb)) (fun i hi => (Q i hi).trans ((show ∀ i : Int, i = 7 ∨ (12 ≤ i ∧ i < 420 ∧ (i - 12) % 68 = 2) ∨ i = 0 ∨ i = 8 ∨ i = 9 → (mset (mset (mset d (x0 + 1) ((x4 + 7) + x7) x6) (x0 + 1) (x4 + 5) ((d (x0 + 1) (x4 + 5)) + 1)) (x0 + 1) ((452 + (24 * x6)) + 1) x2) (x0 + 1) i = d (x0 + 1) i from fun i hi => ((mset_ni (by omega)).trans (mset_ni (by omega))).trans (mset_ni (by omega))) i hi)) hS_
  · refine ⟨by omega, ?_⟩
    refine k_179 hS ?_
    refine t_229_88 ?_
    have q14 := mo_q hS hx0 x2 (x7 - 1) (((x4 + 7) + x7) - 1) (by omega) (by omega) (by omega)
    refine ⟨by omega, ?_⟩
    refine k_179 hS ?_
    refine t_229_100 ?_
    have q15 := mt_2 hS hx0 (d (x0 + 1) (((x4 + 7) + x7) - 1)) ((452 + (24 * (d (x0 + 1) (((x4 + 7) + x7) - 1)))) + 2) (by omega) (by omega)
    have q16 := mt_2 hS hx0 x6 ((452 + (24 * x6)) + 2) (by omega) (by omega)
    refine ⟨by omega, ⟨m_inR (by omega) (by omega), m_inR (by omega) (by omega)⟩, fun c1 => ?_, fun c1 => ?_⟩
    · refine ⟨by omega, ?_⟩
      have hS7 : Safe (mset d (x0 + 1) ((x4 + 7) + x7) x6) := smo_q hS hx0 x2 x7 ((x4 + 7) + x7) (by omega) (by omega) (by omega) (by omega)
      rw [mset_ni (d := d) (a := x0 + 1) (i := (x4 + 7) + x7) (v := x6) (b := x0 + 1) (j := x4 + 5) (by omega)]
      have q17 := mo_5 hS hx0 x2 (x4 + 5) (by omega) (by omega)
      refine ⟨by omega, by omega, ?_⟩
      have hS8 : Safe (mset (mset d (x0 + 1) ((x4 + 7) + x7) x6) (x0 + 1) (x4 + 5) ((d (x0 + 1) (x4 + 5)) + 1)) := smo_5 hS7 hx0 x2 (x4 + 5) (by omega) (by omega) (by omega)
      refine k_179 hS8 ?_
      refine t_229_177 ?_
      refine ⟨by omega, ?_⟩
      have hS9 : Safe (mset (mset (mset d (x0 + 1) ((x4 + 7) + x7) x6) (x0 + 1) (x4 + 5) ((d (x0 + 1) (x4 + 5)) + 1)) (x0 + 1) ((452 + (24 * x6)) + 1) x2) := smt_1 hS8 hx0 x6 ((452 + (24 * x6)) + 1) (by omega) (by omega) (by omega)
      have q18 := mo_5 hS9 hx0 x2 (12 + 68 * x2 + 5) (by omega) (by omega)
      have q19 : (mset (mset (mset d (x0 + 1) ((x4 + 7) + x7) x6) (x0 + 1) (x4 + 5) ((d (x0 + 1) (x4 + 5)) + 1)) (x0 + 1) ((452 + (24 * x6)) + 1) x2) (x0 + 1) (12 + 68 * x1 + 5) = d (x0 + 1) (12 + 68 * x1 + 5) := ((mset_ni (by omega)).trans (mset_ni (by omega))).trans (mset_ni (by omega))
      have q20 : (mset (mset (mset d (x0 + 1) ((x4 + 7) + x7) x6) (x0 + 1) (x4 + 5) ((d (x0 + 1) (x4 + 5)) + 1)) (x0 + 1) ((452 + (24 * x6)) + 1) x2) (x0 + 1) (12 + 68 * x2 + 5) = (d (x0 + 1) (x4 + 5)) + 1 := (mset_ni (by omega)).trans (mset_e2 (by omega))
      refine ih23 x3 x4 (x5 + 1) (.inl (0, x6)) (.inl (0, x7)) (mset (mset (mset d (x0 + 1) ((x4 + 7) + x7) x6) (x0 + 1) (x4 + 5) ((d (x0 + 1) (x4 + 5)) + 1)) (x0 + 1) ((452 + (24 * x6)) + 1) x2) hS9 (by omega) (by omega) (by omega) (by omega) (by omega) (by omega) (by omega) ?_
      intro F Q hS_
      have y0 : st_229_61 x0 x1 x2 r23 r61 x3 x4 x5 x6 x7 d = r23 x3 x4 (x5 + 1) (mset (mset (mset d (x0 + 1) ((x4 + 7) + x7) x6) (x0 + 1) (x4 + 5) ((d (x0 + 1) (x4 + 5)) + 1)) (x0 + 1) ((452 + (24 * x6)) + 1) x2) := by simp only [st_229_61, if_pos (show (0 : Int) < x7 from c0), if_neg (show ¬ d (x0 + 1) ((452 + (24 * x6)) + 2) < d (x0 + 1) ((452 + (24 * (d (x0 + 1) (((x4 + 7) + x7) - 1)))) + 2) from Int.not_lt.mpr c1)]
      rw [y0] at h
      exact h (fun b hb => (F b hb).trans ((show ∀ b : Int, (b < x0 + 1 ∨ x0 + 1 < b) → (mset (mset (mset d (x0 + 1) ((x4 + 7) + x7) x6) (x0 + 1) (x4 + 5) ((d (x0 + 1) (x4 + 5)) + 1)) (x0 + 1) ((452 + (24 * x6)) + 1) x2) b = d b from fun b hb => (mset_ne (by omega)).trans ((mset_ne (by omega)).trans (mset_ne (by omega)))) b hb)) (fun i hi => (Q i hi).trans ((show ∀ i : Int, i = 7 ∨ (12 ≤ i ∧ i < 420 ∧ (i - 12) % 68 = 2) ∨ i = 0 ∨ i = 8 ∨ i = 9 → (mset (mset (mset d (x0 + 1) ((x4 + 7) + x7) x6) (x0 + 1) (x4 + 5) ((d (x0 + 1) (x4 + 5)) + 1)) (x0 + 1) ((452 + (24 * x6)) + 1) x2) (x0 + 1) i = d (x0 + 1) i from fun i hi => ((mset_ni (by omega)).trans (mset_ni (by omega))).trans (mset_ni (by omega))) i hi)) hS_
    · refine ⟨by omega, by omega, ?_⟩
      have hS10 : Safe (mset d (x0 + 1) ((x4 + 7) + x7) (d (x0 + 1) (((x4 + 7) + x7) - 1))) := smo_q hS hx0 x2 x7 ((x4 + 7) + x7) (by omega) (by omega) (by omega) (by omega)
      have q21 : (mset d (x0 + 1) ((x4 + 7) + x7) (d (x0 + 1) (((x4 + 7) + x7) - 1))) (x0 + 1) (12 + 68 * x1 + 5) = d (x0 + 1) (12 + 68 * x1 + 5) := mset_ni (by omega)
      have q22 : (mset d (x0 + 1) ((x4 + 7) + x7) (d (x0 + 1) (((x4 + 7) + x7) - 1))) (x0 + 1) (12 + 68 * x2 + 5) = d (x0 + 1) (12 + 68 * x2 + 5) := mset_ni (by omega)
      refine ih61 x3 x4 x5 x6 (x7 + (-1))  (mset d (x0 + 1) ((x4 + 7) + x7) (d (x0 + 1) (((x4 + 7) + x7) - 1))) hS10 (by omega) (by omega) (by omega) (by omega) (by omega) (by omega) (by omega) (by omega) (by omega) (by omega) (by omega) ?_
      intro F Q hS_
      have y0 : st_229_61 x0 x1 x2 r23 r61 x3 x4 x5 x6 x7 d = r61 x3 x4 x5 x6 (x7 + (-1)) (mset d (x0 + 1) ((x4 + 7) + x7) (d (x0 + 1) (((x4 + 7) + x7) - 1))) := by simp only [st_229_61, if_pos (show (0 : Int) < x7 from c0), if_pos (show d (x0 + 1) ((452 + (24 * x6)) + 2) < d (x0 + 1) ((452 + (24 * (d (x0 + 1) (((x4 + 7) + x7) - 1)))) + 2) from c1)]
      rw [y0] at h
      exact h (fun b hb => (F b hb).trans ((show ∀ b : Int, (b < x0 + 1 ∨ x0 + 1 < b) → (mset d (x0 + 1) ((x4 + 7) + x7) (d (x0 + 1) (((x4 + 7) + x7) - 1))) b = d b from fun b hb => mset_ne (by omega)) b hb)) (fun i hi => (Q i hi).trans ((show ∀ i : Int, i = 7 ∨ (12 ≤ i ∧ i < 420 ∧ (i - 12) % 68 = 2) ∨ i = 0 ∨ i = 8 ∨ i = 9 → (mset d (x0 + 1) ((x4 + 7) + x7) (d (x0 + 1) (((x4 + 7) + x7) - 1))) (x0 + 1) i = d (x0 + 1) i from fun i hi => mset_ni (by omega)) i hi)) hS_
theorem l_229_61 {E : mO × tW} {K : tK} {x0 x1 x2 : Int} (hx0 : mdB x0) (p1 : 0 ≤ x1 ∧ x1 ≤ 5) (p2 : 0 ≤ x2 ∧ x2 ≤ 5) (hn : ¬ x1 = x2) (N23 : Int) (r23 : Int → Int → Int → mD → mD) (ih23 : ∀ (x3 x4 x5 : Int) (v6 v7 : tV) (d : mD), Safe d → (x3 = 12 + 68 * x1) → (x4 = 12 + 68 * x2) → (0 ≤ x5 ∧ x5 ≤ 61) → (d (x0 + 1) (12 + 68 * x1 + 5) + d (x0 + 1) (12 + 68 * x2 + 5) - x5 ≤ 61) → (0 ≤ d (x0 + 1) (12 + 68 * x2 + 5)) → 0 ≤ 61 - x5 → 61 - x5 < N23 → ((∀ b : Int, (b < x0 + 1 ∨ x0 + 1 < b) → (r23 x3 x4 x5 d) b = d b) → (∀ i : Int, i = 7 ∨ (12 ≤ i ∧ i < 420 ∧ (i - 12) % 68 = 2) ∨ i = 0 ∨ i = 8 ∨ i = 9 → (r23 x3 x4 x5 d) (x0 + 1) i = d (x0 + 1) i) → Safe (r23 x3 x4 x5 d) → K (.inl none) (r23 x3 x4 x5 d)) → tRun E 229 (23, [.inr (11, x0), .inl (0, x1), .inl (0, x2), .inl (0, x3), .inl (0, x4), .inl (0, x5), v6, v7, tu], [], 0, 0, d) K) : ∀ (n : Nat) (x3 x4 x5 x6 x7 : Int) (d : mD), Safe d → (x3 = 12 + 68 * x1) → (x4 = 12 + 68 * x2) → (0 ≤ x5 ∧ x5 ≤ 60) → (d (x0 + 1) (12 + 68 * x1 + 5) + d (x0 + 1) (12 + 68 * x2 + 5) - x5 ≤ 61) → (0 ≤ d (x0 + 1) (12 + 68 * x2 + 5)) → (x5 < d (x0 + 1) (12 + 68 * x1 + 5)) → (0 ≤ x6 ∧ x6 ≤ 60) → (0 ≤ x7 ∧ x7 ≤ d (x0 + 1) (12 + 68 * x2 + 5)) → x7 ≤ (n : Int) → 61 - x5 ≤ N23 → ((∀ b : Int, (b < x0 + 1 ∨ x0 + 1 < b) → (lp_229_61 x0 x1 x2 r23 n x3 x4 x5 x6 x7 d) b = d b) → (∀ i : Int, i = 7 ∨ (12 ≤ i ∧ i < 420 ∧ (i - 12) % 68 = 2) ∨ i = 0 ∨ i = 8 ∨ i = 9 → (lp_229_61 x0 x1 x2 r23 n x3 x4 x5 x6 x7 d) (x0 + 1) i = d (x0 + 1) i) → Safe (lp_229_61 x0 x1 x2 r23 n x3 x4 x5 x6 x7 d) → K (.inl none) (lp_229_61 x0 x1 x2 r23 n x3 x4 x5 x6 x7 d)) → tRun E 229 (61, [.inr (11, x0), .inl (0, x1), .inl (0, x2), .inl (0, x3), .inl (0, x4), .inl (0, x5), .inl (0, x6), .inl (0, x7), tu], [], 0, 0, d) K := by
  intro n
  induction n with
  | zero =>
    intro x3 x4 x5 x6 x7  d hS i0 i1 i2 i3 i4 i5 i6 i7 hm m23 h
    exact ls_229_61 hx0 p1 p2 hn N23 r23 ih23 0 _ (fun _ _ _ _ _  _ _ _ _ _ _ _ _ _ _ _ m0 m1 _ => absurd m1 (by omega)) x3 x4 x5 x6 x7  d hS i0 i1 i2 i3 i4 i5 i6 i7 hm m23 h
  | succ n ih =>
    intro x3 x4 x5 x6 x7  d hS i0 i1 i2 i3 i4 i5 i6 i7 hm m23 h
    exact ls_229_61 hx0 p1 p2 hn N23 r23 ih23 ((n + 1 : Nat) : Int) _ (fun x3 x4 x5 x6 x7  d hS i0 i1 i2 i3 i4 i5 i6 i7 m23 m0 m1 h => ih x3 x4 x5 x6 x7  d hS i0 i1 i2 i3 i4 i5 i6 i7 (by omega) m23 h) x3 x4 x5 x6 x7  d hS i0 i1 i2 i3 i4 i5 i6 i7 hm m23 h
def st_229_23 (x0 x1 x2 : Int) (r23 : Int → Int → Int → mD → mD) (x3 x4 x5 : Int) (d : mD) : mD := if x5 < d (x0 + 1) (x3 + 5) then lp_229_61 x0 x1 x2 r23 ((d (x0 + 1) (x4 + 5)) : Int).toNat x3 x4 x5 (d (x0 + 1) ((x3 + 7) + x5)) (d (x0 + 1) (x4 + 5)) d else lp_229_199 x0 x1 x2 ((mset d (x0 + 1) (x3 + 5) 0) (x0 + 1) (12 + 68 * x2 + 5) - 0 : Int).toNat x3 x4 0 (mset d (x0 + 1) (x3 + 5) 0)
def lp_229_23 (x0 x1 x2 : Int) : Nat → Int → Int → Int → mD → mD
  | 0 => st_229_23 x0 x1 x2 (fun _ _ _ d => d)
  | n + 1 => st_229_23 x0 x1 x2 (lp_229_23 x0 x1 x2 n)
theorem ls_229_23 {E : mO × tW} {K : tK} {x0 x1 x2 : Int} (hx0 : mdB x0) (p1 : 0 ≤ x1 ∧ x1 ≤ 5) (p2 : 0 ≤ x2 ∧ x2 ≤ 5) (hn : ¬ x1 = x2) (N23 : Int) (r23 : Int → Int → Int → mD → mD) (ih23 : ∀ (x3 x4 x5 : Int) (v6 v7 : tV) (d : mD), Safe d → (x3 = 12 + 68 * x1) → (x4 = 12 + 68 * x2) → (0 ≤ x5 ∧ x5 ≤ 61) → (d (x0 + 1) (12 + 68 * x1 + 5) + d (x0 + 1) (12 + 68 * x2 + 5) - x5 ≤ 61) → (0 ≤ d (x0 + 1) (12 + 68 * x2 + 5)) → 0 ≤ 61 - x5 → 61 - x5 < N23 → ((∀ b : Int, (b < x0 + 1 ∨ x0 + 1 < b) → (r23 x3 x4 x5 d) b = d b) → (∀ i : Int, i = 7 ∨ (12 ≤ i ∧ i < 420 ∧ (i - 12) % 68 = 2) ∨ i = 0 ∨ i = 8 ∨ i = 9 → (r23 x3 x4 x5 d) (x0 + 1) i = d (x0 + 1) i) → Safe (r23 x3 x4 x5 d) → K (.inl none) (r23 x3 x4 x5 d)) → tRun E 229 (23, [.inr (11, x0), .inl (0, x1), .inl (0, x2), .inl (0, x3), .inl (0, x4), .inl (0, x5), v6, v7, tu], [], 0, 0, d) K) (x3 x4 x5 : Int) (v6 v7 : tV) (d : mD) (hS : Safe d) (i0 : x3 = 12 + 68 * x1) (i1 : x4 = 12 + 68 * x2) (i2 : 0 ≤ x5 ∧ x5 ≤ 61) (i3 : d (x0 + 1) (12 + 68 * x1 + 5) + d (x0 + 1) (12 + 68 * x2 + 5) - x5 ≤ 61) (i4 : 0 ≤ d (x0 + 1) (12 + 68 * x2 + 5)) (hm : 61 - x5 ≤ N23) (h : (∀ b : Int, (b < x0 + 1 ∨ x0 + 1 < b) → (st_229_23 x0 x1 x2 r23 x3 x4 x5 d) b = d b) → (∀ i : Int, i = 7 ∨ (12 ≤ i ∧ i < 420 ∧ (i - 12) % 68 = 2) ∨ i = 0 ∨ i = 8 ∨ i = 9 → (st_229_23 x0 x1 x2 r23 x3 x4 x5 d) (x0 + 1) i = d (x0 + 1) i) → Safe (st_229_23 x0 x1 x2 r23 x3 x4 x5 d) → K (.inl none) (st_229_23 x0 x1 x2 r23 x3 x4 x5 d)) : tRun E 229 (23, [.inr (11, x0), .inl (0, x1), .inl (0, x2), .inl (0, x3), .inl (0, x4), .inl (0, x5), v6, v7, tu], [], 0, 0, d) K := by
  refine t_229_23 ?_
  have w1 : d (x0 + 1) (x3 + 5) = d (x0 + 1) (12 + 68 * x1 + 5) := by rw [i0]
  have w2 : d (x0 + 1) (x4 + 5) = d (x0 + 1) (12 + 68 * x2 + 5) := by rw [i1]
  have q23 := mo_5 hS hx0 x1 (x3 + 5) (by omega) (by omega)
  refine ⟨by omega, ⟨m_inR (by omega) (by omega), m_inR (by omega) (by omega)⟩, fun c0 => ?_, fun c0 => ?_⟩
  · refine ⟨by omega, ?_⟩
    have hS11 : Safe (mset d (x0 + 1) (x3 + 5) 0) := smz hS hx0 (x3 + 5)
    have q24 : (mset d (x0 + 1) (x3 + 5) 0) (x0 + 1) (12 + 68 * x2 + 5) = d (x0 + 1) (12 + 68 * x2 + 5) := mset_ni (by omega)
    refine l_229_199 hx0 p1 p2 hn ((mset d (x0 + 1) (x3 + 5) 0) (x0 + 1) (12 + 68 * x2 + 5) - 0 : Int).toNat x3 x4 0 v6 v7 tu (mset d (x0 + 1) (x3 + 5) 0) hS11 (by omega) (by omega) (by omega) (by omega) ?_
    intro F Q hS_
    have y0 : st_229_23 x0 x1 x2 r23 x3 x4 x5 d = lp_229_199 x0 x1 x2 ((mset d (x0 + 1) (x3 + 5) 0) (x0 + 1) (12 + 68 * x2 + 5) - 0 : Int).toNat x3 x4 0 (mset d (x0 + 1) (x3 + 5) 0) := by simp only [st_229_23, if_neg (show ¬ x5 < d (x0 + 1) (x3 + 5) from Int.not_lt.mpr c0)]
    rw [y0] at h
    exact h (fun b hb => (F b hb).trans ((show ∀ b : Int, (b < x0 + 1 ∨ x0 + 1 < b) → (mset d (x0 + 1) (x3 + 5) 0) b = d b from fun b hb => mset_ne (by omega)) b hb)) (fun i hi => (Q i hi).trans ((show ∀ i : Int, i = 7 ∨ (12 ≤ i ∧ i < 420 ∧ (i - 12) % 68 = 2) ∨ i = 0 ∨ i = 8 ∨ i = 9 → (mset d (x0 + 1) (x3 + 5) 0) (x0 + 1) i = d (x0 + 1) i from fun i hi => mset_ni (by omega)) i hi)) hS_
  · refine ⟨by omega, by omega, ?_⟩
    have q25 := mo_q hS hx0 x1 x5 ((x3 + 7) + x5) (by omega) (by omega) (by omega)
    have q26 := mo_5 hS hx0 x2 (x4 + 5) (by omega) (by omega)
    refine l_229_61 hx0 p1 p2 hn N23 r23 ih23 ((d (x0 + 1) (x4 + 5)) : Int).toNat x3 x4 x5 (d (x0 + 1) ((x3 + 7) + x5)) (d (x0 + 1) (x4 + 5))  d hS (by omega) (by omega) (by omega) (by omega) (by omega) (by omega) (by omega) (by omega) (by omega) (by omega) ?_
    intro F Q hS_
    have y0 : st_229_23 x0 x1 x2 r23 x3 x4 x5 d = lp_229_61 x0 x1 x2 r23 ((d (x0 + 1) (x4 + 5)) : Int).toNat x3 x4 x5 (d (x0 + 1) ((x3 + 7) + x5)) (d (x0 + 1) (x4 + 5)) d := by simp only [st_229_23, if_pos (show x5 < d (x0 + 1) (x3 + 5) from c0)]
    rw [y0] at h
    exact h F Q hS_
theorem l_229_23 {E : mO × tW} {K : tK} {x0 x1 x2 : Int} (hx0 : mdB x0) (p1 : 0 ≤ x1 ∧ x1 ≤ 5) (p2 : 0 ≤ x2 ∧ x2 ≤ 5) (hn : ¬ x1 = x2) : ∀ (n : Nat) (x3 x4 x5 : Int) (v6 v7 : tV) (d : mD), Safe d → (x3 = 12 + 68 * x1) → (x4 = 12 + 68 * x2) → (0 ≤ x5 ∧ x5 ≤ 61) → (d (x0 + 1) (12 + 68 * x1 + 5) + d (x0 + 1) (12 + 68 * x2 + 5) - x5 ≤ 61) → (0 ≤ d (x0 + 1) (12 + 68 * x2 + 5)) → 61 - x5 ≤ (n : Int) → ((∀ b : Int, (b < x0 + 1 ∨ x0 + 1 < b) → (lp_229_23 x0 x1 x2 n x3 x4 x5 d) b = d b) → (∀ i : Int, i = 7 ∨ (12 ≤ i ∧ i < 420 ∧ (i - 12) % 68 = 2) ∨ i = 0 ∨ i = 8 ∨ i = 9 → (lp_229_23 x0 x1 x2 n x3 x4 x5 d) (x0 + 1) i = d (x0 + 1) i) → Safe (lp_229_23 x0 x1 x2 n x3 x4 x5 d) → K (.inl none) (lp_229_23 x0 x1 x2 n x3 x4 x5 d)) → tRun E 229 (23, [.inr (11, x0), .inl (0, x1), .inl (0, x2), .inl (0, x3), .inl (0, x4), .inl (0, x5), v6, v7, tu], [], 0, 0, d) K := by
  intro n
  induction n with
  | zero =>
    intro x3 x4 x5 v6 v7 d hS i0 i1 i2 i3 i4 hm  h
    exact ls_229_23 hx0 p1 p2 hn 0 _ (fun _ _ _ _ _ _ _ _ _ _ _ _ m0 m1 _ => absurd m1 (by omega)) x3 x4 x5 v6 v7 d hS i0 i1 i2 i3 i4 hm  h
  | succ n ih =>
    intro x3 x4 x5 v6 v7 d hS i0 i1 i2 i3 i4 hm  h
    exact ls_229_23 hx0 p1 p2 hn ((n + 1 : Nat) : Int) _ (fun x3 x4 x5 v6 v7 d hS i0 i1 i2 i3 i4  m0 m1 h => ih x3 x4 x5 v6 v7 d hS i0 i1 i2 i3 i4 (by omega)  h) x3 x4 x5 v6 v7 d hS i0 i1 i2 i3 i4 hm  h
def g_229 (x0 x1 x2 : Int) (d : mD) : mD := lp_229_23 x0 x1 x2 (61 - 0 : Int).toNat (12 + (68 * x1)) (12 + (68 * x2)) 0 (mset d (x0 + 1) ((12 + (68 * x1)) + 4) 0)
theorem k_229 {E : mO × tW} {K : tK} {d : mD} {x0 x1 x2 : Int} (hS : Safe d) (hx0 : mdB x0) (p1 : 0 ≤ x1 ∧ x1 ≤ 5) (p2 : 0 ≤ x2 ∧ x2 ≤ 5) (hq : d (x0 + 1) (12 + 68 * x1 + 5) + d (x0 + 1) (12 + 68 * x2 + 5) ≤ 61) (hn : ¬ x1 = x2) (h : (∀ b : Int, (b < x0 + 1 ∨ x0 + 1 < b) → (g_229 x0 x1 x2 d) b = d b) → (∀ i : Int, i = 7 ∨ (12 ≤ i ∧ i < 420 ∧ (i - 12) % 68 = 2) ∨ i = 0 ∨ i = 8 ∨ i = 9 → (g_229 x0 x1 x2 d) (x0 + 1) i = d (x0 + 1) i) → Safe (g_229 x0 x1 x2 d) → K (.inl none) (g_229 x0 x1 x2 d)) : tCall E 229 [.inr (11, x0), .inl (0, x1), .inl (0, x2)] d K := by
  refine t_229_0 ?_
  refine k_177 hS ?_
  refine t_229_4 ?_
  refine k_177 hS ?_
  refine t_229_9 ?_
  refine ⟨by omega, ?_⟩
  have hS12 : Safe (mset d (x0 + 1) ((12 + (68 * x1)) + 4) 0) := smz hS hx0 ((12 + (68 * x1)) + 4)
  have q27 := mo_5 hS12 hx0 x2 (12 + 68 * x2 + 5) (by omega) (by omega)
  have q28 : (mset d (x0 + 1) ((12 + (68 * x1)) + 4) 0) (x0 + 1) (12 + 68 * x1 + 5) = d (x0 + 1) (12 + 68 * x1 + 5) := mset_ni (by omega)
  have q29 : (mset d (x0 + 1) ((12 + (68 * x1)) + 4) 0) (x0 + 1) (12 + 68 * x2 + 5) = d (x0 + 1) (12 + 68 * x2 + 5) := mset_ni (by omega)
  refine l_229_23 hx0 p1 p2 hn (61 - 0 : Int).toNat (12 + (68 * x1)) (12 + (68 * x2)) 0 tu tu (mset d (x0 + 1) ((12 + (68 * x1)) + 4) 0) hS12 (by omega) (by omega) (by omega) (by omega) (by omega) (by omega) ?_
  intro F Q hS_
  have y0 : g_229 x0 x1 x2 d = lp_229_23 x0 x1 x2 (61 - 0 : Int).toNat (12 + (68 * x1)) (12 + (68 * x2)) 0 (mset d (x0 + 1) ((12 + (68 * x1)) + 4) 0) := by simp only [g_229]
  rw [y0] at h
  exact h (fun b hb => (F b hb).trans ((show ∀ b : Int, (b < x0 + 1 ∨ x0 + 1 < b) → (mset d (x0 + 1) ((12 + (68 * x1)) + 4) 0) b = d b from fun b hb => mset_ne (by omega)) b hb)) (fun i hi => (Q i hi).trans ((show ∀ i : Int, i = 7 ∨ (12 ≤ i ∧ i < 420 ∧ (i - 12) % 68 = 2) ∨ i = 0 ∨ i = 8 ∨ i = 9 → (mset d (x0 + 1) ((12 + (68 * x1)) + 4) 0) (x0 + 1) i = d (x0 + 1) i from fun i hi => mset_ni (by omega)) i hi)) hS_
def v_240 (x0 x1 : Int) (d : mD) : Int := if v_176 x1 0 4 d = 0 then 0 else d (x0 + 1) (2 + x1)
def g_240 (x0 x1 : Int) (d : mD) : mD := if v_176 x1 0 4 d = 0 then mset d x0 0 1 else mset d x0 0 0
theorem k_240 {E : mO × tW} {K : tK} {d : mD} {x0 x1 : Int} (hS : Safe d) (hx0 : mdB x0) (p1 : -2147483648 ≤ x1 ∧ x1 ≤ 2147483647) (h : (∀ b : Int, (b < x0 ∨ x0 < b) → (g_240 x0 x1 d) b = d b) → Safe (g_240 x0 x1 d) → K (.inl (some (0, (v_240 x0 x1 d)))) (g_240 x0 x1 d)) : tCall E 240 [.inr (11, x0), .inl (0, x1)] d K := by
  refine t_240_0 ?_
  have w0 := mh_0 hS hx0 _ rfl
  have w7 := mh_7 hS hx0 _ rfl
  have w8 := mh_8 hS hx0 _ rfl
  have w9 := mh_9 hS hx0 _ rfl
  have w10 := mh_10 hS hx0 _ rfl
  have w11 := mh_11 hS hx0 _ rfl
  refine ⟨m_inR (by omega) (by omega), ?_⟩
  refine k_176 hS (m_inR (by omega) (by omega)) (m_inR (by omega) (by omega)) (m_inR (by omega) (by omega)) (fun e1 => ?_)
  refine t_240_10 ?_
  refine ⟨m_inR (by omega) (by omega), fun c0 => ?_, fun c0 => ?_⟩
  · have hS1 : Safe (mset d x0 0 1) := s_11_f0 hS hx0 (by omega)
    rw [mset_eq (d := d) (a := x0) (i := (0 : Int)) (v := (1 : Int))]
    refine ⟨m_inR (by omega) (by omega), fun c1 => ?_, fun c1 => ?_⟩
    · exact (show False by omega).elim
    · have y0 : v_240 x0 x1 d = 0 := by simp only [v_240, if_pos (show v_176 x1 0 4 d = 0 from c0), if_pos (show (0 : Int) < 1 from c1)]
      have y1 : g_240 x0 x1 d = mset d x0 0 1 := by simp only [g_240, if_pos (show v_176 x1 0 4 d = 0 from c0), if_pos (show (0 : Int) < 1 from c1)]
      rw [y0] at h
      rw [y1] at h
      exact h (show ∀ b : Int, (b < x0 ∨ x0 < b) → (mset d x0 0 1) b = d b from fun b hb => mset_ne (by omega)) hS1
  · have hS2 : Safe (mset d x0 0 0) := s_11_f0 hS hx0 (by omega)
    rw [mset_eq (d := d) (a := x0) (i := (0 : Int)) (v := (0 : Int))]
    refine ⟨m_inR (by omega) (by omega), fun c1 => ?_, fun c1 => ?_⟩
    · rw [mset_ne (d := d) (a := x0) (i := (0 : Int)) (v := (0 : Int)) (b := x0 + 1) (by omega)]
      have q1 := mstg hS hx0 x1 (2 + x1) (by omega) (by omega)
      refine ⟨by omega, ?_⟩
      have y0 : v_240 x0 x1 d = d (x0 + 1) (2 + x1) := by simp only [v_240, if_neg (show ¬ v_176 x1 0 4 d = 0 from c0), if_neg (show ¬ (0 : Int) < 0 from Int.not_lt.mpr c1)]
      have y1 : g_240 x0 x1 d = mset d x0 0 0 := by simp only [g_240, if_neg (show ¬ v_176 x1 0 4 d = 0 from c0), if_neg (show ¬ (0 : Int) < 0 from Int.not_lt.mpr c1)]
      rw [y0] at h
      rw [y1] at h
      exact h (show ∀ b : Int, (b < x0 ∨ x0 < b) → (mset d x0 0 0) b = d b from fun b hb => mset_ne (by omega)) hS2
    · exact (show False by omega).elim
def v_241 (x0 x1 x2 : Int) (d : mD) : Int := if v_236 x0 x1 d = 0 then 0 else if v_176 x2 0 5 d = 0 then 0 else d (x0 + 1) (((12 + (68 * x1)) + 1) + x2)
def g_241 (x0 x1 x2 : Int) (d : mD) : mD := if v_236 x0 x1 d = 0 then mset d x0 0 1 else if v_176 x2 0 5 d = 0 then mset d x0 0 2 else mset d x0 0 0
theorem k_241 {E : mO × tW} {K : tK} {d : mD} {x0 x1 x2 : Int} (hS : Safe d) (hx0 : mdB x0) (p1 : -2147483648 ≤ x1 ∧ x1 ≤ 2147483647) (p2 : -2147483648 ≤ x2 ∧ x2 ≤ 2147483647) (h : (∀ b : Int, (b < x0 ∨ x0 < b) → (g_241 x0 x1 x2 d) b = d b) → Safe (g_241 x0 x1 x2 d) → K (.inl (some (0, (v_241 x0 x1 x2 d)))) (g_241 x0 x1 x2 d)) : tCall E 241 [.inr (11, x0), .inl (0, x1), .inl (0, x2)] d K := by
  refine t_241_0 ?_
  have w0 := mh_0 hS hx0 _ rfl
  have w7 := mh_7 hS hx0 _ rfl
  have w8 := mh_8 hS hx0 _ rfl
  have w9 := mh_9 hS hx0 _ rfl
  have w10 := mh_10 hS hx0 _ rfl
  have w11 := mh_11 hS hx0 _ rfl
  refine k_236 hS hx0 (m_inR (by omega) (by omega)) (fun e1 => ?_)
  refine t_241_6 ?_
  refine ⟨m_inR (by omega) (by omega), fun c0 => ?_, fun c0 => ?_⟩
  · refine ⟨m_inR (by omega) (by omega), ?_⟩
    refine k_176 hS (m_inR (by omega) (by omega)) (m_inR (by omega) (by omega)) (m_inR (by omega) (by omega)) (fun e2 => ?_)
    refine t_241_22 ?_
    refine ⟨m_inR (by omega) (by omega), fun c1 => ?_, fun c1 => ?_⟩
    · have hS1 : Safe (mset d x0 0 2) := s_11_f0 hS hx0 (by omega)
      rw [mset_eq (d := d) (a := x0) (i := (0 : Int)) (v := (2 : Int))]
      refine ⟨m_inR (by omega) (by omega), fun c2 => ?_, fun c2 => ?_⟩
      · exact (show False by omega).elim
      · have y0 : v_241 x0 x1 x2 d = 0 := by simp only [v_241, if_neg (show ¬ v_236 x0 x1 d = 0 from c0), if_pos (show v_176 x2 0 5 d = 0 from c1), if_pos (show (0 : Int) < 2 from c2)]
        have y1 : g_241 x0 x1 x2 d = mset d x0 0 2 := by simp only [g_241, if_neg (show ¬ v_236 x0 x1 d = 0 from c0), if_pos (show v_176 x2 0 5 d = 0 from c1), if_pos (show (0 : Int) < 2 from c2)]
        rw [y0] at h
        rw [y1] at h
        exact h (show ∀ b : Int, (b < x0 ∨ x0 < b) → (mset d x0 0 2) b = d b from fun b hb => mset_ne (by omega)) hS1
    · have hS2 : Safe (mset d x0 0 0) := s_11_f0 hS hx0 (by omega)
      rw [mset_eq (d := d) (a := x0) (i := (0 : Int)) (v := (0 : Int))]
      refine ⟨m_inR (by omega) (by omega), fun c2 => ?_, fun c2 => ?_⟩
      · refine k_177 hS2 ?_
        refine t_241_52 ?_
        rw [mset_ne (d := d) (a := x0) (i := (0 : Int)) (v := (0 : Int)) (b := x0 + 1) (by omega)]
        refine ⟨by omega, ?_⟩
        have y0 : v_241 x0 x1 x2 d = d (x0 + 1) (((12 + (68 * x1)) + 1) + x2) := by simp only [v_241, if_neg (show ¬ v_236 x0 x1 d = 0 from c0), if_neg (show ¬ v_176 x2 0 5 d = 0 from c1), if_neg (show ¬ (0 : Int) < 0 from Int.not_lt.mpr c2)]
        have y1 : g_241 x0 x1 x2 d = mset d x0 0 0 := by simp only [g_241, if_neg (show ¬ v_236 x0 x1 d = 0 from c0), if_neg (show ¬ v_176 x2 0 5 d = 0 from c1), if_neg (show ¬ (0 : Int) < 0 from Int.not_lt.mpr c2)]
        rw [y0] at h
        rw [y1] at h
        exact h (show ∀ b : Int, (b < x0 ∨ x0 < b) → (mset d x0 0 0) b = d b from fun b hb => mset_ne (by omega)) hS2
      · exact (show False by omega).elim
  · have hS3 : Safe (mset d x0 0 1) := s_11_f0 hS hx0 (by omega)
    rw [mset_eq (d := d) (a := x0) (i := (0 : Int)) (v := (1 : Int))]
    refine ⟨m_inR (by omega) (by omega), fun c1 => ?_, fun c1 => ?_⟩
    · exact (show False by omega).elim
    · have y0 : v_241 x0 x1 x2 d = 0 := by simp only [v_241, if_pos (show v_236 x0 x1 d = 0 from c0), if_pos (show (0 : Int) < 1 from c1)]
      have y1 : g_241 x0 x1 x2 d = mset d x0 0 1 := by simp only [g_241, if_pos (show v_236 x0 x1 d = 0 from c0), if_pos (show (0 : Int) < 1 from c1)]
      rw [y0] at h
      rw [y1] at h
      exact h (show ∀ b : Int, (b < x0 ∨ x0 < b) → (mset d x0 0 1) b = d b from fun b hb => mset_ne (by omega)) hS3
def v_242 (x0 x1 x2 : Int) (d : mD) : Int := if v_236 x0 x1 d = 0 then 0 else if v_176 x2 0 ((d (x0 + 1) ((12 + (68 * x1)) + 5)) - 1) d = 0 then 0 else d (x0 + 1) (((12 + (68 * x1)) + 7) + x2)
def g_242 (x0 x1 x2 : Int) (d : mD) : mD := if v_236 x0 x1 d = 0 then mset d x0 0 1 else if v_176 x2 0 ((d (x0 + 1) ((12 + (68 * x1)) + 5)) - 1) d = 0 then mset d x0 0 1 else mset d x0 0 0
theorem k_242 {E : mO × tW} {K : tK} {d : mD} {x0 x1 x2 : Int} (hS : Safe d) (hx0 : mdB x0) (p1 : -2147483648 ≤ x1 ∧ x1 ≤ 2147483647) (p2 : -2147483648 ≤ x2 ∧ x2 ≤ 2147483647) (h : (∀ b : Int, (b < x0 ∨ x0 < b) → (g_242 x0 x1 x2 d) b = d b) → Safe (g_242 x0 x1 x2 d) → K (.inl (some (0, (v_242 x0 x1 x2 d)))) (g_242 x0 x1 x2 d)) : tCall E 242 [.inr (11, x0), .inl (0, x1), .inl (0, x2)] d K := by
  refine t_242_0 ?_
  have w0 := mh_0 hS hx0 _ rfl
  have w7 := mh_7 hS hx0 _ rfl
  have w8 := mh_8 hS hx0 _ rfl
  have w9 := mh_9 hS hx0 _ rfl
  have w10 := mh_10 hS hx0 _ rfl
  have w11 := mh_11 hS hx0 _ rfl
  refine k_236 hS hx0 (m_inR (by omega) (by omega)) (fun e1 => ?_)
  refine t_242_6 ?_
  refine ⟨m_inR (by omega) (by omega), fun c0 => ?_, fun c0 => ?_⟩
  · have hS1 : Safe (mset d x0 0 1) := s_11_f0 hS hx0 (by omega)
    rw [mset_eq (d := d) (a := x0) (i := (0 : Int)) (v := (1 : Int))]
    refine ⟨m_inR (by omega) (by omega), fun c1 => ?_, fun c1 => ?_⟩
    · exact (show False by omega).elim
    · have y0 : v_242 x0 x1 x2 d = 0 := by simp only [v_242, if_pos (show v_236 x0 x1 d = 0 from c0), if_pos (show (0 : Int) < 1 from c1)]
      have y1 : g_242 x0 x1 x2 d = mset d x0 0 1 := by simp only [g_242, if_pos (show v_236 x0 x1 d = 0 from c0), if_pos (show (0 : Int) < 1 from c1)]
      rw [y0] at h
      rw [y1] at h
      exact h (show ∀ b : Int, (b < x0 ∨ x0 < b) → (mset d x0 0 1) b = d b from fun b hb => mset_ne (by omega)) hS1
  · refine ⟨m_inR (by omega) (by omega), ?_⟩
    refine k_177 hS ?_
    refine t_242_20 ?_
    have q1 := mo_5 hS hx0 x1 ((12 + (68 * x1)) + 5) (by omega) (by omega)
    refine ⟨by omega, m_inR (by omega) (by omega), ?_⟩
    refine k_176 hS (m_inR (by omega) (by omega)) (m_inR (by omega) (by omega)) (m_inR (by omega) (by omega)) (fun e2 => ?_)
    refine t_242_29 ?_
    refine ⟨m_inR (by omega) (by omega), fun c1 => ?_, fun c1 => ?_⟩
    · have hS2 : Safe (mset d x0 0 1) := s_11_f0 hS hx0 (by omega)
      rw [mset_eq (d := d) (a := x0) (i := (0 : Int)) (v := (1 : Int))]
      refine ⟨m_inR (by omega) (by omega), fun c2 => ?_, fun c2 => ?_⟩
      · exact (show False by omega).elim
      · have y0 : v_242 x0 x1 x2 d = 0 := by simp only [v_242, if_neg (show ¬ v_236 x0 x1 d = 0 from c0), if_pos (show v_176 x2 0 ((d (x0 + 1) ((12 + (68 * x1)) + 5)) - 1) d = 0 from c1), if_pos (show (0 : Int) < 1 from c2)]
        have y1 : g_242 x0 x1 x2 d = mset d x0 0 1 := by simp only [g_242, if_neg (show ¬ v_236 x0 x1 d = 0 from c0), if_pos (show v_176 x2 0 ((d (x0 + 1) ((12 + (68 * x1)) + 5)) - 1) d = 0 from c1), if_pos (show (0 : Int) < 1 from c2)]
        rw [y0] at h
        rw [y1] at h
        exact h (show ∀ b : Int, (b < x0 ∨ x0 < b) → (mset d x0 0 1) b = d b from fun b hb => mset_ne (by omega)) hS2
    · have hS3 : Safe (mset d x0 0 0) := s_11_f0 hS hx0 (by omega)
      rw [mset_eq (d := d) (a := x0) (i := (0 : Int)) (v := (0 : Int))]
      refine ⟨m_inR (by omega) (by omega), fun c2 => ?_, fun c2 => ?_⟩
      · refine k_177 hS3 ?_
        refine t_242_59 ?_
        rw [mset_ne (d := d) (a := x0) (i := (0 : Int)) (v := (0 : Int)) (b := x0 + 1) (by omega)]
        have q2 := mo_q hS hx0 x1 x2 (((12 + (68 * x1)) + 7) + x2) (by omega) (by omega) (by omega)
        refine ⟨by omega, ?_⟩
        have y0 : v_242 x0 x1 x2 d = d (x0 + 1) (((12 + (68 * x1)) + 7) + x2) := by simp only [v_242, if_neg (show ¬ v_236 x0 x1 d = 0 from c0), if_neg (show ¬ v_176 x2 0 ((d (x0 + 1) ((12 + (68 * x1)) + 5)) - 1) d = 0 from c1), if_neg (show ¬ (0 : Int) < 0 from Int.not_lt.mpr c2)]
        have y1 : g_242 x0 x1 x2 d = mset d x0 0 0 := by simp only [g_242, if_neg (show ¬ v_236 x0 x1 d = 0 from c0), if_neg (show ¬ v_176 x2 0 ((d (x0 + 1) ((12 + (68 * x1)) + 5)) - 1) d = 0 from c1), if_neg (show ¬ (0 : Int) < 0 from Int.not_lt.mpr c2)]
        rw [y0] at h
        rw [y1] at h
        exact h (show ∀ b : Int, (b < x0 ∨ x0 < b) → (mset d x0 0 0) b = d b from fun b hb => mset_ne (by omega)) hS3
      · exact (show False by omega).elim
def st_239_139 (x0 x1 : Int) (r139 : Int → Int → Int → Int → Int → mD → Int × mD) (x2 x3 x4 x5 x6 : Int) (d : mD) : Int × mD := if x6 < d (x0 + 1) 10 then (if d (x0 + 1) ((1916 + (5 * x6)) + 3) = 2 then r139 x2 x3 x4 (x5 + 1) (x6 + 1) d else r139 x2 x3 x4 (x5 + 0) (x6 + 1) d) else if x1 = 0 then (d (x0 + 1) 7, d) else if x1 = 1 then (d (x0 + 1) 8, d) else if x1 = 2 then (d (x0 + 1) 9, d) else if x1 = 3 then (d (x0 + 1) 0, d) else if x1 = 4 then (20 - ((d (x0 + 1) 0) % 20), d) else if x1 = 5 then (x2, d) else if x1 = 6 then (x3, d) else if x1 = 7 then (x4, d) else if x1 = 8 then (d (x0 + 1) 10, d) else if x1 = 9 then (d (x0 + 1) 11, d) else if x1 = 10 then (x5, d) else if x1 = 11 then (d (x0 + 1) 1, d) else (d x0 7, d)
def lp_239_139 (x0 x1 : Int) : Nat → Int → Int → Int → Int → Int → mD → Int × mD
  | 0 => st_239_139 x0 x1 (fun _ _ _ _ _ d => (0, d))
  | n + 1 => st_239_139 x0 x1 (lp_239_139 x0 x1 n)
theorem ls_239_139 {E : mO × tW} {K : tK} {x0 x1 : Int} (hx0 : mdB x0) (p1 : -2147483648 ≤ x1 ∧ x1 ≤ 2147483647) (N139 : Int) (r139 : Int → Int → Int → Int → Int → mD → Int × mD) (ih139 : ∀ (x2 x3 x4 x5 x6 : Int) (d : mD), Safe d → (0 ≤ x6 ∧ x6 ≤ 200) → 0 ≤ 200 - x6 → 200 - x6 < N139 → ((∀ b : Int, (b < x0 ∨ x0 < b) → (r139 x2 x3 x4 x5 x6 d).2 b = d b) → Safe (r139 x2 x3 x4 x5 x6 d).2 → K (.inl (some (0, (r139 x2 x3 x4 x5 x6 d).1))) (r139 x2 x3 x4 x5 x6 d).2) → tRun E 239 (139, [.inr (11, x0), .inl (0, x1), .inl (0, x2), .inl (0, x3), .inl (0, x4), .inl (0, x5), .inl (0, x6)], [], 0, 0, d) K) (x2 x3 x4 x5 x6 : Int) (d : mD) (hS : Safe d) (i0 : 0 ≤ x6 ∧ x6 ≤ 200) (hm : 200 - x6 ≤ N139) (h : (∀ b : Int, (b < x0 ∨ x0 < b) → (st_239_139 x0 x1 r139 x2 x3 x4 x5 x6 d).2 b = d b) → Safe (st_239_139 x0 x1 r139 x2 x3 x4 x5 x6 d).2 → K (.inl (some (0, (st_239_139 x0 x1 r139 x2 x3 x4 x5 x6 d).1))) (st_239_139 x0 x1 r139 x2 x3 x4 x5 x6 d).2) : tRun E 239 (139, [.inr (11, x0), .inl (0, x1), .inl (0, x2), .inl (0, x3), .inl (0, x4), .inl (0, x5), .inl (0, x6)], [], 0, 0, d) K := by
  refine t_239_139 ?_
  have q1 := mh_10 hS hx0 _ rfl
  refine ⟨by omega, ⟨m_inR (by omega) (by omega), m_inR (by omega) (by omega)⟩, fun c0 => ?_, fun c0 => ?_⟩
  · refine ⟨m_inR (by omega) (by omega), fun c1 => ?_, fun c1 => ?_, fun c1 => ?_, fun c1 => ?_, fun c1 => ?_, fun c1 => ?_, fun c1 => ?_, fun c1 => ?_, fun c1 => ?_, fun c1 => ?_, fun c1 => ?_, fun c1 => ?_, fun c1 => ?_⟩
    · have q2 := mh_7 hS hx0 _ rfl
      refine ⟨by omega, ?_⟩
      have y0 : st_239_139 x0 x1 r139 x2 x3 x4 x5 x6 d = (d (x0 + 1) 7, d) := by simp only [st_239_139, if_neg (show ¬ x6 < d (x0 + 1) 10 from Int.not_lt.mpr c0), if_pos (show x1 = 0 from c1)]
      rw [y0] at h
      exact h (show ∀ b : Int, (b < x0 ∨ x0 < b) → d b = d b from fun _ _ => rfl) hS
    · have q3 := mh_8 hS hx0 _ rfl
      refine ⟨by omega, ?_⟩
      have y0 : st_239_139 x0 x1 r139 x2 x3 x4 x5 x6 d = (d (x0 + 1) 8, d) := by simp only [st_239_139, if_neg (show ¬ x6 < d (x0 + 1) 10 from Int.not_lt.mpr c0), if_neg (show ¬ x1 = 0 by omega), if_pos (show x1 = 1 from c1)]
      rw [y0] at h
      exact h (show ∀ b : Int, (b < x0 ∨ x0 < b) → d b = d b from fun _ _ => rfl) hS
    · have q4 := mh_9 hS hx0 _ rfl
      refine ⟨by omega, ?_⟩
      have y0 : st_239_139 x0 x1 r139 x2 x3 x4 x5 x6 d = (d (x0 + 1) 9, d) := by simp only [st_239_139, if_neg (show ¬ x6 < d (x0 + 1) 10 from Int.not_lt.mpr c0), if_neg (show ¬ x1 = 0 by omega), if_neg (show ¬ x1 = 1 by omega), if_pos (show x1 = 2 from c1)]
      rw [y0] at h
      exact h (show ∀ b : Int, (b < x0 ∨ x0 < b) → d b = d b from fun _ _ => rfl) hS
    · have q5 := mh_0 hS hx0 _ rfl
      refine ⟨by omega, ?_⟩
      have y0 : st_239_139 x0 x1 r139 x2 x3 x4 x5 x6 d = (d (x0 + 1) 0, d) := by simp only [st_239_139, if_neg (show ¬ x6 < d (x0 + 1) 10 from Int.not_lt.mpr c0), if_neg (show ¬ x1 = 0 by omega), if_neg (show ¬ x1 = 1 by omega), if_neg (show ¬ x1 = 2 by omega), if_pos (show x1 = 3 from c1)]
      rw [y0] at h
      exact h (show ∀ b : Int, (b < x0 ∨ x0 < b) → d b = d b from fun _ _ => rfl) hS
    · have q6 := mh_0 hS hx0 _ rfl
      refine ⟨by omega, by omega, ?_⟩
      have y0 : st_239_139 x0 x1 r139 x2 x3 x4 x5 x6 d = (20 - ((d (x0 + 1) 0) % 20), d) := by simp only [st_239_139, if_neg (show ¬ x6 < d (x0 + 1) 10 from Int.not_lt.mpr c0), if_neg (show ¬ x1 = 0 by omega), if_neg (show ¬ x1 = 1 by omega), if_neg (show ¬ x1 = 2 by omega), if_neg (show ¬ x1 = 3 by omega), if_pos (show x1 = 4 from c1)]
      rw [y0] at h
      exact h (show ∀ b : Int, (b < x0 ∨ x0 < b) → d b = d b from fun _ _ => rfl) hS
    · have y0 : st_239_139 x0 x1 r139 x2 x3 x4 x5 x6 d = (x2, d) := by simp only [st_239_139, if_neg (show ¬ x6 < d (x0 + 1) 10 from Int.not_lt.mpr c0), if_neg (show ¬ x1 = 0 by omega), if_neg (show ¬ x1 = 1 by omega), if_neg (show ¬ x1 = 2 by omega), if_neg (show ¬ x1 = 3 by omega), if_neg (show ¬ x1 = 4 by omega), if_pos (show x1 = 5 from c1)]
      rw [y0] at h
      exact h (show ∀ b : Int, (b < x0 ∨ x0 < b) → d b = d b from fun _ _ => rfl) hS
    · have y0 : st_239_139 x0 x1 r139 x2 x3 x4 x5 x6 d = (x3, d) := by simp only [st_239_139, if_neg (show ¬ x6 < d (x0 + 1) 10 from Int.not_lt.mpr c0), if_neg (show ¬ x1 = 0 by omega), if_neg (show ¬ x1 = 1 by omega), if_neg (show ¬ x1 = 2 by omega), if_neg (show ¬ x1 = 3 by omega), if_neg (show ¬ x1 = 4 by omega), if_neg (show ¬ x1 = 5 by omega), if_pos (show x1 = 6 from c1)]
      rw [y0] at h
      exact h (show ∀ b : Int, (b < x0 ∨ x0 < b) → d b = d b from fun _ _ => rfl) hS
    · have y0 : st_239_139 x0 x1 r139 x2 x3 x4 x5 x6 d = (x4, d) := by simp only [st_239_139, if_neg (show ¬ x6 < d (x0 + 1) 10 from Int.not_lt.mpr c0), if_neg (show ¬ x1 = 0 by omega), if_neg (show ¬ x1 = 1 by omega), if_neg (show ¬ x1 = 2 by omega), if_neg (show ¬ x1 = 3 by omega), if_neg (show ¬ x1 = 4 by omega), if_neg (show ¬ x1 = 5 by omega), if_neg (show ¬ x1 = 6 by omega), if_pos (show x1 = 7 from c1)]
      rw [y0] at h
      exact h (show ∀ b : Int, (b < x0 ∨ x0 < b) → d b = d b from fun _ _ => rfl) hS
    · refine ⟨by omega, ?_⟩
      have y0 : st_239_139 x0 x1 r139 x2 x3 x4 x5 x6 d = (d (x0 + 1) 10, d) := by simp only [st_239_139, if_neg (show ¬ x6 < d (x0 + 1) 10 from Int.not_lt.mpr c0), if_neg (show ¬ x1 = 0 by omega), if_neg (show ¬ x1 = 1 by omega), if_neg (show ¬ x1 = 2 by omega), if_neg (show ¬ x1 = 3 by omega), if_neg (show ¬ x1 = 4 by omega), if_neg (show ¬ x1 = 5 by omega), if_neg (show ¬ x1 = 6 by omega), if_neg (show ¬ x1 = 7 by omega), if_pos (show x1 = 8 from c1)]
      rw [y0] at h
      exact h (show ∀ b : Int, (b < x0 ∨ x0 < b) → d b = d b from fun _ _ => rfl) hS
    · have q7 := mh_11 hS hx0 _ rfl
      refine ⟨by omega, ?_⟩
      have y0 : st_239_139 x0 x1 r139 x2 x3 x4 x5 x6 d = (d (x0 + 1) 11, d) := by simp only [st_239_139, if_neg (show ¬ x6 < d (x0 + 1) 10 from Int.not_lt.mpr c0), if_neg (show ¬ x1 = 0 by omega), if_neg (show ¬ x1 = 1 by omega), if_neg (show ¬ x1 = 2 by omega), if_neg (show ¬ x1 = 3 by omega), if_neg (show ¬ x1 = 4 by omega), if_neg (show ¬ x1 = 5 by omega), if_neg (show ¬ x1 = 6 by omega), if_neg (show ¬ x1 = 7 by omega), if_neg (show ¬ x1 = 8 by omega), if_pos (show x1 = 9 from c1)]
      rw [y0] at h
      exact h (show ∀ b : Int, (b < x0 ∨ x0 < b) → d b = d b from fun _ _ => rfl) hS
    · have y0 : st_239_139 x0 x1 r139 x2 x3 x4 x5 x6 d = (x5, d) := by simp only [st_239_139, if_neg (show ¬ x6 < d (x0 + 1) 10 from Int.not_lt.mpr c0), if_neg (show ¬ x1 = 0 by omega), if_neg (show ¬ x1 = 1 by omega), if_neg (show ¬ x1 = 2 by omega), if_neg (show ¬ x1 = 3 by omega), if_neg (show ¬ x1 = 4 by omega), if_neg (show ¬ x1 = 5 by omega), if_neg (show ¬ x1 = 6 by omega), if_neg (show ¬ x1 = 7 by omega), if_neg (show ¬ x1 = 8 by omega), if_neg (show ¬ x1 = 9 by omega), if_pos (show x1 = 10 from c1)]
      rw [y0] at h
      exact h (show ∀ b : Int, (b < x0 ∨ x0 < b) → d b = d b from fun _ _ => rfl) hS
    · have q8 := mh_1 hS hx0 _ rfl
      refine ⟨by omega, ?_⟩
      have y0 : st_239_139 x0 x1 r139 x2 x3 x4 x5 x6 d = (d (x0 + 1) 1, d) := by simp only [st_239_139, if_neg (show ¬ x6 < d (x0 + 1) 10 from Int.not_lt.mpr c0), if_neg (show ¬ x1 = 0 by omega), if_neg (show ¬ x1 = 1 by omega), if_neg (show ¬ x1 = 2 by omega), if_neg (show ¬ x1 = 3 by omega), if_neg (show ¬ x1 = 4 by omega), if_neg (show ¬ x1 = 5 by omega), if_neg (show ¬ x1 = 6 by omega), if_neg (show ¬ x1 = 7 by omega), if_neg (show ¬ x1 = 8 by omega), if_neg (show ¬ x1 = 9 by omega), if_neg (show ¬ x1 = 10 by omega), if_pos (show x1 = 11 from c1)]
      rw [y0] at h
      exact h (show ∀ b : Int, (b < x0 ∨ x0 < b) → d b = d b from fun _ _ => rfl) hS
    · have q9 := r_11_f7 hS hx0
      have y0 : st_239_139 x0 x1 r139 x2 x3 x4 x5 x6 d = (d x0 7, d) := by simp only [st_239_139, if_neg (show ¬ x6 < d (x0 + 1) 10 from Int.not_lt.mpr c0), if_neg (show ¬ x1 = 0 by omega), if_neg (show ¬ x1 = 1 by omega), if_neg (show ¬ x1 = 2 by omega), if_neg (show ¬ x1 = 3 by omega), if_neg (show ¬ x1 = 4 by omega), if_neg (show ¬ x1 = 5 by omega), if_neg (show ¬ x1 = 6 by omega), if_neg (show ¬ x1 = 7 by omega), if_neg (show ¬ x1 = 8 by omega), if_neg (show ¬ x1 = 9 by omega), if_neg (show ¬ x1 = 10 by omega), if_neg (show ¬ x1 = 11 by omega)]
      rw [y0] at h
      exact h (show ∀ b : Int, (b < x0 ∨ x0 < b) → d b = d b from fun _ _ => rfl) hS
  · refine k_180 hS ?_
    refine t_239_162 ?_
    have q10 := mk_3 hS hx0 x6 ((1916 + (5 * x6)) + 3) (by omega) (by omega)
    refine ⟨by omega, ⟨m_inR (by omega) (by omega), m_inR (by omega) (by omega)⟩, fun c1 => ?_, fun c1 => ?_⟩
    · refine ih139 x2 x3 x4 (x5 + 0) (x6 + 1)  d hS (by omega) (by omega) (by omega) ?_
      intro F hS_
      have y0 : st_239_139 x0 x1 r139 x2 x3 x4 x5 x6 d = r139 x2 x3 x4 (x5 + 0) (x6 + 1) d := by simp only [st_239_139, if_pos (show x6 < d (x0 + 1) 10 from c0), if_neg (show ¬ d (x0 + 1) ((1916 + (5 * x6)) + 3) = 2 from c1)]
      rw [y0] at h
      exact h F hS_
    · refine ih139 x2 x3 x4 (x5 + 1) (x6 + 1)  d hS (by omega) (by omega) (by omega) ?_
      intro F hS_
      have y0 : st_239_139 x0 x1 r139 x2 x3 x4 x5 x6 d = r139 x2 x3 x4 (x5 + 1) (x6 + 1) d := by simp only [st_239_139, if_pos (show x6 < d (x0 + 1) 10 from c0), if_pos (show d (x0 + 1) ((1916 + (5 * x6)) + 3) = 2 from c1)]
      rw [y0] at h
      exact h F hS_
theorem l_239_139 {E : mO × tW} {K : tK} {x0 x1 : Int} (hx0 : mdB x0) (p1 : -2147483648 ≤ x1 ∧ x1 ≤ 2147483647) : ∀ (n : Nat) (x2 x3 x4 x5 x6 : Int) (d : mD), Safe d → (0 ≤ x6 ∧ x6 ≤ 200) → 200 - x6 ≤ (n : Int) → ((∀ b : Int, (b < x0 ∨ x0 < b) → (lp_239_139 x0 x1 n x2 x3 x4 x5 x6 d).2 b = d b) → Safe (lp_239_139 x0 x1 n x2 x3 x4 x5 x6 d).2 → K (.inl (some (0, (lp_239_139 x0 x1 n x2 x3 x4 x5 x6 d).1))) (lp_239_139 x0 x1 n x2 x3 x4 x5 x6 d).2) → tRun E 239 (139, [.inr (11, x0), .inl (0, x1), .inl (0, x2), .inl (0, x3), .inl (0, x4), .inl (0, x5), .inl (0, x6)], [], 0, 0, d) K := by
  intro n
  induction n with
  | zero =>
    intro x2 x3 x4 x5 x6  d hS i0 hm  h
    exact ls_239_139 hx0 p1 0 _ (fun _ _ _ _ _  _ _ _ m0 m1 _ => absurd m1 (by omega)) x2 x3 x4 x5 x6  d hS i0 hm  h
  | succ n ih =>
    intro x2 x3 x4 x5 x6  d hS i0 hm  h
    exact ls_239_139 hx0 p1 ((n + 1 : Nat) : Int) _ (fun x2 x3 x4 x5 x6  d hS i0  m0 m1 h => ih x2 x3 x4 x5 x6  d hS i0 (by omega)  h) x2 x3 x4 x5 x6  d hS i0 hm  h
def st_239_40 (x0 x1 : Int) (r40 : Int → Int → Int → Int → mD → Int × mD) (x2 x3 x4 x5 : Int) (d : mD) : Int × mD := if x5 < d (x0 + 1) 9 then (if d (x0 + 1) ((452 + (24 * x5)) + 4) = 0 then (if d (x0 + 1) ((452 + (24 * x5)) + 5) = 0 then r40 (x2 + 1) (x3 + 0) (x4 + (d (x0 + 1) ((452 + (24 * x5)) + 6))) (x5 + 1) d else if d (x0 + 1) ((452 + (24 * x5)) + 6) = 0 then r40 (x2 + 1) (x3 + 1) (x4 + (d (x0 + 1) ((452 + (24 * x5)) + 6))) (x5 + 1) d else r40 (x2 + 1) (x3 + 0) (x4 + (d (x0 + 1) ((452 + (24 * x5)) + 6))) (x5 + 1) d) else if d (x0 + 1) ((452 + (24 * x5)) + 5) = 0 then r40 (x2 + 0) (x3 + 0) (x4 + (d (x0 + 1) ((452 + (24 * x5)) + 6))) (x5 + 1) d else if d (x0 + 1) ((452 + (24 * x5)) + 6) = 0 then r40 (x2 + 0) (x3 + 1) (x4 + (d (x0 + 1) ((452 + (24 * x5)) + 6))) (x5 + 1) d else r40 (x2 + 0) (x3 + 0) (x4 + (d (x0 + 1) ((452 + (24 * x5)) + 6))) (x5 + 1) d) else lp_239_139 x0 x1 (200 - 0 : Int).toNat x2 x3 x4 0 0 d
def lp_239_40 (x0 x1 : Int) : Nat → Int → Int → Int → Int → mD → Int × mD
  | 0 => st_239_40 x0 x1 (fun _ _ _ _ d => (0, d))
  | n + 1 => st_239_40 x0 x1 (lp_239_40 x0 x1 n)
theorem ls_239_40 {E : mO × tW} {K : tK} {x0 x1 : Int} (hx0 : mdB x0) (p1 : -2147483648 ≤ x1 ∧ x1 ≤ 2147483647) (N40 : Int) (r40 : Int → Int → Int → Int → mD → Int × mD) (ih40 : ∀ (x2 x3 x4 x5 : Int) (v6 : tV) (d : mD), Safe d → (0 ≤ x5 ∧ x5 ≤ 61) → 0 ≤ 61 - x5 → 61 - x5 < N40 → ((∀ b : Int, (b < x0 ∨ x0 < b) → (r40 x2 x3 x4 x5 d).2 b = d b) → Safe (r40 x2 x3 x4 x5 d).2 → K (.inl (some (0, (r40 x2 x3 x4 x5 d).1))) (r40 x2 x3 x4 x5 d).2) → tRun E 239 (40, [.inr (11, x0), .inl (0, x1), .inl (0, x2), .inl (0, x3), .inl (0, x4), .inl (0, x5), v6], [], 0, 0, d) K) (x2 x3 x4 x5 : Int) (v6 : tV) (d : mD) (hS : Safe d) (i0 : 0 ≤ x5 ∧ x5 ≤ 61) (hm : 61 - x5 ≤ N40) (h : (∀ b : Int, (b < x0 ∨ x0 < b) → (st_239_40 x0 x1 r40 x2 x3 x4 x5 d).2 b = d b) → Safe (st_239_40 x0 x1 r40 x2 x3 x4 x5 d).2 → K (.inl (some (0, (st_239_40 x0 x1 r40 x2 x3 x4 x5 d).1))) (st_239_40 x0 x1 r40 x2 x3 x4 x5 d).2) : tRun E 239 (40, [.inr (11, x0), .inl (0, x1), .inl (0, x2), .inl (0, x3), .inl (0, x4), .inl (0, x5), v6], [], 0, 0, d) K := by
  refine t_239_40 ?_
  have q11 := mh_9 hS hx0 _ rfl
  refine ⟨by omega, ⟨m_inR (by omega) (by omega), m_inR (by omega) (by omega)⟩, fun c0 => ?_, fun c0 => ?_⟩
  · refine l_239_139 hx0 p1 (200 - 0 : Int).toNat x2 x3 x4 0 0  d hS (by omega) (by omega) ?_
    intro F hS_
    have y0 : st_239_40 x0 x1 r40 x2 x3 x4 x5 d = lp_239_139 x0 x1 (200 - 0 : Int).toNat x2 x3 x4 0 0 d := by simp only [st_239_40, if_neg (show ¬ x5 < d (x0 + 1) 9 from Int.not_lt.mpr c0)]
    rw [y0] at h
    exact h F hS_
  · refine k_179 hS ?_
    refine t_239_57 ?_
    have q12 := mt_4 hS hx0 x5 ((452 + (24 * x5)) + 4) (by omega) (by omega)
    refine ⟨by omega, m_inR (by omega) (by omega), fun c1 => ?_, fun c1 => ?_⟩
    · have q13 := mt_5 hS hx0 x5 ((452 + (24 * x5)) + 5) (by omega) (by omega)
      refine ⟨by omega, m_inR (by omega) (by omega), fun c2 => ?_, fun c2 => ?_⟩
      · refine ⟨by omega, ?_⟩
        have q14 := mt_6 hS hx0 x5 ((452 + (24 * x5)) + 6) (by omega) (by omega)
        refine ih40 (x2 + 0) (x3 + 0) (x4 + (d (x0 + 1) ((452 + (24 * x5)) + 6))) (x5 + 1) (.inl (0, 452 + (24 * x5))) d hS (by omega) (by omega) (by omega) ?_
        intro F hS_
        have y0 : st_239_40 x0 x1 r40 x2 x3 x4 x5 d = r40 (x2 + 0) (x3 + 0) (x4 + (d (x0 + 1) ((452 + (24 * x5)) + 6))) (x5 + 1) d := by simp only [st_239_40, if_pos (show x5 < d (x0 + 1) 9 from c0), if_neg (show ¬ d (x0 + 1) ((452 + (24 * x5)) + 4) = 0 from c1), if_pos (show d (x0 + 1) ((452 + (24 * x5)) + 5) = 0 from c2)]
        rw [y0] at h
        exact h F hS_
      · have q15 := mt_6 hS hx0 x5 ((452 + (24 * x5)) + 6) (by omega) (by omega)
        refine ⟨by omega, m_inR (by omega) (by omega), fun c3 => ?_, fun c3 => ?_⟩
        · refine ⟨by omega, ?_⟩
          refine ih40 (x2 + 0) (x3 + 0) (x4 + (d (x0 + 1) ((452 + (24 * x5)) + 6))) (x5 + 1) (.inl (0, 452 + (24 * x5))) d hS (by omega) (by omega) (by omega) ?_
          intro F hS_
          have y0 : st_239_40 x0 x1 r40 x2 x3 x4 x5 d = r40 (x2 + 0) (x3 + 0) (x4 + (d (x0 + 1) ((452 + (24 * x5)) + 6))) (x5 + 1) d := by simp only [st_239_40, if_pos (show x5 < d (x0 + 1) 9 from c0), if_neg (show ¬ d (x0 + 1) ((452 + (24 * x5)) + 4) = 0 from c1), if_neg (show ¬ d (x0 + 1) ((452 + (24 * x5)) + 5) = 0 from c2), if_neg (show ¬ d (x0 + 1) ((452 + (24 * x5)) + 6) = 0 from c3)]
          rw [y0] at h
          exact h F hS_
        · refine ⟨by omega, ?_⟩
          refine ih40 (x2 + 0) (x3 + 1) (x4 + (d (x0 + 1) ((452 + (24 * x5)) + 6))) (x5 + 1) (.inl (0, 452 + (24 * x5))) d hS (by omega) (by omega) (by omega) ?_
          intro F hS_
          have y0 : st_239_40 x0 x1 r40 x2 x3 x4 x5 d = r40 (x2 + 0) (x3 + 1) (x4 + (d (x0 + 1) ((452 + (24 * x5)) + 6))) (x5 + 1) d := by simp only [st_239_40, if_pos (show x5 < d (x0 + 1) 9 from c0), if_neg (show ¬ d (x0 + 1) ((452 + (24 * x5)) + 4) = 0 from c1), if_neg (show ¬ d (x0 + 1) ((452 + (24 * x5)) + 5) = 0 from c2), if_pos (show d (x0 + 1) ((452 + (24 * x5)) + 6) = 0 from c3)]
          rw [y0] at h
          exact h F hS_
    · have q16 := mt_5 hS hx0 x5 ((452 + (24 * x5)) + 5) (by omega) (by omega)
      refine ⟨by omega, m_inR (by omega) (by omega), fun c2 => ?_, fun c2 => ?_⟩
      · refine ⟨by omega, ?_⟩
        have q17 := mt_6 hS hx0 x5 ((452 + (24 * x5)) + 6) (by omega) (by omega)
        refine ih40 (x2 + 1) (x3 + 0) (x4 + (d (x0 + 1) ((452 + (24 * x5)) + 6))) (x5 + 1) (.inl (0, 452 + (24 * x5))) d hS (by omega) (by omega) (by omega) ?_
        intro F hS_
        have y0 : st_239_40 x0 x1 r40 x2 x3 x4 x5 d = r40 (x2 + 1) (x3 + 0) (x4 + (d (x0 + 1) ((452 + (24 * x5)) + 6))) (x5 + 1) d := by simp only [st_239_40, if_pos (show x5 < d (x0 + 1) 9 from c0), if_pos (show d (x0 + 1) ((452 + (24 * x5)) + 4) = 0 from c1), if_pos (show d (x0 + 1) ((452 + (24 * x5)) + 5) = 0 from c2)]
        rw [y0] at h
        exact h F hS_
      · have q18 := mt_6 hS hx0 x5 ((452 + (24 * x5)) + 6) (by omega) (by omega)
        refine ⟨by omega, m_inR (by omega) (by omega), fun c3 => ?_, fun c3 => ?_⟩
        · refine ⟨by omega, ?_⟩
          refine ih40 (x2 + 1) (x3 + 0) (x4 + (d (x0 + 1) ((452 + (24 * x5)) + 6))) (x5 + 1) (.inl (0, 452 + (24 * x5))) d hS (by omega) (by omega) (by omega) ?_
          intro F hS_
          have y0 : st_239_40 x0 x1 r40 x2 x3 x4 x5 d = r40 (x2 + 1) (x3 + 0) (x4 + (d (x0 + 1) ((452 + (24 * x5)) + 6))) (x5 + 1) d := by simp only [st_239_40, if_pos (show x5 < d (x0 + 1) 9 from c0), if_pos (show d (x0 + 1) ((452 + (24 * x5)) + 4) = 0 from c1), if_neg (show ¬ d (x0 + 1) ((452 + (24 * x5)) + 5) = 0 from c2), if_neg (show ¬ d (x0 + 1) ((452 + (24 * x5)) + 6) = 0 from c3)]
          rw [y0] at h
          exact h F hS_
        · refine ⟨by omega, ?_⟩
          refine ih40 (x2 + 1) (x3 + 1) (x4 + (d (x0 + 1) ((452 + (24 * x5)) + 6))) (x5 + 1) (.inl (0, 452 + (24 * x5))) d hS (by omega) (by omega) (by omega) ?_
          intro F hS_
          have y0 : st_239_40 x0 x1 r40 x2 x3 x4 x5 d = r40 (x2 + 1) (x3 + 1) (x4 + (d (x0 + 1) ((452 + (24 * x5)) + 6))) (x5 + 1) d := by simp only [st_239_40, if_pos (show x5 < d (x0 + 1) 9 from c0), if_pos (show d (x0 + 1) ((452 + (24 * x5)) + 4) = 0 from c1), if_neg (show ¬ d (x0 + 1) ((452 + (24 * x5)) + 5) = 0 from c2), if_pos (show d (x0 + 1) ((452 + (24 * x5)) + 6) = 0 from c3)]
          rw [y0] at h
          exact h F hS_
theorem l_239_40 {E : mO × tW} {K : tK} {x0 x1 : Int} (hx0 : mdB x0) (p1 : -2147483648 ≤ x1 ∧ x1 ≤ 2147483647) : ∀ (n : Nat) (x2 x3 x4 x5 : Int) (v6 : tV) (d : mD), Safe d → (0 ≤ x5 ∧ x5 ≤ 61) → 61 - x5 ≤ (n : Int) → ((∀ b : Int, (b < x0 ∨ x0 < b) → (lp_239_40 x0 x1 n x2 x3 x4 x5 d).2 b = d b) → Safe (lp_239_40 x0 x1 n x2 x3 x4 x5 d).2 → K (.inl (some (0, (lp_239_40 x0 x1 n x2 x3 x4 x5 d).1))) (lp_239_40 x0 x1 n x2 x3 x4 x5 d).2) → tRun E 239 (40, [.inr (11, x0), .inl (0, x1), .inl (0, x2), .inl (0, x3), .inl (0, x4), .inl (0, x5), v6], [], 0, 0, d) K := by
  intro n
  induction n with
  | zero =>
    intro x2 x3 x4 x5 v6 d hS i0 hm  h
    exact ls_239_40 hx0 p1 0 _ (fun _ _ _ _ _ _ _ _ m0 m1 _ => absurd m1 (by omega)) x2 x3 x4 x5 v6 d hS i0 hm  h
  | succ n ih =>
    intro x2 x3 x4 x5 v6 d hS i0 hm  h
    exact ls_239_40 hx0 p1 ((n + 1 : Nat) : Int) _ (fun x2 x3 x4 x5 v6 d hS i0  m0 m1 h => ih x2 x3 x4 x5 v6 d hS i0 (by omega)  h) x2 x3 x4 x5 v6 d hS i0 hm  h
def f_239 (x0 x1 : Int) (d : mD) : Int × mD := if v_176 x1 0 12 d = 0 then (0, mset d x0 0 1) else lp_239_40 x0 x1 (61 - 0 : Int).toNat 0 0 0 0 (mset d x0 0 0)
def v_239 (x0 x1 : Int) (d : mD) : Int := (f_239 x0 x1 d).1
def g_239 (x0 x1 : Int) (d : mD) : mD := (f_239 x0 x1 d).2
theorem k_239 {E : mO × tW} {K : tK} {d : mD} {x0 x1 : Int} (hS : Safe d) (hx0 : mdB x0) (p1 : -2147483648 ≤ x1 ∧ x1 ≤ 2147483647) (h : (∀ b : Int, (b < x0 ∨ x0 < b) → (g_239 x0 x1 d) b = d b) → Safe (g_239 x0 x1 d) → K (.inl (some (0, (v_239 x0 x1 d)))) (g_239 x0 x1 d)) : tCall E 239 [.inr (11, x0), .inl (0, x1)] d K := by
  simp only [v_239, g_239] at h
  refine t_239_0 ?_
  have w0 := mh_0 hS hx0 _ rfl
  have w7 := mh_7 hS hx0 _ rfl
  have w8 := mh_8 hS hx0 _ rfl
  have w9 := mh_9 hS hx0 _ rfl
  have w10 := mh_10 hS hx0 _ rfl
  have w11 := mh_11 hS hx0 _ rfl
  refine ⟨m_inR (by omega) (by omega), ?_⟩
  refine k_176 hS (m_inR (by omega) (by omega)) (m_inR (by omega) (by omega)) (m_inR (by omega) (by omega)) (fun e1 => ?_)
  refine t_239_10 ?_
  refine ⟨m_inR (by omega) (by omega), fun c0 => ?_, fun c0 => ?_⟩
  · have hS1 : Safe (mset d x0 0 1) := s_11_f0 hS hx0 (by omega)
    rw [mset_eq (d := d) (a := x0) (i := (0 : Int)) (v := (1 : Int))]
    refine ⟨m_inR (by omega) (by omega), fun c1 => ?_, fun c1 => ?_⟩
    · exact (show False by omega).elim
    · have y0 : f_239 x0 x1 d = (0, mset d x0 0 1) := by simp only [f_239, if_pos (show v_176 x1 0 12 d = 0 from c0), if_pos (show (0 : Int) < 1 from c1)]
      rw [y0] at h
      exact h (show ∀ b : Int, (b < x0 ∨ x0 < b) → (mset d x0 0 1) b = d b from fun b hb => mset_ne (by omega)) hS1
  · have hS2 : Safe (mset d x0 0 0) := s_11_f0 hS hx0 (by omega)
    rw [mset_eq (d := d) (a := x0) (i := (0 : Int)) (v := (0 : Int))]
    refine ⟨m_inR (by omega) (by omega), fun c1 => ?_, fun c1 => ?_⟩
    · refine l_239_40 hx0 p1 (61 - 0 : Int).toNat 0 0 0 0 tu (mset d x0 0 0) hS2 (by omega) (by omega) ?_
      intro F hS_
      have y0 : f_239 x0 x1 d = lp_239_40 x0 x1 (61 - 0 : Int).toNat 0 0 0 0 (mset d x0 0 0) := by simp only [f_239, if_neg (show ¬ v_176 x1 0 12 d = 0 from c0), if_neg (show ¬ (0 : Int) < 0 from Int.not_lt.mpr c1)]
      rw [y0] at h
      exact h (fun b hb => (F b hb).trans ((show ∀ b : Int, (b < x0 ∨ x0 < b) → (mset d x0 0 0) b = d b from fun b hb => mset_ne (by omega)) b hb)) hS_
    · exact (show False by omega).elim
def st_243_2 (x0 x1 x2 : Int) (r2 : Int → mD → Int) (x3 : Int) (d : mD) : Int := if x3 < d (x0 + 1) 9 then (if d (x0 + 1) ((452 + (24 * x3)) + 0) = x1 then (if d (x0 + 1) ((452 + (24 * x3)) + 4) = 1 then (if v_214 x0 x3 x2 d = 0 then r2 (x3 + 1) d else 1) else r2 (x3 + 1) d) else r2 (x3 + 1) d) else 0
def lp_243_2 (x0 x1 x2 : Int) : Nat → Int → mD → Int
  | 0 => st_243_2 x0 x1 x2 (fun _ d => 0)
  | n + 1 => st_243_2 x0 x1 x2 (lp_243_2 x0 x1 x2 n)
theorem ls_243_2 {E : mO × tW} {K : tK} {x0 x1 x2 : Int} (hx0 : mdB x0) (p1 : -2147483648 ≤ x1 ∧ x1 ≤ 2147483647) (p2 : -2147483648 ≤ x2 ∧ x2 ≤ 2147483647) (N2 : Int) (r2 : Int → mD → Int) (ih2 : ∀ (x3 : Int) (d : mD), Safe d → (0 ≤ x3 ∧ x3 ≤ 61) → 0 ≤ 61 - x3 → 61 - x3 < N2 → ((0 ≤ (r2 x3 d) ∧ (r2 x3 d) ≤ 1) → K (.inl (some (0, (r2 x3 d)))) d) → tRun E 243 (2, [.inr (11, x0), .inl (0, x1), .inl (0, x2), .inl (0, x3)], [], 0, 0, d) K) (x3 : Int) (d : mD) (hS : Safe d) (i0 : 0 ≤ x3 ∧ x3 ≤ 61) (hm : 61 - x3 ≤ N2) (h : (0 ≤ (st_243_2 x0 x1 x2 r2 x3 d) ∧ (st_243_2 x0 x1 x2 r2 x3 d) ≤ 1) → K (.inl (some (0, (st_243_2 x0 x1 x2 r2 x3 d)))) d) : tRun E 243 (2, [.inr (11, x0), .inl (0, x1), .inl (0, x2), .inl (0, x3)], [], 0, 0, d) K := by
  refine t_243_2 ?_
  have q1 := mh_9 hS hx0 _ rfl
  refine ⟨by omega, ⟨m_inR (by omega) (by omega), m_inR (by omega) (by omega)⟩, fun c0 => ?_, fun c0 => ?_⟩
  · refine ⟨by omega, ?_⟩
    have y0 : st_243_2 x0 x1 x2 r2 x3 d = 0 := by simp only [st_243_2, if_neg (show ¬ x3 < d (x0 + 1) 9 from Int.not_lt.mpr c0)]
    rw [y0] at h
    exact h (show 0 ≤ ((0 : Int)) ∧ ((0 : Int)) ≤ 1 from (by omega))
  · refine k_179 hS ?_
    refine t_243_21 ?_
    have q2 := mt_0 hS hx0 x3 ((452 + (24 * x3)) + 0) (by omega) (by omega)
    refine ⟨by omega, ⟨m_inR (by omega) (by omega), m_inR (by omega) (by omega)⟩, fun c1 => ?_, fun c1 => ?_⟩
    · refine ih2 (x3 + 1)  d hS (by omega) (by omega) (by omega) ?_
      intro e
      have y0 : st_243_2 x0 x1 x2 r2 x3 d = r2 (x3 + 1) d := by simp only [st_243_2, if_pos (show x3 < d (x0 + 1) 9 from c0), if_neg (show ¬ d (x0 + 1) ((452 + (24 * x3)) + 0) = x1 from c1)]
      rw [y0] at h
      exact h e
    · refine k_179 hS ?_
      refine t_243_36 ?_
      have q3 := mt_4 hS hx0 x3 ((452 + (24 * x3)) + 4) (by omega) (by omega)
      refine ⟨by omega, ⟨m_inR (by omega) (by omega), m_inR (by omega) (by omega)⟩, fun c2 => ?_, fun c2 => ?_⟩
      · refine ih2 (x3 + 1)  d hS (by omega) (by omega) (by omega) ?_
        intro e
        have y0 : st_243_2 x0 x1 x2 r2 x3 d = r2 (x3 + 1) d := by simp only [st_243_2, if_pos (show x3 < d (x0 + 1) 9 from c0), if_pos (show d (x0 + 1) ((452 + (24 * x3)) + 0) = x1 from c1), if_neg (show ¬ d (x0 + 1) ((452 + (24 * x3)) + 4) = 1 from c2)]
        rw [y0] at h
        exact h e
      · refine k_214 hS hx0 (by omega) (m_inR (by omega) (by omega)) (fun e1 => ?_)
        refine t_243_49 ?_
        refine ⟨m_inR (by omega) (by omega), fun c3 => ?_, fun c3 => ?_⟩
        · refine ih2 (x3 + 1)  d hS (by omega) (by omega) (by omega) ?_
          intro e
          have y0 : st_243_2 x0 x1 x2 r2 x3 d = r2 (x3 + 1) d := by simp only [st_243_2, if_pos (show x3 < d (x0 + 1) 9 from c0), if_pos (show d (x0 + 1) ((452 + (24 * x3)) + 0) = x1 from c1), if_pos (show d (x0 + 1) ((452 + (24 * x3)) + 4) = 1 from c2), if_pos (show v_214 x0 x3 x2 d = 0 from c3)]
          rw [y0] at h
          exact h e
        · refine ⟨by omega, ?_⟩
          have y0 : st_243_2 x0 x1 x2 r2 x3 d = 1 := by simp only [st_243_2, if_pos (show x3 < d (x0 + 1) 9 from c0), if_pos (show d (x0 + 1) ((452 + (24 * x3)) + 0) = x1 from c1), if_pos (show d (x0 + 1) ((452 + (24 * x3)) + 4) = 1 from c2), if_neg (show ¬ v_214 x0 x3 x2 d = 0 from c3)]
          rw [y0] at h
          exact h (show 0 ≤ ((1 : Int)) ∧ ((1 : Int)) ≤ 1 from (by omega))
theorem l_243_2 {E : mO × tW} {K : tK} {x0 x1 x2 : Int} (hx0 : mdB x0) (p1 : -2147483648 ≤ x1 ∧ x1 ≤ 2147483647) (p2 : -2147483648 ≤ x2 ∧ x2 ≤ 2147483647) : ∀ (n : Nat) (x3 : Int) (d : mD), Safe d → (0 ≤ x3 ∧ x3 ≤ 61) → 61 - x3 ≤ (n : Int) → ((0 ≤ (lp_243_2 x0 x1 x2 n x3 d) ∧ (lp_243_2 x0 x1 x2 n x3 d) ≤ 1) → K (.inl (some (0, (lp_243_2 x0 x1 x2 n x3 d)))) d) → tRun E 243 (2, [.inr (11, x0), .inl (0, x1), .inl (0, x2), .inl (0, x3)], [], 0, 0, d) K := by
  intro n
  induction n with
  | zero =>
    intro x3  d hS i0 hm  h
    exact ls_243_2 hx0 p1 p2 0 _ (fun _  _ _ _ m0 m1 _ => absurd m1 (by omega)) x3  d hS i0 hm  h
  | succ n ih =>
    intro x3  d hS i0 hm  h
    exact ls_243_2 hx0 p1 p2 ((n + 1 : Nat) : Int) _ (fun x3  d hS i0  m0 m1 h => ih x3  d hS i0 (by omega)  h) x3  d hS i0 hm  h
def v_243 (x0 x1 x2 : Int) (d : mD) : Int := lp_243_2 x0 x1 x2 (61 - 0 : Int).toNat 0 d
theorem k_243 {E : mO × tW} {K : tK} {d : mD} {x0 x1 x2 : Int} (hS : Safe d) (hx0 : mdB x0) (p1 : -2147483648 ≤ x1 ∧ x1 ≤ 2147483647) (p2 : -2147483648 ≤ x2 ∧ x2 ≤ 2147483647) (h : (0 ≤ (v_243 x0 x1 x2 d) ∧ (v_243 x0 x1 x2 d) ≤ 1) → K (.inl (some (0, (v_243 x0 x1 x2 d)))) d) : tCall E 243 [.inr (11, x0), .inl (0, x1), .inl (0, x2)] d K := by
  refine t_243_0 ?_
  have w0 := mh_0 hS hx0 _ rfl
  have w7 := mh_7 hS hx0 _ rfl
  have w8 := mh_8 hS hx0 _ rfl
  have w9 := mh_9 hS hx0 _ rfl
  have w10 := mh_10 hS hx0 _ rfl
  have w11 := mh_11 hS hx0 _ rfl
  refine l_243_2 hx0 p1 p2 (61 - 0 : Int).toNat 0  d hS (by omega) (by omega) ?_
  intro e
  have y0 : v_243 x0 x1 x2 d = lp_243_2 x0 x1 x2 (61 - 0 : Int).toNat 0 d := by simp only [v_243]
  rw [y0] at h
  exact h e
def st_244_5 (x0 x1 x2 : Int) (r5 : Int → Int → mD → Int) (x3 x4 : Int) (d : mD) : Int := if x4 < d (x0 + 1) 0 then (if v_243 x0 x1 x4 d = 0 then r5 (x3 + 0) (x4 + 1) d else if x2 = 0 then r5 (x3 + 1) (x4 + 1) d else if v_216 x0 x1 x4 d = 0 then r5 (x3 + 1) (x4 + 1) d else r5 (x3 + 0) (x4 + 1) d) else x3
def lp_244_5 (x0 x1 x2 : Int) : Nat → Int → Int → mD → Int
  | 0 => st_244_5 x0 x1 x2 (fun _ _ d => 0)
  | n + 1 => st_244_5 x0 x1 x2 (lp_244_5 x0 x1 x2 n)
theorem ls_244_5 {E : mO × tW} {K : tK} {x0 x1 x2 : Int} (hx0 : mdB x0) (p1 : -2147483648 ≤ x1 ∧ x1 ≤ 2147483647) (p2 : 0 ≤ x2 ∧ x2 ≤ 1) (N5 : Int) (r5 : Int → Int → mD → Int) (ih5 : ∀ (x3 x4 : Int) (d : mD), Safe d → (0 ≤ x4 ∧ x4 ≤ 1200) → (0 ≤ x3 ∧ x3 ≤ x4) → 0 ≤ 1200 - x4 → 1200 - x4 < N5 → ((0 ≤ (r5 x3 x4 d) ∧ (r5 x3 x4 d) ≤ 1200) → K (.inl (some (0, (r5 x3 x4 d)))) d) → tRun E 244 (5, [.inr (11, x0), .inl (0, x1), .inl (0, x2), .inl (0, x3), .inl (0, x4)], [], 0, 0, d) K) (x3 x4 : Int) (d : mD) (hS : Safe d) (i0 : 0 ≤ x4 ∧ x4 ≤ 1200) (i1 : 0 ≤ x3 ∧ x3 ≤ x4) (hm : 1200 - x4 ≤ N5) (h : (0 ≤ (st_244_5 x0 x1 x2 r5 x3 x4 d) ∧ (st_244_5 x0 x1 x2 r5 x3 x4 d) ≤ 1200) → K (.inl (some (0, (st_244_5 x0 x1 x2 r5 x3 x4 d)))) d) : tRun E 244 (5, [.inr (11, x0), .inl (0, x1), .inl (0, x2), .inl (0, x3), .inl (0, x4)], [], 0, 0, d) K := by
  refine t_244_5 ?_
  have q1 := mh_0 hS hx0 _ rfl
  refine ⟨by omega, ⟨m_inR (by omega) (by omega), m_inR (by omega) (by omega)⟩, fun c0 => ?_, fun c0 => ?_⟩
  · have y0 : st_244_5 x0 x1 x2 r5 x3 x4 d = x3 := by simp only [st_244_5, if_neg (show ¬ x4 < d (x0 + 1) 0 from Int.not_lt.mpr c0)]
    rw [y0] at h
    exact h (show 0 ≤ x3 ∧ x3 ≤ 1200 from (by omega))
  · refine k_243 hS hx0 (m_inR (by omega) (by omega)) (m_inR (by omega) (by omega)) (fun e1 => ?_)
    refine t_244_24 ?_
    refine ⟨m_inR (by omega) (by omega), fun c1 => ?_, fun c1 => ?_⟩
    · refine ih5 (x3 + 0) (x4 + 1)  d hS (by omega) (by omega) (by omega) (by omega) ?_
      intro e
      have y0 : st_244_5 x0 x1 x2 r5 x3 x4 d = r5 (x3 + 0) (x4 + 1) d := by simp only [st_244_5, if_pos (show x4 < d (x0 + 1) 0 from c0), if_pos (show v_243 x0 x1 x4 d = 0 from c1)]
      rw [y0] at h
      exact h e
    · refine ⟨m_inR (by omega) (by omega), fun c2 => ?_, fun c2 => ?_⟩
      · refine ih5 (x3 + 1) (x4 + 1)  d hS (by omega) (by omega) (by omega) (by omega) ?_
        intro e
        have y0 : st_244_5 x0 x1 x2 r5 x3 x4 d = r5 (x3 + 1) (x4 + 1) d := by simp only [st_244_5, if_pos (show x4 < d (x0 + 1) 0 from c0), if_neg (show ¬ v_243 x0 x1 x4 d = 0 from c1), if_pos (show x2 = 0 from c2)]
        rw [y0] at h
        exact h e
      · refine k_216 hS hx0 (m_inR (by omega) (by omega)) (m_inR (by omega) (by omega)) (fun e2 => ?_)
        refine t_244_38 ?_
        refine ⟨m_inR (by omega) (by omega), fun c3 => ?_, fun c3 => ?_⟩
        · refine ih5 (x3 + 0) (x4 + 1)  d hS (by omega) (by omega) (by omega) (by omega) ?_
          intro e
          have y0 : st_244_5 x0 x1 x2 r5 x3 x4 d = r5 (x3 + 0) (x4 + 1) d := by simp only [st_244_5, if_pos (show x4 < d (x0 + 1) 0 from c0), if_neg (show ¬ v_243 x0 x1 x4 d = 0 from c1), if_neg (show ¬ x2 = 0 from c2), if_neg (show ¬ v_216 x0 x1 x4 d = 0 from c3)]
          rw [y0] at h
          exact h e
        · refine ih5 (x3 + 1) (x4 + 1)  d hS (by omega) (by omega) (by omega) (by omega) ?_
          intro e
          have y0 : st_244_5 x0 x1 x2 r5 x3 x4 d = r5 (x3 + 1) (x4 + 1) d := by simp only [st_244_5, if_pos (show x4 < d (x0 + 1) 0 from c0), if_neg (show ¬ v_243 x0 x1 x4 d = 0 from c1), if_neg (show ¬ x2 = 0 from c2), if_pos (show v_216 x0 x1 x4 d = 0 from c3)]
          rw [y0] at h
          exact h e
theorem l_244_5 {E : mO × tW} {K : tK} {x0 x1 x2 : Int} (hx0 : mdB x0) (p1 : -2147483648 ≤ x1 ∧ x1 ≤ 2147483647) (p2 : 0 ≤ x2 ∧ x2 ≤ 1) : ∀ (n : Nat) (x3 x4 : Int) (d : mD), Safe d → (0 ≤ x4 ∧ x4 ≤ 1200) → (0 ≤ x3 ∧ x3 ≤ x4) → 1200 - x4 ≤ (n : Int) → ((0 ≤ (lp_244_5 x0 x1 x2 n x3 x4 d) ∧ (lp_244_5 x0 x1 x2 n x3 x4 d) ≤ 1200) → K (.inl (some (0, (lp_244_5 x0 x1 x2 n x3 x4 d)))) d) → tRun E 244 (5, [.inr (11, x0), .inl (0, x1), .inl (0, x2), .inl (0, x3), .inl (0, x4)], [], 0, 0, d) K := by
  intro n
  induction n with
  | zero =>
    intro x3 x4  d hS i0 i1 hm  h
    exact ls_244_5 hx0 p1 p2 0 _ (fun _ _  _ _ _ _ m0 m1 _ => absurd m1 (by omega)) x3 x4  d hS i0 i1 hm  h
  | succ n ih =>
    intro x3 x4  d hS i0 i1 hm  h
    exact ls_244_5 hx0 p1 p2 ((n + 1 : Nat) : Int) _ (fun x3 x4  d hS i0 i1  m0 m1 h => ih x3 x4  d hS i0 i1 (by omega)  h) x3 x4  d hS i0 i1 hm  h
def v_244 (x0 x1 x2 : Int) (d : mD) : Int := lp_244_5 x0 x1 x2 (1200 - 0 : Int).toNat 0 0 d
theorem k_244 {E : mO × tW} {K : tK} {d : mD} {x0 x1 x2 : Int} (hS : Safe d) (hx0 : mdB x0) (p1 : -2147483648 ≤ x1 ∧ x1 ≤ 2147483647) (p2 : 0 ≤ x2 ∧ x2 ≤ 1) (h : (0 ≤ (v_244 x0 x1 x2 d) ∧ (v_244 x0 x1 x2 d) ≤ 1200) → K (.inl (some (0, (v_244 x0 x1 x2 d)))) d) : tCall E 244 [.inr (11, x0), .inl (0, x1), .inl (0, x2)] d K := by
  refine t_244_0 ?_
  have w0 := mh_0 hS hx0 _ rfl
  have w7 := mh_7 hS hx0 _ rfl
  have w8 := mh_8 hS hx0 _ rfl
  have w9 := mh_9 hS hx0 _ rfl
  have w10 := mh_10 hS hx0 _ rfl
  have w11 := mh_11 hS hx0 _ rfl
  have q2 := mh_0 hS hx0 _ rfl
  refine l_244_5 hx0 p1 p2 (1200 - 0 : Int).toNat 0 0  d hS (by omega) (by omega) (by omega) ?_
  intro e
  have y0 : v_244 x0 x1 x2 d = lp_244_5 x0 x1 x2 (1200 - 0 : Int).toNat 0 0 d := by simp only [v_244]
  rw [y0] at h
  exact h e
def st_245_5 (x0 x1 x2 : Int) (r5 : Int → Int → mD → Int) (x3 x4 : Int) (d : mD) : Int := if x4 < d (x0 + 1) 10 then (if d (x0 + 1) ((1916 + (5 * x4)) + 0) = x1 then (if d (x0 + 1) ((1916 + (5 * x4)) + 3) = x2 then r5 (x3 + 1) (x4 + 1) d else r5 (x3 + 0) (x4 + 1) d) else r5 (x3 + 0) (x4 + 1) d) else x3
def lp_245_5 (x0 x1 x2 : Int) : Nat → Int → Int → mD → Int
  | 0 => st_245_5 x0 x1 x2 (fun _ _ d => 0)
  | n + 1 => st_245_5 x0 x1 x2 (lp_245_5 x0 x1 x2 n)
theorem ls_245_5 {E : mO × tW} {K : tK} {x0 x1 x2 : Int} (hx0 : mdB x0) (p1 : -2147483648 ≤ x1 ∧ x1 ≤ 2147483647) (p2 : -2147483648 ≤ x2 ∧ x2 ≤ 2147483647) (N5 : Int) (r5 : Int → Int → mD → Int) (ih5 : ∀ (x3 x4 : Int) (d : mD), Safe d → (0 ≤ x4 ∧ x4 ≤ 200) → (0 ≤ x3 ∧ x3 ≤ x4) → 0 ≤ 200 - x4 → 200 - x4 < N5 → ((0 ≤ (r5 x3 x4 d) ∧ (r5 x3 x4 d) ≤ 200) → K (.inl (some (0, (r5 x3 x4 d)))) d) → tRun E 245 (5, [.inr (11, x0), .inl (0, x1), .inl (0, x2), .inl (0, x3), .inl (0, x4)], [], 0, 0, d) K) (x3 x4 : Int) (d : mD) (hS : Safe d) (i0 : 0 ≤ x4 ∧ x4 ≤ 200) (i1 : 0 ≤ x3 ∧ x3 ≤ x4) (hm : 200 - x4 ≤ N5) (h : (0 ≤ (st_245_5 x0 x1 x2 r5 x3 x4 d) ∧ (st_245_5 x0 x1 x2 r5 x3 x4 d) ≤ 200) → K (.inl (some (0, (st_245_5 x0 x1 x2 r5 x3 x4 d)))) d) : tRun E 245 (5, [.inr (11, x0), .inl (0, x1), .inl (0, x2), .inl (0, x3), .inl (0, x4)], [], 0, 0, d) K := by
  refine t_245_5 ?_
  have q1 := mh_10 hS hx0 _ rfl
  refine ⟨by omega, ⟨m_inR (by omega) (by omega), m_inR (by omega) (by omega)⟩, fun c0 => ?_, fun c0 => ?_⟩
  · have y0 : st_245_5 x0 x1 x2 r5 x3 x4 d = x3 := by simp only [st_245_5, if_neg (show ¬ x4 < d (x0 + 1) 10 from Int.not_lt.mpr c0)]
    rw [y0] at h
    exact h (show 0 ≤ x3 ∧ x3 ≤ 200 from (by omega))
  · refine k_180 hS ?_
    refine t_245_27 ?_
    have q2 := mk_0 hS hx0 x4 ((1916 + (5 * x4)) + 0) (by omega) (by omega)
    refine ⟨by omega, ⟨m_inR (by omega) (by omega), m_inR (by omega) (by omega)⟩, fun c1 => ?_, fun c1 => ?_⟩
    · refine ih5 (x3 + 0) (x4 + 1)  d hS (by omega) (by omega) (by omega) (by omega) ?_
      intro e
      have y0 : st_245_5 x0 x1 x2 r5 x3 x4 d = r5 (x3 + 0) (x4 + 1) d := by simp only [st_245_5, if_pos (show x4 < d (x0 + 1) 10 from c0), if_neg (show ¬ d (x0 + 1) ((1916 + (5 * x4)) + 0) = x1 from c1)]
      rw [y0] at h
      exact h e
    · refine k_180 hS ?_
      refine t_245_43 ?_
      have q3 := mk_3 hS hx0 x4 ((1916 + (5 * x4)) + 3) (by omega) (by omega)
      refine ⟨by omega, ⟨m_inR (by omega) (by omega), m_inR (by omega) (by omega)⟩, fun c2 => ?_, fun c2 => ?_⟩
      · refine ih5 (x3 + 0) (x4 + 1)  d hS (by omega) (by omega) (by omega) (by omega) ?_
        intro e
        have y0 : st_245_5 x0 x1 x2 r5 x3 x4 d = r5 (x3 + 0) (x4 + 1) d := by simp only [st_245_5, if_pos (show x4 < d (x0 + 1) 10 from c0), if_pos (show d (x0 + 1) ((1916 + (5 * x4)) + 0) = x1 from c1), if_neg (show ¬ d (x0 + 1) ((1916 + (5 * x4)) + 3) = x2 from c2)]
        rw [y0] at h
        exact h e
      · refine ih5 (x3 + 1) (x4 + 1)  d hS (by omega) (by omega) (by omega) (by omega) ?_
        intro e
        have y0 : st_245_5 x0 x1 x2 r5 x3 x4 d = r5 (x3 + 1) (x4 + 1) d := by simp only [st_245_5, if_pos (show x4 < d (x0 + 1) 10 from c0), if_pos (show d (x0 + 1) ((1916 + (5 * x4)) + 0) = x1 from c1), if_pos (show d (x0 + 1) ((1916 + (5 * x4)) + 3) = x2 from c2)]
        rw [y0] at h
        exact h e
theorem l_245_5 {E : mO × tW} {K : tK} {x0 x1 x2 : Int} (hx0 : mdB x0) (p1 : -2147483648 ≤ x1 ∧ x1 ≤ 2147483647) (p2 : -2147483648 ≤ x2 ∧ x2 ≤ 2147483647) : ∀ (n : Nat) (x3 x4 : Int) (d : mD), Safe d → (0 ≤ x4 ∧ x4 ≤ 200) → (0 ≤ x3 ∧ x3 ≤ x4) → 200 - x4 ≤ (n : Int) → ((0 ≤ (lp_245_5 x0 x1 x2 n x3 x4 d) ∧ (lp_245_5 x0 x1 x2 n x3 x4 d) ≤ 200) → K (.inl (some (0, (lp_245_5 x0 x1 x2 n x3 x4 d)))) d) → tRun E 245 (5, [.inr (11, x0), .inl (0, x1), .inl (0, x2), .inl (0, x3), .inl (0, x4)], [], 0, 0, d) K := by
  intro n
  induction n with
  | zero =>
    intro x3 x4  d hS i0 i1 hm  h
    exact ls_245_5 hx0 p1 p2 0 _ (fun _ _  _ _ _ _ m0 m1 _ => absurd m1 (by omega)) x3 x4  d hS i0 i1 hm  h
  | succ n ih =>
    intro x3 x4  d hS i0 i1 hm  h
    exact ls_245_5 hx0 p1 p2 ((n + 1 : Nat) : Int) _ (fun x3 x4  d hS i0 i1  m0 m1 h => ih x3 x4  d hS i0 i1 (by omega)  h) x3 x4  d hS i0 i1 hm  h
def v_245 (x0 x1 x2 : Int) (d : mD) : Int := lp_245_5 x0 x1 x2 (200 - 0 : Int).toNat 0 0 d
theorem k_245 {E : mO × tW} {K : tK} {d : mD} {x0 x1 x2 : Int} (hS : Safe d) (hx0 : mdB x0) (p1 : -2147483648 ≤ x1 ∧ x1 ≤ 2147483647) (p2 : -2147483648 ≤ x2 ∧ x2 ≤ 2147483647) (h : (0 ≤ (v_245 x0 x1 x2 d) ∧ (v_245 x0 x1 x2 d) ≤ 200) → K (.inl (some (0, (v_245 x0 x1 x2 d)))) d) : tCall E 245 [.inr (11, x0), .inl (0, x1), .inl (0, x2)] d K := by
  refine t_245_0 ?_
  have w0 := mh_0 hS hx0 _ rfl
  have w7 := mh_7 hS hx0 _ rfl
  have w8 := mh_8 hS hx0 _ rfl
  have w9 := mh_9 hS hx0 _ rfl
  have w10 := mh_10 hS hx0 _ rfl
  have w11 := mh_11 hS hx0 _ rfl
  refine l_245_5 hx0 p1 p2 (200 - 0 : Int).toNat 0 0  d hS (by omega) (by omega) (by omega) ?_
  intro e
  have y0 : v_245 x0 x1 x2 d = lp_245_5 x0 x1 x2 (200 - 0 : Int).toNat 0 0 d := by simp only [v_245]
  rw [y0] at h
  exact h e
def st_246_140 (x0 x1 x2 : Int) (r140 : Int → Int → Int → Int → mD → Int × mD) (x3 x4 x5 x6 : Int) (d : mD) : Int × mD := if x6 < d (x0 + 1) 10 then (if v_215 x0 x6 d = x1 then r140 x3 x4 (x5 + 1) (x6 + 1) d else r140 x3 x4 (x5 + 0) (x6 + 1) d) else if x2 = 0 then (d (x0 + 1) ((420 + (2 * x1)) + 1), d) else if x2 = 1 then (x3, d) else if x2 = 2 then (x4, d) else if x2 = 3 then (v_245 x0 x1 0 d, d) else if x2 = 4 then (v_245 x0 x1 1 d, d) else if x2 = 5 then (v_245 x0 x1 2 d, d) else if x2 = 6 then (x5, d) else if x2 = 7 then (v_217 x0 x1 d, d) else if x2 = 8 then (v_233 x0 x1 d, d) else (v_244 x0 x1 1 d, d)
def lp_246_140 (x0 x1 x2 : Int) : Nat → Int → Int → Int → Int → mD → Int × mD
  | 0 => st_246_140 x0 x1 x2 (fun _ _ _ _ d => (0, d))
  | n + 1 => st_246_140 x0 x1 x2 (lp_246_140 x0 x1 x2 n)
theorem ls_246_140 {E : mO × tW} {K : tK} {x0 x1 x2 : Int} (hx0 : mdB x0) (p1 : -2147483648 ≤ x1 ∧ x1 ≤ 2147483647) (p2 : -2147483648 ≤ x2 ∧ x2 ≤ 2147483647) (N140 : Int) (r140 : Int → Int → Int → Int → mD → Int × mD) (ih140 : ∀ (x3 x4 x5 x6 : Int) (d : mD), Safe d → (0 ≤ x6 ∧ x6 ≤ 200) → (0 ≤ x1 ∧ x1 ≤ 15) → 0 ≤ 200 - x6 → 200 - x6 < N140 → ((∀ b : Int, (b < x0 ∨ x0 < b) → (r140 x3 x4 x5 x6 d).2 b = d b) → Safe (r140 x3 x4 x5 x6 d).2 → K (.inl (some (0, (r140 x3 x4 x5 x6 d).1))) (r140 x3 x4 x5 x6 d).2) → tRun E 246 (140, [.inr (11, x0), .inl (0, x1), .inl (0, x2), .inl (0, x3), .inl (0, x4), .inl (0, x5), .inl (0, x6)], [], 0, 0, d) K) (x3 x4 x5 x6 : Int) (d : mD) (hS : Safe d) (i0 : 0 ≤ x6 ∧ x6 ≤ 200) (i1 : 0 ≤ x1 ∧ x1 ≤ 15) (hm : 200 - x6 ≤ N140) (h : (∀ b : Int, (b < x0 ∨ x0 < b) → (st_246_140 x0 x1 x2 r140 x3 x4 x5 x6 d).2 b = d b) → Safe (st_246_140 x0 x1 x2 r140 x3 x4 x5 x6 d).2 → K (.inl (some (0, (st_246_140 x0 x1 x2 r140 x3 x4 x5 x6 d).1))) (st_246_140 x0 x1 x2 r140 x3 x4 x5 x6 d).2) : tRun E 246 (140, [.inr (11, x0), .inl (0, x1), .inl (0, x2), .inl (0, x3), .inl (0, x4), .inl (0, x5), .inl (0, x6)], [], 0, 0, d) K := by
  refine t_246_140 ?_
  have q1 := mh_10 hS hx0 _ rfl
  refine ⟨by omega, ⟨m_inR (by omega) (by omega), m_inR (by omega) (by omega)⟩, fun c0 => ?_, fun c0 => ?_⟩
  · refine ⟨m_inR (by omega) (by omega), fun c1 => ?_, fun c1 => ?_, fun c1 => ?_, fun c1 => ?_, fun c1 => ?_, fun c1 => ?_, fun c1 => ?_, fun c1 => ?_, fun c1 => ?_, fun c1 => ?_⟩
    · refine k_178 hS ?_
      refine t_246_236 ?_
      refine ⟨by omega, ?_⟩
      have y0 : st_246_140 x0 x1 x2 r140 x3 x4 x5 x6 d = (d (x0 + 1) ((420 + (2 * x1)) + 1), d) := by simp only [st_246_140, if_neg (show ¬ x6 < d (x0 + 1) 10 from Int.not_lt.mpr c0), if_pos (show x2 = 0 from c1)]
      rw [y0] at h
      exact h (show ∀ b : Int, (b < x0 ∨ x0 < b) → d b = d b from fun _ _ => rfl) hS
    · have y0 : st_246_140 x0 x1 x2 r140 x3 x4 x5 x6 d = (x3, d) := by simp only [st_246_140, if_neg (show ¬ x6 < d (x0 + 1) 10 from Int.not_lt.mpr c0), if_neg (show ¬ x2 = 0 by omega), if_pos (show x2 = 1 from c1)]
      rw [y0] at h
      exact h (show ∀ b : Int, (b < x0 ∨ x0 < b) → d b = d b from fun _ _ => rfl) hS
    · have y0 : st_246_140 x0 x1 x2 r140 x3 x4 x5 x6 d = (x4, d) := by simp only [st_246_140, if_neg (show ¬ x6 < d (x0 + 1) 10 from Int.not_lt.mpr c0), if_neg (show ¬ x2 = 0 by omega), if_neg (show ¬ x2 = 1 by omega), if_pos (show x2 = 2 from c1)]
      rw [y0] at h
      exact h (show ∀ b : Int, (b < x0 ∨ x0 < b) → d b = d b from fun _ _ => rfl) hS
    · refine k_245 hS hx0 (m_inR (by omega) (by omega)) (m_inR (by omega) (by omega)) (fun e1 => ?_)
      refine t_246_251 ?_
      have y0 : st_246_140 x0 x1 x2 r140 x3 x4 x5 x6 d = (v_245 x0 x1 0 d, d) := by simp only [st_246_140, if_neg (show ¬ x6 < d (x0 + 1) 10 from Int.not_lt.mpr c0), if_neg (show ¬ x2 = 0 by omega), if_neg (show ¬ x2 = 1 by omega), if_neg (show ¬ x2 = 2 by omega), if_pos (show x2 = 3 from c1)]
      rw [y0] at h
      exact h (show ∀ b : Int, (b < x0 ∨ x0 < b) → d b = d b from fun _ _ => rfl) hS
    · refine k_245 hS hx0 (m_inR (by omega) (by omega)) (m_inR (by omega) (by omega)) (fun e2 => ?_)
      refine t_246_258 ?_
      have y0 : st_246_140 x0 x1 x2 r140 x3 x4 x5 x6 d = (v_245 x0 x1 1 d, d) := by simp only [st_246_140, if_neg (show ¬ x6 < d (x0 + 1) 10 from Int.not_lt.mpr c0), if_neg (show ¬ x2 = 0 by omega), if_neg (show ¬ x2 = 1 by omega), if_neg (show ¬ x2 = 2 by omega), if_neg (show ¬ x2 = 3 by omega), if_pos (show x2 = 4 from c1)]
      rw [y0] at h
      exact h (show ∀ b : Int, (b < x0 ∨ x0 < b) → d b = d b from fun _ _ => rfl) hS
    · refine k_245 hS hx0 (m_inR (by omega) (by omega)) (m_inR (by omega) (by omega)) (fun e3 => ?_)
      refine t_246_265 ?_
      have y0 : st_246_140 x0 x1 x2 r140 x3 x4 x5 x6 d = (v_245 x0 x1 2 d, d) := by simp only [st_246_140, if_neg (show ¬ x6 < d (x0 + 1) 10 from Int.not_lt.mpr c0), if_neg (show ¬ x2 = 0 by omega), if_neg (show ¬ x2 = 1 by omega), if_neg (show ¬ x2 = 2 by omega), if_neg (show ¬ x2 = 3 by omega), if_neg (show ¬ x2 = 4 by omega), if_pos (show x2 = 5 from c1)]
      rw [y0] at h
      exact h (show ∀ b : Int, (b < x0 ∨ x0 < b) → d b = d b from fun _ _ => rfl) hS
    · have y0 : st_246_140 x0 x1 x2 r140 x3 x4 x5 x6 d = (x5, d) := by simp only [st_246_140, if_neg (show ¬ x6 < d (x0 + 1) 10 from Int.not_lt.mpr c0), if_neg (show ¬ x2 = 0 by omega), if_neg (show ¬ x2 = 1 by omega), if_neg (show ¬ x2 = 2 by omega), if_neg (show ¬ x2 = 3 by omega), if_neg (show ¬ x2 = 4 by omega), if_neg (show ¬ x2 = 5 by omega), if_pos (show x2 = 6 from c1)]
      rw [y0] at h
      exact h (show ∀ b : Int, (b < x0 ∨ x0 < b) → d b = d b from fun _ _ => rfl) hS
    · refine k_217 hS hx0 (m_inR (by omega) (by omega)) (fun e4 => ?_)
      refine t_246_274 ?_
      have y0 : st_246_140 x0 x1 x2 r140 x3 x4 x5 x6 d = (v_217 x0 x1 d, d) := by simp only [st_246_140, if_neg (show ¬ x6 < d (x0 + 1) 10 from Int.not_lt.mpr c0), if_neg (show ¬ x2 = 0 by omega), if_neg (show ¬ x2 = 1 by omega), if_neg (show ¬ x2 = 2 by omega), if_neg (show ¬ x2 = 3 by omega), if_neg (show ¬ x2 = 4 by omega), if_neg (show ¬ x2 = 5 by omega), if_neg (show ¬ x2 = 6 by omega), if_pos (show x2 = 7 from c1)]
      rw [y0] at h
      exact h (show ∀ b : Int, (b < x0 ∨ x0 < b) → d b = d b from fun _ _ => rfl) hS
    · refine k_233 hS hx0 (by omega) (fun e5 => ?_)
      refine t_246_280 ?_
      have y0 : st_246_140 x0 x1 x2 r140 x3 x4 x5 x6 d = (v_233 x0 x1 d, d) := by simp only [st_246_140, if_neg (show ¬ x6 < d (x0 + 1) 10 from Int.not_lt.mpr c0), if_neg (show ¬ x2 = 0 by omega), if_neg (show ¬ x2 = 1 by omega), if_neg (show ¬ x2 = 2 by omega), if_neg (show ¬ x2 = 3 by omega), if_neg (show ¬ x2 = 4 by omega), if_neg (show ¬ x2 = 5 by omega), if_neg (show ¬ x2 = 6 by omega), if_neg (show ¬ x2 = 7 by omega), if_pos (show x2 = 8 from c1)]
      rw [y0] at h
      exact h (show ∀ b : Int, (b < x0 ∨ x0 < b) → d b = d b from fun _ _ => rfl) hS
    · refine k_244 hS hx0 (m_inR (by omega) (by omega)) (by omega) (fun e6 => ?_)
      refine t_246_287 ?_
      have y0 : st_246_140 x0 x1 x2 r140 x3 x4 x5 x6 d = (v_244 x0 x1 1 d, d) := by simp only [st_246_140, if_neg (show ¬ x6 < d (x0 + 1) 10 from Int.not_lt.mpr c0), if_neg (show ¬ x2 = 0 by omega), if_neg (show ¬ x2 = 1 by omega), if_neg (show ¬ x2 = 2 by omega), if_neg (show ¬ x2 = 3 by omega), if_neg (show ¬ x2 = 4 by omega), if_neg (show ¬ x2 = 5 by omega), if_neg (show ¬ x2 = 6 by omega), if_neg (show ¬ x2 = 7 by omega), if_neg (show ¬ x2 = 8 by omega)]
      rw [y0] at h
      exact h (show ∀ b : Int, (b < x0 ∨ x0 < b) → d b = d b from fun _ _ => rfl) hS
  · refine k_215 hS hx0 (by omega) (fun e7 => ?_)
    refine t_246_160 ?_
    refine ⟨⟨m_inR (by omega) (by omega), m_inR (by omega) (by omega)⟩, fun c1 => ?_, fun c1 => ?_⟩
    · refine ih140 x3 x4 (x5 + 0) (x6 + 1)  d hS (by omega) (by omega) (by omega) (by omega) ?_
      intro F hS_
      have y0 : st_246_140 x0 x1 x2 r140 x3 x4 x5 x6 d = r140 x3 x4 (x5 + 0) (x6 + 1) d := by simp only [st_246_140, if_pos (show x6 < d (x0 + 1) 10 from c0), if_neg (show ¬ v_215 x0 x6 d = x1 from c1)]
      rw [y0] at h
      exact h F hS_
    · refine ih140 x3 x4 (x5 + 1) (x6 + 1)  d hS (by omega) (by omega) (by omega) (by omega) ?_
      intro F hS_
      have y0 : st_246_140 x0 x1 x2 r140 x3 x4 x5 x6 d = r140 x3 x4 (x5 + 1) (x6 + 1) d := by simp only [st_246_140, if_pos (show x6 < d (x0 + 1) 10 from c0), if_pos (show v_215 x0 x6 d = x1 from c1)]
      rw [y0] at h
      exact h F hS_
theorem l_246_140 {E : mO × tW} {K : tK} {x0 x1 x2 : Int} (hx0 : mdB x0) (p1 : -2147483648 ≤ x1 ∧ x1 ≤ 2147483647) (p2 : -2147483648 ≤ x2 ∧ x2 ≤ 2147483647) : ∀ (n : Nat) (x3 x4 x5 x6 : Int) (d : mD), Safe d → (0 ≤ x6 ∧ x6 ≤ 200) → (0 ≤ x1 ∧ x1 ≤ 15) → 200 - x6 ≤ (n : Int) → ((∀ b : Int, (b < x0 ∨ x0 < b) → (lp_246_140 x0 x1 x2 n x3 x4 x5 x6 d).2 b = d b) → Safe (lp_246_140 x0 x1 x2 n x3 x4 x5 x6 d).2 → K (.inl (some (0, (lp_246_140 x0 x1 x2 n x3 x4 x5 x6 d).1))) (lp_246_140 x0 x1 x2 n x3 x4 x5 x6 d).2) → tRun E 246 (140, [.inr (11, x0), .inl (0, x1), .inl (0, x2), .inl (0, x3), .inl (0, x4), .inl (0, x5), .inl (0, x6)], [], 0, 0, d) K := by
  intro n
  induction n with
  | zero =>
    intro x3 x4 x5 x6  d hS i0 i1 hm  h
    exact ls_246_140 hx0 p1 p2 0 _ (fun _ _ _ _  _ _ _ _ m0 m1 _ => absurd m1 (by omega)) x3 x4 x5 x6  d hS i0 i1 hm  h
  | succ n ih =>
    intro x3 x4 x5 x6  d hS i0 i1 hm  h
    exact ls_246_140 hx0 p1 p2 ((n + 1 : Nat) : Int) _ (fun x3 x4 x5 x6  d hS i0 i1  m0 m1 h => ih x3 x4 x5 x6  d hS i0 i1 (by omega)  h) x3 x4 x5 x6  d hS i0 i1 hm  h
def st_246_50 (x0 x1 x2 : Int) (r50 : Int → Int → Int → mD → Int × mD) (x3 x4 x5 : Int) (d : mD) : Int × mD := if x5 < d (x0 + 1) 9 then (if d (x0 + 1) ((452 + (24 * x5)) + 0) = x1 then (if d (x0 + 1) ((452 + (24 * x5)) + 4) = 0 then r50 (x3 + 1) (x4 + 1) (x5 + 1) d else r50 (x3 + 1) (x4 + 0) (x5 + 1) d) else r50 (x3 + 0) (x4 + 0) (x5 + 1) d) else lp_246_140 x0 x1 x2 (200 - 0 : Int).toNat x3 x4 0 0 d
def lp_246_50 (x0 x1 x2 : Int) : Nat → Int → Int → Int → mD → Int × mD
  | 0 => st_246_50 x0 x1 x2 (fun _ _ _ d => (0, d))
  | n + 1 => st_246_50 x0 x1 x2 (lp_246_50 x0 x1 x2 n)
theorem ls_246_50 {E : mO × tW} {K : tK} {x0 x1 x2 : Int} (hx0 : mdB x0) (p1 : -2147483648 ≤ x1 ∧ x1 ≤ 2147483647) (p2 : -2147483648 ≤ x2 ∧ x2 ≤ 2147483647) (N50 : Int) (r50 : Int → Int → Int → mD → Int × mD) (ih50 : ∀ (x3 x4 x5 : Int) (v6 : tV) (d : mD), Safe d → (0 ≤ x5 ∧ x5 ≤ 61) → (0 ≤ x1 ∧ x1 ≤ 15) → 0 ≤ 61 - x5 → 61 - x5 < N50 → ((∀ b : Int, (b < x0 ∨ x0 < b) → (r50 x3 x4 x5 d).2 b = d b) → Safe (r50 x3 x4 x5 d).2 → K (.inl (some (0, (r50 x3 x4 x5 d).1))) (r50 x3 x4 x5 d).2) → tRun E 246 (50, [.inr (11, x0), .inl (0, x1), .inl (0, x2), .inl (0, x3), .inl (0, x4), .inl (0, x5), v6], [], 0, 0, d) K) (x3 x4 x5 : Int) (v6 : tV) (d : mD) (hS : Safe d) (i0 : 0 ≤ x5 ∧ x5 ≤ 61) (i1 : 0 ≤ x1 ∧ x1 ≤ 15) (hm : 61 - x5 ≤ N50) (h : (∀ b : Int, (b < x0 ∨ x0 < b) → (st_246_50 x0 x1 x2 r50 x3 x4 x5 d).2 b = d b) → Safe (st_246_50 x0 x1 x2 r50 x3 x4 x5 d).2 → K (.inl (some (0, (st_246_50 x0 x1 x2 r50 x3 x4 x5 d).1))) (st_246_50 x0 x1 x2 r50 x3 x4 x5 d).2) : tRun E 246 (50, [.inr (11, x0), .inl (0, x1), .inl (0, x2), .inl (0, x3), .inl (0, x4), .inl (0, x5), v6], [], 0, 0, d) K := by
  refine t_246_50 ?_
  have q2 := mh_9 hS hx0 _ rfl
  refine ⟨by omega, ⟨m_inR (by omega) (by omega), m_inR (by omega) (by omega)⟩, fun c0 => ?_, fun c0 => ?_⟩
  · refine l_246_140 hx0 p1 p2 (200 - 0 : Int).toNat x3 x4 0 0  d hS (by omega) (by omega) (by omega) ?_
    intro F hS_
    have y0 : st_246_50 x0 x1 x2 r50 x3 x4 x5 d = lp_246_140 x0 x1 x2 (200 - 0 : Int).toNat x3 x4 0 0 d := by simp only [st_246_50, if_neg (show ¬ x5 < d (x0 + 1) 9 from Int.not_lt.mpr c0)]
    rw [y0] at h
    exact h F hS_
  · refine k_179 hS ?_
    refine t_246_71 ?_
    have q3 := mt_0 hS hx0 x5 ((452 + (24 * x5)) + 0) (by omega) (by omega)
    refine ⟨by omega, ⟨m_inR (by omega) (by omega), m_inR (by omega) (by omega)⟩, fun c1 => ?_, fun c1 => ?_⟩
    · refine ⟨m_inR (by omega) (by omega), fun c2 => ?_, fun c2 => ?_⟩
      · refine ⟨m_inR (by omega) (by omega), fun c3 => ?_, fun c3 => ?_⟩
        · refine ih50 (x3 + 0) (x4 + 0) (x5 + 1) (.inl (0, 0)) d hS (by omega) (by omega) (by omega) (by omega) ?_
          intro F hS_
          have y0 : st_246_50 x0 x1 x2 r50 x3 x4 x5 d = r50 (x3 + 0) (x4 + 0) (x5 + 1) d := by simp only [st_246_50, if_pos (show x5 < d (x0 + 1) 9 from c0), if_neg (show ¬ d (x0 + 1) ((452 + (24 * x5)) + 0) = x1 from c1), if_pos (show (0 : Int) = 0 from c2), if_pos (show (0 : Int) = 0 from c3)]
          rw [y0] at h
          exact h F hS_
        · exact (show False by omega).elim
      · exact (show False by omega).elim
    · refine ⟨m_inR (by omega) (by omega), fun c2 => ?_, fun c2 => ?_⟩
      · exact (show False by omega).elim
      · refine ⟨m_inR (by omega) (by omega), fun c3 => ?_, fun c3 => ?_⟩
        · exact (show False by omega).elim
        · refine k_179 hS ?_
          refine t_246_114 ?_
          have q4 := mt_4 hS hx0 x5 ((452 + (24 * x5)) + 4) (by omega) (by omega)
          refine ⟨by omega, m_inR (by omega) (by omega), fun c4 => ?_, fun c4 => ?_⟩
          · refine ih50 (x3 + 1) (x4 + 0) (x5 + 1) (.inl (0, 1)) d hS (by omega) (by omega) (by omega) (by omega) ?_
            intro F hS_
            have y0 : st_246_50 x0 x1 x2 r50 x3 x4 x5 d = r50 (x3 + 1) (x4 + 0) (x5 + 1) d := by simp only [st_246_50, if_pos (show x5 < d (x0 + 1) 9 from c0), if_pos (show d (x0 + 1) ((452 + (24 * x5)) + 0) = x1 from c1), if_neg (show ¬ (1 : Int) = 0 from c2), if_neg (show ¬ (1 : Int) = 0 from c3), if_neg (show ¬ d (x0 + 1) ((452 + (24 * x5)) + 4) = 0 from c4)]
            rw [y0] at h
            exact h F hS_
          · refine ih50 (x3 + 1) (x4 + 1) (x5 + 1) (.inl (0, 1)) d hS (by omega) (by omega) (by omega) (by omega) ?_
            intro F hS_
            have y0 : st_246_50 x0 x1 x2 r50 x3 x4 x5 d = r50 (x3 + 1) (x4 + 1) (x5 + 1) d := by simp only [st_246_50, if_pos (show x5 < d (x0 + 1) 9 from c0), if_pos (show d (x0 + 1) ((452 + (24 * x5)) + 0) = x1 from c1), if_neg (show ¬ (1 : Int) = 0 from c2), if_neg (show ¬ (1 : Int) = 0 from c3), if_pos (show d (x0 + 1) ((452 + (24 * x5)) + 4) = 0 from c4)]
            rw [y0] at h
            exact h F hS_
theorem l_246_50 {E : mO × tW} {K : tK} {x0 x1 x2 : Int} (hx0 : mdB x0) (p1 : -2147483648 ≤ x1 ∧ x1 ≤ 2147483647) (p2 : -2147483648 ≤ x2 ∧ x2 ≤ 2147483647) : ∀ (n : Nat) (x3 x4 x5 : Int) (v6 : tV) (d : mD), Safe d → (0 ≤ x5 ∧ x5 ≤ 61) → (0 ≤ x1 ∧ x1 ≤ 15) → 61 - x5 ≤ (n : Int) → ((∀ b : Int, (b < x0 ∨ x0 < b) → (lp_246_50 x0 x1 x2 n x3 x4 x5 d).2 b = d b) → Safe (lp_246_50 x0 x1 x2 n x3 x4 x5 d).2 → K (.inl (some (0, (lp_246_50 x0 x1 x2 n x3 x4 x5 d).1))) (lp_246_50 x0 x1 x2 n x3 x4 x5 d).2) → tRun E 246 (50, [.inr (11, x0), .inl (0, x1), .inl (0, x2), .inl (0, x3), .inl (0, x4), .inl (0, x5), v6], [], 0, 0, d) K := by
  intro n
  induction n with
  | zero =>
    intro x3 x4 x5 v6 d hS i0 i1 hm  h
    exact ls_246_50 hx0 p1 p2 0 _ (fun _ _ _ _ _ _ _ _ m0 m1 _ => absurd m1 (by omega)) x3 x4 x5 v6 d hS i0 i1 hm  h
  | succ n ih =>
    intro x3 x4 x5 v6 d hS i0 i1 hm  h
    exact ls_246_50 hx0 p1 p2 ((n + 1 : Nat) : Int) _ (fun x3 x4 x5 v6 d hS i0 i1  m0 m1 h => ih x3 x4 x5 v6 d hS i0 i1 (by omega)  h) x3 x4 x5 v6 d hS i0 i1 hm  h
def f_246 (x0 x1 x2 : Int) (d : mD) : Int × mD := if v_237 x0 x1 d = 0 then (0, mset d x0 0 1) else if v_176 x2 0 9 d = 0 then (0, mset d x0 0 2) else lp_246_50 x0 x1 x2 (61 - 0 : Int).toNat 0 0 0 (mset d x0 0 0)
def v_246 (x0 x1 x2 : Int) (d : mD) : Int := (f_246 x0 x1 x2 d).1
def g_246 (x0 x1 x2 : Int) (d : mD) : mD := (f_246 x0 x1 x2 d).2
theorem k_246 {E : mO × tW} {K : tK} {d : mD} {x0 x1 x2 : Int} (hS : Safe d) (hx0 : mdB x0) (p1 : -2147483648 ≤ x1 ∧ x1 ≤ 2147483647) (p2 : -2147483648 ≤ x2 ∧ x2 ≤ 2147483647) (h : (∀ b : Int, (b < x0 ∨ x0 < b) → (g_246 x0 x1 x2 d) b = d b) → Safe (g_246 x0 x1 x2 d) → K (.inl (some (0, (v_246 x0 x1 x2 d)))) (g_246 x0 x1 x2 d)) : tCall E 246 [.inr (11, x0), .inl (0, x1), .inl (0, x2)] d K := by
  simp only [v_246, g_246] at h
  refine t_246_0 ?_
  have w0 := mh_0 hS hx0 _ rfl
  have w7 := mh_7 hS hx0 _ rfl
  have w8 := mh_8 hS hx0 _ rfl
  have w9 := mh_9 hS hx0 _ rfl
  have w10 := mh_10 hS hx0 _ rfl
  have w11 := mh_11 hS hx0 _ rfl
  refine k_237 hS hx0 (m_inR (by omega) (by omega)) (fun e8 => ?_)
  refine t_246_6 ?_
  refine ⟨m_inR (by omega) (by omega), fun c0 => ?_, fun c0 => ?_⟩
  · refine ⟨m_inR (by omega) (by omega), ?_⟩
    refine k_176 hS (m_inR (by omega) (by omega)) (m_inR (by omega) (by omega)) (m_inR (by omega) (by omega)) (fun e9 => ?_)
    refine t_246_22 ?_
    refine ⟨m_inR (by omega) (by omega), fun c1 => ?_, fun c1 => ?_⟩
    · have hS1 : Safe (mset d x0 0 2) := s_11_f0 hS hx0 (by omega)
      rw [mset_eq (d := d) (a := x0) (i := (0 : Int)) (v := (2 : Int))]
      refine ⟨m_inR (by omega) (by omega), fun c2 => ?_, fun c2 => ?_⟩
      · exact (show False by omega).elim
      · have y0 : f_246 x0 x1 x2 d = (0, mset d x0 0 2) := by simp only [f_246, if_neg (show ¬ v_237 x0 x1 d = 0 from c0), if_pos (show v_176 x2 0 9 d = 0 from c1), if_pos (show (0 : Int) < 2 from c2)]
        rw [y0] at h
        exact h (show ∀ b : Int, (b < x0 ∨ x0 < b) → (mset d x0 0 2) b = d b from fun b hb => mset_ne (by omega)) hS1
    · have hS2 : Safe (mset d x0 0 0) := s_11_f0 hS hx0 (by omega)
      rw [mset_eq (d := d) (a := x0) (i := (0 : Int)) (v := (0 : Int))]
      refine ⟨m_inR (by omega) (by omega), fun c2 => ?_, fun c2 => ?_⟩
      · refine l_246_50 hx0 p1 p2 (61 - 0 : Int).toNat 0 0 0 tu (mset d x0 0 0) hS2 (by omega) (by omega) (by omega) ?_
        intro F hS_
        have y0 : f_246 x0 x1 x2 d = lp_246_50 x0 x1 x2 (61 - 0 : Int).toNat 0 0 0 (mset d x0 0 0) := by simp only [f_246, if_neg (show ¬ v_237 x0 x1 d = 0 from c0), if_neg (show ¬ v_176 x2 0 9 d = 0 from c1), if_neg (show ¬ (0 : Int) < 0 from Int.not_lt.mpr c2)]
        rw [y0] at h
        exact h (fun b hb => (F b hb).trans ((show ∀ b : Int, (b < x0 ∨ x0 < b) → (mset d x0 0 0) b = d b from fun b hb => mset_ne (by omega)) b hb)) hS_
      · exact (show False by omega).elim
  · have hS3 : Safe (mset d x0 0 1) := s_11_f0 hS hx0 (by omega)
    rw [mset_eq (d := d) (a := x0) (i := (0 : Int)) (v := (1 : Int))]
    refine ⟨m_inR (by omega) (by omega), fun c1 => ?_, fun c1 => ?_⟩
    · exact (show False by omega).elim
    · have y0 : f_246 x0 x1 x2 d = (0, mset d x0 0 1) := by simp only [f_246, if_pos (show v_237 x0 x1 d = 0 from c0), if_pos (show (0 : Int) < 1 from c1)]
      rw [y0] at h
      exact h (show ∀ b : Int, (b < x0 ∨ x0 < b) → (mset d x0 0 1) b = d b from fun b hb => mset_ne (by omega)) hS3
def st_247_65 (x0 x1 x2 : Int) (r65 : Int → Int → mD → Int × mD) (x3 x4 : Int) (d : mD) : Int × mD := if x4 < d (x0 + 1) 10 then (if d (x0 + 1) ((1916 + (5 * x4)) + 1) = x1 then r65 (x3 + 1) (x4 + 1) d else r65 (x3 + 0) (x4 + 1) d) else if x2 = 8 then (v_213 x0 x1 d, d) else if x2 = 9 then (x3, d) else (v_221 x0 x1 d, d)
def lp_247_65 (x0 x1 x2 : Int) : Nat → Int → Int → mD → Int × mD
  | 0 => st_247_65 x0 x1 x2 (fun _ _ d => (0, d))
  | n + 1 => st_247_65 x0 x1 x2 (lp_247_65 x0 x1 x2 n)
theorem ls_247_65 {E : mO × tW} {K : tK} {x0 x1 x2 : Int} (hx0 : mdB x0) (p1 : -2147483648 ≤ x1 ∧ x1 ≤ 2147483647) (p2 : -2147483648 ≤ x2 ∧ x2 ≤ 2147483647) (N65 : Int) (r65 : Int → Int → mD → Int × mD) (ih65 : ∀ (x3 x4 : Int) (d : mD), Safe d → (0 ≤ x4 ∧ x4 ≤ 200) → (0 ≤ x1 ∧ x1 ≤ 60) → 0 ≤ 200 - x4 → 200 - x4 < N65 → ((∀ b : Int, (b < x0 ∨ x0 < b) → (r65 x3 x4 d).2 b = d b) → Safe (r65 x3 x4 d).2 → K (.inl (some (0, (r65 x3 x4 d).1))) (r65 x3 x4 d).2) → tRun E 247 (65, [.inr (11, x0), .inl (0, x1), .inl (0, x2), .inl (0, x3), .inl (0, x4)], [], 0, 0, d) K) (x3 x4 : Int) (d : mD) (hS : Safe d) (i0 : 0 ≤ x4 ∧ x4 ≤ 200) (i1 : 0 ≤ x1 ∧ x1 ≤ 60) (hm : 200 - x4 ≤ N65) (h : (∀ b : Int, (b < x0 ∨ x0 < b) → (st_247_65 x0 x1 x2 r65 x3 x4 d).2 b = d b) → Safe (st_247_65 x0 x1 x2 r65 x3 x4 d).2 → K (.inl (some (0, (st_247_65 x0 x1 x2 r65 x3 x4 d).1))) (st_247_65 x0 x1 x2 r65 x3 x4 d).2) : tRun E 247 (65, [.inr (11, x0), .inl (0, x1), .inl (0, x2), .inl (0, x3), .inl (0, x4)], [], 0, 0, d) K := by
  refine t_247_65 ?_
  have q1 := mh_10 hS hx0 _ rfl
  refine ⟨by omega, ⟨m_inR (by omega) (by omega), m_inR (by omega) (by omega)⟩, fun c0 => ?_, fun c0 => ?_⟩
  · refine ⟨⟨m_inR (by omega) (by omega), m_inR (by omega) (by omega)⟩, fun c1 => ?_, fun c1 => ?_⟩
    · refine ⟨⟨m_inR (by omega) (by omega), m_inR (by omega) (by omega)⟩, fun c2 => ?_, fun c2 => ?_⟩
      · refine k_221 hS hx0 (by omega) (fun e1 => ?_)
        refine t_247_136 ?_
        have y0 : st_247_65 x0 x1 x2 r65 x3 x4 d = (v_221 x0 x1 d, d) := by simp only [st_247_65, if_neg (show ¬ x4 < d (x0 + 1) 10 from Int.not_lt.mpr c0), if_neg (show ¬ x2 = 8 from c1), if_neg (show ¬ x2 = 9 from c2)]
        rw [y0] at h
        exact h (show ∀ b : Int, (b < x0 ∨ x0 < b) → d b = d b from fun _ _ => rfl) hS
      · refine t_247_136 ?_
        have y0 : st_247_65 x0 x1 x2 r65 x3 x4 d = (x3, d) := by simp only [st_247_65, if_neg (show ¬ x4 < d (x0 + 1) 10 from Int.not_lt.mpr c0), if_neg (show ¬ x2 = 8 from c1), if_pos (show x2 = 9 from c2)]
        rw [y0] at h
        exact h (show ∀ b : Int, (b < x0 ∨ x0 < b) → d b = d b from fun _ _ => rfl) hS
    · refine k_213 hS hx0 (by omega) (fun e2 => ?_)
      refine t_247_118 ?_
      refine t_247_136 ?_
      have y0 : st_247_65 x0 x1 x2 r65 x3 x4 d = (v_213 x0 x1 d, d) := by simp only [st_247_65, if_neg (show ¬ x4 < d (x0 + 1) 10 from Int.not_lt.mpr c0), if_pos (show x2 = 8 from c1)]
      rw [y0] at h
      exact h (show ∀ b : Int, (b < x0 ∨ x0 < b) → d b = d b from fun _ _ => rfl) hS
  · refine k_180 hS ?_
    refine t_247_87 ?_
    have q2 := mk_1 hS hx0 x4 ((1916 + (5 * x4)) + 1) (by omega) (by omega)
    refine ⟨by omega, ⟨m_inR (by omega) (by omega), m_inR (by omega) (by omega)⟩, fun c1 => ?_, fun c1 => ?_⟩
    · refine ih65 (x3 + 0) (x4 + 1)  d hS (by omega) (by omega) (by omega) (by omega) ?_
      intro F hS_
      have y0 : st_247_65 x0 x1 x2 r65 x3 x4 d = r65 (x3 + 0) (x4 + 1) d := by simp only [st_247_65, if_pos (show x4 < d (x0 + 1) 10 from c0), if_neg (show ¬ d (x0 + 1) ((1916 + (5 * x4)) + 1) = x1 from c1)]
      rw [y0] at h
      exact h F hS_
    · refine ih65 (x3 + 1) (x4 + 1)  d hS (by omega) (by omega) (by omega) (by omega) ?_
      intro F hS_
      have y0 : st_247_65 x0 x1 x2 r65 x3 x4 d = r65 (x3 + 1) (x4 + 1) d := by simp only [st_247_65, if_pos (show x4 < d (x0 + 1) 10 from c0), if_pos (show d (x0 + 1) ((1916 + (5 * x4)) + 1) = x1 from c1)]
      rw [y0] at h
      exact h F hS_
theorem l_247_65 {E : mO × tW} {K : tK} {x0 x1 x2 : Int} (hx0 : mdB x0) (p1 : -2147483648 ≤ x1 ∧ x1 ≤ 2147483647) (p2 : -2147483648 ≤ x2 ∧ x2 ≤ 2147483647) : ∀ (n : Nat) (x3 x4 : Int) (d : mD), Safe d → (0 ≤ x4 ∧ x4 ≤ 200) → (0 ≤ x1 ∧ x1 ≤ 60) → 200 - x4 ≤ (n : Int) → ((∀ b : Int, (b < x0 ∨ x0 < b) → (lp_247_65 x0 x1 x2 n x3 x4 d).2 b = d b) → Safe (lp_247_65 x0 x1 x2 n x3 x4 d).2 → K (.inl (some (0, (lp_247_65 x0 x1 x2 n x3 x4 d).1))) (lp_247_65 x0 x1 x2 n x3 x4 d).2) → tRun E 247 (65, [.inr (11, x0), .inl (0, x1), .inl (0, x2), .inl (0, x3), .inl (0, x4)], [], 0, 0, d) K := by
  intro n
  induction n with
  | zero =>
    intro x3 x4  d hS i0 i1 hm  h
    exact ls_247_65 hx0 p1 p2 0 _ (fun _ _  _ _ _ _ m0 m1 _ => absurd m1 (by omega)) x3 x4  d hS i0 i1 hm  h
  | succ n ih =>
    intro x3 x4  d hS i0 i1 hm  h
    exact ls_247_65 hx0 p1 p2 ((n + 1 : Nat) : Int) _ (fun x3 x4  d hS i0 i1  m0 m1 h => ih x3 x4  d hS i0 i1 (by omega)  h) x3 x4  d hS i0 i1 hm  h
def f_247 (x0 x1 x2 : Int) (d : mD) : Int × mD := if v_238 x0 x1 d = 0 then (0, mset d x0 0 1) else if v_176 x2 0 10 d = 0 then (0, mset d x0 0 2) else if x2 < 8 then (d (x0 + 1) ((452 + (24 * x1)) + x2), mset d x0 0 0) else lp_247_65 x0 x1 x2 (200 - 0 : Int).toNat 0 0 (mset d x0 0 0)
def v_247 (x0 x1 x2 : Int) (d : mD) : Int := (f_247 x0 x1 x2 d).1
def g_247 (x0 x1 x2 : Int) (d : mD) : mD := (f_247 x0 x1 x2 d).2
theorem k_247 {E : mO × tW} {K : tK} {d : mD} {x0 x1 x2 : Int} (hS : Safe d) (hx0 : mdB x0) (p1 : -2147483648 ≤ x1 ∧ x1 ≤ 2147483647) (p2 : -2147483648 ≤ x2 ∧ x2 ≤ 2147483647) (h : (∀ b : Int, (b < x0 ∨ x0 < b) → (g_247 x0 x1 x2 d) b = d b) → Safe (g_247 x0 x1 x2 d) → K (.inl (some (0, (v_247 x0 x1 x2 d)))) (g_247 x0 x1 x2 d)) : tCall E 247 [.inr (11, x0), .inl (0, x1), .inl (0, x2)] d K := by
  simp only [v_247, g_247] at h
  refine t_247_0 ?_
  have w0 := mh_0 hS hx0 _ rfl
  have w7 := mh_7 hS hx0 _ rfl
  have w8 := mh_8 hS hx0 _ rfl
  have w9 := mh_9 hS hx0 _ rfl
  have w10 := mh_10 hS hx0 _ rfl
  have w11 := mh_11 hS hx0 _ rfl
  refine k_238 hS hx0 (m_inR (by omega) (by omega)) (fun e3 => ?_)
  refine t_247_6 ?_
  refine ⟨m_inR (by omega) (by omega), fun c0 => ?_, fun c0 => ?_⟩
  · refine ⟨m_inR (by omega) (by omega), ?_⟩
    refine k_176 hS (m_inR (by omega) (by omega)) (m_inR (by omega) (by omega)) (m_inR (by omega) (by omega)) (fun e4 => ?_)
    refine t_247_22 ?_
    refine ⟨m_inR (by omega) (by omega), fun c1 => ?_, fun c1 => ?_⟩
    · have hS1 : Safe (mset d x0 0 2) := s_11_f0 hS hx0 (by omega)
      rw [mset_eq (d := d) (a := x0) (i := (0 : Int)) (v := (2 : Int))]
      refine ⟨m_inR (by omega) (by omega), fun c2 => ?_, fun c2 => ?_⟩
      · exact (show False by omega).elim
      · have y0 : f_247 x0 x1 x2 d = (0, mset d x0 0 2) := by simp only [f_247, if_neg (show ¬ v_238 x0 x1 d = 0 from c0), if_pos (show v_176 x2 0 10 d = 0 from c1), if_pos (show (0 : Int) < 2 from c2)]
        rw [y0] at h
        exact h (show ∀ b : Int, (b < x0 ∨ x0 < b) → (mset d x0 0 2) b = d b from fun b hb => mset_ne (by omega)) hS1
    · have hS2 : Safe (mset d x0 0 0) := s_11_f0 hS hx0 (by omega)
      rw [mset_eq (d := d) (a := x0) (i := (0 : Int)) (v := (0 : Int))]
      refine ⟨m_inR (by omega) (by omega), fun c2 => ?_, fun c2 => ?_⟩
      · refine ⟨⟨m_inR (by omega) (by omega), m_inR (by omega) (by omega)⟩, fun c3 => ?_, fun c3 => ?_⟩
        · refine l_247_65 hx0 p1 p2 (200 - 0 : Int).toNat 0 0  (mset d x0 0 0) hS2 (by omega) (by omega) (by omega) ?_
          intro F hS_
          have y0 : f_247 x0 x1 x2 d = lp_247_65 x0 x1 x2 (200 - 0 : Int).toNat 0 0 (mset d x0 0 0) := by simp only [f_247, if_neg (show ¬ v_238 x0 x1 d = 0 from c0), if_neg (show ¬ v_176 x2 0 10 d = 0 from c1), if_neg (show ¬ (0 : Int) < 0 from Int.not_lt.mpr c2), if_neg (show ¬ x2 < 8 from Int.not_lt.mpr c3)]
          rw [y0] at h
          exact h (fun b hb => (F b hb).trans ((show ∀ b : Int, (b < x0 ∨ x0 < b) → (mset d x0 0 0) b = d b from fun b hb => mset_ne (by omega)) b hb)) hS_
        · refine k_179 hS2 ?_
          refine t_247_56 ?_
          rw [mset_ne (d := d) (a := x0) (i := (0 : Int)) (v := (0 : Int)) (b := x0 + 1) (by omega)]
          refine ⟨by omega, ?_⟩
          have y0 : f_247 x0 x1 x2 d = (d (x0 + 1) ((452 + (24 * x1)) + x2), mset d x0 0 0) := by simp only [f_247, if_neg (show ¬ v_238 x0 x1 d = 0 from c0), if_neg (show ¬ v_176 x2 0 10 d = 0 from c1), if_neg (show ¬ (0 : Int) < 0 from Int.not_lt.mpr c2), if_pos (show x2 < 8 from c3)]
          rw [y0] at h
          exact h (show ∀ b : Int, (b < x0 ∨ x0 < b) → (mset d x0 0 0) b = d b from fun b hb => mset_ne (by omega)) hS2
      · exact (show False by omega).elim
  · have hS3 : Safe (mset d x0 0 1) := s_11_f0 hS hx0 (by omega)
    rw [mset_eq (d := d) (a := x0) (i := (0 : Int)) (v := (1 : Int))]
    refine ⟨m_inR (by omega) (by omega), fun c1 => ?_, fun c1 => ?_⟩
    · exact (show False by omega).elim
    · have y0 : f_247 x0 x1 x2 d = (0, mset d x0 0 1) := by simp only [f_247, if_pos (show v_238 x0 x1 d = 0 from c0), if_pos (show (0 : Int) < 1 from c1)]
      rw [y0] at h
      exact h (show ∀ b : Int, (b < x0 ∨ x0 < b) → (mset d x0 0 1) b = d b from fun b hb => mset_ne (by omega)) hS3
def st_248_75 (x0 x1 x2 : Int) (r75 : Int → Int → mD → Int × mD) (x3 x4 : Int) (d : mD) : Int × mD := if x4 < d (x0 + 1) 11 then (if d (x0 + 1) (2916 + x4) = x1 then r75 x4 (x4 + 1) d else r75 x3 (x4 + 1) d) else (x3, d)
def lp_248_75 (x0 x1 x2 : Int) : Nat → Int → Int → mD → Int × mD
  | 0 => st_248_75 x0 x1 x2 (fun _ _ d => (0, d))
  | n + 1 => st_248_75 x0 x1 x2 (lp_248_75 x0 x1 x2 n)
theorem ls_248_75 {E : mO × tW} {K : tK} {x0 x1 x2 : Int} (hx0 : mdB x0) (p1 : -2147483648 ≤ x1 ∧ x1 ≤ 2147483647) (p2 : -2147483648 ≤ x2 ∧ x2 ≤ 2147483647) (N75 : Int) (r75 : Int → Int → mD → Int × mD) (ih75 : ∀ (x3 x4 : Int) (d : mD), Safe d → (0 ≤ x4 ∧ x4 ≤ 200) → 0 ≤ 200 - x4 → 200 - x4 < N75 → ((∀ b : Int, (b < x0 ∨ x0 < b) → (r75 x3 x4 d).2 b = d b) → Safe (r75 x3 x4 d).2 → K (.inl (some (0, (r75 x3 x4 d).1))) (r75 x3 x4 d).2) → tRun E 248 (75, [.inr (11, x0), .inl (0, x1), .inl (0, x2), .inl (0, x3), .inl (0, x4)], [], 0, 0, d) K) (x3 x4 : Int) (d : mD) (hS : Safe d) (i0 : 0 ≤ x4 ∧ x4 ≤ 200) (hm : 200 - x4 ≤ N75) (h : (∀ b : Int, (b < x0 ∨ x0 < b) → (st_248_75 x0 x1 x2 r75 x3 x4 d).2 b = d b) → Safe (st_248_75 x0 x1 x2 r75 x3 x4 d).2 → K (.inl (some (0, (st_248_75 x0 x1 x2 r75 x3 x4 d).1))) (st_248_75 x0 x1 x2 r75 x3 x4 d).2) : tRun E 248 (75, [.inr (11, x0), .inl (0, x1), .inl (0, x2), .inl (0, x3), .inl (0, x4)], [], 0, 0, d) K := by
  refine t_248_75 ?_
  have q1 := mh_11 hS hx0 _ rfl
  refine ⟨by omega, ⟨m_inR (by omega) (by omega), m_inR (by omega) (by omega)⟩, fun c0 => ?_, fun c0 => ?_⟩
  · have y0 : st_248_75 x0 x1 x2 r75 x3 x4 d = (x3, d) := by simp only [st_248_75, if_neg (show ¬ x4 < d (x0 + 1) 11 from Int.not_lt.mpr c0)]
    rw [y0] at h
    exact h (show ∀ b : Int, (b < x0 ∨ x0 < b) → d b = d b from fun _ _ => rfl) hS
  · have q2 := mf hS hx0 x4 (2916 + x4) (by omega) (by omega)
    refine ⟨by omega, ⟨m_inR (by omega) (by omega), m_inR (by omega) (by omega)⟩, fun c1 => ?_, fun c1 => ?_⟩
    · refine ih75 x3 (x4 + 1)  d hS (by omega) (by omega) (by omega) ?_
      intro F hS_
      have y0 : st_248_75 x0 x1 x2 r75 x3 x4 d = r75 x3 (x4 + 1) d := by simp only [st_248_75, if_pos (show x4 < d (x0 + 1) 11 from c0), if_neg (show ¬ d (x0 + 1) (2916 + x4) = x1 from c1)]
      rw [y0] at h
      exact h F hS_
    · refine ih75 x4 (x4 + 1)  d hS (by omega) (by omega) (by omega) ?_
      intro F hS_
      have y0 : st_248_75 x0 x1 x2 r75 x3 x4 d = r75 x4 (x4 + 1) d := by simp only [st_248_75, if_pos (show x4 < d (x0 + 1) 11 from c0), if_pos (show d (x0 + 1) (2916 + x4) = x1 from c1)]
      rw [y0] at h
      exact h F hS_
theorem l_248_75 {E : mO × tW} {K : tK} {x0 x1 x2 : Int} (hx0 : mdB x0) (p1 : -2147483648 ≤ x1 ∧ x1 ≤ 2147483647) (p2 : -2147483648 ≤ x2 ∧ x2 ≤ 2147483647) : ∀ (n : Nat) (x3 x4 : Int) (d : mD), Safe d → (0 ≤ x4 ∧ x4 ≤ 200) → 200 - x4 ≤ (n : Int) → ((∀ b : Int, (b < x0 ∨ x0 < b) → (lp_248_75 x0 x1 x2 n x3 x4 d).2 b = d b) → Safe (lp_248_75 x0 x1 x2 n x3 x4 d).2 → K (.inl (some (0, (lp_248_75 x0 x1 x2 n x3 x4 d).1))) (lp_248_75 x0 x1 x2 n x3 x4 d).2) → tRun E 248 (75, [.inr (11, x0), .inl (0, x1), .inl (0, x2), .inl (0, x3), .inl (0, x4)], [], 0, 0, d) K := by
  intro n
  induction n with
  | zero =>
    intro x3 x4  d hS i0 hm  h
    exact ls_248_75 hx0 p1 p2 0 _ (fun _ _  _ _ _ m0 m1 _ => absurd m1 (by omega)) x3 x4  d hS i0 hm  h
  | succ n ih =>
    intro x3 x4  d hS i0 hm  h
    exact ls_248_75 hx0 p1 p2 ((n + 1 : Nat) : Int) _ (fun x3 x4  d hS i0  m0 m1 h => ih x3 x4  d hS i0 (by omega)  h) x3 x4  d hS i0 hm  h
def f_248 (x0 x1 x2 : Int) (d : mD) : Int × mD := if v_176 x1 0 ((d (x0 + 1) 10) - 1) d = 0 then (0, mset d x0 0 1) else if v_176 x2 0 4 d = 0 then (0, mset d x0 0 2) else if x2 < 4 then (d (x0 + 1) ((1916 + (5 * x1)) + x2), mset d x0 0 0) else lp_248_75 x0 x1 x2 (200 - 0 : Int).toNat ((-1)) 0 (mset d x0 0 0)
def v_248 (x0 x1 x2 : Int) (d : mD) : Int := (f_248 x0 x1 x2 d).1
def g_248 (x0 x1 x2 : Int) (d : mD) : mD := (f_248 x0 x1 x2 d).2
theorem k_248 {E : mO × tW} {K : tK} {d : mD} {x0 x1 x2 : Int} (hS : Safe d) (hx0 : mdB x0) (p1 : -2147483648 ≤ x1 ∧ x1 ≤ 2147483647) (p2 : -2147483648 ≤ x2 ∧ x2 ≤ 2147483647) (h : (∀ b : Int, (b < x0 ∨ x0 < b) → (g_248 x0 x1 x2 d) b = d b) → Safe (g_248 x0 x1 x2 d) → K (.inl (some (0, (v_248 x0 x1 x2 d)))) (g_248 x0 x1 x2 d)) : tCall E 248 [.inr (11, x0), .inl (0, x1), .inl (0, x2)] d K := by
  simp only [v_248, g_248] at h
  refine t_248_0 ?_
  have w0 := mh_0 hS hx0 _ rfl
  have w7 := mh_7 hS hx0 _ rfl
  have w8 := mh_8 hS hx0 _ rfl
  have w9 := mh_9 hS hx0 _ rfl
  have w10 := mh_10 hS hx0 _ rfl
  have w11 := mh_11 hS hx0 _ rfl
  have q3 := mh_10 hS hx0 _ rfl
  refine ⟨m_inR (by omega) (by omega), by omega, m_inR (by omega) (by omega), ?_⟩
  refine k_176 hS (m_inR (by omega) (by omega)) (m_inR (by omega) (by omega)) (m_inR (by omega) (by omega)) (fun e1 => ?_)
  refine t_248_17 ?_
  refine ⟨m_inR (by omega) (by omega), fun c0 => ?_, fun c0 => ?_⟩
  · refine ⟨m_inR (by omega) (by omega), ?_⟩
    refine k_176 hS (m_inR (by omega) (by omega)) (m_inR (by omega) (by omega)) (m_inR (by omega) (by omega)) (fun e2 => ?_)
    refine t_248_33 ?_
    refine ⟨m_inR (by omega) (by omega), fun c1 => ?_, fun c1 => ?_⟩
    · have hS1 : Safe (mset d x0 0 2) := s_11_f0 hS hx0 (by omega)
      rw [mset_eq (d := d) (a := x0) (i := (0 : Int)) (v := (2 : Int))]
      refine ⟨m_inR (by omega) (by omega), fun c2 => ?_, fun c2 => ?_⟩
      · exact (show False by omega).elim
      · have y0 : f_248 x0 x1 x2 d = (0, mset d x0 0 2) := by simp only [f_248, if_neg (show ¬ v_176 x1 0 ((d (x0 + 1) 10) - 1) d = 0 from c0), if_pos (show v_176 x2 0 4 d = 0 from c1), if_pos (show (0 : Int) < 2 from c2)]
        rw [y0] at h
        exact h (show ∀ b : Int, (b < x0 ∨ x0 < b) → (mset d x0 0 2) b = d b from fun b hb => mset_ne (by omega)) hS1
    · have hS2 : Safe (mset d x0 0 0) := s_11_f0 hS hx0 (by omega)
      rw [mset_eq (d := d) (a := x0) (i := (0 : Int)) (v := (0 : Int))]
      refine ⟨m_inR (by omega) (by omega), fun c2 => ?_, fun c2 => ?_⟩
      · refine ⟨⟨m_inR (by omega) (by omega), m_inR (by omega) (by omega)⟩, fun c3 => ?_, fun c3 => ?_⟩
        · refine l_248_75 hx0 p1 p2 (200 - 0 : Int).toNat ((-1)) 0  (mset d x0 0 0) hS2 (by omega) (by omega) ?_
          intro F hS_
          have y0 : f_248 x0 x1 x2 d = lp_248_75 x0 x1 x2 (200 - 0 : Int).toNat ((-1)) 0 (mset d x0 0 0) := by simp only [f_248, if_neg (show ¬ v_176 x1 0 ((d (x0 + 1) 10) - 1) d = 0 from c0), if_neg (show ¬ v_176 x2 0 4 d = 0 from c1), if_neg (show ¬ (0 : Int) < 0 from Int.not_lt.mpr c2), if_neg (show ¬ x2 < 4 from Int.not_lt.mpr c3)]
          rw [y0] at h
          exact h (fun b hb => (F b hb).trans ((show ∀ b : Int, (b < x0 ∨ x0 < b) → (mset d x0 0 0) b = d b from fun b hb => mset_ne (by omega)) b hb)) hS_
        · refine k_180 hS2 ?_
          refine t_248_66 ?_
          rw [mset_ne (d := d) (a := x0) (i := (0 : Int)) (v := (0 : Int)) (b := x0 + 1) (by omega)]
          refine ⟨by omega, ?_⟩
          have y0 : f_248 x0 x1 x2 d = (d (x0 + 1) ((1916 + (5 * x1)) + x2), mset d x0 0 0) := by simp only [f_248, if_neg (show ¬ v_176 x1 0 ((d (x0 + 1) 10) - 1) d = 0 from c0), if_neg (show ¬ v_176 x2 0 4 d = 0 from c1), if_neg (show ¬ (0 : Int) < 0 from Int.not_lt.mpr c2), if_pos (show x2 < 4 from c3)]
          rw [y0] at h
          exact h (show ∀ b : Int, (b < x0 ∨ x0 < b) → (mset d x0 0 0) b = d b from fun b hb => mset_ne (by omega)) hS2
      · exact (show False by omega).elim
  · have hS3 : Safe (mset d x0 0 1) := s_11_f0 hS hx0 (by omega)
    rw [mset_eq (d := d) (a := x0) (i := (0 : Int)) (v := (1 : Int))]
    refine ⟨m_inR (by omega) (by omega), fun c1 => ?_, fun c1 => ?_⟩
    · exact (show False by omega).elim
    · have y0 : f_248 x0 x1 x2 d = (0, mset d x0 0 1) := by simp only [f_248, if_pos (show v_176 x1 0 ((d (x0 + 1) 10) - 1) d = 0 from c0), if_pos (show (0 : Int) < 1 from c1)]
      rw [y0] at h
      exact h (show ∀ b : Int, (b < x0 ∨ x0 < b) → (mset d x0 0 1) b = d b from fun b hb => mset_ne (by omega)) hS3
def v_249 (x0 x1 x2 : Int) (d : mD) : Int := if v_237 x0 x1 d = 0 then 0 else if v_176 x2 0 999 d = 0 then 0 else if v_216 x0 x1 x2 (mset d x0 0 0) = 0 then 0 else 1
def g_249 (x0 x1 x2 : Int) (d : mD) : mD := if v_237 x0 x1 d = 0 then mset d x0 0 1 else if v_176 x2 0 999 d = 0 then mset d x0 0 2 else mset d x0 0 0
theorem k_249 {E : mO × tW} {K : tK} {d : mD} {x0 x1 x2 : Int} (hS : Safe d) (hx0 : mdB x0) (p1 : -2147483648 ≤ x1 ∧ x1 ≤ 2147483647) (p2 : -2147483648 ≤ x2 ∧ x2 ≤ 2147483647) (h : (0 ≤ (v_249 x0 x1 x2 d) ∧ (v_249 x0 x1 x2 d) ≤ 1) → (∀ b : Int, (b < x0 ∨ x0 < b) → (g_249 x0 x1 x2 d) b = d b) → Safe (g_249 x0 x1 x2 d) → K (.inl (some (0, (v_249 x0 x1 x2 d)))) (g_249 x0 x1 x2 d)) : tCall E 249 [.inr (11, x0), .inl (0, x1), .inl (0, x2)] d K := by
  refine t_249_0 ?_
  have w0 := mh_0 hS hx0 _ rfl
  have w7 := mh_7 hS hx0 _ rfl
  have w8 := mh_8 hS hx0 _ rfl
  have w9 := mh_9 hS hx0 _ rfl
  have w10 := mh_10 hS hx0 _ rfl
  have w11 := mh_11 hS hx0 _ rfl
  refine k_237 hS hx0 (m_inR (by omega) (by omega)) (fun e1 => ?_)
  refine t_249_6 ?_
  refine ⟨m_inR (by omega) (by omega), fun c0 => ?_, fun c0 => ?_⟩
  · refine ⟨m_inR (by omega) (by omega), ?_⟩
    refine k_176 hS (m_inR (by omega) (by omega)) (m_inR (by omega) (by omega)) (m_inR (by omega) (by omega)) (fun e2 => ?_)
    refine t_249_22 ?_
    refine ⟨m_inR (by omega) (by omega), fun c1 => ?_, fun c1 => ?_⟩
    · have hS1 : Safe (mset d x0 0 2) := s_11_f0 hS hx0 (by omega)
      rw [mset_eq (d := d) (a := x0) (i := (0 : Int)) (v := (2 : Int))]
      refine ⟨m_inR (by omega) (by omega), fun c2 => ?_, fun c2 => ?_⟩
      · refine ⟨by omega, ?_⟩
        have y0 : v_249 x0 x1 x2 d = 0 := by simp only [v_249, if_neg (show ¬ v_237 x0 x1 d = 0 from c0), if_pos (show v_176 x2 0 999 d = 0 from c1), if_neg (show ¬ (2 : Int) = 0 from c2)]
        have y1 : g_249 x0 x1 x2 d = mset d x0 0 2 := by simp only [g_249, if_neg (show ¬ v_237 x0 x1 d = 0 from c0), if_pos (show v_176 x2 0 999 d = 0 from c1), if_neg (show ¬ (2 : Int) = 0 from c2)]
        rw [y0] at h
        rw [y1] at h
        exact h (show 0 ≤ ((0 : Int)) ∧ ((0 : Int)) ≤ 1 from (by omega)) (show ∀ b : Int, (b < x0 ∨ x0 < b) → (mset d x0 0 2) b = d b from fun b hb => mset_ne (by omega)) hS1
      · exact (show False by omega).elim
    · have hS2 : Safe (mset d x0 0 0) := s_11_f0 hS hx0 (by omega)
      rw [mset_eq (d := d) (a := x0) (i := (0 : Int)) (v := (0 : Int))]
      refine ⟨m_inR (by omega) (by omega), fun c2 => ?_, fun c2 => ?_⟩
      · exact (show False by omega).elim
      · refine k_216 hS2 hx0 (m_inR (by omega) (by omega)) (m_inR (by omega) (by omega)) (fun e3 => ?_)
        refine t_249_46 ?_
        refine ⟨m_inR (by omega) (by omega), fun c3 => ?_, fun c3 => ?_⟩
        · refine ⟨by omega, ?_⟩
          have y0 : v_249 x0 x1 x2 d = 0 := by simp only [v_249, if_neg (show ¬ v_237 x0 x1 d = 0 from c0), if_neg (show ¬ v_176 x2 0 999 d = 0 from c1), if_pos (show (0 : Int) = 0 from c2), if_pos (show v_216 x0 x1 x2 (mset d x0 0 0) = 0 from c3)]
          have y1 : g_249 x0 x1 x2 d = mset d x0 0 0 := by simp only [g_249, if_neg (show ¬ v_237 x0 x1 d = 0 from c0), if_neg (show ¬ v_176 x2 0 999 d = 0 from c1), if_pos (show (0 : Int) = 0 from c2), if_pos (show v_216 x0 x1 x2 (mset d x0 0 0) = 0 from c3)]
          rw [y0] at h
          rw [y1] at h
          exact h (show 0 ≤ ((0 : Int)) ∧ ((0 : Int)) ≤ 1 from (by omega)) (show ∀ b : Int, (b < x0 ∨ x0 < b) → (mset d x0 0 0) b = d b from fun b hb => mset_ne (by omega)) hS2
        · refine ⟨by omega, ?_⟩
          have y0 : v_249 x0 x1 x2 d = 1 := by simp only [v_249, if_neg (show ¬ v_237 x0 x1 d = 0 from c0), if_neg (show ¬ v_176 x2 0 999 d = 0 from c1), if_pos (show (0 : Int) = 0 from c2), if_neg (show ¬ v_216 x0 x1 x2 (mset d x0 0 0) = 0 from c3)]
          have y1 : g_249 x0 x1 x2 d = mset d x0 0 0 := by simp only [g_249, if_neg (show ¬ v_237 x0 x1 d = 0 from c0), if_neg (show ¬ v_176 x2 0 999 d = 0 from c1), if_pos (show (0 : Int) = 0 from c2), if_neg (show ¬ v_216 x0 x1 x2 (mset d x0 0 0) = 0 from c3)]
          rw [y0] at h
          rw [y1] at h
          exact h (show 0 ≤ ((1 : Int)) ∧ ((1 : Int)) ≤ 1 from (by omega)) (show ∀ b : Int, (b < x0 ∨ x0 < b) → (mset d x0 0 0) b = d b from fun b hb => mset_ne (by omega)) hS2
  · have hS3 : Safe (mset d x0 0 1) := s_11_f0 hS hx0 (by omega)
    rw [mset_eq (d := d) (a := x0) (i := (0 : Int)) (v := (1 : Int))]
    refine ⟨m_inR (by omega) (by omega), fun c1 => ?_, fun c1 => ?_⟩
    · refine ⟨by omega, ?_⟩
      have y0 : v_249 x0 x1 x2 d = 0 := by simp only [v_249, if_pos (show v_237 x0 x1 d = 0 from c0), if_neg (show ¬ (1 : Int) = 0 from c1)]
      have y1 : g_249 x0 x1 x2 d = mset d x0 0 1 := by simp only [g_249, if_pos (show v_237 x0 x1 d = 0 from c0), if_neg (show ¬ (1 : Int) = 0 from c1)]
      rw [y0] at h
      rw [y1] at h
      exact h (show 0 ≤ ((0 : Int)) ∧ ((0 : Int)) ≤ 1 from (by omega)) (show ∀ b : Int, (b < x0 ∨ x0 < b) → (mset d x0 0 1) b = d b from fun b hb => mset_ne (by omega)) hS3
    · exact (show False by omega).elim
def v_250 (x0 x1 x2 : Int) (d : mD) : Int := if v_238 x0 x1 d = 0 then 0 else if v_237 x0 x2 d = 0 then 0 else 1
def g_250 (x0 x1 x2 : Int) (d : mD) : mD := if v_238 x0 x1 d = 0 then mset d x0 0 1 else if v_237 x0 x2 d = 0 then mset d x0 0 1 else mset d x0 0 0
theorem k_250 {E : mO × tW} {K : tK} {d : mD} {x0 x1 x2 : Int} (hS : Safe d) (hx0 : mdB x0) (p1 : -2147483648 ≤ x1 ∧ x1 ≤ 2147483647) (p2 : -2147483648 ≤ x2 ∧ x2 ≤ 2147483647) (h : ((0 ≤ (v_250 x0 x1 x2 d) ∧ (v_250 x0 x1 x2 d) ≤ 1) ∧ ((v_250 x0 x1 x2 d) = 0 ∨ (0 ≤ x1 ∧ x1 ≤ 60 ∧ 0 ≤ x2 ∧ x2 ≤ 15))) → (∀ b : Int, (b < x0 ∨ x0 < b) → (g_250 x0 x1 x2 d) b = d b) → Safe (g_250 x0 x1 x2 d) → K (.inl (some (0, (v_250 x0 x1 x2 d)))) (g_250 x0 x1 x2 d)) : tCall E 250 [.inr (11, x0), .inl (0, x1), .inl (0, x2)] d K := by
  refine t_250_0 ?_
  have w0 := mh_0 hS hx0 _ rfl
  have w7 := mh_7 hS hx0 _ rfl
  have w8 := mh_8 hS hx0 _ rfl
  have w9 := mh_9 hS hx0 _ rfl
  have w10 := mh_10 hS hx0 _ rfl
  have w11 := mh_11 hS hx0 _ rfl
  refine k_238 hS hx0 (m_inR (by omega) (by omega)) (fun e1 => ?_)
  refine t_250_6 ?_
  refine ⟨m_inR (by omega) (by omega), fun c0 => ?_, fun c0 => ?_⟩
  · have hS1 : Safe (mset d x0 0 1) := s_11_f0 hS hx0 (by omega)
    rw [mset_eq (d := d) (a := x0) (i := (0 : Int)) (v := (1 : Int))]
    refine ⟨m_inR (by omega) (by omega), fun c1 => ?_, fun c1 => ?_⟩
    · refine ⟨by omega, ?_⟩
      have y0 : v_250 x0 x1 x2 d = 0 := by simp only [v_250, if_pos (show v_238 x0 x1 d = 0 from c0), if_neg (show ¬ (1 : Int) = 0 from c1)]
      have y1 : g_250 x0 x1 x2 d = mset d x0 0 1 := by simp only [g_250, if_pos (show v_238 x0 x1 d = 0 from c0), if_neg (show ¬ (1 : Int) = 0 from c1)]
      rw [y0] at h
      rw [y1] at h
      exact h (show (0 ≤ ((0 : Int)) ∧ ((0 : Int)) ≤ 1) ∧ (((0 : Int)) = 0 ∨ (0 ≤ x1 ∧ x1 ≤ 60 ∧ 0 ≤ x2 ∧ x2 ≤ 15)) from (by omega)) (show ∀ b : Int, (b < x0 ∨ x0 < b) → (mset d x0 0 1) b = d b from fun b hb => mset_ne (by omega)) hS1
    · exact (show False by omega).elim
  · refine k_237 hS hx0 (m_inR (by omega) (by omega)) (fun e2 => ?_)
    refine t_250_14 ?_
    refine ⟨m_inR (by omega) (by omega), fun c1 => ?_, fun c1 => ?_⟩
    · have hS2 : Safe (mset d x0 0 1) := s_11_f0 hS hx0 (by omega)
      rw [mset_eq (d := d) (a := x0) (i := (0 : Int)) (v := (1 : Int))]
      refine ⟨m_inR (by omega) (by omega), fun c2 => ?_, fun c2 => ?_⟩
      · refine ⟨by omega, ?_⟩
        have y0 : v_250 x0 x1 x2 d = 0 := by simp only [v_250, if_neg (show ¬ v_238 x0 x1 d = 0 from c0), if_pos (show v_237 x0 x2 d = 0 from c1), if_neg (show ¬ (1 : Int) = 0 from c2)]
        have y1 : g_250 x0 x1 x2 d = mset d x0 0 1 := by simp only [g_250, if_neg (show ¬ v_238 x0 x1 d = 0 from c0), if_pos (show v_237 x0 x2 d = 0 from c1), if_neg (show ¬ (1 : Int) = 0 from c2)]
        rw [y0] at h
        rw [y1] at h
        exact h (show (0 ≤ ((0 : Int)) ∧ ((0 : Int)) ≤ 1) ∧ (((0 : Int)) = 0 ∨ (0 ≤ x1 ∧ x1 ≤ 60 ∧ 0 ≤ x2 ∧ x2 ≤ 15)) from (by omega)) (show ∀ b : Int, (b < x0 ∨ x0 < b) → (mset d x0 0 1) b = d b from fun b hb => mset_ne (by omega)) hS2
      · exact (show False by omega).elim
    · have hS3 : Safe (mset d x0 0 0) := s_11_f0 hS hx0 (by omega)
      rw [mset_eq (d := d) (a := x0) (i := (0 : Int)) (v := (0 : Int))]
      refine ⟨m_inR (by omega) (by omega), fun c2 => ?_, fun c2 => ?_⟩
      · exact (show False by omega).elim
      · refine ⟨by omega, ?_⟩
        have y0 : v_250 x0 x1 x2 d = 1 := by simp only [v_250, if_neg (show ¬ v_238 x0 x1 d = 0 from c0), if_neg (show ¬ v_237 x0 x2 d = 0 from c1), if_pos (show (0 : Int) = 0 from c2)]
        have y1 : g_250 x0 x1 x2 d = mset d x0 0 0 := by simp only [g_250, if_neg (show ¬ v_238 x0 x1 d = 0 from c0), if_neg (show ¬ v_237 x0 x2 d = 0 from c1), if_pos (show (0 : Int) = 0 from c2)]
        rw [y0] at h
        rw [y1] at h
        exact h (show (0 ≤ ((1 : Int)) ∧ ((1 : Int)) ≤ 1) ∧ (((1 : Int)) = 0 ∨ (0 ≤ x1 ∧ x1 ≤ 60 ∧ 0 ≤ x2 ∧ x2 ≤ 15)) from (by omega)) (show ∀ b : Int, (b < x0 ∨ x0 < b) → (mset d x0 0 0) b = d b from fun b hb => mset_ne (by omega)) hS3
def v_251 (x0 x1 x2 : Int) (d : mD) : Int := if v_250 x0 x1 x2 d = 0 then 0 else v_234 x0 x1 x2 (g_250 x0 x1 x2 d)
def g_251 (x0 x1 x2 : Int) (d : mD) : mD := g_250 x0 x1 x2 d
theorem k_251 {E : mO × tW} {K : tK} {d : mD} {x0 x1 x2 : Int} (hS : Safe d) (hx0 : mdB x0) (p1 : -2147483648 ≤ x1 ∧ x1 ≤ 2147483647) (p2 : -2147483648 ≤ x2 ∧ x2 ≤ 2147483647) (h : (∀ b : Int, (b < x0 ∨ x0 < b) → (g_251 x0 x1 x2 d) b = d b) → Safe (g_251 x0 x1 x2 d) → K (.inl (some (0, (v_251 x0 x1 x2 d)))) (g_251 x0 x1 x2 d)) : tCall E 251 [.inr (11, x0), .inl (0, x1), .inl (0, x2)] d K := by
  refine t_251_0 ?_
  have w0 := mh_0 hS hx0 _ rfl
  have w7 := mh_7 hS hx0 _ rfl
  have w8 := mh_8 hS hx0 _ rfl
  have w9 := mh_9 hS hx0 _ rfl
  have w10 := mh_10 hS hx0 _ rfl
  have w11 := mh_11 hS hx0 _ rfl
  refine k_250 hS hx0 (m_inR (by omega) (by omega)) (m_inR (by omega) (by omega)) (fun e1 F1 hS1 => ?_)
  refine t_251_6 ?_
  refine ⟨m_inR (by omega) (by omega), fun c0 => ?_, fun c0 => ?_⟩
  · have y0 : v_251 x0 x1 x2 d = 0 := by simp only [v_251, if_pos (show v_250 x0 x1 x2 d = 0 from c0)]
    have y1 : g_251 x0 x1 x2 d = g_250 x0 x1 x2 d := by simp only [g_251, if_pos (show v_250 x0 x1 x2 d = 0 from c0)]
    rw [y0] at h
    rw [y1] at h
    exact h (show ∀ b : Int, (b < x0 ∨ x0 < b) → (g_250 x0 x1 x2 d) b = d b from fun b hb => F1 b (by omega)) hS1
  · refine k_234 hS1 hx0 (by omega) (by omega) (fun e2 => ?_)
    refine t_251_15 ?_
    have y0 : v_251 x0 x1 x2 d = v_234 x0 x1 x2 (g_250 x0 x1 x2 d) := by simp only [v_251, if_neg (show ¬ v_250 x0 x1 x2 d = 0 from c0)]
    have y1 : g_251 x0 x1 x2 d = g_250 x0 x1 x2 d := by simp only [g_251, if_neg (show ¬ v_250 x0 x1 x2 d = 0 from c0)]
    rw [y0] at h
    rw [y1] at h
    exact h (show ∀ b : Int, (b < x0 ∨ x0 < b) → (g_250 x0 x1 x2 d) b = d b from fun b hb => F1 b (by omega)) hS1
def v_252 (x0 x1 x2 : Int) (d : mD) : Int := if v_250 x0 x1 x2 d = 0 then 0 else v_231 x0 x1 x2 (g_250 x0 x1 x2 d)
def g_252 (x0 x1 x2 : Int) (d : mD) : mD := g_250 x0 x1 x2 d
theorem k_252 {E : mO × tW} {K : tK} {d : mD} {x0 x1 x2 : Int} (hS : Safe d) (hx0 : mdB x0) (p1 : -2147483648 ≤ x1 ∧ x1 ≤ 2147483647) (p2 : -2147483648 ≤ x2 ∧ x2 ≤ 2147483647) (h : (∀ b : Int, (b < x0 ∨ x0 < b) → (g_252 x0 x1 x2 d) b = d b) → Safe (g_252 x0 x1 x2 d) → K (.inl (some (0, (v_252 x0 x1 x2 d)))) (g_252 x0 x1 x2 d)) : tCall E 252 [.inr (11, x0), .inl (0, x1), .inl (0, x2)] d K := by
  refine t_252_0 ?_
  have w0 := mh_0 hS hx0 _ rfl
  have w7 := mh_7 hS hx0 _ rfl
  have w8 := mh_8 hS hx0 _ rfl
  have w9 := mh_9 hS hx0 _ rfl
  have w10 := mh_10 hS hx0 _ rfl
  have w11 := mh_11 hS hx0 _ rfl
  refine k_250 hS hx0 (m_inR (by omega) (by omega)) (m_inR (by omega) (by omega)) (fun e1 F1 hS1 => ?_)
  refine t_252_6 ?_
  refine ⟨m_inR (by omega) (by omega), fun c0 => ?_, fun c0 => ?_⟩
  · have y0 : v_252 x0 x1 x2 d = 0 := by simp only [v_252, if_pos (show v_250 x0 x1 x2 d = 0 from c0)]
    have y1 : g_252 x0 x1 x2 d = g_250 x0 x1 x2 d := by simp only [g_252, if_pos (show v_250 x0 x1 x2 d = 0 from c0)]
    rw [y0] at h
    rw [y1] at h
    exact h (show ∀ b : Int, (b < x0 ∨ x0 < b) → (g_250 x0 x1 x2 d) b = d b from fun b hb => F1 b (by omega)) hS1
  · refine k_231 hS1 hx0 (by omega) (m_inR (by omega) (by omega)) (fun e2 => ?_)
    refine t_252_15 ?_
    have y0 : v_252 x0 x1 x2 d = v_231 x0 x1 x2 (g_250 x0 x1 x2 d) := by simp only [v_252, if_neg (show ¬ v_250 x0 x1 x2 d = 0 from c0)]
    have y1 : g_252 x0 x1 x2 d = g_250 x0 x1 x2 d := by simp only [g_252, if_neg (show ¬ v_250 x0 x1 x2 d = 0 from c0)]
    rw [y0] at h
    rw [y1] at h
    exact h (show ∀ b : Int, (b < x0 ∨ x0 < b) → (g_250 x0 x1 x2 d) b = d b from fun b hb => F1 b (by omega)) hS1
def v_254 (x0 x1 x2 : Int) (d : mD) : Int := if v_250 x0 x1 x2 d = 0 then 0 else if d (x0 + 1) (((452 + (24 * x1)) + 8) + x2) = 0 then 0 else 1
def g_254 (x0 x1 x2 : Int) (d : mD) : mD := g_250 x0 x1 x2 d
theorem k_254 {E : mO × tW} {K : tK} {d : mD} {x0 x1 x2 : Int} (hS : Safe d) (hx0 : mdB x0) (p1 : -2147483648 ≤ x1 ∧ x1 ≤ 2147483647) (p2 : -2147483648 ≤ x2 ∧ x2 ≤ 2147483647) (h : (0 ≤ (v_254 x0 x1 x2 d) ∧ (v_254 x0 x1 x2 d) ≤ 1) → (∀ b : Int, (b < x0 ∨ x0 < b) → (g_254 x0 x1 x2 d) b = d b) → Safe (g_254 x0 x1 x2 d) → K (.inl (some (0, (v_254 x0 x1 x2 d)))) (g_254 x0 x1 x2 d)) : tCall E 254 [.inr (11, x0), .inl (0, x1), .inl (0, x2)] d K := by
  refine t_254_0 ?_
  have w0 := mh_0 hS hx0 _ rfl
  have w7 := mh_7 hS hx0 _ rfl
  have w8 := mh_8 hS hx0 _ rfl
  have w9 := mh_9 hS hx0 _ rfl
  have w10 := mh_10 hS hx0 _ rfl
  have w11 := mh_11 hS hx0 _ rfl
  refine k_250 hS hx0 (m_inR (by omega) (by omega)) (m_inR (by omega) (by omega)) (fun e1 F1 hS1 => ?_)
  refine t_254_6 ?_
  refine ⟨m_inR (by omega) (by omega), fun c0 => ?_, fun c0 => ?_⟩
  · refine ⟨by omega, ?_⟩
    have y0 : v_254 x0 x1 x2 d = 0 := by simp only [v_254, if_pos (show v_250 x0 x1 x2 d = 0 from c0)]
    have y1 : g_254 x0 x1 x2 d = g_250 x0 x1 x2 d := by simp only [g_254, if_pos (show v_250 x0 x1 x2 d = 0 from c0)]
    rw [y0] at h
    rw [y1] at h
    exact h (show 0 ≤ ((0 : Int)) ∧ ((0 : Int)) ≤ 1 from (by omega)) (show ∀ b : Int, (b < x0 ∨ x0 < b) → (g_250 x0 x1 x2 d) b = d b from fun b hb => F1 b (by omega)) hS1
  · refine k_179 hS1 ?_
    refine t_254_17 ?_
    rw [F1 (x0 + 1) (by omega)]
    have q1 := mt_w hS hx0 x1 x2 (((452 + (24 * x1)) + 8) + x2) (by omega) (by omega) (by omega)
    refine ⟨by omega, m_inR (by omega) (by omega), fun c1 => ?_, fun c1 => ?_⟩
    · refine ⟨by omega, ?_⟩
      have y0 : v_254 x0 x1 x2 d = 0 := by simp only [v_254, if_neg (show ¬ v_250 x0 x1 x2 d = 0 from c0), if_pos (show d (x0 + 1) (((452 + (24 * x1)) + 8) + x2) = 0 from c1)]
      have y1 : g_254 x0 x1 x2 d = g_250 x0 x1 x2 d := by simp only [g_254, if_neg (show ¬ v_250 x0 x1 x2 d = 0 from c0), if_pos (show d (x0 + 1) (((452 + (24 * x1)) + 8) + x2) = 0 from c1)]
      rw [y0] at h
      rw [y1] at h
      exact h (show 0 ≤ ((0 : Int)) ∧ ((0 : Int)) ≤ 1 from (by omega)) (show ∀ b : Int, (b < x0 ∨ x0 < b) → (g_250 x0 x1 x2 d) b = d b from fun b hb => F1 b (by omega)) hS1
    · refine ⟨by omega, ?_⟩
      have y0 : v_254 x0 x1 x2 d = 1 := by simp only [v_254, if_neg (show ¬ v_250 x0 x1 x2 d = 0 from c0), if_neg (show ¬ d (x0 + 1) (((452 + (24 * x1)) + 8) + x2) = 0 from c1)]
      have y1 : g_254 x0 x1 x2 d = g_250 x0 x1 x2 d := by simp only [g_254, if_neg (show ¬ v_250 x0 x1 x2 d = 0 from c0), if_neg (show ¬ d (x0 + 1) (((452 + (24 * x1)) + 8) + x2) = 0 from c1)]
      rw [y0] at h
      rw [y1] at h
      exact h (show 0 ≤ ((1 : Int)) ∧ ((1 : Int)) ≤ 1 from (by omega)) (show ∀ b : Int, (b < x0 ∨ x0 < b) → (g_250 x0 x1 x2 d) b = d b from fun b hb => F1 b (by omega)) hS1
def st_253_31 (x0 x1 x2 : Int) (r31 : Int → Int → mD → Int × mD) (x3 x4 : Int) (d : mD) : Int × mD := if x4 < d (x0 + 1) 8 then (if x2 < 0 then (0, mset d x0 0 2) else if v_234 x0 x1 x4 d = 0 then (if x3 = 0 then (x4, d) else r31 (x3 + (-1)) (x4 + 1) d) else r31 x3 (x4 + 1) d) else (0, mset d x0 0 2)
def lp_253_31 (x0 x1 x2 : Int) : Nat → Int → Int → mD → Int × mD
  | 0 => st_253_31 x0 x1 x2 (fun _ _ d => (0, d))
  | n + 1 => st_253_31 x0 x1 x2 (lp_253_31 x0 x1 x2 n)
theorem ls_253_31 {E : mO × tW} {K : tK} {x0 x1 x2 : Int} (hx0 : mdB x0) (p1 : -2147483648 ≤ x1 ∧ x1 ≤ 2147483647) (p2 : -2147483648 ≤ x2 ∧ x2 ≤ 2147483647) (N31 : Int) (r31 : Int → Int → mD → Int × mD) (ih31 : ∀ (x3 x4 : Int) (d : mD), Safe d → (0 ≤ x4 ∧ x4 ≤ 16) → (0 ≤ x1 ∧ x1 ≤ 60) → (x2 < 0 ∨ (0 ≤ x3 ∧ x3 ≤ x2)) → 0 ≤ 16 - x4 → 16 - x4 < N31 → ((∀ b : Int, (b < x0 ∨ x0 < b) → (r31 x3 x4 d).2 b = d b) → Safe (r31 x3 x4 d).2 → K (.inl (some (0, (r31 x3 x4 d).1))) (r31 x3 x4 d).2) → tRun E 253 (31, [.inr (11, x0), .inl (0, x1), .inl (0, x2), .inl (0, x3), .inl (0, x4)], [], 0, 0, d) K) (x3 x4 : Int) (d : mD) (hS : Safe d) (i0 : 0 ≤ x4 ∧ x4 ≤ 16) (i1 : 0 ≤ x1 ∧ x1 ≤ 60) (i2 : x2 < 0 ∨ (0 ≤ x3 ∧ x3 ≤ x2)) (hm : 16 - x4 ≤ N31) (h : (∀ b : Int, (b < x0 ∨ x0 < b) → (st_253_31 x0 x1 x2 r31 x3 x4 d).2 b = d b) → Safe (st_253_31 x0 x1 x2 r31 x3 x4 d).2 → K (.inl (some (0, (st_253_31 x0 x1 x2 r31 x3 x4 d).1))) (st_253_31 x0 x1 x2 r31 x3 x4 d).2) : tRun E 253 (31, [.inr (11, x0), .inl (0, x1), .inl (0, x2), .inl (0, x3), .inl (0, x4)], [], 0, 0, d) K := by
  refine t_253_31 ?_
  have q1 := mh_8 hS hx0 _ rfl
  refine ⟨by omega, ⟨m_inR (by omega) (by omega), m_inR (by omega) (by omega)⟩, fun c0 => ?_, fun c0 => ?_⟩
  · have hS1 : Safe (mset d x0 0 2) := s_11_f0 hS hx0 (by omega)
    have y0 : st_253_31 x0 x1 x2 r31 x3 x4 d = (0, mset d x0 0 2) := by simp only [st_253_31, if_neg (show ¬ x4 < d (x0 + 1) 8 from Int.not_lt.mpr c0)]
    rw [y0] at h
    exact h (show ∀ b : Int, (b < x0 ∨ x0 < b) → (mset d x0 0 2) b = d b from fun b hb => mset_ne (by omega)) hS1
  · refine ⟨m_inR (by omega) (by omega), fun c1 => ?_, fun c1 => ?_⟩
    · have hS2 : Safe (mset d x0 0 2) := s_11_f0 hS hx0 (by omega)
      have y0 : st_253_31 x0 x1 x2 r31 x3 x4 d = (0, mset d x0 0 2) := by simp only [st_253_31, if_pos (show x4 < d (x0 + 1) 8 from c0), if_pos (show x2 < 0 from c1)]
      rw [y0] at h
      exact h (show ∀ b : Int, (b < x0 ∨ x0 < b) → (mset d x0 0 2) b = d b from fun b hb => mset_ne (by omega)) hS2
    · refine k_234 hS hx0 (by omega) (by omega) (fun e1 => ?_)
      refine t_253_54 ?_
      refine ⟨m_inR (by omega) (by omega), fun c2 => ?_, fun c2 => ?_⟩
      · refine ih31 x3 (x4 + 1)  d hS (by omega) (by omega) (by omega) (by omega) (by omega) ?_
        intro F hS_
        have y0 : st_253_31 x0 x1 x2 r31 x3 x4 d = r31 x3 (x4 + 1) d := by simp only [st_253_31, if_pos (show x4 < d (x0 + 1) 8 from c0), if_neg (show ¬ x2 < 0 from Int.not_lt.mpr c1), if_neg (show ¬ v_234 x0 x1 x4 d = 0 from c2)]
        rw [y0] at h
        exact h F hS_
      · refine ⟨m_inR (by omega) (by omega), fun c3 => ?_, fun c3 => ?_⟩
        · refine ih31 (x3 + (-1)) (x4 + 1)  d hS (by omega) (by omega) (by omega) (by omega) (by omega) ?_
          intro F hS_
          have y0 : st_253_31 x0 x1 x2 r31 x3 x4 d = r31 (x3 + (-1)) (x4 + 1) d := by simp only [st_253_31, if_pos (show x4 < d (x0 + 1) 8 from c0), if_neg (show ¬ x2 < 0 from Int.not_lt.mpr c1), if_pos (show v_234 x0 x1 x4 d = 0 from c2), if_neg (show ¬ x3 = 0 from c3)]
          rw [y0] at h
          exact h F hS_
        · have y0 : st_253_31 x0 x1 x2 r31 x3 x4 d = (x4, d) := by simp only [st_253_31, if_pos (show x4 < d (x0 + 1) 8 from c0), if_neg (show ¬ x2 < 0 from Int.not_lt.mpr c1), if_pos (show v_234 x0 x1 x4 d = 0 from c2), if_pos (show x3 = 0 from c3)]
          rw [y0] at h
          exact h (show ∀ b : Int, (b < x0 ∨ x0 < b) → d b = d b from fun _ _ => rfl) hS
theorem l_253_31 {E : mO × tW} {K : tK} {x0 x1 x2 : Int} (hx0 : mdB x0) (p1 : -2147483648 ≤ x1 ∧ x1 ≤ 2147483647) (p2 : -2147483648 ≤ x2 ∧ x2 ≤ 2147483647) : ∀ (n : Nat) (x3 x4 : Int) (d : mD), Safe d → (0 ≤ x4 ∧ x4 ≤ 16) → (0 ≤ x1 ∧ x1 ≤ 60) → (x2 < 0 ∨ (0 ≤ x3 ∧ x3 ≤ x2)) → 16 - x4 ≤ (n : Int) → ((∀ b : Int, (b < x0 ∨ x0 < b) → (lp_253_31 x0 x1 x2 n x3 x4 d).2 b = d b) → Safe (lp_253_31 x0 x1 x2 n x3 x4 d).2 → K (.inl (some (0, (lp_253_31 x0 x1 x2 n x3 x4 d).1))) (lp_253_31 x0 x1 x2 n x3 x4 d).2) → tRun E 253 (31, [.inr (11, x0), .inl (0, x1), .inl (0, x2), .inl (0, x3), .inl (0, x4)], [], 0, 0, d) K := by
  intro n
  induction n with
  | zero =>
    intro x3 x4  d hS i0 i1 i2 hm  h
    exact ls_253_31 hx0 p1 p2 0 _ (fun _ _  _ _ _ _ _ m0 m1 _ => absurd m1 (by omega)) x3 x4  d hS i0 i1 i2 hm  h
  | succ n ih =>
    intro x3 x4  d hS i0 i1 i2 hm  h
    exact ls_253_31 hx0 p1 p2 ((n + 1 : Nat) : Int) _ (fun x3 x4  d hS i0 i1 i2  m0 m1 h => ih x3 x4  d hS i0 i1 i2 (by omega)  h) x3 x4  d hS i0 i1 i2 hm  h
def f_253 (x0 x1 x2 : Int) (d : mD) : Int × mD := if v_238 x0 x1 d = 0 then (0, mset d x0 0 1) else lp_253_31 x0 x1 x2 (16 - 0 : Int).toNat x2 0 (mset d x0 0 0)
def v_253 (x0 x1 x2 : Int) (d : mD) : Int := (f_253 x0 x1 x2 d).1
def g_253 (x0 x1 x2 : Int) (d : mD) : mD := (f_253 x0 x1 x2 d).2
theorem k_253 {E : mO × tW} {K : tK} {d : mD} {x0 x1 x2 : Int} (hS : Safe d) (hx0 : mdB x0) (p1 : -2147483648 ≤ x1 ∧ x1 ≤ 2147483647) (p2 : -2147483648 ≤ x2 ∧ x2 ≤ 2147483647) (h : (∀ b : Int, (b < x0 ∨ x0 < b) → (g_253 x0 x1 x2 d) b = d b) → Safe (g_253 x0 x1 x2 d) → K (.inl (some (0, (v_253 x0 x1 x2 d)))) (g_253 x0 x1 x2 d)) : tCall E 253 [.inr (11, x0), .inl (0, x1), .inl (0, x2)] d K := by
  simp only [v_253, g_253] at h
  refine t_253_0 ?_
  have w0 := mh_0 hS hx0 _ rfl
  have w7 := mh_7 hS hx0 _ rfl
  have w8 := mh_8 hS hx0 _ rfl
  have w9 := mh_9 hS hx0 _ rfl
  have w10 := mh_10 hS hx0 _ rfl
  have w11 := mh_11 hS hx0 _ rfl
  refine k_238 hS hx0 (m_inR (by omega) (by omega)) (fun e2 => ?_)
  refine t_253_6 ?_
  refine ⟨m_inR (by omega) (by omega), fun c0 => ?_, fun c0 => ?_⟩
  · have hS3 : Safe (mset d x0 0 1) := s_11_f0 hS hx0 (by omega)
    rw [mset_eq (d := d) (a := x0) (i := (0 : Int)) (v := (1 : Int))]
    refine ⟨m_inR (by omega) (by omega), fun c1 => ?_, fun c1 => ?_⟩
    · exact (show False by omega).elim
    · have y0 : f_253 x0 x1 x2 d = (0, mset d x0 0 1) := by simp only [f_253, if_pos (show v_238 x0 x1 d = 0 from c0), if_pos (show (0 : Int) < 1 from c1)]
      rw [y0] at h
      exact h (show ∀ b : Int, (b < x0 ∨ x0 < b) → (mset d x0 0 1) b = d b from fun b hb => mset_ne (by omega)) hS3
  · have hS4 : Safe (mset d x0 0 0) := s_11_f0 hS hx0 (by omega)
    rw [mset_eq (d := d) (a := x0) (i := (0 : Int)) (v := (0 : Int))]
    refine ⟨m_inR (by omega) (by omega), fun c1 => ?_, fun c1 => ?_⟩
    · refine l_253_31 hx0 p1 p2 (16 - 0 : Int).toNat x2 0  (mset d x0 0 0) hS4 (by omega) (by omega) (by omega) (by omega) ?_
      intro F hS_
      have y0 : f_253 x0 x1 x2 d = lp_253_31 x0 x1 x2 (16 - 0 : Int).toNat x2 0 (mset d x0 0 0) := by simp only [f_253, if_neg (show ¬ v_238 x0 x1 d = 0 from c0), if_neg (show ¬ (0 : Int) < 0 from Int.not_lt.mpr c1)]
      rw [y0] at h
      exact h (fun b hb => (F b hb).trans ((show ∀ b : Int, (b < x0 ∨ x0 < b) → (mset d x0 0 0) b = d b from fun b hb => mset_ne (by omega)) b hb)) hS_
    · exact (show False by omega).elim
def st_258_9 (x0 : Int) (r9 : Int → Int → mD → Int × mD) (x1 x2 : Int) (d : mD) : Int × mD := if x2 < d (x0 + 1) 10 then (if d (x0 + 1) ((1916 + (5 * x2)) + 3) = 2 then r9 (x1 + 0) (x2 + 1) d else r9 (x1 + 1) (x2 + 1) d) else (x1 * (d (x0 + 1) 6), d)
def lp_258_9 (x0 : Int) : Nat → Int → Int → mD → Int × mD
  | 0 => st_258_9 x0 (fun _ _ d => (0, d))
  | n + 1 => st_258_9 x0 (lp_258_9 x0 n)
theorem ls_258_9 {E : mO × tW} {K : tK} {x0 : Int} (hx0 : mdB x0) (N9 : Int) (r9 : Int → Int → mD → Int × mD) (ih9 : ∀ (x1 x2 : Int) (d : mD), Safe d → (0 ≤ x2 ∧ x2 ≤ 200) → 0 ≤ 200 - x2 → 200 - x2 < N9 → ((∀ b : Int, (b < x0 ∨ x0 < b) → (r9 x1 x2 d).2 b = d b) → Safe (r9 x1 x2 d).2 → K (.inl (some (0, (r9 x1 x2 d).1))) (r9 x1 x2 d).2) → tRun E 258 (9, [.inr (11, x0), .inl (0, x1), .inl (0, x2)], [], 0, 0, d) K) (x1 x2 : Int) (d : mD) (hS : Safe d) (i0 : 0 ≤ x2 ∧ x2 ≤ 200) (hm : 200 - x2 ≤ N9) (h : (∀ b : Int, (b < x0 ∨ x0 < b) → (st_258_9 x0 r9 x1 x2 d).2 b = d b) → Safe (st_258_9 x0 r9 x1 x2 d).2 → K (.inl (some (0, (st_258_9 x0 r9 x1 x2 d).1))) (st_258_9 x0 r9 x1 x2 d).2) : tRun E 258 (9, [.inr (11, x0), .inl (0, x1), .inl (0, x2)], [], 0, 0, d) K := by
  refine t_258_9 ?_
  have q1 := mh_10 hS hx0 _ rfl
  refine ⟨by omega, ⟨m_inR (by omega) (by omega), m_inR (by omega) (by omega)⟩, fun c0 => ?_, fun c0 => ?_⟩
  · have q2 := mh_6 hS hx0 _ rfl
    refine ⟨by omega, ?_⟩
    have y0 : st_258_9 x0 r9 x1 x2 d = (x1 * (d (x0 + 1) 6), d) := by simp only [st_258_9, if_neg (show ¬ x2 < d (x0 + 1) 10 from Int.not_lt.mpr c0)]
    rw [y0] at h
    exact h (show ∀ b : Int, (b < x0 ∨ x0 < b) → d b = d b from fun _ _ => rfl) hS
  · refine k_180 hS ?_
    refine t_258_29 ?_
    have q3 := mk_3 hS hx0 x2 ((1916 + (5 * x2)) + 3) (by omega) (by omega)
    refine ⟨by omega, ⟨m_inR (by omega) (by omega), m_inR (by omega) (by omega)⟩, fun c1 => ?_, fun c1 => ?_⟩
    · refine ih9 (x1 + 1) (x2 + 1)  d hS (by omega) (by omega) (by omega) ?_
      intro F hS_
      have y0 : st_258_9 x0 r9 x1 x2 d = r9 (x1 + 1) (x2 + 1) d := by simp only [st_258_9, if_pos (show x2 < d (x0 + 1) 10 from c0), if_neg (show ¬ d (x0 + 1) ((1916 + (5 * x2)) + 3) = 2 from c1)]
      rw [y0] at h
      exact h F hS_
    · refine ih9 (x1 + 0) (x2 + 1)  d hS (by omega) (by omega) (by omega) ?_
      intro F hS_
      have y0 : st_258_9 x0 r9 x1 x2 d = r9 (x1 + 0) (x2 + 1) d := by simp only [st_258_9, if_pos (show x2 < d (x0 + 1) 10 from c0), if_pos (show d (x0 + 1) ((1916 + (5 * x2)) + 3) = 2 from c1)]
      rw [y0] at h
      exact h F hS_
theorem l_258_9 {E : mO × tW} {K : tK} {x0 : Int} (hx0 : mdB x0) : ∀ (n : Nat) (x1 x2 : Int) (d : mD), Safe d → (0 ≤ x2 ∧ x2 ≤ 200) → 200 - x2 ≤ (n : Int) → ((∀ b : Int, (b < x0 ∨ x0 < b) → (lp_258_9 x0 n x1 x2 d).2 b = d b) → Safe (lp_258_9 x0 n x1 x2 d).2 → K (.inl (some (0, (lp_258_9 x0 n x1 x2 d).1))) (lp_258_9 x0 n x1 x2 d).2) → tRun E 258 (9, [.inr (11, x0), .inl (0, x1), .inl (0, x2)], [], 0, 0, d) K := by
  intro n
  induction n with
  | zero =>
    intro x1 x2  d hS i0 hm  h
    exact ls_258_9 hx0 0 _ (fun _ _  _ _ _ m0 m1 _ => absurd m1 (by omega)) x1 x2  d hS i0 hm  h
  | succ n ih =>
    intro x1 x2  d hS i0 hm  h
    exact ls_258_9 hx0 ((n + 1 : Nat) : Int) _ (fun x1 x2  d hS i0  m0 m1 h => ih x1 x2  d hS i0 (by omega)  h) x1 x2  d hS i0 hm  h
def f_258 (x0 : Int) (d : mD) : Int × mD := lp_258_9 x0 (200 - 0 : Int).toNat 0 0 (mset d x0 0 0)
def v_258 (x0 : Int) (d : mD) : Int := (f_258 x0 d).1
def g_258 (x0 : Int) (d : mD) : mD := (f_258 x0 d).2
theorem k_258 {E : mO × tW} {K : tK} {d : mD} {x0 : Int} (hS : Safe d) (hx0 : mdB x0) (h : (∀ b : Int, (b < x0 ∨ x0 < b) → (g_258 x0 d) b = d b) → Safe (g_258 x0 d) → K (.inl (some (0, (v_258 x0 d)))) (g_258 x0 d)) : tCall E 258 [.inr (11, x0)] d K := by
  simp only [v_258, g_258] at h
  refine t_258_0 ?_
  have w0 := mh_0 hS hx0 _ rfl
  have w7 := mh_7 hS hx0 _ rfl
  have w8 := mh_8 hS hx0 _ rfl
  have w9 := mh_9 hS hx0 _ rfl
  have w10 := mh_10 hS hx0 _ rfl
  have w11 := mh_11 hS hx0 _ rfl
  have hS1 : Safe (mset d x0 0 0) := s_11_f0 hS hx0 (by omega)
  refine l_258_9 hx0 (200 - 0 : Int).toNat 0 0  (mset d x0 0 0) hS1 (by omega) (by omega) ?_
  intro F hS_
  have y0 : f_258 x0 d = lp_258_9 x0 (200 - 0 : Int).toNat 0 0 (mset d x0 0 0) := by simp only [f_258]
  rw [y0] at h
  exact h (fun b hb => (F b hb).trans ((show ∀ b : Int, (b < x0 ∨ x0 < b) → (mset d x0 0 0) b = d b from fun b hb => mset_ne (by omega)) b hb)) hS_
def st_259_11 (x0 : Int) (r11 : Int → Int → Int → mD → Int × mD) (x1 x2 x3 : Int) (d : mD) : Int × mD := if x3 < d (x0 + 1) 9 then (if d (x0 + 1) ((452 + (24 * x3)) + 4) = 1 then r11 (x1 + ((d (x0 + 1) ((452 + (24 * x3)) + 3)) - (d (x0 + 1) ((452 + (24 * x3)) + 2)))) (x2 + 1) (x3 + 1) d else r11 x1 x2 (x3 + 1) d) else if x2 = 0 then (0, d) else (mddiv (mi2d x1) (mi2d x2), d)
def lp_259_11 (x0 : Int) : Nat → Int → Int → Int → mD → Int × mD
  | 0 => st_259_11 x0 (fun _ _ _ d => (0, d))
  | n + 1 => st_259_11 x0 (lp_259_11 x0 n)
theorem ls_259_11 {E : mO × tW} {K : tK} {x0 : Int} (hx0 : mdB x0) (N11 : Int) (r11 : Int → Int → Int → mD → Int × mD) (ih11 : ∀ (x1 x2 x3 : Int) (d : mD), Safe d → (0 ≤ x3 ∧ x3 ≤ 61) → (0 ≤ x2 ∧ x2 ≤ x3) → 0 ≤ 61 - x3 → 61 - x3 < N11 → ((∀ b : Int, (b < x0 ∨ x0 < b) → (r11 x1 x2 x3 d).2 b = d b) → Safe (r11 x1 x2 x3 d).2 → K (.inl (some (2, (r11 x1 x2 x3 d).1))) (r11 x1 x2 x3 d).2) → tRun E 259 (11, [.inr (11, x0), .inl (0, x1), .inl (0, x2), .inl (0, x3)], [], 0, 0, d) K) (x1 x2 x3 : Int) (d : mD) (hS : Safe d) (i0 : 0 ≤ x3 ∧ x3 ≤ 61) (i1 : 0 ≤ x2 ∧ x2 ≤ x3) (hm : 61 - x3 ≤ N11) (h : (∀ b : Int, (b < x0 ∨ x0 < b) → (st_259_11 x0 r11 x1 x2 x3 d).2 b = d b) → Safe (st_259_11 x0 r11 x1 x2 x3 d).2 → K (.inl (some (2, (st_259_11 x0 r11 x1 x2 x3 d).1))) (st_259_11 x0 r11 x1 x2 x3 d).2) : tRun E 259 (11, [.inr (11, x0), .inl (0, x1), .inl (0, x2), .inl (0, x3)], [], 0, 0, d) K := by
  refine t_259_11 ?_
  have q1 := mh_9 hS hx0 _ rfl
  refine ⟨by omega, ⟨m_inR (by omega) (by omega), m_inR (by omega) (by omega)⟩, fun c0 => ?_, fun c0 => ?_⟩
  · refine ⟨m_inR (by omega) (by omega), fun c1 => ?_, fun c1 => ?_⟩
    · refine ⟨dd_ok (by omega), ?_⟩
      have y0 : st_259_11 x0 r11 x1 x2 x3 d = (mddiv (mi2d x1) (mi2d x2), d) := by simp only [st_259_11, if_neg (show ¬ x3 < d (x0 + 1) 9 from Int.not_lt.mpr c0), if_neg (show ¬ x2 = 0 from c1)]
      rw [y0] at h
      exact h (show ∀ b : Int, (b < x0 ∨ x0 < b) → d b = d b from fun _ _ => rfl) hS
    · have y0 : st_259_11 x0 r11 x1 x2 x3 d = (0, d) := by simp only [st_259_11, if_neg (show ¬ x3 < d (x0 + 1) 9 from Int.not_lt.mpr c0), if_pos (show x2 = 0 from c1)]
      rw [y0] at h
      exact h (show ∀ b : Int, (b < x0 ∨ x0 < b) → d b = d b from fun _ _ => rfl) hS
  · refine k_179 hS ?_
    refine t_259_30 ?_
    have q2 := mt_4 hS hx0 x3 ((452 + (24 * x3)) + 4) (by omega) (by omega)
    refine ⟨by omega, ⟨m_inR (by omega) (by omega), m_inR (by omega) (by omega)⟩, fun c1 => ?_, fun c1 => ?_⟩
    · refine ih11 x1 x2 (x3 + 1)  d hS (by omega) (by omega) (by omega) (by omega) ?_
      intro F hS_
      have y0 : st_259_11 x0 r11 x1 x2 x3 d = r11 x1 x2 (x3 + 1) d := by simp only [st_259_11, if_pos (show x3 < d (x0 + 1) 9 from c0), if_neg (show ¬ d (x0 + 1) ((452 + (24 * x3)) + 4) = 1 from c1)]
      rw [y0] at h
      exact h F hS_
    · refine k_179 hS ?_
      refine t_259_46 ?_
      refine ⟨by omega, ?_⟩
      refine k_179 hS ?_
      refine t_259_57 ?_
      refine ⟨by omega, ?_⟩
      have q3 := mt_3 hS hx0 x3 ((452 + (24 * x3)) + 3) (by omega) (by omega)
      have q4 := mt_2 hS hx0 x3 ((452 + (24 * x3)) + 2) (by omega) (by omega)
      refine ih11 (x1 + ((d (x0 + 1) ((452 + (24 * x3)) + 3)) - (d (x0 + 1) ((452 + (24 * x3)) + 2)))) (x2 + 1) (x3 + 1)  d hS (by omega) (by omega) (by omega) (by omega) ?_
      intro F hS_
      have y0 : st_259_11 x0 r11 x1 x2 x3 d = r11 (x1 + ((d (x0 + 1) ((452 + (24 * x3)) + 3)) - (d (x0 + 1) ((452 + (24 * x3)) + 2)))) (x2 + 1) (x3 + 1) d := by simp only [st_259_11, if_pos (show x3 < d (x0 + 1) 9 from c0), if_pos (show d (x0 + 1) ((452 + (24 * x3)) + 4) = 1 from c1)]
      rw [y0] at h
      exact h F hS_
theorem l_259_11 {E : mO × tW} {K : tK} {x0 : Int} (hx0 : mdB x0) : ∀ (n : Nat) (x1 x2 x3 : Int) (d : mD), Safe d → (0 ≤ x3 ∧ x3 ≤ 61) → (0 ≤ x2 ∧ x2 ≤ x3) → 61 - x3 ≤ (n : Int) → ((∀ b : Int, (b < x0 ∨ x0 < b) → (lp_259_11 x0 n x1 x2 x3 d).2 b = d b) → Safe (lp_259_11 x0 n x1 x2 x3 d).2 → K (.inl (some (2, (lp_259_11 x0 n x1 x2 x3 d).1))) (lp_259_11 x0 n x1 x2 x3 d).2) → tRun E 259 (11, [.inr (11, x0), .inl (0, x1), .inl (0, x2), .inl (0, x3)], [], 0, 0, d) K := by
  intro n
  induction n with
  | zero =>
    intro x1 x2 x3  d hS i0 i1 hm  h
    exact ls_259_11 hx0 0 _ (fun _ _ _  _ _ _ _ m0 m1 _ => absurd m1 (by omega)) x1 x2 x3  d hS i0 i1 hm  h
  | succ n ih =>
    intro x1 x2 x3  d hS i0 i1 hm  h
    exact ls_259_11 hx0 ((n + 1 : Nat) : Int) _ (fun x1 x2 x3  d hS i0 i1  m0 m1 h => ih x1 x2 x3  d hS i0 i1 (by omega)  h) x1 x2 x3  d hS i0 i1 hm  h
def f_259 (x0 : Int) (d : mD) : Int × mD := lp_259_11 x0 (61 - 0 : Int).toNat 0 0 0 (mset d x0 0 0)
def v_259 (x0 : Int) (d : mD) : Int := (f_259 x0 d).1
def g_259 (x0 : Int) (d : mD) : mD := (f_259 x0 d).2
theorem k_259 {E : mO × tW} {K : tK} {d : mD} {x0 : Int} (hS : Safe d) (hx0 : mdB x0) (h : (∀ b : Int, (b < x0 ∨ x0 < b) → (g_259 x0 d) b = d b) → Safe (g_259 x0 d) → K (.inl (some (2, (v_259 x0 d)))) (g_259 x0 d)) : tCall E 259 [.inr (11, x0)] d K := by
  simp only [v_259, g_259] at h
  refine t_259_0 ?_
  have w0 := mh_0 hS hx0 _ rfl
  have w7 := mh_7 hS hx0 _ rfl
  have w8 := mh_8 hS hx0 _ rfl
  have w9 := mh_9 hS hx0 _ rfl
  have w10 := mh_10 hS hx0 _ rfl
  have w11 := mh_11 hS hx0 _ rfl
  have hS1 : Safe (mset d x0 0 0) := s_11_f0 hS hx0 (by omega)
  refine l_259_11 hx0 (61 - 0 : Int).toNat 0 0 0  (mset d x0 0 0) hS1 (by omega) (by omega) (by omega) ?_
  intro F hS_
  have y0 : f_259 x0 d = lp_259_11 x0 (61 - 0 : Int).toNat 0 0 0 (mset d x0 0 0) := by simp only [f_259]
  rw [y0] at h
  exact h (fun b hb => (F b hb).trans ((show ∀ b : Int, (b < x0 ∨ x0 < b) → (mset d x0 0 0) b = d b from fun b hb => mset_ne (by omega)) b hb)) hS_
def st_260_9 (x0 : Int) (r9 : Int → Int → mD → Int × mD) (x1 x2 : Int) (d : mD) : Int × mD := if x2 < d (x0 + 1) 8 then r9 (x1 + (v_244 x0 x2 0 d)) (x2 + 1) d else if x1 = 0 then (0, d) else (mddiv (mi2d (d (x0 + 1) 10)) (mi2d x1), d)
def lp_260_9 (x0 : Int) : Nat → Int → Int → mD → Int × mD
  | 0 => st_260_9 x0 (fun _ _ d => (0, d))
  | n + 1 => st_260_9 x0 (lp_260_9 x0 n)
theorem ls_260_9 {E : mO × tW} {K : tK} {x0 : Int} (hx0 : mdB x0) (N9 : Int) (r9 : Int → Int → mD → Int × mD) (ih9 : ∀ (x1 x2 : Int) (d : mD), Safe d → (0 ≤ x2 ∧ x2 ≤ 16) → (0 ≤ x1 ∧ x1 ≤ 1200 * x2) → 0 ≤ 16 - x2 → 16 - x2 < N9 → ((∀ b : Int, (b < x0 ∨ x0 < b) → (r9 x1 x2 d).2 b = d b) → Safe (r9 x1 x2 d).2 → K (.inl (some (2, (r9 x1 x2 d).1))) (r9 x1 x2 d).2) → tRun E 260 (9, [.inr (11, x0), .inl (0, x1), .inl (0, x2)], [], 0, 0, d) K) (x1 x2 : Int) (d : mD) (hS : Safe d) (i0 : 0 ≤ x2 ∧ x2 ≤ 16) (i1 : 0 ≤ x1 ∧ x1 ≤ 1200 * x2) (hm : 16 - x2 ≤ N9) (h : (∀ b : Int, (b < x0 ∨ x0 < b) → (st_260_9 x0 r9 x1 x2 d).2 b = d b) → Safe (st_260_9 x0 r9 x1 x2 d).2 → K (.inl (some (2, (st_260_9 x0 r9 x1 x2 d).1))) (st_260_9 x0 r9 x1 x2 d).2) : tRun E 260 (9, [.inr (11, x0), .inl (0, x1), .inl (0, x2)], [], 0, 0, d) K := by
  refine t_260_9 ?_
  have q1 := mh_8 hS hx0 _ rfl
  refine ⟨by omega, ⟨m_inR (by omega) (by omega), m_inR (by omega) (by omega)⟩, fun c0 => ?_, fun c0 => ?_⟩
  · refine ⟨m_inR (by omega) (by omega), fun c1 => ?_, fun c1 => ?_⟩
    · refine ⟨by omega, dd_ok (by omega), ?_⟩
      have y0 : st_260_9 x0 r9 x1 x2 d = (mddiv (mi2d (d (x0 + 1) 10)) (mi2d x1), d) := by simp only [st_260_9, if_neg (show ¬ x2 < d (x0 + 1) 8 from Int.not_lt.mpr c0), if_neg (show ¬ x1 = 0 from c1)]
      rw [y0] at h
      exact h (show ∀ b : Int, (b < x0 ∨ x0 < b) → d b = d b from fun _ _ => rfl) hS
    · have y0 : st_260_9 x0 r9 x1 x2 d = (0, d) := by simp only [st_260_9, if_neg (show ¬ x2 < d (x0 + 1) 8 from Int.not_lt.mpr c0), if_pos (show x1 = 0 from c1)]
      rw [y0] at h
      exact h (show ∀ b : Int, (b < x0 ∨ x0 < b) → d b = d b from fun _ _ => rfl) hS
  · refine k_244 hS hx0 (m_inR (by omega) (by omega)) (by omega) (fun e1 => ?_)
    refine t_260_27 ?_
    refine ih9 (x1 + (v_244 x0 x2 0 d)) (x2 + 1)  d hS (by omega) (by omega) (by omega) (by omega) ?_
    intro F hS_
    have y0 : st_260_9 x0 r9 x1 x2 d = r9 (x1 + (v_244 x0 x2 0 d)) (x2 + 1) d := by simp only [st_260_9, if_pos (show x2 < d (x0 + 1) 8 from c0)]
    rw [y0] at h
    exact h F hS_
theorem l_260_9 {E : mO × tW} {K : tK} {x0 : Int} (hx0 : mdB x0) : ∀ (n : Nat) (x1 x2 : Int) (d : mD), Safe d → (0 ≤ x2 ∧ x2 ≤ 16) → (0 ≤ x1 ∧ x1 ≤ 1200 * x2) → 16 - x2 ≤ (n : Int) → ((∀ b : Int, (b < x0 ∨ x0 < b) → (lp_260_9 x0 n x1 x2 d).2 b = d b) → Safe (lp_260_9 x0 n x1 x2 d).2 → K (.inl (some (2, (lp_260_9 x0 n x1 x2 d).1))) (lp_260_9 x0 n x1 x2 d).2) → tRun E 260 (9, [.inr (11, x0), .inl (0, x1), .inl (0, x2)], [], 0, 0, d) K := by
  intro n
  induction n with
  | zero =>
    intro x1 x2  d hS i0 i1 hm  h
    exact ls_260_9 hx0 0 _ (fun _ _  _ _ _ _ m0 m1 _ => absurd m1 (by omega)) x1 x2  d hS i0 i1 hm  h
  | succ n ih =>
    intro x1 x2  d hS i0 i1 hm  h
    exact ls_260_9 hx0 ((n + 1 : Nat) : Int) _ (fun x1 x2  d hS i0 i1  m0 m1 h => ih x1 x2  d hS i0 i1 (by omega)  h) x1 x2  d hS i0 i1 hm  h
def f_260 (x0 : Int) (d : mD) : Int × mD := lp_260_9 x0 (16 - 0 : Int).toNat 0 0 (mset d x0 0 0)
def v_260 (x0 : Int) (d : mD) : Int := (f_260 x0 d).1
def g_260 (x0 : Int) (d : mD) : mD := (f_260 x0 d).2
theorem k_260 {E : mO × tW} {K : tK} {d : mD} {x0 : Int} (hS : Safe d) (hx0 : mdB x0) (h : (∀ b : Int, (b < x0 ∨ x0 < b) → (g_260 x0 d) b = d b) → Safe (g_260 x0 d) → K (.inl (some (2, (v_260 x0 d)))) (g_260 x0 d)) : tCall E 260 [.inr (11, x0)] d K := by
  simp only [v_260, g_260] at h
  refine t_260_0 ?_
  have w0 := mh_0 hS hx0 _ rfl
  have w7 := mh_7 hS hx0 _ rfl
  have w8 := mh_8 hS hx0 _ rfl
  have w9 := mh_9 hS hx0 _ rfl
  have w10 := mh_10 hS hx0 _ rfl
  have w11 := mh_11 hS hx0 _ rfl
  have hS1 : Safe (mset d x0 0 0) := s_11_f0 hS hx0 (by omega)
  refine l_260_9 hx0 (16 - 0 : Int).toNat 0 0  (mset d x0 0 0) hS1 (by omega) (by omega) (by omega) ?_
  intro F hS_
  have y0 : f_260 x0 d = lp_260_9 x0 (16 - 0 : Int).toNat 0 0 (mset d x0 0 0) := by simp only [f_260]
  rw [y0] at h
  exact h (fun b hb => (F b hb).trans ((show ∀ b : Int, (b < x0 ∨ x0 < b) → (mset d x0 0 0) b = d b from fun b hb => mset_ne (by omega)) b hb)) hS_
def st_261_11 (x0 : Int) (r11 : Int → Int → Int → mD → Int × mD) (x1 x2 x3 : Int) (d : mD) : Int × mD := if x3 < d (x0 + 1) 8 then (if x2 < v_244 x0 x3 0 d then r11 x3 (v_244 x0 x3 0 d) (x3 + 1) d else r11 x1 x2 (x3 + 1) d) else (x1, d)
def lp_261_11 (x0 : Int) : Nat → Int → Int → Int → mD → Int × mD
  | 0 => st_261_11 x0 (fun _ _ _ d => (0, d))
  | n + 1 => st_261_11 x0 (lp_261_11 x0 n)
theorem ls_261_11 {E : mO × tW} {K : tK} {x0 : Int} (hx0 : mdB x0) (N11 : Int) (r11 : Int → Int → Int → mD → Int × mD) (ih11 : ∀ (x1 x2 x3 : Int) (v4 : tV) (d : mD), Safe d → (0 ≤ x3 ∧ x3 ≤ 16) → (0 ≤ x2 ∧ x2 ≤ 1200) → 0 ≤ 16 - x3 → 16 - x3 < N11 → ((∀ b : Int, (b < x0 ∨ x0 < b) → (r11 x1 x2 x3 d).2 b = d b) → Safe (r11 x1 x2 x3 d).2 → K (.inl (some (0, (r11 x1 x2 x3 d).1))) (r11 x1 x2 x3 d).2) → tRun E 261 (11, [.inr (11, x0), .inl (0, x1), .inl (0, x2), .inl (0, x3), v4], [], 0, 0, d) K) (x1 x2 x3 : Int) (v4 : tV) (d : mD) (hS : Safe d) (i0 : 0 ≤ x3 ∧ x3 ≤ 16) (i1 : 0 ≤ x2 ∧ x2 ≤ 1200) (hm : 16 - x3 ≤ N11) (h : (∀ b : Int, (b < x0 ∨ x0 < b) → (st_261_11 x0 r11 x1 x2 x3 d).2 b = d b) → Safe (st_261_11 x0 r11 x1 x2 x3 d).2 → K (.inl (some (0, (st_261_11 x0 r11 x1 x2 x3 d).1))) (st_261_11 x0 r11 x1 x2 x3 d).2) : tRun E 261 (11, [.inr (11, x0), .inl (0, x1), .inl (0, x2), .inl (0, x3), v4], [], 0, 0, d) K := by
  refine t_261_11 ?_
  have q1 := mh_8 hS hx0 _ rfl
  refine ⟨by omega, ⟨m_inR (by omega) (by omega), m_inR (by omega) (by omega)⟩, fun c0 => ?_, fun c0 => ?_⟩
  · have y0 : st_261_11 x0 r11 x1 x2 x3 d = (x1, d) := by simp only [st_261_11, if_neg (show ¬ x3 < d (x0 + 1) 8 from Int.not_lt.mpr c0)]
    rw [y0] at h
    exact h (show ∀ b : Int, (b < x0 ∨ x0 < b) → d b = d b from fun _ _ => rfl) hS
  · refine k_244 hS hx0 (m_inR (by omega) (by omega)) (by omega) (fun e1 => ?_)
    refine t_261_28 ?_
    refine ⟨⟨m_inR (by omega) (by omega), m_inR (by omega) (by omega)⟩, fun c1 => ?_, fun c1 => ?_⟩
    · refine ⟨⟨m_inR (by omega) (by omega), m_inR (by omega) (by omega)⟩, fun c2 => ?_, fun c2 => ?_⟩
      · refine ih11 x1 x2 (x3 + 1) (.inl (0, v_244 x0 x3 0 d)) d hS (by omega) (by omega) (by omega) (by omega) ?_
        intro F hS_
        have y0 : st_261_11 x0 r11 x1 x2 x3 d = r11 x1 x2 (x3 + 1) d := by simp only [st_261_11, if_pos (show x3 < d (x0 + 1) 8 from c0), if_neg (show ¬ x2 < v_244 x0 x3 0 d from Int.not_lt.mpr c1), if_neg (show ¬ x2 < v_244 x0 x3 0 d from Int.not_lt.mpr c2)]
        rw [y0] at h
        exact h F hS_
      · exact (show False by omega).elim
    · refine ⟨⟨m_inR (by omega) (by omega), m_inR (by omega) (by omega)⟩, fun c2 => ?_, fun c2 => ?_⟩
      · exact (show False by omega).elim
      · refine ih11 x3 (v_244 x0 x3 0 d) (x3 + 1) (.inl (0, v_244 x0 x3 0 d)) d hS (by omega) (by omega) (by omega) (by omega) ?_
        intro F hS_
        have y0 : st_261_11 x0 r11 x1 x2 x3 d = r11 x3 (v_244 x0 x3 0 d) (x3 + 1) d := by simp only [st_261_11, if_pos (show x3 < d (x0 + 1) 8 from c0), if_pos (show x2 < v_244 x0 x3 0 d from c1), if_pos (show x2 < v_244 x0 x3 0 d from c2)]
        rw [y0] at h
        exact h F hS_
theorem l_261_11 {E : mO × tW} {K : tK} {x0 : Int} (hx0 : mdB x0) : ∀ (n : Nat) (x1 x2 x3 : Int) (v4 : tV) (d : mD), Safe d → (0 ≤ x3 ∧ x3 ≤ 16) → (0 ≤ x2 ∧ x2 ≤ 1200) → 16 - x3 ≤ (n : Int) → ((∀ b : Int, (b < x0 ∨ x0 < b) → (lp_261_11 x0 n x1 x2 x3 d).2 b = d b) → Safe (lp_261_11 x0 n x1 x2 x3 d).2 → K (.inl (some (0, (lp_261_11 x0 n x1 x2 x3 d).1))) (lp_261_11 x0 n x1 x2 x3 d).2) → tRun E 261 (11, [.inr (11, x0), .inl (0, x1), .inl (0, x2), .inl (0, x3), v4], [], 0, 0, d) K := by
  intro n
  induction n with
  | zero =>
    intro x1 x2 x3 v4 d hS i0 i1 hm  h
    exact ls_261_11 hx0 0 _ (fun _ _ _ _ _ _ _ _ m0 m1 _ => absurd m1 (by omega)) x1 x2 x3 v4 d hS i0 i1 hm  h
  | succ n ih =>
    intro x1 x2 x3 v4 d hS i0 i1 hm  h
    exact ls_261_11 hx0 ((n + 1 : Nat) : Int) _ (fun x1 x2 x3 v4 d hS i0 i1  m0 m1 h => ih x1 x2 x3 v4 d hS i0 i1 (by omega)  h) x1 x2 x3 v4 d hS i0 i1 hm  h
def f_261 (x0 : Int) (d : mD) : Int × mD := lp_261_11 x0 (16 - 0 : Int).toNat ((-1)) 0 0 (mset d x0 0 0)
def v_261 (x0 : Int) (d : mD) : Int := (f_261 x0 d).1
def g_261 (x0 : Int) (d : mD) : mD := (f_261 x0 d).2
theorem k_261 {E : mO × tW} {K : tK} {d : mD} {x0 : Int} (hS : Safe d) (hx0 : mdB x0) (h : (∀ b : Int, (b < x0 ∨ x0 < b) → (g_261 x0 d) b = d b) → Safe (g_261 x0 d) → K (.inl (some (0, (v_261 x0 d)))) (g_261 x0 d)) : tCall E 261 [.inr (11, x0)] d K := by
  simp only [v_261, g_261] at h
  refine t_261_0 ?_
  have w0 := mh_0 hS hx0 _ rfl
  have w7 := mh_7 hS hx0 _ rfl
  have w8 := mh_8 hS hx0 _ rfl
  have w9 := mh_9 hS hx0 _ rfl
  have w10 := mh_10 hS hx0 _ rfl
  have w11 := mh_11 hS hx0 _ rfl
  have hS1 : Safe (mset d x0 0 0) := s_11_f0 hS hx0 (by omega)
  refine l_261_11 hx0 (16 - 0 : Int).toNat ((-1)) 0 0 tu (mset d x0 0 0) hS1 (by omega) (by omega) (by omega) ?_
  intro F hS_
  have y0 : f_261 x0 d = lp_261_11 x0 (16 - 0 : Int).toNat ((-1)) 0 0 (mset d x0 0 0) := by simp only [f_261]
  rw [y0] at h
  exact h (fun b hb => (F b hb).trans ((show ∀ b : Int, (b < x0 ∨ x0 < b) → (mset d x0 0 0) b = d b from fun b hb => mset_ne (by omega)) b hb)) hS_
def st_262_58 (x0 : Int) (r15 : Int → Int → mD → Int × mD) (r58 : Int → Int → Int → mD → Int × mD) (x1 x2 x3 : Int) (d : mD) : Int × mD := if x3 < x2 then (if d (x0 + 1) ((1916 + (5 * x2)) + 2) = d (x0 + 1) ((1916 + (5 * x3)) + 2) then (if v_215 x0 x2 d = v_215 x0 x3 d then r58 (x1 + 1) x2 (x3 + 1) d else r58 (x1 + 0) x2 (x3 + 1) d) else r58 (x1 + 0) x2 (x3 + 1) d) else r15 x1 (x2 + 1) d
def lp_262_58 (x0 : Int) (r15 : Int → Int → mD → Int × mD) : Nat → Int → Int → Int → mD → Int × mD
  | 0 => st_262_58 x0 r15 (fun _ _ _ d => (0, d))
  | n + 1 => st_262_58 x0 r15 (lp_262_58 x0 r15 n)
theorem ls_262_58 {E : mO × tW} {K : tK} {x0 : Int} (hx0 : mdB x0) (N15 : Int) (r15 : Int → Int → mD → Int × mD) (ih15 : ∀ (x1 x2 : Int) (v3 : tV) (d : mD), Safe d → (0 ≤ x2 ∧ x2 ≤ 200) → 0 ≤ 200 - x2 → 200 - x2 < N15 → ((∀ b : Int, (b < x0 ∨ x0 < b) → (r15 x1 x2 d).2 b = d b) → Safe (r15 x1 x2 d).2 → K (.inl (some (0, (r15 x1 x2 d).1))) (r15 x1 x2 d).2) → tRun E 262 (15, [.inr (11, x0), .inl (0, x1), .inl (0, x2), v3], [], 0, 0, d) K) (N58 : Int) (r58 : Int → Int → Int → mD → Int × mD) (ih58 : ∀ (x1 x2 x3 : Int) (d : mD), Safe d → (0 ≤ x2 ∧ x2 ≤ 199) → (0 ≤ x3 ∧ x3 ≤ x2) → 200 - x2 ≤ N15 → 0 ≤ x2 - x3 → x2 - x3 < N58 → ((∀ b : Int, (b < x0 ∨ x0 < b) → (r58 x1 x2 x3 d).2 b = d b) → Safe (r58 x1 x2 x3 d).2 → K (.inl (some (0, (r58 x1 x2 x3 d).1))) (r58 x1 x2 x3 d).2) → tRun E 262 (58, [.inr (11, x0), .inl (0, x1), .inl (0, x2), .inl (0, x3)], [], 0, 0, d) K) (x1 x2 x3 : Int) (d : mD) (hS : Safe d) (i0 : 0 ≤ x2 ∧ x2 ≤ 199) (i1 : 0 ≤ x3 ∧ x3 ≤ x2) (hm : x2 - x3 ≤ N58) (m15 : 200 - x2 ≤ N15) (h : (∀ b : Int, (b < x0 ∨ x0 < b) → (st_262_58 x0 r15 r58 x1 x2 x3 d).2 b = d b) → Safe (st_262_58 x0 r15 r58 x1 x2 x3 d).2 → K (.inl (some (0, (st_262_58 x0 r15 r58 x1 x2 x3 d).1))) (st_262_58 x0 r15 r58 x1 x2 x3 d).2) : tRun E 262 (58, [.inr (11, x0), .inl (0, x1), .inl (0, x2), .inl (0, x3)], [], 0, 0, d) K := by
  refine t_262_58 ?_
  refine ⟨⟨m_inR (by omega) (by omega), m_inR (by omega) (by omega)⟩, fun c0 => ?_, fun c0 => ?_⟩
  · refine ih15 x1 (x2 + 1) (.inl (0, x3)) d hS (by omega) (by omega) (by omega) ?_
    intro F hS_
    have y0 : st_262_58 x0 r15 r58 x1 x2 x3 d = r15 x1 (x2 + 1) d := by simp only [st_262_58, if_neg (show ¬ x3 < x2 from Int.not_lt.mpr c0)]
    rw [y0] at h
    exact h F hS_
  · refine k_180 hS ?_
    refine t_262_72 ?_
    refine ⟨by omega, ?_⟩
    refine k_180 hS ?_
    refine t_262_83 ?_
    have q1 := mk_2 hS hx0 x2 ((1916 + (5 * x2)) + 2) (by omega) (by omega)
    have q2 := mk_2 hS hx0 x3 ((1916 + (5 * x3)) + 2) (by omega) (by omega)
    refine ⟨by omega, ⟨m_inR (by omega) (by omega), m_inR (by omega) (by omega)⟩, fun c1 => ?_, fun c1 => ?_⟩
    · refine ih58 (x1 + 0) x2 (x3 + 1)  d hS (by omega) (by omega) (by omega) (by omega) (by omega) ?_
      intro F hS_
      have y0 : st_262_58 x0 r15 r58 x1 x2 x3 d = r58 (x1 + 0) x2 (x3 + 1) d := by simp only [st_262_58, if_pos (show x3 < x2 from c0), if_neg (show ¬ d (x0 + 1) ((1916 + (5 * x2)) + 2) = d (x0 + 1) ((1916 + (5 * x3)) + 2) from c1)]
      rw [y0] at h
      exact h F hS_
    · refine k_215 hS hx0 (by omega) (fun e1 => ?_)
      refine t_262_94 ?_
      refine k_215 hS hx0 (by omega) (fun e2 => ?_)
      refine t_262_99 ?_
      refine ⟨⟨m_inR (by omega) (by omega), m_inR (by omega) (by omega)⟩, fun c2 => ?_, fun c2 => ?_⟩
      · refine ih58 (x1 + 0) x2 (x3 + 1)  d hS (by omega) (by omega) (by omega) (by omega) (by omega) ?_
        intro F hS_
        have y0 : st_262_58 x0 r15 r58 x1 x2 x3 d = r58 (x1 + 0) x2 (x3 + 1) d := by simp only [st_262_58, if_pos (show x3 < x2 from c0), if_pos (show d (x0 + 1) ((1916 + (5 * x2)) + 2) = d (x0 + 1) ((1916 + (5 * x3)) + 2) from c1), if_neg (show ¬ v_215 x0 x2 d = v_215 x0 x3 d from c2)]
        rw [y0] at h
        exact h F hS_
      · refine ih58 (x1 + 1) x2 (x3 + 1)  d hS (by omega) (by omega) (by omega) (by omega) (by omega) ?_
        intro F hS_
        have y0 : st_262_58 x0 r15 r58 x1 x2 x3 d = r58 (x1 + 1) x2 (x3 + 1) d := by simp only [st_262_58, if_pos (show x3 < x2 from c0), if_pos (show d (x0 + 1) ((1916 + (5 * x2)) + 2) = d (x0 + 1) ((1916 + (5 * x3)) + 2) from c1), if_pos (show v_215 x0 x2 d = v_215 x0 x3 d from c2)]
        rw [y0] at h
        exact h F hS_
theorem l_262_58 {E : mO × tW} {K : tK} {x0 : Int} (hx0 : mdB x0) (N15 : Int) (r15 : Int → Int → mD → Int × mD) (ih15 : ∀ (x1 x2 : Int) (v3 : tV) (d : mD), Safe d → (0 ≤ x2 ∧ x2 ≤ 200) → 0 ≤ 200 - x2 → 200 - x2 < N15 → ((∀ b : Int, (b < x0 ∨ x0 < b) → (r15 x1 x2 d).2 b = d b) → Safe (r15 x1 x2 d).2 → K (.inl (some (0, (r15 x1 x2 d).1))) (r15 x1 x2 d).2) → tRun E 262 (15, [.inr (11, x0), .inl (0, x1), .inl (0, x2), v3], [], 0, 0, d) K) : ∀ (n : Nat) (x1 x2 x3 : Int) (d : mD), Safe d → (0 ≤ x2 ∧ x2 ≤ 199) → (0 ≤ x3 ∧ x3 ≤ x2) → x2 - x3 ≤ (n : Int) → 200 - x2 ≤ N15 → ((∀ b : Int, (b < x0 ∨ x0 < b) → (lp_262_58 x0 r15 n x1 x2 x3 d).2 b = d b) → Safe (lp_262_58 x0 r15 n x1 x2 x3 d).2 → K (.inl (some (0, (lp_262_58 x0 r15 n x1 x2 x3 d).1))) (lp_262_58 x0 r15 n x1 x2 x3 d).2) → tRun E 262 (58, [.inr (11, x0), .inl (0, x1), .inl (0, x2), .inl (0, x3)], [], 0, 0, d) K := by
  intro n
  induction n with
  | zero =>
    intro x1 x2 x3  d hS i0 i1 hm m15 h
    exact ls_262_58 hx0 N15 r15 ih15 0 _ (fun _ _ _  _ _ _ _ _ m0 m1 _ => absurd m1 (by omega)) x1 x2 x3  d hS i0 i1 hm m15 h
  | succ n ih =>
    intro x1 x2 x3  d hS i0 i1 hm m15 h
    exact ls_262_58 hx0 N15 r15 ih15 ((n + 1 : Nat) : Int) _ (fun x1 x2 x3  d hS i0 i1 m15 m0 m1 h => ih x1 x2 x3  d hS i0 i1 (by omega) m15 h) x1 x2 x3  d hS i0 i1 hm m15 h
def st_262_15 (x0 : Int) (r15 : Int → Int → mD → Int × mD) (x1 x2 : Int) (d : mD) : Int × mD := if x2 < d (x0 + 1) 10 then (if v_176 (d (x0 + 1) ((1916 + (5 * x2)) + 3)) 0 2 d = 0 then lp_262_58 x0 r15 (x2 - 0 : Int).toNat (x1 - 0) x2 0 d else lp_262_58 x0 r15 (x2 - 0 : Int).toNat (x1 - 1) x2 0 d) else (x1, d)
def lp_262_15 (x0 : Int) : Nat → Int → Int → mD → Int × mD
  | 0 => st_262_15 x0 (fun _ _ d => (0, d))
  | n + 1 => st_262_15 x0 (lp_262_15 x0 n)
theorem ls_262_15 {E : mO × tW} {K : tK} {x0 : Int} (hx0 : mdB x0) (N15 : Int) (r15 : Int → Int → mD → Int × mD) (ih15 : ∀ (x1 x2 : Int) (v3 : tV) (d : mD), Safe d → (0 ≤ x2 ∧ x2 ≤ 200) → 0 ≤ 200 - x2 → 200 - x2 < N15 → ((∀ b : Int, (b < x0 ∨ x0 < b) → (r15 x1 x2 d).2 b = d b) → Safe (r15 x1 x2 d).2 → K (.inl (some (0, (r15 x1 x2 d).1))) (r15 x1 x2 d).2) → tRun E 262 (15, [.inr (11, x0), .inl (0, x1), .inl (0, x2), v3], [], 0, 0, d) K) (x1 x2 : Int) (v3 : tV) (d : mD) (hS : Safe d) (i0 : 0 ≤ x2 ∧ x2 ≤ 200) (hm : 200 - x2 ≤ N15) (h : (∀ b : Int, (b < x0 ∨ x0 < b) → (st_262_15 x0 r15 x1 x2 d).2 b = d b) → Safe (st_262_15 x0 r15 x1 x2 d).2 → K (.inl (some (0, (st_262_15 x0 r15 x1 x2 d).1))) (st_262_15 x0 r15 x1 x2 d).2) : tRun E 262 (15, [.inr (11, x0), .inl (0, x1), .inl (0, x2), v3], [], 0, 0, d) K := by
  refine t_262_15 ?_
  have q3 := mh_10 hS hx0 _ rfl
  refine ⟨by omega, ⟨m_inR (by omega) (by omega), m_inR (by omega) (by omega)⟩, fun c0 => ?_, fun c0 => ?_⟩
  · have y0 : st_262_15 x0 r15 x1 x2 d = (x1, d) := by simp only [st_262_15, if_neg (show ¬ x2 < d (x0 + 1) 10 from Int.not_lt.mpr c0)]
    rw [y0] at h
    exact h (show ∀ b : Int, (b < x0 ∨ x0 < b) → d b = d b from fun _ _ => rfl) hS
  · refine k_180 hS ?_
    refine t_262_35 ?_
    have q4 := mk_3 hS hx0 x2 ((1916 + (5 * x2)) + 3) (by omega) (by omega)
    refine ⟨by omega, m_inR (by omega) (by omega), ?_⟩
    refine k_176 hS (m_inR (by omega) (by omega)) (m_inR (by omega) (by omega)) (m_inR (by omega) (by omega)) (fun e3 => ?_)
    refine t_262_46 ?_
    refine ⟨m_inR (by omega) (by omega), fun c1 => ?_, fun c1 => ?_⟩
    · refine l_262_58 hx0 N15 r15 ih15 (x2 - 0 : Int).toNat (x1 - 0) x2 0  d hS (by omega) (by omega) (by omega) (by omega) ?_
      intro F hS_
      have y0 : st_262_15 x0 r15 x1 x2 d = lp_262_58 x0 r15 (x2 - 0 : Int).toNat (x1 - 0) x2 0 d := by simp only [st_262_15, if_pos (show x2 < d (x0 + 1) 10 from c0), if_pos (show v_176 (d (x0 + 1) ((1916 + (5 * x2)) + 3)) 0 2 d = 0 from c1)]
      rw [y0] at h
      exact h F hS_
    · refine l_262_58 hx0 N15 r15 ih15 (x2 - 0 : Int).toNat (x1 - 1) x2 0  d hS (by omega) (by omega) (by omega) (by omega) ?_
      intro F hS_
      have y0 : st_262_15 x0 r15 x1 x2 d = lp_262_58 x0 r15 (x2 - 0 : Int).toNat (x1 - 1) x2 0 d := by simp only [st_262_15, if_pos (show x2 < d (x0 + 1) 10 from c0), if_neg (show ¬ v_176 (d (x0 + 1) ((1916 + (5 * x2)) + 3)) 0 2 d = 0 from c1)]
      rw [y0] at h
      exact h F hS_
theorem l_262_15 {E : mO × tW} {K : tK} {x0 : Int} (hx0 : mdB x0) : ∀ (n : Nat) (x1 x2 : Int) (v3 : tV) (d : mD), Safe d → (0 ≤ x2 ∧ x2 ≤ 200) → 200 - x2 ≤ (n : Int) → ((∀ b : Int, (b < x0 ∨ x0 < b) → (lp_262_15 x0 n x1 x2 d).2 b = d b) → Safe (lp_262_15 x0 n x1 x2 d).2 → K (.inl (some (0, (lp_262_15 x0 n x1 x2 d).1))) (lp_262_15 x0 n x1 x2 d).2) → tRun E 262 (15, [.inr (11, x0), .inl (0, x1), .inl (0, x2), v3], [], 0, 0, d) K := by
  intro n
  induction n with
  | zero =>
    intro x1 x2 v3 d hS i0 hm  h
    exact ls_262_15 hx0 0 _ (fun _ _ _ _ _ _ m0 m1 _ => absurd m1 (by omega)) x1 x2 v3 d hS i0 hm  h
  | succ n ih =>
    intro x1 x2 v3 d hS i0 hm  h
    exact ls_262_15 hx0 ((n + 1 : Nat) : Int) _ (fun x1 x2 v3 d hS i0  m0 m1 h => ih x1 x2 v3 d hS i0 (by omega)  h) x1 x2 v3 d hS i0 hm  h
def f_262 (x0 : Int) (d : mD) : Int × mD := lp_262_15 x0 (200 - 0 : Int).toNat (d (x0 + 1) 10) 0 (mset d x0 0 0)
def v_262 (x0 : Int) (d : mD) : Int := (f_262 x0 d).1
def g_262 (x0 : Int) (d : mD) : mD := (f_262 x0 d).2
theorem k_262 {E : mO × tW} {K : tK} {d : mD} {x0 : Int} (hS : Safe d) (hx0 : mdB x0) (h : (∀ b : Int, (b < x0 ∨ x0 < b) → (g_262 x0 d) b = d b) → Safe (g_262 x0 d) → K (.inl (some (0, (v_262 x0 d)))) (g_262 x0 d)) : tCall E 262 [.inr (11, x0)] d K := by
  simp only [v_262, g_262] at h
  refine t_262_0 ?_
  have w0 := mh_0 hS hx0 _ rfl
  have w7 := mh_7 hS hx0 _ rfl
  have w8 := mh_8 hS hx0 _ rfl
  have w9 := mh_9 hS hx0 _ rfl
  have w10 := mh_10 hS hx0 _ rfl
  have w11 := mh_11 hS hx0 _ rfl
  have hS1 : Safe (mset d x0 0 0) := s_11_f0 hS hx0 (by omega)
  rw [mset_ni (d := d) (a := x0) (i := (0 : Int)) (v := (0 : Int)) (b := x0 + 1) (j := (10 : Int)) (by omega)]
  refine ⟨by omega, ?_⟩
  have q5 := mh_10 hS hx0 _ rfl
  refine l_262_15 hx0 (200 - 0 : Int).toNat (d (x0 + 1) 10) 0 tu (mset d x0 0 0) hS1 (by omega) (by omega) ?_
  intro F hS_
  have y0 : f_262 x0 d = lp_262_15 x0 (200 - 0 : Int).toNat (d (x0 + 1) 10) 0 (mset d x0 0 0) := by simp only [f_262]
  rw [y0] at h
  exact h (fun b hb => (F b hb).trans ((show ∀ b : Int, (b < x0 ∨ x0 < b) → (mset d x0 0 0) b = d b from fun b hb => mset_ne (by omega)) b hb)) hS_
def v_270 (x0 x1 x2 : Int) (d : mD) : Int := if x1 = x2 then 0 else if d (x0 + 1) ((12 + (68 * x1)) + 4) = 0 then 0 else if d (x0 + 1) ((12 + (68 * x2)) + 4) = 0 then 0 else 1
theorem k_270 {E : mO × tW} {K : tK} {d : mD} {x0 x1 x2 : Int} (hS : Safe d) (hx0 : mdB x0) (p1 : 0 ≤ x1 ∧ x1 ≤ 5) (p2 : 0 ≤ x2 ∧ x2 ≤ 5) (h : ((0 ≤ (v_270 x0 x1 x2 d) ∧ (v_270 x0 x1 x2 d) ≤ 1) ∧ ((v_270 x0 x1 x2 d) = 0 ∨ ¬ x1 = x2)) → K (.inl (some (0, (v_270 x0 x1 x2 d)))) d) : tCall E 270 [.inr (11, x0), .inl (0, x1), .inl (0, x2)] d K := by
  refine t_270_0 ?_
  have w0 := mh_0 hS hx0 _ rfl
  have w7 := mh_7 hS hx0 _ rfl
  have w8 := mh_8 hS hx0 _ rfl
  have w9 := mh_9 hS hx0 _ rfl
  have w10 := mh_10 hS hx0 _ rfl
  have w11 := mh_11 hS hx0 _ rfl
  refine ⟨⟨m_inR (by omega) (by omega), m_inR (by omega) (by omega)⟩, fun c0 => ?_, fun c0 => ?_⟩
  · refine ⟨by omega, ?_⟩
    have y0 : v_270 x0 x1 x2 d = 0 := by simp only [v_270, if_pos (show x1 = x2 from c0)]
    rw [y0] at h
    exact h (show (0 ≤ ((0 : Int)) ∧ ((0 : Int)) ≤ 1) ∧ (((0 : Int)) = 0 ∨ ¬ x1 = x2) from (by omega))
  · refine k_177 hS ?_
    refine t_270_13 ?_
    have q1 := mo_4 hS hx0 x1 ((12 + (68 * x1)) + 4) (by omega) (by omega)
    refine ⟨by omega, m_inR (by omega) (by omega), fun c1 => ?_, fun c1 => ?_⟩
    · refine ⟨by omega, ?_⟩
      have y0 : v_270 x0 x1 x2 d = 0 := by simp only [v_270, if_neg (show ¬ x1 = x2 from c0), if_pos (show d (x0 + 1) ((12 + (68 * x1)) + 4) = 0 from c1)]
      rw [y0] at h
      exact h (show (0 ≤ ((0 : Int)) ∧ ((0 : Int)) ≤ 1) ∧ (((0 : Int)) = 0 ∨ ¬ x1 = x2) from (by omega))
    · refine k_177 hS ?_
      refine t_270_27 ?_
      have q2 := mo_4 hS hx0 x2 ((12 + (68 * x2)) + 4) (by omega) (by omega)
      refine ⟨by omega, m_inR (by omega) (by omega), fun c2 => ?_, fun c2 => ?_⟩
      · refine ⟨by omega, ?_⟩
        have y0 : v_270 x0 x1 x2 d = 0 := by simp only [v_270, if_neg (show ¬ x1 = x2 from c0), if_neg (show ¬ d (x0 + 1) ((12 + (68 * x1)) + 4) = 0 from c1), if_pos (show d (x0 + 1) ((12 + (68 * x2)) + 4) = 0 from c2)]
        rw [y0] at h
        exact h (show (0 ≤ ((0 : Int)) ∧ ((0 : Int)) ≤ 1) ∧ (((0 : Int)) = 0 ∨ ¬ x1 = x2) from (by omega))
      · refine ⟨by omega, ?_⟩
        have y0 : v_270 x0 x1 x2 d = 1 := by simp only [v_270, if_neg (show ¬ x1 = x2 from c0), if_neg (show ¬ d (x0 + 1) ((12 + (68 * x1)) + 4) = 0 from c1), if_neg (show ¬ d (x0 + 1) ((12 + (68 * x2)) + 4) = 0 from c2)]
        rw [y0] at h
        exact h (show (0 ≤ ((1 : Int)) ∧ ((1 : Int)) ≤ 1) ∧ (((1 : Int)) = 0 ∨ ¬ x1 = x2) from (by omega))
def st_271_4 (x0 : Int) (r4 : Int → Int → mD → Int) (x1 x2 : Int) (d : mD) : Int := if x2 < d (x0 + 1) 7 then r4 (x1 + (d (x0 + 1) ((12 + (68 * x2)) + 5))) (x2 + 1) d else x1
def lp_271_4 (x0 : Int) : Nat → Int → Int → mD → Int
  | 0 => st_271_4 x0 (fun _ _ d => 0)
  | n + 1 => st_271_4 x0 (lp_271_4 x0 n)
theorem ls_271_4 {E : mO × tW} {K : tK} {x0 : Int} (hx0 : mdB x0) (N4 : Int) (r4 : Int → Int → mD → Int) (ih4 : ∀ (x1 x2 : Int) (d : mD), Safe d → (0 ≤ x2 ∧ x2 ≤ 6) → (0 ≤ x1 ∧ x1 ≤ 61 * x2) → 0 ≤ 6 - x2 → 6 - x2 < N4 → ((0 ≤ (r4 x1 x2 d) ∧ (r4 x1 x2 d) ≤ 366) → K (.inl (some (0, (r4 x1 x2 d)))) d) → tRun E 271 (4, [.inr (11, x0), .inl (0, x1), .inl (0, x2)], [], 0, 0, d) K) (x1 x2 : Int) (d : mD) (hS : Safe d) (i0 : 0 ≤ x2 ∧ x2 ≤ 6) (i1 : 0 ≤ x1 ∧ x1 ≤ 61 * x2) (hm : 6 - x2 ≤ N4) (h : (0 ≤ (st_271_4 x0 r4 x1 x2 d) ∧ (st_271_4 x0 r4 x1 x2 d) ≤ 366) → K (.inl (some (0, (st_271_4 x0 r4 x1 x2 d)))) d) : tRun E 271 (4, [.inr (11, x0), .inl (0, x1), .inl (0, x2)], [], 0, 0, d) K := by
  refine t_271_4 ?_
  have q1 := mh_7 hS hx0 _ rfl
  refine ⟨by omega, ⟨m_inR (by omega) (by omega), m_inR (by omega) (by omega)⟩, fun c0 => ?_, fun c0 => ?_⟩
  · have y0 : st_271_4 x0 r4 x1 x2 d = x1 := by simp only [st_271_4, if_neg (show ¬ x2 < d (x0 + 1) 7 from Int.not_lt.mpr c0)]
    rw [y0] at h
    exact h (show 0 ≤ x1 ∧ x1 ≤ 366 from (by omega))
  · refine k_177 hS ?_
    refine t_271_24 ?_
    refine ⟨by omega, ?_⟩
    have q2 := mo_5 hS hx0 x2 ((12 + (68 * x2)) + 5) (by omega) (by omega)
    refine ih4 (x1 + (d (x0 + 1) ((12 + (68 * x2)) + 5))) (x2 + 1)  d hS (by omega) (by omega) (by omega) (by omega) ?_
    intro e
    have y0 : st_271_4 x0 r4 x1 x2 d = r4 (x1 + (d (x0 + 1) ((12 + (68 * x2)) + 5))) (x2 + 1) d := by simp only [st_271_4, if_pos (show x2 < d (x0 + 1) 7 from c0)]
    rw [y0] at h
    exact h e
theorem l_271_4 {E : mO × tW} {K : tK} {x0 : Int} (hx0 : mdB x0) : ∀ (n : Nat) (x1 x2 : Int) (d : mD), Safe d → (0 ≤ x2 ∧ x2 ≤ 6) → (0 ≤ x1 ∧ x1 ≤ 61 * x2) → 6 - x2 ≤ (n : Int) → ((0 ≤ (lp_271_4 x0 n x1 x2 d) ∧ (lp_271_4 x0 n x1 x2 d) ≤ 366) → K (.inl (some (0, (lp_271_4 x0 n x1 x2 d)))) d) → tRun E 271 (4, [.inr (11, x0), .inl (0, x1), .inl (0, x2)], [], 0, 0, d) K := by
  intro n
  induction n with
  | zero =>
    intro x1 x2  d hS i0 i1 hm  h
    exact ls_271_4 hx0 0 _ (fun _ _  _ _ _ _ m0 m1 _ => absurd m1 (by omega)) x1 x2  d hS i0 i1 hm  h
  | succ n ih =>
    intro x1 x2  d hS i0 i1 hm  h
    exact ls_271_4 hx0 ((n + 1 : Nat) : Int) _ (fun x1 x2  d hS i0 i1  m0 m1 h => ih x1 x2  d hS i0 i1 (by omega)  h) x1 x2  d hS i0 i1 hm  h
def v_271 (x0 : Int) (d : mD) : Int := lp_271_4 x0 (6 - 0 : Int).toNat 0 0 d
theorem k_271 {E : mO × tW} {K : tK} {d : mD} {x0 : Int} (hS : Safe d) (hx0 : mdB x0) (h : (0 ≤ (v_271 x0 d) ∧ (v_271 x0 d) ≤ 366) → K (.inl (some (0, (v_271 x0 d)))) d) : tCall E 271 [.inr (11, x0)] d K := by
  refine t_271_0 ?_
  have w0 := mh_0 hS hx0 _ rfl
  have w7 := mh_7 hS hx0 _ rfl
  have w8 := mh_8 hS hx0 _ rfl
  have w9 := mh_9 hS hx0 _ rfl
  have w10 := mh_10 hS hx0 _ rfl
  have w11 := mh_11 hS hx0 _ rfl
  refine l_271_4 hx0 (6 - 0 : Int).toNat 0 0  d hS (by omega) (by omega) (by omega) ?_
  intro e
  have y0 : v_271 x0 d = lp_271_4 x0 (6 - 0 : Int).toNat 0 0 d := by simp only [v_271]
  rw [y0] at h
  exact h e
def st_281_4 (x0 : Int) (r4 : Int → Int → mD → Int) (x1 x2 : Int) (d : mD) : Int := if x2 < d (x0 + 1) 9 then (if d (x0 + 1) ((452 + (24 * x2)) + 4) = 1 then r4 (x1 + 1) (x2 + 1) d else r4 (x1 + 0) (x2 + 1) d) else x1
def lp_281_4 (x0 : Int) : Nat → Int → Int → mD → Int
  | 0 => st_281_4 x0 (fun _ _ d => 0)
  | n + 1 => st_281_4 x0 (lp_281_4 x0 n)
theorem ls_281_4 {E : mO × tW} {K : tK} {x0 : Int} (hx0 : mdB x0) (N4 : Int) (r4 : Int → Int → mD → Int) (ih4 : ∀ (x1 x2 : Int) (d : mD), Safe d → (0 ≤ x2 ∧ x2 ≤ 61) → (0 ≤ x1 ∧ x1 ≤ x2) → 0 ≤ 61 - x2 → 61 - x2 < N4 → ((0 ≤ (r4 x1 x2 d) ∧ (r4 x1 x2 d) ≤ 61) → K (.inl (some (0, (r4 x1 x2 d)))) d) → tRun E 281 (4, [.inr (11, x0), .inl (0, x1), .inl (0, x2)], [], 0, 0, d) K) (x1 x2 : Int) (d : mD) (hS : Safe d) (i0 : 0 ≤ x2 ∧ x2 ≤ 61) (i1 : 0 ≤ x1 ∧ x1 ≤ x2) (hm : 61 - x2 ≤ N4) (h : (0 ≤ (st_281_4 x0 r4 x1 x2 d) ∧ (st_281_4 x0 r4 x1 x2 d) ≤ 61) → K (.inl (some (0, (st_281_4 x0 r4 x1 x2 d)))) d) : tRun E 281 (4, [.inr (11, x0), .inl (0, x1), .inl (0, x2)], [], 0, 0, d) K := by
  refine t_281_4 ?_
  have q1 := mh_9 hS hx0 _ rfl
  refine ⟨by omega, ⟨m_inR (by omega) (by omega), m_inR (by omega) (by omega)⟩, fun c0 => ?_, fun c0 => ?_⟩
  · have y0 : st_281_4 x0 r4 x1 x2 d = x1 := by simp only [st_281_4, if_neg (show ¬ x2 < d (x0 + 1) 9 from Int.not_lt.mpr c0)]
    rw [y0] at h
    exact h (show 0 ≤ x1 ∧ x1 ≤ 61 from (by omega))
  · refine k_179 hS ?_
    refine t_281_24 ?_
    have q2 := mt_4 hS hx0 x2 ((452 + (24 * x2)) + 4) (by omega) (by omega)
    refine ⟨by omega, ⟨m_inR (by omega) (by omega), m_inR (by omega) (by omega)⟩, fun c1 => ?_, fun c1 => ?_⟩
    · refine ih4 (x1 + 0) (x2 + 1)  d hS (by omega) (by omega) (by omega) (by omega) ?_
      intro e
      have y0 : st_281_4 x0 r4 x1 x2 d = r4 (x1 + 0) (x2 + 1) d := by simp only [st_281_4, if_pos (show x2 < d (x0 + 1) 9 from c0), if_neg (show ¬ d (x0 + 1) ((452 + (24 * x2)) + 4) = 1 from c1)]
      rw [y0] at h
      exact h e
    · refine ih4 (x1 + 1) (x2 + 1)  d hS (by omega) (by omega) (by omega) (by omega) ?_
      intro e
      have y0 : st_281_4 x0 r4 x1 x2 d = r4 (x1 + 1) (x2 + 1) d := by simp only [st_281_4, if_pos (show x2 < d (x0 + 1) 9 from c0), if_pos (show d (x0 + 1) ((452 + (24 * x2)) + 4) = 1 from c1)]
      rw [y0] at h
      exact h e
theorem l_281_4 {E : mO × tW} {K : tK} {x0 : Int} (hx0 : mdB x0) : ∀ (n : Nat) (x1 x2 : Int) (d : mD), Safe d → (0 ≤ x2 ∧ x2 ≤ 61) → (0 ≤ x1 ∧ x1 ≤ x2) → 61 - x2 ≤ (n : Int) → ((0 ≤ (lp_281_4 x0 n x1 x2 d) ∧ (lp_281_4 x0 n x1 x2 d) ≤ 61) → K (.inl (some (0, (lp_281_4 x0 n x1 x2 d)))) d) → tRun E 281 (4, [.inr (11, x0), .inl (0, x1), .inl (0, x2)], [], 0, 0, d) K := by
  intro n
  induction n with
  | zero =>
    intro x1 x2  d hS i0 i1 hm  h
    exact ls_281_4 hx0 0 _ (fun _ _  _ _ _ _ m0 m1 _ => absurd m1 (by omega)) x1 x2  d hS i0 i1 hm  h
  | succ n ih =>
    intro x1 x2  d hS i0 i1 hm  h
    exact ls_281_4 hx0 ((n + 1 : Nat) : Int) _ (fun x1 x2  d hS i0 i1  m0 m1 h => ih x1 x2  d hS i0 i1 (by omega)  h) x1 x2  d hS i0 i1 hm  h
def v_281 (x0 : Int) (d : mD) : Int := lp_281_4 x0 (61 - 0 : Int).toNat 0 0 d
theorem k_281 {E : mO × tW} {K : tK} {d : mD} {x0 : Int} (hS : Safe d) (hx0 : mdB x0) (h : (0 ≤ (v_281 x0 d) ∧ (v_281 x0 d) ≤ 61) → K (.inl (some (0, (v_281 x0 d)))) d) : tCall E 281 [.inr (11, x0)] d K := by
  refine t_281_0 ?_
  have w0 := mh_0 hS hx0 _ rfl
  have w7 := mh_7 hS hx0 _ rfl
  have w8 := mh_8 hS hx0 _ rfl
  have w9 := mh_9 hS hx0 _ rfl
  have w10 := mh_10 hS hx0 _ rfl
  have w11 := mh_11 hS hx0 _ rfl
  refine l_281_4 hx0 (61 - 0 : Int).toNat 0 0  d hS (by omega) (by omega) (by omega) ?_
  intro e
  have y0 : v_281 x0 d = lp_281_4 x0 (61 - 0 : Int).toNat 0 0 d := by simp only [v_281]
  rw [y0] at h
  exact h e
/-! ===== contracts of the reference's methods: printed by a program of mine ===== -/
theorem mcp_0 (d : mD) (x y : Int) : mcopy d x 0 y 0 0 = d := by
  funext b j
  unfold mcopy
  exact if_neg (fun c => by omega)
theorem mcp_s (d : mD) (x y : Int) {n : Int} (h : 0 ≤ n) : mset (mcopy d x 0 y 0 n) y n (d x n) = mcopy d x 0 y 0 (n + 1) := by
  funext b j
  unfold mset mcopy
  by_cases hb : b = y
  · subst hb
    by_cases hj : j = n
    · subst hj
      rw [if_pos ⟨rfl, rfl⟩, if_pos ⟨rfl, h, by omega⟩, show 0 + (j - 0) = j by omega]
    · rw [if_neg (fun c => hj c.2)]
      by_cases hr : 0 ≤ j ∧ j < 0 + n
      · rw [if_pos ⟨rfl, hr⟩, if_pos ⟨rfl, hr.1, by omega⟩]
      · rw [if_neg (fun c => hr c.2), if_neg (fun c => hr ⟨c.2.1, by omega⟩)]
  · rw [if_neg (fun c => hb c.1), if_neg (fun c => hb c.1), if_neg (fun c => hb c.1)]
theorem mcp_at {d : mD} {x y n i : Int} (h0 : 0 ≤ i) (h1 : i < n) : mcopy d x 0 y 0 n y i = d x i := by
  unfold mcopy
  rw [if_pos ⟨rfl, h0, by omega⟩, show 0 + (i - 0) = i by omega]
theorem as4 {d : mD} {x : Int} (hS : Safe d) (hx : mdB x) (k : Int) : (0 ≤ k ∧ k ≤ 60 ∧ 0 ≤ d (x + 4) (452 + 24 * k + 4) ∧ d (x + 4) (452 + 24 * k + 4) ≤ 2) ∨ k < 0 ∨ 60 < k := by
  by_cases h : 0 ≤ k ∧ k ≤ 60
  · exact Or.inl ⟨h.1, h.2, rgW_at (wk_t h (f := 4) (by decide) (n := 44) (by decide) rfl) (rr_4 hS hx _)⟩
  · omega
def g_255 (x0 : Int) (d : mD) : mD := mcopy d (x0 + 1) 0 (x0 + 4) 0 3116
theorem k_255 {E : mO × tW} {K : tK} {d : mD} {x0 : Int} (hS : Safe d) (hx0 : mdB x0) (h : (∀ b : Int, (b < x0 + 4 ∨ x0 + 4 < b) → (g_255 x0 d) b = d b) → (∀ i : Int, 0 ≤ i → i < 3116 → (g_255 x0 d) (x0 + 4) i = d (x0 + 1) i) → Safe (g_255 x0 d) → K (.inl none) (g_255 x0 d)) : tCall E 255 [.inr (11, x0)] d K := by
  refine t_255_0 ?_
  refine t_rounds (fun i d => (2, [.inr (11, x0), .inl (0, i)], [], 0, 0, d)) (fun i d' => d' = mcopy d (x0 + 1) 0 (x0 + 4) 0 i ∧ Safe d') (N := 3116) (by decide) (fun i d' h0 h1 hd k => ?_) (fun d' hd => ?_) ⟨(mcp_0 d _ _).symm, hS⟩
  · obtain ⟨rfl, hs⟩ := hd
    refine t_255_2 ⟨⟨m_inR (by omega) (by omega), m_inR (by omega) (by omega)⟩, fun c => absurd c (by omega), fun _ => ⟨by omega, by omega, k _ ⟨?_, ?_⟩⟩⟩
    · rw [mcopy_ne (show x0 + 1 ≠ x0 + 4 by omega)]
      exact mcp_s d (x0 + 1) (x0 + 4) h0
    · exact sr_4 hs hx0 (j := i) rfl (rr_1 hs hx0 i)
  · obtain ⟨rfl, hs⟩ := hd
    exact t_255_2 ⟨⟨m_inR (by omega) (by omega), m_inR (by omega) (by omega)⟩, fun _ => h (fun b hb => mcopy_ne (by omega)) (fun i i0 i1 => mcp_at i0 i1) hs, fun c => absurd c (by omega)⟩
def g_256 (x0 : Int) (d : mD) : mD := mcopy d (x0 + 4) 0 (x0 + 1) 0 3116
theorem k_256 {E : mO × tW} {K : tK} {d : mD} {x0 : Int} (hS : Safe d) (hx0 : mdB x0) (h : (∀ b : Int, (b < x0 + 1 ∨ x0 + 1 < b) → (g_256 x0 d) b = d b) → (∀ i : Int, 0 ≤ i → i < 3116 → (g_256 x0 d) (x0 + 1) i = d (x0 + 4) i) → Safe (g_256 x0 d) → K (.inl none) (g_256 x0 d)) : tCall E 256 [.inr (11, x0)] d K := by
  refine t_256_0 ?_
  refine t_rounds (fun i d => (2, [.inr (11, x0), .inl (0, i)], [], 0, 0, d)) (fun i d' => d' = mcopy d (x0 + 4) 0 (x0 + 1) 0 i ∧ Safe d') (N := 3116) (by decide) (fun i d' h0 h1 hd k => ?_) (fun d' hd => ?_) ⟨(mcp_0 d _ _).symm, hS⟩
  · obtain ⟨rfl, hs⟩ := hd
    refine t_256_2 ⟨⟨m_inR (by omega) (by omega), m_inR (by omega) (by omega)⟩, fun c => absurd c (by omega), fun _ => ⟨by omega, by omega, k _ ⟨?_, ?_⟩⟩⟩
    · rw [mcopy_ne (show x0 + 4 ≠ x0 + 1 by omega)]
      exact mcp_s d (x0 + 4) (x0 + 1) h0
    · exact sr_1 hs hx0 (j := i) rfl (rr_4 hs hx0 i)
  · obtain ⟨rfl, hs⟩ := hd
    exact t_256_2 ⟨⟨m_inR (by omega) (by omega), m_inR (by omega) (by omega)⟩, fun _ => h (fun b hb => mcopy_ne (by omega)) (fun i i0 i1 => mcp_at i0 i1) hs, fun c => absurd c (by omega)⟩
def v_257 (x0 x1 : Int) (d : mD) : Int := if v_238 x0 x1 d = 0 then 0 else if d (x0 + 1) ((452 + (24 * x1)) + 4) = 1 then v_218 x0 x1 (g_255 x0 (mset d x0 0 0)) else 0
def g_257 (x0 x1 : Int) (d : mD) : mD := if v_238 x0 x1 d = 0 then mset d x0 0 1 else if d (x0 + 1) ((452 + (24 * x1)) + 4) = 1 then g_256 x0 (g_218 x0 x1 (g_255 x0 (mset d x0 0 0))) else mset d x0 0 0
theorem k_257 {E : mO × tW} {K : tK} {d : mD} {x0 x1 : Int} (hS : Safe d) (hx0 : mdB x0) (p1 : -2147483648 ≤ x1 ∧ x1 ≤ 2147483647) (h : (∀ b : Int, (b < x0 ∨ x0 + 1 < b) ∧ (b < x0 + 4 ∨ x0 + 4 < b) → (g_257 x0 x1 d) b = d b) → Safe (g_257 x0 x1 d) → K (.inl (some (0, (v_257 x0 x1 d)))) (g_257 x0 x1 d)) : tCall E 257 [.inr (11, x0), .inl (0, x1)] d K := by
  refine t_257_0 ?_
  have w0 := mh_0 hS hx0 _ rfl
  have w7 := mh_7 hS hx0 _ rfl
  have w8 := mh_8 hS hx0 _ rfl
  have w9 := mh_9 hS hx0 _ rfl
  have w10 := mh_10 hS hx0 _ rfl
  have w11 := mh_11 hS hx0 _ rfl
  refine k_238 hS hx0 (m_inR (by omega) (by omega)) (fun e1 => ?_)
  refine t_257_6 ?_
  refine ⟨m_inR (by omega) (by omega), fun c0 => ?_, fun c0 => ?_⟩
  · have hS1 : Safe (mset d x0 0 1) := s_11_f0 hS hx0 (by omega)
    rw [mset_eq (d := d) (a := x0) (i := (0 : Int)) (v := (1 : Int))]
    refine ⟨m_inR (by omega) (by omega), fun c1 => ?_, fun c1 => ?_⟩
    · have y0 : v_257 x0 x1 d = 0 := by simp only [v_257, if_pos (show v_238 x0 x1 d = 0 from c0), if_pos (show (0 : Int) < 1 from c1)]
      have y1 : g_257 x0 x1 d = mset d x0 0 1 := by simp only [g_257, if_pos (show v_238 x0 x1 d = 0 from c0), if_pos (show (0 : Int) < 1 from c1)]
      rw [y0] at h
      rw [y1] at h
      exact h (show ∀ b : Int, (b < x0 ∨ x0 + 1 < b) ∧ (b < x0 + 4 ∨ x0 + 4 < b) → (mset d x0 0 1) b = d b from fun b hb => mset_ne (by omega)) hS1
    · exact (show False by omega).elim
  · have hS2 : Safe (mset d x0 0 0) := s_11_f0 hS hx0 (by omega)
    rw [mset_eq (d := d) (a := x0) (i := (0 : Int)) (v := (0 : Int))]
    refine ⟨m_inR (by omega) (by omega), fun c1 => ?_, fun c1 => ?_⟩
    · exact (show False by omega).elim
    · refine k_179 hS2 ?_
      refine t_257_32 ?_
      rw [mset_ne (d := d) (a := x0) (i := (0 : Int)) (v := (0 : Int)) (b := x0 + 1) (by omega)]
      have q1 := mt_4 hS hx0 x1 ((452 + (24 * x1)) + 4) (by omega) (by omega)
      refine ⟨by omega, ⟨m_inR (by omega) (by omega), m_inR (by omega) (by omega)⟩, fun c2 => ?_, fun c2 => ?_⟩
      · refine k_255 hS2 hx0 (fun F1 K1_0 hS3 => ?_)
        refine t_257_45 ?_
        refine k_218 hS3 hx0 (by omega) (fun e2 F2 Q2 hS4 => ?_)
        refine t_257_50 ?_
        refine k_256 hS4 hx0 (fun F3 K3_0 hS5 => ?_)
        refine t_257_55 ?_
        have y0 : v_257 x0 x1 d = v_218 x0 x1 (g_255 x0 (mset d x0 0 0)) := by simp only [v_257, if_neg (show ¬ v_238 x0 x1 d = 0 from c0), if_neg (show ¬ (0 : Int) < 0 from Int.not_lt.mpr c1), if_pos (show d (x0 + 1) ((452 + (24 * x1)) + 4) = 1 from c2)]
        have y1 : g_257 x0 x1 d = g_256 x0 (g_218 x0 x1 (g_255 x0 (mset d x0 0 0))) := by simp only [g_257, if_neg (show ¬ v_238 x0 x1 d = 0 from c0), if_neg (show ¬ (0 : Int) < 0 from Int.not_lt.mpr c1), if_pos (show d (x0 + 1) ((452 + (24 * x1)) + 4) = 1 from c2)]
        rw [y0] at h
        rw [y1] at h
        exact h (show ∀ b : Int, (b < x0 ∨ x0 + 1 < b) ∧ (b < x0 + 4 ∨ x0 + 4 < b) → (g_256 x0 (g_218 x0 x1 (g_255 x0 (mset d x0 0 0)))) b = d b from fun b hb => (F3 b (by omega)).trans ((F2 b (by omega)).trans ((F1 b (by omega)).trans (mset_ne (by omega))))) hS5
      · have y0 : v_257 x0 x1 d = 0 := by simp only [v_257, if_neg (show ¬ v_238 x0 x1 d = 0 from c0), if_neg (show ¬ (0 : Int) < 0 from Int.not_lt.mpr c1), if_neg (show ¬ d (x0 + 1) ((452 + (24 * x1)) + 4) = 1 from c2)]
        have y1 : g_257 x0 x1 d = mset d x0 0 0 := by simp only [g_257, if_neg (show ¬ v_238 x0 x1 d = 0 from c0), if_neg (show ¬ (0 : Int) < 0 from Int.not_lt.mpr c1), if_neg (show ¬ d (x0 + 1) ((452 + (24 * x1)) + 4) = 1 from c2)]
        rw [y0] at h
        rw [y1] at h
        exact h (show ∀ b : Int, (b < x0 ∨ x0 + 1 < b) ∧ (b < x0 + 4 ∨ x0 + 4 < b) → (mset d x0 0 0) b = d b from fun b hb => mset_ne (by omega)) hS2
def st_263_2 (x0 x1 : Int) (r2 : Int → mD → Int × mD) (x2 : Int) (d : mD) : Int × mD := if (200 : Int) < x2 then (x2, d) else if d (x0 + 1) ((452 + (24 * x1)) + 4) = 1 then (x2, d) else r2 (x2 + 1) (g_223 x0 d)
def lp_263_2 (x0 x1 : Int) : Nat → Int → mD → Int × mD
  | 0 => st_263_2 x0 x1 (fun _ d => (0, d))
  | n + 1 => st_263_2 x0 x1 (lp_263_2 x0 x1 n)
theorem ls_263_2 {E : mO × tW} {K : tK} {x0 x1 : Int} (hx0 : mdB x0) (p1 : 0 ≤ x1 ∧ x1 ≤ 60) (N2 : Int) (r2 : Int → mD → Int × mD) (ih2 : ∀ (x2 : Int) (d : mD), Safe d → (0 ≤ x2 ∧ x2 ≤ 201) → (d (x0 + 1) 0 + (201 - x2) ≤ 1200) → (mpP (d (x0 + 1))) → 0 ≤ 201 - x2 → 201 - x2 < N2 → ((0 ≤ (r2 x2 d).1 ∧ (r2 x2 d).1 ≤ 201) → (∀ b : Int, (b < x0 + 1 ∨ x0 + 1 < b) → (r2 x2 d).2 b = d b) → (∀ i : Int, ((0 ≤ i ∧ i ≤ 8 ∧ ¬ i = 1) ∨ (12 ≤ i ∧ i < 420 ∧ (i - 12) % 68 ≤ 4) ∨ (420 ≤ i ∧ i < 452 ∧ i % 2 = 0) ∨ i = 9 ∨ (452 ≤ i ∧ i < 1916 ∧ 5 ≤ (i - 452) % 24)) ∧ ¬ i = 0 → (r2 x2 d).2 (x0 + 1) i = d (x0 + 1) i) → Safe (r2 x2 d).2 → K (.inl (some (0, (r2 x2 d).1))) (r2 x2 d).2) → tRun E 263 (2, [.inr (11, x0), .inl (0, x1), .inl (0, x2)], [], 0, 0, d) K) (x2 : Int) (d : mD) (hS : Safe d) (i0 : 0 ≤ x2 ∧ x2 ≤ 201) (i1 : d (x0 + 1) 0 + (201 - x2) ≤ 1200) (hmp : mpP (d (x0 + 1))) (hm : 201 - x2 ≤ N2) (h : (0 ≤ (st_263_2 x0 x1 r2 x2 d).1 ∧ (st_263_2 x0 x1 r2 x2 d).1 ≤ 201) → (∀ b : Int, (b < x0 + 1 ∨ x0 + 1 < b) → (st_263_2 x0 x1 r2 x2 d).2 b = d b) → (∀ i : Int, ((0 ≤ i ∧ i ≤ 8 ∧ ¬ i = 1) ∨ (12 ≤ i ∧ i < 420 ∧ (i - 12) % 68 ≤ 4) ∨ (420 ≤ i ∧ i < 452 ∧ i % 2 = 0) ∨ i = 9 ∨ (452 ≤ i ∧ i < 1916 ∧ 5 ≤ (i - 452) % 24)) ∧ ¬ i = 0 → (st_263_2 x0 x1 r2 x2 d).2 (x0 + 1) i = d (x0 + 1) i) → Safe (st_263_2 x0 x1 r2 x2 d).2 → K (.inl (some (0, (st_263_2 x0 x1 r2 x2 d).1))) (st_263_2 x0 x1 r2 x2 d).2) : tRun E 263 (2, [.inr (11, x0), .inl (0, x1), .inl (0, x2)], [], 0, 0, d) K := by
  refine t_263_2 ?_
  refine ⟨⟨m_inR (by omega) (by omega), m_inR (by omega) (by omega)⟩, fun c0 => ?_, fun c0 => ?_⟩
  · have y0 : st_263_2 x0 x1 r2 x2 d = (x2, d) := by simp only [st_263_2, if_pos (show (200 : Int) < x2 from c0)]
    rw [y0] at h
    exact h (show 0 ≤ x2 ∧ x2 ≤ 201 from (by omega)) (show ∀ b : Int, (b < x0 + 1 ∨ x0 + 1 < b) → d b = d b from fun _ _ => rfl) (show ∀ i : Int, ((0 ≤ i ∧ i ≤ 8 ∧ ¬ i = 1) ∨ (12 ≤ i ∧ i < 420 ∧ (i - 12) % 68 ≤ 4) ∨ (420 ≤ i ∧ i < 452 ∧ i % 2 = 0) ∨ i = 9 ∨ (452 ≤ i ∧ i < 1916 ∧ 5 ≤ (i - 452) % 24)) ∧ ¬ i = 0 → d (x0 + 1) i = d (x0 + 1) i from fun _ _ => rfl) hS
  · refine k_179 hS ?_
    refine t_263_17 ?_
    have q1 := mt_4 hS hx0 x1 ((452 + (24 * x1)) + 4) (by omega) (by omega)
    refine ⟨by omega, ⟨m_inR (by omega) (by omega), m_inR (by omega) (by omega)⟩, fun c1 => ?_, fun c1 => ?_⟩
    · have y0 : st_263_2 x0 x1 r2 x2 d = (x2, d) := by simp only [st_263_2, if_neg (show ¬ (200 : Int) < x2 from Int.not_lt.mpr c0), if_pos (show d (x0 + 1) ((452 + (24 * x1)) + 4) = 1 from c1)]
      rw [y0] at h
      exact h (show 0 ≤ x2 ∧ x2 ≤ 201 from (by omega)) (show ∀ b : Int, (b < x0 + 1 ∨ x0 + 1 < b) → d b = d b from fun _ _ => rfl) (show ∀ i : Int, ((0 ≤ i ∧ i ≤ 8 ∧ ¬ i = 1) ∨ (12 ≤ i ∧ i < 420 ∧ (i - 12) % 68 ≤ 4) ∨ (420 ≤ i ∧ i < 452 ∧ i % 2 = 0) ∨ i = 9 ∨ (452 ≤ i ∧ i < 1916 ∧ 5 ≤ (i - 452) % 24)) ∧ ¬ i = 0 → d (x0 + 1) i = d (x0 + 1) i from fun _ _ => rfl) hS
    · refine k_223 hS hx0 hmp (by omega) (fun F1 Q1 n1_0 hS1 => ?_)
      refine t_263_28 ?_
      refine ih2 (x2 + 1)  (g_223 x0 d) hS1 (by omega) (by omega) (mpP.of (mh_7 hS hx0 _ rfl) (show ∀ i : Int, i = 7 ∨ (12 ≤ i ∧ i < 420 ∧ (i - 12) % 68 = 2) → (g_223 x0 d) (x0 + 1) i = d (x0 + 1) i from fun i hi => Q1 i (by omega)) hmp) (by omega) (by omega) ?_
      intro e F Q hS_
      have y0 : st_263_2 x0 x1 r2 x2 d = r2 (x2 + 1) (g_223 x0 d) := by simp only [st_263_2, if_neg (show ¬ (200 : Int) < x2 from Int.not_lt.mpr c0), if_neg (show ¬ d (x0 + 1) ((452 + (24 * x1)) + 4) = 1 from c1)]
      rw [y0] at h
      exact h e (fun b hb => (F b hb).trans ((show ∀ b : Int, (b < x0 + 1 ∨ x0 + 1 < b) → (g_223 x0 d) b = d b from fun b hb => F1 b (by omega)) b hb)) (fun i hi => (Q i hi).trans ((show ∀ i : Int, ((0 ≤ i ∧ i ≤ 8 ∧ ¬ i = 1) ∨ (12 ≤ i ∧ i < 420 ∧ (i - 12) % 68 ≤ 4) ∨ (420 ≤ i ∧ i < 452 ∧ i % 2 = 0) ∨ i = 9 ∨ (452 ≤ i ∧ i < 1916 ∧ 5 ≤ (i - 452) % 24)) ∧ ¬ i = 0 → (g_223 x0 d) (x0 + 1) i = d (x0 + 1) i from fun i hi => Q1 i (by omega)) i hi)) hS_
theorem l_263_2 {E : mO × tW} {K : tK} {x0 x1 : Int} (hx0 : mdB x0) (p1 : 0 ≤ x1 ∧ x1 ≤ 60) : ∀ (n : Nat) (x2 : Int) (d : mD), Safe d → (0 ≤ x2 ∧ x2 ≤ 201) → (d (x0 + 1) 0 + (201 - x2) ≤ 1200) → (mpP (d (x0 + 1))) → 201 - x2 ≤ (n : Int) → ((0 ≤ (lp_263_2 x0 x1 n x2 d).1 ∧ (lp_263_2 x0 x1 n x2 d).1 ≤ 201) → (∀ b : Int, (b < x0 + 1 ∨ x0 + 1 < b) → (lp_263_2 x0 x1 n x2 d).2 b = d b) → (∀ i : Int, ((0 ≤ i ∧ i ≤ 8 ∧ ¬ i = 1) ∨ (12 ≤ i ∧ i < 420 ∧ (i - 12) % 68 ≤ 4) ∨ (420 ≤ i ∧ i < 452 ∧ i % 2 = 0) ∨ i = 9 ∨ (452 ≤ i ∧ i < 1916 ∧ 5 ≤ (i - 452) % 24)) ∧ ¬ i = 0 → (lp_263_2 x0 x1 n x2 d).2 (x0 + 1) i = d (x0 + 1) i) → Safe (lp_263_2 x0 x1 n x2 d).2 → K (.inl (some (0, (lp_263_2 x0 x1 n x2 d).1))) (lp_263_2 x0 x1 n x2 d).2) → tRun E 263 (2, [.inr (11, x0), .inl (0, x1), .inl (0, x2)], [], 0, 0, d) K := by
  intro n
  induction n with
  | zero =>
    intro x2  d hS i0 i1 hmp hm  h
    exact ls_263_2 hx0 p1 0 _ (fun _  _ _ _ _ _ m0 m1 _ => absurd m1 (by omega)) x2  d hS i0 i1 hmp hm  h
  | succ n ih =>
    intro x2  d hS i0 i1 hmp hm  h
    exact ls_263_2 hx0 p1 ((n + 1 : Nat) : Int) _ (fun x2  d hS i0 i1 hmp  m0 m1 h => ih x2  d hS i0 i1 hmp (by omega)  h) x2  d hS i0 i1 hmp hm  h
def f_263 (x0 x1 : Int) (d : mD) : Int × mD := lp_263_2 x0 x1 (201 - 0 : Int).toNat 0 d
def v_263 (x0 x1 : Int) (d : mD) : Int := (f_263 x0 x1 d).1
def g_263 (x0 x1 : Int) (d : mD) : mD := (f_263 x0 x1 d).2
theorem k_263 {E : mO × tW} {K : tK} {d : mD} {x0 x1 : Int} (hS : Safe d) (hx0 : mdB x0) (p1 : 0 ≤ x1 ∧ x1 ≤ 60) (hmp : mpP (d (x0 + 1))) (ht : d (x0 + 1) 0 ≤ 999) (h : (0 ≤ (v_263 x0 x1 d) ∧ (v_263 x0 x1 d) ≤ 201) → (∀ b : Int, (b < x0 + 1 ∨ x0 + 1 < b) → (g_263 x0 x1 d) b = d b) → (∀ i : Int, ((0 ≤ i ∧ i ≤ 8 ∧ ¬ i = 1) ∨ (12 ≤ i ∧ i < 420 ∧ (i - 12) % 68 ≤ 4) ∨ (420 ≤ i ∧ i < 452 ∧ i % 2 = 0) ∨ i = 9 ∨ (452 ≤ i ∧ i < 1916 ∧ 5 ≤ (i - 452) % 24)) ∧ ¬ i = 0 → (g_263 x0 x1 d) (x0 + 1) i = d (x0 + 1) i) → Safe (g_263 x0 x1 d) → K (.inl (some (0, (v_263 x0 x1 d)))) (g_263 x0 x1 d)) : tCall E 263 [.inr (11, x0), .inl (0, x1)] d K := by
  simp only [v_263, g_263] at h
  refine t_263_0 ?_
  have w0 := mh_0 hS hx0 _ rfl
  have w7 := mh_7 hS hx0 _ rfl
  have w8 := mh_8 hS hx0 _ rfl
  have w9 := mh_9 hS hx0 _ rfl
  have w10 := mh_10 hS hx0 _ rfl
  have w11 := mh_11 hS hx0 _ rfl
  refine l_263_2 hx0 p1 (201 - 0 : Int).toNat 0  d hS (by omega) (by omega) hmp (by omega) ?_
  intro e F Q hS_
  have y0 : f_263 x0 x1 d = lp_263_2 x0 x1 (201 - 0 : Int).toNat 0 d := by simp only [f_263]
  rw [y0] at h
  exact h e F Q hS_
def v_264 (x0 x1 : Int) (d : mD) : Int := if v_238 x0 x1 d = 0 then 0 else if (200 : Int) < v_263 x0 x1 (g_255 x0 (mset d x0 0 0)) then 0 else v_263 x0 x1 (g_255 x0 (mset d x0 0 0))
def g_264 (x0 x1 : Int) (d : mD) : mD := if v_238 x0 x1 d = 0 then mset d x0 0 1 else if (200 : Int) < v_263 x0 x1 (g_255 x0 (mset d x0 0 0)) then mset (g_256 x0 (g_263 x0 x1 (g_255 x0 (mset d x0 0 0)))) x0 0 2 else mset (g_256 x0 (g_263 x0 x1 (g_255 x0 (mset d x0 0 0)))) x0 0 0
theorem k_264 {E : mO × tW} {K : tK} {d : mD} {x0 x1 : Int} (hS : Safe d) (hx0 : mdB x0) (p1 : -2147483648 ≤ x1 ∧ x1 ≤ 2147483647) (hmp : mpP (d (x0 + 1))) (ht : d (x0 + 1) 0 ≤ 999) (h : (∀ b : Int, (b < x0 ∨ x0 + 1 < b) ∧ (b < x0 + 4 ∨ x0 + 4 < b) → (g_264 x0 x1 d) b = d b) → Safe (g_264 x0 x1 d) → K (.inl (some (0, (v_264 x0 x1 d)))) (g_264 x0 x1 d)) : tCall E 264 [.inr (11, x0), .inl (0, x1)] d K := by
  refine t_264_0 ?_
  have w0 := mh_0 hS hx0 _ rfl
  have w7 := mh_7 hS hx0 _ rfl
  have w8 := mh_8 hS hx0 _ rfl
  have w9 := mh_9 hS hx0 _ rfl
  have w10 := mh_10 hS hx0 _ rfl
  have w11 := mh_11 hS hx0 _ rfl
  refine k_238 hS hx0 (m_inR (by omega) (by omega)) (fun e1 => ?_)
  refine t_264_6 ?_
  refine ⟨m_inR (by omega) (by omega), fun c0 => ?_, fun c0 => ?_⟩
  · have hS1 : Safe (mset d x0 0 1) := s_11_f0 hS hx0 (by omega)
    rw [mset_eq (d := d) (a := x0) (i := (0 : Int)) (v := (1 : Int))]
    refine ⟨m_inR (by omega) (by omega), fun c1 => ?_, fun c1 => ?_⟩
    · exact (show False by omega).elim
    · have y0 : v_264 x0 x1 d = 0 := by simp only [v_264, if_pos (show v_238 x0 x1 d = 0 from c0), if_pos (show (0 : Int) < 1 from c1)]
      have y1 : g_264 x0 x1 d = mset d x0 0 1 := by simp only [g_264, if_pos (show v_238 x0 x1 d = 0 from c0), if_pos (show (0 : Int) < 1 from c1)]
      rw [y0] at h
      rw [y1] at h
      exact h (show ∀ b : Int, (b < x0 ∨ x0 + 1 < b) ∧ (b < x0 + 4 ∨ x0 + 4 < b) → (mset d x0 0 1) b = d b from fun b hb => mset_ne (by omega)) hS1
  · have hS2 : Safe (mset d x0 0 0) := s_11_f0 hS hx0 (by omega)
    rw [mset_eq (d := d) (a := x0) (i := (0 : Int)) (v := (0 : Int))]
    refine ⟨m_inR (by omega) (by omega), fun c1 => ?_, fun c1 => ?_⟩
    · refine k_255 hS2 hx0 (fun F1 K1_0 hS3 => ?_)
      refine t_264_30 ?_
      have q1 : (g_255 x0 (mset d x0 0 0)) (x0 + 1) 0 = d (x0 + 1) 0 := (congrFun (F1 (x0 + 1) (by omega)) 0).trans (congrFun (mset_ne (by omega)) 0)
      refine k_263 hS3 hx0 (by omega) (mpP.of (mh_7 hS hx0 _ rfl) (show ∀ i : Int, i = 7 ∨ (12 ≤ i ∧ i < 420 ∧ (i - 12) % 68 = 2) → (g_255 x0 (mset d x0 0 0)) (x0 + 1) i = d (x0 + 1) i from fun i hi => (congrFun (F1 (x0 + 1) (by omega)) i).trans (congrFun (mset_ne (by omega)) i)) hmp) (by omega) (fun e2 F2 Q2 hS4 => ?_)
      refine t_264_35 ?_
      refine k_256 hS4 hx0 (fun F3 K3_0 hS5 => ?_)
      refine t_264_40 ?_
      refine ⟨⟨m_inR (by omega) (by omega), m_inR (by omega) (by omega)⟩, fun c2 => ?_, fun c2 => ?_⟩
      · have hS6 : Safe (mset (g_256 x0 (g_263 x0 x1 (g_255 x0 (mset d x0 0 0)))) x0 0 0) := s_11_f0 hS5 hx0 (by omega)
        rw [mset_eq (d := g_256 x0 (g_263 x0 x1 (g_255 x0 (mset d x0 0 0)))) (a := x0) (i := (0 : Int)) (v := (0 : Int))]
        refine ⟨m_inR (by omega) (by omega), fun c3 => ?_, fun c3 => ?_⟩
        · have y0 : v_264 x0 x1 d = v_263 x0 x1 (g_255 x0 (mset d x0 0 0)) := by simp only [v_264, if_neg (show ¬ v_238 x0 x1 d = 0 from c0), if_neg (show ¬ (0 : Int) < 0 from Int.not_lt.mpr c1), if_neg (show ¬ (200 : Int) < v_263 x0 x1 (g_255 x0 (mset d x0 0 0)) from Int.not_lt.mpr c2), if_neg (show ¬ (0 : Int) < 0 from Int.not_lt.mpr c3)]
          have y1 : g_264 x0 x1 d = mset (g_256 x0 (g_263 x0 x1 (g_255 x0 (mset d x0 0 0)))) x0 0 0 := by simp only [g_264, if_neg (show ¬ v_238 x0 x1 d = 0 from c0), if_neg (show ¬ (0 : Int) < 0 from Int.not_lt.mpr c1), if_neg (show ¬ (200 : Int) < v_263 x0 x1 (g_255 x0 (mset d x0 0 0)) from Int.not_lt.mpr c2), if_neg (show ¬ (0 : Int) < 0 from Int.not_lt.mpr c3)]
          rw [y0] at h
          rw [y1] at h
          exact h (show ∀ b : Int, (b < x0 ∨ x0 + 1 < b) ∧ (b < x0 + 4 ∨ x0 + 4 < b) → (mset (g_256 x0 (g_263 x0 x1 (g_255 x0 (mset d x0 0 0)))) x0 0 0) b = d b from fun b hb => (mset_ne (by omega)).trans ((F3 b (by omega)).trans ((F2 b (by omega)).trans ((F1 b (by omega)).trans (mset_ne (by omega)))))) hS6
        · exact (show False by omega).elim
      · have hS7 : Safe (mset (g_256 x0 (g_263 x0 x1 (g_255 x0 (mset d x0 0 0)))) x0 0 2) := s_11_f0 hS5 hx0 (by omega)
        rw [mset_eq (d := g_256 x0 (g_263 x0 x1 (g_255 x0 (mset d x0 0 0)))) (a := x0) (i := (0 : Int)) (v := (2 : Int))]
        refine ⟨m_inR (by omega) (by omega), fun c3 => ?_, fun c3 => ?_⟩
        · exact (show False by omega).elim
        · have y0 : v_264 x0 x1 d = 0 := by simp only [v_264, if_neg (show ¬ v_238 x0 x1 d = 0 from c0), if_neg (show ¬ (0 : Int) < 0 from Int.not_lt.mpr c1), if_pos (show (200 : Int) < v_263 x0 x1 (g_255 x0 (mset d x0 0 0)) from c2), if_pos (show (0 : Int) < 2 from c3)]
          have y1 : g_264 x0 x1 d = mset (g_256 x0 (g_263 x0 x1 (g_255 x0 (mset d x0 0 0)))) x0 0 2 := by simp only [g_264, if_neg (show ¬ v_238 x0 x1 d = 0 from c0), if_neg (show ¬ (0 : Int) < 0 from Int.not_lt.mpr c1), if_pos (show (200 : Int) < v_263 x0 x1 (g_255 x0 (mset d x0 0 0)) from c2), if_pos (show (0 : Int) < 2 from c3)]
          rw [y0] at h
          rw [y1] at h
          exact h (show ∀ b : Int, (b < x0 ∨ x0 + 1 < b) ∧ (b < x0 + 4 ∨ x0 + 4 < b) → (mset (g_256 x0 (g_263 x0 x1 (g_255 x0 (mset d x0 0 0)))) x0 0 2) b = d b from fun b hb => (mset_ne (by omega)).trans ((F3 b (by omega)).trans ((F2 b (by omega)).trans ((F1 b (by omega)).trans (mset_ne (by omega)))))) hS7
    · exact (show False by omega).elim
def st_265_48 (x0 x1 x2 : Int) (r48 : Int → mD → Int × mD) (x3 : Int) (d : mD) : Int × mD := if x3 < x2 then r48 (x3 + 1) (g_223 x0 d) else (d (x0 + 1) ((12 + (68 * x1)) + 5), g_256 x0 d)
def lp_265_48 (x0 x1 x2 : Int) : Nat → Int → mD → Int × mD
  | 0 => st_265_48 x0 x1 x2 (fun _ d => (0, d))
  | n + 1 => st_265_48 x0 x1 x2 (lp_265_48 x0 x1 x2 n)
theorem ls_265_48 {E : mO × tW} {K : tK} {x0 x1 x2 : Int} (hx0 : mdB x0) (p1 : -2147483648 ≤ x1 ∧ x1 ≤ 2147483647) (p2 : -2147483648 ≤ x2 ∧ x2 ≤ 2147483647) (N48 : Int) (r48 : Int → mD → Int × mD) (ih48 : ∀ (x3 : Int) (d : mD), Safe d → (0 ≤ x3 ∧ x3 ≤ x2 ∧ x2 ≤ 200) → (0 ≤ x1 ∧ x1 ≤ 5) → (d (x0 + 1) 0 + (x2 - x3) ≤ 1200) → (mpP (d (x0 + 1))) → 0 ≤ x2 - x3 → x2 - x3 < N48 → ((∀ b : Int, (b < x0 ∨ x0 + 1 < b) ∧ (b < x0 + 4 ∨ x0 + 4 < b) → (r48 x3 d).2 b = d b) → Safe (r48 x3 d).2 → K (.inl (some (0, (r48 x3 d).1))) (r48 x3 d).2) → tRun E 265 (48, [.inr (11, x0), .inl (0, x1), .inl (0, x2), .inl (0, x3)], [], 0, 0, d) K) (x3 : Int) (d : mD) (hS : Safe d) (i0 : 0 ≤ x3 ∧ x3 ≤ x2 ∧ x2 ≤ 200) (i1 : 0 ≤ x1 ∧ x1 ≤ 5) (i2 : d (x0 + 1) 0 + (x2 - x3) ≤ 1200) (hmp : mpP (d (x0 + 1))) (hm : x2 - x3 ≤ N48) (h : (∀ b : Int, (b < x0 ∨ x0 + 1 < b) ∧ (b < x0 + 4 ∨ x0 + 4 < b) → (st_265_48 x0 x1 x2 r48 x3 d).2 b = d b) → Safe (st_265_48 x0 x1 x2 r48 x3 d).2 → K (.inl (some (0, (st_265_48 x0 x1 x2 r48 x3 d).1))) (st_265_48 x0 x1 x2 r48 x3 d).2) : tRun E 265 (48, [.inr (11, x0), .inl (0, x1), .inl (0, x2), .inl (0, x3)], [], 0, 0, d) K := by
  refine t_265_48 ?_
  refine ⟨⟨m_inR (by omega) (by omega), m_inR (by omega) (by omega)⟩, fun c0 => ?_, fun c0 => ?_⟩
  · refine k_177 hS ?_
    refine t_265_71 ?_
    refine ⟨by omega, ?_⟩
    refine k_256 hS hx0 (fun F1 K1_0 hS1 => ?_)
    refine t_265_79 ?_
    have q1 := mo_5 hS hx0 x1 ((12 + (68 * x1)) + 5) (by omega) (by omega)
    have y0 : st_265_48 x0 x1 x2 r48 x3 d = (d (x0 + 1) ((12 + (68 * x1)) + 5), g_256 x0 d) := by simp only [st_265_48, if_neg (show ¬ x3 < x2 from Int.not_lt.mpr c0)]
    rw [y0] at h
    exact h (show ∀ b : Int, (b < x0 ∨ x0 + 1 < b) ∧ (b < x0 + 4 ∨ x0 + 4 < b) → (g_256 x0 d) b = d b from fun b hb => F1 b (by omega)) hS1
  · refine k_223 hS hx0 hmp (by omega) (fun F2 Q2 n2_0 hS2 => ?_)
    refine t_265_57 ?_
    refine ih48 (x3 + 1)  (g_223 x0 d) hS2 (by omega) (by omega) (by omega) (mpP.of (mh_7 hS hx0 _ rfl) (show ∀ i : Int, i = 7 ∨ (12 ≤ i ∧ i < 420 ∧ (i - 12) % 68 = 2) → (g_223 x0 d) (x0 + 1) i = d (x0 + 1) i from fun i hi => Q2 i (by omega)) hmp) (by omega) (by omega) ?_
    intro F hS_
    have y0 : st_265_48 x0 x1 x2 r48 x3 d = r48 (x3 + 1) (g_223 x0 d) := by simp only [st_265_48, if_pos (show x3 < x2 from c0)]
    rw [y0] at h
    exact h (fun b hb => (F b hb).trans ((show ∀ b : Int, (b < x0 ∨ x0 + 1 < b) ∧ (b < x0 + 4 ∨ x0 + 4 < b) → (g_223 x0 d) b = d b from fun b hb => F2 b (by omega)) b hb)) hS_
theorem l_265_48 {E : mO × tW} {K : tK} {x0 x1 x2 : Int} (hx0 : mdB x0) (p1 : -2147483648 ≤ x1 ∧ x1 ≤ 2147483647) (p2 : -2147483648 ≤ x2 ∧ x2 ≤ 2147483647) : ∀ (n : Nat) (x3 : Int) (d : mD), Safe d → (0 ≤ x3 ∧ x3 ≤ x2 ∧ x2 ≤ 200) → (0 ≤ x1 ∧ x1 ≤ 5) → (d (x0 + 1) 0 + (x2 - x3) ≤ 1200) → (mpP (d (x0 + 1))) → x2 - x3 ≤ (n : Int) → ((∀ b : Int, (b < x0 ∨ x0 + 1 < b) ∧ (b < x0 + 4 ∨ x0 + 4 < b) → (lp_265_48 x0 x1 x2 n x3 d).2 b = d b) → Safe (lp_265_48 x0 x1 x2 n x3 d).2 → K (.inl (some (0, (lp_265_48 x0 x1 x2 n x3 d).1))) (lp_265_48 x0 x1 x2 n x3 d).2) → tRun E 265 (48, [.inr (11, x0), .inl (0, x1), .inl (0, x2), .inl (0, x3)], [], 0, 0, d) K := by
  intro n
  induction n with
  | zero =>
    intro x3  d hS i0 i1 i2 hmp hm  h
    exact ls_265_48 hx0 p1 p2 0 _ (fun _  _ _ _ _ _ _ m0 m1 _ => absurd m1 (by omega)) x3  d hS i0 i1 i2 hmp hm  h
  | succ n ih =>
    intro x3  d hS i0 i1 i2 hmp hm  h
    exact ls_265_48 hx0 p1 p2 ((n + 1 : Nat) : Int) _ (fun x3  d hS i0 i1 i2 hmp  m0 m1 h => ih x3  d hS i0 i1 i2 hmp (by omega)  h) x3  d hS i0 i1 i2 hmp hm  h
def f_265 (x0 x1 x2 : Int) (d : mD) : Int × mD := if v_236 x0 x1 d = 0 then (0, mset d x0 0 1) else if v_176 x2 0 200 d = 0 then (0, mset d x0 0 2) else lp_265_48 x0 x1 x2 (x2 - 0 : Int).toNat 0 (g_255 x0 (mset d x0 0 0))
def v_265 (x0 x1 x2 : Int) (d : mD) : Int := (f_265 x0 x1 x2 d).1
def g_265 (x0 x1 x2 : Int) (d : mD) : mD := (f_265 x0 x1 x2 d).2
theorem k_265 {E : mO × tW} {K : tK} {d : mD} {x0 x1 x2 : Int} (hS : Safe d) (hx0 : mdB x0) (p1 : -2147483648 ≤ x1 ∧ x1 ≤ 2147483647) (p2 : -2147483648 ≤ x2 ∧ x2 ≤ 2147483647) (hmp : mpP (d (x0 + 1))) (ht : d (x0 + 1) 0 ≤ 999) (h : (∀ b : Int, (b < x0 ∨ x0 + 1 < b) ∧ (b < x0 + 4 ∨ x0 + 4 < b) → (g_265 x0 x1 x2 d) b = d b) → Safe (g_265 x0 x1 x2 d) → K (.inl (some (0, (v_265 x0 x1 x2 d)))) (g_265 x0 x1 x2 d)) : tCall E 265 [.inr (11, x0), .inl (0, x1), .inl (0, x2)] d K := by
  simp only [v_265, g_265] at h
  refine t_265_0 ?_
  have w0 := mh_0 hS hx0 _ rfl
  have w7 := mh_7 hS hx0 _ rfl
  have w8 := mh_8 hS hx0 _ rfl
  have w9 := mh_9 hS hx0 _ rfl
  have w10 := mh_10 hS hx0 _ rfl
  have w11 := mh_11 hS hx0 _ rfl
  refine k_236 hS hx0 (m_inR (by omega) (by omega)) (fun e1 => ?_)
  refine t_265_6 ?_
  refine ⟨m_inR (by omega) (by omega), fun c0 => ?_, fun c0 => ?_⟩
  · refine ⟨m_inR (by omega) (by omega), ?_⟩
    refine k_176 hS (m_inR (by omega) (by omega)) (m_inR (by omega) (by omega)) (m_inR (by omega) (by omega)) (fun e2 => ?_)
    refine t_265_22 ?_
    refine ⟨m_inR (by omega) (by omega), fun c1 => ?_, fun c1 => ?_⟩
    · have hS3 : Safe (mset d x0 0 2) := s_11_f0 hS hx0 (by omega)
      rw [mset_eq (d := d) (a := x0) (i := (0 : Int)) (v := (2 : Int))]
      refine ⟨m_inR (by omega) (by omega), fun c2 => ?_, fun c2 => ?_⟩
      · exact (show False by omega).elim
      · have y0 : f_265 x0 x1 x2 d = (0, mset d x0 0 2) := by simp only [f_265, if_neg (show ¬ v_236 x0 x1 d = 0 from c0), if_pos (show v_176 x2 0 200 d = 0 from c1), if_pos (show (0 : Int) < 2 from c2)]
        rw [y0] at h
        exact h (show ∀ b : Int, (b < x0 ∨ x0 + 1 < b) ∧ (b < x0 + 4 ∨ x0 + 4 < b) → (mset d x0 0 2) b = d b from fun b hb => mset_ne (by omega)) hS3
    · have hS4 : Safe (mset d x0 0 0) := s_11_f0 hS hx0 (by omega)
      rw [mset_eq (d := d) (a := x0) (i := (0 : Int)) (v := (0 : Int))]
      refine ⟨m_inR (by omega) (by omega), fun c2 => ?_, fun c2 => ?_⟩
      · refine k_255 hS4 hx0 (fun F3 K3_0 hS5 => ?_)
        refine t_265_46 ?_
        have q2 : (g_255 x0 (mset d x0 0 0)) (x0 + 1) 0 = d (x0 + 1) 0 := (congrFun (F3 (x0 + 1) (by omega)) 0).trans (congrFun (mset_ne (by omega)) 0)
        refine l_265_48 hx0 p1 p2 (x2 - 0 : Int).toNat 0  (g_255 x0 (mset d x0 0 0)) hS5 (by omega) (by omega) (by omega) (mpP.of (mh_7 hS hx0 _ rfl) (show ∀ i : Int, i = 7 ∨ (12 ≤ i ∧ i < 420 ∧ (i - 12) % 68 = 2) → (g_255 x0 (mset d x0 0 0)) (x0 + 1) i = d (x0 + 1) i from fun i hi => (congrFun (F3 (x0 + 1) (by omega)) i).trans (congrFun (mset_ne (by omega)) i)) hmp) (by omega) ?_
        intro F hS_
        have y0 : f_265 x0 x1 x2 d = lp_265_48 x0 x1 x2 (x2 - 0 : Int).toNat 0 (g_255 x0 (mset d x0 0 0)) := by simp only [f_265, if_neg (show ¬ v_236 x0 x1 d = 0 from c0), if_neg (show ¬ v_176 x2 0 200 d = 0 from c1), if_neg (show ¬ (0 : Int) < 0 from Int.not_lt.mpr c2)]
        rw [y0] at h
        exact h (fun b hb => (F b hb).trans ((show ∀ b : Int, (b < x0 ∨ x0 + 1 < b) ∧ (b < x0 + 4 ∨ x0 + 4 < b) → (g_255 x0 (mset d x0 0 0)) b = d b from fun b hb => (F3 b (by omega)).trans (mset_ne (by omega))) b hb)) hS_
      · exact (show False by omega).elim
  · have hS6 : Safe (mset d x0 0 1) := s_11_f0 hS hx0 (by omega)
    rw [mset_eq (d := d) (a := x0) (i := (0 : Int)) (v := (1 : Int))]
    refine ⟨m_inR (by omega) (by omega), fun c1 => ?_, fun c1 => ?_⟩
    · exact (show False by omega).elim
    · have y0 : f_265 x0 x1 x2 d = (0, mset d x0 0 1) := by simp only [f_265, if_pos (show v_236 x0 x1 d = 0 from c0), if_pos (show (0 : Int) < 1 from c1)]
      rw [y0] at h
      exact h (show ∀ b : Int, (b < x0 ∨ x0 + 1 < b) ∧ (b < x0 + 4 ∨ x0 + 4 < b) → (mset d x0 0 1) b = d b from fun b hb => mset_ne (by omega)) hS6
def st_266_36 (x0 x1 : Int) (r36 : Int → mD → Int × mD) (x2 : Int) (d : mD) : Int × mD := if x2 < x1 then r36 (x2 + 1) (g_223 x0 d) else (d (x0 + 1) 10, g_256 x0 d)
def lp_266_36 (x0 x1 : Int) : Nat → Int → mD → Int × mD
  | 0 => st_266_36 x0 x1 (fun _ d => (0, d))
  | n + 1 => st_266_36 x0 x1 (lp_266_36 x0 x1 n)
theorem ls_266_36 {E : mO × tW} {K : tK} {x0 x1 : Int} (hx0 : mdB x0) (p1 : -2147483648 ≤ x1 ∧ x1 ≤ 2147483647) (N36 : Int) (r36 : Int → mD → Int × mD) (ih36 : ∀ (x2 : Int) (d : mD), Safe d → (0 ≤ x2 ∧ x2 ≤ x1 ∧ x1 ≤ 200) → (d (x0 + 1) 0 + (x1 - x2) ≤ 1200) → (mpP (d (x0 + 1))) → 0 ≤ x1 - x2 → x1 - x2 < N36 → ((∀ b : Int, (b < x0 ∨ x0 + 1 < b) ∧ (b < x0 + 4 ∨ x0 + 4 < b) → (r36 x2 d).2 b = d b) → Safe (r36 x2 d).2 → K (.inl (some (0, (r36 x2 d).1))) (r36 x2 d).2) → tRun E 266 (36, [.inr (11, x0), .inl (0, x1), .inl (0, x2)], [], 0, 0, d) K) (x2 : Int) (d : mD) (hS : Safe d) (i0 : 0 ≤ x2 ∧ x2 ≤ x1 ∧ x1 ≤ 200) (i1 : d (x0 + 1) 0 + (x1 - x2) ≤ 1200) (hmp : mpP (d (x0 + 1))) (hm : x1 - x2 ≤ N36) (h : (∀ b : Int, (b < x0 ∨ x0 + 1 < b) ∧ (b < x0 + 4 ∨ x0 + 4 < b) → (st_266_36 x0 x1 r36 x2 d).2 b = d b) → Safe (st_266_36 x0 x1 r36 x2 d).2 → K (.inl (some (0, (st_266_36 x0 x1 r36 x2 d).1))) (st_266_36 x0 x1 r36 x2 d).2) : tRun E 266 (36, [.inr (11, x0), .inl (0, x1), .inl (0, x2)], [], 0, 0, d) K := by
  refine t_266_36 ?_
  refine ⟨⟨m_inR (by omega) (by omega), m_inR (by omega) (by omega)⟩, fun c0 => ?_, fun c0 => ?_⟩
  · refine ⟨by omega, ?_⟩
    refine k_256 hS hx0 (fun F1 K1_0 hS1 => ?_)
    refine t_266_63 ?_
    have q1 := mh_10 hS hx0 _ rfl
    have y0 : st_266_36 x0 x1 r36 x2 d = (d (x0 + 1) 10, g_256 x0 d) := by simp only [st_266_36, if_neg (show ¬ x2 < x1 from Int.not_lt.mpr c0)]
    rw [y0] at h
    exact h (show ∀ b : Int, (b < x0 ∨ x0 + 1 < b) ∧ (b < x0 + 4 ∨ x0 + 4 < b) → (g_256 x0 d) b = d b from fun b hb => F1 b (by omega)) hS1
  · refine k_223 hS hx0 hmp (by omega) (fun F2 Q2 n2_0 hS2 => ?_)
    refine t_266_45 ?_
    refine ih36 (x2 + 1)  (g_223 x0 d) hS2 (by omega) (by omega) (mpP.of (mh_7 hS hx0 _ rfl) (show ∀ i : Int, i = 7 ∨ (12 ≤ i ∧ i < 420 ∧ (i - 12) % 68 = 2) → (g_223 x0 d) (x0 + 1) i = d (x0 + 1) i from fun i hi => Q2 i (by omega)) hmp) (by omega) (by omega) ?_
    intro F hS_
    have y0 : st_266_36 x0 x1 r36 x2 d = r36 (x2 + 1) (g_223 x0 d) := by simp only [st_266_36, if_pos (show x2 < x1 from c0)]
    rw [y0] at h
    exact h (fun b hb => (F b hb).trans ((show ∀ b : Int, (b < x0 ∨ x0 + 1 < b) ∧ (b < x0 + 4 ∨ x0 + 4 < b) → (g_223 x0 d) b = d b from fun b hb => F2 b (by omega)) b hb)) hS_
theorem l_266_36 {E : mO × tW} {K : tK} {x0 x1 : Int} (hx0 : mdB x0) (p1 : -2147483648 ≤ x1 ∧ x1 ≤ 2147483647) : ∀ (n : Nat) (x2 : Int) (d : mD), Safe d → (0 ≤ x2 ∧ x2 ≤ x1 ∧ x1 ≤ 200) → (d (x0 + 1) 0 + (x1 - x2) ≤ 1200) → (mpP (d (x0 + 1))) → x1 - x2 ≤ (n : Int) → ((∀ b : Int, (b < x0 ∨ x0 + 1 < b) ∧ (b < x0 + 4 ∨ x0 + 4 < b) → (lp_266_36 x0 x1 n x2 d).2 b = d b) → Safe (lp_266_36 x0 x1 n x2 d).2 → K (.inl (some (0, (lp_266_36 x0 x1 n x2 d).1))) (lp_266_36 x0 x1 n x2 d).2) → tRun E 266 (36, [.inr (11, x0), .inl (0, x1), .inl (0, x2)], [], 0, 0, d) K := by
  intro n
  induction n with
  | zero =>
    intro x2  d hS i0 i1 hmp hm  h
    exact ls_266_36 hx0 p1 0 _ (fun _  _ _ _ _ _ m0 m1 _ => absurd m1 (by omega)) x2  d hS i0 i1 hmp hm  h
  | succ n ih =>
    intro x2  d hS i0 i1 hmp hm  h
    exact ls_266_36 hx0 p1 ((n + 1 : Nat) : Int) _ (fun x2  d hS i0 i1 hmp  m0 m1 h => ih x2  d hS i0 i1 hmp (by omega)  h) x2  d hS i0 i1 hmp hm  h
def f_266 (x0 x1 : Int) (d : mD) : Int × mD := if v_176 x1 0 200 d = 0 then (0, mset d x0 0 1) else lp_266_36 x0 x1 (x1 - 0 : Int).toNat 0 (g_255 x0 (mset d x0 0 0))
def v_266 (x0 x1 : Int) (d : mD) : Int := (f_266 x0 x1 d).1
def g_266 (x0 x1 : Int) (d : mD) : mD := (f_266 x0 x1 d).2
theorem k_266 {E : mO × tW} {K : tK} {d : mD} {x0 x1 : Int} (hS : Safe d) (hx0 : mdB x0) (p1 : -2147483648 ≤ x1 ∧ x1 ≤ 2147483647) (hmp : mpP (d (x0 + 1))) (ht : d (x0 + 1) 0 ≤ 999) (h : (∀ b : Int, (b < x0 ∨ x0 + 1 < b) ∧ (b < x0 + 4 ∨ x0 + 4 < b) → (g_266 x0 x1 d) b = d b) → Safe (g_266 x0 x1 d) → K (.inl (some (0, (v_266 x0 x1 d)))) (g_266 x0 x1 d)) : tCall E 266 [.inr (11, x0), .inl (0, x1)] d K := by
  simp only [v_266, g_266] at h
  refine t_266_0 ?_
  have w0 := mh_0 hS hx0 _ rfl
  have w7 := mh_7 hS hx0 _ rfl
  have w8 := mh_8 hS hx0 _ rfl
  have w9 := mh_9 hS hx0 _ rfl
  have w10 := mh_10 hS hx0 _ rfl
  have w11 := mh_11 hS hx0 _ rfl
  refine ⟨m_inR (by omega) (by omega), ?_⟩
  refine k_176 hS (m_inR (by omega) (by omega)) (m_inR (by omega) (by omega)) (m_inR (by omega) (by omega)) (fun e1 => ?_)
  refine t_266_10 ?_
  refine ⟨m_inR (by omega) (by omega), fun c0 => ?_, fun c0 => ?_⟩
  · have hS3 : Safe (mset d x0 0 1) := s_11_f0 hS hx0 (by omega)
    rw [mset_eq (d := d) (a := x0) (i := (0 : Int)) (v := (1 : Int))]
    refine ⟨m_inR (by omega) (by omega), fun c1 => ?_, fun c1 => ?_⟩
    · exact (show False by omega).elim
    · have y0 : f_266 x0 x1 d = (0, mset d x0 0 1) := by simp only [f_266, if_pos (show v_176 x1 0 200 d = 0 from c0), if_pos (show (0 : Int) < 1 from c1)]
      rw [y0] at h
      exact h (show ∀ b : Int, (b < x0 ∨ x0 + 1 < b) ∧ (b < x0 + 4 ∨ x0 + 4 < b) → (mset d x0 0 1) b = d b from fun b hb => mset_ne (by omega)) hS3
  · have hS4 : Safe (mset d x0 0 0) := s_11_f0 hS hx0 (by omega)
    rw [mset_eq (d := d) (a := x0) (i := (0 : Int)) (v := (0 : Int))]
    refine ⟨m_inR (by omega) (by omega), fun c1 => ?_, fun c1 => ?_⟩
    · refine k_255 hS4 hx0 (fun F3 K3_0 hS5 => ?_)
      refine t_266_34 ?_
      have q2 : (g_255 x0 (mset d x0 0 0)) (x0 + 1) 0 = d (x0 + 1) 0 := (congrFun (F3 (x0 + 1) (by omega)) 0).trans (congrFun (mset_ne (by omega)) 0)
      refine l_266_36 hx0 p1 (x1 - 0 : Int).toNat 0  (g_255 x0 (mset d x0 0 0)) hS5 (by omega) (by omega) (mpP.of (mh_7 hS hx0 _ rfl) (show ∀ i : Int, i = 7 ∨ (12 ≤ i ∧ i < 420 ∧ (i - 12) % 68 = 2) → (g_255 x0 (mset d x0 0 0)) (x0 + 1) i = d (x0 + 1) i from fun i hi => (congrFun (F3 (x0 + 1) (by omega)) i).trans (congrFun (mset_ne (by omega)) i)) hmp) (by omega) ?_
      intro F hS_
      have y0 : f_266 x0 x1 d = lp_266_36 x0 x1 (x1 - 0 : Int).toNat 0 (g_255 x0 (mset d x0 0 0)) := by simp only [f_266, if_neg (show ¬ v_176 x1 0 200 d = 0 from c0), if_neg (show ¬ (0 : Int) < 0 from Int.not_lt.mpr c1)]
      rw [y0] at h
      exact h (fun b hb => (F b hb).trans ((show ∀ b : Int, (b < x0 ∨ x0 + 1 < b) ∧ (b < x0 + 4 ∨ x0 + 4 < b) → (g_255 x0 (mset d x0 0 0)) b = d b from fun b hb => (F3 b (by omega)).trans (mset_ne (by omega))) b hb)) hS_
    · exact (show False by omega).elim
def v_267 (x0 x1 : Int) (d : mD) : Int := if d (x0 + 1) ((12 + (68 * x1)) + 4) = 0 then 201 else v_263 x0 (v_224 x0 0 x1 (g_255 x0 d)) (g_224 x0 0 x1 (g_255 x0 d))
def g_267 (x0 x1 : Int) (d : mD) : mD := if d (x0 + 1) ((12 + (68 * x1)) + 4) = 0 then d else g_256 x0 (g_263 x0 (v_224 x0 0 x1 (g_255 x0 d)) (g_224 x0 0 x1 (g_255 x0 d)))
theorem k_267 {E : mO × tW} {K : tK} {d : mD} {x0 x1 : Int} (hS : Safe d) (hx0 : mdB x0) (p1 : 0 ≤ x1 ∧ x1 ≤ 5) (hmp : mpP (d (x0 + 1))) (ht : d (x0 + 1) 0 ≤ 999) (hqq : qqP (d (x0 + 1))) (hn : d (x0 + 1) 9 ≤ 60) (h : (0 ≤ (v_267 x0 x1 d) ∧ (v_267 x0 x1 d) ≤ 201) → (∀ b : Int, (b < x0 + 1 ∨ x0 + 1 < b) ∧ (b < x0 + 4 ∨ x0 + 4 < b) → (g_267 x0 x1 d) b = d b) → (∀ i : Int, 0 ≤ i ∧ i < 3116 → (g_267 x0 x1 d) (x0 + 1) i = d (x0 + 1) i) → Safe (g_267 x0 x1 d) → K (.inl (some (0, (v_267 x0 x1 d)))) (g_267 x0 x1 d)) : tCall E 267 [.inr (11, x0), .inl (0, x1)] d K := by
  refine t_267_0 ?_
  have w1 := hqq x1 (by omega) (by omega)
  refine k_177 hS ?_
  refine t_267_8 ?_
  have q1 := mo_4 hS hx0 x1 ((12 + (68 * x1)) + 4) (by omega) (by omega)
  refine ⟨by omega, m_inR (by omega) (by omega), fun c0 => ?_, fun c0 => ?_⟩
  · refine k_255 hS hx0 (fun F1 K1_0 hS1 => ?_)
    refine t_267_22 ?_
    have q2 : (g_255 x0 d) (x0 + 1) 9 = d (x0 + 1) 9 := congrFun (F1 (x0 + 1) (by omega)) 9
    have q3 : (g_255 x0 d) (x0 + 1) (12 + 68 * x1 + 5) = d (x0 + 1) (12 + 68 * x1 + 5) := congrFun (F1 (x0 + 1) (by omega)) (12 + 68 * x1 + 5)
    refine k_224 hS1 hx0 (by omega) (by omega) (by omega) (by omega) (fun e1 F2 Q2 hS2 => ?_)
    refine t_267_29 ?_
    have q4 : (g_224 x0 0 x1 (g_255 x0 d)) (x0 + 1) 0 = d (x0 + 1) 0 := (Q2 0 (by omega)).trans (congrFun (F1 (x0 + 1) (by omega)) 0)
    refine k_263 hS2 hx0 (by omega) (mpP.of (mh_7 hS hx0 _ rfl) (show ∀ i : Int, i = 7 ∨ (12 ≤ i ∧ i < 420 ∧ (i - 12) % 68 = 2) → (g_224 x0 0 x1 (g_255 x0 d)) (x0 + 1) i = d (x0 + 1) i from fun i hi => (Q2 i (by omega)).trans (congrFun (F1 (x0 + 1) (by omega)) i)) hmp) (by omega) (fun e2 F3 Q3 hS3 => ?_)
    refine t_267_32 ?_
    refine k_256 hS3 hx0 (fun F4 K4_0 hS4 => ?_)
    refine t_267_37 ?_
    have y0 : v_267 x0 x1 d = v_263 x0 (v_224 x0 0 x1 (g_255 x0 d)) (g_224 x0 0 x1 (g_255 x0 d)) := by simp only [v_267, if_neg (show ¬ d (x0 + 1) ((12 + (68 * x1)) + 4) = 0 from c0)]
    have y1 : g_267 x0 x1 d = g_256 x0 (g_263 x0 (v_224 x0 0 x1 (g_255 x0 d)) (g_224 x0 0 x1 (g_255 x0 d))) := by simp only [g_267, if_neg (show ¬ d (x0 + 1) ((12 + (68 * x1)) + 4) = 0 from c0)]
    rw [y0] at h
    rw [y1] at h
    exact h (show 0 ≤ (v_263 x0 (v_224 x0 0 x1 (g_255 x0 d)) (g_224 x0 0 x1 (g_255 x0 d))) ∧ (v_263 x0 (v_224 x0 0 x1 (g_255 x0 d)) (g_224 x0 0 x1 (g_255 x0 d))) ≤ 201 from (by omega)) (show ∀ b : Int, (b < x0 + 1 ∨ x0 + 1 < b) ∧ (b < x0 + 4 ∨ x0 + 4 < b) → (g_256 x0 (g_263 x0 (v_224 x0 0 x1 (g_255 x0 d)) (g_224 x0 0 x1 (g_255 x0 d)))) b = d b from fun b hb => (F4 b (by omega)).trans ((F3 b (by omega)).trans ((F2 b (by omega)).trans (F1 b (by omega))))) (show ∀ i : Int, 0 ≤ i ∧ i < 3116 → (g_256 x0 (g_263 x0 (v_224 x0 0 x1 (g_255 x0 d)) (g_224 x0 0 x1 (g_255 x0 d)))) (x0 + 1) i = d (x0 + 1) i from fun i hi => (((K4_0 i (by omega) (by omega)).trans (congrFun (F3 (x0 + 4) (by omega)) i)).trans (congrFun (F2 (x0 + 4) (by omega)) i)).trans (K1_0 i (by omega) (by omega))) hS4
  · have y0 : v_267 x0 x1 d = 201 := by simp only [v_267, if_pos (show d (x0 + 1) ((12 + (68 * x1)) + 4) = 0 from c0)]
    have y1 : g_267 x0 x1 d = d := by simp only [g_267, if_pos (show d (x0 + 1) ((12 + (68 * x1)) + 4) = 0 from c0)]
    rw [y0] at h
    rw [y1] at h
    exact h (show 0 ≤ ((201 : Int)) ∧ ((201 : Int)) ≤ 201 from (by omega)) (show ∀ b : Int, (b < x0 + 1 ∨ x0 + 1 < b) ∧ (b < x0 + 4 ∨ x0 + 4 < b) → d b = d b from fun _ _ => rfl) (show ∀ i : Int, 0 ≤ i ∧ i < 3116 → d (x0 + 1) i = d (x0 + 1) i from fun _ _ => rfl) hS
def v_268 (x0 x1 : Int) (d : mD) : Int := if v_236 x0 x1 d = 0 then 0 else if (200 : Int) < v_267 x0 x1 (mset d x0 0 0) then 0 else v_267 x0 x1 (mset d x0 0 0)
def g_268 (x0 x1 : Int) (d : mD) : mD := if v_236 x0 x1 d = 0 then mset d x0 0 1 else if (200 : Int) < v_267 x0 x1 (mset d x0 0 0) then mset (g_267 x0 x1 (mset d x0 0 0)) x0 0 2 else mset (g_267 x0 x1 (mset d x0 0 0)) x0 0 0
theorem k_268 {E : mO × tW} {K : tK} {d : mD} {x0 x1 : Int} (hS : Safe d) (hx0 : mdB x0) (p1 : -2147483648 ≤ x1 ∧ x1 ≤ 2147483647) (hmp : mpP (d (x0 + 1))) (ht : d (x0 + 1) 0 ≤ 999) (hqq : qqP (d (x0 + 1))) (hn : d (x0 + 1) 9 ≤ 60) (h : (∀ b : Int, (b < x0 ∨ x0 + 1 < b) ∧ (b < x0 + 4 ∨ x0 + 4 < b) → (g_268 x0 x1 d) b = d b) → Safe (g_268 x0 x1 d) → K (.inl (some (0, (v_268 x0 x1 d)))) (g_268 x0 x1 d)) : tCall E 268 [.inr (11, x0), .inl (0, x1)] d K := by
  refine t_268_0 ?_
  have w0 := mh_0 hS hx0 _ rfl
  have w7 := mh_7 hS hx0 _ rfl
  have w8 := mh_8 hS hx0 _ rfl
  have w9 := mh_9 hS hx0 _ rfl
  have w10 := mh_10 hS hx0 _ rfl
  have w11 := mh_11 hS hx0 _ rfl
  refine k_236 hS hx0 (m_inR (by omega) (by omega)) (fun e1 => ?_)
  refine t_268_6 ?_
  refine ⟨m_inR (by omega) (by omega), fun c0 => ?_, fun c0 => ?_⟩
  · have hS1 : Safe (mset d x0 0 1) := s_11_f0 hS hx0 (by omega)
    rw [mset_eq (d := d) (a := x0) (i := (0 : Int)) (v := (1 : Int))]
    refine ⟨m_inR (by omega) (by omega), fun c1 => ?_, fun c1 => ?_⟩
    · exact (show False by omega).elim
    · have y0 : v_268 x0 x1 d = 0 := by simp only [v_268, if_pos (show v_236 x0 x1 d = 0 from c0), if_pos (show (0 : Int) < 1 from c1)]
      have y1 : g_268 x0 x1 d = mset d x0 0 1 := by simp only [g_268, if_pos (show v_236 x0 x1 d = 0 from c0), if_pos (show (0 : Int) < 1 from c1)]
      rw [y0] at h
      rw [y1] at h
      exact h (show ∀ b : Int, (b < x0 ∨ x0 + 1 < b) ∧ (b < x0 + 4 ∨ x0 + 4 < b) → (mset d x0 0 1) b = d b from fun b hb => mset_ne (by omega)) hS1
  · have hS2 : Safe (mset d x0 0 0) := s_11_f0 hS hx0 (by omega)
    rw [mset_eq (d := d) (a := x0) (i := (0 : Int)) (v := (0 : Int))]
    refine ⟨m_inR (by omega) (by omega), fun c1 => ?_, fun c1 => ?_⟩
    · have q1 : (mset d x0 0 0) (x0 + 1) 0 = d (x0 + 1) 0 := congrFun (mset_ne (by omega)) 0
      have q2 : (mset d x0 0 0) (x0 + 1) 9 = d (x0 + 1) 9 := congrFun (mset_ne (by omega)) 9
      refine k_267 hS2 hx0 (by omega) (mpP.of (mh_7 hS hx0 _ rfl) (show ∀ i : Int, i = 7 ∨ (12 ≤ i ∧ i < 420 ∧ (i - 12) % 68 = 2) → (mset d x0 0 0) (x0 + 1) i = d (x0 + 1) i from fun i hi => congrFun (mset_ne (by omega)) i) hmp) (by omega) (qqP.of (show ∀ i : Int, 12 ≤ i ∧ i < 420 ∧ (i - 12) % 68 = 5 → (mset d x0 0 0) (x0 + 1) i = d (x0 + 1) i from fun i hi => congrFun (mset_ne (by omega)) i) hqq) (by omega) (fun e2 F1 Q1 hS3 => ?_)
      refine t_268_31 ?_
      refine ⟨⟨m_inR (by omega) (by omega), m_inR (by omega) (by omega)⟩, fun c2 => ?_, fun c2 => ?_⟩
      · have hS4 : Safe (mset (g_267 x0 x1 (mset d x0 0 0)) x0 0 0) := s_11_f0 hS3 hx0 (by omega)
        rw [mset_eq (d := g_267 x0 x1 (mset d x0 0 0)) (a := x0) (i := (0 : Int)) (v := (0 : Int))]
        refine ⟨m_inR (by omega) (by omega), fun c3 => ?_, fun c3 => ?_⟩
        · have y0 : v_268 x0 x1 d = v_267 x0 x1 (mset d x0 0 0) := by simp only [v_268, if_neg (show ¬ v_236 x0 x1 d = 0 from c0), if_neg (show ¬ (0 : Int) < 0 from Int.not_lt.mpr c1), if_neg (show ¬ (200 : Int) < v_267 x0 x1 (mset d x0 0 0) from Int.not_lt.mpr c2), if_neg (show ¬ (0 : Int) < 0 from Int.not_lt.mpr c3)]
          have y1 : g_268 x0 x1 d = mset (g_267 x0 x1 (mset d x0 0 0)) x0 0 0 := by simp only [g_268, if_neg (show ¬ v_236 x0 x1 d = 0 from c0), if_neg (show ¬ (0 : Int) < 0 from Int.not_lt.mpr c1), if_neg (show ¬ (200 : Int) < v_267 x0 x1 (mset d x0 0 0) from Int.not_lt.mpr c2), if_neg (show ¬ (0 : Int) < 0 from Int.not_lt.mpr c3)]
          rw [y0] at h
          rw [y1] at h
          exact h (show ∀ b : Int, (b < x0 ∨ x0 + 1 < b) ∧ (b < x0 + 4 ∨ x0 + 4 < b) → (mset (g_267 x0 x1 (mset d x0 0 0)) x0 0 0) b = d b from fun b hb => (mset_ne (by omega)).trans ((F1 b (by omega)).trans (mset_ne (by omega)))) hS4
        · exact (show False by omega).elim
      · have hS5 : Safe (mset (g_267 x0 x1 (mset d x0 0 0)) x0 0 2) := s_11_f0 hS3 hx0 (by omega)
        rw [mset_eq (d := g_267 x0 x1 (mset d x0 0 0)) (a := x0) (i := (0 : Int)) (v := (2 : Int))]
        refine ⟨m_inR (by omega) (by omega), fun c3 => ?_, fun c3 => ?_⟩
        · exact (show False by omega).elim
        · have y0 : v_268 x0 x1 d = 0 := by simp only [v_268, if_neg (show ¬ v_236 x0 x1 d = 0 from c0), if_neg (show ¬ (0 : Int) < 0 from Int.not_lt.mpr c1), if_pos (show (200 : Int) < v_267 x0 x1 (mset d x0 0 0) from c2), if_pos (show (0 : Int) < 2 from c3)]
          have y1 : g_268 x0 x1 d = mset (g_267 x0 x1 (mset d x0 0 0)) x0 0 2 := by simp only [g_268, if_neg (show ¬ v_236 x0 x1 d = 0 from c0), if_neg (show ¬ (0 : Int) < 0 from Int.not_lt.mpr c1), if_pos (show (200 : Int) < v_267 x0 x1 (mset d x0 0 0) from c2), if_pos (show (0 : Int) < 2 from c3)]
          rw [y0] at h
          rw [y1] at h
          exact h (show ∀ b : Int, (b < x0 ∨ x0 + 1 < b) ∧ (b < x0 + 4 ∨ x0 + 4 < b) → (mset (g_267 x0 x1 (mset d x0 0 0)) x0 0 2) b = d b from fun b hb => (mset_ne (by omega)).trans ((F1 b (by omega)).trans (mset_ne (by omega)))) hS5
    · exact (show False by omega).elim
def st_269_8 (x0 : Int) (r8 : Int → Int → Int → mD → Int × mD) (x1 x2 x3 : Int) (d : mD) : Int × mD := if x3 < d (x0 + 1) 7 then (if v_267 x0 x3 d < x2 then r8 x3 (v_267 x0 x3 d) (x3 + 1) (g_267 x0 x3 d) else r8 x1 x2 (x3 + 1) (g_267 x0 x3 d)) else if x1 = (-1) then (0, mset d x0 0 1) else (x1, mset d x0 0 0)
def lp_269_8 (x0 : Int) : Nat → Int → Int → Int → mD → Int × mD
  | 0 => st_269_8 x0 (fun _ _ _ d => (0, d))
  | n + 1 => st_269_8 x0 (lp_269_8 x0 n)
theorem ls_269_8 {E : mO × tW} {K : tK} {x0 : Int} (hx0 : mdB x0) (N8 : Int) (r8 : Int → Int → Int → mD → Int × mD) (ih8 : ∀ (x1 x2 x3 : Int) (v4 : tV) (d : mD), Safe d → (0 ≤ x3 ∧ x3 ≤ 6) → (-1 ≤ x1 ∧ x1 ≤ 5) → (0 ≤ x2 ∧ x2 ≤ 201) → (mpP (d (x0 + 1))) → (d (x0 + 1) 0 ≤ 999) → (qqP (d (x0 + 1))) → (d (x0 + 1) 9 ≤ 60) → 0 ≤ 6 - x3 → 6 - x3 < N8 → ((∀ b : Int, (b < x0 ∨ x0 + 1 < b) ∧ (b < x0 + 4 ∨ x0 + 4 < b) → (r8 x1 x2 x3 d).2 b = d b) → Safe (r8 x1 x2 x3 d).2 → K (.inl (some (0, (r8 x1 x2 x3 d).1))) (r8 x1 x2 x3 d).2) → tRun E 269 (8, [.inr (11, x0), .inl (0, x1), .inl (0, x2), .inl (0, x3), v4], [], 0, 0, d) K) (x1 x2 x3 : Int) (v4 : tV) (d : mD) (hS : Safe d) (i0 : 0 ≤ x3 ∧ x3 ≤ 6) (i1 : -1 ≤ x1 ∧ x1 ≤ 5) (i2 : 0 ≤ x2 ∧ x2 ≤ 201) (hmp : mpP (d (x0 + 1))) (i4 : d (x0 + 1) 0 ≤ 999) (hqq : qqP (d (x0 + 1))) (i6 : d (x0 + 1) 9 ≤ 60) (hm : 6 - x3 ≤ N8) (h : (∀ b : Int, (b < x0 ∨ x0 + 1 < b) ∧ (b < x0 + 4 ∨ x0 + 4 < b) → (st_269_8 x0 r8 x1 x2 x3 d).2 b = d b) → Safe (st_269_8 x0 r8 x1 x2 x3 d).2 → K (.inl (some (0, (st_269_8 x0 r8 x1 x2 x3 d).1))) (st_269_8 x0 r8 x1 x2 x3 d).2) : tRun E 269 (8, [.inr (11, x0), .inl (0, x1), .inl (0, x2), .inl (0, x3), v4], [], 0, 0, d) K := by
  refine t_269_8 ?_
  have q1 := mh_7 hS hx0 _ rfl
  refine ⟨by omega, ⟨m_inR (by omega) (by omega), m_inR (by omega) (by omega)⟩, fun c0 => ?_, fun c0 => ?_⟩
  · refine ⟨⟨m_inR (by omega) (by omega), m_inR (by omega) (by omega)⟩, fun c1 => ?_, fun c1 => ?_⟩
    · have hS1 : Safe (mset d x0 0 0) := s_11_f0 hS hx0 (by omega)
      rw [mset_eq (d := d) (a := x0) (i := (0 : Int)) (v := (0 : Int))]
      refine ⟨m_inR (by omega) (by omega), fun c2 => ?_, fun c2 => ?_⟩
      · have y0 : st_269_8 x0 r8 x1 x2 x3 d = (x1, mset d x0 0 0) := by simp only [st_269_8, if_neg (show ¬ x3 < d (x0 + 1) 7 from Int.not_lt.mpr c0), if_neg (show ¬ x1 = (-1) from c1), if_neg (show ¬ (0 : Int) < 0 from Int.not_lt.mpr c2)]
        rw [y0] at h
        exact h (show ∀ b : Int, (b < x0 ∨ x0 + 1 < b) ∧ (b < x0 + 4 ∨ x0 + 4 < b) → (mset d x0 0 0) b = d b from fun b hb => mset_ne (by omega)) hS1
      · exact (show False by omega).elim
    · have hS2 : Safe (mset d x0 0 1) := s_11_f0 hS hx0 (by omega)
      rw [mset_eq (d := d) (a := x0) (i := (0 : Int)) (v := (1 : Int))]
      refine ⟨m_inR (by omega) (by omega), fun c2 => ?_, fun c2 => ?_⟩
      · exact (show False by omega).elim
      · have y0 : st_269_8 x0 r8 x1 x2 x3 d = (0, mset d x0 0 1) := by simp only [st_269_8, if_neg (show ¬ x3 < d (x0 + 1) 7 from Int.not_lt.mpr c0), if_pos (show x1 = (-1) from c1), if_pos (show (0 : Int) < 1 from c2)]
        rw [y0] at h
        exact h (show ∀ b : Int, (b < x0 ∨ x0 + 1 < b) ∧ (b < x0 + 4 ∨ x0 + 4 < b) → (mset d x0 0 1) b = d b from fun b hb => mset_ne (by omega)) hS2
  · refine k_267 hS hx0 (by omega) hmp (by omega) hqq (by omega) (fun e1 F1 Q1 hS3 => ?_)
    refine t_269_24 ?_
    refine ⟨⟨m_inR (by omega) (by omega), m_inR (by omega) (by omega)⟩, fun c1 => ?_, fun c1 => ?_⟩
    · refine ⟨⟨m_inR (by omega) (by omega), m_inR (by omega) (by omega)⟩, fun c2 => ?_, fun c2 => ?_⟩
      · have q2 : (g_267 x0 x3 d) (x0 + 1) 0 = d (x0 + 1) 0 := Q1 0 (by omega)
        have q3 : (g_267 x0 x3 d) (x0 + 1) 9 = d (x0 + 1) 9 := Q1 9 (by omega)
        refine ih8 x1 x2 (x3 + 1) (.inl (0, v_267 x0 x3 d)) (g_267 x0 x3 d) hS3 (by omega) (by omega) (by omega) (mpP.of (mh_7 hS hx0 _ rfl) (show ∀ i : Int, i = 7 ∨ (12 ≤ i ∧ i < 420 ∧ (i - 12) % 68 = 2) → (g_267 x0 x3 d) (x0 + 1) i = d (x0 + 1) i from fun i hi => Q1 i (by omega)) hmp) (by omega) (qqP.of (show ∀ i : Int, 12 ≤ i ∧ i < 420 ∧ (i - 12) % 68 = 5 → (g_267 x0 x3 d) (x0 + 1) i = d (x0 + 1) i from fun i hi => Q1 i (by omega)) hqq) (by omega) (by omega) (by omega) ?_
        intro F hS_
        have y0 : st_269_8 x0 r8 x1 x2 x3 d = r8 x1 x2 (x3 + 1) (g_267 x0 x3 d) := by simp only [st_269_8, if_pos (show x3 < d (x0 + 1) 7 from c0), if_neg (show ¬ v_267 x0 x3 d < x2 from Int.not_lt.mpr c1), if_neg (show ¬ v_267 x0 x3 d < x2 from Int.not_lt.mpr c2)]
        rw [y0] at h
        exact h (fun b hb => (F b hb).trans ((show ∀ b : Int, (b < x0 ∨ x0 + 1 < b) ∧ (b < x0 + 4 ∨ x0 + 4 < b) → (g_267 x0 x3 d) b = d b from fun b hb => F1 b (by omega)) b hb)) hS_
      · exact (show False by omega).elim
    · refine ⟨⟨m_inR (by omega) (by omega), m_inR (by omega) (by omega)⟩, fun c2 => ?_, fun c2 => ?_⟩
      · exact (show False by omega).elim
      · have q4 : (g_267 x0 x3 d) (x0 + 1) 0 = d (x0 + 1) 0 := Q1 0 (by omega)
        have q5 : (g_267 x0 x3 d) (x0 + 1) 9 = d (x0 + 1) 9 := Q1 9 (by omega)
        refine ih8 x3 (v_267 x0 x3 d) (x3 + 1) (.inl (0, v_267 x0 x3 d)) (g_267 x0 x3 d) hS3 (by omega) (by omega) (by omega) (mpP.of (mh_7 hS hx0 _ rfl) (show ∀ i : Int, i = 7 ∨ (12 ≤ i ∧ i < 420 ∧ (i - 12) % 68 = 2) → (g_267 x0 x3 d) (x0 + 1) i = d (x0 + 1) i from fun i hi => Q1 i (by omega)) hmp) (by omega) (qqP.of (show ∀ i : Int, 12 ≤ i ∧ i < 420 ∧ (i - 12) % 68 = 5 → (g_267 x0 x3 d) (x0 + 1) i = d (x0 + 1) i from fun i hi => Q1 i (by omega)) hqq) (by omega) (by omega) (by omega) ?_
        intro F hS_
        have y0 : st_269_8 x0 r8 x1 x2 x3 d = r8 x3 (v_267 x0 x3 d) (x3 + 1) (g_267 x0 x3 d) := by simp only [st_269_8, if_pos (show x3 < d (x0 + 1) 7 from c0), if_pos (show v_267 x0 x3 d < x2 from c1), if_pos (show v_267 x0 x3 d < x2 from c2)]
        rw [y0] at h
        exact h (fun b hb => (F b hb).trans ((show ∀ b : Int, (b < x0 ∨ x0 + 1 < b) ∧ (b < x0 + 4 ∨ x0 + 4 < b) → (g_267 x0 x3 d) b = d b from fun b hb => F1 b (by omega)) b hb)) hS_
theorem l_269_8 {E : mO × tW} {K : tK} {x0 : Int} (hx0 : mdB x0) : ∀ (n : Nat) (x1 x2 x3 : Int) (v4 : tV) (d : mD), Safe d → (0 ≤ x3 ∧ x3 ≤ 6) → (-1 ≤ x1 ∧ x1 ≤ 5) → (0 ≤ x2 ∧ x2 ≤ 201) → (mpP (d (x0 + 1))) → (d (x0 + 1) 0 ≤ 999) → (qqP (d (x0 + 1))) → (d (x0 + 1) 9 ≤ 60) → 6 - x3 ≤ (n : Int) → ((∀ b : Int, (b < x0 ∨ x0 + 1 < b) ∧ (b < x0 + 4 ∨ x0 + 4 < b) → (lp_269_8 x0 n x1 x2 x3 d).2 b = d b) → Safe (lp_269_8 x0 n x1 x2 x3 d).2 → K (.inl (some (0, (lp_269_8 x0 n x1 x2 x3 d).1))) (lp_269_8 x0 n x1 x2 x3 d).2) → tRun E 269 (8, [.inr (11, x0), .inl (0, x1), .inl (0, x2), .inl (0, x3), v4], [], 0, 0, d) K := by
  intro n
  induction n with
  | zero =>
    intro x1 x2 x3 v4 d hS i0 i1 i2 hmp i4 hqq i6 hm  h
    exact ls_269_8 hx0 0 _ (fun _ _ _ _ _ _ _ _ _ _ _ _ _ m0 m1 _ => absurd m1 (by omega)) x1 x2 x3 v4 d hS i0 i1 i2 hmp i4 hqq i6 hm  h
  | succ n ih =>
    intro x1 x2 x3 v4 d hS i0 i1 i2 hmp i4 hqq i6 hm  h
    exact ls_269_8 hx0 ((n + 1 : Nat) : Int) _ (fun x1 x2 x3 v4 d hS i0 i1 i2 hmp i4 hqq i6  m0 m1 h => ih x1 x2 x3 v4 d hS i0 i1 i2 hmp i4 hqq i6 (by omega)  h) x1 x2 x3 v4 d hS i0 i1 i2 hmp i4 hqq i6 hm  h
def f_269 (x0 : Int) (d : mD) : Int × mD := lp_269_8 x0 (6 - 0 : Int).toNat ((-1)) 201 0 d
def v_269 (x0 : Int) (d : mD) : Int := (f_269 x0 d).1
def g_269 (x0 : Int) (d : mD) : mD := (f_269 x0 d).2
theorem k_269 {E : mO × tW} {K : tK} {d : mD} {x0 : Int} (hS : Safe d) (hx0 : mdB x0) (hmp : mpP (d (x0 + 1))) (ht : d (x0 + 1) 0 ≤ 999) (hqq : qqP (d (x0 + 1))) (hn : d (x0 + 1) 9 ≤ 60) (h : (∀ b : Int, (b < x0 ∨ x0 + 1 < b) ∧ (b < x0 + 4 ∨ x0 + 4 < b) → (g_269 x0 d) b = d b) → Safe (g_269 x0 d) → K (.inl (some (0, (v_269 x0 d)))) (g_269 x0 d)) : tCall E 269 [.inr (11, x0)] d K := by
  simp only [v_269, g_269] at h
  refine t_269_0 ?_
  have w0 := mh_0 hS hx0 _ rfl
  have w7 := mh_7 hS hx0 _ rfl
  have w8 := mh_8 hS hx0 _ rfl
  have w9 := mh_9 hS hx0 _ rfl
  have w10 := mh_10 hS hx0 _ rfl
  have w11 := mh_11 hS hx0 _ rfl
  refine l_269_8 hx0 (6 - 0 : Int).toNat ((-1)) 201 0 tu d hS (by omega) (by omega) (by omega) hmp (by omega) hqq (by omega) (by omega) ?_
  intro F hS_
  have y0 : f_269 x0 d = lp_269_8 x0 (6 - 0 : Int).toNat ((-1)) 201 0 d := by simp only [f_269]
  rw [y0] at h
  exact h F hS_
def st_272_89 (x0 x1 x2 : Int) (r89 : Int → Int → Int → mD → Int × mD) (x3 x4 x5 : Int) (d : mD) : Int × mD := if x5 < d (x0 + 1) 9 then (if d (x0 + 4) ((452 + (24 * x5)) + 4) = 0 then (if d (x0 + 1) ((452 + (24 * x5)) + 4) = 1 then (if x4 < (d (x0 + 1) ((452 + (24 * x5)) + 3)) - (d (x0 + 1) ((452 + (24 * x5)) + 2)) then r89 x3 ((d (x0 + 1) ((452 + (24 * x5)) + 3)) - (d (x0 + 1) ((452 + (24 * x5)) + 2))) (x5 + 1) d else r89 x3 x4 (x5 + 1) d) else r89 x3 x4 (x5 + 1) d) else r89 x3 x4 (x5 + 1) d) else if (0 : Int) < v_271 x0 d then (0, g_256 x0 (mset d x0 0 3)) else (x4, g_256 x0 (mset d x0 0 0))
def lp_272_89 (x0 x1 x2 : Int) : Nat → Int → Int → Int → mD → Int × mD
  | 0 => st_272_89 x0 x1 x2 (fun _ _ _ d => (0, d))
  | n + 1 => st_272_89 x0 x1 x2 (lp_272_89 x0 x1 x2 n)
theorem ls_272_89 {E : mO × tW} {K : tK} {x0 x1 x2 : Int} (hx0 : mdB x0) (p1 : -2147483648 ≤ x1 ∧ x1 ≤ 2147483647) (p2 : -2147483648 ≤ x2 ∧ x2 ≤ 2147483647) (N89 : Int) (r89 : Int → Int → Int → mD → Int × mD) (ih89 : ∀ (x3 x4 x5 : Int) (v6 v7 : tV) (d : mD), Safe d → (0 ≤ x5 ∧ x5 ≤ 61) → (0 ≤ x4 ∧ x4 ≤ 1300) → 0 ≤ 61 - x5 → 61 - x5 < N89 → ((∀ b : Int, (b < x0 ∨ x0 + 1 < b) ∧ (b < x0 + 4 ∨ x0 + 4 < b) → (r89 x3 x4 x5 d).2 b = d b) → Safe (r89 x3 x4 x5 d).2 → K (.inl (some (0, (r89 x3 x4 x5 d).1))) (r89 x3 x4 x5 d).2) → tRun E 272 (89, [.inr (11, x0), .inl (0, x1), .inl (0, x2), .inl (0, x3), .inl (0, x4), .inl (0, x5), v6, v7], [], 0, 0, d) K) (x3 x4 x5 : Int) (v6 v7 : tV) (d : mD) (hS : Safe d) (i0 : 0 ≤ x5 ∧ x5 ≤ 61) (i1 : 0 ≤ x4 ∧ x4 ≤ 1300) (hm : 61 - x5 ≤ N89) (h : (∀ b : Int, (b < x0 ∨ x0 + 1 < b) ∧ (b < x0 + 4 ∨ x0 + 4 < b) → (st_272_89 x0 x1 x2 r89 x3 x4 x5 d).2 b = d b) → Safe (st_272_89 x0 x1 x2 r89 x3 x4 x5 d).2 → K (.inl (some (0, (st_272_89 x0 x1 x2 r89 x3 x4 x5 d).1))) (st_272_89 x0 x1 x2 r89 x3 x4 x5 d).2) : tRun E 272 (89, [.inr (11, x0), .inl (0, x1), .inl (0, x2), .inl (0, x3), .inl (0, x4), .inl (0, x5), v6, v7], [], 0, 0, d) K := by
  refine t_272_89 ?_
  have w9 := as4 hS hx0 x5
  have q1 := mh_9 hS hx0 _ rfl
  refine ⟨by omega, ⟨m_inR (by omega) (by omega), m_inR (by omega) (by omega)⟩, fun c0 => ?_, fun c0 => ?_⟩
  · refine k_271 hS hx0 (fun e1 => ?_)
    refine t_272_206 ?_
    refine ⟨m_inR (by omega) (by omega), fun c1 => ?_, fun c1 => ?_⟩
    · have hS1 : Safe (mset d x0 0 0) := s_11_f0 hS hx0 (by omega)
      refine k_256 hS1 hx0 (fun F1 K1_0 hS2 => ?_)
      refine t_272_221 ?_
      rw [F1 x0 (by omega)]
      rw [mset_eq (d := d) (a := x0) (i := (0 : Int)) (v := (0 : Int))]
      refine ⟨m_inR (by omega) (by omega), fun c2 => ?_, fun c2 => ?_⟩
      · have y0 : st_272_89 x0 x1 x2 r89 x3 x4 x5 d = (x4, g_256 x0 (mset d x0 0 0)) := by simp only [st_272_89, if_neg (show ¬ x5 < d (x0 + 1) 9 from Int.not_lt.mpr c0), if_neg (show ¬ (0 : Int) < v_271 x0 d from Int.not_lt.mpr c1), if_neg (show ¬ (0 : Int) < 0 from Int.not_lt.mpr c2)]
        rw [y0] at h
        exact h (show ∀ b : Int, (b < x0 ∨ x0 + 1 < b) ∧ (b < x0 + 4 ∨ x0 + 4 < b) → (g_256 x0 (mset d x0 0 0)) b = d b from fun b hb => (F1 b (by omega)).trans (mset_ne (by omega))) hS2
      · exact (show False by omega).elim
    · have hS3 : Safe (mset d x0 0 3) := s_11_f0 hS hx0 (by omega)
      refine k_256 hS3 hx0 (fun F2 K2_0 hS4 => ?_)
      refine t_272_221 ?_
      rw [F2 x0 (by omega)]
      rw [mset_eq (d := d) (a := x0) (i := (0 : Int)) (v := (3 : Int))]
      refine ⟨m_inR (by omega) (by omega), fun c2 => ?_, fun c2 => ?_⟩
      · exact (show False by omega).elim
      · have y0 : st_272_89 x0 x1 x2 r89 x3 x4 x5 d = (0, g_256 x0 (mset d x0 0 3)) := by simp only [st_272_89, if_neg (show ¬ x5 < d (x0 + 1) 9 from Int.not_lt.mpr c0), if_pos (show (0 : Int) < v_271 x0 d from c1), if_pos (show (0 : Int) < 3 from c2)]
        rw [y0] at h
        exact h (show ∀ b : Int, (b < x0 ∨ x0 + 1 < b) ∧ (b < x0 + 4 ∨ x0 + 4 < b) → (g_256 x0 (mset d x0 0 3)) b = d b from fun b hb => (F2 b (by omega)).trans (mset_ne (by omega))) hS4
  · refine k_179 hS ?_
    refine t_272_106 ?_
    refine ⟨by omega, m_inR (by omega) (by omega), fun c1 => ?_, fun c1 => ?_⟩
    · refine ⟨m_inR (by omega) (by omega), fun c2 => ?_, fun c2 => ?_⟩
      · refine ih89 x3 x4 (x5 + 1) (.inl (0, 452 + (24 * x5))) (.inl (0, 0)) d hS (by omega) (by omega) (by omega) (by omega) ?_
        intro F hS_
        have y0 : st_272_89 x0 x1 x2 r89 x3 x4 x5 d = r89 x3 x4 (x5 + 1) d := by simp only [st_272_89, if_pos (show x5 < d (x0 + 1) 9 from c0), if_neg (show ¬ d (x0 + 4) ((452 + (24 * x5)) + 4) = 0 from c1), if_pos (show (0 : Int) = 0 from c2)]
        rw [y0] at h
        exact h F hS_
      · exact (show False by omega).elim
    · have q2 := mt_4 hS hx0 x5 ((452 + (24 * x5)) + 4) (by omega) (by omega)
      refine ⟨by omega, ⟨m_inR (by omega) (by omega), m_inR (by omega) (by omega)⟩, fun c2 => ?_, fun c2 => ?_⟩
      · refine ⟨m_inR (by omega) (by omega), fun c3 => ?_, fun c3 => ?_⟩
        · refine ih89 x3 x4 (x5 + 1) (.inl (0, 452 + (24 * x5))) (.inl (0, 0)) d hS (by omega) (by omega) (by omega) (by omega) ?_
          intro F hS_
          have y0 : st_272_89 x0 x1 x2 r89 x3 x4 x5 d = r89 x3 x4 (x5 + 1) d := by simp only [st_272_89, if_pos (show x5 < d (x0 + 1) 9 from c0), if_pos (show d (x0 + 4) ((452 + (24 * x5)) + 4) = 0 from c1), if_neg (show ¬ d (x0 + 1) ((452 + (24 * x5)) + 4) = 1 from c2), if_pos (show (0 : Int) = 0 from c3)]
          rw [y0] at h
          exact h F hS_
        · exact (show False by omega).elim
      · refine ⟨m_inR (by omega) (by omega), fun c3 => ?_, fun c3 => ?_⟩
        · exact (show False by omega).elim
        · have q3 := mt_3 hS hx0 x5 ((452 + (24 * x5)) + 3) (by omega) (by omega)
          have q4 := mt_2 hS hx0 x5 ((452 + (24 * x5)) + 2) (by omega) (by omega)
          refine ⟨by omega, by omega, ⟨m_inR (by omega) (by omega), m_inR (by omega) (by omega)⟩, fun c4 => ?_, fun c4 => ?_⟩
          · refine ih89 x3 x4 (x5 + 1) (.inl (0, 452 + (24 * x5))) (.inl (0, 1)) d hS (by omega) (by omega) (by omega) (by omega) ?_
            intro F hS_
            have y0 : st_272_89 x0 x1 x2 r89 x3 x4 x5 d = r89 x3 x4 (x5 + 1) d := by simp only [st_272_89, if_pos (show x5 < d (x0 + 1) 9 from c0), if_pos (show d (x0 + 4) ((452 + (24 * x5)) + 4) = 0 from c1), if_pos (show d (x0 + 1) ((452 + (24 * x5)) + 4) = 1 from c2), if_neg (show ¬ (1 : Int) = 0 from c3), if_neg (show ¬ x4 < (d (x0 + 1) ((452 + (24 * x5)) + 3)) - (d (x0 + 1) ((452 + (24 * x5)) + 2)) from Int.not_lt.mpr c4)]
            rw [y0] at h
            exact h F hS_
          · refine ⟨by omega, by omega, ?_⟩
            refine ih89 x3 ((d (x0 + 1) ((452 + (24 * x5)) + 3)) - (d (x0 + 1) ((452 + (24 * x5)) + 2))) (x5 + 1) (.inl (0, 452 + (24 * x5))) (.inl (0, 1)) d hS (by omega) (by omega) (by omega) (by omega) ?_
            intro F hS_
            have y0 : st_272_89 x0 x1 x2 r89 x3 x4 x5 d = r89 x3 ((d (x0 + 1) ((452 + (24 * x5)) + 3)) - (d (x0 + 1) ((452 + (24 * x5)) + 2))) (x5 + 1) d := by simp only [st_272_89, if_pos (show x5 < d (x0 + 1) 9 from c0), if_pos (show d (x0 + 4) ((452 + (24 * x5)) + 4) = 0 from c1), if_pos (show d (x0 + 1) ((452 + (24 * x5)) + 4) = 1 from c2), if_neg (show ¬ (1 : Int) = 0 from c3), if_pos (show x4 < (d (x0 + 1) ((452 + (24 * x5)) + 3)) - (d (x0 + 1) ((452 + (24 * x5)) + 2)) from c4)]
            rw [y0] at h
            exact h F hS_
theorem l_272_89 {E : mO × tW} {K : tK} {x0 x1 x2 : Int} (hx0 : mdB x0) (p1 : -2147483648 ≤ x1 ∧ x1 ≤ 2147483647) (p2 : -2147483648 ≤ x2 ∧ x2 ≤ 2147483647) : ∀ (n : Nat) (x3 x4 x5 : Int) (v6 v7 : tV) (d : mD), Safe d → (0 ≤ x5 ∧ x5 ≤ 61) → (0 ≤ x4 ∧ x4 ≤ 1300) → 61 - x5 ≤ (n : Int) → ((∀ b : Int, (b < x0 ∨ x0 + 1 < b) ∧ (b < x0 + 4 ∨ x0 + 4 < b) → (lp_272_89 x0 x1 x2 n x3 x4 x5 d).2 b = d b) → Safe (lp_272_89 x0 x1 x2 n x3 x4 x5 d).2 → K (.inl (some (0, (lp_272_89 x0 x1 x2 n x3 x4 x5 d).1))) (lp_272_89 x0 x1 x2 n x3 x4 x5 d).2) → tRun E 272 (89, [.inr (11, x0), .inl (0, x1), .inl (0, x2), .inl (0, x3), .inl (0, x4), .inl (0, x5), v6, v7], [], 0, 0, d) K := by
  intro n
  induction n with
  | zero =>
    intro x3 x4 x5 v6 v7 d hS i0 i1 hm  h
    exact ls_272_89 hx0 p1 p2 0 _ (fun _ _ _ _ _ _ _ _ _ m0 m1 _ => absurd m1 (by omega)) x3 x4 x5 v6 v7 d hS i0 i1 hm  h
  | succ n ih =>
    intro x3 x4 x5 v6 v7 d hS i0 i1 hm  h
    exact ls_272_89 hx0 p1 p2 ((n + 1 : Nat) : Int) _ (fun x3 x4 x5 v6 v7 d hS i0 i1  m0 m1 h => ih x3 x4 x5 v6 v7 d hS i0 i1 (by omega)  h) x3 x4 x5 v6 v7 d hS i0 i1 hm  h
def st_272_59 (x0 x1 x2 : Int) (r59 : Int → mD → Int × mD) (x3 : Int) (d : mD) : Int × mD := if x3 < 200 then (if (0 : Int) < v_271 x0 d then r59 (x3 + 1) (g_223 x0 d) else lp_272_89 x0 x1 x2 (61 - 0 : Int).toNat x3 0 0 d) else lp_272_89 x0 x1 x2 (61 - 0 : Int).toNat x3 0 0 d
def lp_272_59 (x0 x1 x2 : Int) : Nat → Int → mD → Int × mD
  | 0 => st_272_59 x0 x1 x2 (fun _ d => (0, d))
  | n + 1 => st_272_59 x0 x1 x2 (lp_272_59 x0 x1 x2 n)
theorem ls_272_59 {E : mO × tW} {K : tK} {x0 x1 x2 : Int} (hx0 : mdB x0) (p1 : -2147483648 ≤ x1 ∧ x1 ≤ 2147483647) (p2 : -2147483648 ≤ x2 ∧ x2 ≤ 2147483647) (N59 : Int) (r59 : Int → mD → Int × mD) (ih59 : ∀ (x3 : Int) (d : mD), Safe d → (0 ≤ x3 ∧ x3 ≤ 200) → (d (x0 + 1) 0 + (200 - x3) ≤ 1200) → (mpP (d (x0 + 1))) → 0 ≤ 200 - x3 → 200 - x3 < N59 → ((∀ b : Int, (b < x0 ∨ x0 + 1 < b) ∧ (b < x0 + 4 ∨ x0 + 4 < b) → (r59 x3 d).2 b = d b) → Safe (r59 x3 d).2 → K (.inl (some (0, (r59 x3 d).1))) (r59 x3 d).2) → tRun E 272 (59, [.inr (11, x0), .inl (0, x1), .inl (0, x2), .inl (0, x3), tu, tu, tu, tu], [], 0, 0, d) K) (x3 : Int) (d : mD) (hS : Safe d) (i0 : 0 ≤ x3 ∧ x3 ≤ 200) (i1 : d (x0 + 1) 0 + (200 - x3) ≤ 1200) (hmp : mpP (d (x0 + 1))) (hm : 200 - x3 ≤ N59) (h : (∀ b : Int, (b < x0 ∨ x0 + 1 < b) ∧ (b < x0 + 4 ∨ x0 + 4 < b) → (st_272_59 x0 x1 x2 r59 x3 d).2 b = d b) → Safe (st_272_59 x0 x1 x2 r59 x3 d).2 → K (.inl (some (0, (st_272_59 x0 x1 x2 r59 x3 d).1))) (st_272_59 x0 x1 x2 r59 x3 d).2) : tRun E 272 (59, [.inr (11, x0), .inl (0, x1), .inl (0, x2), .inl (0, x3), tu, tu, tu, tu], [], 0, 0, d) K := by
  refine t_272_59 ?_
  refine ⟨⟨m_inR (by omega) (by omega), m_inR (by omega) (by omega)⟩, fun c0 => ?_, fun c0 => ?_⟩
  · refine l_272_89 hx0 p1 p2 (61 - 0 : Int).toNat x3 0 0 tu tu d hS (by omega) (by omega) (by omega) ?_
    intro F hS_
    have y0 : st_272_59 x0 x1 x2 r59 x3 d = lp_272_89 x0 x1 x2 (61 - 0 : Int).toNat x3 0 0 d := by simp only [st_272_59, if_neg (show ¬ x3 < 200 from Int.not_lt.mpr c0)]
    rw [y0] at h
    exact h F hS_
  · refine k_271 hS hx0 (fun e2 => ?_)
    refine t_272_70 ?_
    refine ⟨m_inR (by omega) (by omega), fun c1 => ?_, fun c1 => ?_⟩
    · refine l_272_89 hx0 p1 p2 (61 - 0 : Int).toNat x3 0 0 tu tu d hS (by omega) (by omega) (by omega) ?_
      intro F hS_
      have y0 : st_272_59 x0 x1 x2 r59 x3 d = lp_272_89 x0 x1 x2 (61 - 0 : Int).toNat x3 0 0 d := by simp only [st_272_59, if_pos (show x3 < 200 from c0), if_neg (show ¬ (0 : Int) < v_271 x0 d from Int.not_lt.mpr c1)]
      rw [y0] at h
      exact h F hS_
    · refine k_223 hS hx0 hmp (by omega) (fun F3 Q3 n3_0 hS5 => ?_)
      refine t_272_77 ?_
      refine ih59 (x3 + 1)  (g_223 x0 d) hS5 (by omega) (by omega) (mpP.of (mh_7 hS hx0 _ rfl) (show ∀ i : Int, i = 7 ∨ (12 ≤ i ∧ i < 420 ∧ (i - 12) % 68 = 2) → (g_223 x0 d) (x0 + 1) i = d (x0 + 1) i from fun i hi => Q3 i (by omega)) hmp) (by omega) (by omega) ?_
      intro F hS_
      have y0 : st_272_59 x0 x1 x2 r59 x3 d = r59 (x3 + 1) (g_223 x0 d) := by simp only [st_272_59, if_pos (show x3 < 200 from c0), if_pos (show (0 : Int) < v_271 x0 d from c1)]
      rw [y0] at h
      exact h (fun b hb => (F b hb).trans ((show ∀ b : Int, (b < x0 ∨ x0 + 1 < b) ∧ (b < x0 + 4 ∨ x0 + 4 < b) → (g_223 x0 d) b = d b from fun b hb => F3 b (by omega)) b hb)) hS_
theorem l_272_59 {E : mO × tW} {K : tK} {x0 x1 x2 : Int} (hx0 : mdB x0) (p1 : -2147483648 ≤ x1 ∧ x1 ≤ 2147483647) (p2 : -2147483648 ≤ x2 ∧ x2 ≤ 2147483647) : ∀ (n : Nat) (x3 : Int) (d : mD), Safe d → (0 ≤ x3 ∧ x3 ≤ 200) → (d (x0 + 1) 0 + (200 - x3) ≤ 1200) → (mpP (d (x0 + 1))) → 200 - x3 ≤ (n : Int) → ((∀ b : Int, (b < x0 ∨ x0 + 1 < b) ∧ (b < x0 + 4 ∨ x0 + 4 < b) → (lp_272_59 x0 x1 x2 n x3 d).2 b = d b) → Safe (lp_272_59 x0 x1 x2 n x3 d).2 → K (.inl (some (0, (lp_272_59 x0 x1 x2 n x3 d).1))) (lp_272_59 x0 x1 x2 n x3 d).2) → tRun E 272 (59, [.inr (11, x0), .inl (0, x1), .inl (0, x2), .inl (0, x3), tu, tu, tu, tu], [], 0, 0, d) K := by
  intro n
  induction n with
  | zero =>
    intro x3  d hS i0 i1 hmp hm  h
    exact ls_272_59 hx0 p1 p2 0 _ (fun _  _ _ _ _ _ m0 m1 _ => absurd m1 (by omega)) x3  d hS i0 i1 hmp hm  h
  | succ n ih =>
    intro x3  d hS i0 i1 hmp hm  h
    exact ls_272_59 hx0 p1 p2 ((n + 1 : Nat) : Int) _ (fun x3  d hS i0 i1 hmp  m0 m1 h => ih x3  d hS i0 i1 hmp (by omega)  h) x3  d hS i0 i1 hmp hm  h
def f_272 (x0 x1 x2 : Int) (d : mD) : Int × mD := if v_236 x0 x1 d = 0 then (0, mset d x0 0 1) else if v_236 x0 x2 d = 0 then (0, mset d x0 0 1) else if v_270 x0 x1 x2 d = 0 then (0, mset d x0 0 2) else lp_272_59 x0 x1 x2 (200 - 0 : Int).toNat 0 (g_229 x0 x1 x2 (g_255 x0 (mset d x0 0 0)))
def v_272 (x0 x1 x2 : Int) (d : mD) : Int := (f_272 x0 x1 x2 d).1
def g_272 (x0 x1 x2 : Int) (d : mD) : mD := (f_272 x0 x1 x2 d).2
theorem k_272 {E : mO × tW} {K : tK} {d : mD} {x0 x1 x2 : Int} (hS : Safe d) (hx0 : mdB x0) (p1 : -2147483648 ≤ x1 ∧ x1 ≤ 2147483647) (p2 : -2147483648 ≤ x2 ∧ x2 ≤ 2147483647) (hmp : mpP (d (x0 + 1))) (ht : d (x0 + 1) 0 ≤ 999) (hqq : qqP (d (x0 + 1))) (h : (∀ b : Int, (b < x0 ∨ x0 + 1 < b) ∧ (b < x0 + 4 ∨ x0 + 4 < b) → (g_272 x0 x1 x2 d) b = d b) → Safe (g_272 x0 x1 x2 d) → K (.inl (some (0, (v_272 x0 x1 x2 d)))) (g_272 x0 x1 x2 d)) : tCall E 272 [.inr (11, x0), .inl (0, x1), .inl (0, x2)] d K := by
  simp only [v_272, g_272] at h
  refine t_272_0 ?_
  have w0 := mh_0 hS hx0 _ rfl
  have w7 := mh_7 hS hx0 _ rfl
  have w8 := mh_8 hS hx0 _ rfl
  have w9 := mh_9 hS hx0 _ rfl
  have w10 := mh_10 hS hx0 _ rfl
  have w11 := mh_11 hS hx0 _ rfl
  refine k_236 hS hx0 (m_inR (by omega) (by omega)) (fun e3 => ?_)
  refine t_272_6 ?_
  refine ⟨m_inR (by omega) (by omega), fun c0 => ?_, fun c0 => ?_⟩
  · have hS6 : Safe (mset d x0 0 1) := s_11_f0 hS hx0 (by omega)
    rw [mset_eq (d := d) (a := x0) (i := (0 : Int)) (v := (1 : Int))]
    refine ⟨m_inR (by omega) (by omega), fun c1 => ?_, fun c1 => ?_⟩
    · exact (show False by omega).elim
    · have y0 : f_272 x0 x1 x2 d = (0, mset d x0 0 1) := by simp only [f_272, if_pos (show v_236 x0 x1 d = 0 from c0), if_pos (show (0 : Int) < 1 from c1)]
      rw [y0] at h
      exact h (show ∀ b : Int, (b < x0 ∨ x0 + 1 < b) ∧ (b < x0 + 4 ∨ x0 + 4 < b) → (mset d x0 0 1) b = d b from fun b hb => mset_ne (by omega)) hS6
  · refine k_236 hS hx0 (m_inR (by omega) (by omega)) (fun e4 => ?_)
    refine t_272_14 ?_
    refine ⟨m_inR (by omega) (by omega), fun c1 => ?_, fun c1 => ?_⟩
    · refine k_270 hS hx0 (by omega) (by omega) (fun e5 => ?_)
      refine t_272_27 ?_
      refine ⟨m_inR (by omega) (by omega), fun c2 => ?_, fun c2 => ?_⟩
      · have hS7 : Safe (mset d x0 0 2) := s_11_f0 hS hx0 (by omega)
        rw [mset_eq (d := d) (a := x0) (i := (0 : Int)) (v := (2 : Int))]
        refine ⟨m_inR (by omega) (by omega), fun c3 => ?_, fun c3 => ?_⟩
        · exact (show False by omega).elim
        · have y0 : f_272 x0 x1 x2 d = (0, mset d x0 0 2) := by simp only [f_272, if_neg (show ¬ v_236 x0 x1 d = 0 from c0), if_neg (show ¬ v_236 x0 x2 d = 0 from c1), if_pos (show v_270 x0 x1 x2 d = 0 from c2), if_pos (show (0 : Int) < 2 from c3)]
          rw [y0] at h
          exact h (show ∀ b : Int, (b < x0 ∨ x0 + 1 < b) ∧ (b < x0 + 4 ∨ x0 + 4 < b) → (mset d x0 0 2) b = d b from fun b hb => mset_ne (by omega)) hS7
      · have hS8 : Safe (mset d x0 0 0) := s_11_f0 hS hx0 (by omega)
        rw [mset_eq (d := d) (a := x0) (i := (0 : Int)) (v := (0 : Int))]
        refine ⟨m_inR (by omega) (by omega), fun c3 => ?_, fun c3 => ?_⟩
        · refine k_255 hS8 hx0 (fun F4 K4_0 hS9 => ?_)
          refine t_272_51 ?_
          have q5 : (g_255 x0 (mset d x0 0 0)) (x0 + 1) (12 + 68 * x1 + 5) = d (x0 + 1) (12 + 68 * x1 + 5) := (congrFun (F4 (x0 + 1) (by omega)) (12 + 68 * x1 + 5)).trans (congrFun (mset_ne (by omega)) (12 + 68 * x1 + 5))
          have q6 : (g_255 x0 (mset d x0 0 0)) (x0 + 1) (12 + 68 * x2 + 5) = d (x0 + 1) (12 + 68 * x2 + 5) := (congrFun (F4 (x0 + 1) (by omega)) (12 + 68 * x2 + 5)).trans (congrFun (mset_ne (by omega)) (12 + 68 * x2 + 5))
          refine k_229 hS9 hx0 (by omega) (by omega) (by have u1 := hqq x1 (by omega) (by omega); have u2 := hqq x2 (by omega) (by omega); omega) (by omega) (fun F5 Q5 hS10 => ?_)
          refine t_272_57 ?_
          have q7 : (g_229 x0 x1 x2 (g_255 x0 (mset d x0 0 0))) (x0 + 1) 0 = d (x0 + 1) 0 := ((Q5 0 (by omega)).trans (congrFun (F4 (x0 + 1) (by omega)) 0)).trans (congrFun (mset_ne (by omega)) 0)
          refine l_272_59 hx0 p1 p2 (200 - 0 : Int).toNat 0  (g_229 x0 x1 x2 (g_255 x0 (mset d x0 0 0))) hS10 (by omega) (by omega) (mpP.of (mh_7 hS hx0 _ rfl) (show ∀ i : Int, i = 7 ∨ (12 ≤ i ∧ i < 420 ∧ (i - 12) % 68 = 2) → (g_229 x0 x1 x2 (g_255 x0 (mset d x0 0 0))) (x0 + 1) i = d (x0 + 1) i from fun i hi => ((Q5 i (by omega)).trans (congrFun (F4 (x0 + 1) (by omega)) i)).trans (congrFun (mset_ne (by omega)) i)) hmp) (by omega) ?_
          intro F hS_
          have y0 : f_272 x0 x1 x2 d = lp_272_59 x0 x1 x2 (200 - 0 : Int).toNat 0 (g_229 x0 x1 x2 (g_255 x0 (mset d x0 0 0))) := by simp only [f_272, if_neg (show ¬ v_236 x0 x1 d = 0 from c0), if_neg (show ¬ v_236 x0 x2 d = 0 from c1), if_neg (show ¬ v_270 x0 x1 x2 d = 0 from c2), if_neg (show ¬ (0 : Int) < 0 from Int.not_lt.mpr c3)]
          rw [y0] at h
          exact h (fun b hb => (F b hb).trans ((show ∀ b : Int, (b < x0 ∨ x0 + 1 < b) ∧ (b < x0 + 4 ∨ x0 + 4 < b) → (g_229 x0 x1 x2 (g_255 x0 (mset d x0 0 0))) b = d b from fun b hb => (F5 b (by omega)).trans ((F4 b (by omega)).trans (mset_ne (by omega)))) b hb)) hS_
        · exact (show False by omega).elim
    · have hS11 : Safe (mset d x0 0 1) := s_11_f0 hS hx0 (by omega)
      rw [mset_eq (d := d) (a := x0) (i := (0 : Int)) (v := (1 : Int))]
      refine ⟨m_inR (by omega) (by omega), fun c2 => ?_, fun c2 => ?_⟩
      · exact (show False by omega).elim
      · have y0 : f_272 x0 x1 x2 d = (0, mset d x0 0 1) := by simp only [f_272, if_neg (show ¬ v_236 x0 x1 d = 0 from c0), if_pos (show v_236 x0 x2 d = 0 from c1), if_pos (show (0 : Int) < 1 from c2)]
        rw [y0] at h
        exact h (show ∀ b : Int, (b < x0 ∨ x0 + 1 < b) ∧ (b < x0 + 4 ∨ x0 + 4 < b) → (mset d x0 0 1) b = d b from fun b hb => mset_ne (by omega)) hS11
