/-! ===== contracts of the reference's methods: printed by a program of mine ===== -/
theorem mw_224 {x0 x1 x2 : Int} (h2 : 0 ≤ x2 ∧ x2 ≤ 5) : ∀ (n : Nat) (x3 x4 x5 : Int) (d : mD), x4 = 452 + 24 * x3 → 0 ≤ x3 ∧ x3 ≤ 60 → 0 ≤ x5 ∧ x5 ≤ 24 → 24 - x5 ≤ (n : Int) → 0 ≤ d (x0 + 1) (12 + 68 * x2 + 5) ∧ d (x0 + 1) (12 + 68 * x2 + 5) ≤ 60 → (∀ t, 0 ≤ t → t ≤ 60 → t ≠ x3 → d (x0 + 1) (452 + 24 * t + 6) = 1 ∨ d (x0 + 1) (452 + 24 * t + 7) ≤ 2) → (x5 ≤ 7 ∨ d (x0 + 1) (x4 + 7) = 0) → mwP ((lp_224_17 x0 x1 x2 n x3 x4 x5 d).2 (x0 + 1)) := by
  intro n
  induction n with
  | zero =>
    intro x3 x4 x5 d e4 h3 h5 hn hq ht hz
    show mwP ((st_224_17 x0 x1 x2 _ x3 x4 x5 d).2 (x0 + 1))
    unfold st_224_17
    rw [if_neg (by omega)]
    refine mwP.ne (fun t t0 t1 => by omega) (mwP.ne (fun t t0 t1 => by omega) (mwP.ne (fun t t0 t1 => by omega) (mwP.ne (fun t t0 t1 => by omega) (mwP.ne (fun t t0 t1 => by omega) (mwP.ne (fun t t0 t1 => by omega) (mwP.ne (fun t t0 t1 => by omega) ?_))))))
    intro t t0 t1
    by_cases c : t = x3
    · right
      have e : 452 + 24 * t + 7 = x4 + 7 := by omega
      rw [e]
      omega
    · exact ht t t0 t1 c
  | succ n ih =>
    intro x3 x4 x5 d e4 h3 h5 hn hq ht hz
    show mwP ((st_224_17 x0 x1 x2 _ x3 x4 x5 d).2 (x0 + 1))
    unfold st_224_17
    by_cases c : x5 < 24
    · rw [if_pos c]
      refine ih x3 x4 (x5 + 1) _ e4 h3 (by omega) (by omega) ?_ (fun t t0 t1 tn => ?_) ?_
      · rw [mset_ni (by omega)]; exact hq
      · rw [mset_ni (by omega), mset_ni (by omega)]; exact ht t t0 t1 tn
      · by_cases c7 : x5 = 7
        · right; exact mset_e2 (by omega)
        · rcases hz with hz | hz
          · left; omega
          · right; rw [mset_ni (by omega)]; exact hz
    · rw [if_neg c]
      refine mwP.ne (fun t t0 t1 => by omega) (mwP.ne (fun t t0 t1 => by omega) (mwP.ne (fun t t0 t1 => by omega) (mwP.ne (fun t t0 t1 => by omega) (mwP.ne (fun t t0 t1 => by omega) (mwP.ne (fun t t0 t1 => by omega) (mwP.ne (fun t t0 t1 => by omega) ?_))))))
      intro t t0 t1
      by_cases c : t = x3
      · right
        have e : 452 + 24 * t + 7 = x4 + 7 := by omega
        rw [e]
        omega
      · exact ht t t0 t1 c
theorem mw_226 {d : mD} {x0 x1 x2 : Int} (hS : Safe d) (hx0 : mdB x0) (h2 : 0 ≤ x2 ∧ x2 ≤ 5) (ht : d (x0 + 1) 9 ≤ 60) (hq : d (x0 + 1) (12 + 68 * x2 + 5) ≤ 60) (h : mwP (d (x0 + 1))) : mwP ((g_226 x0 x1 x2 d) (x0 + 1)) := by
  have a1 := mh_9 hS hx0 _ rfl
  have a2 := mo_5 hS hx0 x2 (12 + 68 * x2 + 5) h2 rfl
  exact mw_224 h2 _ _ _ 0 d rfl ⟨a1.1, ht⟩ (by omega) (by omega) ⟨a2.1, hq⟩ (fun t t0 t1 _ => h t t0 t1) (Or.inl (by omega))
def zP (f : Int → Int) (n : Int) : Prop := ∀ i, 0 ≤ i → i < n → f i = 0
theorem zP.s {d : mD} {x n : Int} (h : zP (d x) n) : zP ((mset d x n 0) x) (n + 1) := by
  intro i h0 h1
  by_cases c : i = n
  · exact mset_e2 c
  · rw [mset_ni c]; exact h i h0 (by omega)
theorem mpP.z {f : Int → Int} {n : Int} (h : zP f n) (hn : 3116 ≤ n) : mpP f := by
  intro o h0 h1
  rw [h 7 (by omega) (by omega)] at h1
  omega
theorem mwP.z {f : Int → Int} {n : Int} (h : zP f n) (hn : 3116 ≤ n) : mwP f := by
  intro t t0 t1
  right
  rw [h _ (by omega) (by omega)]
  omega
def st_205_123 (x0 : Int) (r13 : Int → mD → mD) (r123 : Int → Int → Int → mD → mD) (x1 x2 x3 : Int) (d : mD) : mD := if x3 < x2 then r123 x1 x2 (x3 + 1) (g_223 x0 d) else if d x0 13 = 0 then r13 (miand x1 1) d else r13 (miand x1 0) d
def lp_205_123 (x0 : Int) (r13 : Int → mD → mD) : Nat → Int → Int → Int → mD → mD
  | 0 => st_205_123 x0 r13 (fun _ _ _ d => d)
  | n + 1 => st_205_123 x0 r13 (lp_205_123 x0 r13 n)
theorem ls_205_123 {E : mO × tW} {K : tK} {x0 : Int} (hx0 : mdB x0) (N13 : Int) (r13 : Int → mD → mD) (ih13 : ∀ (x1 : Int) (v2 v3 v4 : tV) (d : mD), Safe d → (0 ≤ x1 ∧ x1 ≤ 1) → (mpP (d (x0 + 1))) → (mwP (d (x0 + 1))) → (d (x0 + 1) 0 ≤ 999) → 0 ≤ 1000 - d x0 10 + x1 → 1000 - d x0 10 + x1 < N13 → ((∀ b : Int, (b < x0 ∨ x0 + 1 < b) → (r13 x1 d) b = d b) → (r13 x1 d) x0 9 = d x0 9 → mpP ((r13 x1 d) (x0 + 1)) → mwP ((r13 x1 d) (x0 + 1)) → ((r13 x1 d) (x0 + 1) 0 ≤ 999) → Safe (r13 x1 d) → K (.inl none) (r13 x1 d)) → tRun E 205 (13, [.inr (11, x0), .inl (0, x1), v2, v3, v4], [], 0, 0, d) K) (N123 : Int) (r123 : Int → Int → Int → mD → mD) (ih123 : ∀ (x1 x2 x3 : Int) (v4 : tV) (d : mD), Safe d → (0 ≤ x1 ∧ x1 ≤ 1) → (0 ≤ x3 ∧ x3 ≤ x2 ∧ x2 ≤ 99) → (d (x0 + 1) 0 + (x2 - x3) ≤ 999) → (mpP (d (x0 + 1))) → (mwP (d (x0 + 1))) → (1000 - d x0 10 + 2 ≤ N13) → 1000 - d x0 10 + x1 ≤ N13 → 0 ≤ x2 - x3 → x2 - x3 < N123 → ((∀ b : Int, (b < x0 ∨ x0 + 1 < b) → (r123 x1 x2 x3 d) b = d b) → (r123 x1 x2 x3 d) x0 9 = d x0 9 → mpP ((r123 x1 x2 x3 d) (x0 + 1)) → mwP ((r123 x1 x2 x3 d) (x0 + 1)) → ((r123 x1 x2 x3 d) (x0 + 1) 0 ≤ 999) → Safe (r123 x1 x2 x3 d) → K (.inl none) (r123 x1 x2 x3 d)) → tRun E 205 (123, [.inr (11, x0), .inl (0, x1), .inl (0, x2), .inl (0, x3), v4], [], 0, 0, d) K) (x1 x2 x3 : Int) (v4 : tV) (d : mD) (hS : Safe d) (i0 : 0 ≤ x1 ∧ x1 ≤ 1) (i1 : 0 ≤ x3 ∧ x3 ≤ x2 ∧ x2 ≤ 99) (i2 : d (x0 + 1) 0 + (x2 - x3) ≤ 999) (hmp : mpP (d (x0 + 1))) (hmw : mwP (d (x0 + 1))) (i5 : 1000 - d x0 10 + 2 ≤ N13) (hm : x2 - x3 ≤ N123) (m13 : 1000 - d x0 10 + x1 ≤ N13) (h : (∀ b : Int, (b < x0 ∨ x0 + 1 < b) → (st_205_123 x0 r13 r123 x1 x2 x3 d) b = d b) → (st_205_123 x0 r13 r123 x1 x2 x3 d) x0 9 = d x0 9 → mpP ((st_205_123 x0 r13 r123 x1 x2 x3 d) (x0 + 1)) → mwP ((st_205_123 x0 r13 r123 x1 x2 x3 d) (x0 + 1)) → ((st_205_123 x0 r13 r123 x1 x2 x3 d) (x0 + 1) 0 ≤ 999) → Safe (st_205_123 x0 r13 r123 x1 x2 x3 d) → K (.inl none) (st_205_123 x0 r13 r123 x1 x2 x3 d)) : tRun E 205 (123, [.inr (11, x0), .inl (0, x1), .inl (0, x2), .inl (0, x3), v4], [], 0, 0, d) K := by
  refine t_205_123 ?_
  have w8 := r_11_f9 hS hx0
  have w9 := r_11_f10 hS hx0
  refine ⟨⟨m_inR (by omega) (by omega), m_inR (by omega) (by omega)⟩, fun c0 => ?_, fun c0 => ?_⟩
  · have q1 := r_11_f13 hS hx0
    refine ⟨m_inR (by omega) (by omega), fun c1 => ?_, fun c1 => ?_⟩
    · have q2 := miand_r x1 0 (by decide) (by decide)
      have q3 := mbool x1
      have q4 := r_11_f10 hS hx0
      refine ih13 (miand x1 0) (.inl (0, x2)) (.inl (0, x3)) v4 d hS (by omega) hmp hmw (by omega) (by omega) (by omega) ?_
      intro F k0 P_hmp P_hmw n0 hS_
      have y0 : st_205_123 x0 r13 r123 x1 x2 x3 d = r13 (miand x1 0) d := by simp only [st_205_123, if_neg (show ¬ x3 < x2 from Int.not_lt.mpr c0), if_neg (show ¬ d x0 13 = 0 from c1)]
      rw [y0] at h
      exact h F k0 P_hmp P_hmw (by omega) hS_
    · have q5 := miand_r x1 1 (by decide) (by decide)
      have q6 := mbool x1
      have q7 := r_11_f10 hS hx0
      refine ih13 (miand x1 1) (.inl (0, x2)) (.inl (0, x3)) v4 d hS (by omega) hmp hmw (by omega) (by omega) (by omega) ?_
      intro F k0 P_hmp P_hmw n0 hS_
      have y0 : st_205_123 x0 r13 r123 x1 x2 x3 d = r13 (miand x1 1) d := by simp only [st_205_123, if_neg (show ¬ x3 < x2 from Int.not_lt.mpr c0), if_pos (show d x0 13 = 0 from c1)]
      rw [y0] at h
      exact h F k0 P_hmp P_hmw (by omega) hS_
  · refine k_223 hS hx0 hmp (by omega) (fun F1 Q1 n1_0 hS1 => ?_)
    refine t_205_132 ?_
    have w8 := r_11_f9 hS1 hx0
    have w9 := r_11_f10 hS1 hx0
    have q8 : (g_223 x0 d) x0 10 = d x0 10 := congrFun (F1 x0 (by omega)) 10
    refine ih123 x1 x2 (x3 + 1) v4 (g_223 x0 d) hS1 (by omega) (by omega) (by omega) (mpP.of (mh_7 hS hx0 _ rfl) (show ∀ i : Int, i = 7 ∨ (12 ≤ i ∧ i < 420 ∧ (i - 12) % 68 = 2) → (g_223 x0 d) (x0 + 1) i = d (x0 + 1) i from fun i hi => Q1 i (by omega)) hmp) (mwP.of (fun i hi => Q1 i (by omega)) hmw) (by omega) (by omega) (by omega) (by omega) ?_
    intro F k0 P_hmp P_hmw n0 hS_
    have y0 : st_205_123 x0 r13 r123 x1 x2 x3 d = r123 x1 x2 (x3 + 1) (g_223 x0 d) := by simp only [st_205_123, if_pos (show x3 < x2 from c0)]
    rw [y0] at h
    exact h (fun b hb => (F b hb).trans ((show ∀ b : Int, (b < x0 ∨ x0 + 1 < b) → (g_223 x0 d) b = d b from fun b hb => F1 b (by omega)) b hb)) (k0.trans (congrFun (F1 x0 (by omega)) 9)) P_hmp P_hmw (by omega) hS_
theorem l_205_123 {E : mO × tW} {K : tK} {x0 : Int} (hx0 : mdB x0) (N13 : Int) (r13 : Int → mD → mD) (ih13 : ∀ (x1 : Int) (v2 v3 v4 : tV) (d : mD), Safe d → (0 ≤ x1 ∧ x1 ≤ 1) → (mpP (d (x0 + 1))) → (mwP (d (x0 + 1))) → (d (x0 + 1) 0 ≤ 999) → 0 ≤ 1000 - d x0 10 + x1 → 1000 - d x0 10 + x1 < N13 → ((∀ b : Int, (b < x0 ∨ x0 + 1 < b) → (r13 x1 d) b = d b) → (r13 x1 d) x0 9 = d x0 9 → mpP ((r13 x1 d) (x0 + 1)) → mwP ((r13 x1 d) (x0 + 1)) → ((r13 x1 d) (x0 + 1) 0 ≤ 999) → Safe (r13 x1 d) → K (.inl none) (r13 x1 d)) → tRun E 205 (13, [.inr (11, x0), .inl (0, x1), v2, v3, v4], [], 0, 0, d) K) : ∀ (n : Nat) (x1 x2 x3 : Int) (v4 : tV) (d : mD), Safe d → (0 ≤ x1 ∧ x1 ≤ 1) → (0 ≤ x3 ∧ x3 ≤ x2 ∧ x2 ≤ 99) → (d (x0 + 1) 0 + (x2 - x3) ≤ 999) → (mpP (d (x0 + 1))) → (mwP (d (x0 + 1))) → (1000 - d x0 10 + 2 ≤ N13) → x2 - x3 ≤ (n : Int) → 1000 - d x0 10 + x1 ≤ N13 → ((∀ b : Int, (b < x0 ∨ x0 + 1 < b) → (lp_205_123 x0 r13 n x1 x2 x3 d) b = d b) → (lp_205_123 x0 r13 n x1 x2 x3 d) x0 9 = d x0 9 → mpP ((lp_205_123 x0 r13 n x1 x2 x3 d) (x0 + 1)) → mwP ((lp_205_123 x0 r13 n x1 x2 x3 d) (x0 + 1)) → ((lp_205_123 x0 r13 n x1 x2 x3 d) (x0 + 1) 0 ≤ 999) → Safe (lp_205_123 x0 r13 n x1 x2 x3 d) → K (.inl none) (lp_205_123 x0 r13 n x1 x2 x3 d)) → tRun E 205 (123, [.inr (11, x0), .inl (0, x1), .inl (0, x2), .inl (0, x3), v4], [], 0, 0, d) K := by
  intro n
  induction n with
  | zero =>
    intro x1 x2 x3 v4 d hS i0 i1 i2 hmp hmw i5 hm m13 h
    exact ls_205_123 hx0 N13 r13 ih13 0 _ (fun _ _ _ _ _ _ _ _ _ _ _ _ _ m0 m1 _ => absurd m1 (by omega)) x1 x2 x3 v4 d hS i0 i1 i2 hmp hmw i5 hm m13 h
  | succ n ih =>
    intro x1 x2 x3 v4 d hS i0 i1 i2 hmp hmw i5 hm m13 h
    exact ls_205_123 hx0 N13 r13 ih13 ((n + 1 : Nat) : Int) _ (fun x1 x2 x3 v4 d hS i0 i1 i2 hmp hmw i5 m13 m0 m1 h => ih x1 x2 x3 v4 d hS i0 i1 i2 hmp hmw i5 (by omega) m13 h) x1 x2 x3 v4 d hS i0 i1 i2 hmp hmw i5 hm m13 h
def st_205_13 (x0 : Int) (r13 : Int → mD → mD) (x1 : Int) (d : mD) : mD := if x1 = 0 then d else if v_194 x0 208022 d = 0 then (if v_194 x0 316189 (g_194 x0 208022 d) = 0 then (if v_194 x0 1831504 (g_194 x0 316189 (g_194 x0 208022 d)) = 0 then (if v_194 x0 9050719969 (g_194 x0 1831504 (g_194 x0 316189 (g_194 x0 208022 d))) = 0 then (if (g_194 x0 9050719969 (g_194 x0 1831504 (g_194 x0 316189 (g_194 x0 208022 d)))) x0 13 = 0 then r13 (miand 0 1) (g_194 x0 9050719969 (g_194 x0 1831504 (g_194 x0 316189 (g_194 x0 208022 d)))) else r13 (miand 0 0) (g_194 x0 9050719969 (g_194 x0 1831504 (g_194 x0 316189 (g_194 x0 208022 d))))) else if (g_199 x0 1 (g_199 x0 0 (g_194 x0 9050719969 (g_194 x0 1831504 (g_194 x0 316189 (g_194 x0 208022 d)))))) x0 13 = 0 then (if v_234 x0 (v_201 x0 (v_199 x0 1 (g_199 x0 0 (g_194 x0 9050719969 (g_194 x0 1831504 (g_194 x0 316189 (g_194 x0 208022 d)))))) (g_199 x0 1 (g_199 x0 0 (g_194 x0 9050719969 (g_194 x0 1831504 (g_194 x0 316189 (g_194 x0 208022 d))))))) (v_199 x0 0 (g_194 x0 9050719969 (g_194 x0 1831504 (g_194 x0 316189 (g_194 x0 208022 d))))) (g_199 x0 1 (g_199 x0 0 (g_194 x0 9050719969 (g_194 x0 1831504 (g_194 x0 316189 (g_194 x0 208022 d)))))) = 0 then (if v_196 x0 1 (g_199 x0 1 (g_199 x0 0 (g_194 x0 9050719969 (g_194 x0 1831504 (g_194 x0 316189 (g_194 x0 208022 d)))))) = 0 then (if (g_196 x0 1 (g_199 x0 1 (g_199 x0 0 (g_194 x0 9050719969 (g_194 x0 1831504 (g_194 x0 316189 (g_194 x0 208022 d))))))) x0 13 = 0 then r13 (miand x1 1) (g_196 x0 1 (g_199 x0 1 (g_199 x0 0 (g_194 x0 9050719969 (g_194 x0 1831504 (g_194 x0 316189 (g_194 x0 208022 d))))))) else r13 (miand x1 0) (g_196 x0 1 (g_199 x0 1 (g_199 x0 0 (g_194 x0 9050719969 (g_194 x0 1831504 (g_194 x0 316189 (g_194 x0 208022 d)))))))) else if (g_196 x0 1 (g_199 x0 1 (g_199 x0 0 (g_194 x0 9050719969 (g_194 x0 1831504 (g_194 x0 316189 (g_194 x0 208022 d))))))) x0 13 = 0 then r13 (miand x1 1) (g_235 x0 (v_201 x0 (v_199 x0 1 (g_199 x0 0 (g_194 x0 9050719969 (g_194 x0 1831504 (g_194 x0 316189 (g_194 x0 208022 d)))))) (g_199 x0 1 (g_199 x0 0 (g_194 x0 9050719969 (g_194 x0 1831504 (g_194 x0 316189 (g_194 x0 208022 d))))))) (v_199 x0 0 (g_194 x0 9050719969 (g_194 x0 1831504 (g_194 x0 316189 (g_194 x0 208022 d))))) (g_196 x0 1 (g_199 x0 1 (g_199 x0 0 (g_194 x0 9050719969 (g_194 x0 1831504 (g_194 x0 316189 (g_194 x0 208022 d)))))))) else r13 (miand x1 0) (g_235 x0 (v_201 x0 (v_199 x0 1 (g_199 x0 0 (g_194 x0 9050719969 (g_194 x0 1831504 (g_194 x0 316189 (g_194 x0 208022 d)))))) (g_199 x0 1 (g_199 x0 0 (g_194 x0 9050719969 (g_194 x0 1831504 (g_194 x0 316189 (g_194 x0 208022 d))))))) (v_199 x0 0 (g_194 x0 9050719969 (g_194 x0 1831504 (g_194 x0 316189 (g_194 x0 208022 d))))) (g_196 x0 1 (g_199 x0 1 (g_199 x0 0 (g_194 x0 9050719969 (g_194 x0 1831504 (g_194 x0 316189 (g_194 x0 208022 d))))))))) else if v_196 x0 0 (g_199 x0 1 (g_199 x0 0 (g_194 x0 9050719969 (g_194 x0 1831504 (g_194 x0 316189 (g_194 x0 208022 d)))))) = 0 then (if (g_196 x0 0 (g_199 x0 1 (g_199 x0 0 (g_194 x0 9050719969 (g_194 x0 1831504 (g_194 x0 316189 (g_194 x0 208022 d))))))) x0 13 = 0 then r13 (miand x1 1) (g_196 x0 0 (g_199 x0 1 (g_199 x0 0 (g_194 x0 9050719969 (g_194 x0 1831504 (g_194 x0 316189 (g_194 x0 208022 d))))))) else r13 (miand x1 0) (g_196 x0 0 (g_199 x0 1 (g_199 x0 0 (g_194 x0 9050719969 (g_194 x0 1831504 (g_194 x0 316189 (g_194 x0 208022 d)))))))) else if (g_196 x0 0 (g_199 x0 1 (g_199 x0 0 (g_194 x0 9050719969 (g_194 x0 1831504 (g_194 x0 316189 (g_194 x0 208022 d))))))) x0 13 = 0 then r13 (miand x1 1) (g_235 x0 (v_201 x0 (v_199 x0 1 (g_199 x0 0 (g_194 x0 9050719969 (g_194 x0 1831504 (g_194 x0 316189 (g_194 x0 208022 d)))))) (g_199 x0 1 (g_199 x0 0 (g_194 x0 9050719969 (g_194 x0 1831504 (g_194 x0 316189 (g_194 x0 208022 d))))))) (v_199 x0 0 (g_194 x0 9050719969 (g_194 x0 1831504 (g_194 x0 316189 (g_194 x0 208022 d))))) (g_196 x0 0 (g_199 x0 1 (g_199 x0 0 (g_194 x0 9050719969 (g_194 x0 1831504 (g_194 x0 316189 (g_194 x0 208022 d)))))))) else r13 (miand x1 0) (g_235 x0 (v_201 x0 (v_199 x0 1 (g_199 x0 0 (g_194 x0 9050719969 (g_194 x0 1831504 (g_194 x0 316189 (g_194 x0 208022 d)))))) (g_199 x0 1 (g_199 x0 0 (g_194 x0 9050719969 (g_194 x0 1831504 (g_194 x0 316189 (g_194 x0 208022 d))))))) (v_199 x0 0 (g_194 x0 9050719969 (g_194 x0 1831504 (g_194 x0 316189 (g_194 x0 208022 d))))) (g_196 x0 0 (g_199 x0 1 (g_199 x0 0 (g_194 x0 9050719969 (g_194 x0 1831504 (g_194 x0 316189 (g_194 x0 208022 d))))))))) else if v_196 x0 0 (g_199 x0 1 (g_199 x0 0 (g_194 x0 9050719969 (g_194 x0 1831504 (g_194 x0 316189 (g_194 x0 208022 d)))))) = 0 then (if (g_196 x0 0 (g_199 x0 1 (g_199 x0 0 (g_194 x0 9050719969 (g_194 x0 1831504 (g_194 x0 316189 (g_194 x0 208022 d))))))) x0 13 = 0 then r13 (miand x1 1) (g_196 x0 0 (g_199 x0 1 (g_199 x0 0 (g_194 x0 9050719969 (g_194 x0 1831504 (g_194 x0 316189 (g_194 x0 208022 d))))))) else r13 (miand x1 0) (g_196 x0 0 (g_199 x0 1 (g_199 x0 0 (g_194 x0 9050719969 (g_194 x0 1831504 (g_194 x0 316189 (g_194 x0 208022 d)))))))) else if (g_196 x0 0 (g_199 x0 1 (g_199 x0 0 (g_194 x0 9050719969 (g_194 x0 1831504 (g_194 x0 316189 (g_194 x0 208022 d))))))) x0 13 = 0 then r13 (miand x1 1) (g_235 x0 (v_201 x0 (v_199 x0 1 (g_199 x0 0 (g_194 x0 9050719969 (g_194 x0 1831504 (g_194 x0 316189 (g_194 x0 208022 d)))))) (g_199 x0 1 (g_199 x0 0 (g_194 x0 9050719969 (g_194 x0 1831504 (g_194 x0 316189 (g_194 x0 208022 d))))))) (v_199 x0 0 (g_194 x0 9050719969 (g_194 x0 1831504 (g_194 x0 316189 (g_194 x0 208022 d))))) (g_196 x0 0 (g_199 x0 1 (g_199 x0 0 (g_194 x0 9050719969 (g_194 x0 1831504 (g_194 x0 316189 (g_194 x0 208022 d)))))))) else r13 (miand x1 0) (g_235 x0 (v_201 x0 (v_199 x0 1 (g_199 x0 0 (g_194 x0 9050719969 (g_194 x0 1831504 (g_194 x0 316189 (g_194 x0 208022 d)))))) (g_199 x0 1 (g_199 x0 0 (g_194 x0 9050719969 (g_194 x0 1831504 (g_194 x0 316189 (g_194 x0 208022 d))))))) (v_199 x0 0 (g_194 x0 9050719969 (g_194 x0 1831504 (g_194 x0 316189 (g_194 x0 208022 d))))) (g_196 x0 0 (g_199 x0 1 (g_199 x0 0 (g_194 x0 9050719969 (g_194 x0 1831504 (g_194 x0 316189 (g_194 x0 208022 d))))))))) else if (g_199 x0 1 (g_194 x0 1831504 (g_194 x0 316189 (g_194 x0 208022 d)))) x0 13 = 0 then (if v_227 x0 (v_201 x0 (v_199 x0 1 (g_194 x0 1831504 (g_194 x0 316189 (g_194 x0 208022 d)))) (g_199 x0 1 (g_194 x0 1831504 (g_194 x0 316189 (g_194 x0 208022 d))))) (g_199 x0 1 (g_194 x0 1831504 (g_194 x0 316189 (g_194 x0 208022 d)))) = 0 then (if v_196 x0 0 (g_199 x0 1 (g_194 x0 1831504 (g_194 x0 316189 (g_194 x0 208022 d)))) = 0 then (if (g_196 x0 0 (g_199 x0 1 (g_194 x0 1831504 (g_194 x0 316189 (g_194 x0 208022 d))))) x0 13 = 0 then r13 (miand x1 1) (g_196 x0 0 (g_199 x0 1 (g_194 x0 1831504 (g_194 x0 316189 (g_194 x0 208022 d))))) else r13 (miand x1 0) (g_196 x0 0 (g_199 x0 1 (g_194 x0 1831504 (g_194 x0 316189 (g_194 x0 208022 d)))))) else if (g_196 x0 0 (g_199 x0 1 (g_194 x0 1831504 (g_194 x0 316189 (g_194 x0 208022 d))))) x0 13 = 0 then r13 (miand x1 1) (g_228 x0 (v_201 x0 (v_199 x0 1 (g_194 x0 1831504 (g_194 x0 316189 (g_194 x0 208022 d)))) (g_199 x0 1 (g_194 x0 1831504 (g_194 x0 316189 (g_194 x0 208022 d))))) (g_196 x0 0 (g_199 x0 1 (g_194 x0 1831504 (g_194 x0 316189 (g_194 x0 208022 d)))))) else r13 (miand x1 0) (g_228 x0 (v_201 x0 (v_199 x0 1 (g_194 x0 1831504 (g_194 x0 316189 (g_194 x0 208022 d)))) (g_199 x0 1 (g_194 x0 1831504 (g_194 x0 316189 (g_194 x0 208022 d))))) (g_196 x0 0 (g_199 x0 1 (g_194 x0 1831504 (g_194 x0 316189 (g_194 x0 208022 d))))))) else if v_196 x0 1 (g_199 x0 1 (g_194 x0 1831504 (g_194 x0 316189 (g_194 x0 208022 d)))) = 0 then (if (g_196 x0 1 (g_199 x0 1 (g_194 x0 1831504 (g_194 x0 316189 (g_194 x0 208022 d))))) x0 13 = 0 then r13 (miand x1 1) (g_196 x0 1 (g_199 x0 1 (g_194 x0 1831504 (g_194 x0 316189 (g_194 x0 208022 d))))) else r13 (miand x1 0) (g_196 x0 1 (g_199 x0 1 (g_194 x0 1831504 (g_194 x0 316189 (g_194 x0 208022 d)))))) else if (g_196 x0 1 (g_199 x0 1 (g_194 x0 1831504 (g_194 x0 316189 (g_194 x0 208022 d))))) x0 13 = 0 then r13 (miand x1 1) (g_228 x0 (v_201 x0 (v_199 x0 1 (g_194 x0 1831504 (g_194 x0 316189 (g_194 x0 208022 d)))) (g_199 x0 1 (g_194 x0 1831504 (g_194 x0 316189 (g_194 x0 208022 d))))) (g_196 x0 1 (g_199 x0 1 (g_194 x0 1831504 (g_194 x0 316189 (g_194 x0 208022 d)))))) else r13 (miand x1 0) (g_228 x0 (v_201 x0 (v_199 x0 1 (g_194 x0 1831504 (g_194 x0 316189 (g_194 x0 208022 d)))) (g_199 x0 1 (g_194 x0 1831504 (g_194 x0 316189 (g_194 x0 208022 d))))) (g_196 x0 1 (g_199 x0 1 (g_194 x0 1831504 (g_194 x0 316189 (g_194 x0 208022 d))))))) else if v_196 x0 0 (g_199 x0 1 (g_194 x0 1831504 (g_194 x0 316189 (g_194 x0 208022 d)))) = 0 then (if (g_196 x0 0 (g_199 x0 1 (g_194 x0 1831504 (g_194 x0 316189 (g_194 x0 208022 d))))) x0 13 = 0 then r13 (miand x1 1) (g_196 x0 0 (g_199 x0 1 (g_194 x0 1831504 (g_194 x0 316189 (g_194 x0 208022 d))))) else r13 (miand x1 0) (g_196 x0 0 (g_199 x0 1 (g_194 x0 1831504 (g_194 x0 316189 (g_194 x0 208022 d)))))) else if (g_196 x0 0 (g_199 x0 1 (g_194 x0 1831504 (g_194 x0 316189 (g_194 x0 208022 d))))) x0 13 = 0 then r13 (miand x1 1) (g_228 x0 (v_201 x0 (v_199 x0 1 (g_194 x0 1831504 (g_194 x0 316189 (g_194 x0 208022 d)))) (g_199 x0 1 (g_194 x0 1831504 (g_194 x0 316189 (g_194 x0 208022 d))))) (g_196 x0 0 (g_199 x0 1 (g_194 x0 1831504 (g_194 x0 316189 (g_194 x0 208022 d)))))) else r13 (miand x1 0) (g_228 x0 (v_201 x0 (v_199 x0 1 (g_194 x0 1831504 (g_194 x0 316189 (g_194 x0 208022 d)))) (g_199 x0 1 (g_194 x0 1831504 (g_194 x0 316189 (g_194 x0 208022 d))))) (g_196 x0 0 (g_199 x0 1 (g_194 x0 1831504 (g_194 x0 316189 (g_194 x0 208022 d))))))) else if (999 : Int) < (d (x0 + 1) 0) + (v_197 x0 1 99 (g_194 x0 316189 (g_194 x0 208022 d))) then (if v_196 x0 0 (g_197 x0 1 99 (g_194 x0 316189 (g_194 x0 208022 d))) = 0 then (if (g_196 x0 0 (g_197 x0 1 99 (g_194 x0 316189 (g_194 x0 208022 d)))) x0 13 = 0 then r13 (miand x1 1) (g_196 x0 0 (g_197 x0 1 99 (g_194 x0 316189 (g_194 x0 208022 d)))) else r13 (miand x1 0) (g_196 x0 0 (g_197 x0 1 99 (g_194 x0 316189 (g_194 x0 208022 d))))) else lp_205_123 x0 r13 ((v_197 x0 1 99 (g_194 x0 316189 (g_194 x0 208022 d))) - 0 : Int).toNat x1 (v_197 x0 1 99 (g_194 x0 316189 (g_194 x0 208022 d))) 0 (g_196 x0 0 (g_197 x0 1 99 (g_194 x0 316189 (g_194 x0 208022 d))))) else if v_196 x0 1 (g_197 x0 1 99 (g_194 x0 316189 (g_194 x0 208022 d))) = 0 then (if (g_196 x0 1 (g_197 x0 1 99 (g_194 x0 316189 (g_194 x0 208022 d)))) x0 13 = 0 then r13 (miand x1 1) (g_196 x0 1 (g_197 x0 1 99 (g_194 x0 316189 (g_194 x0 208022 d)))) else r13 (miand x1 0) (g_196 x0 1 (g_197 x0 1 99 (g_194 x0 316189 (g_194 x0 208022 d))))) else lp_205_123 x0 r13 ((v_197 x0 1 99 (g_194 x0 316189 (g_194 x0 208022 d))) - 0 : Int).toNat x1 (v_197 x0 1 99 (g_194 x0 316189 (g_194 x0 208022 d))) 0 (g_196 x0 1 (g_197 x0 1 99 (g_194 x0 316189 (g_194 x0 208022 d))))) else if (g_200 x0 (g_199 x0 0 (g_194 x0 208022 d))) x0 13 = 0 then (if v_225 x0 (v_199 x0 0 (g_194 x0 208022 d)) (v_200 x0 (g_199 x0 0 (g_194 x0 208022 d))) (g_200 x0 (g_199 x0 0 (g_194 x0 208022 d))) = 0 then (if v_196 x0 0 (g_200 x0 (g_199 x0 0 (g_194 x0 208022 d))) = 0 then (if (g_196 x0 0 (g_200 x0 (g_199 x0 0 (g_194 x0 208022 d)))) x0 13 = 0 then r13 (miand x1 1) (g_196 x0 0 (g_200 x0 (g_199 x0 0 (g_194 x0 208022 d)))) else r13 (miand x1 0) (g_196 x0 0 (g_200 x0 (g_199 x0 0 (g_194 x0 208022 d))))) else if (g_196 x0 0 (g_200 x0 (g_199 x0 0 (g_194 x0 208022 d)))) x0 13 = 0 then r13 (miand x1 1) (g_226 x0 (v_199 x0 0 (g_194 x0 208022 d)) (v_200 x0 (g_199 x0 0 (g_194 x0 208022 d))) (g_196 x0 0 (g_200 x0 (g_199 x0 0 (g_194 x0 208022 d))))) else r13 (miand x1 0) (g_226 x0 (v_199 x0 0 (g_194 x0 208022 d)) (v_200 x0 (g_199 x0 0 (g_194 x0 208022 d))) (g_196 x0 0 (g_200 x0 (g_199 x0 0 (g_194 x0 208022 d)))))) else if v_196 x0 1 (g_200 x0 (g_199 x0 0 (g_194 x0 208022 d))) = 0 then (if (g_196 x0 1 (g_200 x0 (g_199 x0 0 (g_194 x0 208022 d)))) x0 13 = 0 then r13 (miand x1 1) (g_196 x0 1 (g_200 x0 (g_199 x0 0 (g_194 x0 208022 d)))) else r13 (miand x1 0) (g_196 x0 1 (g_200 x0 (g_199 x0 0 (g_194 x0 208022 d))))) else if (g_196 x0 1 (g_200 x0 (g_199 x0 0 (g_194 x0 208022 d)))) x0 13 = 0 then r13 (miand x1 1) (g_226 x0 (v_199 x0 0 (g_194 x0 208022 d)) (v_200 x0 (g_199 x0 0 (g_194 x0 208022 d))) (g_196 x0 1 (g_200 x0 (g_199 x0 0 (g_194 x0 208022 d))))) else r13 (miand x1 0) (g_226 x0 (v_199 x0 0 (g_194 x0 208022 d)) (v_200 x0 (g_199 x0 0 (g_194 x0 208022 d))) (g_196 x0 1 (g_200 x0 (g_199 x0 0 (g_194 x0 208022 d)))))) else if v_196 x0 0 (g_200 x0 (g_199 x0 0 (g_194 x0 208022 d))) = 0 then (if (g_196 x0 0 (g_200 x0 (g_199 x0 0 (g_194 x0 208022 d)))) x0 13 = 0 then r13 (miand x1 1) (g_196 x0 0 (g_200 x0 (g_199 x0 0 (g_194 x0 208022 d)))) else r13 (miand x1 0) (g_196 x0 0 (g_200 x0 (g_199 x0 0 (g_194 x0 208022 d))))) else if (g_196 x0 0 (g_200 x0 (g_199 x0 0 (g_194 x0 208022 d)))) x0 13 = 0 then r13 (miand x1 1) (g_226 x0 (v_199 x0 0 (g_194 x0 208022 d)) (v_200 x0 (g_199 x0 0 (g_194 x0 208022 d))) (g_196 x0 0 (g_200 x0 (g_199 x0 0 (g_194 x0 208022 d))))) else r13 (miand x1 0) (g_226 x0 (v_199 x0 0 (g_194 x0 208022 d)) (v_200 x0 (g_199 x0 0 (g_194 x0 208022 d))) (g_196 x0 0 (g_200 x0 (g_199 x0 0 (g_194 x0 208022 d)))))
def lp_205_13 (x0 : Int) : Nat → Int → mD → mD
  | 0 => st_205_13 x0 (fun _ d => d)
  | n + 1 => st_205_13 x0 (lp_205_13 x0 n)
theorem ls_205_13 {E : mO × tW} {K : tK} {x0 : Int} (hx0 : mdB x0) (N13 : Int) (r13 : Int → mD → mD) (ih13 : ∀ (x1 : Int) (v2 v3 v4 : tV) (d : mD), Safe d → (0 ≤ x1 ∧ x1 ≤ 1) → (mpP (d (x0 + 1))) → (mwP (d (x0 + 1))) → (d (x0 + 1) 0 ≤ 999) → 0 ≤ 1000 - d x0 10 + x1 → 1000 - d x0 10 + x1 < N13 → ((∀ b : Int, (b < x0 ∨ x0 + 1 < b) → (r13 x1 d) b = d b) → (r13 x1 d) x0 9 = d x0 9 → mpP ((r13 x1 d) (x0 + 1)) → mwP ((r13 x1 d) (x0 + 1)) → ((r13 x1 d) (x0 + 1) 0 ≤ 999) → Safe (r13 x1 d) → K (.inl none) (r13 x1 d)) → tRun E 205 (13, [.inr (11, x0), .inl (0, x1), v2, v3, v4], [], 0, 0, d) K) (x1 : Int) (v2 v3 v4 : tV) (d : mD) (hS : Safe d) (i0 : 0 ≤ x1 ∧ x1 ≤ 1) (hmp : mpP (d (x0 + 1))) (hmw : mwP (d (x0 + 1))) (i3 : d (x0 + 1) 0 ≤ 999) (hm : 1000 - d x0 10 + x1 ≤ N13) (h : (∀ b : Int, (b < x0 ∨ x0 + 1 < b) → (st_205_13 x0 r13 x1 d) b = d b) → (st_205_13 x0 r13 x1 d) x0 9 = d x0 9 → mpP ((st_205_13 x0 r13 x1 d) (x0 + 1)) → mwP ((st_205_13 x0 r13 x1 d) (x0 + 1)) → ((st_205_13 x0 r13 x1 d) (x0 + 1) 0 ≤ 999) → Safe (st_205_13 x0 r13 x1 d) → K (.inl none) (st_205_13 x0 r13 x1 d)) : tRun E 205 (13, [.inr (11, x0), .inl (0, x1), v2, v3, v4], [], 0, 0, d) K := by
  refine t_205_13 ?_
  have w8 := r_11_f9 hS hx0
  have w9 := r_11_f10 hS hx0
  refine ⟨m_inR (by omega) (by omega), fun c0 => ?_, fun c0 => ?_⟩
  · have y0 : st_205_13 x0 r13 x1 d = d := by simp only [st_205_13, if_pos (show x1 = 0 from c0)]
    rw [y0] at h
    exact h (show ∀ b : Int, (b < x0 ∨ x0 + 1 < b) → d b = d b from fun _ _ => rfl) (show d x0 9 = d x0 9 from rfl) hmp hmw (show d (x0 + 1) 0 ≤ 999 by omega) hS
  · refine k_194 hS hx0 (by omega) (fun e1 F2 k2_0 n2_0 n2_1 n2_2 hS2 => ?_)
    refine t_205_24 ?_
    have w8 := r_11_f9 hS2 hx0
    have w9 := r_11_f10 hS2 hx0
    refine ⟨m_inR (by omega) (by omega), fun c1 => ?_, fun c1 => ?_⟩
    · refine k_194 hS2 hx0 (by omega) (fun e2 F3 k3_0 n3_0 n3_1 n3_2 hS3 => ?_)
      refine t_205_84 ?_
      have w8 := r_11_f9 hS3 hx0
      have w9 := r_11_f10 hS3 hx0
      refine ⟨m_inR (by omega) (by omega), fun c2 => ?_, fun c2 => ?_⟩
      · refine k_194 hS3 hx0 (by omega) (fun e3 F4 k4_0 n4_0 n4_1 n4_2 hS4 => ?_)
        refine t_205_148 ?_
        have w8 := r_11_f9 hS4 hx0
        have w9 := r_11_f10 hS4 hx0
        refine ⟨m_inR (by omega) (by omega), fun c3 => ?_, fun c3 => ?_⟩
        · refine k_194 hS4 hx0 (by omega) (fun e4 F5 k5_0 n5_0 n5_1 n5_2 hS5 => ?_)
          refine t_205_204 ?_
          have w8 := r_11_f9 hS5 hx0
          have w9 := r_11_f10 hS5 hx0
          refine ⟨m_inR (by omega) (by omega), fun c4 => ?_, fun c4 => ?_⟩
          · have q9 := r_11_f13 hS5 hx0
            refine ⟨m_inR (by omega) (by omega), fun c5 => ?_, fun c5 => ?_⟩
            · have q10 := miand_r ((0 : Int)) 0 (by decide) (by decide)
              have q11 := mbool 0
              have q12 := r_11_f10 hS5 hx0
              have q13 : (g_194 x0 9050719969 (g_194 x0 1831504 (g_194 x0 316189 (g_194 x0 208022 d)))) (x0 + 1) 0 = d (x0 + 1) 0 := (((congrFun (F5 (x0 + 1) (by omega)) 0).trans (congrFun (F4 (x0 + 1) (by omega)) 0)).trans (congrFun (F3 (x0 + 1) (by omega)) 0)).trans (congrFun (F2 (x0 + 1) (by omega)) 0)
              refine ih13 (miand 0 0) v2 v3 v4 (g_194 x0 9050719969 (g_194 x0 1831504 (g_194 x0 316189 (g_194 x0 208022 d)))) hS5 (by omega) (mpP.of (mh_7 hS hx0 _ rfl) (show ∀ i : Int, i = 7 ∨ (12 ≤ i ∧ i < 420 ∧ (i - 12) % 68 = 2) → (g_194 x0 9050719969 (g_194 x0 1831504 (g_194 x0 316189 (g_194 x0 208022 d)))) (x0 + 1) i = d (x0 + 1) i from fun i hi => (((congrFun (F5 (x0 + 1) (by omega)) i).trans (congrFun (F4 (x0 + 1) (by omega)) i)).trans (congrFun (F3 (x0 + 1) (by omega)) i)).trans (congrFun (F2 (x0 + 1) (by omega)) i)) hmp) (mwP.eq (F5 (x0 + 1) (by omega)) (mwP.eq (F4 (x0 + 1) (by omega)) (mwP.eq (F3 (x0 + 1) (by omega)) (mwP.eq (F2 (x0 + 1) (by omega)) hmw)))) (by omega) (by omega) (by omega) ?_
              intro F k0 P_hmp P_hmw n0 hS_
              have y0 : st_205_13 x0 r13 x1 d = r13 (miand 0 0) (g_194 x0 9050719969 (g_194 x0 1831504 (g_194 x0 316189 (g_194 x0 208022 d)))) := by simp only [st_205_13, if_neg (show ¬ x1 = 0 from c0), if_pos (show v_194 x0 208022 d = 0 from c1), if_pos (show v_194 x0 316189 (g_194 x0 208022 d) = 0 from c2), if_pos (show v_194 x0 1831504 (g_194 x0 316189 (g_194 x0 208022 d)) = 0 from c3), if_pos (show v_194 x0 9050719969 (g_194 x0 1831504 (g_194 x0 316189 (g_194 x0 208022 d))) = 0 from c4), if_neg (show ¬ (g_194 x0 9050719969 (g_194 x0 1831504 (g_194 x0 316189 (g_194 x0 208022 d)))) x0 13 = 0 from c5)]
              rw [y0] at h
              exact h (fun b hb => (F b hb).trans ((show ∀ b : Int, (b < x0 ∨ x0 + 1 < b) → (g_194 x0 9050719969 (g_194 x0 1831504 (g_194 x0 316189 (g_194 x0 208022 d)))) b = d b from fun b hb => (F5 b (by omega)).trans ((F4 b (by omega)).trans ((F3 b (by omega)).trans (F2 b (by omega))))) b hb)) (k0.trans ((((k5_0).trans (k4_0)).trans (k3_0)).trans (k2_0))) P_hmp P_hmw (by omega) hS_
            · have q14 := miand_r ((0 : Int)) 1 (by decide) (by decide)
              have q15 := mbool 0
              have q16 := r_11_f10 hS5 hx0
              have q17 : (g_194 x0 9050719969 (g_194 x0 1831504 (g_194 x0 316189 (g_194 x0 208022 d)))) (x0 + 1) 0 = d (x0 + 1) 0 := (((congrFun (F5 (x0 + 1) (by omega)) 0).trans (congrFun (F4 (x0 + 1) (by omega)) 0)).trans (congrFun (F3 (x0 + 1) (by omega)) 0)).trans (congrFun (F2 (x0 + 1) (by omega)) 0)
              refine ih13 (miand 0 1) v2 v3 v4 (g_194 x0 9050719969 (g_194 x0 1831504 (g_194 x0 316189 (g_194 x0 208022 d)))) hS5 (by omega) (mpP.of (mh_7 hS hx0 _ rfl) (show ∀ i : Int, i = 7 ∨ (12 ≤ i ∧ i < 420 ∧ (i - 12) % 68 = 2) → (g_194 x0 9050719969 (g_194 x0 1831504 (g_194 x0 316189 (g_194 x0 208022 d)))) (x0 + 1) i = d (x0 + 1) i from fun i hi => (((congrFun (F5 (x0 + 1) (by omega)) i).trans (congrFun (F4 (x0 + 1) (by omega)) i)).trans (congrFun (F3 (x0 + 1) (by omega)) i)).trans (congrFun (F2 (x0 + 1) (by omega)) i)) hmp) (mwP.eq (F5 (x0 + 1) (by omega)) (mwP.eq (F4 (x0 + 1) (by omega)) (mwP.eq (F3 (x0 + 1) (by omega)) (mwP.eq (F2 (x0 + 1) (by omega)) hmw)))) (by omega) (by omega) (by omega) ?_
              intro F k0 P_hmp P_hmw n0 hS_
              have y0 : st_205_13 x0 r13 x1 d = r13 (miand 0 1) (g_194 x0 9050719969 (g_194 x0 1831504 (g_194 x0 316189 (g_194 x0 208022 d)))) := by simp only [st_205_13, if_neg (show ¬ x1 = 0 from c0), if_pos (show v_194 x0 208022 d = 0 from c1), if_pos (show v_194 x0 316189 (g_194 x0 208022 d) = 0 from c2), if_pos (show v_194 x0 1831504 (g_194 x0 316189 (g_194 x0 208022 d)) = 0 from c3), if_pos (show v_194 x0 9050719969 (g_194 x0 1831504 (g_194 x0 316189 (g_194 x0 208022 d))) = 0 from c4), if_pos (show (g_194 x0 9050719969 (g_194 x0 1831504 (g_194 x0 316189 (g_194 x0 208022 d)))) x0 13 = 0 from c5)]
              rw [y0] at h
              exact h (fun b hb => (F b hb).trans ((show ∀ b : Int, (b < x0 ∨ x0 + 1 < b) → (g_194 x0 9050719969 (g_194 x0 1831504 (g_194 x0 316189 (g_194 x0 208022 d)))) b = d b from fun b hb => (F5 b (by omega)).trans ((F4 b (by omega)).trans ((F3 b (by omega)).trans (F2 b (by omega))))) b hb)) (k0.trans ((((k5_0).trans (k4_0)).trans (k3_0)).trans (k2_0))) P_hmp P_hmw (by omega) hS_
          · refine k_199 hS5 hx0 (by omega) (fun e5 F6 k6_0 n6_0 n6_1 n6_2 hS6 => ?_)
            refine t_205_212 ?_
            have w8 := r_11_f9 hS6 hx0
            have w9 := r_11_f10 hS6 hx0
            refine k_199 hS6 hx0 (by omega) (fun e6 F7 k7_0 n7_0 n7_1 n7_2 hS7 => ?_)
            refine t_205_219 ?_
            have w8 := r_11_f9 hS7 hx0
            have w9 := r_11_f10 hS7 hx0
            refine k_201 hS7 hx0 (m_inR (by omega) (by omega)) (fun e7 => ?_)
            refine t_205_222 ?_
            have w8 := r_11_f9 hS7 hx0
            have w9 := r_11_f10 hS7 hx0
            have q18 := r_11_f13 hS7 hx0
            refine ⟨m_inR (by omega) (by omega), fun c5 => ?_, fun c5 => ?_⟩
            · refine k_196 hS7 hx0 (by omega) (fun e8 F8 k8_0 n8_0 n8_1 n8_2 hS8 => ?_)
              refine t_205_248 ?_
              have w8 := r_11_f9 hS8 hx0
              have w9 := r_11_f10 hS8 hx0
              refine ⟨m_inR (by omega) (by omega), fun c6 => ?_, fun c6 => ?_⟩
              · have q19 := r_11_f13 hS8 hx0
                refine ⟨m_inR (by omega) (by omega), fun c7 => ?_, fun c7 => ?_⟩
                · have q20 := miand_r x1 0 (by decide) (by decide)
                  have q21 := mbool x1
                  have q22 := r_11_f10 hS8 hx0
                  have q23 : (g_196 x0 0 (g_199 x0 1 (g_199 x0 0 (g_194 x0 9050719969 (g_194 x0 1831504 (g_194 x0 316189 (g_194 x0 208022 d))))))) (x0 + 1) 0 = d (x0 + 1) 0 := ((((((congrFun (F8 (x0 + 1) (by omega)) 0).trans (congrFun (F7 (x0 + 1) (by omega)) 0)).trans (congrFun (F6 (x0 + 1) (by omega)) 0)).trans (congrFun (F5 (x0 + 1) (by omega)) 0)).trans (congrFun (F4 (x0 + 1) (by omega)) 0)).trans (congrFun (F3 (x0 + 1) (by omega)) 0)).trans (congrFun (F2 (x0 + 1) (by omega)) 0)
                  refine ih13 (miand x1 0) (.inl (0, v_199 x0 0 (g_194 x0 9050719969 (g_194 x0 1831504 (g_194 x0 316189 (g_194 x0 208022 d)))))) (.inl (0, v_201 x0 (v_199 x0 1 (g_199 x0 0 (g_194 x0 9050719969 (g_194 x0 1831504 (g_194 x0 316189 (g_194 x0 208022 d)))))) (g_199 x0 1 (g_199 x0 0 (g_194 x0 9050719969 (g_194 x0 1831504 (g_194 x0 316189 (g_194 x0 208022 d)))))))) v4 (g_196 x0 0 (g_199 x0 1 (g_199 x0 0 (g_194 x0 9050719969 (g_194 x0 1831504 (g_194 x0 316189 (g_194 x0 208022 d))))))) hS8 (by omega) (mpP.of (mh_7 hS hx0 _ rfl) (show ∀ i : Int, i = 7 ∨ (12 ≤ i ∧ i < 420 ∧ (i - 12) % 68 = 2) → (g_196 x0 0 (g_199 x0 1 (g_199 x0 0 (g_194 x0 9050719969 (g_194 x0 1831504 (g_194 x0 316189 (g_194 x0 208022 d))))))) (x0 + 1) i = d (x0 + 1) i from fun i hi => ((((((congrFun (F8 (x0 + 1) (by omega)) i).trans (congrFun (F7 (x0 + 1) (by omega)) i)).trans (congrFun (F6 (x0 + 1) (by omega)) i)).trans (congrFun (F5 (x0 + 1) (by omega)) i)).trans (congrFun (F4 (x0 + 1) (by omega)) i)).trans (congrFun (F3 (x0 + 1) (by omega)) i)).trans (congrFun (F2 (x0 + 1) (by omega)) i)) hmp) (mwP.eq (F8 (x0 + 1) (by omega)) (mwP.eq (F7 (x0 + 1) (by omega)) (mwP.eq (F6 (x0 + 1) (by omega)) (mwP.eq (F5 (x0 + 1) (by omega)) (mwP.eq (F4 (x0 + 1) (by omega)) (mwP.eq (F3 (x0 + 1) (by omega)) (mwP.eq (F2 (x0 + 1) (by omega)) hmw))))))) (by omega) (by omega) (by omega) ?_
                  intro F k0 P_hmp P_hmw n0 hS_
                  have y0 : st_205_13 x0 r13 x1 d = r13 (miand x1 0) (g_196 x0 0 (g_199 x0 1 (g_199 x0 0 (g_194 x0 9050719969 (g_194 x0 1831504 (g_194 x0 316189 (g_194 x0 208022 d))))))) := by simp only [st_205_13, if_neg (show ¬ x1 = 0 from c0), if_pos (show v_194 x0 208022 d = 0 from c1), if_pos (show v_194 x0 316189 (g_194 x0 208022 d) = 0 from c2), if_pos (show v_194 x0 1831504 (g_194 x0 316189 (g_194 x0 208022 d)) = 0 from c3), if_neg (show ¬ v_194 x0 9050719969 (g_194 x0 1831504 (g_194 x0 316189 (g_194 x0 208022 d))) = 0 from c4), if_neg (show ¬ (g_199 x0 1 (g_199 x0 0 (g_194 x0 9050719969 (g_194 x0 1831504 (g_194 x0 316189 (g_194 x0 208022 d)))))) x0 13 = 0 from c5), if_pos (show v_196 x0 0 (g_199 x0 1 (g_199 x0 0 (g_194 x0 9050719969 (g_194 x0 1831504 (g_194 x0 316189 (g_194 x0 208022 d)))))) = 0 from c6), if_neg (show ¬ (g_196 x0 0 (g_199 x0 1 (g_199 x0 0 (g_194 x0 9050719969 (g_194 x0 1831504 (g_194 x0 316189 (g_194 x0 208022 d))))))) x0 13 = 0 from c7)]
                  rw [y0] at h
                  exact h (fun b hb => (F b hb).trans ((show ∀ b : Int, (b < x0 ∨ x0 + 1 < b) → (g_196 x0 0 (g_199 x0 1 (g_199 x0 0 (g_194 x0 9050719969 (g_194 x0 1831504 (g_194 x0 316189 (g_194 x0 208022 d))))))) b = d b from fun b hb => (F8 b (by omega)).trans ((F7 b (by omega)).trans ((F6 b (by omega)).trans ((F5 b (by omega)).trans ((F4 b (by omega)).trans ((F3 b (by omega)).trans (F2 b (by omega)))))))) b hb)) (k0.trans (((((((k8_0).trans (k7_0)).trans (k6_0)).trans (k5_0)).trans (k4_0)).trans (k3_0)).trans (k2_0))) P_hmp P_hmw (by omega) hS_
                · have q24 := miand_r x1 1 (by decide) (by decide)
                  have q25 := mbool x1
                  have q26 := r_11_f10 hS8 hx0
                  have q27 : (g_196 x0 0 (g_199 x0 1 (g_199 x0 0 (g_194 x0 9050719969 (g_194 x0 1831504 (g_194 x0 316189 (g_194 x0 208022 d))))))) (x0 + 1) 0 = d (x0 + 1) 0 := ((((((congrFun (F8 (x0 + 1) (by omega)) 0).trans (congrFun (F7 (x0 + 1) (by omega)) 0)).trans (congrFun (F6 (x0 + 1) (by omega)) 0)).trans (congrFun (F5 (x0 + 1) (by omega)) 0)).trans (congrFun (F4 (x0 + 1) (by omega)) 0)).trans (congrFun (F3 (x0 + 1) (by omega)) 0)).trans (congrFun (F2 (x0 + 1) (by omega)) 0)
                  refine ih13 (miand x1 1) (.inl (0, v_199 x0 0 (g_194 x0 9050719969 (g_194 x0 1831504 (g_194 x0 316189 (g_194 x0 208022 d)))))) (.inl (0, v_201 x0 (v_199 x0 1 (g_199 x0 0 (g_194 x0 9050719969 (g_194 x0 1831504 (g_194 x0 316189 (g_194 x0 208022 d)))))) (g_199 x0 1 (g_199 x0 0 (g_194 x0 9050719969 (g_194 x0 1831504 (g_194 x0 316189 (g_194 x0 208022 d)))))))) v4 (g_196 x0 0 (g_199 x0 1 (g_199 x0 0 (g_194 x0 9050719969 (g_194 x0 1831504 (g_194 x0 316189 (g_194 x0 208022 d))))))) hS8 (by omega) (mpP.of (mh_7 hS hx0 _ rfl) (show ∀ i : Int, i = 7 ∨ (12 ≤ i ∧ i < 420 ∧ (i - 12) % 68 = 2) → (g_196 x0 0 (g_199 x0 1 (g_199 x0 0 (g_194 x0 9050719969 (g_194 x0 1831504 (g_194 x0 316189 (g_194 x0 208022 d))))))) (x0 + 1) i = d (x0 + 1) i from fun i hi => ((((((congrFun (F8 (x0 + 1) (by omega)) i).trans (congrFun (F7 (x0 + 1) (by omega)) i)).trans (congrFun (F6 (x0 + 1) (by omega)) i)).trans (congrFun (F5 (x0 + 1) (by omega)) i)).trans (congrFun (F4 (x0 + 1) (by omega)) i)).trans (congrFun (F3 (x0 + 1) (by omega)) i)).trans (congrFun (F2 (x0 + 1) (by omega)) i)) hmp) (mwP.eq (F8 (x0 + 1) (by omega)) (mwP.eq (F7 (x0 + 1) (by omega)) (mwP.eq (F6 (x0 + 1) (by omega)) (mwP.eq (F5 (x0 + 1) (by omega)) (mwP.eq (F4 (x0 + 1) (by omega)) (mwP.eq (F3 (x0 + 1) (by omega)) (mwP.eq (F2 (x0 + 1) (by omega)) hmw))))))) (by omega) (by omega) (by omega) ?_
                  intro F k0 P_hmp P_hmw n0 hS_
                  have y0 : st_205_13 x0 r13 x1 d = r13 (miand x1 1) (g_196 x0 0 (g_199 x0 1 (g_199 x0 0 (g_194 x0 9050719969 (g_194 x0 1831504 (g_194 x0 316189 (g_194 x0 208022 d))))))) := by simp only [st_205_13, if_neg (show ¬ x1 = 0 from c0), if_pos (show v_194 x0 208022 d = 0 from c1), if_pos (show v_194 x0 316189 (g_194 x0 208022 d) = 0 from c2), if_pos (show v_194 x0 1831504 (g_194 x0 316189 (g_194 x0 208022 d)) = 0 from c3), if_neg (show ¬ v_194 x0 9050719969 (g_194 x0 1831504 (g_194 x0 316189 (g_194 x0 208022 d))) = 0 from c4), if_neg (show ¬ (g_199 x0 1 (g_199 x0 0 (g_194 x0 9050719969 (g_194 x0 1831504 (g_194 x0 316189 (g_194 x0 208022 d)))))) x0 13 = 0 from c5), if_pos (show v_196 x0 0 (g_199 x0 1 (g_199 x0 0 (g_194 x0 9050719969 (g_194 x0 1831504 (g_194 x0 316189 (g_194 x0 208022 d)))))) = 0 from c6), if_pos (show (g_196 x0 0 (g_199 x0 1 (g_199 x0 0 (g_194 x0 9050719969 (g_194 x0 1831504 (g_194 x0 316189 (g_194 x0 208022 d))))))) x0 13 = 0 from c7)]
                  rw [y0] at h
                  exact h (fun b hb => (F b hb).trans ((show ∀ b : Int, (b < x0 ∨ x0 + 1 < b) → (g_196 x0 0 (g_199 x0 1 (g_199 x0 0 (g_194 x0 9050719969 (g_194 x0 1831504 (g_194 x0 316189 (g_194 x0 208022 d))))))) b = d b from fun b hb => (F8 b (by omega)).trans ((F7 b (by omega)).trans ((F6 b (by omega)).trans ((F5 b (by omega)).trans ((F4 b (by omega)).trans ((F3 b (by omega)).trans (F2 b (by omega)))))))) b hb)) (k0.trans (((((((k8_0).trans (k7_0)).trans (k6_0)).trans (k5_0)).trans (k4_0)).trans (k3_0)).trans (k2_0))) P_hmp P_hmw (by omega) hS_
              · have q28 : (g_196 x0 0 (g_199 x0 1 (g_199 x0 0 (g_194 x0 9050719969 (g_194 x0 1831504 (g_194 x0 316189 (g_194 x0 208022 d))))))) (x0 + 1) (452 + 24 * v_201 x0 (v_199 x0 1 (g_199 x0 0 (g_194 x0 9050719969 (g_194 x0 1831504 (g_194 x0 316189 (g_194 x0 208022 d)))))) (g_199 x0 1 (g_199 x0 0 (g_194 x0 9050719969 (g_194 x0 1831504 (g_194 x0 316189 (g_194 x0 208022 d)))))) + 6) = d (x0 + 1) (452 + 24 * v_201 x0 (v_199 x0 1 (g_199 x0 0 (g_194 x0 9050719969 (g_194 x0 1831504 (g_194 x0 316189 (g_194 x0 208022 d)))))) (g_199 x0 1 (g_199 x0 0 (g_194 x0 9050719969 (g_194 x0 1831504 (g_194 x0 316189 (g_194 x0 208022 d)))))) + 6) := ((((((congrFun (F8 (x0 + 1) (by omega)) (452 + 24 * v_201 x0 (v_199 x0 1 (g_199 x0 0 (g_194 x0 9050719969 (g_194 x0 1831504 (g_194 x0 316189 (g_194 x0 208022 d)))))) (g_199 x0 1 (g_199 x0 0 (g_194 x0 9050719969 (g_194 x0 1831504 (g_194 x0 316189 (g_194 x0 208022 d)))))) + 6)).trans (congrFun (F7 (x0 + 1) (by omega)) (452 + 24 * v_201 x0 (v_199 x0 1 (g_199 x0 0 (g_194 x0 9050719969 (g_194 x0 1831504 (g_194 x0 316189 (g_194 x0 208022 d)))))) (g_199 x0 1 (g_199 x0 0 (g_194 x0 9050719969 (g_194 x0 1831504 (g_194 x0 316189 (g_194 x0 208022 d)))))) + 6))).trans (congrFun (F6 (x0 + 1) (by omega)) (452 + 24 * v_201 x0 (v_199 x0 1 (g_199 x0 0 (g_194 x0 9050719969 (g_194 x0 1831504 (g_194 x0 316189 (g_194 x0 208022 d)))))) (g_199 x0 1 (g_199 x0 0 (g_194 x0 9050719969 (g_194 x0 1831504 (g_194 x0 316189 (g_194 x0 208022 d)))))) + 6))).trans (congrFun (F5 (x0 + 1) (by omega)) (452 + 24 * v_201 x0 (v_199 x0 1 (g_199 x0 0 (g_194 x0 9050719969 (g_194 x0 1831504 (g_194 x0 316189 (g_194 x0 208022 d)))))) (g_199 x0 1 (g_199 x0 0 (g_194 x0 9050719969 (g_194 x0 1831504 (g_194 x0 316189 (g_194 x0 208022 d)))))) + 6))).trans (congrFun (F4 (x0 + 1) (by omega)) (452 + 24 * v_201 x0 (v_199 x0 1 (g_199 x0 0 (g_194 x0 9050719969 (g_194 x0 1831504 (g_194 x0 316189 (g_194 x0 208022 d)))))) (g_199 x0 1 (g_199 x0 0 (g_194 x0 9050719969 (g_194 x0 1831504 (g_194 x0 316189 (g_194 x0 208022 d)))))) + 6))).trans (congrFun (F3 (x0 + 1) (by omega)) (452 + 24 * v_201 x0 (v_199 x0 1 (g_199 x0 0 (g_194 x0 9050719969 (g_194 x0 1831504 (g_194 x0 316189 (g_194 x0 208022 d)))))) (g_199 x0 1 (g_199 x0 0 (g_194 x0 9050719969 (g_194 x0 1831504 (g_194 x0 316189 (g_194 x0 208022 d)))))) + 6))).trans (congrFun (F2 (x0 + 1) (by omega)) (452 + 24 * v_201 x0 (v_199 x0 1 (g_199 x0 0 (g_194 x0 9050719969 (g_194 x0 1831504 (g_194 x0 316189 (g_194 x0 208022 d)))))) (g_199 x0 1 (g_199 x0 0 (g_194 x0 9050719969 (g_194 x0 1831504 (g_194 x0 316189 (g_194 x0 208022 d)))))) + 6))
                refine k_235 hS8 hx0 (by omega) (by omega) (mpP.of (mh_7 hS hx0 _ rfl) (show ∀ i : Int, i = 7 ∨ (12 ≤ i ∧ i < 420 ∧ (i - 12) % 68 = 2) → (g_196 x0 0 (g_199 x0 1 (g_199 x0 0 (g_194 x0 9050719969 (g_194 x0 1831504 (g_194 x0 316189 (g_194 x0 208022 d))))))) (x0 + 1) i = d (x0 + 1) i from fun i hi => ((((((congrFun (F8 (x0 + 1) (by omega)) i).trans (congrFun (F7 (x0 + 1) (by omega)) i)).trans (congrFun (F6 (x0 + 1) (by omega)) i)).trans (congrFun (F5 (x0 + 1) (by omega)) i)).trans (congrFun (F4 (x0 + 1) (by omega)) i)).trans (congrFun (F3 (x0 + 1) (by omega)) i)).trans (congrFun (F2 (x0 + 1) (by omega)) i)) hmp) (mwP.eq (F8 (x0 + 1) (by omega)) (mwP.eq (F7 (x0 + 1) (by omega)) (mwP.eq (F6 (x0 + 1) (by omega)) (mwP.eq (F5 (x0 + 1) (by omega)) (mwP.eq (F4 (x0 + 1) (by omega)) (mwP.eq (F3 (x0 + 1) (by omega)) (mwP.eq (F2 (x0 + 1) (by omega)) hmw))))))) (by omega) (fun e9 F9 Q9 P9hmp P9hmw hS9 => ?_)
                refine t_205_257 ?_
                have w8 := r_11_f9 hS9 hx0
                have w9 := r_11_f10 hS9 hx0
                rw [F9 x0 (by omega)]
                have q29 := r_11_f13 hS8 hx0
                refine ⟨m_inR (by omega) (by omega), fun c7 => ?_, fun c7 => ?_⟩
                · have q30 := miand_r x1 0 (by decide) (by decide)
                  have q31 := mbool x1
                  have q32 := r_11_f10 hS9 hx0
                  have q33 : (g_235 x0 (v_201 x0 (v_199 x0 1 (g_199 x0 0 (g_194 x0 9050719969 (g_194 x0 1831504 (g_194 x0 316189 (g_194 x0 208022 d)))))) (g_199 x0 1 (g_199 x0 0 (g_194 x0 9050719969 (g_194 x0 1831504 (g_194 x0 316189 (g_194 x0 208022 d))))))) (v_199 x0 0 (g_194 x0 9050719969 (g_194 x0 1831504 (g_194 x0 316189 (g_194 x0 208022 d))))) (g_196 x0 0 (g_199 x0 1 (g_199 x0 0 (g_194 x0 9050719969 (g_194 x0 1831504 (g_194 x0 316189 (g_194 x0 208022 d)))))))) (x0 + 1) 0 = d (x0 + 1) 0 := (((((((Q9 0 (by omega)).trans (congrFun (F8 (x0 + 1) (by omega)) 0)).trans (congrFun (F7 (x0 + 1) (by omega)) 0)).trans (congrFun (F6 (x0 + 1) (by omega)) 0)).trans (congrFun (F5 (x0 + 1) (by omega)) 0)).trans (congrFun (F4 (x0 + 1) (by omega)) 0)).trans (congrFun (F3 (x0 + 1) (by omega)) 0)).trans (congrFun (F2 (x0 + 1) (by omega)) 0)
                  have q34 : (g_235 x0 (v_201 x0 (v_199 x0 1 (g_199 x0 0 (g_194 x0 9050719969 (g_194 x0 1831504 (g_194 x0 316189 (g_194 x0 208022 d)))))) (g_199 x0 1 (g_199 x0 0 (g_194 x0 9050719969 (g_194 x0 1831504 (g_194 x0 316189 (g_194 x0 208022 d))))))) (v_199 x0 0 (g_194 x0 9050719969 (g_194 x0 1831504 (g_194 x0 316189 (g_194 x0 208022 d))))) (g_196 x0 0 (g_199 x0 1 (g_199 x0 0 (g_194 x0 9050719969 (g_194 x0 1831504 (g_194 x0 316189 (g_194 x0 208022 d)))))))) x0 10 = (g_196 x0 0 (g_199 x0 1 (g_199 x0 0 (g_194 x0 9050719969 (g_194 x0 1831504 (g_194 x0 316189 (g_194 x0 208022 d))))))) x0 10 := congrFun (F9 x0 (by omega)) 10
                  refine ih13 (miand x1 0) (.inl (0, v_199 x0 0 (g_194 x0 9050719969 (g_194 x0 1831504 (g_194 x0 316189 (g_194 x0 208022 d)))))) (.inl (0, v_201 x0 (v_199 x0 1 (g_199 x0 0 (g_194 x0 9050719969 (g_194 x0 1831504 (g_194 x0 316189 (g_194 x0 208022 d)))))) (g_199 x0 1 (g_199 x0 0 (g_194 x0 9050719969 (g_194 x0 1831504 (g_194 x0 316189 (g_194 x0 208022 d)))))))) (.inl (0, v_235 x0 (v_201 x0 (v_199 x0 1 (g_199 x0 0 (g_194 x0 9050719969 (g_194 x0 1831504 (g_194 x0 316189 (g_194 x0 208022 d)))))) (g_199 x0 1 (g_199 x0 0 (g_194 x0 9050719969 (g_194 x0 1831504 (g_194 x0 316189 (g_194 x0 208022 d))))))) (v_199 x0 0 (g_194 x0 9050719969 (g_194 x0 1831504 (g_194 x0 316189 (g_194 x0 208022 d))))) (g_196 x0 0 (g_199 x0 1 (g_199 x0 0 (g_194 x0 9050719969 (g_194 x0 1831504 (g_194 x0 316189 (g_194 x0 208022 d))))))))) (g_235 x0 (v_201 x0 (v_199 x0 1 (g_199 x0 0 (g_194 x0 9050719969 (g_194 x0 1831504 (g_194 x0 316189 (g_194 x0 208022 d)))))) (g_199 x0 1 (g_199 x0 0 (g_194 x0 9050719969 (g_194 x0 1831504 (g_194 x0 316189 (g_194 x0 208022 d))))))) (v_199 x0 0 (g_194 x0 9050719969 (g_194 x0 1831504 (g_194 x0 316189 (g_194 x0 208022 d))))) (g_196 x0 0 (g_199 x0 1 (g_199 x0 0 (g_194 x0 9050719969 (g_194 x0 1831504 (g_194 x0 316189 (g_194 x0 208022 d)))))))) hS9 (by omega) P9hmp P9hmw (by omega) (by omega) (by omega) ?_
                  intro F k0 P_hmp P_hmw n0 hS_
                  have y0 : st_205_13 x0 r13 x1 d = r13 (miand x1 0) (g_235 x0 (v_201 x0 (v_199 x0 1 (g_199 x0 0 (g_194 x0 9050719969 (g_194 x0 1831504 (g_194 x0 316189 (g_194 x0 208022 d)))))) (g_199 x0 1 (g_199 x0 0 (g_194 x0 9050719969 (g_194 x0 1831504 (g_194 x0 316189 (g_194 x0 208022 d))))))) (v_199 x0 0 (g_194 x0 9050719969 (g_194 x0 1831504 (g_194 x0 316189 (g_194 x0 208022 d))))) (g_196 x0 0 (g_199 x0 1 (g_199 x0 0 (g_194 x0 9050719969 (g_194 x0 1831504 (g_194 x0 316189 (g_194 x0 208022 d)))))))) := by simp only [st_205_13, if_neg (show ¬ x1 = 0 from c0), if_pos (show v_194 x0 208022 d = 0 from c1), if_pos (show v_194 x0 316189 (g_194 x0 208022 d) = 0 from c2), if_pos (show v_194 x0 1831504 (g_194 x0 316189 (g_194 x0 208022 d)) = 0 from c3), if_neg (show ¬ v_194 x0 9050719969 (g_194 x0 1831504 (g_194 x0 316189 (g_194 x0 208022 d))) = 0 from c4), if_neg (show ¬ (g_199 x0 1 (g_199 x0 0 (g_194 x0 9050719969 (g_194 x0 1831504 (g_194 x0 316189 (g_194 x0 208022 d)))))) x0 13 = 0 from c5), if_neg (show ¬ v_196 x0 0 (g_199 x0 1 (g_199 x0 0 (g_194 x0 9050719969 (g_194 x0 1831504 (g_194 x0 316189 (g_194 x0 208022 d)))))) = 0 from c6), if_neg (show ¬ (g_196 x0 0 (g_199 x0 1 (g_199 x0 0 (g_194 x0 9050719969 (g_194 x0 1831504 (g_194 x0 316189 (g_194 x0 208022 d))))))) x0 13 = 0 from c7)]
                  rw [y0] at h
                  exact h (fun b hb => (F b hb).trans ((show ∀ b : Int, (b < x0 ∨ x0 + 1 < b) → (g_235 x0 (v_201 x0 (v_199 x0 1 (g_199 x0 0 (g_194 x0 9050719969 (g_194 x0 1831504 (g_194 x0 316189 (g_194 x0 208022 d)))))) (g_199 x0 1 (g_199 x0 0 (g_194 x0 9050719969 (g_194 x0 1831504 (g_194 x0 316189 (g_194 x0 208022 d))))))) (v_199 x0 0 (g_194 x0 9050719969 (g_194 x0 1831504 (g_194 x0 316189 (g_194 x0 208022 d))))) (g_196 x0 0 (g_199 x0 1 (g_199 x0 0 (g_194 x0 9050719969 (g_194 x0 1831504 (g_194 x0 316189 (g_194 x0 208022 d)))))))) b = d b from fun b hb => (F9 b (by omega)).trans ((F8 b (by omega)).trans ((F7 b (by omega)).trans ((F6 b (by omega)).trans ((F5 b (by omega)).trans ((F4 b (by omega)).trans ((F3 b (by omega)).trans (F2 b (by omega))))))))) b hb)) (k0.trans ((((((((congrFun (F9 x0 (by omega)) 9).trans (k8_0)).trans (k7_0)).trans (k6_0)).trans (k5_0)).trans (k4_0)).trans (k3_0)).trans (k2_0))) P_hmp P_hmw (by omega) hS_
                · have q35 := miand_r x1 1 (by decide) (by decide)
                  have q36 := mbool x1
                  have q37 := r_11_f10 hS9 hx0
                  have q38 : (g_235 x0 (v_201 x0 (v_199 x0 1 (g_199 x0 0 (g_194 x0 9050719969 (g_194 x0 1831504 (g_194 x0 316189 (g_194 x0 208022 d)))))) (g_199 x0 1 (g_199 x0 0 (g_194 x0 9050719969 (g_194 x0 1831504 (g_194 x0 316189 (g_194 x0 208022 d))))))) (v_199 x0 0 (g_194 x0 9050719969 (g_194 x0 1831504 (g_194 x0 316189 (g_194 x0 208022 d))))) (g_196 x0 0 (g_199 x0 1 (g_199 x0 0 (g_194 x0 9050719969 (g_194 x0 1831504 (g_194 x0 316189 (g_194 x0 208022 d)))))))) (x0 + 1) 0 = d (x0 + 1) 0 := (((((((Q9 0 (by omega)).trans (congrFun (F8 (x0 + 1) (by omega)) 0)).trans (congrFun (F7 (x0 + 1) (by omega)) 0)).trans (congrFun (F6 (x0 + 1) (by omega)) 0)).trans (congrFun (F5 (x0 + 1) (by omega)) 0)).trans (congrFun (F4 (x0 + 1) (by omega)) 0)).trans (congrFun (F3 (x0 + 1) (by omega)) 0)).trans (congrFun (F2 (x0 + 1) (by omega)) 0)
                  have q39 : (g_235 x0 (v_201 x0 (v_199 x0 1 (g_199 x0 0 (g_194 x0 9050719969 (g_194 x0 1831504 (g_194 x0 316189 (g_194 x0 208022 d)))))) (g_199 x0 1 (g_199 x0 0 (g_194 x0 9050719969 (g_194 x0 1831504 (g_194 x0 316189 (g_194 x0 208022 d))))))) (v_199 x0 0 (g_194 x0 9050719969 (g_194 x0 1831504 (g_194 x0 316189 (g_194 x0 208022 d))))) (g_196 x0 0 (g_199 x0 1 (g_199 x0 0 (g_194 x0 9050719969 (g_194 x0 1831504 (g_194 x0 316189 (g_194 x0 208022 d)))))))) x0 10 = (g_196 x0 0 (g_199 x0 1 (g_199 x0 0 (g_194 x0 9050719969 (g_194 x0 1831504 (g_194 x0 316189 (g_194 x0 208022 d))))))) x0 10 := congrFun (F9 x0 (by omega)) 10
                  refine ih13 (miand x1 1) (.inl (0, v_199 x0 0 (g_194 x0 9050719969 (g_194 x0 1831504 (g_194 x0 316189 (g_194 x0 208022 d)))))) (.inl (0, v_201 x0 (v_199 x0 1 (g_199 x0 0 (g_194 x0 9050719969 (g_194 x0 1831504 (g_194 x0 316189 (g_194 x0 208022 d)))))) (g_199 x0 1 (g_199 x0 0 (g_194 x0 9050719969 (g_194 x0 1831504 (g_194 x0 316189 (g_194 x0 208022 d)))))))) (.inl (0, v_235 x0 (v_201 x0 (v_199 x0 1 (g_199 x0 0 (g_194 x0 9050719969 (g_194 x0 1831504 (g_194 x0 316189 (g_194 x0 208022 d)))))) (g_199 x0 1 (g_199 x0 0 (g_194 x0 9050719969 (g_194 x0 1831504 (g_194 x0 316189 (g_194 x0 208022 d))))))) (v_199 x0 0 (g_194 x0 9050719969 (g_194 x0 1831504 (g_194 x0 316189 (g_194 x0 208022 d))))) (g_196 x0 0 (g_199 x0 1 (g_199 x0 0 (g_194 x0 9050719969 (g_194 x0 1831504 (g_194 x0 316189 (g_194 x0 208022 d))))))))) (g_235 x0 (v_201 x0 (v_199 x0 1 (g_199 x0 0 (g_194 x0 9050719969 (g_194 x0 1831504 (g_194 x0 316189 (g_194 x0 208022 d)))))) (g_199 x0 1 (g_199 x0 0 (g_194 x0 9050719969 (g_194 x0 1831504 (g_194 x0 316189 (g_194 x0 208022 d))))))) (v_199 x0 0 (g_194 x0 9050719969 (g_194 x0 1831504 (g_194 x0 316189 (g_194 x0 208022 d))))) (g_196 x0 0 (g_199 x0 1 (g_199 x0 0 (g_194 x0 9050719969 (g_194 x0 1831504 (g_194 x0 316189 (g_194 x0 208022 d)))))))) hS9 (by omega) P9hmp P9hmw (by omega) (by omega) (by omega) ?_
                  intro F k0 P_hmp P_hmw n0 hS_
                  have y0 : st_205_13 x0 r13 x1 d = r13 (miand x1 1) (g_235 x0 (v_201 x0 (v_199 x0 1 (g_199 x0 0 (g_194 x0 9050719969 (g_194 x0 1831504 (g_194 x0 316189 (g_194 x0 208022 d)))))) (g_199 x0 1 (g_199 x0 0 (g_194 x0 9050719969 (g_194 x0 1831504 (g_194 x0 316189 (g_194 x0 208022 d))))))) (v_199 x0 0 (g_194 x0 9050719969 (g_194 x0 1831504 (g_194 x0 316189 (g_194 x0 208022 d))))) (g_196 x0 0 (g_199 x0 1 (g_199 x0 0 (g_194 x0 9050719969 (g_194 x0 1831504 (g_194 x0 316189 (g_194 x0 208022 d)))))))) := by simp only [st_205_13, if_neg (show ¬ x1 = 0 from c0), if_pos (show v_194 x0 208022 d = 0 from c1), if_pos (show v_194 x0 316189 (g_194 x0 208022 d) = 0 from c2), if_pos (show v_194 x0 1831504 (g_194 x0 316189 (g_194 x0 208022 d)) = 0 from c3), if_neg (show ¬ v_194 x0 9050719969 (g_194 x0 1831504 (g_194 x0 316189 (g_194 x0 208022 d))) = 0 from c4), if_neg (show ¬ (g_199 x0 1 (g_199 x0 0 (g_194 x0 9050719969 (g_194 x0 1831504 (g_194 x0 316189 (g_194 x0 208022 d)))))) x0 13 = 0 from c5), if_neg (show ¬ v_196 x0 0 (g_199 x0 1 (g_199 x0 0 (g_194 x0 9050719969 (g_194 x0 1831504 (g_194 x0 316189 (g_194 x0 208022 d)))))) = 0 from c6), if_pos (show (g_196 x0 0 (g_199 x0 1 (g_199 x0 0 (g_194 x0 9050719969 (g_194 x0 1831504 (g_194 x0 316189 (g_194 x0 208022 d))))))) x0 13 = 0 from c7)]
                  rw [y0] at h
                  exact h (fun b hb => (F b hb).trans ((show ∀ b : Int, (b < x0 ∨ x0 + 1 < b) → (g_235 x0 (v_201 x0 (v_199 x0 1 (g_199 x0 0 (g_194 x0 9050719969 (g_194 x0 1831504 (g_194 x0 316189 (g_194 x0 208022 d)))))) (g_199 x0 1 (g_199 x0 0 (g_194 x0 9050719969 (g_194 x0 1831504 (g_194 x0 316189 (g_194 x0 208022 d))))))) (v_199 x0 0 (g_194 x0 9050719969 (g_194 x0 1831504 (g_194 x0 316189 (g_194 x0 208022 d))))) (g_196 x0 0 (g_199 x0 1 (g_199 x0 0 (g_194 x0 9050719969 (g_194 x0 1831504 (g_194 x0 316189 (g_194 x0 208022 d)))))))) b = d b from fun b hb => (F9 b (by omega)).trans ((F8 b (by omega)).trans ((F7 b (by omega)).trans ((F6 b (by omega)).trans ((F5 b (by omega)).trans ((F4 b (by omega)).trans ((F3 b (by omega)).trans (F2 b (by omega))))))))) b hb)) (k0.trans ((((((((congrFun (F9 x0 (by omega)) 9).trans (k8_0)).trans (k7_0)).trans (k6_0)).trans (k5_0)).trans (k4_0)).trans (k3_0)).trans (k2_0))) P_hmp P_hmw (by omega) hS_
            · refine k_234 hS7 hx0 (by omega) (by omega) (fun e10 => ?_)
              have q40 : (g_199 x0 1 (g_199 x0 0 (g_194 x0 9050719969 (g_194 x0 1831504 (g_194 x0 316189 (g_194 x0 208022 d)))))) (x0 + 1) (452 + 24 * v_201 x0 (v_199 x0 1 (g_199 x0 0 (g_194 x0 9050719969 (g_194 x0 1831504 (g_194 x0 316189 (g_194 x0 208022 d)))))) (g_199 x0 1 (g_199 x0 0 (g_194 x0 9050719969 (g_194 x0 1831504 (g_194 x0 316189 (g_194 x0 208022 d)))))) + 6) = d (x0 + 1) (452 + 24 * v_201 x0 (v_199 x0 1 (g_199 x0 0 (g_194 x0 9050719969 (g_194 x0 1831504 (g_194 x0 316189 (g_194 x0 208022 d)))))) (g_199 x0 1 (g_199 x0 0 (g_194 x0 9050719969 (g_194 x0 1831504 (g_194 x0 316189 (g_194 x0 208022 d)))))) + 6) := (((((congrFun (F7 (x0 + 1) (by omega)) (452 + 24 * v_201 x0 (v_199 x0 1 (g_199 x0 0 (g_194 x0 9050719969 (g_194 x0 1831504 (g_194 x0 316189 (g_194 x0 208022 d)))))) (g_199 x0 1 (g_199 x0 0 (g_194 x0 9050719969 (g_194 x0 1831504 (g_194 x0 316189 (g_194 x0 208022 d)))))) + 6)).trans (congrFun (F6 (x0 + 1) (by omega)) (452 + 24 * v_201 x0 (v_199 x0 1 (g_199 x0 0 (g_194 x0 9050719969 (g_194 x0 1831504 (g_194 x0 316189 (g_194 x0 208022 d)))))) (g_199 x0 1 (g_199 x0 0 (g_194 x0 9050719969 (g_194 x0 1831504 (g_194 x0 316189 (g_194 x0 208022 d)))))) + 6))).trans (congrFun (F5 (x0 + 1) (by omega)) (452 + 24 * v_201 x0 (v_199 x0 1 (g_199 x0 0 (g_194 x0 9050719969 (g_194 x0 1831504 (g_194 x0 316189 (g_194 x0 208022 d)))))) (g_199 x0 1 (g_199 x0 0 (g_194 x0 9050719969 (g_194 x0 1831504 (g_194 x0 316189 (g_194 x0 208022 d)))))) + 6))).trans (congrFun (F4 (x0 + 1) (by omega)) (452 + 24 * v_201 x0 (v_199 x0 1 (g_199 x0 0 (g_194 x0 9050719969 (g_194 x0 1831504 (g_194 x0 316189 (g_194 x0 208022 d)))))) (g_199 x0 1 (g_199 x0 0 (g_194 x0 9050719969 (g_194 x0 1831504 (g_194 x0 316189 (g_194 x0 208022 d)))))) + 6))).trans (congrFun (F3 (x0 + 1) (by omega)) (452 + 24 * v_201 x0 (v_199 x0 1 (g_199 x0 0 (g_194 x0 9050719969 (g_194 x0 1831504 (g_194 x0 316189 (g_194 x0 208022 d)))))) (g_199 x0 1 (g_199 x0 0 (g_194 x0 9050719969 (g_194 x0 1831504 (g_194 x0 316189 (g_194 x0 208022 d)))))) + 6))).trans (congrFun (F2 (x0 + 1) (by omega)) (452 + 24 * v_201 x0 (v_199 x0 1 (g_199 x0 0 (g_194 x0 9050719969 (g_194 x0 1831504 (g_194 x0 316189 (g_194 x0 208022 d)))))) (g_199 x0 1 (g_199 x0 0 (g_194 x0 9050719969 (g_194 x0 1831504 (g_194 x0 316189 (g_194 x0 208022 d)))))) + 6))
              refine t_205_237 ?_
              have w8 := r_11_f9 hS7 hx0
              have w9 := r_11_f10 hS7 hx0
              refine ⟨m_inR (by omega) (by omega), fun c6 => ?_, fun c6 => ?_⟩
              · refine k_196 hS7 hx0 (by omega) (fun e11 F10 k10_0 n10_0 n10_1 n10_2 hS10 => ?_)
                refine t_205_248 ?_
                have w8 := r_11_f9 hS10 hx0
                have w9 := r_11_f10 hS10 hx0
                refine ⟨m_inR (by omega) (by omega), fun c7 => ?_, fun c7 => ?_⟩
                · have q41 := r_11_f13 hS10 hx0
                  refine ⟨m_inR (by omega) (by omega), fun c8 => ?_, fun c8 => ?_⟩
                  · have q42 := miand_r x1 0 (by decide) (by decide)
                    have q43 := mbool x1
                    have q44 := r_11_f10 hS10 hx0
                    have q45 : (g_196 x0 0 (g_199 x0 1 (g_199 x0 0 (g_194 x0 9050719969 (g_194 x0 1831504 (g_194 x0 316189 (g_194 x0 208022 d))))))) (x0 + 1) 0 = d (x0 + 1) 0 := ((((((congrFun (F10 (x0 + 1) (by omega)) 0).trans (congrFun (F7 (x0 + 1) (by omega)) 0)).trans (congrFun (F6 (x0 + 1) (by omega)) 0)).trans (congrFun (F5 (x0 + 1) (by omega)) 0)).trans (congrFun (F4 (x0 + 1) (by omega)) 0)).trans (congrFun (F3 (x0 + 1) (by omega)) 0)).trans (congrFun (F2 (x0 + 1) (by omega)) 0)
                    refine ih13 (miand x1 0) (.inl (0, v_199 x0 0 (g_194 x0 9050719969 (g_194 x0 1831504 (g_194 x0 316189 (g_194 x0 208022 d)))))) (.inl (0, v_201 x0 (v_199 x0 1 (g_199 x0 0 (g_194 x0 9050719969 (g_194 x0 1831504 (g_194 x0 316189 (g_194 x0 208022 d)))))) (g_199 x0 1 (g_199 x0 0 (g_194 x0 9050719969 (g_194 x0 1831504 (g_194 x0 316189 (g_194 x0 208022 d)))))))) v4 (g_196 x0 0 (g_199 x0 1 (g_199 x0 0 (g_194 x0 9050719969 (g_194 x0 1831504 (g_194 x0 316189 (g_194 x0 208022 d))))))) hS10 (by omega) (mpP.of (mh_7 hS hx0 _ rfl) (show ∀ i : Int, i = 7 ∨ (12 ≤ i ∧ i < 420 ∧ (i - 12) % 68 = 2) → (g_196 x0 0 (g_199 x0 1 (g_199 x0 0 (g_194 x0 9050719969 (g_194 x0 1831504 (g_194 x0 316189 (g_194 x0 208022 d))))))) (x0 + 1) i = d (x0 + 1) i from fun i hi => ((((((congrFun (F10 (x0 + 1) (by omega)) i).trans (congrFun (F7 (x0 + 1) (by omega)) i)).trans (congrFun (F6 (x0 + 1) (by omega)) i)).trans (congrFun (F5 (x0 + 1) (by omega)) i)).trans (congrFun (F4 (x0 + 1) (by omega)) i)).trans (congrFun (F3 (x0 + 1) (by omega)) i)).trans (congrFun (F2 (x0 + 1) (by omega)) i)) hmp) (mwP.eq (F10 (x0 + 1) (by omega)) (mwP.eq (F7 (x0 + 1) (by omega)) (mwP.eq (F6 (x0 + 1) (by omega)) (mwP.eq (F5 (x0 + 1) (by omega)) (mwP.eq (F4 (x0 + 1) (by omega)) (mwP.eq (F3 (x0 + 1) (by omega)) (mwP.eq (F2 (x0 + 1) (by omega)) hmw))))))) (by omega) (by omega) (by omega) ?_
                    intro F k0 P_hmp P_hmw n0 hS_
                    have y0 : st_205_13 x0 r13 x1 d = r13 (miand x1 0) (g_196 x0 0 (g_199 x0 1 (g_199 x0 0 (g_194 x0 9050719969 (g_194 x0 1831504 (g_194 x0 316189 (g_194 x0 208022 d))))))) := by simp only [st_205_13, if_neg (show ¬ x1 = 0 from c0), if_pos (show v_194 x0 208022 d = 0 from c1), if_pos (show v_194 x0 316189 (g_194 x0 208022 d) = 0 from c2), if_pos (show v_194 x0 1831504 (g_194 x0 316189 (g_194 x0 208022 d)) = 0 from c3), if_neg (show ¬ v_194 x0 9050719969 (g_194 x0 1831504 (g_194 x0 316189 (g_194 x0 208022 d))) = 0 from c4), if_pos (show (g_199 x0 1 (g_199 x0 0 (g_194 x0 9050719969 (g_194 x0 1831504 (g_194 x0 316189 (g_194 x0 208022 d)))))) x0 13 = 0 from c5), if_neg (show ¬ v_234 x0 (v_201 x0 (v_199 x0 1 (g_199 x0 0 (g_194 x0 9050719969 (g_194 x0 1831504 (g_194 x0 316189 (g_194 x0 208022 d)))))) (g_199 x0 1 (g_199 x0 0 (g_194 x0 9050719969 (g_194 x0 1831504 (g_194 x0 316189 (g_194 x0 208022 d))))))) (v_199 x0 0 (g_194 x0 9050719969 (g_194 x0 1831504 (g_194 x0 316189 (g_194 x0 208022 d))))) (g_199 x0 1 (g_199 x0 0 (g_194 x0 9050719969 (g_194 x0 1831504 (g_194 x0 316189 (g_194 x0 208022 d)))))) = 0 from c6), if_pos (show v_196 x0 0 (g_199 x0 1 (g_199 x0 0 (g_194 x0 9050719969 (g_194 x0 1831504 (g_194 x0 316189 (g_194 x0 208022 d)))))) = 0 from c7), if_neg (show ¬ (g_196 x0 0 (g_199 x0 1 (g_199 x0 0 (g_194 x0 9050719969 (g_194 x0 1831504 (g_194 x0 316189 (g_194 x0 208022 d))))))) x0 13 = 0 from c8)]
                    rw [y0] at h
                    exact h (fun b hb => (F b hb).trans ((show ∀ b : Int, (b < x0 ∨ x0 + 1 < b) → (g_196 x0 0 (g_199 x0 1 (g_199 x0 0 (g_194 x0 9050719969 (g_194 x0 1831504 (g_194 x0 316189 (g_194 x0 208022 d))))))) b = d b from fun b hb => (F10 b (by omega)).trans ((F7 b (by omega)).trans ((F6 b (by omega)).trans ((F5 b (by omega)).trans ((F4 b (by omega)).trans ((F3 b (by omega)).trans (F2 b (by omega)))))))) b hb)) (k0.trans (((((((k10_0).trans (k7_0)).trans (k6_0)).trans (k5_0)).trans (k4_0)).trans (k3_0)).trans (k2_0))) P_hmp P_hmw (by omega) hS_
                  · have q46 := miand_r x1 1 (by decide) (by decide)
                    have q47 := mbool x1
                    have q48 := r_11_f10 hS10 hx0
                    have q49 : (g_196 x0 0 (g_199 x0 1 (g_199 x0 0 (g_194 x0 9050719969 (g_194 x0 1831504 (g_194 x0 316189 (g_194 x0 208022 d))))))) (x0 + 1) 0 = d (x0 + 1) 0 := ((((((congrFun (F10 (x0 + 1) (by omega)) 0).trans (congrFun (F7 (x0 + 1) (by omega)) 0)).trans (congrFun (F6 (x0 + 1) (by omega)) 0)).trans (congrFun (F5 (x0 + 1) (by omega)) 0)).trans (congrFun (F4 (x0 + 1) (by omega)) 0)).trans (congrFun (F3 (x0 + 1) (by omega)) 0)).trans (congrFun (F2 (x0 + 1) (by omega)) 0)
                    refine ih13 (miand x1 1) (.inl (0, v_199 x0 0 (g_194 x0 9050719969 (g_194 x0 1831504 (g_194 x0 316189 (g_194 x0 208022 d)))))) (.inl (0, v_201 x0 (v_199 x0 1 (g_199 x0 0 (g_194 x0 9050719969 (g_194 x0 1831504 (g_194 x0 316189 (g_194 x0 208022 d)))))) (g_199 x0 1 (g_199 x0 0 (g_194 x0 9050719969 (g_194 x0 1831504 (g_194 x0 316189 (g_194 x0 208022 d)))))))) v4 (g_196 x0 0 (g_199 x0 1 (g_199 x0 0 (g_194 x0 9050719969 (g_194 x0 1831504 (g_194 x0 316189 (g_194 x0 208022 d))))))) hS10 (by omega) (mpP.of (mh_7 hS hx0 _ rfl) (show ∀ i : Int, i = 7 ∨ (12 ≤ i ∧ i < 420 ∧ (i - 12) % 68 = 2) → (g_196 x0 0 (g_199 x0 1 (g_199 x0 0 (g_194 x0 9050719969 (g_194 x0 1831504 (g_194 x0 316189 (g_194 x0 208022 d))))))) (x0 + 1) i = d (x0 + 1) i from fun i hi => ((((((congrFun (F10 (x0 + 1) (by omega)) i).trans (congrFun (F7 (x0 + 1) (by omega)) i)).trans (congrFun (F6 (x0 + 1) (by omega)) i)).trans (congrFun (F5 (x0 + 1) (by omega)) i)).trans (congrFun (F4 (x0 + 1) (by omega)) i)).trans (congrFun (F3 (x0 + 1) (by omega)) i)).trans (congrFun (F2 (x0 + 1) (by omega)) i)) hmp) (mwP.eq (F10 (x0 + 1) (by omega)) (mwP.eq (F7 (x0 + 1) (by omega)) (mwP.eq (F6 (x0 + 1) (by omega)) (mwP.eq (F5 (x0 + 1) (by omega)) (mwP.eq (F4 (x0 + 1) (by omega)) (mwP.eq (F3 (x0 + 1) (by omega)) (mwP.eq (F2 (x0 + 1) (by omega)) hmw))))))) (by omega) (by omega) (by omega) ?_
                    intro F k0 P_hmp P_hmw n0 hS_
                    have y0 : st_205_13 x0 r13 x1 d = r13 (miand x1 1) (g_196 x0 0 (g_199 x0 1 (g_199 x0 0 (g_194 x0 9050719969 (g_194 x0 1831504 (g_194 x0 316189 (g_194 x0 208022 d))))))) := by simp only [st_205_13, if_neg (show ¬ x1 = 0 from c0), if_pos (show v_194 x0 208022 d = 0 from c1), if_pos (show v_194 x0 316189 (g_194 x0 208022 d) = 0 from c2), if_pos (show v_194 x0 1831504 (g_194 x0 316189 (g_194 x0 208022 d)) = 0 from c3), if_neg (show ¬ v_194 x0 9050719969 (g_194 x0 1831504 (g_194 x0 316189 (g_194 x0 208022 d))) = 0 from c4), if_pos (show (g_199 x0 1 (g_199 x0 0 (g_194 x0 9050719969 (g_194 x0 1831504 (g_194 x0 316189 (g_194 x0 208022 d)))))) x0 13 = 0 from c5), if_neg (show ¬ v_234 x0 (v_201 x0 (v_199 x0 1 (g_199 x0 0 (g_194 x0 9050719969 (g_194 x0 1831504 (g_194 x0 316189 (g_194 x0 208022 d)))))) (g_199 x0 1 (g_199 x0 0 (g_194 x0 9050719969 (g_194 x0 1831504 (g_194 x0 316189 (g_194 x0 208022 d))))))) (v_199 x0 0 (g_194 x0 9050719969 (g_194 x0 1831504 (g_194 x0 316189 (g_194 x0 208022 d))))) (g_199 x0 1 (g_199 x0 0 (g_194 x0 9050719969 (g_194 x0 1831504 (g_194 x0 316189 (g_194 x0 208022 d)))))) = 0 from c6), if_pos (show v_196 x0 0 (g_199 x0 1 (g_199 x0 0 (g_194 x0 9050719969 (g_194 x0 1831504 (g_194 x0 316189 (g_194 x0 208022 d)))))) = 0 from c7), if_pos (show (g_196 x0 0 (g_199 x0 1 (g_199 x0 0 (g_194 x0 9050719969 (g_194 x0 1831504 (g_194 x0 316189 (g_194 x0 208022 d))))))) x0 13 = 0 from c8)]
                    rw [y0] at h
                    exact h (fun b hb => (F b hb).trans ((show ∀ b : Int, (b < x0 ∨ x0 + 1 < b) → (g_196 x0 0 (g_199 x0 1 (g_199 x0 0 (g_194 x0 9050719969 (g_194 x0 1831504 (g_194 x0 316189 (g_194 x0 208022 d))))))) b = d b from fun b hb => (F10 b (by omega)).trans ((F7 b (by omega)).trans ((F6 b (by omega)).trans ((F5 b (by omega)).trans ((F4 b (by omega)).trans ((F3 b (by omega)).trans (F2 b (by omega)))))))) b hb)) (k0.trans (((((((k10_0).trans (k7_0)).trans (k6_0)).trans (k5_0)).trans (k4_0)).trans (k3_0)).trans (k2_0))) P_hmp P_hmw (by omega) hS_
                · have q50 : (g_196 x0 0 (g_199 x0 1 (g_199 x0 0 (g_194 x0 9050719969 (g_194 x0 1831504 (g_194 x0 316189 (g_194 x0 208022 d))))))) (x0 + 1) (452 + 24 * v_201 x0 (v_199 x0 1 (g_199 x0 0 (g_194 x0 9050719969 (g_194 x0 1831504 (g_194 x0 316189 (g_194 x0 208022 d)))))) (g_199 x0 1 (g_199 x0 0 (g_194 x0 9050719969 (g_194 x0 1831504 (g_194 x0 316189 (g_194 x0 208022 d)))))) + 6) = d (x0 + 1) (452 + 24 * v_201 x0 (v_199 x0 1 (g_199 x0 0 (g_194 x0 9050719969 (g_194 x0 1831504 (g_194 x0 316189 (g_194 x0 208022 d)))))) (g_199 x0 1 (g_199 x0 0 (g_194 x0 9050719969 (g_194 x0 1831504 (g_194 x0 316189 (g_194 x0 208022 d)))))) + 6) := ((((((congrFun (F10 (x0 + 1) (by omega)) (452 + 24 * v_201 x0 (v_199 x0 1 (g_199 x0 0 (g_194 x0 9050719969 (g_194 x0 1831504 (g_194 x0 316189 (g_194 x0 208022 d)))))) (g_199 x0 1 (g_199 x0 0 (g_194 x0 9050719969 (g_194 x0 1831504 (g_194 x0 316189 (g_194 x0 208022 d)))))) + 6)).trans (congrFun (F7 (x0 + 1) (by omega)) (452 + 24 * v_201 x0 (v_199 x0 1 (g_199 x0 0 (g_194 x0 9050719969 (g_194 x0 1831504 (g_194 x0 316189 (g_194 x0 208022 d)))))) (g_199 x0 1 (g_199 x0 0 (g_194 x0 9050719969 (g_194 x0 1831504 (g_194 x0 316189 (g_194 x0 208022 d)))))) + 6))).trans (congrFun (F6 (x0 + 1) (by omega)) (452 + 24 * v_201 x0 (v_199 x0 1 (g_199 x0 0 (g_194 x0 9050719969 (g_194 x0 1831504 (g_194 x0 316189 (g_194 x0 208022 d)))))) (g_199 x0 1 (g_199 x0 0 (g_194 x0 9050719969 (g_194 x0 1831504 (g_194 x0 316189 (g_194 x0 208022 d)))))) + 6))).trans (congrFun (F5 (x0 + 1) (by omega)) (452 + 24 * v_201 x0 (v_199 x0 1 (g_199 x0 0 (g_194 x0 9050719969 (g_194 x0 1831504 (g_194 x0 316189 (g_194 x0 208022 d)))))) (g_199 x0 1 (g_199 x0 0 (g_194 x0 9050719969 (g_194 x0 1831504 (g_194 x0 316189 (g_194 x0 208022 d)))))) + 6))).trans (congrFun (F4 (x0 + 1) (by omega)) (452 + 24 * v_201 x0 (v_199 x0 1 (g_199 x0 0 (g_194 x0 9050719969 (g_194 x0 1831504 (g_194 x0 316189 (g_194 x0 208022 d)))))) (g_199 x0 1 (g_199 x0 0 (g_194 x0 9050719969 (g_194 x0 1831504 (g_194 x0 316189 (g_194 x0 208022 d)))))) + 6))).trans (congrFun (F3 (x0 + 1) (by omega)) (452 + 24 * v_201 x0 (v_199 x0 1 (g_199 x0 0 (g_194 x0 9050719969 (g_194 x0 1831504 (g_194 x0 316189 (g_194 x0 208022 d)))))) (g_199 x0 1 (g_199 x0 0 (g_194 x0 9050719969 (g_194 x0 1831504 (g_194 x0 316189 (g_194 x0 208022 d)))))) + 6))).trans (congrFun (F2 (x0 + 1) (by omega)) (452 + 24 * v_201 x0 (v_199 x0 1 (g_199 x0 0 (g_194 x0 9050719969 (g_194 x0 1831504 (g_194 x0 316189 (g_194 x0 208022 d)))))) (g_199 x0 1 (g_199 x0 0 (g_194 x0 9050719969 (g_194 x0 1831504 (g_194 x0 316189 (g_194 x0 208022 d)))))) + 6))
                  refine k_235 hS10 hx0 (by omega) (by omega) (mpP.of (mh_7 hS hx0 _ rfl) (show ∀ i : Int, i = 7 ∨ (12 ≤ i ∧ i < 420 ∧ (i - 12) % 68 = 2) → (g_196 x0 0 (g_199 x0 1 (g_199 x0 0 (g_194 x0 9050719969 (g_194 x0 1831504 (g_194 x0 316189 (g_194 x0 208022 d))))))) (x0 + 1) i = d (x0 + 1) i from fun i hi => ((((((congrFun (F10 (x0 + 1) (by omega)) i).trans (congrFun (F7 (x0 + 1) (by omega)) i)).trans (congrFun (F6 (x0 + 1) (by omega)) i)).trans (congrFun (F5 (x0 + 1) (by omega)) i)).trans (congrFun (F4 (x0 + 1) (by omega)) i)).trans (congrFun (F3 (x0 + 1) (by omega)) i)).trans (congrFun (F2 (x0 + 1) (by omega)) i)) hmp) (mwP.eq (F10 (x0 + 1) (by omega)) (mwP.eq (F7 (x0 + 1) (by omega)) (mwP.eq (F6 (x0 + 1) (by omega)) (mwP.eq (F5 (x0 + 1) (by omega)) (mwP.eq (F4 (x0 + 1) (by omega)) (mwP.eq (F3 (x0 + 1) (by omega)) (mwP.eq (F2 (x0 + 1) (by omega)) hmw))))))) (by omega) (fun e12 F11 Q11 P11hmp P11hmw hS11 => ?_)
                  refine t_205_257 ?_
                  have w8 := r_11_f9 hS11 hx0
                  have w9 := r_11_f10 hS11 hx0
                  rw [F11 x0 (by omega)]
                  have q51 := r_11_f13 hS10 hx0
                  refine ⟨m_inR (by omega) (by omega), fun c8 => ?_, fun c8 => ?_⟩
                  · have q52 := miand_r x1 0 (by decide) (by decide)
                    have q53 := mbool x1
                    have q54 := r_11_f10 hS11 hx0
                    have q55 : (g_235 x0 (v_201 x0 (v_199 x0 1 (g_199 x0 0 (g_194 x0 9050719969 (g_194 x0 1831504 (g_194 x0 316189 (g_194 x0 208022 d)))))) (g_199 x0 1 (g_199 x0 0 (g_194 x0 9050719969 (g_194 x0 1831504 (g_194 x0 316189 (g_194 x0 208022 d))))))) (v_199 x0 0 (g_194 x0 9050719969 (g_194 x0 1831504 (g_194 x0 316189 (g_194 x0 208022 d))))) (g_196 x0 0 (g_199 x0 1 (g_199 x0 0 (g_194 x0 9050719969 (g_194 x0 1831504 (g_194 x0 316189 (g_194 x0 208022 d)))))))) (x0 + 1) 0 = d (x0 + 1) 0 := (((((((Q11 0 (by omega)).trans (congrFun (F10 (x0 + 1) (by omega)) 0)).trans (congrFun (F7 (x0 + 1) (by omega)) 0)).trans (congrFun (F6 (x0 + 1) (by omega)) 0)).trans (congrFun (F5 (x0 + 1) (by omega)) 0)).trans (congrFun (F4 (x0 + 1) (by omega)) 0)).trans (congrFun (F3 (x0 + 1) (by omega)) 0)).trans (congrFun (F2 (x0 + 1) (by omega)) 0)
                    have q56 : (g_235 x0 (v_201 x0 (v_199 x0 1 (g_199 x0 0 (g_194 x0 9050719969 (g_194 x0 1831504 (g_194 x0 316189 (g_194 x0 208022 d)))))) (g_199 x0 1 (g_199 x0 0 (g_194 x0 9050719969 (g_194 x0 1831504 (g_194 x0 316189 (g_194 x0 208022 d))))))) (v_199 x0 0 (g_194 x0 9050719969 (g_194 x0 1831504 (g_194 x0 316189 (g_194 x0 208022 d))))) (g_196 x0 0 (g_199 x0 1 (g_199 x0 0 (g_194 x0 9050719969 (g_194 x0 1831504 (g_194 x0 316189 (g_194 x0 208022 d)))))))) x0 10 = (g_196 x0 0 (g_199 x0 1 (g_199 x0 0 (g_194 x0 9050719969 (g_194 x0 1831504 (g_194 x0 316189 (g_194 x0 208022 d))))))) x0 10 := congrFun (F11 x0 (by omega)) 10
                    refine ih13 (miand x1 0) (.inl (0, v_199 x0 0 (g_194 x0 9050719969 (g_194 x0 1831504 (g_194 x0 316189 (g_194 x0 208022 d)))))) (.inl (0, v_201 x0 (v_199 x0 1 (g_199 x0 0 (g_194 x0 9050719969 (g_194 x0 1831504 (g_194 x0 316189 (g_194 x0 208022 d)))))) (g_199 x0 1 (g_199 x0 0 (g_194 x0 9050719969 (g_194 x0 1831504 (g_194 x0 316189 (g_194 x0 208022 d)))))))) (.inl (0, v_235 x0 (v_201 x0 (v_199 x0 1 (g_199 x0 0 (g_194 x0 9050719969 (g_194 x0 1831504 (g_194 x0 316189 (g_194 x0 208022 d)))))) (g_199 x0 1 (g_199 x0 0 (g_194 x0 9050719969 (g_194 x0 1831504 (g_194 x0 316189 (g_194 x0 208022 d))))))) (v_199 x0 0 (g_194 x0 9050719969 (g_194 x0 1831504 (g_194 x0 316189 (g_194 x0 208022 d))))) (g_196 x0 0 (g_199 x0 1 (g_199 x0 0 (g_194 x0 9050719969 (g_194 x0 1831504 (g_194 x0 316189 (g_194 x0 208022 d))))))))) (g_235 x0 (v_201 x0 (v_199 x0 1 (g_199 x0 0 (g_194 x0 9050719969 (g_194 x0 1831504 (g_194 x0 316189 (g_194 x0 208022 d)))))) (g_199 x0 1 (g_199 x0 0 (g_194 x0 9050719969 (g_194 x0 1831504 (g_194 x0 316189 (g_194 x0 208022 d))))))) (v_199 x0 0 (g_194 x0 9050719969 (g_194 x0 1831504 (g_194 x0 316189 (g_194 x0 208022 d))))) (g_196 x0 0 (g_199 x0 1 (g_199 x0 0 (g_194 x0 9050719969 (g_194 x0 1831504 (g_194 x0 316189 (g_194 x0 208022 d)))))))) hS11 (by omega) P11hmp P11hmw (by omega) (by omega) (by omega) ?_
                    intro F k0 P_hmp P_hmw n0 hS_
                    have y0 : st_205_13 x0 r13 x1 d = r13 (miand x1 0) (g_235 x0 (v_201 x0 (v_199 x0 1 (g_199 x0 0 (g_194 x0 9050719969 (g_194 x0 1831504 (g_194 x0 316189 (g_194 x0 208022 d)))))) (g_199 x0 1 (g_199 x0 0 (g_194 x0 9050719969 (g_194 x0 1831504 (g_194 x0 316189 (g_194 x0 208022 d))))))) (v_199 x0 0 (g_194 x0 9050719969 (g_194 x0 1831504 (g_194 x0 316189 (g_194 x0 208022 d))))) (g_196 x0 0 (g_199 x0 1 (g_199 x0 0 (g_194 x0 9050719969 (g_194 x0 1831504 (g_194 x0 316189 (g_194 x0 208022 d)))))))) := by simp only [st_205_13, if_neg (show ¬ x1 = 0 from c0), if_pos (show v_194 x0 208022 d = 0 from c1), if_pos (show v_194 x0 316189 (g_194 x0 208022 d) = 0 from c2), if_pos (show v_194 x0 1831504 (g_194 x0 316189 (g_194 x0 208022 d)) = 0 from c3), if_neg (show ¬ v_194 x0 9050719969 (g_194 x0 1831504 (g_194 x0 316189 (g_194 x0 208022 d))) = 0 from c4), if_pos (show (g_199 x0 1 (g_199 x0 0 (g_194 x0 9050719969 (g_194 x0 1831504 (g_194 x0 316189 (g_194 x0 208022 d)))))) x0 13 = 0 from c5), if_neg (show ¬ v_234 x0 (v_201 x0 (v_199 x0 1 (g_199 x0 0 (g_194 x0 9050719969 (g_194 x0 1831504 (g_194 x0 316189 (g_194 x0 208022 d)))))) (g_199 x0 1 (g_199 x0 0 (g_194 x0 9050719969 (g_194 x0 1831504 (g_194 x0 316189 (g_194 x0 208022 d))))))) (v_199 x0 0 (g_194 x0 9050719969 (g_194 x0 1831504 (g_194 x0 316189 (g_194 x0 208022 d))))) (g_199 x0 1 (g_199 x0 0 (g_194 x0 9050719969 (g_194 x0 1831504 (g_194 x0 316189 (g_194 x0 208022 d)))))) = 0 from c6), if_neg (show ¬ v_196 x0 0 (g_199 x0 1 (g_199 x0 0 (g_194 x0 9050719969 (g_194 x0 1831504 (g_194 x0 316189 (g_194 x0 208022 d)))))) = 0 from c7), if_neg (show ¬ (g_196 x0 0 (g_199 x0 1 (g_199 x0 0 (g_194 x0 9050719969 (g_194 x0 1831504 (g_194 x0 316189 (g_194 x0 208022 d))))))) x0 13 = 0 from c8)]
                    rw [y0] at h
                    exact h (fun b hb => (F b hb).trans ((show ∀ b : Int, (b < x0 ∨ x0 + 1 < b) → (g_235 x0 (v_201 x0 (v_199 x0 1 (g_199 x0 0 (g_194 x0 9050719969 (g_194 x0 1831504 (g_194 x0 316189 (g_194 x0 208022 d)))))) (g_199 x0 1 (g_199 x0 0 (g_194 x0 9050719969 (g_194 x0 1831504 (g_194 x0 316189 (g_194 x0 208022 d))))))) (v_199 x0 0 (g_194 x0 9050719969 (g_194 x0 1831504 (g_194 x0 316189 (g_194 x0 208022 d))))) (g_196 x0 0 (g_199 x0 1 (g_199 x0 0 (g_194 x0 9050719969 (g_194 x0 1831504 (g_194 x0 316189 (g_194 x0 208022 d)))))))) b = d b from fun b hb => (F11 b (by omega)).trans ((F10 b (by omega)).trans ((F7 b (by omega)).trans ((F6 b (by omega)).trans ((F5 b (by omega)).trans ((F4 b (by omega)).trans ((F3 b (by omega)).trans (F2 b (by omega))))))))) b hb)) (k0.trans ((((((((congrFun (F11 x0 (by omega)) 9).trans (k10_0)).trans (k7_0)).trans (k6_0)).trans (k5_0)).trans (k4_0)).trans (k3_0)).trans (k2_0))) P_hmp P_hmw (by omega) hS_
                  · have q57 := miand_r x1 1 (by decide) (by decide)
                    have q58 := mbool x1
                    have q59 := r_11_f10 hS11 hx0
                    have q60 : (g_235 x0 (v_201 x0 (v_199 x0 1 (g_199 x0 0 (g_194 x0 9050719969 (g_194 x0 1831504 (g_194 x0 316189 (g_194 x0 208022 d)))))) (g_199 x0 1 (g_199 x0 0 (g_194 x0 9050719969 (g_194 x0 1831504 (g_194 x0 316189 (g_194 x0 208022 d))))))) (v_199 x0 0 (g_194 x0 9050719969 (g_194 x0 1831504 (g_194 x0 316189 (g_194 x0 208022 d))))) (g_196 x0 0 (g_199 x0 1 (g_199 x0 0 (g_194 x0 9050719969 (g_194 x0 1831504 (g_194 x0 316189 (g_194 x0 208022 d)))))))) (x0 + 1) 0 = d (x0 + 1) 0 := (((((((Q11 0 (by omega)).trans (congrFun (F10 (x0 + 1) (by omega)) 0)).trans (congrFun (F7 (x0 + 1) (by omega)) 0)).trans (congrFun (F6 (x0 + 1) (by omega)) 0)).trans (congrFun (F5 (x0 + 1) (by omega)) 0)).trans (congrFun (F4 (x0 + 1) (by omega)) 0)).trans (congrFun (F3 (x0 + 1) (by omega)) 0)).trans (congrFun (F2 (x0 + 1) (by omega)) 0)
                    have q61 : (g_235 x0 (v_201 x0 (v_199 x0 1 (g_199 x0 0 (g_194 x0 9050719969 (g_194 x0 1831504 (g_194 x0 316189 (g_194 x0 208022 d)))))) (g_199 x0 1 (g_199 x0 0 (g_194 x0 9050719969 (g_194 x0 1831504 (g_194 x0 316189 (g_194 x0 208022 d))))))) (v_199 x0 0 (g_194 x0 9050719969 (g_194 x0 1831504 (g_194 x0 316189 (g_194 x0 208022 d))))) (g_196 x0 0 (g_199 x0 1 (g_199 x0 0 (g_194 x0 9050719969 (g_194 x0 1831504 (g_194 x0 316189 (g_194 x0 208022 d)))))))) x0 10 = (g_196 x0 0 (g_199 x0 1 (g_199 x0 0 (g_194 x0 9050719969 (g_194 x0 1831504 (g_194 x0 316189 (g_194 x0 208022 d))))))) x0 10 := congrFun (F11 x0 (by omega)) 10
                    refine ih13 (miand x1 1) (.inl (0, v_199 x0 0 (g_194 x0 9050719969 (g_194 x0 1831504 (g_194 x0 316189 (g_194 x0 208022 d)))))) (.inl (0, v_201 x0 (v_199 x0 1 (g_199 x0 0 (g_194 x0 9050719969 (g_194 x0 1831504 (g_194 x0 316189 (g_194 x0 208022 d)))))) (g_199 x0 1 (g_199 x0 0 (g_194 x0 9050719969 (g_194 x0 1831504 (g_194 x0 316189 (g_194 x0 208022 d)))))))) (.inl (0, v_235 x0 (v_201 x0 (v_199 x0 1 (g_199 x0 0 (g_194 x0 9050719969 (g_194 x0 1831504 (g_194 x0 316189 (g_194 x0 208022 d)))))) (g_199 x0 1 (g_199 x0 0 (g_194 x0 9050719969 (g_194 x0 1831504 (g_194 x0 316189 (g_194 x0 208022 d))))))) (v_199 x0 0 (g_194 x0 9050719969 (g_194 x0 1831504 (g_194 x0 316189 (g_194 x0 208022 d))))) (g_196 x0 0 (g_199 x0 1 (g_199 x0 0 (g_194 x0 9050719969 (g_194 x0 1831504 (g_194 x0 316189 (g_194 x0 208022 d))))))))) (g_235 x0 (v_201 x0 (v_199 x0 1 (g_199 x0 0 (g_194 x0 9050719969 (g_194 x0 1831504 (g_194 x0 316189 (g_194 x0 208022 d)))))) (g_199 x0 1 (g_199 x0 0 (g_194 x0 9050719969 (g_194 x0 1831504 (g_194 x0 316189 (g_194 x0 208022 d))))))) (v_199 x0 0 (g_194 x0 9050719969 (g_194 x0 1831504 (g_194 x0 316189 (g_194 x0 208022 d))))) (g_196 x0 0 (g_199 x0 1 (g_199 x0 0 (g_194 x0 9050719969 (g_194 x0 1831504 (g_194 x0 316189 (g_194 x0 208022 d)))))))) hS11 (by omega) P11hmp P11hmw (by omega) (by omega) (by omega) ?_
                    intro F k0 P_hmp P_hmw n0 hS_
                    have y0 : st_205_13 x0 r13 x1 d = r13 (miand x1 1) (g_235 x0 (v_201 x0 (v_199 x0 1 (g_199 x0 0 (g_194 x0 9050719969 (g_194 x0 1831504 (g_194 x0 316189 (g_194 x0 208022 d)))))) (g_199 x0 1 (g_199 x0 0 (g_194 x0 9050719969 (g_194 x0 1831504 (g_194 x0 316189 (g_194 x0 208022 d))))))) (v_199 x0 0 (g_194 x0 9050719969 (g_194 x0 1831504 (g_194 x0 316189 (g_194 x0 208022 d))))) (g_196 x0 0 (g_199 x0 1 (g_199 x0 0 (g_194 x0 9050719969 (g_194 x0 1831504 (g_194 x0 316189 (g_194 x0 208022 d)))))))) := by simp only [st_205_13, if_neg (show ¬ x1 = 0 from c0), if_pos (show v_194 x0 208022 d = 0 from c1), if_pos (show v_194 x0 316189 (g_194 x0 208022 d) = 0 from c2), if_pos (show v_194 x0 1831504 (g_194 x0 316189 (g_194 x0 208022 d)) = 0 from c3), if_neg (show ¬ v_194 x0 9050719969 (g_194 x0 1831504 (g_194 x0 316189 (g_194 x0 208022 d))) = 0 from c4), if_pos (show (g_199 x0 1 (g_199 x0 0 (g_194 x0 9050719969 (g_194 x0 1831504 (g_194 x0 316189 (g_194 x0 208022 d)))))) x0 13 = 0 from c5), if_neg (show ¬ v_234 x0 (v_201 x0 (v_199 x0 1 (g_199 x0 0 (g_194 x0 9050719969 (g_194 x0 1831504 (g_194 x0 316189 (g_194 x0 208022 d)))))) (g_199 x0 1 (g_199 x0 0 (g_194 x0 9050719969 (g_194 x0 1831504 (g_194 x0 316189 (g_194 x0 208022 d))))))) (v_199 x0 0 (g_194 x0 9050719969 (g_194 x0 1831504 (g_194 x0 316189 (g_194 x0 208022 d))))) (g_199 x0 1 (g_199 x0 0 (g_194 x0 9050719969 (g_194 x0 1831504 (g_194 x0 316189 (g_194 x0 208022 d)))))) = 0 from c6), if_neg (show ¬ v_196 x0 0 (g_199 x0 1 (g_199 x0 0 (g_194 x0 9050719969 (g_194 x0 1831504 (g_194 x0 316189 (g_194 x0 208022 d)))))) = 0 from c7), if_pos (show (g_196 x0 0 (g_199 x0 1 (g_199 x0 0 (g_194 x0 9050719969 (g_194 x0 1831504 (g_194 x0 316189 (g_194 x0 208022 d))))))) x0 13 = 0 from c8)]
                    rw [y0] at h
                    exact h (fun b hb => (F b hb).trans ((show ∀ b : Int, (b < x0 ∨ x0 + 1 < b) → (g_235 x0 (v_201 x0 (v_199 x0 1 (g_199 x0 0 (g_194 x0 9050719969 (g_194 x0 1831504 (g_194 x0 316189 (g_194 x0 208022 d)))))) (g_199 x0 1 (g_199 x0 0 (g_194 x0 9050719969 (g_194 x0 1831504 (g_194 x0 316189 (g_194 x0 208022 d))))))) (v_199 x0 0 (g_194 x0 9050719969 (g_194 x0 1831504 (g_194 x0 316189 (g_194 x0 208022 d))))) (g_196 x0 0 (g_199 x0 1 (g_199 x0 0 (g_194 x0 9050719969 (g_194 x0 1831504 (g_194 x0 316189 (g_194 x0 208022 d)))))))) b = d b from fun b hb => (F11 b (by omega)).trans ((F10 b (by omega)).trans ((F7 b (by omega)).trans ((F6 b (by omega)).trans ((F5 b (by omega)).trans ((F4 b (by omega)).trans ((F3 b (by omega)).trans (F2 b (by omega))))))))) b hb)) (k0.trans ((((((((congrFun (F11 x0 (by omega)) 9).trans (k10_0)).trans (k7_0)).trans (k6_0)).trans (k5_0)).trans (k4_0)).trans (k3_0)).trans (k2_0))) P_hmp P_hmw (by omega) hS_
              · refine k_196 hS7 hx0 (by omega) (fun e13 F12 k12_0 n12_0 n12_1 n12_2 hS12 => ?_)
                refine t_205_248 ?_
                have w8 := r_11_f9 hS12 hx0
                have w9 := r_11_f10 hS12 hx0
                refine ⟨m_inR (by omega) (by omega), fun c7 => ?_, fun c7 => ?_⟩
                · have q62 := r_11_f13 hS12 hx0
                  refine ⟨m_inR (by omega) (by omega), fun c8 => ?_, fun c8 => ?_⟩
                  · have q63 := miand_r x1 0 (by decide) (by decide)
                    have q64 := mbool x1
                    have q65 := r_11_f10 hS12 hx0
                    have q66 : (g_196 x0 1 (g_199 x0 1 (g_199 x0 0 (g_194 x0 9050719969 (g_194 x0 1831504 (g_194 x0 316189 (g_194 x0 208022 d))))))) (x0 + 1) 0 = d (x0 + 1) 0 := ((((((congrFun (F12 (x0 + 1) (by omega)) 0).trans (congrFun (F7 (x0 + 1) (by omega)) 0)).trans (congrFun (F6 (x0 + 1) (by omega)) 0)).trans (congrFun (F5 (x0 + 1) (by omega)) 0)).trans (congrFun (F4 (x0 + 1) (by omega)) 0)).trans (congrFun (F3 (x0 + 1) (by omega)) 0)).trans (congrFun (F2 (x0 + 1) (by omega)) 0)
                    refine ih13 (miand x1 0) (.inl (0, v_199 x0 0 (g_194 x0 9050719969 (g_194 x0 1831504 (g_194 x0 316189 (g_194 x0 208022 d)))))) (.inl (0, v_201 x0 (v_199 x0 1 (g_199 x0 0 (g_194 x0 9050719969 (g_194 x0 1831504 (g_194 x0 316189 (g_194 x0 208022 d)))))) (g_199 x0 1 (g_199 x0 0 (g_194 x0 9050719969 (g_194 x0 1831504 (g_194 x0 316189 (g_194 x0 208022 d)))))))) v4 (g_196 x0 1 (g_199 x0 1 (g_199 x0 0 (g_194 x0 9050719969 (g_194 x0 1831504 (g_194 x0 316189 (g_194 x0 208022 d))))))) hS12 (by omega) (mpP.of (mh_7 hS hx0 _ rfl) (show ∀ i : Int, i = 7 ∨ (12 ≤ i ∧ i < 420 ∧ (i - 12) % 68 = 2) → (g_196 x0 1 (g_199 x0 1 (g_199 x0 0 (g_194 x0 9050719969 (g_194 x0 1831504 (g_194 x0 316189 (g_194 x0 208022 d))))))) (x0 + 1) i = d (x0 + 1) i from fun i hi => ((((((congrFun (F12 (x0 + 1) (by omega)) i).trans (congrFun (F7 (x0 + 1) (by omega)) i)).trans (congrFun (F6 (x0 + 1) (by omega)) i)).trans (congrFun (F5 (x0 + 1) (by omega)) i)).trans (congrFun (F4 (x0 + 1) (by omega)) i)).trans (congrFun (F3 (x0 + 1) (by omega)) i)).trans (congrFun (F2 (x0 + 1) (by omega)) i)) hmp) (mwP.eq (F12 (x0 + 1) (by omega)) (mwP.eq (F7 (x0 + 1) (by omega)) (mwP.eq (F6 (x0 + 1) (by omega)) (mwP.eq (F5 (x0 + 1) (by omega)) (mwP.eq (F4 (x0 + 1) (by omega)) (mwP.eq (F3 (x0 + 1) (by omega)) (mwP.eq (F2 (x0 + 1) (by omega)) hmw))))))) (by omega) (by omega) (by omega) ?_
                    intro F k0 P_hmp P_hmw n0 hS_
                    have y0 : st_205_13 x0 r13 x1 d = r13 (miand x1 0) (g_196 x0 1 (g_199 x0 1 (g_199 x0 0 (g_194 x0 9050719969 (g_194 x0 1831504 (g_194 x0 316189 (g_194 x0 208022 d))))))) := by simp only [st_205_13, if_neg (show ¬ x1 = 0 from c0), if_pos (show v_194 x0 208022 d = 0 from c1), if_pos (show v_194 x0 316189 (g_194 x0 208022 d) = 0 from c2), if_pos (show v_194 x0 1831504 (g_194 x0 316189 (g_194 x0 208022 d)) = 0 from c3), if_neg (show ¬ v_194 x0 9050719969 (g_194 x0 1831504 (g_194 x0 316189 (g_194 x0 208022 d))) = 0 from c4), if_pos (show (g_199 x0 1 (g_199 x0 0 (g_194 x0 9050719969 (g_194 x0 1831504 (g_194 x0 316189 (g_194 x0 208022 d)))))) x0 13 = 0 from c5), if_pos (show v_234 x0 (v_201 x0 (v_199 x0 1 (g_199 x0 0 (g_194 x0 9050719969 (g_194 x0 1831504 (g_194 x0 316189 (g_194 x0 208022 d)))))) (g_199 x0 1 (g_199 x0 0 (g_194 x0 9050719969 (g_194 x0 1831504 (g_194 x0 316189 (g_194 x0 208022 d))))))) (v_199 x0 0 (g_194 x0 9050719969 (g_194 x0 1831504 (g_194 x0 316189 (g_194 x0 208022 d))))) (g_199 x0 1 (g_199 x0 0 (g_194 x0 9050719969 (g_194 x0 1831504 (g_194 x0 316189 (g_194 x0 208022 d)))))) = 0 from c6), if_pos (show v_196 x0 1 (g_199 x0 1 (g_199 x0 0 (g_194 x0 9050719969 (g_194 x0 1831504 (g_194 x0 316189 (g_194 x0 208022 d)))))) = 0 from c7), if_neg (show ¬ (g_196 x0 1 (g_199 x0 1 (g_199 x0 0 (g_194 x0 9050719969 (g_194 x0 1831504 (g_194 x0 316189 (g_194 x0 208022 d))))))) x0 13 = 0 from c8)]
                    rw [y0] at h
                    exact h (fun b hb => (F b hb).trans ((show ∀ b : Int, (b < x0 ∨ x0 + 1 < b) → (g_196 x0 1 (g_199 x0 1 (g_199 x0 0 (g_194 x0 9050719969 (g_194 x0 1831504 (g_194 x0 316189 (g_194 x0 208022 d))))))) b = d b from fun b hb => (F12 b (by omega)).trans ((F7 b (by omega)).trans ((F6 b (by omega)).trans ((F5 b (by omega)).trans ((F4 b (by omega)).trans ((F3 b (by omega)).trans (F2 b (by omega)))))))) b hb)) (k0.trans (((((((k12_0).trans (k7_0)).trans (k6_0)).trans (k5_0)).trans (k4_0)).trans (k3_0)).trans (k2_0))) P_hmp P_hmw (by omega) hS_
                  · have q67 := miand_r x1 1 (by decide) (by decide)
                    have q68 := mbool x1
                    have q69 := r_11_f10 hS12 hx0
                    have q70 : (g_196 x0 1 (g_199 x0 1 (g_199 x0 0 (g_194 x0 9050719969 (g_194 x0 1831504 (g_194 x0 316189 (g_194 x0 208022 d))))))) (x0 + 1) 0 = d (x0 + 1) 0 := ((((((congrFun (F12 (x0 + 1) (by omega)) 0).trans (congrFun (F7 (x0 + 1) (by omega)) 0)).trans (congrFun (F6 (x0 + 1) (by omega)) 0)).trans (congrFun (F5 (x0 + 1) (by omega)) 0)).trans (congrFun (F4 (x0 + 1) (by omega)) 0)).trans (congrFun (F3 (x0 + 1) (by omega)) 0)).trans (congrFun (F2 (x0 + 1) (by omega)) 0)
                    refine ih13 (miand x1 1) (.inl (0, v_199 x0 0 (g_194 x0 9050719969 (g_194 x0 1831504 (g_194 x0 316189 (g_194 x0 208022 d)))))) (.inl (0, v_201 x0 (v_199 x0 1 (g_199 x0 0 (g_194 x0 9050719969 (g_194 x0 1831504 (g_194 x0 316189 (g_194 x0 208022 d)))))) (g_199 x0 1 (g_199 x0 0 (g_194 x0 9050719969 (g_194 x0 1831504 (g_194 x0 316189 (g_194 x0 208022 d)))))))) v4 (g_196 x0 1 (g_199 x0 1 (g_199 x0 0 (g_194 x0 9050719969 (g_194 x0 1831504 (g_194 x0 316189 (g_194 x0 208022 d))))))) hS12 (by omega) (mpP.of (mh_7 hS hx0 _ rfl) (show ∀ i : Int, i = 7 ∨ (12 ≤ i ∧ i < 420 ∧ (i - 12) % 68 = 2) → (g_196 x0 1 (g_199 x0 1 (g_199 x0 0 (g_194 x0 9050719969 (g_194 x0 1831504 (g_194 x0 316189 (g_194 x0 208022 d))))))) (x0 + 1) i = d (x0 + 1) i from fun i hi => ((((((congrFun (F12 (x0 + 1) (by omega)) i).trans (congrFun (F7 (x0 + 1) (by omega)) i)).trans (congrFun (F6 (x0 + 1) (by omega)) i)).trans (congrFun (F5 (x0 + 1) (by omega)) i)).trans (congrFun (F4 (x0 + 1) (by omega)) i)).trans (congrFun (F3 (x0 + 1) (by omega)) i)).trans (congrFun (F2 (x0 + 1) (by omega)) i)) hmp) (mwP.eq (F12 (x0 + 1) (by omega)) (mwP.eq (F7 (x0 + 1) (by omega)) (mwP.eq (F6 (x0 + 1) (by omega)) (mwP.eq (F5 (x0 + 1) (by omega)) (mwP.eq (F4 (x0 + 1) (by omega)) (mwP.eq (F3 (x0 + 1) (by omega)) (mwP.eq (F2 (x0 + 1) (by omega)) hmw))))))) (by omega) (by omega) (by omega) ?_
                    intro F k0 P_hmp P_hmw n0 hS_
                    have y0 : st_205_13 x0 r13 x1 d = r13 (miand x1 1) (g_196 x0 1 (g_199 x0 1 (g_199 x0 0 (g_194 x0 9050719969 (g_194 x0 1831504 (g_194 x0 316189 (g_194 x0 208022 d))))))) := by simp only [st_205_13, if_neg (show ¬ x1 = 0 from c0), if_pos (show v_194 x0 208022 d = 0 from c1), if_pos (show v_194 x0 316189 (g_194 x0 208022 d) = 0 from c2), if_pos (show v_194 x0 1831504 (g_194 x0 316189 (g_194 x0 208022 d)) = 0 from c3), if_neg (show ¬ v_194 x0 9050719969 (g_194 x0 1831504 (g_194 x0 316189 (g_194 x0 208022 d))) = 0 from c4), if_pos (show (g_199 x0 1 (g_199 x0 0 (g_194 x0 9050719969 (g_194 x0 1831504 (g_194 x0 316189 (g_194 x0 208022 d)))))) x0 13 = 0 from c5), if_pos (show v_234 x0 (v_201 x0 (v_199 x0 1 (g_199 x0 0 (g_194 x0 9050719969 (g_194 x0 1831504 (g_194 x0 316189 (g_194 x0 208022 d)))))) (g_199 x0 1 (g_199 x0 0 (g_194 x0 9050719969 (g_194 x0 1831504 (g_194 x0 316189 (g_194 x0 208022 d))))))) (v_199 x0 0 (g_194 x0 9050719969 (g_194 x0 1831504 (g_194 x0 316189 (g_194 x0 208022 d))))) (g_199 x0 1 (g_199 x0 0 (g_194 x0 9050719969 (g_194 x0 1831504 (g_194 x0 316189 (g_194 x0 208022 d)))))) = 0 from c6), if_pos (show v_196 x0 1 (g_199 x0 1 (g_199 x0 0 (g_194 x0 9050719969 (g_194 x0 1831504 (g_194 x0 316189 (g_194 x0 208022 d)))))) = 0 from c7), if_pos (show (g_196 x0 1 (g_199 x0 1 (g_199 x0 0 (g_194 x0 9050719969 (g_194 x0 1831504 (g_194 x0 316189 (g_194 x0 208022 d))))))) x0 13 = 0 from c8)]
                    rw [y0] at h
                    exact h (fun b hb => (F b hb).trans ((show ∀ b : Int, (b < x0 ∨ x0 + 1 < b) → (g_196 x0 1 (g_199 x0 1 (g_199 x0 0 (g_194 x0 9050719969 (g_194 x0 1831504 (g_194 x0 316189 (g_194 x0 208022 d))))))) b = d b from fun b hb => (F12 b (by omega)).trans ((F7 b (by omega)).trans ((F6 b (by omega)).trans ((F5 b (by omega)).trans ((F4 b (by omega)).trans ((F3 b (by omega)).trans (F2 b (by omega)))))))) b hb)) (k0.trans (((((((k12_0).trans (k7_0)).trans (k6_0)).trans (k5_0)).trans (k4_0)).trans (k3_0)).trans (k2_0))) P_hmp P_hmw (by omega) hS_
                · have q71 : (g_196 x0 1 (g_199 x0 1 (g_199 x0 0 (g_194 x0 9050719969 (g_194 x0 1831504 (g_194 x0 316189 (g_194 x0 208022 d))))))) (x0 + 1) (452 + 24 * v_201 x0 (v_199 x0 1 (g_199 x0 0 (g_194 x0 9050719969 (g_194 x0 1831504 (g_194 x0 316189 (g_194 x0 208022 d)))))) (g_199 x0 1 (g_199 x0 0 (g_194 x0 9050719969 (g_194 x0 1831504 (g_194 x0 316189 (g_194 x0 208022 d)))))) + 6) = d (x0 + 1) (452 + 24 * v_201 x0 (v_199 x0 1 (g_199 x0 0 (g_194 x0 9050719969 (g_194 x0 1831504 (g_194 x0 316189 (g_194 x0 208022 d)))))) (g_199 x0 1 (g_199 x0 0 (g_194 x0 9050719969 (g_194 x0 1831504 (g_194 x0 316189 (g_194 x0 208022 d)))))) + 6) := ((((((congrFun (F12 (x0 + 1) (by omega)) (452 + 24 * v_201 x0 (v_199 x0 1 (g_199 x0 0 (g_194 x0 9050719969 (g_194 x0 1831504 (g_194 x0 316189 (g_194 x0 208022 d)))))) (g_199 x0 1 (g_199 x0 0 (g_194 x0 9050719969 (g_194 x0 1831504 (g_194 x0 316189 (g_194 x0 208022 d)))))) + 6)).trans (congrFun (F7 (x0 + 1) (by omega)) (452 + 24 * v_201 x0 (v_199 x0 1 (g_199 x0 0 (g_194 x0 9050719969 (g_194 x0 1831504 (g_194 x0 316189 (g_194 x0 208022 d)))))) (g_199 x0 1 (g_199 x0 0 (g_194 x0 9050719969 (g_194 x0 1831504 (g_194 x0 316189 (g_194 x0 208022 d)))))) + 6))).trans (congrFun (F6 (x0 + 1) (by omega)) (452 + 24 * v_201 x0 (v_199 x0 1 (g_199 x0 0 (g_194 x0 9050719969 (g_194 x0 1831504 (g_194 x0 316189 (g_194 x0 208022 d)))))) (g_199 x0 1 (g_199 x0 0 (g_194 x0 9050719969 (g_194 x0 1831504 (g_194 x0 316189 (g_194 x0 208022 d)))))) + 6))).trans (congrFun (F5 (x0 + 1) (by omega)) (452 + 24 * v_201 x0 (v_199 x0 1 (g_199 x0 0 (g_194 x0 9050719969 (g_194 x0 1831504 (g_194 x0 316189 (g_194 x0 208022 d)))))) (g_199 x0 1 (g_199 x0 0 (g_194 x0 9050719969 (g_194 x0 1831504 (g_194 x0 316189 (g_194 x0 208022 d)))))) + 6))).trans (congrFun (F4 (x0 + 1) (by omega)) (452 + 24 * v_201 x0 (v_199 x0 1 (g_199 x0 0 (g_194 x0 9050719969 (g_194 x0 1831504 (g_194 x0 316189 (g_194 x0 208022 d)))))) (g_199 x0 1 (g_199 x0 0 (g_194 x0 9050719969 (g_194 x0 1831504 (g_194 x0 316189 (g_194 x0 208022 d)))))) + 6))).trans (congrFun (F3 (x0 + 1) (by omega)) (452 + 24 * v_201 x0 (v_199 x0 1 (g_199 x0 0 (g_194 x0 9050719969 (g_194 x0 1831504 (g_194 x0 316189 (g_194 x0 208022 d)))))) (g_199 x0 1 (g_199 x0 0 (g_194 x0 9050719969 (g_194 x0 1831504 (g_194 x0 316189 (g_194 x0 208022 d)))))) + 6))).trans (congrFun (F2 (x0 + 1) (by omega)) (452 + 24 * v_201 x0 (v_199 x0 1 (g_199 x0 0 (g_194 x0 9050719969 (g_194 x0 1831504 (g_194 x0 316189 (g_194 x0 208022 d)))))) (g_199 x0 1 (g_199 x0 0 (g_194 x0 9050719969 (g_194 x0 1831504 (g_194 x0 316189 (g_194 x0 208022 d)))))) + 6))
                  refine k_235 hS12 hx0 (by omega) (by omega) (mpP.of (mh_7 hS hx0 _ rfl) (show ∀ i : Int, i = 7 ∨ (12 ≤ i ∧ i < 420 ∧ (i - 12) % 68 = 2) → (g_196 x0 1 (g_199 x0 1 (g_199 x0 0 (g_194 x0 9050719969 (g_194 x0 1831504 (g_194 x0 316189 (g_194 x0 208022 d))))))) (x0 + 1) i = d (x0 + 1) i from fun i hi => ((((((congrFun (F12 (x0 + 1) (by omega)) i).trans (congrFun (F7 (x0 + 1) (by omega)) i)).trans (congrFun (F6 (x0 + 1) (by omega)) i)).trans (congrFun (F5 (x0 + 1) (by omega)) i)).trans (congrFun (F4 (x0 + 1) (by omega)) i)).trans (congrFun (F3 (x0 + 1) (by omega)) i)).trans (congrFun (F2 (x0 + 1) (by omega)) i)) hmp) (mwP.eq (F12 (x0 + 1) (by omega)) (mwP.eq (F7 (x0 + 1) (by omega)) (mwP.eq (F6 (x0 + 1) (by omega)) (mwP.eq (F5 (x0 + 1) (by omega)) (mwP.eq (F4 (x0 + 1) (by omega)) (mwP.eq (F3 (x0 + 1) (by omega)) (mwP.eq (F2 (x0 + 1) (by omega)) hmw))))))) (by omega) (fun e14 F13 Q13 P13hmp P13hmw hS13 => ?_)
                  refine t_205_257 ?_
                  have w8 := r_11_f9 hS13 hx0
                  have w9 := r_11_f10 hS13 hx0
                  rw [F13 x0 (by omega)]
                  have q72 := r_11_f13 hS12 hx0
                  refine ⟨m_inR (by omega) (by omega), fun c8 => ?_, fun c8 => ?_⟩
                  · have q73 := miand_r x1 0 (by decide) (by decide)
                    have q74 := mbool x1
                    have q75 := r_11_f10 hS13 hx0
                    have q76 : (g_235 x0 (v_201 x0 (v_199 x0 1 (g_199 x0 0 (g_194 x0 9050719969 (g_194 x0 1831504 (g_194 x0 316189 (g_194 x0 208022 d)))))) (g_199 x0 1 (g_199 x0 0 (g_194 x0 9050719969 (g_194 x0 1831504 (g_194 x0 316189 (g_194 x0 208022 d))))))) (v_199 x0 0 (g_194 x0 9050719969 (g_194 x0 1831504 (g_194 x0 316189 (g_194 x0 208022 d))))) (g_196 x0 1 (g_199 x0 1 (g_199 x0 0 (g_194 x0 9050719969 (g_194 x0 1831504 (g_194 x0 316189 (g_194 x0 208022 d)))))))) (x0 + 1) 0 = d (x0 + 1) 0 := (((((((Q13 0 (by omega)).trans (congrFun (F12 (x0 + 1) (by omega)) 0)).trans (congrFun (F7 (x0 + 1) (by omega)) 0)).trans (congrFun (F6 (x0 + 1) (by omega)) 0)).trans (congrFun (F5 (x0 + 1) (by omega)) 0)).trans (congrFun (F4 (x0 + 1) (by omega)) 0)).trans (congrFun (F3 (x0 + 1) (by omega)) 0)).trans (congrFun (F2 (x0 + 1) (by omega)) 0)
                    have q77 : (g_235 x0 (v_201 x0 (v_199 x0 1 (g_199 x0 0 (g_194 x0 9050719969 (g_194 x0 1831504 (g_194 x0 316189 (g_194 x0 208022 d)))))) (g_199 x0 1 (g_199 x0 0 (g_194 x0 9050719969 (g_194 x0 1831504 (g_194 x0 316189 (g_194 x0 208022 d))))))) (v_199 x0 0 (g_194 x0 9050719969 (g_194 x0 1831504 (g_194 x0 316189 (g_194 x0 208022 d))))) (g_196 x0 1 (g_199 x0 1 (g_199 x0 0 (g_194 x0 9050719969 (g_194 x0 1831504 (g_194 x0 316189 (g_194 x0 208022 d)))))))) x0 10 = (g_196 x0 1 (g_199 x0 1 (g_199 x0 0 (g_194 x0 9050719969 (g_194 x0 1831504 (g_194 x0 316189 (g_194 x0 208022 d))))))) x0 10 := congrFun (F13 x0 (by omega)) 10
                    refine ih13 (miand x1 0) (.inl (0, v_199 x0 0 (g_194 x0 9050719969 (g_194 x0 1831504 (g_194 x0 316189 (g_194 x0 208022 d)))))) (.inl (0, v_201 x0 (v_199 x0 1 (g_199 x0 0 (g_194 x0 9050719969 (g_194 x0 1831504 (g_194 x0 316189 (g_194 x0 208022 d)))))) (g_199 x0 1 (g_199 x0 0 (g_194 x0 9050719969 (g_194 x0 1831504 (g_194 x0 316189 (g_194 x0 208022 d)))))))) (.inl (0, v_235 x0 (v_201 x0 (v_199 x0 1 (g_199 x0 0 (g_194 x0 9050719969 (g_194 x0 1831504 (g_194 x0 316189 (g_194 x0 208022 d)))))) (g_199 x0 1 (g_199 x0 0 (g_194 x0 9050719969 (g_194 x0 1831504 (g_194 x0 316189 (g_194 x0 208022 d))))))) (v_199 x0 0 (g_194 x0 9050719969 (g_194 x0 1831504 (g_194 x0 316189 (g_194 x0 208022 d))))) (g_196 x0 1 (g_199 x0 1 (g_199 x0 0 (g_194 x0 9050719969 (g_194 x0 1831504 (g_194 x0 316189 (g_194 x0 208022 d))))))))) (g_235 x0 (v_201 x0 (v_199 x0 1 (g_199 x0 0 (g_194 x0 9050719969 (g_194 x0 1831504 (g_194 x0 316189 (g_194 x0 208022 d)))))) (g_199 x0 1 (g_199 x0 0 (g_194 x0 9050719969 (g_194 x0 1831504 (g_194 x0 316189 (g_194 x0 208022 d))))))) (v_199 x0 0 (g_194 x0 9050719969 (g_194 x0 1831504 (g_194 x0 316189 (g_194 x0 208022 d))))) (g_196 x0 1 (g_199 x0 1 (g_199 x0 0 (g_194 x0 9050719969 (g_194 x0 1831504 (g_194 x0 316189 (g_194 x0 208022 d)))))))) hS13 (by omega) P13hmp P13hmw (by omega) (by omega) (by omega) ?_
                    intro F k0 P_hmp P_hmw n0 hS_
                    have y0 : st_205_13 x0 r13 x1 d = r13 (miand x1 0) (g_235 x0 (v_201 x0 (v_199 x0 1 (g_199 x0 0 (g_194 x0 9050719969 (g_194 x0 1831504 (g_194 x0 316189 (g_194 x0 208022 d)))))) (g_199 x0 1 (g_199 x0 0 (g_194 x0 9050719969 (g_194 x0 1831504 (g_194 x0 316189 (g_194 x0 208022 d))))))) (v_199 x0 0 (g_194 x0 9050719969 (g_194 x0 1831504 (g_194 x0 316189 (g_194 x0 208022 d))))) (g_196 x0 1 (g_199 x0 1 (g_199 x0 0 (g_194 x0 9050719969 (g_194 x0 1831504 (g_194 x0 316189 (g_194 x0 208022 d)))))))) := by simp only [st_205_13, if_neg (show ¬ x1 = 0 from c0), if_pos (show v_194 x0 208022 d = 0 from c1), if_pos (show v_194 x0 316189 (g_194 x0 208022 d) = 0 from c2), if_pos (show v_194 x0 1831504 (g_194 x0 316189 (g_194 x0 208022 d)) = 0 from c3), if_neg (show ¬ v_194 x0 9050719969 (g_194 x0 1831504 (g_194 x0 316189 (g_194 x0 208022 d))) = 0 from c4), if_pos (show (g_199 x0 1 (g_199 x0 0 (g_194 x0 9050719969 (g_194 x0 1831504 (g_194 x0 316189 (g_194 x0 208022 d)))))) x0 13 = 0 from c5), if_pos (show v_234 x0 (v_201 x0 (v_199 x0 1 (g_199 x0 0 (g_194 x0 9050719969 (g_194 x0 1831504 (g_194 x0 316189 (g_194 x0 208022 d)))))) (g_199 x0 1 (g_199 x0 0 (g_194 x0 9050719969 (g_194 x0 1831504 (g_194 x0 316189 (g_194 x0 208022 d))))))) (v_199 x0 0 (g_194 x0 9050719969 (g_194 x0 1831504 (g_194 x0 316189 (g_194 x0 208022 d))))) (g_199 x0 1 (g_199 x0 0 (g_194 x0 9050719969 (g_194 x0 1831504 (g_194 x0 316189 (g_194 x0 208022 d)))))) = 0 from c6), if_neg (show ¬ v_196 x0 1 (g_199 x0 1 (g_199 x0 0 (g_194 x0 9050719969 (g_194 x0 1831504 (g_194 x0 316189 (g_194 x0 208022 d)))))) = 0 from c7), if_neg (show ¬ (g_196 x0 1 (g_199 x0 1 (g_199 x0 0 (g_194 x0 9050719969 (g_194 x0 1831504 (g_194 x0 316189 (g_194 x0 208022 d))))))) x0 13 = 0 from c8)]
                    rw [y0] at h
                    exact h (fun b hb => (F b hb).trans ((show ∀ b : Int, (b < x0 ∨ x0 + 1 < b) → (g_235 x0 (v_201 x0 (v_199 x0 1 (g_199 x0 0 (g_194 x0 9050719969 (g_194 x0 1831504 (g_194 x0 316189 (g_194 x0 208022 d)))))) (g_199 x0 1 (g_199 x0 0 (g_194 x0 9050719969 (g_194 x0 1831504 (g_194 x0 316189 (g_194 x0 208022 d))))))) (v_199 x0 0 (g_194 x0 9050719969 (g_194 x0 1831504 (g_194 x0 316189 (g_194 x0 208022 d))))) (g_196 x0 1 (g_199 x0 1 (g_199 x0 0 (g_194 x0 9050719969 (g_194 x0 1831504 (g_194 x0 316189 (g_194 x0 208022 d)))))))) b = d b from fun b hb => (F13 b (by omega)).trans ((F12 b (by omega)).trans ((F7 b (by omega)).trans ((F6 b (by omega)).trans ((F5 b (by omega)).trans ((F4 b (by omega)).trans ((F3 b (by omega)).trans (F2 b (by omega))))))))) b hb)) (k0.trans ((((((((congrFun (F13 x0 (by omega)) 9).trans (k12_0)).trans (k7_0)).trans (k6_0)).trans (k5_0)).trans (k4_0)).trans (k3_0)).trans (k2_0))) P_hmp P_hmw (by omega) hS_
                  · have q78 := miand_r x1 1 (by decide) (by decide)
                    have q79 := mbool x1
                    have q80 := r_11_f10 hS13 hx0
                    have q81 : (g_235 x0 (v_201 x0 (v_199 x0 1 (g_199 x0 0 (g_194 x0 9050719969 (g_194 x0 1831504 (g_194 x0 316189 (g_194 x0 208022 d)))))) (g_199 x0 1 (g_199 x0 0 (g_194 x0 9050719969 (g_194 x0 1831504 (g_194 x0 316189 (g_194 x0 208022 d))))))) (v_199 x0 0 (g_194 x0 9050719969 (g_194 x0 1831504 (g_194 x0 316189 (g_194 x0 208022 d))))) (g_196 x0 1 (g_199 x0 1 (g_199 x0 0 (g_194 x0 9050719969 (g_194 x0 1831504 (g_194 x0 316189 (g_194 x0 208022 d)))))))) (x0 + 1) 0 = d (x0 + 1) 0 := (((((((Q13 0 (by omega)).trans (congrFun (F12 (x0 + 1) (by omega)) 0)).trans (congrFun (F7 (x0 + 1) (by omega)) 0)).trans (congrFun (F6 (x0 + 1) (by omega)) 0)).trans (congrFun (F5 (x0 + 1) (by omega)) 0)).trans (congrFun (F4 (x0 + 1) (by omega)) 0)).trans (congrFun (F3 (x0 + 1) (by omega)) 0)).trans (congrFun (F2 (x0 + 1) (by omega)) 0)
                    have q82 : (g_235 x0 (v_201 x0 (v_199 x0 1 (g_199 x0 0 (g_194 x0 9050719969 (g_194 x0 1831504 (g_194 x0 316189 (g_194 x0 208022 d)))))) (g_199 x0 1 (g_199 x0 0 (g_194 x0 9050719969 (g_194 x0 1831504 (g_194 x0 316189 (g_194 x0 208022 d))))))) (v_199 x0 0 (g_194 x0 9050719969 (g_194 x0 1831504 (g_194 x0 316189 (g_194 x0 208022 d))))) (g_196 x0 1 (g_199 x0 1 (g_199 x0 0 (g_194 x0 9050719969 (g_194 x0 1831504 (g_194 x0 316189 (g_194 x0 208022 d)))))))) x0 10 = (g_196 x0 1 (g_199 x0 1 (g_199 x0 0 (g_194 x0 9050719969 (g_194 x0 1831504 (g_194 x0 316189 (g_194 x0 208022 d))))))) x0 10 := congrFun (F13 x0 (by omega)) 10
                    refine ih13 (miand x1 1) (.inl (0, v_199 x0 0 (g_194 x0 9050719969 (g_194 x0 1831504 (g_194 x0 316189 (g_194 x0 208022 d)))))) (.inl (0, v_201 x0 (v_199 x0 1 (g_199 x0 0 (g_194 x0 9050719969 (g_194 x0 1831504 (g_194 x0 316189 (g_194 x0 208022 d)))))) (g_199 x0 1 (g_199 x0 0 (g_194 x0 9050719969 (g_194 x0 1831504 (g_194 x0 316189 (g_194 x0 208022 d)))))))) (.inl (0, v_235 x0 (v_201 x0 (v_199 x0 1 (g_199 x0 0 (g_194 x0 9050719969 (g_194 x0 1831504 (g_194 x0 316189 (g_194 x0 208022 d)))))) (g_199 x0 1 (g_199 x0 0 (g_194 x0 9050719969 (g_194 x0 1831504 (g_194 x0 316189 (g_194 x0 208022 d))))))) (v_199 x0 0 (g_194 x0 9050719969 (g_194 x0 1831504 (g_194 x0 316189 (g_194 x0 208022 d))))) (g_196 x0 1 (g_199 x0 1 (g_199 x0 0 (g_194 x0 9050719969 (g_194 x0 1831504 (g_194 x0 316189 (g_194 x0 208022 d))))))))) (g_235 x0 (v_201 x0 (v_199 x0 1 (g_199 x0 0 (g_194 x0 9050719969 (g_194 x0 1831504 (g_194 x0 316189 (g_194 x0 208022 d)))))) (g_199 x0 1 (g_199 x0 0 (g_194 x0 9050719969 (g_194 x0 1831504 (g_194 x0 316189 (g_194 x0 208022 d))))))) (v_199 x0 0 (g_194 x0 9050719969 (g_194 x0 1831504 (g_194 x0 316189 (g_194 x0 208022 d))))) (g_196 x0 1 (g_199 x0 1 (g_199 x0 0 (g_194 x0 9050719969 (g_194 x0 1831504 (g_194 x0 316189 (g_194 x0 208022 d)))))))) hS13 (by omega) P13hmp P13hmw (by omega) (by omega) (by omega) ?_
                    intro F k0 P_hmp P_hmw n0 hS_
                    have y0 : st_205_13 x0 r13 x1 d = r13 (miand x1 1) (g_235 x0 (v_201 x0 (v_199 x0 1 (g_199 x0 0 (g_194 x0 9050719969 (g_194 x0 1831504 (g_194 x0 316189 (g_194 x0 208022 d)))))) (g_199 x0 1 (g_199 x0 0 (g_194 x0 9050719969 (g_194 x0 1831504 (g_194 x0 316189 (g_194 x0 208022 d))))))) (v_199 x0 0 (g_194 x0 9050719969 (g_194 x0 1831504 (g_194 x0 316189 (g_194 x0 208022 d))))) (g_196 x0 1 (g_199 x0 1 (g_199 x0 0 (g_194 x0 9050719969 (g_194 x0 1831504 (g_194 x0 316189 (g_194 x0 208022 d)))))))) := by simp only [st_205_13, if_neg (show ¬ x1 = 0 from c0), if_pos (show v_194 x0 208022 d = 0 from c1), if_pos (show v_194 x0 316189 (g_194 x0 208022 d) = 0 from c2), if_pos (show v_194 x0 1831504 (g_194 x0 316189 (g_194 x0 208022 d)) = 0 from c3), if_neg (show ¬ v_194 x0 9050719969 (g_194 x0 1831504 (g_194 x0 316189 (g_194 x0 208022 d))) = 0 from c4), if_pos (show (g_199 x0 1 (g_199 x0 0 (g_194 x0 9050719969 (g_194 x0 1831504 (g_194 x0 316189 (g_194 x0 208022 d)))))) x0 13 = 0 from c5), if_pos (show v_234 x0 (v_201 x0 (v_199 x0 1 (g_199 x0 0 (g_194 x0 9050719969 (g_194 x0 1831504 (g_194 x0 316189 (g_194 x0 208022 d)))))) (g_199 x0 1 (g_199 x0 0 (g_194 x0 9050719969 (g_194 x0 1831504 (g_194 x0 316189 (g_194 x0 208022 d))))))) (v_199 x0 0 (g_194 x0 9050719969 (g_194 x0 1831504 (g_194 x0 316189 (g_194 x0 208022 d))))) (g_199 x0 1 (g_199 x0 0 (g_194 x0 9050719969 (g_194 x0 1831504 (g_194 x0 316189 (g_194 x0 208022 d)))))) = 0 from c6), if_neg (show ¬ v_196 x0 1 (g_199 x0 1 (g_199 x0 0 (g_194 x0 9050719969 (g_194 x0 1831504 (g_194 x0 316189 (g_194 x0 208022 d)))))) = 0 from c7), if_pos (show (g_196 x0 1 (g_199 x0 1 (g_199 x0 0 (g_194 x0 9050719969 (g_194 x0 1831504 (g_194 x0 316189 (g_194 x0 208022 d))))))) x0 13 = 0 from c8)]
                    rw [y0] at h
                    exact h (fun b hb => (F b hb).trans ((show ∀ b : Int, (b < x0 ∨ x0 + 1 < b) → (g_235 x0 (v_201 x0 (v_199 x0 1 (g_199 x0 0 (g_194 x0 9050719969 (g_194 x0 1831504 (g_194 x0 316189 (g_194 x0 208022 d)))))) (g_199 x0 1 (g_199 x0 0 (g_194 x0 9050719969 (g_194 x0 1831504 (g_194 x0 316189 (g_194 x0 208022 d))))))) (v_199 x0 0 (g_194 x0 9050719969 (g_194 x0 1831504 (g_194 x0 316189 (g_194 x0 208022 d))))) (g_196 x0 1 (g_199 x0 1 (g_199 x0 0 (g_194 x0 9050719969 (g_194 x0 1831504 (g_194 x0 316189 (g_194 x0 208022 d)))))))) b = d b from fun b hb => (F13 b (by omega)).trans ((F12 b (by omega)).trans ((F7 b (by omega)).trans ((F6 b (by omega)).trans ((F5 b (by omega)).trans ((F4 b (by omega)).trans ((F3 b (by omega)).trans (F2 b (by omega))))))))) b hb)) (k0.trans ((((((((congrFun (F13 x0 (by omega)) 9).trans (k12_0)).trans (k7_0)).trans (k6_0)).trans (k5_0)).trans (k4_0)).trans (k3_0)).trans (k2_0))) P_hmp P_hmw (by omega) hS_
        · refine k_199 hS4 hx0 (by omega) (fun e15 F14 k14_0 n14_0 n14_1 n14_2 hS14 => ?_)
          refine t_205_157 ?_
          have w8 := r_11_f9 hS14 hx0
          have w9 := r_11_f10 hS14 hx0
          refine k_201 hS14 hx0 (m_inR (by omega) (by omega)) (fun e16 => ?_)
          refine t_205_160 ?_
          have w8 := r_11_f9 hS14 hx0
          have w9 := r_11_f10 hS14 hx0
          have q83 := r_11_f13 hS14 hx0
          refine ⟨m_inR (by omega) (by omega), fun c4 => ?_, fun c4 => ?_⟩
          · refine k_196 hS14 hx0 (by omega) (fun e17 F15 k15_0 n15_0 n15_1 n15_2 hS15 => ?_)
            refine t_205_185 ?_
            have w8 := r_11_f9 hS15 hx0
            have w9 := r_11_f10 hS15 hx0
            refine ⟨m_inR (by omega) (by omega), fun c5 => ?_, fun c5 => ?_⟩
            · have q84 := r_11_f13 hS15 hx0
              refine ⟨m_inR (by omega) (by omega), fun c6 => ?_, fun c6 => ?_⟩
              · have q85 := miand_r x1 0 (by decide) (by decide)
                have q86 := mbool x1
                have q87 := r_11_f10 hS15 hx0
                have q88 : (g_196 x0 0 (g_199 x0 1 (g_194 x0 1831504 (g_194 x0 316189 (g_194 x0 208022 d))))) (x0 + 1) 0 = d (x0 + 1) 0 := ((((congrFun (F15 (x0 + 1) (by omega)) 0).trans (congrFun (F14 (x0 + 1) (by omega)) 0)).trans (congrFun (F4 (x0 + 1) (by omega)) 0)).trans (congrFun (F3 (x0 + 1) (by omega)) 0)).trans (congrFun (F2 (x0 + 1) (by omega)) 0)
                refine ih13 (miand x1 0) (.inl (0, v_201 x0 (v_199 x0 1 (g_194 x0 1831504 (g_194 x0 316189 (g_194 x0 208022 d)))) (g_199 x0 1 (g_194 x0 1831504 (g_194 x0 316189 (g_194 x0 208022 d)))))) v3 v4 (g_196 x0 0 (g_199 x0 1 (g_194 x0 1831504 (g_194 x0 316189 (g_194 x0 208022 d))))) hS15 (by omega) (mpP.of (mh_7 hS hx0 _ rfl) (show ∀ i : Int, i = 7 ∨ (12 ≤ i ∧ i < 420 ∧ (i - 12) % 68 = 2) → (g_196 x0 0 (g_199 x0 1 (g_194 x0 1831504 (g_194 x0 316189 (g_194 x0 208022 d))))) (x0 + 1) i = d (x0 + 1) i from fun i hi => ((((congrFun (F15 (x0 + 1) (by omega)) i).trans (congrFun (F14 (x0 + 1) (by omega)) i)).trans (congrFun (F4 (x0 + 1) (by omega)) i)).trans (congrFun (F3 (x0 + 1) (by omega)) i)).trans (congrFun (F2 (x0 + 1) (by omega)) i)) hmp) (mwP.eq (F15 (x0 + 1) (by omega)) (mwP.eq (F14 (x0 + 1) (by omega)) (mwP.eq (F4 (x0 + 1) (by omega)) (mwP.eq (F3 (x0 + 1) (by omega)) (mwP.eq (F2 (x0 + 1) (by omega)) hmw))))) (by omega) (by omega) (by omega) ?_
                intro F k0 P_hmp P_hmw n0 hS_
                have y0 : st_205_13 x0 r13 x1 d = r13 (miand x1 0) (g_196 x0 0 (g_199 x0 1 (g_194 x0 1831504 (g_194 x0 316189 (g_194 x0 208022 d))))) := by simp only [st_205_13, if_neg (show ¬ x1 = 0 from c0), if_pos (show v_194 x0 208022 d = 0 from c1), if_pos (show v_194 x0 316189 (g_194 x0 208022 d) = 0 from c2), if_neg (show ¬ v_194 x0 1831504 (g_194 x0 316189 (g_194 x0 208022 d)) = 0 from c3), if_neg (show ¬ (g_199 x0 1 (g_194 x0 1831504 (g_194 x0 316189 (g_194 x0 208022 d)))) x0 13 = 0 from c4), if_pos (show v_196 x0 0 (g_199 x0 1 (g_194 x0 1831504 (g_194 x0 316189 (g_194 x0 208022 d)))) = 0 from c5), if_neg (show ¬ (g_196 x0 0 (g_199 x0 1 (g_194 x0 1831504 (g_194 x0 316189 (g_194 x0 208022 d))))) x0 13 = 0 from c6)]
                rw [y0] at h
                exact h (fun b hb => (F b hb).trans ((show ∀ b : Int, (b < x0 ∨ x0 + 1 < b) → (g_196 x0 0 (g_199 x0 1 (g_194 x0 1831504 (g_194 x0 316189 (g_194 x0 208022 d))))) b = d b from fun b hb => (F15 b (by omega)).trans ((F14 b (by omega)).trans ((F4 b (by omega)).trans ((F3 b (by omega)).trans (F2 b (by omega)))))) b hb)) (k0.trans (((((k15_0).trans (k14_0)).trans (k4_0)).trans (k3_0)).trans (k2_0))) P_hmp P_hmw (by omega) hS_
              · have q89 := miand_r x1 1 (by decide) (by decide)
                have q90 := mbool x1
                have q91 := r_11_f10 hS15 hx0
                have q92 : (g_196 x0 0 (g_199 x0 1 (g_194 x0 1831504 (g_194 x0 316189 (g_194 x0 208022 d))))) (x0 + 1) 0 = d (x0 + 1) 0 := ((((congrFun (F15 (x0 + 1) (by omega)) 0).trans (congrFun (F14 (x0 + 1) (by omega)) 0)).trans (congrFun (F4 (x0 + 1) (by omega)) 0)).trans (congrFun (F3 (x0 + 1) (by omega)) 0)).trans (congrFun (F2 (x0 + 1) (by omega)) 0)
                refine ih13 (miand x1 1) (.inl (0, v_201 x0 (v_199 x0 1 (g_194 x0 1831504 (g_194 x0 316189 (g_194 x0 208022 d)))) (g_199 x0 1 (g_194 x0 1831504 (g_194 x0 316189 (g_194 x0 208022 d)))))) v3 v4 (g_196 x0 0 (g_199 x0 1 (g_194 x0 1831504 (g_194 x0 316189 (g_194 x0 208022 d))))) hS15 (by omega) (mpP.of (mh_7 hS hx0 _ rfl) (show ∀ i : Int, i = 7 ∨ (12 ≤ i ∧ i < 420 ∧ (i - 12) % 68 = 2) → (g_196 x0 0 (g_199 x0 1 (g_194 x0 1831504 (g_194 x0 316189 (g_194 x0 208022 d))))) (x0 + 1) i = d (x0 + 1) i from fun i hi => ((((congrFun (F15 (x0 + 1) (by omega)) i).trans (congrFun (F14 (x0 + 1) (by omega)) i)).trans (congrFun (F4 (x0 + 1) (by omega)) i)).trans (congrFun (F3 (x0 + 1) (by omega)) i)).trans (congrFun (F2 (x0 + 1) (by omega)) i)) hmp) (mwP.eq (F15 (x0 + 1) (by omega)) (mwP.eq (F14 (x0 + 1) (by omega)) (mwP.eq (F4 (x0 + 1) (by omega)) (mwP.eq (F3 (x0 + 1) (by omega)) (mwP.eq (F2 (x0 + 1) (by omega)) hmw))))) (by omega) (by omega) (by omega) ?_
                intro F k0 P_hmp P_hmw n0 hS_
                have y0 : st_205_13 x0 r13 x1 d = r13 (miand x1 1) (g_196 x0 0 (g_199 x0 1 (g_194 x0 1831504 (g_194 x0 316189 (g_194 x0 208022 d))))) := by simp only [st_205_13, if_neg (show ¬ x1 = 0 from c0), if_pos (show v_194 x0 208022 d = 0 from c1), if_pos (show v_194 x0 316189 (g_194 x0 208022 d) = 0 from c2), if_neg (show ¬ v_194 x0 1831504 (g_194 x0 316189 (g_194 x0 208022 d)) = 0 from c3), if_neg (show ¬ (g_199 x0 1 (g_194 x0 1831504 (g_194 x0 316189 (g_194 x0 208022 d)))) x0 13 = 0 from c4), if_pos (show v_196 x0 0 (g_199 x0 1 (g_194 x0 1831504 (g_194 x0 316189 (g_194 x0 208022 d)))) = 0 from c5), if_pos (show (g_196 x0 0 (g_199 x0 1 (g_194 x0 1831504 (g_194 x0 316189 (g_194 x0 208022 d))))) x0 13 = 0 from c6)]
                rw [y0] at h
                exact h (fun b hb => (F b hb).trans ((show ∀ b : Int, (b < x0 ∨ x0 + 1 < b) → (g_196 x0 0 (g_199 x0 1 (g_194 x0 1831504 (g_194 x0 316189 (g_194 x0 208022 d))))) b = d b from fun b hb => (F15 b (by omega)).trans ((F14 b (by omega)).trans ((F4 b (by omega)).trans ((F3 b (by omega)).trans (F2 b (by omega)))))) b hb)) (k0.trans (((((k15_0).trans (k14_0)).trans (k4_0)).trans (k3_0)).trans (k2_0))) P_hmp P_hmw (by omega) hS_
            · refine k_228 hS15 hx0 (by omega) (mpP.of (mh_7 hS hx0 _ rfl) (show ∀ i : Int, i = 7 ∨ (12 ≤ i ∧ i < 420 ∧ (i - 12) % 68 = 2) → (g_196 x0 0 (g_199 x0 1 (g_194 x0 1831504 (g_194 x0 316189 (g_194 x0 208022 d))))) (x0 + 1) i = d (x0 + 1) i from fun i hi => ((((congrFun (F15 (x0 + 1) (by omega)) i).trans (congrFun (F14 (x0 + 1) (by omega)) i)).trans (congrFun (F4 (x0 + 1) (by omega)) i)).trans (congrFun (F3 (x0 + 1) (by omega)) i)).trans (congrFun (F2 (x0 + 1) (by omega)) i)) hmp) (mwP.eq (F15 (x0 + 1) (by omega)) (mwP.eq (F14 (x0 + 1) (by omega)) (mwP.eq (F4 (x0 + 1) (by omega)) (mwP.eq (F3 (x0 + 1) (by omega)) (mwP.eq (F2 (x0 + 1) (by omega)) hmw))))) (fun e18 F16 Q16 P16hmp P16hmw hS16 => ?_)
              refine t_205_193 ?_
              have w8 := r_11_f9 hS16 hx0
              have w9 := r_11_f10 hS16 hx0
              rw [F16 x0 (by omega)]
              have q93 := r_11_f13 hS15 hx0
              refine ⟨m_inR (by omega) (by omega), fun c6 => ?_, fun c6 => ?_⟩
              · have q94 := miand_r x1 0 (by decide) (by decide)
                have q95 := mbool x1
                have q96 := r_11_f10 hS16 hx0
                have q97 : (g_228 x0 (v_201 x0 (v_199 x0 1 (g_194 x0 1831504 (g_194 x0 316189 (g_194 x0 208022 d)))) (g_199 x0 1 (g_194 x0 1831504 (g_194 x0 316189 (g_194 x0 208022 d))))) (g_196 x0 0 (g_199 x0 1 (g_194 x0 1831504 (g_194 x0 316189 (g_194 x0 208022 d)))))) (x0 + 1) 0 = d (x0 + 1) 0 := (((((Q16 0 (by omega)).trans (congrFun (F15 (x0 + 1) (by omega)) 0)).trans (congrFun (F14 (x0 + 1) (by omega)) 0)).trans (congrFun (F4 (x0 + 1) (by omega)) 0)).trans (congrFun (F3 (x0 + 1) (by omega)) 0)).trans (congrFun (F2 (x0 + 1) (by omega)) 0)
                have q98 : (g_228 x0 (v_201 x0 (v_199 x0 1 (g_194 x0 1831504 (g_194 x0 316189 (g_194 x0 208022 d)))) (g_199 x0 1 (g_194 x0 1831504 (g_194 x0 316189 (g_194 x0 208022 d))))) (g_196 x0 0 (g_199 x0 1 (g_194 x0 1831504 (g_194 x0 316189 (g_194 x0 208022 d)))))) x0 10 = (g_196 x0 0 (g_199 x0 1 (g_194 x0 1831504 (g_194 x0 316189 (g_194 x0 208022 d))))) x0 10 := congrFun (F16 x0 (by omega)) 10
                refine ih13 (miand x1 0) (.inl (0, v_201 x0 (v_199 x0 1 (g_194 x0 1831504 (g_194 x0 316189 (g_194 x0 208022 d)))) (g_199 x0 1 (g_194 x0 1831504 (g_194 x0 316189 (g_194 x0 208022 d)))))) (.inl (0, v_228 x0 (v_201 x0 (v_199 x0 1 (g_194 x0 1831504 (g_194 x0 316189 (g_194 x0 208022 d)))) (g_199 x0 1 (g_194 x0 1831504 (g_194 x0 316189 (g_194 x0 208022 d))))) (g_196 x0 0 (g_199 x0 1 (g_194 x0 1831504 (g_194 x0 316189 (g_194 x0 208022 d))))))) v4 (g_228 x0 (v_201 x0 (v_199 x0 1 (g_194 x0 1831504 (g_194 x0 316189 (g_194 x0 208022 d)))) (g_199 x0 1 (g_194 x0 1831504 (g_194 x0 316189 (g_194 x0 208022 d))))) (g_196 x0 0 (g_199 x0 1 (g_194 x0 1831504 (g_194 x0 316189 (g_194 x0 208022 d)))))) hS16 (by omega) P16hmp P16hmw (by omega) (by omega) (by omega) ?_
                intro F k0 P_hmp P_hmw n0 hS_
                have y0 : st_205_13 x0 r13 x1 d = r13 (miand x1 0) (g_228 x0 (v_201 x0 (v_199 x0 1 (g_194 x0 1831504 (g_194 x0 316189 (g_194 x0 208022 d)))) (g_199 x0 1 (g_194 x0 1831504 (g_194 x0 316189 (g_194 x0 208022 d))))) (g_196 x0 0 (g_199 x0 1 (g_194 x0 1831504 (g_194 x0 316189 (g_194 x0 208022 d)))))) := by simp only [st_205_13, if_neg (show ¬ x1 = 0 from c0), if_pos (show v_194 x0 208022 d = 0 from c1), if_pos (show v_194 x0 316189 (g_194 x0 208022 d) = 0 from c2), if_neg (show ¬ v_194 x0 1831504 (g_194 x0 316189 (g_194 x0 208022 d)) = 0 from c3), if_neg (show ¬ (g_199 x0 1 (g_194 x0 1831504 (g_194 x0 316189 (g_194 x0 208022 d)))) x0 13 = 0 from c4), if_neg (show ¬ v_196 x0 0 (g_199 x0 1 (g_194 x0 1831504 (g_194 x0 316189 (g_194 x0 208022 d)))) = 0 from c5), if_neg (show ¬ (g_196 x0 0 (g_199 x0 1 (g_194 x0 1831504 (g_194 x0 316189 (g_194 x0 208022 d))))) x0 13 = 0 from c6)]
                rw [y0] at h
                exact h (fun b hb => (F b hb).trans ((show ∀ b : Int, (b < x0 ∨ x0 + 1 < b) → (g_228 x0 (v_201 x0 (v_199 x0 1 (g_194 x0 1831504 (g_194 x0 316189 (g_194 x0 208022 d)))) (g_199 x0 1 (g_194 x0 1831504 (g_194 x0 316189 (g_194 x0 208022 d))))) (g_196 x0 0 (g_199 x0 1 (g_194 x0 1831504 (g_194 x0 316189 (g_194 x0 208022 d)))))) b = d b from fun b hb => (F16 b (by omega)).trans ((F15 b (by omega)).trans ((F14 b (by omega)).trans ((F4 b (by omega)).trans ((F3 b (by omega)).trans (F2 b (by omega))))))) b hb)) (k0.trans ((((((congrFun (F16 x0 (by omega)) 9).trans (k15_0)).trans (k14_0)).trans (k4_0)).trans (k3_0)).trans (k2_0))) P_hmp P_hmw (by omega) hS_
              · have q99 := miand_r x1 1 (by decide) (by decide)
                have q100 := mbool x1
                have q101 := r_11_f10 hS16 hx0
                have q102 : (g_228 x0 (v_201 x0 (v_199 x0 1 (g_194 x0 1831504 (g_194 x0 316189 (g_194 x0 208022 d)))) (g_199 x0 1 (g_194 x0 1831504 (g_194 x0 316189 (g_194 x0 208022 d))))) (g_196 x0 0 (g_199 x0 1 (g_194 x0 1831504 (g_194 x0 316189 (g_194 x0 208022 d)))))) (x0 + 1) 0 = d (x0 + 1) 0 := (((((Q16 0 (by omega)).trans (congrFun (F15 (x0 + 1) (by omega)) 0)).trans (congrFun (F14 (x0 + 1) (by omega)) 0)).trans (congrFun (F4 (x0 + 1) (by omega)) 0)).trans (congrFun (F3 (x0 + 1) (by omega)) 0)).trans (congrFun (F2 (x0 + 1) (by omega)) 0)
                have q103 : (g_228 x0 (v_201 x0 (v_199 x0 1 (g_194 x0 1831504 (g_194 x0 316189 (g_194 x0 208022 d)))) (g_199 x0 1 (g_194 x0 1831504 (g_194 x0 316189 (g_194 x0 208022 d))))) (g_196 x0 0 (g_199 x0 1 (g_194 x0 1831504 (g_194 x0 316189 (g_194 x0 208022 d)))))) x0 10 = (g_196 x0 0 (g_199 x0 1 (g_194 x0 1831504 (g_194 x0 316189 (g_194 x0 208022 d))))) x0 10 := congrFun (F16 x0 (by omega)) 10
                refine ih13 (miand x1 1) (.inl (0, v_201 x0 (v_199 x0 1 (g_194 x0 1831504 (g_194 x0 316189 (g_194 x0 208022 d)))) (g_199 x0 1 (g_194 x0 1831504 (g_194 x0 316189 (g_194 x0 208022 d)))))) (.inl (0, v_228 x0 (v_201 x0 (v_199 x0 1 (g_194 x0 1831504 (g_194 x0 316189 (g_194 x0 208022 d)))) (g_199 x0 1 (g_194 x0 1831504 (g_194 x0 316189 (g_194 x0 208022 d))))) (g_196 x0 0 (g_199 x0 1 (g_194 x0 1831504 (g_194 x0 316189 (g_194 x0 208022 d))))))) v4 (g_228 x0 (v_201 x0 (v_199 x0 1 (g_194 x0 1831504 (g_194 x0 316189 (g_194 x0 208022 d)))) (g_199 x0 1 (g_194 x0 1831504 (g_194 x0 316189 (g_194 x0 208022 d))))) (g_196 x0 0 (g_199 x0 1 (g_194 x0 1831504 (g_194 x0 316189 (g_194 x0 208022 d)))))) hS16 (by omega) P16hmp P16hmw (by omega) (by omega) (by omega) ?_
                intro F k0 P_hmp P_hmw n0 hS_
                have y0 : st_205_13 x0 r13 x1 d = r13 (miand x1 1) (g_228 x0 (v_201 x0 (v_199 x0 1 (g_194 x0 1831504 (g_194 x0 316189 (g_194 x0 208022 d)))) (g_199 x0 1 (g_194 x0 1831504 (g_194 x0 316189 (g_194 x0 208022 d))))) (g_196 x0 0 (g_199 x0 1 (g_194 x0 1831504 (g_194 x0 316189 (g_194 x0 208022 d)))))) := by simp only [st_205_13, if_neg (show ¬ x1 = 0 from c0), if_pos (show v_194 x0 208022 d = 0 from c1), if_pos (show v_194 x0 316189 (g_194 x0 208022 d) = 0 from c2), if_neg (show ¬ v_194 x0 1831504 (g_194 x0 316189 (g_194 x0 208022 d)) = 0 from c3), if_neg (show ¬ (g_199 x0 1 (g_194 x0 1831504 (g_194 x0 316189 (g_194 x0 208022 d)))) x0 13 = 0 from c4), if_neg (show ¬ v_196 x0 0 (g_199 x0 1 (g_194 x0 1831504 (g_194 x0 316189 (g_194 x0 208022 d)))) = 0 from c5), if_pos (show (g_196 x0 0 (g_199 x0 1 (g_194 x0 1831504 (g_194 x0 316189 (g_194 x0 208022 d))))) x0 13 = 0 from c6)]
                rw [y0] at h
                exact h (fun b hb => (F b hb).trans ((show ∀ b : Int, (b < x0 ∨ x0 + 1 < b) → (g_228 x0 (v_201 x0 (v_199 x0 1 (g_194 x0 1831504 (g_194 x0 316189 (g_194 x0 208022 d)))) (g_199 x0 1 (g_194 x0 1831504 (g_194 x0 316189 (g_194 x0 208022 d))))) (g_196 x0 0 (g_199 x0 1 (g_194 x0 1831504 (g_194 x0 316189 (g_194 x0 208022 d)))))) b = d b from fun b hb => (F16 b (by omega)).trans ((F15 b (by omega)).trans ((F14 b (by omega)).trans ((F4 b (by omega)).trans ((F3 b (by omega)).trans (F2 b (by omega))))))) b hb)) (k0.trans ((((((congrFun (F16 x0 (by omega)) 9).trans (k15_0)).trans (k14_0)).trans (k4_0)).trans (k3_0)).trans (k2_0))) P_hmp P_hmw (by omega) hS_
          · refine k_227 hS14 hx0 (by omega) (fun e19 => ?_)
            refine t_205_174 ?_
            have w8 := r_11_f9 hS14 hx0
            have w9 := r_11_f10 hS14 hx0
            refine ⟨m_inR (by omega) (by omega), fun c5 => ?_, fun c5 => ?_⟩
            · refine k_196 hS14 hx0 (by omega) (fun e20 F17 k17_0 n17_0 n17_1 n17_2 hS17 => ?_)
              refine t_205_185 ?_
              have w8 := r_11_f9 hS17 hx0
              have w9 := r_11_f10 hS17 hx0
              refine ⟨m_inR (by omega) (by omega), fun c6 => ?_, fun c6 => ?_⟩
              · have q104 := r_11_f13 hS17 hx0
                refine ⟨m_inR (by omega) (by omega), fun c7 => ?_, fun c7 => ?_⟩
                · have q105 := miand_r x1 0 (by decide) (by decide)
                  have q106 := mbool x1
                  have q107 := r_11_f10 hS17 hx0
                  have q108 : (g_196 x0 0 (g_199 x0 1 (g_194 x0 1831504 (g_194 x0 316189 (g_194 x0 208022 d))))) (x0 + 1) 0 = d (x0 + 1) 0 := ((((congrFun (F17 (x0 + 1) (by omega)) 0).trans (congrFun (F14 (x0 + 1) (by omega)) 0)).trans (congrFun (F4 (x0 + 1) (by omega)) 0)).trans (congrFun (F3 (x0 + 1) (by omega)) 0)).trans (congrFun (F2 (x0 + 1) (by omega)) 0)
                  refine ih13 (miand x1 0) (.inl (0, v_201 x0 (v_199 x0 1 (g_194 x0 1831504 (g_194 x0 316189 (g_194 x0 208022 d)))) (g_199 x0 1 (g_194 x0 1831504 (g_194 x0 316189 (g_194 x0 208022 d)))))) v3 v4 (g_196 x0 0 (g_199 x0 1 (g_194 x0 1831504 (g_194 x0 316189 (g_194 x0 208022 d))))) hS17 (by omega) (mpP.of (mh_7 hS hx0 _ rfl) (show ∀ i : Int, i = 7 ∨ (12 ≤ i ∧ i < 420 ∧ (i - 12) % 68 = 2) → (g_196 x0 0 (g_199 x0 1 (g_194 x0 1831504 (g_194 x0 316189 (g_194 x0 208022 d))))) (x0 + 1) i = d (x0 + 1) i from fun i hi => ((((congrFun (F17 (x0 + 1) (by omega)) i).trans (congrFun (F14 (x0 + 1) (by omega)) i)).trans (congrFun (F4 (x0 + 1) (by omega)) i)).trans (congrFun (F3 (x0 + 1) (by omega)) i)).trans (congrFun (F2 (x0 + 1) (by omega)) i)) hmp) (mwP.eq (F17 (x0 + 1) (by omega)) (mwP.eq (F14 (x0 + 1) (by omega)) (mwP.eq (F4 (x0 + 1) (by omega)) (mwP.eq (F3 (x0 + 1) (by omega)) (mwP.eq (F2 (x0 + 1) (by omega)) hmw))))) (by omega) (by omega) (by omega) ?_
                  intro F k0 P_hmp P_hmw n0 hS_
                  have y0 : st_205_13 x0 r13 x1 d = r13 (miand x1 0) (g_196 x0 0 (g_199 x0 1 (g_194 x0 1831504 (g_194 x0 316189 (g_194 x0 208022 d))))) := by simp only [st_205_13, if_neg (show ¬ x1 = 0 from c0), if_pos (show v_194 x0 208022 d = 0 from c1), if_pos (show v_194 x0 316189 (g_194 x0 208022 d) = 0 from c2), if_neg (show ¬ v_194 x0 1831504 (g_194 x0 316189 (g_194 x0 208022 d)) = 0 from c3), if_pos (show (g_199 x0 1 (g_194 x0 1831504 (g_194 x0 316189 (g_194 x0 208022 d)))) x0 13 = 0 from c4), if_pos (show v_227 x0 (v_201 x0 (v_199 x0 1 (g_194 x0 1831504 (g_194 x0 316189 (g_194 x0 208022 d)))) (g_199 x0 1 (g_194 x0 1831504 (g_194 x0 316189 (g_194 x0 208022 d))))) (g_199 x0 1 (g_194 x0 1831504 (g_194 x0 316189 (g_194 x0 208022 d)))) = 0 from c5), if_pos (show v_196 x0 0 (g_199 x0 1 (g_194 x0 1831504 (g_194 x0 316189 (g_194 x0 208022 d)))) = 0 from c6), if_neg (show ¬ (g_196 x0 0 (g_199 x0 1 (g_194 x0 1831504 (g_194 x0 316189 (g_194 x0 208022 d))))) x0 13 = 0 from c7)]
                  rw [y0] at h
                  exact h (fun b hb => (F b hb).trans ((show ∀ b : Int, (b < x0 ∨ x0 + 1 < b) → (g_196 x0 0 (g_199 x0 1 (g_194 x0 1831504 (g_194 x0 316189 (g_194 x0 208022 d))))) b = d b from fun b hb => (F17 b (by omega)).trans ((F14 b (by omega)).trans ((F4 b (by omega)).trans ((F3 b (by omega)).trans (F2 b (by omega)))))) b hb)) (k0.trans (((((k17_0).trans (k14_0)).trans (k4_0)).trans (k3_0)).trans (k2_0))) P_hmp P_hmw (by omega) hS_
                · have q109 := miand_r x1 1 (by decide) (by decide)
                  have q110 := mbool x1
                  have q111 := r_11_f10 hS17 hx0
                  have q112 : (g_196 x0 0 (g_199 x0 1 (g_194 x0 1831504 (g_194 x0 316189 (g_194 x0 208022 d))))) (x0 + 1) 0 = d (x0 + 1) 0 := ((((congrFun (F17 (x0 + 1) (by omega)) 0).trans (congrFun (F14 (x0 + 1) (by omega)) 0)).trans (congrFun (F4 (x0 + 1) (by omega)) 0)).trans (congrFun (F3 (x0 + 1) (by omega)) 0)).trans (congrFun (F2 (x0 + 1) (by omega)) 0)
                  refine ih13 (miand x1 1) (.inl (0, v_201 x0 (v_199 x0 1 (g_194 x0 1831504 (g_194 x0 316189 (g_194 x0 208022 d)))) (g_199 x0 1 (g_194 x0 1831504 (g_194 x0 316189 (g_194 x0 208022 d)))))) v3 v4 (g_196 x0 0 (g_199 x0 1 (g_194 x0 1831504 (g_194 x0 316189 (g_194 x0 208022 d))))) hS17 (by omega) (mpP.of (mh_7 hS hx0 _ rfl) (show ∀ i : Int, i = 7 ∨ (12 ≤ i ∧ i < 420 ∧ (i - 12) % 68 = 2) → (g_196 x0 0 (g_199 x0 1 (g_194 x0 1831504 (g_194 x0 316189 (g_194 x0 208022 d))))) (x0 + 1) i = d (x0 + 1) i from fun i hi => ((((congrFun (F17 (x0 + 1) (by omega)) i).trans (congrFun (F14 (x0 + 1) (by omega)) i)).trans (congrFun (F4 (x0 + 1) (by omega)) i)).trans (congrFun (F3 (x0 + 1) (by omega)) i)).trans (congrFun (F2 (x0 + 1) (by omega)) i)) hmp) (mwP.eq (F17 (x0 + 1) (by omega)) (mwP.eq (F14 (x0 + 1) (by omega)) (mwP.eq (F4 (x0 + 1) (by omega)) (mwP.eq (F3 (x0 + 1) (by omega)) (mwP.eq (F2 (x0 + 1) (by omega)) hmw))))) (by omega) (by omega) (by omega) ?_
                  intro F k0 P_hmp P_hmw n0 hS_
                  have y0 : st_205_13 x0 r13 x1 d = r13 (miand x1 1) (g_196 x0 0 (g_199 x0 1 (g_194 x0 1831504 (g_194 x0 316189 (g_194 x0 208022 d))))) := by simp only [st_205_13, if_neg (show ¬ x1 = 0 from c0), if_pos (show v_194 x0 208022 d = 0 from c1), if_pos (show v_194 x0 316189 (g_194 x0 208022 d) = 0 from c2), if_neg (show ¬ v_194 x0 1831504 (g_194 x0 316189 (g_194 x0 208022 d)) = 0 from c3), if_pos (show (g_199 x0 1 (g_194 x0 1831504 (g_194 x0 316189 (g_194 x0 208022 d)))) x0 13 = 0 from c4), if_pos (show v_227 x0 (v_201 x0 (v_199 x0 1 (g_194 x0 1831504 (g_194 x0 316189 (g_194 x0 208022 d)))) (g_199 x0 1 (g_194 x0 1831504 (g_194 x0 316189 (g_194 x0 208022 d))))) (g_199 x0 1 (g_194 x0 1831504 (g_194 x0 316189 (g_194 x0 208022 d)))) = 0 from c5), if_pos (show v_196 x0 0 (g_199 x0 1 (g_194 x0 1831504 (g_194 x0 316189 (g_194 x0 208022 d)))) = 0 from c6), if_pos (show (g_196 x0 0 (g_199 x0 1 (g_194 x0 1831504 (g_194 x0 316189 (g_194 x0 208022 d))))) x0 13 = 0 from c7)]
                  rw [y0] at h
                  exact h (fun b hb => (F b hb).trans ((show ∀ b : Int, (b < x0 ∨ x0 + 1 < b) → (g_196 x0 0 (g_199 x0 1 (g_194 x0 1831504 (g_194 x0 316189 (g_194 x0 208022 d))))) b = d b from fun b hb => (F17 b (by omega)).trans ((F14 b (by omega)).trans ((F4 b (by omega)).trans ((F3 b (by omega)).trans (F2 b (by omega)))))) b hb)) (k0.trans (((((k17_0).trans (k14_0)).trans (k4_0)).trans (k3_0)).trans (k2_0))) P_hmp P_hmw (by omega) hS_
              · refine k_228 hS17 hx0 (by omega) (mpP.of (mh_7 hS hx0 _ rfl) (show ∀ i : Int, i = 7 ∨ (12 ≤ i ∧ i < 420 ∧ (i - 12) % 68 = 2) → (g_196 x0 0 (g_199 x0 1 (g_194 x0 1831504 (g_194 x0 316189 (g_194 x0 208022 d))))) (x0 + 1) i = d (x0 + 1) i from fun i hi => ((((congrFun (F17 (x0 + 1) (by omega)) i).trans (congrFun (F14 (x0 + 1) (by omega)) i)).trans (congrFun (F4 (x0 + 1) (by omega)) i)).trans (congrFun (F3 (x0 + 1) (by omega)) i)).trans (congrFun (F2 (x0 + 1) (by omega)) i)) hmp) (mwP.eq (F17 (x0 + 1) (by omega)) (mwP.eq (F14 (x0 + 1) (by omega)) (mwP.eq (F4 (x0 + 1) (by omega)) (mwP.eq (F3 (x0 + 1) (by omega)) (mwP.eq (F2 (x0 + 1) (by omega)) hmw))))) (fun e21 F18 Q18 P18hmp P18hmw hS18 => ?_)
                refine t_205_193 ?_
                have w8 := r_11_f9 hS18 hx0
                have w9 := r_11_f10 hS18 hx0
                rw [F18 x0 (by omega)]
                have q113 := r_11_f13 hS17 hx0
                refine ⟨m_inR (by omega) (by omega), fun c7 => ?_, fun c7 => ?_⟩
                · have q114 := miand_r x1 0 (by decide) (by decide)
                  have q115 := mbool x1
                  have q116 := r_11_f10 hS18 hx0
                  have q117 : (g_228 x0 (v_201 x0 (v_199 x0 1 (g_194 x0 1831504 (g_194 x0 316189 (g_194 x0 208022 d)))) (g_199 x0 1 (g_194 x0 1831504 (g_194 x0 316189 (g_194 x0 208022 d))))) (g_196 x0 0 (g_199 x0 1 (g_194 x0 1831504 (g_194 x0 316189 (g_194 x0 208022 d)))))) (x0 + 1) 0 = d (x0 + 1) 0 := (((((Q18 0 (by omega)).trans (congrFun (F17 (x0 + 1) (by omega)) 0)).trans (congrFun (F14 (x0 + 1) (by omega)) 0)).trans (congrFun (F4 (x0 + 1) (by omega)) 0)).trans (congrFun (F3 (x0 + 1) (by omega)) 0)).trans (congrFun (F2 (x0 + 1) (by omega)) 0)
                  have q118 : (g_228 x0 (v_201 x0 (v_199 x0 1 (g_194 x0 1831504 (g_194 x0 316189 (g_194 x0 208022 d)))) (g_199 x0 1 (g_194 x0 1831504 (g_194 x0 316189 (g_194 x0 208022 d))))) (g_196 x0 0 (g_199 x0 1 (g_194 x0 1831504 (g_194 x0 316189 (g_194 x0 208022 d)))))) x0 10 = (g_196 x0 0 (g_199 x0 1 (g_194 x0 1831504 (g_194 x0 316189 (g_194 x0 208022 d))))) x0 10 := congrFun (F18 x0 (by omega)) 10
                  refine ih13 (miand x1 0) (.inl (0, v_201 x0 (v_199 x0 1 (g_194 x0 1831504 (g_194 x0 316189 (g_194 x0 208022 d)))) (g_199 x0 1 (g_194 x0 1831504 (g_194 x0 316189 (g_194 x0 208022 d)))))) (.inl (0, v_228 x0 (v_201 x0 (v_199 x0 1 (g_194 x0 1831504 (g_194 x0 316189 (g_194 x0 208022 d)))) (g_199 x0 1 (g_194 x0 1831504 (g_194 x0 316189 (g_194 x0 208022 d))))) (g_196 x0 0 (g_199 x0 1 (g_194 x0 1831504 (g_194 x0 316189 (g_194 x0 208022 d))))))) v4 (g_228 x0 (v_201 x0 (v_199 x0 1 (g_194 x0 1831504 (g_194 x0 316189 (g_194 x0 208022 d)))) (g_199 x0 1 (g_194 x0 1831504 (g_194 x0 316189 (g_194 x0 208022 d))))) (g_196 x0 0 (g_199 x0 1 (g_194 x0 1831504 (g_194 x0 316189 (g_194 x0 208022 d)))))) hS18 (by omega) P18hmp P18hmw (by omega) (by omega) (by omega) ?_
                  intro F k0 P_hmp P_hmw n0 hS_
                  have y0 : st_205_13 x0 r13 x1 d = r13 (miand x1 0) (g_228 x0 (v_201 x0 (v_199 x0 1 (g_194 x0 1831504 (g_194 x0 316189 (g_194 x0 208022 d)))) (g_199 x0 1 (g_194 x0 1831504 (g_194 x0 316189 (g_194 x0 208022 d))))) (g_196 x0 0 (g_199 x0 1 (g_194 x0 1831504 (g_194 x0 316189 (g_194 x0 208022 d)))))) := by simp only [st_205_13, if_neg (show ¬ x1 = 0 from c0), if_pos (show v_194 x0 208022 d = 0 from c1), if_pos (show v_194 x0 316189 (g_194 x0 208022 d) = 0 from c2), if_neg (show ¬ v_194 x0 1831504 (g_194 x0 316189 (g_194 x0 208022 d)) = 0 from c3), if_pos (show (g_199 x0 1 (g_194 x0 1831504 (g_194 x0 316189 (g_194 x0 208022 d)))) x0 13 = 0 from c4), if_pos (show v_227 x0 (v_201 x0 (v_199 x0 1 (g_194 x0 1831504 (g_194 x0 316189 (g_194 x0 208022 d)))) (g_199 x0 1 (g_194 x0 1831504 (g_194 x0 316189 (g_194 x0 208022 d))))) (g_199 x0 1 (g_194 x0 1831504 (g_194 x0 316189 (g_194 x0 208022 d)))) = 0 from c5), if_neg (show ¬ v_196 x0 0 (g_199 x0 1 (g_194 x0 1831504 (g_194 x0 316189 (g_194 x0 208022 d)))) = 0 from c6), if_neg (show ¬ (g_196 x0 0 (g_199 x0 1 (g_194 x0 1831504 (g_194 x0 316189 (g_194 x0 208022 d))))) x0 13 = 0 from c7)]
                  rw [y0] at h
                  exact h (fun b hb => (F b hb).trans ((show ∀ b : Int, (b < x0 ∨ x0 + 1 < b) → (g_228 x0 (v_201 x0 (v_199 x0 1 (g_194 x0 1831504 (g_194 x0 316189 (g_194 x0 208022 d)))) (g_199 x0 1 (g_194 x0 1831504 (g_194 x0 316189 (g_194 x0 208022 d))))) (g_196 x0 0 (g_199 x0 1 (g_194 x0 1831504 (g_194 x0 316189 (g_194 x0 208022 d)))))) b = d b from fun b hb => (F18 b (by omega)).trans ((F17 b (by omega)).trans ((F14 b (by omega)).trans ((F4 b (by omega)).trans ((F3 b (by omega)).trans (F2 b (by omega))))))) b hb)) (k0.trans ((((((congrFun (F18 x0 (by omega)) 9).trans (k17_0)).trans (k14_0)).trans (k4_0)).trans (k3_0)).trans (k2_0))) P_hmp P_hmw (by omega) hS_
                · have q119 := miand_r x1 1 (by decide) (by decide)
                  have q120 := mbool x1
                  have q121 := r_11_f10 hS18 hx0
                  have q122 : (g_228 x0 (v_201 x0 (v_199 x0 1 (g_194 x0 1831504 (g_194 x0 316189 (g_194 x0 208022 d)))) (g_199 x0 1 (g_194 x0 1831504 (g_194 x0 316189 (g_194 x0 208022 d))))) (g_196 x0 0 (g_199 x0 1 (g_194 x0 1831504 (g_194 x0 316189 (g_194 x0 208022 d)))))) (x0 + 1) 0 = d (x0 + 1) 0 := (((((Q18 0 (by omega)).trans (congrFun (F17 (x0 + 1) (by omega)) 0)).trans (congrFun (F14 (x0 + 1) (by omega)) 0)).trans (congrFun (F4 (x0 + 1) (by omega)) 0)).trans (congrFun (F3 (x0 + 1) (by omega)) 0)).trans (congrFun (F2 (x0 + 1) (by omega)) 0)
                  have q123 : (g_228 x0 (v_201 x0 (v_199 x0 1 (g_194 x0 1831504 (g_194 x0 316189 (g_194 x0 208022 d)))) (g_199 x0 1 (g_194 x0 1831504 (g_194 x0 316189 (g_194 x0 208022 d))))) (g_196 x0 0 (g_199 x0 1 (g_194 x0 1831504 (g_194 x0 316189 (g_194 x0 208022 d)))))) x0 10 = (g_196 x0 0 (g_199 x0 1 (g_194 x0 1831504 (g_194 x0 316189 (g_194 x0 208022 d))))) x0 10 := congrFun (F18 x0 (by omega)) 10
                  refine ih13 (miand x1 1) (.inl (0, v_201 x0 (v_199 x0 1 (g_194 x0 1831504 (g_194 x0 316189 (g_194 x0 208022 d)))) (g_199 x0 1 (g_194 x0 1831504 (g_194 x0 316189 (g_194 x0 208022 d)))))) (.inl (0, v_228 x0 (v_201 x0 (v_199 x0 1 (g_194 x0 1831504 (g_194 x0 316189 (g_194 x0 208022 d)))) (g_199 x0 1 (g_194 x0 1831504 (g_194 x0 316189 (g_194 x0 208022 d))))) (g_196 x0 0 (g_199 x0 1 (g_194 x0 1831504 (g_194 x0 316189 (g_194 x0 208022 d))))))) v4 (g_228 x0 (v_201 x0 (v_199 x0 1 (g_194 x0 1831504 (g_194 x0 316189 (g_194 x0 208022 d)))) (g_199 x0 1 (g_194 x0 1831504 (g_194 x0 316189 (g_194 x0 208022 d))))) (g_196 x0 0 (g_199 x0 1 (g_194 x0 1831504 (g_194 x0 316189 (g_194 x0 208022 d)))))) hS18 (by omega) P18hmp P18hmw (by omega) (by omega) (by omega) ?_
                  intro F k0 P_hmp P_hmw n0 hS_
                  have y0 : st_205_13 x0 r13 x1 d = r13 (miand x1 1) (g_228 x0 (v_201 x0 (v_199 x0 1 (g_194 x0 1831504 (g_194 x0 316189 (g_194 x0 208022 d)))) (g_199 x0 1 (g_194 x0 1831504 (g_194 x0 316189 (g_194 x0 208022 d))))) (g_196 x0 0 (g_199 x0 1 (g_194 x0 1831504 (g_194 x0 316189 (g_194 x0 208022 d)))))) := by simp only [st_205_13, if_neg (show ¬ x1 = 0 from c0), if_pos (show v_194 x0 208022 d = 0 from c1), if_pos (show v_194 x0 316189 (g_194 x0 208022 d) = 0 from c2), if_neg (show ¬ v_194 x0 1831504 (g_194 x0 316189 (g_194 x0 208022 d)) = 0 from c3), if_pos (show (g_199 x0 1 (g_194 x0 1831504 (g_194 x0 316189 (g_194 x0 208022 d)))) x0 13 = 0 from c4), if_pos (show v_227 x0 (v_201 x0 (v_199 x0 1 (g_194 x0 1831504 (g_194 x0 316189 (g_194 x0 208022 d)))) (g_199 x0 1 (g_194 x0 1831504 (g_194 x0 316189 (g_194 x0 208022 d))))) (g_199 x0 1 (g_194 x0 1831504 (g_194 x0 316189 (g_194 x0 208022 d)))) = 0 from c5), if_neg (show ¬ v_196 x0 0 (g_199 x0 1 (g_194 x0 1831504 (g_194 x0 316189 (g_194 x0 208022 d)))) = 0 from c6), if_pos (show (g_196 x0 0 (g_199 x0 1 (g_194 x0 1831504 (g_194 x0 316189 (g_194 x0 208022 d))))) x0 13 = 0 from c7)]
                  rw [y0] at h
                  exact h (fun b hb => (F b hb).trans ((show ∀ b : Int, (b < x0 ∨ x0 + 1 < b) → (g_228 x0 (v_201 x0 (v_199 x0 1 (g_194 x0 1831504 (g_194 x0 316189 (g_194 x0 208022 d)))) (g_199 x0 1 (g_194 x0 1831504 (g_194 x0 316189 (g_194 x0 208022 d))))) (g_196 x0 0 (g_199 x0 1 (g_194 x0 1831504 (g_194 x0 316189 (g_194 x0 208022 d)))))) b = d b from fun b hb => (F18 b (by omega)).trans ((F17 b (by omega)).trans ((F14 b (by omega)).trans ((F4 b (by omega)).trans ((F3 b (by omega)).trans (F2 b (by omega))))))) b hb)) (k0.trans ((((((congrFun (F18 x0 (by omega)) 9).trans (k17_0)).trans (k14_0)).trans (k4_0)).trans (k3_0)).trans (k2_0))) P_hmp P_hmw (by omega) hS_
            · refine k_196 hS14 hx0 (by omega) (fun e22 F19 k19_0 n19_0 n19_1 n19_2 hS19 => ?_)
              refine t_205_185 ?_
              have w8 := r_11_f9 hS19 hx0
              have w9 := r_11_f10 hS19 hx0
              refine ⟨m_inR (by omega) (by omega), fun c6 => ?_, fun c6 => ?_⟩
              · have q124 := r_11_f13 hS19 hx0
                refine ⟨m_inR (by omega) (by omega), fun c7 => ?_, fun c7 => ?_⟩
                · have q125 := miand_r x1 0 (by decide) (by decide)
                  have q126 := mbool x1
                  have q127 := r_11_f10 hS19 hx0
                  have q128 : (g_196 x0 1 (g_199 x0 1 (g_194 x0 1831504 (g_194 x0 316189 (g_194 x0 208022 d))))) (x0 + 1) 0 = d (x0 + 1) 0 := ((((congrFun (F19 (x0 + 1) (by omega)) 0).trans (congrFun (F14 (x0 + 1) (by omega)) 0)).trans (congrFun (F4 (x0 + 1) (by omega)) 0)).trans (congrFun (F3 (x0 + 1) (by omega)) 0)).trans (congrFun (F2 (x0 + 1) (by omega)) 0)
                  refine ih13 (miand x1 0) (.inl (0, v_201 x0 (v_199 x0 1 (g_194 x0 1831504 (g_194 x0 316189 (g_194 x0 208022 d)))) (g_199 x0 1 (g_194 x0 1831504 (g_194 x0 316189 (g_194 x0 208022 d)))))) v3 v4 (g_196 x0 1 (g_199 x0 1 (g_194 x0 1831504 (g_194 x0 316189 (g_194 x0 208022 d))))) hS19 (by omega) (mpP.of (mh_7 hS hx0 _ rfl) (show ∀ i : Int, i = 7 ∨ (12 ≤ i ∧ i < 420 ∧ (i - 12) % 68 = 2) → (g_196 x0 1 (g_199 x0 1 (g_194 x0 1831504 (g_194 x0 316189 (g_194 x0 208022 d))))) (x0 + 1) i = d (x0 + 1) i from fun i hi => ((((congrFun (F19 (x0 + 1) (by omega)) i).trans (congrFun (F14 (x0 + 1) (by omega)) i)).trans (congrFun (F4 (x0 + 1) (by omega)) i)).trans (congrFun (F3 (x0 + 1) (by omega)) i)).trans (congrFun (F2 (x0 + 1) (by omega)) i)) hmp) (mwP.eq (F19 (x0 + 1) (by omega)) (mwP.eq (F14 (x0 + 1) (by omega)) (mwP.eq (F4 (x0 + 1) (by omega)) (mwP.eq (F3 (x0 + 1) (by omega)) (mwP.eq (F2 (x0 + 1) (by omega)) hmw))))) (by omega) (by omega) (by omega) ?_
                  intro F k0 P_hmp P_hmw n0 hS_
                  have y0 : st_205_13 x0 r13 x1 d = r13 (miand x1 0) (g_196 x0 1 (g_199 x0 1 (g_194 x0 1831504 (g_194 x0 316189 (g_194 x0 208022 d))))) := by simp only [st_205_13, if_neg (show ¬ x1 = 0 from c0), if_pos (show v_194 x0 208022 d = 0 from c1), if_pos (show v_194 x0 316189 (g_194 x0 208022 d) = 0 from c2), if_neg (show ¬ v_194 x0 1831504 (g_194 x0 316189 (g_194 x0 208022 d)) = 0 from c3), if_pos (show (g_199 x0 1 (g_194 x0 1831504 (g_194 x0 316189 (g_194 x0 208022 d)))) x0 13 = 0 from c4), if_neg (show ¬ v_227 x0 (v_201 x0 (v_199 x0 1 (g_194 x0 1831504 (g_194 x0 316189 (g_194 x0 208022 d)))) (g_199 x0 1 (g_194 x0 1831504 (g_194 x0 316189 (g_194 x0 208022 d))))) (g_199 x0 1 (g_194 x0 1831504 (g_194 x0 316189 (g_194 x0 208022 d)))) = 0 from c5), if_pos (show v_196 x0 1 (g_199 x0 1 (g_194 x0 1831504 (g_194 x0 316189 (g_194 x0 208022 d)))) = 0 from c6), if_neg (show ¬ (g_196 x0 1 (g_199 x0 1 (g_194 x0 1831504 (g_194 x0 316189 (g_194 x0 208022 d))))) x0 13 = 0 from c7)]
                  rw [y0] at h
                  exact h (fun b hb => (F b hb).trans ((show ∀ b : Int, (b < x0 ∨ x0 + 1 < b) → (g_196 x0 1 (g_199 x0 1 (g_194 x0 1831504 (g_194 x0 316189 (g_194 x0 208022 d))))) b = d b from fun b hb => (F19 b (by omega)).trans ((F14 b (by omega)).trans ((F4 b (by omega)).trans ((F3 b (by omega)).trans (F2 b (by omega)))))) b hb)) (k0.trans (((((k19_0).trans (k14_0)).trans (k4_0)).trans (k3_0)).trans (k2_0))) P_hmp P_hmw (by omega) hS_
                · have q129 := miand_r x1 1 (by decide) (by decide)
                  have q130 := mbool x1
                  have q131 := r_11_f10 hS19 hx0
                  have q132 : (g_196 x0 1 (g_199 x0 1 (g_194 x0 1831504 (g_194 x0 316189 (g_194 x0 208022 d))))) (x0 + 1) 0 = d (x0 + 1) 0 := ((((congrFun (F19 (x0 + 1) (by omega)) 0).trans (congrFun (F14 (x0 + 1) (by omega)) 0)).trans (congrFun (F4 (x0 + 1) (by omega)) 0)).trans (congrFun (F3 (x0 + 1) (by omega)) 0)).trans (congrFun (F2 (x0 + 1) (by omega)) 0)
                  refine ih13 (miand x1 1) (.inl (0, v_201 x0 (v_199 x0 1 (g_194 x0 1831504 (g_194 x0 316189 (g_194 x0 208022 d)))) (g_199 x0 1 (g_194 x0 1831504 (g_194 x0 316189 (g_194 x0 208022 d)))))) v3 v4 (g_196 x0 1 (g_199 x0 1 (g_194 x0 1831504 (g_194 x0 316189 (g_194 x0 208022 d))))) hS19 (by omega) (mpP.of (mh_7 hS hx0 _ rfl) (show ∀ i : Int, i = 7 ∨ (12 ≤ i ∧ i < 420 ∧ (i - 12) % 68 = 2) → (g_196 x0 1 (g_199 x0 1 (g_194 x0 1831504 (g_194 x0 316189 (g_194 x0 208022 d))))) (x0 + 1) i = d (x0 + 1) i from fun i hi => ((((congrFun (F19 (x0 + 1) (by omega)) i).trans (congrFun (F14 (x0 + 1) (by omega)) i)).trans (congrFun (F4 (x0 + 1) (by omega)) i)).trans (congrFun (F3 (x0 + 1) (by omega)) i)).trans (congrFun (F2 (x0 + 1) (by omega)) i)) hmp) (mwP.eq (F19 (x0 + 1) (by omega)) (mwP.eq (F14 (x0 + 1) (by omega)) (mwP.eq (F4 (x0 + 1) (by omega)) (mwP.eq (F3 (x0 + 1) (by omega)) (mwP.eq (F2 (x0 + 1) (by omega)) hmw))))) (by omega) (by omega) (by omega) ?_
                  intro F k0 P_hmp P_hmw n0 hS_
                  have y0 : st_205_13 x0 r13 x1 d = r13 (miand x1 1) (g_196 x0 1 (g_199 x0 1 (g_194 x0 1831504 (g_194 x0 316189 (g_194 x0 208022 d))))) := by simp only [st_205_13, if_neg (show ¬ x1 = 0 from c0), if_pos (show v_194 x0 208022 d = 0 from c1), if_pos (show v_194 x0 316189 (g_194 x0 208022 d) = 0 from c2), if_neg (show ¬ v_194 x0 1831504 (g_194 x0 316189 (g_194 x0 208022 d)) = 0 from c3), if_pos (show (g_199 x0 1 (g_194 x0 1831504 (g_194 x0 316189 (g_194 x0 208022 d)))) x0 13 = 0 from c4), if_neg (show ¬ v_227 x0 (v_201 x0 (v_199 x0 1 (g_194 x0 1831504 (g_194 x0 316189 (g_194 x0 208022 d)))) (g_199 x0 1 (g_194 x0 1831504 (g_194 x0 316189 (g_194 x0 208022 d))))) (g_199 x0 1 (g_194 x0 1831504 (g_194 x0 316189 (g_194 x0 208022 d)))) = 0 from c5), if_pos (show v_196 x0 1 (g_199 x0 1 (g_194 x0 1831504 (g_194 x0 316189 (g_194 x0 208022 d)))) = 0 from c6), if_pos (show (g_196 x0 1 (g_199 x0 1 (g_194 x0 1831504 (g_194 x0 316189 (g_194 x0 208022 d))))) x0 13 = 0 from c7)]
                  rw [y0] at h
                  exact h (fun b hb => (F b hb).trans ((show ∀ b : Int, (b < x0 ∨ x0 + 1 < b) → (g_196 x0 1 (g_199 x0 1 (g_194 x0 1831504 (g_194 x0 316189 (g_194 x0 208022 d))))) b = d b from fun b hb => (F19 b (by omega)).trans ((F14 b (by omega)).trans ((F4 b (by omega)).trans ((F3 b (by omega)).trans (F2 b (by omega)))))) b hb)) (k0.trans (((((k19_0).trans (k14_0)).trans (k4_0)).trans (k3_0)).trans (k2_0))) P_hmp P_hmw (by omega) hS_
              · refine k_228 hS19 hx0 (by omega) (mpP.of (mh_7 hS hx0 _ rfl) (show ∀ i : Int, i = 7 ∨ (12 ≤ i ∧ i < 420 ∧ (i - 12) % 68 = 2) → (g_196 x0 1 (g_199 x0 1 (g_194 x0 1831504 (g_194 x0 316189 (g_194 x0 208022 d))))) (x0 + 1) i = d (x0 + 1) i from fun i hi => ((((congrFun (F19 (x0 + 1) (by omega)) i).trans (congrFun (F14 (x0 + 1) (by omega)) i)).trans (congrFun (F4 (x0 + 1) (by omega)) i)).trans (congrFun (F3 (x0 + 1) (by omega)) i)).trans (congrFun (F2 (x0 + 1) (by omega)) i)) hmp) (mwP.eq (F19 (x0 + 1) (by omega)) (mwP.eq (F14 (x0 + 1) (by omega)) (mwP.eq (F4 (x0 + 1) (by omega)) (mwP.eq (F3 (x0 + 1) (by omega)) (mwP.eq (F2 (x0 + 1) (by omega)) hmw))))) (fun e23 F20 Q20 P20hmp P20hmw hS20 => ?_)
                refine t_205_193 ?_
                have w8 := r_11_f9 hS20 hx0
                have w9 := r_11_f10 hS20 hx0
                rw [F20 x0 (by omega)]
                have q133 := r_11_f13 hS19 hx0
                refine ⟨m_inR (by omega) (by omega), fun c7 => ?_, fun c7 => ?_⟩
                · have q134 := miand_r x1 0 (by decide) (by decide)
                  have q135 := mbool x1
                  have q136 := r_11_f10 hS20 hx0
                  have q137 : (g_228 x0 (v_201 x0 (v_199 x0 1 (g_194 x0 1831504 (g_194 x0 316189 (g_194 x0 208022 d)))) (g_199 x0 1 (g_194 x0 1831504 (g_194 x0 316189 (g_194 x0 208022 d))))) (g_196 x0 1 (g_199 x0 1 (g_194 x0 1831504 (g_194 x0 316189 (g_194 x0 208022 d)))))) (x0 + 1) 0 = d (x0 + 1) 0 := (((((Q20 0 (by omega)).trans (congrFun (F19 (x0 + 1) (by omega)) 0)).trans (congrFun (F14 (x0 + 1) (by omega)) 0)).trans (congrFun (F4 (x0 + 1) (by omega)) 0)).trans (congrFun (F3 (x0 + 1) (by omega)) 0)).trans (congrFun (F2 (x0 + 1) (by omega)) 0)
                  have q138 : (g_228 x0 (v_201 x0 (v_199 x0 1 (g_194 x0 1831504 (g_194 x0 316189 (g_194 x0 208022 d)))) (g_199 x0 1 (g_194 x0 1831504 (g_194 x0 316189 (g_194 x0 208022 d))))) (g_196 x0 1 (g_199 x0 1 (g_194 x0 1831504 (g_194 x0 316189 (g_194 x0 208022 d)))))) x0 10 = (g_196 x0 1 (g_199 x0 1 (g_194 x0 1831504 (g_194 x0 316189 (g_194 x0 208022 d))))) x0 10 := congrFun (F20 x0 (by omega)) 10
                  refine ih13 (miand x1 0) (.inl (0, v_201 x0 (v_199 x0 1 (g_194 x0 1831504 (g_194 x0 316189 (g_194 x0 208022 d)))) (g_199 x0 1 (g_194 x0 1831504 (g_194 x0 316189 (g_194 x0 208022 d)))))) (.inl (0, v_228 x0 (v_201 x0 (v_199 x0 1 (g_194 x0 1831504 (g_194 x0 316189 (g_194 x0 208022 d)))) (g_199 x0 1 (g_194 x0 1831504 (g_194 x0 316189 (g_194 x0 208022 d))))) (g_196 x0 1 (g_199 x0 1 (g_194 x0 1831504 (g_194 x0 316189 (g_194 x0 208022 d))))))) v4 (g_228 x0 (v_201 x0 (v_199 x0 1 (g_194 x0 1831504 (g_194 x0 316189 (g_194 x0 208022 d)))) (g_199 x0 1 (g_194 x0 1831504 (g_194 x0 316189 (g_194 x0 208022 d))))) (g_196 x0 1 (g_199 x0 1 (g_194 x0 1831504 (g_194 x0 316189 (g_194 x0 208022 d)))))) hS20 (by omega) P20hmp P20hmw (by omega) (by omega) (by omega) ?_
                  intro F k0 P_hmp P_hmw n0 hS_
                  have y0 : st_205_13 x0 r13 x1 d = r13 (miand x1 0) (g_228 x0 (v_201 x0 (v_199 x0 1 (g_194 x0 1831504 (g_194 x0 316189 (g_194 x0 208022 d)))) (g_199 x0 1 (g_194 x0 1831504 (g_194 x0 316189 (g_194 x0 208022 d))))) (g_196 x0 1 (g_199 x0 1 (g_194 x0 1831504 (g_194 x0 316189 (g_194 x0 208022 d)))))) := by simp only [st_205_13, if_neg (show ¬ x1 = 0 from c0), if_pos (show v_194 x0 208022 d = 0 from c1), if_pos (show v_194 x0 316189 (g_194 x0 208022 d) = 0 from c2), if_neg (show ¬ v_194 x0 1831504 (g_194 x0 316189 (g_194 x0 208022 d)) = 0 from c3), if_pos (show (g_199 x0 1 (g_194 x0 1831504 (g_194 x0 316189 (g_194 x0 208022 d)))) x0 13 = 0 from c4), if_neg (show ¬ v_227 x0 (v_201 x0 (v_199 x0 1 (g_194 x0 1831504 (g_194 x0 316189 (g_194 x0 208022 d)))) (g_199 x0 1 (g_194 x0 1831504 (g_194 x0 316189 (g_194 x0 208022 d))))) (g_199 x0 1 (g_194 x0 1831504 (g_194 x0 316189 (g_194 x0 208022 d)))) = 0 from c5), if_neg (show ¬ v_196 x0 1 (g_199 x0 1 (g_194 x0 1831504 (g_194 x0 316189 (g_194 x0 208022 d)))) = 0 from c6), if_neg (show ¬ (g_196 x0 1 (g_199 x0 1 (g_194 x0 1831504 (g_194 x0 316189 (g_194 x0 208022 d))))) x0 13 = 0 from c7)]
                  rw [y0] at h
                  exact h (fun b hb => (F b hb).trans ((show ∀ b : Int, (b < x0 ∨ x0 + 1 < b) → (g_228 x0 (v_201 x0 (v_199 x0 1 (g_194 x0 1831504 (g_194 x0 316189 (g_194 x0 208022 d)))) (g_199 x0 1 (g_194 x0 1831504 (g_194 x0 316189 (g_194 x0 208022 d))))) (g_196 x0 1 (g_199 x0 1 (g_194 x0 1831504 (g_194 x0 316189 (g_194 x0 208022 d)))))) b = d b from fun b hb => (F20 b (by omega)).trans ((F19 b (by omega)).trans ((F14 b (by omega)).trans ((F4 b (by omega)).trans ((F3 b (by omega)).trans (F2 b (by omega))))))) b hb)) (k0.trans ((((((congrFun (F20 x0 (by omega)) 9).trans (k19_0)).trans (k14_0)).trans (k4_0)).trans (k3_0)).trans (k2_0))) P_hmp P_hmw (by omega) hS_
                · have q139 := miand_r x1 1 (by decide) (by decide)
                  have q140 := mbool x1
                  have q141 := r_11_f10 hS20 hx0
                  have q142 : (g_228 x0 (v_201 x0 (v_199 x0 1 (g_194 x0 1831504 (g_194 x0 316189 (g_194 x0 208022 d)))) (g_199 x0 1 (g_194 x0 1831504 (g_194 x0 316189 (g_194 x0 208022 d))))) (g_196 x0 1 (g_199 x0 1 (g_194 x0 1831504 (g_194 x0 316189 (g_194 x0 208022 d)))))) (x0 + 1) 0 = d (x0 + 1) 0 := (((((Q20 0 (by omega)).trans (congrFun (F19 (x0 + 1) (by omega)) 0)).trans (congrFun (F14 (x0 + 1) (by omega)) 0)).trans (congrFun (F4 (x0 + 1) (by omega)) 0)).trans (congrFun (F3 (x0 + 1) (by omega)) 0)).trans (congrFun (F2 (x0 + 1) (by omega)) 0)
                  have q143 : (g_228 x0 (v_201 x0 (v_199 x0 1 (g_194 x0 1831504 (g_194 x0 316189 (g_194 x0 208022 d)))) (g_199 x0 1 (g_194 x0 1831504 (g_194 x0 316189 (g_194 x0 208022 d))))) (g_196 x0 1 (g_199 x0 1 (g_194 x0 1831504 (g_194 x0 316189 (g_194 x0 208022 d)))))) x0 10 = (g_196 x0 1 (g_199 x0 1 (g_194 x0 1831504 (g_194 x0 316189 (g_194 x0 208022 d))))) x0 10 := congrFun (F20 x0 (by omega)) 10
                  refine ih13 (miand x1 1) (.inl (0, v_201 x0 (v_199 x0 1 (g_194 x0 1831504 (g_194 x0 316189 (g_194 x0 208022 d)))) (g_199 x0 1 (g_194 x0 1831504 (g_194 x0 316189 (g_194 x0 208022 d)))))) (.inl (0, v_228 x0 (v_201 x0 (v_199 x0 1 (g_194 x0 1831504 (g_194 x0 316189 (g_194 x0 208022 d)))) (g_199 x0 1 (g_194 x0 1831504 (g_194 x0 316189 (g_194 x0 208022 d))))) (g_196 x0 1 (g_199 x0 1 (g_194 x0 1831504 (g_194 x0 316189 (g_194 x0 208022 d))))))) v4 (g_228 x0 (v_201 x0 (v_199 x0 1 (g_194 x0 1831504 (g_194 x0 316189 (g_194 x0 208022 d)))) (g_199 x0 1 (g_194 x0 1831504 (g_194 x0 316189 (g_194 x0 208022 d))))) (g_196 x0 1 (g_199 x0 1 (g_194 x0 1831504 (g_194 x0 316189 (g_194 x0 208022 d)))))) hS20 (by omega) P20hmp P20hmw (by omega) (by omega) (by omega) ?_
                  intro F k0 P_hmp P_hmw n0 hS_
                  have y0 : st_205_13 x0 r13 x1 d = r13 (miand x1 1) (g_228 x0 (v_201 x0 (v_199 x0 1 (g_194 x0 1831504 (g_194 x0 316189 (g_194 x0 208022 d)))) (g_199 x0 1 (g_194 x0 1831504 (g_194 x0 316189 (g_194 x0 208022 d))))) (g_196 x0 1 (g_199 x0 1 (g_194 x0 1831504 (g_194 x0 316189 (g_194 x0 208022 d)))))) := by simp only [st_205_13, if_neg (show ¬ x1 = 0 from c0), if_pos (show v_194 x0 208022 d = 0 from c1), if_pos (show v_194 x0 316189 (g_194 x0 208022 d) = 0 from c2), if_neg (show ¬ v_194 x0 1831504 (g_194 x0 316189 (g_194 x0 208022 d)) = 0 from c3), if_pos (show (g_199 x0 1 (g_194 x0 1831504 (g_194 x0 316189 (g_194 x0 208022 d)))) x0 13 = 0 from c4), if_neg (show ¬ v_227 x0 (v_201 x0 (v_199 x0 1 (g_194 x0 1831504 (g_194 x0 316189 (g_194 x0 208022 d)))) (g_199 x0 1 (g_194 x0 1831504 (g_194 x0 316189 (g_194 x0 208022 d))))) (g_199 x0 1 (g_194 x0 1831504 (g_194 x0 316189 (g_194 x0 208022 d)))) = 0 from c5), if_neg (show ¬ v_196 x0 1 (g_199 x0 1 (g_194 x0 1831504 (g_194 x0 316189 (g_194 x0 208022 d)))) = 0 from c6), if_pos (show (g_196 x0 1 (g_199 x0 1 (g_194 x0 1831504 (g_194 x0 316189 (g_194 x0 208022 d))))) x0 13 = 0 from c7)]
                  rw [y0] at h
                  exact h (fun b hb => (F b hb).trans ((show ∀ b : Int, (b < x0 ∨ x0 + 1 < b) → (g_228 x0 (v_201 x0 (v_199 x0 1 (g_194 x0 1831504 (g_194 x0 316189 (g_194 x0 208022 d)))) (g_199 x0 1 (g_194 x0 1831504 (g_194 x0 316189 (g_194 x0 208022 d))))) (g_196 x0 1 (g_199 x0 1 (g_194 x0 1831504 (g_194 x0 316189 (g_194 x0 208022 d)))))) b = d b from fun b hb => (F20 b (by omega)).trans ((F19 b (by omega)).trans ((F14 b (by omega)).trans ((F4 b (by omega)).trans ((F3 b (by omega)).trans (F2 b (by omega))))))) b hb)) (k0.trans ((((((congrFun (F20 x0 (by omega)) 9).trans (k19_0)).trans (k14_0)).trans (k4_0)).trans (k3_0)).trans (k2_0))) P_hmp P_hmw (by omega) hS_
      · refine k_197 hS3 hx0 (by omega) (by omega) (fun e24 F21 k21_0 n21_0 n21_1 n21_2 hS21 => ?_)
        refine t_205_94 ?_
        have w8 := r_11_f9 hS21 hx0
        have w9 := r_11_f10 hS21 hx0
        rw [F21 (x0 + 1) (by omega)]
        rw [F3 (x0 + 1) (by omega)]
        rw [F2 (x0 + 1) (by omega)]
        have q144 := mh_0 hS hx0 _ rfl
        refine ⟨by omega, ⟨m_inR (by omega) (by omega), m_inR (by omega) (by omega)⟩, fun c3 => ?_, fun c3 => ?_⟩
        · refine k_196 hS21 hx0 (by omega) (fun e25 F22 k22_0 n22_0 n22_1 n22_2 hS22 => ?_)
          refine t_205_118 ?_
          have w8 := r_11_f9 hS22 hx0
          have w9 := r_11_f10 hS22 hx0
          refine ⟨m_inR (by omega) (by omega), fun c4 => ?_, fun c4 => ?_⟩
          · have q145 := r_11_f13 hS22 hx0
            refine ⟨m_inR (by omega) (by omega), fun c5 => ?_, fun c5 => ?_⟩
            · have q146 := miand_r x1 0 (by decide) (by decide)
              have q147 := mbool x1
              have q148 := r_11_f10 hS22 hx0
              have q149 : (g_196 x0 0 (g_197 x0 1 99 (g_194 x0 316189 (g_194 x0 208022 d)))) (x0 + 1) 0 = d (x0 + 1) 0 := (((congrFun (F22 (x0 + 1) (by omega)) 0).trans (congrFun (F21 (x0 + 1) (by omega)) 0)).trans (congrFun (F3 (x0 + 1) (by omega)) 0)).trans (congrFun (F2 (x0 + 1) (by omega)) 0)
              refine ih13 (miand x1 0) (.inl (0, v_197 x0 1 99 (g_194 x0 316189 (g_194 x0 208022 d)))) v3 v4 (g_196 x0 0 (g_197 x0 1 99 (g_194 x0 316189 (g_194 x0 208022 d)))) hS22 (by omega) (mpP.of (mh_7 hS hx0 _ rfl) (show ∀ i : Int, i = 7 ∨ (12 ≤ i ∧ i < 420 ∧ (i - 12) % 68 = 2) → (g_196 x0 0 (g_197 x0 1 99 (g_194 x0 316189 (g_194 x0 208022 d)))) (x0 + 1) i = d (x0 + 1) i from fun i hi => (((congrFun (F22 (x0 + 1) (by omega)) i).trans (congrFun (F21 (x0 + 1) (by omega)) i)).trans (congrFun (F3 (x0 + 1) (by omega)) i)).trans (congrFun (F2 (x0 + 1) (by omega)) i)) hmp) (mwP.eq (F22 (x0 + 1) (by omega)) (mwP.eq (F21 (x0 + 1) (by omega)) (mwP.eq (F3 (x0 + 1) (by omega)) (mwP.eq (F2 (x0 + 1) (by omega)) hmw)))) (by omega) (by omega) (by omega) ?_
              intro F k0 P_hmp P_hmw n0 hS_
              have y0 : st_205_13 x0 r13 x1 d = r13 (miand x1 0) (g_196 x0 0 (g_197 x0 1 99 (g_194 x0 316189 (g_194 x0 208022 d)))) := by simp only [st_205_13, if_neg (show ¬ x1 = 0 from c0), if_pos (show v_194 x0 208022 d = 0 from c1), if_neg (show ¬ v_194 x0 316189 (g_194 x0 208022 d) = 0 from c2), if_pos (show (999 : Int) < (d (x0 + 1) 0) + (v_197 x0 1 99 (g_194 x0 316189 (g_194 x0 208022 d))) from c3), if_pos (show v_196 x0 0 (g_197 x0 1 99 (g_194 x0 316189 (g_194 x0 208022 d))) = 0 from c4), if_neg (show ¬ (g_196 x0 0 (g_197 x0 1 99 (g_194 x0 316189 (g_194 x0 208022 d)))) x0 13 = 0 from c5)]
              rw [y0] at h
              exact h (fun b hb => (F b hb).trans ((show ∀ b : Int, (b < x0 ∨ x0 + 1 < b) → (g_196 x0 0 (g_197 x0 1 99 (g_194 x0 316189 (g_194 x0 208022 d)))) b = d b from fun b hb => (F22 b (by omega)).trans ((F21 b (by omega)).trans ((F3 b (by omega)).trans (F2 b (by omega))))) b hb)) (k0.trans ((((k22_0).trans (k21_0)).trans (k3_0)).trans (k2_0))) P_hmp P_hmw (by omega) hS_
            · have q150 := miand_r x1 1 (by decide) (by decide)
              have q151 := mbool x1
              have q152 := r_11_f10 hS22 hx0
              have q153 : (g_196 x0 0 (g_197 x0 1 99 (g_194 x0 316189 (g_194 x0 208022 d)))) (x0 + 1) 0 = d (x0 + 1) 0 := (((congrFun (F22 (x0 + 1) (by omega)) 0).trans (congrFun (F21 (x0 + 1) (by omega)) 0)).trans (congrFun (F3 (x0 + 1) (by omega)) 0)).trans (congrFun (F2 (x0 + 1) (by omega)) 0)
              refine ih13 (miand x1 1) (.inl (0, v_197 x0 1 99 (g_194 x0 316189 (g_194 x0 208022 d)))) v3 v4 (g_196 x0 0 (g_197 x0 1 99 (g_194 x0 316189 (g_194 x0 208022 d)))) hS22 (by omega) (mpP.of (mh_7 hS hx0 _ rfl) (show ∀ i : Int, i = 7 ∨ (12 ≤ i ∧ i < 420 ∧ (i - 12) % 68 = 2) → (g_196 x0 0 (g_197 x0 1 99 (g_194 x0 316189 (g_194 x0 208022 d)))) (x0 + 1) i = d (x0 + 1) i from fun i hi => (((congrFun (F22 (x0 + 1) (by omega)) i).trans (congrFun (F21 (x0 + 1) (by omega)) i)).trans (congrFun (F3 (x0 + 1) (by omega)) i)).trans (congrFun (F2 (x0 + 1) (by omega)) i)) hmp) (mwP.eq (F22 (x0 + 1) (by omega)) (mwP.eq (F21 (x0 + 1) (by omega)) (mwP.eq (F3 (x0 + 1) (by omega)) (mwP.eq (F2 (x0 + 1) (by omega)) hmw)))) (by omega) (by omega) (by omega) ?_
              intro F k0 P_hmp P_hmw n0 hS_
              have y0 : st_205_13 x0 r13 x1 d = r13 (miand x1 1) (g_196 x0 0 (g_197 x0 1 99 (g_194 x0 316189 (g_194 x0 208022 d)))) := by simp only [st_205_13, if_neg (show ¬ x1 = 0 from c0), if_pos (show v_194 x0 208022 d = 0 from c1), if_neg (show ¬ v_194 x0 316189 (g_194 x0 208022 d) = 0 from c2), if_pos (show (999 : Int) < (d (x0 + 1) 0) + (v_197 x0 1 99 (g_194 x0 316189 (g_194 x0 208022 d))) from c3), if_pos (show v_196 x0 0 (g_197 x0 1 99 (g_194 x0 316189 (g_194 x0 208022 d))) = 0 from c4), if_pos (show (g_196 x0 0 (g_197 x0 1 99 (g_194 x0 316189 (g_194 x0 208022 d)))) x0 13 = 0 from c5)]
              rw [y0] at h
              exact h (fun b hb => (F b hb).trans ((show ∀ b : Int, (b < x0 ∨ x0 + 1 < b) → (g_196 x0 0 (g_197 x0 1 99 (g_194 x0 316189 (g_194 x0 208022 d)))) b = d b from fun b hb => (F22 b (by omega)).trans ((F21 b (by omega)).trans ((F3 b (by omega)).trans (F2 b (by omega))))) b hb)) (k0.trans ((((k22_0).trans (k21_0)).trans (k3_0)).trans (k2_0))) P_hmp P_hmw (by omega) hS_
          · have q154 : (g_196 x0 0 (g_197 x0 1 99 (g_194 x0 316189 (g_194 x0 208022 d)))) (x0 + 1) 0 = d (x0 + 1) 0 := (((congrFun (F22 (x0 + 1) (by omega)) 0).trans (congrFun (F21 (x0 + 1) (by omega)) 0)).trans (congrFun (F3 (x0 + 1) (by omega)) 0)).trans (congrFun (F2 (x0 + 1) (by omega)) 0)
            refine l_205_123 hx0 N13 r13 ih13 ((v_197 x0 1 99 (g_194 x0 316189 (g_194 x0 208022 d))) - 0 : Int).toNat x1 (v_197 x0 1 99 (g_194 x0 316189 (g_194 x0 208022 d))) 0 v4 (g_196 x0 0 (g_197 x0 1 99 (g_194 x0 316189 (g_194 x0 208022 d)))) hS22 (by omega) (by omega) (by omega) (mpP.of (mh_7 hS hx0 _ rfl) (show ∀ i : Int, i = 7 ∨ (12 ≤ i ∧ i < 420 ∧ (i - 12) % 68 = 2) → (g_196 x0 0 (g_197 x0 1 99 (g_194 x0 316189 (g_194 x0 208022 d)))) (x0 + 1) i = d (x0 + 1) i from fun i hi => (((congrFun (F22 (x0 + 1) (by omega)) i).trans (congrFun (F21 (x0 + 1) (by omega)) i)).trans (congrFun (F3 (x0 + 1) (by omega)) i)).trans (congrFun (F2 (x0 + 1) (by omega)) i)) hmp) (mwP.eq (F22 (x0 + 1) (by omega)) (mwP.eq (F21 (x0 + 1) (by omega)) (mwP.eq (F3 (x0 + 1) (by omega)) (mwP.eq (F2 (x0 + 1) (by omega)) hmw)))) (by omega) (by omega) (by omega) ?_
            intro F k0 P_hmp P_hmw n0 hS_
            have y0 : st_205_13 x0 r13 x1 d = lp_205_123 x0 r13 ((v_197 x0 1 99 (g_194 x0 316189 (g_194 x0 208022 d))) - 0 : Int).toNat x1 (v_197 x0 1 99 (g_194 x0 316189 (g_194 x0 208022 d))) 0 (g_196 x0 0 (g_197 x0 1 99 (g_194 x0 316189 (g_194 x0 208022 d)))) := by simp only [st_205_13, if_neg (show ¬ x1 = 0 from c0), if_pos (show v_194 x0 208022 d = 0 from c1), if_neg (show ¬ v_194 x0 316189 (g_194 x0 208022 d) = 0 from c2), if_pos (show (999 : Int) < (d (x0 + 1) 0) + (v_197 x0 1 99 (g_194 x0 316189 (g_194 x0 208022 d))) from c3), if_neg (show ¬ v_196 x0 0 (g_197 x0 1 99 (g_194 x0 316189 (g_194 x0 208022 d))) = 0 from c4)]
            rw [y0] at h
            exact h (fun b hb => (F b hb).trans ((show ∀ b : Int, (b < x0 ∨ x0 + 1 < b) → (g_196 x0 0 (g_197 x0 1 99 (g_194 x0 316189 (g_194 x0 208022 d)))) b = d b from fun b hb => (F22 b (by omega)).trans ((F21 b (by omega)).trans ((F3 b (by omega)).trans (F2 b (by omega))))) b hb)) (k0.trans ((((k22_0).trans (k21_0)).trans (k3_0)).trans (k2_0))) P_hmp P_hmw (by omega) hS_
        · refine k_196 hS21 hx0 (by omega) (fun e26 F23 k23_0 n23_0 n23_1 n23_2 hS23 => ?_)
          refine t_205_118 ?_
          have w8 := r_11_f9 hS23 hx0
          have w9 := r_11_f10 hS23 hx0
          refine ⟨m_inR (by omega) (by omega), fun c4 => ?_, fun c4 => ?_⟩
          · have q155 := r_11_f13 hS23 hx0
            refine ⟨m_inR (by omega) (by omega), fun c5 => ?_, fun c5 => ?_⟩
            · have q156 := miand_r x1 0 (by decide) (by decide)
              have q157 := mbool x1
              have q158 := r_11_f10 hS23 hx0
              have q159 : (g_196 x0 1 (g_197 x0 1 99 (g_194 x0 316189 (g_194 x0 208022 d)))) (x0 + 1) 0 = d (x0 + 1) 0 := (((congrFun (F23 (x0 + 1) (by omega)) 0).trans (congrFun (F21 (x0 + 1) (by omega)) 0)).trans (congrFun (F3 (x0 + 1) (by omega)) 0)).trans (congrFun (F2 (x0 + 1) (by omega)) 0)
              refine ih13 (miand x1 0) (.inl (0, v_197 x0 1 99 (g_194 x0 316189 (g_194 x0 208022 d)))) v3 v4 (g_196 x0 1 (g_197 x0 1 99 (g_194 x0 316189 (g_194 x0 208022 d)))) hS23 (by omega) (mpP.of (mh_7 hS hx0 _ rfl) (show ∀ i : Int, i = 7 ∨ (12 ≤ i ∧ i < 420 ∧ (i - 12) % 68 = 2) → (g_196 x0 1 (g_197 x0 1 99 (g_194 x0 316189 (g_194 x0 208022 d)))) (x0 + 1) i = d (x0 + 1) i from fun i hi => (((congrFun (F23 (x0 + 1) (by omega)) i).trans (congrFun (F21 (x0 + 1) (by omega)) i)).trans (congrFun (F3 (x0 + 1) (by omega)) i)).trans (congrFun (F2 (x0 + 1) (by omega)) i)) hmp) (mwP.eq (F23 (x0 + 1) (by omega)) (mwP.eq (F21 (x0 + 1) (by omega)) (mwP.eq (F3 (x0 + 1) (by omega)) (mwP.eq (F2 (x0 + 1) (by omega)) hmw)))) (by omega) (by omega) (by omega) ?_
              intro F k0 P_hmp P_hmw n0 hS_
              have y0 : st_205_13 x0 r13 x1 d = r13 (miand x1 0) (g_196 x0 1 (g_197 x0 1 99 (g_194 x0 316189 (g_194 x0 208022 d)))) := by simp only [st_205_13, if_neg (show ¬ x1 = 0 from c0), if_pos (show v_194 x0 208022 d = 0 from c1), if_neg (show ¬ v_194 x0 316189 (g_194 x0 208022 d) = 0 from c2), if_neg (show ¬ (999 : Int) < (d (x0 + 1) 0) + (v_197 x0 1 99 (g_194 x0 316189 (g_194 x0 208022 d))) from Int.not_lt.mpr c3), if_pos (show v_196 x0 1 (g_197 x0 1 99 (g_194 x0 316189 (g_194 x0 208022 d))) = 0 from c4), if_neg (show ¬ (g_196 x0 1 (g_197 x0 1 99 (g_194 x0 316189 (g_194 x0 208022 d)))) x0 13 = 0 from c5)]
              rw [y0] at h
              exact h (fun b hb => (F b hb).trans ((show ∀ b : Int, (b < x0 ∨ x0 + 1 < b) → (g_196 x0 1 (g_197 x0 1 99 (g_194 x0 316189 (g_194 x0 208022 d)))) b = d b from fun b hb => (F23 b (by omega)).trans ((F21 b (by omega)).trans ((F3 b (by omega)).trans (F2 b (by omega))))) b hb)) (k0.trans ((((k23_0).trans (k21_0)).trans (k3_0)).trans (k2_0))) P_hmp P_hmw (by omega) hS_
            · have q160 := miand_r x1 1 (by decide) (by decide)
              have q161 := mbool x1
              have q162 := r_11_f10 hS23 hx0
              have q163 : (g_196 x0 1 (g_197 x0 1 99 (g_194 x0 316189 (g_194 x0 208022 d)))) (x0 + 1) 0 = d (x0 + 1) 0 := (((congrFun (F23 (x0 + 1) (by omega)) 0).trans (congrFun (F21 (x0 + 1) (by omega)) 0)).trans (congrFun (F3 (x0 + 1) (by omega)) 0)).trans (congrFun (F2 (x0 + 1) (by omega)) 0)
              refine ih13 (miand x1 1) (.inl (0, v_197 x0 1 99 (g_194 x0 316189 (g_194 x0 208022 d)))) v3 v4 (g_196 x0 1 (g_197 x0 1 99 (g_194 x0 316189 (g_194 x0 208022 d)))) hS23 (by omega) (mpP.of (mh_7 hS hx0 _ rfl) (show ∀ i : Int, i = 7 ∨ (12 ≤ i ∧ i < 420 ∧ (i - 12) % 68 = 2) → (g_196 x0 1 (g_197 x0 1 99 (g_194 x0 316189 (g_194 x0 208022 d)))) (x0 + 1) i = d (x0 + 1) i from fun i hi => (((congrFun (F23 (x0 + 1) (by omega)) i).trans (congrFun (F21 (x0 + 1) (by omega)) i)).trans (congrFun (F3 (x0 + 1) (by omega)) i)).trans (congrFun (F2 (x0 + 1) (by omega)) i)) hmp) (mwP.eq (F23 (x0 + 1) (by omega)) (mwP.eq (F21 (x0 + 1) (by omega)) (mwP.eq (F3 (x0 + 1) (by omega)) (mwP.eq (F2 (x0 + 1) (by omega)) hmw)))) (by omega) (by omega) (by omega) ?_
              intro F k0 P_hmp P_hmw n0 hS_
              have y0 : st_205_13 x0 r13 x1 d = r13 (miand x1 1) (g_196 x0 1 (g_197 x0 1 99 (g_194 x0 316189 (g_194 x0 208022 d)))) := by simp only [st_205_13, if_neg (show ¬ x1 = 0 from c0), if_pos (show v_194 x0 208022 d = 0 from c1), if_neg (show ¬ v_194 x0 316189 (g_194 x0 208022 d) = 0 from c2), if_neg (show ¬ (999 : Int) < (d (x0 + 1) 0) + (v_197 x0 1 99 (g_194 x0 316189 (g_194 x0 208022 d))) from Int.not_lt.mpr c3), if_pos (show v_196 x0 1 (g_197 x0 1 99 (g_194 x0 316189 (g_194 x0 208022 d))) = 0 from c4), if_pos (show (g_196 x0 1 (g_197 x0 1 99 (g_194 x0 316189 (g_194 x0 208022 d)))) x0 13 = 0 from c5)]
              rw [y0] at h
              exact h (fun b hb => (F b hb).trans ((show ∀ b : Int, (b < x0 ∨ x0 + 1 < b) → (g_196 x0 1 (g_197 x0 1 99 (g_194 x0 316189 (g_194 x0 208022 d)))) b = d b from fun b hb => (F23 b (by omega)).trans ((F21 b (by omega)).trans ((F3 b (by omega)).trans (F2 b (by omega))))) b hb)) (k0.trans ((((k23_0).trans (k21_0)).trans (k3_0)).trans (k2_0))) P_hmp P_hmw (by omega) hS_
          · have q164 : (g_196 x0 1 (g_197 x0 1 99 (g_194 x0 316189 (g_194 x0 208022 d)))) (x0 + 1) 0 = d (x0 + 1) 0 := (((congrFun (F23 (x0 + 1) (by omega)) 0).trans (congrFun (F21 (x0 + 1) (by omega)) 0)).trans (congrFun (F3 (x0 + 1) (by omega)) 0)).trans (congrFun (F2 (x0 + 1) (by omega)) 0)
            refine l_205_123 hx0 N13 r13 ih13 ((v_197 x0 1 99 (g_194 x0 316189 (g_194 x0 208022 d))) - 0 : Int).toNat x1 (v_197 x0 1 99 (g_194 x0 316189 (g_194 x0 208022 d))) 0 v4 (g_196 x0 1 (g_197 x0 1 99 (g_194 x0 316189 (g_194 x0 208022 d)))) hS23 (by omega) (by omega) (by omega) (mpP.of (mh_7 hS hx0 _ rfl) (show ∀ i : Int, i = 7 ∨ (12 ≤ i ∧ i < 420 ∧ (i - 12) % 68 = 2) → (g_196 x0 1 (g_197 x0 1 99 (g_194 x0 316189 (g_194 x0 208022 d)))) (x0 + 1) i = d (x0 + 1) i from fun i hi => (((congrFun (F23 (x0 + 1) (by omega)) i).trans (congrFun (F21 (x0 + 1) (by omega)) i)).trans (congrFun (F3 (x0 + 1) (by omega)) i)).trans (congrFun (F2 (x0 + 1) (by omega)) i)) hmp) (mwP.eq (F23 (x0 + 1) (by omega)) (mwP.eq (F21 (x0 + 1) (by omega)) (mwP.eq (F3 (x0 + 1) (by omega)) (mwP.eq (F2 (x0 + 1) (by omega)) hmw)))) (by omega) (by omega) (by omega) ?_
            intro F k0 P_hmp P_hmw n0 hS_
            have y0 : st_205_13 x0 r13 x1 d = lp_205_123 x0 r13 ((v_197 x0 1 99 (g_194 x0 316189 (g_194 x0 208022 d))) - 0 : Int).toNat x1 (v_197 x0 1 99 (g_194 x0 316189 (g_194 x0 208022 d))) 0 (g_196 x0 1 (g_197 x0 1 99 (g_194 x0 316189 (g_194 x0 208022 d)))) := by simp only [st_205_13, if_neg (show ¬ x1 = 0 from c0), if_pos (show v_194 x0 208022 d = 0 from c1), if_neg (show ¬ v_194 x0 316189 (g_194 x0 208022 d) = 0 from c2), if_neg (show ¬ (999 : Int) < (d (x0 + 1) 0) + (v_197 x0 1 99 (g_194 x0 316189 (g_194 x0 208022 d))) from Int.not_lt.mpr c3), if_neg (show ¬ v_196 x0 1 (g_197 x0 1 99 (g_194 x0 316189 (g_194 x0 208022 d))) = 0 from c4)]
            rw [y0] at h
            exact h (fun b hb => (F b hb).trans ((show ∀ b : Int, (b < x0 ∨ x0 + 1 < b) → (g_196 x0 1 (g_197 x0 1 99 (g_194 x0 316189 (g_194 x0 208022 d)))) b = d b from fun b hb => (F23 b (by omega)).trans ((F21 b (by omega)).trans ((F3 b (by omega)).trans (F2 b (by omega))))) b hb)) (k0.trans ((((k23_0).trans (k21_0)).trans (k3_0)).trans (k2_0))) P_hmp P_hmw (by omega) hS_
    · refine k_199 hS2 hx0 (by omega) (fun e27 F24 k24_0 n24_0 n24_1 n24_2 hS24 => ?_)
      refine t_205_32 ?_
      have w8 := r_11_f9 hS24 hx0
      have w9 := r_11_f10 hS24 hx0
      refine k_200 hS24 hx0 (fun e28 F25 k25_0 n25_0 n25_1 hS25 => ?_)
      refine t_205_37 ?_
      have w8 := r_11_f9 hS25 hx0
      have w9 := r_11_f10 hS25 hx0
      have q165 := r_11_f13 hS25 hx0
      refine ⟨m_inR (by omega) (by omega), fun c2 => ?_, fun c2 => ?_⟩
      · refine k_196 hS25 hx0 (by omega) (fun e29 F26 k26_0 n26_0 n26_1 n26_2 hS26 => ?_)
        refine t_205_63 ?_
        have w8 := r_11_f9 hS26 hx0
        have w9 := r_11_f10 hS26 hx0
        refine ⟨m_inR (by omega) (by omega), fun c3 => ?_, fun c3 => ?_⟩
        · have q166 := r_11_f13 hS26 hx0
          refine ⟨m_inR (by omega) (by omega), fun c4 => ?_, fun c4 => ?_⟩
          · have q167 := miand_r x1 0 (by decide) (by decide)
            have q168 := mbool x1
            have q169 := r_11_f10 hS26 hx0
            have q170 : (g_196 x0 0 (g_200 x0 (g_199 x0 0 (g_194 x0 208022 d)))) (x0 + 1) 0 = d (x0 + 1) 0 := (((congrFun (F26 (x0 + 1) (by omega)) 0).trans (congrFun (F25 (x0 + 1) (by omega)) 0)).trans (congrFun (F24 (x0 + 1) (by omega)) 0)).trans (congrFun (F2 (x0 + 1) (by omega)) 0)
            refine ih13 (miand x1 0) (.inl (0, v_199 x0 0 (g_194 x0 208022 d))) (.inl (0, v_200 x0 (g_199 x0 0 (g_194 x0 208022 d)))) v4 (g_196 x0 0 (g_200 x0 (g_199 x0 0 (g_194 x0 208022 d)))) hS26 (by omega) (mpP.of (mh_7 hS hx0 _ rfl) (show ∀ i : Int, i = 7 ∨ (12 ≤ i ∧ i < 420 ∧ (i - 12) % 68 = 2) → (g_196 x0 0 (g_200 x0 (g_199 x0 0 (g_194 x0 208022 d)))) (x0 + 1) i = d (x0 + 1) i from fun i hi => (((congrFun (F26 (x0 + 1) (by omega)) i).trans (congrFun (F25 (x0 + 1) (by omega)) i)).trans (congrFun (F24 (x0 + 1) (by omega)) i)).trans (congrFun (F2 (x0 + 1) (by omega)) i)) hmp) (mwP.eq (F26 (x0 + 1) (by omega)) (mwP.eq (F25 (x0 + 1) (by omega)) (mwP.eq (F24 (x0 + 1) (by omega)) (mwP.eq (F2 (x0 + 1) (by omega)) hmw)))) (by omega) (by omega) (by omega) ?_
            intro F k0 P_hmp P_hmw n0 hS_
            have y0 : st_205_13 x0 r13 x1 d = r13 (miand x1 0) (g_196 x0 0 (g_200 x0 (g_199 x0 0 (g_194 x0 208022 d)))) := by simp only [st_205_13, if_neg (show ¬ x1 = 0 from c0), if_neg (show ¬ v_194 x0 208022 d = 0 from c1), if_neg (show ¬ (g_200 x0 (g_199 x0 0 (g_194 x0 208022 d))) x0 13 = 0 from c2), if_pos (show v_196 x0 0 (g_200 x0 (g_199 x0 0 (g_194 x0 208022 d))) = 0 from c3), if_neg (show ¬ (g_196 x0 0 (g_200 x0 (g_199 x0 0 (g_194 x0 208022 d)))) x0 13 = 0 from c4)]
            rw [y0] at h
            exact h (fun b hb => (F b hb).trans ((show ∀ b : Int, (b < x0 ∨ x0 + 1 < b) → (g_196 x0 0 (g_200 x0 (g_199 x0 0 (g_194 x0 208022 d)))) b = d b from fun b hb => (F26 b (by omega)).trans ((F25 b (by omega)).trans ((F24 b (by omega)).trans (F2 b (by omega))))) b hb)) (k0.trans ((((k26_0).trans (k25_0)).trans (k24_0)).trans (k2_0))) P_hmp P_hmw (by omega) hS_
          · have q171 := miand_r x1 1 (by decide) (by decide)
            have q172 := mbool x1
            have q173 := r_11_f10 hS26 hx0
            have q174 : (g_196 x0 0 (g_200 x0 (g_199 x0 0 (g_194 x0 208022 d)))) (x0 + 1) 0 = d (x0 + 1) 0 := (((congrFun (F26 (x0 + 1) (by omega)) 0).trans (congrFun (F25 (x0 + 1) (by omega)) 0)).trans (congrFun (F24 (x0 + 1) (by omega)) 0)).trans (congrFun (F2 (x0 + 1) (by omega)) 0)
            refine ih13 (miand x1 1) (.inl (0, v_199 x0 0 (g_194 x0 208022 d))) (.inl (0, v_200 x0 (g_199 x0 0 (g_194 x0 208022 d)))) v4 (g_196 x0 0 (g_200 x0 (g_199 x0 0 (g_194 x0 208022 d)))) hS26 (by omega) (mpP.of (mh_7 hS hx0 _ rfl) (show ∀ i : Int, i = 7 ∨ (12 ≤ i ∧ i < 420 ∧ (i - 12) % 68 = 2) → (g_196 x0 0 (g_200 x0 (g_199 x0 0 (g_194 x0 208022 d)))) (x0 + 1) i = d (x0 + 1) i from fun i hi => (((congrFun (F26 (x0 + 1) (by omega)) i).trans (congrFun (F25 (x0 + 1) (by omega)) i)).trans (congrFun (F24 (x0 + 1) (by omega)) i)).trans (congrFun (F2 (x0 + 1) (by omega)) i)) hmp) (mwP.eq (F26 (x0 + 1) (by omega)) (mwP.eq (F25 (x0 + 1) (by omega)) (mwP.eq (F24 (x0 + 1) (by omega)) (mwP.eq (F2 (x0 + 1) (by omega)) hmw)))) (by omega) (by omega) (by omega) ?_
            intro F k0 P_hmp P_hmw n0 hS_
            have y0 : st_205_13 x0 r13 x1 d = r13 (miand x1 1) (g_196 x0 0 (g_200 x0 (g_199 x0 0 (g_194 x0 208022 d)))) := by simp only [st_205_13, if_neg (show ¬ x1 = 0 from c0), if_neg (show ¬ v_194 x0 208022 d = 0 from c1), if_neg (show ¬ (g_200 x0 (g_199 x0 0 (g_194 x0 208022 d))) x0 13 = 0 from c2), if_pos (show v_196 x0 0 (g_200 x0 (g_199 x0 0 (g_194 x0 208022 d))) = 0 from c3), if_pos (show (g_196 x0 0 (g_200 x0 (g_199 x0 0 (g_194 x0 208022 d)))) x0 13 = 0 from c4)]
            rw [y0] at h
            exact h (fun b hb => (F b hb).trans ((show ∀ b : Int, (b < x0 ∨ x0 + 1 < b) → (g_196 x0 0 (g_200 x0 (g_199 x0 0 (g_194 x0 208022 d)))) b = d b from fun b hb => (F26 b (by omega)).trans ((F25 b (by omega)).trans ((F24 b (by omega)).trans (F2 b (by omega))))) b hb)) (k0.trans ((((k26_0).trans (k25_0)).trans (k24_0)).trans (k2_0))) P_hmp P_hmw (by omega) hS_
        · have q175 : (g_196 x0 0 (g_200 x0 (g_199 x0 0 (g_194 x0 208022 d)))) (x0 + 1) 9 = d (x0 + 1) 9 := (((congrFun (F26 (x0 + 1) (by omega)) 9).trans (congrFun (F25 (x0 + 1) (by omega)) 9)).trans (congrFun (F24 (x0 + 1) (by omega)) 9)).trans (congrFun (F2 (x0 + 1) (by omega)) 9)
          have q176 : (g_196 x0 0 (g_200 x0 (g_199 x0 0 (g_194 x0 208022 d)))) (x0 + 1) (12 + 68 * v_200 x0 (g_199 x0 0 (g_194 x0 208022 d)) + 5) = d (x0 + 1) (12 + 68 * v_200 x0 (g_199 x0 0 (g_194 x0 208022 d)) + 5) := (((congrFun (F26 (x0 + 1) (by omega)) (12 + 68 * v_200 x0 (g_199 x0 0 (g_194 x0 208022 d)) + 5)).trans (congrFun (F25 (x0 + 1) (by omega)) (12 + 68 * v_200 x0 (g_199 x0 0 (g_194 x0 208022 d)) + 5))).trans (congrFun (F24 (x0 + 1) (by omega)) (12 + 68 * v_200 x0 (g_199 x0 0 (g_194 x0 208022 d)) + 5))).trans (congrFun (F2 (x0 + 1) (by omega)) (12 + 68 * v_200 x0 (g_199 x0 0 (g_194 x0 208022 d)) + 5))
          refine k_226 hS26 hx0 (by omega) (by omega) (by omega) (by omega) (fun e30 F27 Q27 hS27 => ?_)
          have P27hmw : mwP ((g_226 x0 (v_199 x0 0 (g_194 x0 208022 d)) (v_200 x0 (g_199 x0 0 (g_194 x0 208022 d))) (g_196 x0 0 (g_200 x0 (g_199 x0 0 (g_194 x0 208022 d))))) (x0 + 1)) := mw_226 hS26 hx0 (by omega) (by omega) (by omega) (mwP.eq (F26 (x0 + 1) (by omega)) (mwP.eq (F25 (x0 + 1) (by omega)) (mwP.eq (F24 (x0 + 1) (by omega)) (mwP.eq (F2 (x0 + 1) (by omega)) hmw))))
          refine t_205_72 ?_
          have w8 := r_11_f9 hS27 hx0
          have w9 := r_11_f10 hS27 hx0
          rw [F27 x0 (by omega)]
          have q177 := r_11_f13 hS26 hx0
          refine ⟨m_inR (by omega) (by omega), fun c4 => ?_, fun c4 => ?_⟩
          · have q178 := miand_r x1 0 (by decide) (by decide)
            have q179 := mbool x1
            have q180 := r_11_f10 hS27 hx0
            have q181 : (g_226 x0 (v_199 x0 0 (g_194 x0 208022 d)) (v_200 x0 (g_199 x0 0 (g_194 x0 208022 d))) (g_196 x0 0 (g_200 x0 (g_199 x0 0 (g_194 x0 208022 d))))) (x0 + 1) 0 = d (x0 + 1) 0 := ((((Q27 0 (by omega)).trans (congrFun (F26 (x0 + 1) (by omega)) 0)).trans (congrFun (F25 (x0 + 1) (by omega)) 0)).trans (congrFun (F24 (x0 + 1) (by omega)) 0)).trans (congrFun (F2 (x0 + 1) (by omega)) 0)
            have q182 : (g_226 x0 (v_199 x0 0 (g_194 x0 208022 d)) (v_200 x0 (g_199 x0 0 (g_194 x0 208022 d))) (g_196 x0 0 (g_200 x0 (g_199 x0 0 (g_194 x0 208022 d))))) x0 10 = (g_196 x0 0 (g_200 x0 (g_199 x0 0 (g_194 x0 208022 d)))) x0 10 := congrFun (F27 x0 (by omega)) 10
            refine ih13 (miand x1 0) (.inl (0, v_199 x0 0 (g_194 x0 208022 d))) (.inl (0, v_200 x0 (g_199 x0 0 (g_194 x0 208022 d)))) (.inl (0, v_226 x0 (v_199 x0 0 (g_194 x0 208022 d)) (v_200 x0 (g_199 x0 0 (g_194 x0 208022 d))) (g_196 x0 0 (g_200 x0 (g_199 x0 0 (g_194 x0 208022 d)))))) (g_226 x0 (v_199 x0 0 (g_194 x0 208022 d)) (v_200 x0 (g_199 x0 0 (g_194 x0 208022 d))) (g_196 x0 0 (g_200 x0 (g_199 x0 0 (g_194 x0 208022 d))))) hS27 (by omega) (mpP.of (mh_7 hS hx0 _ rfl) (show ∀ i : Int, i = 7 ∨ (12 ≤ i ∧ i < 420 ∧ (i - 12) % 68 = 2) → (g_226 x0 (v_199 x0 0 (g_194 x0 208022 d)) (v_200 x0 (g_199 x0 0 (g_194 x0 208022 d))) (g_196 x0 0 (g_200 x0 (g_199 x0 0 (g_194 x0 208022 d))))) (x0 + 1) i = d (x0 + 1) i from fun i hi => ((((Q27 i (by omega)).trans (congrFun (F26 (x0 + 1) (by omega)) i)).trans (congrFun (F25 (x0 + 1) (by omega)) i)).trans (congrFun (F24 (x0 + 1) (by omega)) i)).trans (congrFun (F2 (x0 + 1) (by omega)) i)) hmp) P27hmw (by omega) (by omega) (by omega) ?_
            intro F k0 P_hmp P_hmw n0 hS_
            have y0 : st_205_13 x0 r13 x1 d = r13 (miand x1 0) (g_226 x0 (v_199 x0 0 (g_194 x0 208022 d)) (v_200 x0 (g_199 x0 0 (g_194 x0 208022 d))) (g_196 x0 0 (g_200 x0 (g_199 x0 0 (g_194 x0 208022 d))))) := by simp only [st_205_13, if_neg (show ¬ x1 = 0 from c0), if_neg (show ¬ v_194 x0 208022 d = 0 from c1), if_neg (show ¬ (g_200 x0 (g_199 x0 0 (g_194 x0 208022 d))) x0 13 = 0 from c2), if_neg (show ¬ v_196 x0 0 (g_200 x0 (g_199 x0 0 (g_194 x0 208022 d))) = 0 from c3), if_neg (show ¬ (g_196 x0 0 (g_200 x0 (g_199 x0 0 (g_194 x0 208022 d)))) x0 13 = 0 from c4)]
            rw [y0] at h
            exact h (fun b hb => (F b hb).trans ((show ∀ b : Int, (b < x0 ∨ x0 + 1 < b) → (g_226 x0 (v_199 x0 0 (g_194 x0 208022 d)) (v_200 x0 (g_199 x0 0 (g_194 x0 208022 d))) (g_196 x0 0 (g_200 x0 (g_199 x0 0 (g_194 x0 208022 d))))) b = d b from fun b hb => (F27 b (by omega)).trans ((F26 b (by omega)).trans ((F25 b (by omega)).trans ((F24 b (by omega)).trans (F2 b (by omega)))))) b hb)) (k0.trans (((((congrFun (F27 x0 (by omega)) 9).trans (k26_0)).trans (k25_0)).trans (k24_0)).trans (k2_0))) P_hmp P_hmw (by omega) hS_
          · have q183 := miand_r x1 1 (by decide) (by decide)
            have q184 := mbool x1
            have q185 := r_11_f10 hS27 hx0
            have q186 : (g_226 x0 (v_199 x0 0 (g_194 x0 208022 d)) (v_200 x0 (g_199 x0 0 (g_194 x0 208022 d))) (g_196 x0 0 (g_200 x0 (g_199 x0 0 (g_194 x0 208022 d))))) (x0 + 1) 0 = d (x0 + 1) 0 := ((((Q27 0 (by omega)).trans (congrFun (F26 (x0 + 1) (by omega)) 0)).trans (congrFun (F25 (x0 + 1) (by omega)) 0)).trans (congrFun (F24 (x0 + 1) (by omega)) 0)).trans (congrFun (F2 (x0 + 1) (by omega)) 0)
            have q187 : (g_226 x0 (v_199 x0 0 (g_194 x0 208022 d)) (v_200 x0 (g_199 x0 0 (g_194 x0 208022 d))) (g_196 x0 0 (g_200 x0 (g_199 x0 0 (g_194 x0 208022 d))))) x0 10 = (g_196 x0 0 (g_200 x0 (g_199 x0 0 (g_194 x0 208022 d)))) x0 10 := congrFun (F27 x0 (by omega)) 10
            refine ih13 (miand x1 1) (.inl (0, v_199 x0 0 (g_194 x0 208022 d))) (.inl (0, v_200 x0 (g_199 x0 0 (g_194 x0 208022 d)))) (.inl (0, v_226 x0 (v_199 x0 0 (g_194 x0 208022 d)) (v_200 x0 (g_199 x0 0 (g_194 x0 208022 d))) (g_196 x0 0 (g_200 x0 (g_199 x0 0 (g_194 x0 208022 d)))))) (g_226 x0 (v_199 x0 0 (g_194 x0 208022 d)) (v_200 x0 (g_199 x0 0 (g_194 x0 208022 d))) (g_196 x0 0 (g_200 x0 (g_199 x0 0 (g_194 x0 208022 d))))) hS27 (by omega) (mpP.of (mh_7 hS hx0 _ rfl) (show ∀ i : Int, i = 7 ∨ (12 ≤ i ∧ i < 420 ∧ (i - 12) % 68 = 2) → (g_226 x0 (v_199 x0 0 (g_194 x0 208022 d)) (v_200 x0 (g_199 x0 0 (g_194 x0 208022 d))) (g_196 x0 0 (g_200 x0 (g_199 x0 0 (g_194 x0 208022 d))))) (x0 + 1) i = d (x0 + 1) i from fun i hi => ((((Q27 i (by omega)).trans (congrFun (F26 (x0 + 1) (by omega)) i)).trans (congrFun (F25 (x0 + 1) (by omega)) i)).trans (congrFun (F24 (x0 + 1) (by omega)) i)).trans (congrFun (F2 (x0 + 1) (by omega)) i)) hmp) P27hmw (by omega) (by omega) (by omega) ?_
            intro F k0 P_hmp P_hmw n0 hS_
            have y0 : st_205_13 x0 r13 x1 d = r13 (miand x1 1) (g_226 x0 (v_199 x0 0 (g_194 x0 208022 d)) (v_200 x0 (g_199 x0 0 (g_194 x0 208022 d))) (g_196 x0 0 (g_200 x0 (g_199 x0 0 (g_194 x0 208022 d))))) := by simp only [st_205_13, if_neg (show ¬ x1 = 0 from c0), if_neg (show ¬ v_194 x0 208022 d = 0 from c1), if_neg (show ¬ (g_200 x0 (g_199 x0 0 (g_194 x0 208022 d))) x0 13 = 0 from c2), if_neg (show ¬ v_196 x0 0 (g_200 x0 (g_199 x0 0 (g_194 x0 208022 d))) = 0 from c3), if_pos (show (g_196 x0 0 (g_200 x0 (g_199 x0 0 (g_194 x0 208022 d)))) x0 13 = 0 from c4)]
            rw [y0] at h
            exact h (fun b hb => (F b hb).trans ((show ∀ b : Int, (b < x0 ∨ x0 + 1 < b) → (g_226 x0 (v_199 x0 0 (g_194 x0 208022 d)) (v_200 x0 (g_199 x0 0 (g_194 x0 208022 d))) (g_196 x0 0 (g_200 x0 (g_199 x0 0 (g_194 x0 208022 d))))) b = d b from fun b hb => (F27 b (by omega)).trans ((F26 b (by omega)).trans ((F25 b (by omega)).trans ((F24 b (by omega)).trans (F2 b (by omega)))))) b hb)) (k0.trans (((((congrFun (F27 x0 (by omega)) 9).trans (k26_0)).trans (k25_0)).trans (k24_0)).trans (k2_0))) P_hmp P_hmw (by omega) hS_
      · refine k_225 hS25 hx0 (m_inR (by omega) (by omega)) (by omega) (fun e31 => ?_)
        have q188 : (g_200 x0 (g_199 x0 0 (g_194 x0 208022 d))) (x0 + 1) 9 = d (x0 + 1) 9 := ((congrFun (F25 (x0 + 1) (by omega)) 9).trans (congrFun (F24 (x0 + 1) (by omega)) 9)).trans (congrFun (F2 (x0 + 1) (by omega)) 9)
        have q189 : (g_200 x0 (g_199 x0 0 (g_194 x0 208022 d))) (x0 + 1) (12 + 68 * v_200 x0 (g_199 x0 0 (g_194 x0 208022 d)) + 5) = d (x0 + 1) (12 + 68 * v_200 x0 (g_199 x0 0 (g_194 x0 208022 d)) + 5) := ((congrFun (F25 (x0 + 1) (by omega)) (12 + 68 * v_200 x0 (g_199 x0 0 (g_194 x0 208022 d)) + 5)).trans (congrFun (F24 (x0 + 1) (by omega)) (12 + 68 * v_200 x0 (g_199 x0 0 (g_194 x0 208022 d)) + 5))).trans (congrFun (F2 (x0 + 1) (by omega)) (12 + 68 * v_200 x0 (g_199 x0 0 (g_194 x0 208022 d)) + 5))
        refine t_205_52 ?_
        have w8 := r_11_f9 hS25 hx0
        have w9 := r_11_f10 hS25 hx0
        refine ⟨m_inR (by omega) (by omega), fun c3 => ?_, fun c3 => ?_⟩
        · refine k_196 hS25 hx0 (by omega) (fun e32 F28 k28_0 n28_0 n28_1 n28_2 hS28 => ?_)
          refine t_205_63 ?_
          have w8 := r_11_f9 hS28 hx0
          have w9 := r_11_f10 hS28 hx0
          refine ⟨m_inR (by omega) (by omega), fun c4 => ?_, fun c4 => ?_⟩
          · have q190 := r_11_f13 hS28 hx0
            refine ⟨m_inR (by omega) (by omega), fun c5 => ?_, fun c5 => ?_⟩
            · have q191 := miand_r x1 0 (by decide) (by decide)
              have q192 := mbool x1
              have q193 := r_11_f10 hS28 hx0
              have q194 : (g_196 x0 0 (g_200 x0 (g_199 x0 0 (g_194 x0 208022 d)))) (x0 + 1) 0 = d (x0 + 1) 0 := (((congrFun (F28 (x0 + 1) (by omega)) 0).trans (congrFun (F25 (x0 + 1) (by omega)) 0)).trans (congrFun (F24 (x0 + 1) (by omega)) 0)).trans (congrFun (F2 (x0 + 1) (by omega)) 0)
              refine ih13 (miand x1 0) (.inl (0, v_199 x0 0 (g_194 x0 208022 d))) (.inl (0, v_200 x0 (g_199 x0 0 (g_194 x0 208022 d)))) v4 (g_196 x0 0 (g_200 x0 (g_199 x0 0 (g_194 x0 208022 d)))) hS28 (by omega) (mpP.of (mh_7 hS hx0 _ rfl) (show ∀ i : Int, i = 7 ∨ (12 ≤ i ∧ i < 420 ∧ (i - 12) % 68 = 2) → (g_196 x0 0 (g_200 x0 (g_199 x0 0 (g_194 x0 208022 d)))) (x0 + 1) i = d (x0 + 1) i from fun i hi => (((congrFun (F28 (x0 + 1) (by omega)) i).trans (congrFun (F25 (x0 + 1) (by omega)) i)).trans (congrFun (F24 (x0 + 1) (by omega)) i)).trans (congrFun (F2 (x0 + 1) (by omega)) i)) hmp) (mwP.eq (F28 (x0 + 1) (by omega)) (mwP.eq (F25 (x0 + 1) (by omega)) (mwP.eq (F24 (x0 + 1) (by omega)) (mwP.eq (F2 (x0 + 1) (by omega)) hmw)))) (by omega) (by omega) (by omega) ?_
              intro F k0 P_hmp P_hmw n0 hS_
              have y0 : st_205_13 x0 r13 x1 d = r13 (miand x1 0) (g_196 x0 0 (g_200 x0 (g_199 x0 0 (g_194 x0 208022 d)))) := by simp only [st_205_13, if_neg (show ¬ x1 = 0 from c0), if_neg (show ¬ v_194 x0 208022 d = 0 from c1), if_pos (show (g_200 x0 (g_199 x0 0 (g_194 x0 208022 d))) x0 13 = 0 from c2), if_pos (show v_225 x0 (v_199 x0 0 (g_194 x0 208022 d)) (v_200 x0 (g_199 x0 0 (g_194 x0 208022 d))) (g_200 x0 (g_199 x0 0 (g_194 x0 208022 d))) = 0 from c3), if_pos (show v_196 x0 0 (g_200 x0 (g_199 x0 0 (g_194 x0 208022 d))) = 0 from c4), if_neg (show ¬ (g_196 x0 0 (g_200 x0 (g_199 x0 0 (g_194 x0 208022 d)))) x0 13 = 0 from c5)]
              rw [y0] at h
              exact h (fun b hb => (F b hb).trans ((show ∀ b : Int, (b < x0 ∨ x0 + 1 < b) → (g_196 x0 0 (g_200 x0 (g_199 x0 0 (g_194 x0 208022 d)))) b = d b from fun b hb => (F28 b (by omega)).trans ((F25 b (by omega)).trans ((F24 b (by omega)).trans (F2 b (by omega))))) b hb)) (k0.trans ((((k28_0).trans (k25_0)).trans (k24_0)).trans (k2_0))) P_hmp P_hmw (by omega) hS_
            · have q195 := miand_r x1 1 (by decide) (by decide)
              have q196 := mbool x1
              have q197 := r_11_f10 hS28 hx0
              have q198 : (g_196 x0 0 (g_200 x0 (g_199 x0 0 (g_194 x0 208022 d)))) (x0 + 1) 0 = d (x0 + 1) 0 := (((congrFun (F28 (x0 + 1) (by omega)) 0).trans (congrFun (F25 (x0 + 1) (by omega)) 0)).trans (congrFun (F24 (x0 + 1) (by omega)) 0)).trans (congrFun (F2 (x0 + 1) (by omega)) 0)
              refine ih13 (miand x1 1) (.inl (0, v_199 x0 0 (g_194 x0 208022 d))) (.inl (0, v_200 x0 (g_199 x0 0 (g_194 x0 208022 d)))) v4 (g_196 x0 0 (g_200 x0 (g_199 x0 0 (g_194 x0 208022 d)))) hS28 (by omega) (mpP.of (mh_7 hS hx0 _ rfl) (show ∀ i : Int, i = 7 ∨ (12 ≤ i ∧ i < 420 ∧ (i - 12) % 68 = 2) → (g_196 x0 0 (g_200 x0 (g_199 x0 0 (g_194 x0 208022 d)))) (x0 + 1) i = d (x0 + 1) i from fun i hi => (((congrFun (F28 (x0 + 1) (by omega)) i).trans (congrFun (F25 (x0 + 1) (by omega)) i)).trans (congrFun (F24 (x0 + 1) (by omega)) i)).trans (congrFun (F2 (x0 + 1) (by omega)) i)) hmp) (mwP.eq (F28 (x0 + 1) (by omega)) (mwP.eq (F25 (x0 + 1) (by omega)) (mwP.eq (F24 (x0 + 1) (by omega)) (mwP.eq (F2 (x0 + 1) (by omega)) hmw)))) (by omega) (by omega) (by omega) ?_
              intro F k0 P_hmp P_hmw n0 hS_
              have y0 : st_205_13 x0 r13 x1 d = r13 (miand x1 1) (g_196 x0 0 (g_200 x0 (g_199 x0 0 (g_194 x0 208022 d)))) := by simp only [st_205_13, if_neg (show ¬ x1 = 0 from c0), if_neg (show ¬ v_194 x0 208022 d = 0 from c1), if_pos (show (g_200 x0 (g_199 x0 0 (g_194 x0 208022 d))) x0 13 = 0 from c2), if_pos (show v_225 x0 (v_199 x0 0 (g_194 x0 208022 d)) (v_200 x0 (g_199 x0 0 (g_194 x0 208022 d))) (g_200 x0 (g_199 x0 0 (g_194 x0 208022 d))) = 0 from c3), if_pos (show v_196 x0 0 (g_200 x0 (g_199 x0 0 (g_194 x0 208022 d))) = 0 from c4), if_pos (show (g_196 x0 0 (g_200 x0 (g_199 x0 0 (g_194 x0 208022 d)))) x0 13 = 0 from c5)]
              rw [y0] at h
              exact h (fun b hb => (F b hb).trans ((show ∀ b : Int, (b < x0 ∨ x0 + 1 < b) → (g_196 x0 0 (g_200 x0 (g_199 x0 0 (g_194 x0 208022 d)))) b = d b from fun b hb => (F28 b (by omega)).trans ((F25 b (by omega)).trans ((F24 b (by omega)).trans (F2 b (by omega))))) b hb)) (k0.trans ((((k28_0).trans (k25_0)).trans (k24_0)).trans (k2_0))) P_hmp P_hmw (by omega) hS_
          · have q199 : (g_196 x0 0 (g_200 x0 (g_199 x0 0 (g_194 x0 208022 d)))) (x0 + 1) 9 = d (x0 + 1) 9 := (((congrFun (F28 (x0 + 1) (by omega)) 9).trans (congrFun (F25 (x0 + 1) (by omega)) 9)).trans (congrFun (F24 (x0 + 1) (by omega)) 9)).trans (congrFun (F2 (x0 + 1) (by omega)) 9)
            have q200 : (g_196 x0 0 (g_200 x0 (g_199 x0 0 (g_194 x0 208022 d)))) (x0 + 1) (12 + 68 * v_200 x0 (g_199 x0 0 (g_194 x0 208022 d)) + 5) = d (x0 + 1) (12 + 68 * v_200 x0 (g_199 x0 0 (g_194 x0 208022 d)) + 5) := (((congrFun (F28 (x0 + 1) (by omega)) (12 + 68 * v_200 x0 (g_199 x0 0 (g_194 x0 208022 d)) + 5)).trans (congrFun (F25 (x0 + 1) (by omega)) (12 + 68 * v_200 x0 (g_199 x0 0 (g_194 x0 208022 d)) + 5))).trans (congrFun (F24 (x0 + 1) (by omega)) (12 + 68 * v_200 x0 (g_199 x0 0 (g_194 x0 208022 d)) + 5))).trans (congrFun (F2 (x0 + 1) (by omega)) (12 + 68 * v_200 x0 (g_199 x0 0 (g_194 x0 208022 d)) + 5))
            refine k_226 hS28 hx0 (by omega) (by omega) (by omega) (by omega) (fun e33 F29 Q29 hS29 => ?_)
            have P29hmw : mwP ((g_226 x0 (v_199 x0 0 (g_194 x0 208022 d)) (v_200 x0 (g_199 x0 0 (g_194 x0 208022 d))) (g_196 x0 0 (g_200 x0 (g_199 x0 0 (g_194 x0 208022 d))))) (x0 + 1)) := mw_226 hS28 hx0 (by omega) (by omega) (by omega) (mwP.eq (F28 (x0 + 1) (by omega)) (mwP.eq (F25 (x0 + 1) (by omega)) (mwP.eq (F24 (x0 + 1) (by omega)) (mwP.eq (F2 (x0 + 1) (by omega)) hmw))))
            refine t_205_72 ?_
            have w8 := r_11_f9 hS29 hx0
            have w9 := r_11_f10 hS29 hx0
            rw [F29 x0 (by omega)]
            have q201 := r_11_f13 hS28 hx0
            refine ⟨m_inR (by omega) (by omega), fun c5 => ?_, fun c5 => ?_⟩
            · have q202 := miand_r x1 0 (by decide) (by decide)
              have q203 := mbool x1
              have q204 := r_11_f10 hS29 hx0
              have q205 : (g_226 x0 (v_199 x0 0 (g_194 x0 208022 d)) (v_200 x0 (g_199 x0 0 (g_194 x0 208022 d))) (g_196 x0 0 (g_200 x0 (g_199 x0 0 (g_194 x0 208022 d))))) (x0 + 1) 0 = d (x0 + 1) 0 := ((((Q29 0 (by omega)).trans (congrFun (F28 (x0 + 1) (by omega)) 0)).trans (congrFun (F25 (x0 + 1) (by omega)) 0)).trans (congrFun (F24 (x0 + 1) (by omega)) 0)).trans (congrFun (F2 (x0 + 1) (by omega)) 0)
              have q206 : (g_226 x0 (v_199 x0 0 (g_194 x0 208022 d)) (v_200 x0 (g_199 x0 0 (g_194 x0 208022 d))) (g_196 x0 0 (g_200 x0 (g_199 x0 0 (g_194 x0 208022 d))))) x0 10 = (g_196 x0 0 (g_200 x0 (g_199 x0 0 (g_194 x0 208022 d)))) x0 10 := congrFun (F29 x0 (by omega)) 10
              refine ih13 (miand x1 0) (.inl (0, v_199 x0 0 (g_194 x0 208022 d))) (.inl (0, v_200 x0 (g_199 x0 0 (g_194 x0 208022 d)))) (.inl (0, v_226 x0 (v_199 x0 0 (g_194 x0 208022 d)) (v_200 x0 (g_199 x0 0 (g_194 x0 208022 d))) (g_196 x0 0 (g_200 x0 (g_199 x0 0 (g_194 x0 208022 d)))))) (g_226 x0 (v_199 x0 0 (g_194 x0 208022 d)) (v_200 x0 (g_199 x0 0 (g_194 x0 208022 d))) (g_196 x0 0 (g_200 x0 (g_199 x0 0 (g_194 x0 208022 d))))) hS29 (by omega) (mpP.of (mh_7 hS hx0 _ rfl) (show ∀ i : Int, i = 7 ∨ (12 ≤ i ∧ i < 420 ∧ (i - 12) % 68 = 2) → (g_226 x0 (v_199 x0 0 (g_194 x0 208022 d)) (v_200 x0 (g_199 x0 0 (g_194 x0 208022 d))) (g_196 x0 0 (g_200 x0 (g_199 x0 0 (g_194 x0 208022 d))))) (x0 + 1) i = d (x0 + 1) i from fun i hi => ((((Q29 i (by omega)).trans (congrFun (F28 (x0 + 1) (by omega)) i)).trans (congrFun (F25 (x0 + 1) (by omega)) i)).trans (congrFun (F24 (x0 + 1) (by omega)) i)).trans (congrFun (F2 (x0 + 1) (by omega)) i)) hmp) P29hmw (by omega) (by omega) (by omega) ?_
              intro F k0 P_hmp P_hmw n0 hS_
              have y0 : st_205_13 x0 r13 x1 d = r13 (miand x1 0) (g_226 x0 (v_199 x0 0 (g_194 x0 208022 d)) (v_200 x0 (g_199 x0 0 (g_194 x0 208022 d))) (g_196 x0 0 (g_200 x0 (g_199 x0 0 (g_194 x0 208022 d))))) := by simp only [st_205_13, if_neg (show ¬ x1 = 0 from c0), if_neg (show ¬ v_194 x0 208022 d = 0 from c1), if_pos (show (g_200 x0 (g_199 x0 0 (g_194 x0 208022 d))) x0 13 = 0 from c2), if_pos (show v_225 x0 (v_199 x0 0 (g_194 x0 208022 d)) (v_200 x0 (g_199 x0 0 (g_194 x0 208022 d))) (g_200 x0 (g_199 x0 0 (g_194 x0 208022 d))) = 0 from c3), if_neg (show ¬ v_196 x0 0 (g_200 x0 (g_199 x0 0 (g_194 x0 208022 d))) = 0 from c4), if_neg (show ¬ (g_196 x0 0 (g_200 x0 (g_199 x0 0 (g_194 x0 208022 d)))) x0 13 = 0 from c5)]
              rw [y0] at h
              exact h (fun b hb => (F b hb).trans ((show ∀ b : Int, (b < x0 ∨ x0 + 1 < b) → (g_226 x0 (v_199 x0 0 (g_194 x0 208022 d)) (v_200 x0 (g_199 x0 0 (g_194 x0 208022 d))) (g_196 x0 0 (g_200 x0 (g_199 x0 0 (g_194 x0 208022 d))))) b = d b from fun b hb => (F29 b (by omega)).trans ((F28 b (by omega)).trans ((F25 b (by omega)).trans ((F24 b (by omega)).trans (F2 b (by omega)))))) b hb)) (k0.trans (((((congrFun (F29 x0 (by omega)) 9).trans (k28_0)).trans (k25_0)).trans (k24_0)).trans (k2_0))) P_hmp P_hmw (by omega) hS_
            · have q207 := miand_r x1 1 (by decide) (by decide)
              have q208 := mbool x1
              have q209 := r_11_f10 hS29 hx0
              have q210 : (g_226 x0 (v_199 x0 0 (g_194 x0 208022 d)) (v_200 x0 (g_199 x0 0 (g_194 x0 208022 d))) (g_196 x0 0 (g_200 x0 (g_199 x0 0 (g_194 x0 208022 d))))) (x0 + 1) 0 = d (x0 + 1) 0 := ((((Q29 0 (by omega)).trans (congrFun (F28 (x0 + 1) (by omega)) 0)).trans (congrFun (F25 (x0 + 1) (by omega)) 0)).trans (congrFun (F24 (x0 + 1) (by omega)) 0)).trans (congrFun (F2 (x0 + 1) (by omega)) 0)
              have q211 : (g_226 x0 (v_199 x0 0 (g_194 x0 208022 d)) (v_200 x0 (g_199 x0 0 (g_194 x0 208022 d))) (g_196 x0 0 (g_200 x0 (g_199 x0 0 (g_194 x0 208022 d))))) x0 10 = (g_196 x0 0 (g_200 x0 (g_199 x0 0 (g_194 x0 208022 d)))) x0 10 := congrFun (F29 x0 (by omega)) 10
              refine ih13 (miand x1 1) (.inl (0, v_199 x0 0 (g_194 x0 208022 d))) (.inl (0, v_200 x0 (g_199 x0 0 (g_194 x0 208022 d)))) (.inl (0, v_226 x0 (v_199 x0 0 (g_194 x0 208022 d)) (v_200 x0 (g_199 x0 0 (g_194 x0 208022 d))) (g_196 x0 0 (g_200 x0 (g_199 x0 0 (g_194 x0 208022 d)))))) (g_226 x0 (v_199 x0 0 (g_194 x0 208022 d)) (v_200 x0 (g_199 x0 0 (g_194 x0 208022 d))) (g_196 x0 0 (g_200 x0 (g_199 x0 0 (g_194 x0 208022 d))))) hS29 (by omega) (mpP.of (mh_7 hS hx0 _ rfl) (show ∀ i : Int, i = 7 ∨ (12 ≤ i ∧ i < 420 ∧ (i - 12) % 68 = 2) → (g_226 x0 (v_199 x0 0 (g_194 x0 208022 d)) (v_200 x0 (g_199 x0 0 (g_194 x0 208022 d))) (g_196 x0 0 (g_200 x0 (g_199 x0 0 (g_194 x0 208022 d))))) (x0 + 1) i = d (x0 + 1) i from fun i hi => ((((Q29 i (by omega)).trans (congrFun (F28 (x0 + 1) (by omega)) i)).trans (congrFun (F25 (x0 + 1) (by omega)) i)).trans (congrFun (F24 (x0 + 1) (by omega)) i)).trans (congrFun (F2 (x0 + 1) (by omega)) i)) hmp) P29hmw (by omega) (by omega) (by omega) ?_
              intro F k0 P_hmp P_hmw n0 hS_
              have y0 : st_205_13 x0 r13 x1 d = r13 (miand x1 1) (g_226 x0 (v_199 x0 0 (g_194 x0 208022 d)) (v_200 x0 (g_199 x0 0 (g_194 x0 208022 d))) (g_196 x0 0 (g_200 x0 (g_199 x0 0 (g_194 x0 208022 d))))) := by simp only [st_205_13, if_neg (show ¬ x1 = 0 from c0), if_neg (show ¬ v_194 x0 208022 d = 0 from c1), if_pos (show (g_200 x0 (g_199 x0 0 (g_194 x0 208022 d))) x0 13 = 0 from c2), if_pos (show v_225 x0 (v_199 x0 0 (g_194 x0 208022 d)) (v_200 x0 (g_199 x0 0 (g_194 x0 208022 d))) (g_200 x0 (g_199 x0 0 (g_194 x0 208022 d))) = 0 from c3), if_neg (show ¬ v_196 x0 0 (g_200 x0 (g_199 x0 0 (g_194 x0 208022 d))) = 0 from c4), if_pos (show (g_196 x0 0 (g_200 x0 (g_199 x0 0 (g_194 x0 208022 d)))) x0 13 = 0 from c5)]
              rw [y0] at h
              exact h (fun b hb => (F b hb).trans ((show ∀ b : Int, (b < x0 ∨ x0 + 1 < b) → (g_226 x0 (v_199 x0 0 (g_194 x0 208022 d)) (v_200 x0 (g_199 x0 0 (g_194 x0 208022 d))) (g_196 x0 0 (g_200 x0 (g_199 x0 0 (g_194 x0 208022 d))))) b = d b from fun b hb => (F29 b (by omega)).trans ((F28 b (by omega)).trans ((F25 b (by omega)).trans ((F24 b (by omega)).trans (F2 b (by omega)))))) b hb)) (k0.trans (((((congrFun (F29 x0 (by omega)) 9).trans (k28_0)).trans (k25_0)).trans (k24_0)).trans (k2_0))) P_hmp P_hmw (by omega) hS_
        · refine k_196 hS25 hx0 (by omega) (fun e34 F30 k30_0 n30_0 n30_1 n30_2 hS30 => ?_)
          refine t_205_63 ?_
          have w8 := r_11_f9 hS30 hx0
          have w9 := r_11_f10 hS30 hx0
          refine ⟨m_inR (by omega) (by omega), fun c4 => ?_, fun c4 => ?_⟩
          · have q212 := r_11_f13 hS30 hx0
            refine ⟨m_inR (by omega) (by omega), fun c5 => ?_, fun c5 => ?_⟩
            · have q213 := miand_r x1 0 (by decide) (by decide)
              have q214 := mbool x1
              have q215 := r_11_f10 hS30 hx0
              have q216 : (g_196 x0 1 (g_200 x0 (g_199 x0 0 (g_194 x0 208022 d)))) (x0 + 1) 0 = d (x0 + 1) 0 := (((congrFun (F30 (x0 + 1) (by omega)) 0).trans (congrFun (F25 (x0 + 1) (by omega)) 0)).trans (congrFun (F24 (x0 + 1) (by omega)) 0)).trans (congrFun (F2 (x0 + 1) (by omega)) 0)
              refine ih13 (miand x1 0) (.inl (0, v_199 x0 0 (g_194 x0 208022 d))) (.inl (0, v_200 x0 (g_199 x0 0 (g_194 x0 208022 d)))) v4 (g_196 x0 1 (g_200 x0 (g_199 x0 0 (g_194 x0 208022 d)))) hS30 (by omega) (mpP.of (mh_7 hS hx0 _ rfl) (show ∀ i : Int, i = 7 ∨ (12 ≤ i ∧ i < 420 ∧ (i - 12) % 68 = 2) → (g_196 x0 1 (g_200 x0 (g_199 x0 0 (g_194 x0 208022 d)))) (x0 + 1) i = d (x0 + 1) i from fun i hi => (((congrFun (F30 (x0 + 1) (by omega)) i).trans (congrFun (F25 (x0 + 1) (by omega)) i)).trans (congrFun (F24 (x0 + 1) (by omega)) i)).trans (congrFun (F2 (x0 + 1) (by omega)) i)) hmp) (mwP.eq (F30 (x0 + 1) (by omega)) (mwP.eq (F25 (x0 + 1) (by omega)) (mwP.eq (F24 (x0 + 1) (by omega)) (mwP.eq (F2 (x0 + 1) (by omega)) hmw)))) (by omega) (by omega) (by omega) ?_
              intro F k0 P_hmp P_hmw n0 hS_
              have y0 : st_205_13 x0 r13 x1 d = r13 (miand x1 0) (g_196 x0 1 (g_200 x0 (g_199 x0 0 (g_194 x0 208022 d)))) := by simp only [st_205_13, if_neg (show ¬ x1 = 0 from c0), if_neg (show ¬ v_194 x0 208022 d = 0 from c1), if_pos (show (g_200 x0 (g_199 x0 0 (g_194 x0 208022 d))) x0 13 = 0 from c2), if_neg (show ¬ v_225 x0 (v_199 x0 0 (g_194 x0 208022 d)) (v_200 x0 (g_199 x0 0 (g_194 x0 208022 d))) (g_200 x0 (g_199 x0 0 (g_194 x0 208022 d))) = 0 from c3), if_pos (show v_196 x0 1 (g_200 x0 (g_199 x0 0 (g_194 x0 208022 d))) = 0 from c4), if_neg (show ¬ (g_196 x0 1 (g_200 x0 (g_199 x0 0 (g_194 x0 208022 d)))) x0 13 = 0 from c5)]
              rw [y0] at h
              exact h (fun b hb => (F b hb).trans ((show ∀ b : Int, (b < x0 ∨ x0 + 1 < b) → (g_196 x0 1 (g_200 x0 (g_199 x0 0 (g_194 x0 208022 d)))) b = d b from fun b hb => (F30 b (by omega)).trans ((F25 b (by omega)).trans ((F24 b (by omega)).trans (F2 b (by omega))))) b hb)) (k0.trans ((((k30_0).trans (k25_0)).trans (k24_0)).trans (k2_0))) P_hmp P_hmw (by omega) hS_
            · have q217 := miand_r x1 1 (by decide) (by decide)
              have q218 := mbool x1
              have q219 := r_11_f10 hS30 hx0
              have q220 : (g_196 x0 1 (g_200 x0 (g_199 x0 0 (g_194 x0 208022 d)))) (x0 + 1) 0 = d (x0 + 1) 0 := (((congrFun (F30 (x0 + 1) (by omega)) 0).trans (congrFun (F25 (x0 + 1) (by omega)) 0)).trans (congrFun (F24 (x0 + 1) (by omega)) 0)).trans (congrFun (F2 (x0 + 1) (by omega)) 0)
              refine ih13 (miand x1 1) (.inl (0, v_199 x0 0 (g_194 x0 208022 d))) (.inl (0, v_200 x0 (g_199 x0 0 (g_194 x0 208022 d)))) v4 (g_196 x0 1 (g_200 x0 (g_199 x0 0 (g_194 x0 208022 d)))) hS30 (by omega) (mpP.of (mh_7 hS hx0 _ rfl) (show ∀ i : Int, i = 7 ∨ (12 ≤ i ∧ i < 420 ∧ (i - 12) % 68 = 2) → (g_196 x0 1 (g_200 x0 (g_199 x0 0 (g_194 x0 208022 d)))) (x0 + 1) i = d (x0 + 1) i from fun i hi => (((congrFun (F30 (x0 + 1) (by omega)) i).trans (congrFun (F25 (x0 + 1) (by omega)) i)).trans (congrFun (F24 (x0 + 1) (by omega)) i)).trans (congrFun (F2 (x0 + 1) (by omega)) i)) hmp) (mwP.eq (F30 (x0 + 1) (by omega)) (mwP.eq (F25 (x0 + 1) (by omega)) (mwP.eq (F24 (x0 + 1) (by omega)) (mwP.eq (F2 (x0 + 1) (by omega)) hmw)))) (by omega) (by omega) (by omega) ?_
              intro F k0 P_hmp P_hmw n0 hS_
              have y0 : st_205_13 x0 r13 x1 d = r13 (miand x1 1) (g_196 x0 1 (g_200 x0 (g_199 x0 0 (g_194 x0 208022 d)))) := by simp only [st_205_13, if_neg (show ¬ x1 = 0 from c0), if_neg (show ¬ v_194 x0 208022 d = 0 from c1), if_pos (show (g_200 x0 (g_199 x0 0 (g_194 x0 208022 d))) x0 13 = 0 from c2), if_neg (show ¬ v_225 x0 (v_199 x0 0 (g_194 x0 208022 d)) (v_200 x0 (g_199 x0 0 (g_194 x0 208022 d))) (g_200 x0 (g_199 x0 0 (g_194 x0 208022 d))) = 0 from c3), if_pos (show v_196 x0 1 (g_200 x0 (g_199 x0 0 (g_194 x0 208022 d))) = 0 from c4), if_pos (show (g_196 x0 1 (g_200 x0 (g_199 x0 0 (g_194 x0 208022 d)))) x0 13 = 0 from c5)]
              rw [y0] at h
              exact h (fun b hb => (F b hb).trans ((show ∀ b : Int, (b < x0 ∨ x0 + 1 < b) → (g_196 x0 1 (g_200 x0 (g_199 x0 0 (g_194 x0 208022 d)))) b = d b from fun b hb => (F30 b (by omega)).trans ((F25 b (by omega)).trans ((F24 b (by omega)).trans (F2 b (by omega))))) b hb)) (k0.trans ((((k30_0).trans (k25_0)).trans (k24_0)).trans (k2_0))) P_hmp P_hmw (by omega) hS_
          · have q221 : (g_196 x0 1 (g_200 x0 (g_199 x0 0 (g_194 x0 208022 d)))) (x0 + 1) 9 = d (x0 + 1) 9 := (((congrFun (F30 (x0 + 1) (by omega)) 9).trans (congrFun (F25 (x0 + 1) (by omega)) 9)).trans (congrFun (F24 (x0 + 1) (by omega)) 9)).trans (congrFun (F2 (x0 + 1) (by omega)) 9)
            have q222 : (g_196 x0 1 (g_200 x0 (g_199 x0 0 (g_194 x0 208022 d)))) (x0 + 1) (12 + 68 * v_200 x0 (g_199 x0 0 (g_194 x0 208022 d)) + 5) = d (x0 + 1) (12 + 68 * v_200 x0 (g_199 x0 0 (g_194 x0 208022 d)) + 5) := (((congrFun (F30 (x0 + 1) (by omega)) (12 + 68 * v_200 x0 (g_199 x0 0 (g_194 x0 208022 d)) + 5)).trans (congrFun (F25 (x0 + 1) (by omega)) (12 + 68 * v_200 x0 (g_199 x0 0 (g_194 x0 208022 d)) + 5))).trans (congrFun (F24 (x0 + 1) (by omega)) (12 + 68 * v_200 x0 (g_199 x0 0 (g_194 x0 208022 d)) + 5))).trans (congrFun (F2 (x0 + 1) (by omega)) (12 + 68 * v_200 x0 (g_199 x0 0 (g_194 x0 208022 d)) + 5))
            refine k_226 hS30 hx0 (by omega) (by omega) (by omega) (by omega) (fun e35 F31 Q31 hS31 => ?_)
            have P31hmw : mwP ((g_226 x0 (v_199 x0 0 (g_194 x0 208022 d)) (v_200 x0 (g_199 x0 0 (g_194 x0 208022 d))) (g_196 x0 1 (g_200 x0 (g_199 x0 0 (g_194 x0 208022 d))))) (x0 + 1)) := mw_226 hS30 hx0 (by omega) (by omega) (by omega) (mwP.eq (F30 (x0 + 1) (by omega)) (mwP.eq (F25 (x0 + 1) (by omega)) (mwP.eq (F24 (x0 + 1) (by omega)) (mwP.eq (F2 (x0 + 1) (by omega)) hmw))))
            refine t_205_72 ?_
            have w8 := r_11_f9 hS31 hx0
            have w9 := r_11_f10 hS31 hx0
            rw [F31 x0 (by omega)]
            have q223 := r_11_f13 hS30 hx0
            refine ⟨m_inR (by omega) (by omega), fun c5 => ?_, fun c5 => ?_⟩
            · have q224 := miand_r x1 0 (by decide) (by decide)
              have q225 := mbool x1
              have q226 := r_11_f10 hS31 hx0
              have q227 : (g_226 x0 (v_199 x0 0 (g_194 x0 208022 d)) (v_200 x0 (g_199 x0 0 (g_194 x0 208022 d))) (g_196 x0 1 (g_200 x0 (g_199 x0 0 (g_194 x0 208022 d))))) (x0 + 1) 0 = d (x0 + 1) 0 := ((((Q31 0 (by omega)).trans (congrFun (F30 (x0 + 1) (by omega)) 0)).trans (congrFun (F25 (x0 + 1) (by omega)) 0)).trans (congrFun (F24 (x0 + 1) (by omega)) 0)).trans (congrFun (F2 (x0 + 1) (by omega)) 0)
              have q228 : (g_226 x0 (v_199 x0 0 (g_194 x0 208022 d)) (v_200 x0 (g_199 x0 0 (g_194 x0 208022 d))) (g_196 x0 1 (g_200 x0 (g_199 x0 0 (g_194 x0 208022 d))))) x0 10 = (g_196 x0 1 (g_200 x0 (g_199 x0 0 (g_194 x0 208022 d)))) x0 10 := congrFun (F31 x0 (by omega)) 10
              refine ih13 (miand x1 0) (.inl (0, v_199 x0 0 (g_194 x0 208022 d))) (.inl (0, v_200 x0 (g_199 x0 0 (g_194 x0 208022 d)))) (.inl (0, v_226 x0 (v_199 x0 0 (g_194 x0 208022 d)) (v_200 x0 (g_199 x0 0 (g_194 x0 208022 d))) (g_196 x0 1 (g_200 x0 (g_199 x0 0 (g_194 x0 208022 d)))))) (g_226 x0 (v_199 x0 0 (g_194 x0 208022 d)) (v_200 x0 (g_199 x0 0 (g_194 x0 208022 d))) (g_196 x0 1 (g_200 x0 (g_199 x0 0 (g_194 x0 208022 d))))) hS31 (by omega) (mpP.of (mh_7 hS hx0 _ rfl) (show ∀ i : Int, i = 7 ∨ (12 ≤ i ∧ i < 420 ∧ (i - 12) % 68 = 2) → (g_226 x0 (v_199 x0 0 (g_194 x0 208022 d)) (v_200 x0 (g_199 x0 0 (g_194 x0 208022 d))) (g_196 x0 1 (g_200 x0 (g_199 x0 0 (g_194 x0 208022 d))))) (x0 + 1) i = d (x0 + 1) i from fun i hi => ((((Q31 i (by omega)).trans (congrFun (F30 (x0 + 1) (by omega)) i)).trans (congrFun (F25 (x0 + 1) (by omega)) i)).trans (congrFun (F24 (x0 + 1) (by omega)) i)).trans (congrFun (F2 (x0 + 1) (by omega)) i)) hmp) P31hmw (by omega) (by omega) (by omega) ?_
              intro F k0 P_hmp P_hmw n0 hS_
              have y0 : st_205_13 x0 r13 x1 d = r13 (miand x1 0) (g_226 x0 (v_199 x0 0 (g_194 x0 208022 d)) (v_200 x0 (g_199 x0 0 (g_194 x0 208022 d))) (g_196 x0 1 (g_200 x0 (g_199 x0 0 (g_194 x0 208022 d))))) := by simp only [st_205_13, if_neg (show ¬ x1 = 0 from c0), if_neg (show ¬ v_194 x0 208022 d = 0 from c1), if_pos (show (g_200 x0 (g_199 x0 0 (g_194 x0 208022 d))) x0 13 = 0 from c2), if_neg (show ¬ v_225 x0 (v_199 x0 0 (g_194 x0 208022 d)) (v_200 x0 (g_199 x0 0 (g_194 x0 208022 d))) (g_200 x0 (g_199 x0 0 (g_194 x0 208022 d))) = 0 from c3), if_neg (show ¬ v_196 x0 1 (g_200 x0 (g_199 x0 0 (g_194 x0 208022 d))) = 0 from c4), if_neg (show ¬ (g_196 x0 1 (g_200 x0 (g_199 x0 0 (g_194 x0 208022 d)))) x0 13 = 0 from c5)]
              rw [y0] at h
              exact h (fun b hb => (F b hb).trans ((show ∀ b : Int, (b < x0 ∨ x0 + 1 < b) → (g_226 x0 (v_199 x0 0 (g_194 x0 208022 d)) (v_200 x0 (g_199 x0 0 (g_194 x0 208022 d))) (g_196 x0 1 (g_200 x0 (g_199 x0 0 (g_194 x0 208022 d))))) b = d b from fun b hb => (F31 b (by omega)).trans ((F30 b (by omega)).trans ((F25 b (by omega)).trans ((F24 b (by omega)).trans (F2 b (by omega)))))) b hb)) (k0.trans (((((congrFun (F31 x0 (by omega)) 9).trans (k30_0)).trans (k25_0)).trans (k24_0)).trans (k2_0))) P_hmp P_hmw (by omega) hS_
            · have q229 := miand_r x1 1 (by decide) (by decide)
              have q230 := mbool x1
              have q231 := r_11_f10 hS31 hx0
              have q232 : (g_226 x0 (v_199 x0 0 (g_194 x0 208022 d)) (v_200 x0 (g_199 x0 0 (g_194 x0 208022 d))) (g_196 x0 1 (g_200 x0 (g_199 x0 0 (g_194 x0 208022 d))))) (x0 + 1) 0 = d (x0 + 1) 0 := ((((Q31 0 (by omega)).trans (congrFun (F30 (x0 + 1) (by omega)) 0)).trans (congrFun (F25 (x0 + 1) (by omega)) 0)).trans (congrFun (F24 (x0 + 1) (by omega)) 0)).trans (congrFun (F2 (x0 + 1) (by omega)) 0)
              have q233 : (g_226 x0 (v_199 x0 0 (g_194 x0 208022 d)) (v_200 x0 (g_199 x0 0 (g_194 x0 208022 d))) (g_196 x0 1 (g_200 x0 (g_199 x0 0 (g_194 x0 208022 d))))) x0 10 = (g_196 x0 1 (g_200 x0 (g_199 x0 0 (g_194 x0 208022 d)))) x0 10 := congrFun (F31 x0 (by omega)) 10
              refine ih13 (miand x1 1) (.inl (0, v_199 x0 0 (g_194 x0 208022 d))) (.inl (0, v_200 x0 (g_199 x0 0 (g_194 x0 208022 d)))) (.inl (0, v_226 x0 (v_199 x0 0 (g_194 x0 208022 d)) (v_200 x0 (g_199 x0 0 (g_194 x0 208022 d))) (g_196 x0 1 (g_200 x0 (g_199 x0 0 (g_194 x0 208022 d)))))) (g_226 x0 (v_199 x0 0 (g_194 x0 208022 d)) (v_200 x0 (g_199 x0 0 (g_194 x0 208022 d))) (g_196 x0 1 (g_200 x0 (g_199 x0 0 (g_194 x0 208022 d))))) hS31 (by omega) (mpP.of (mh_7 hS hx0 _ rfl) (show ∀ i : Int, i = 7 ∨ (12 ≤ i ∧ i < 420 ∧ (i - 12) % 68 = 2) → (g_226 x0 (v_199 x0 0 (g_194 x0 208022 d)) (v_200 x0 (g_199 x0 0 (g_194 x0 208022 d))) (g_196 x0 1 (g_200 x0 (g_199 x0 0 (g_194 x0 208022 d))))) (x0 + 1) i = d (x0 + 1) i from fun i hi => ((((Q31 i (by omega)).trans (congrFun (F30 (x0 + 1) (by omega)) i)).trans (congrFun (F25 (x0 + 1) (by omega)) i)).trans (congrFun (F24 (x0 + 1) (by omega)) i)).trans (congrFun (F2 (x0 + 1) (by omega)) i)) hmp) P31hmw (by omega) (by omega) (by omega) ?_
              intro F k0 P_hmp P_hmw n0 hS_
              have y0 : st_205_13 x0 r13 x1 d = r13 (miand x1 1) (g_226 x0 (v_199 x0 0 (g_194 x0 208022 d)) (v_200 x0 (g_199 x0 0 (g_194 x0 208022 d))) (g_196 x0 1 (g_200 x0 (g_199 x0 0 (g_194 x0 208022 d))))) := by simp only [st_205_13, if_neg (show ¬ x1 = 0 from c0), if_neg (show ¬ v_194 x0 208022 d = 0 from c1), if_pos (show (g_200 x0 (g_199 x0 0 (g_194 x0 208022 d))) x0 13 = 0 from c2), if_neg (show ¬ v_225 x0 (v_199 x0 0 (g_194 x0 208022 d)) (v_200 x0 (g_199 x0 0 (g_194 x0 208022 d))) (g_200 x0 (g_199 x0 0 (g_194 x0 208022 d))) = 0 from c3), if_neg (show ¬ v_196 x0 1 (g_200 x0 (g_199 x0 0 (g_194 x0 208022 d))) = 0 from c4), if_pos (show (g_196 x0 1 (g_200 x0 (g_199 x0 0 (g_194 x0 208022 d)))) x0 13 = 0 from c5)]
              rw [y0] at h
              exact h (fun b hb => (F b hb).trans ((show ∀ b : Int, (b < x0 ∨ x0 + 1 < b) → (g_226 x0 (v_199 x0 0 (g_194 x0 208022 d)) (v_200 x0 (g_199 x0 0 (g_194 x0 208022 d))) (g_196 x0 1 (g_200 x0 (g_199 x0 0 (g_194 x0 208022 d))))) b = d b from fun b hb => (F31 b (by omega)).trans ((F30 b (by omega)).trans ((F25 b (by omega)).trans ((F24 b (by omega)).trans (F2 b (by omega)))))) b hb)) (k0.trans (((((congrFun (F31 x0 (by omega)) 9).trans (k30_0)).trans (k25_0)).trans (k24_0)).trans (k2_0))) P_hmp P_hmw (by omega) hS_
theorem l_205_13 {E : mO × tW} {K : tK} {x0 : Int} (hx0 : mdB x0) : ∀ (n : Nat) (x1 : Int) (v2 v3 v4 : tV) (d : mD), Safe d → (0 ≤ x1 ∧ x1 ≤ 1) → (mpP (d (x0 + 1))) → (mwP (d (x0 + 1))) → (d (x0 + 1) 0 ≤ 999) → 1000 - d x0 10 + x1 ≤ (n : Int) → ((∀ b : Int, (b < x0 ∨ x0 + 1 < b) → (lp_205_13 x0 n x1 d) b = d b) → (lp_205_13 x0 n x1 d) x0 9 = d x0 9 → mpP ((lp_205_13 x0 n x1 d) (x0 + 1)) → mwP ((lp_205_13 x0 n x1 d) (x0 + 1)) → ((lp_205_13 x0 n x1 d) (x0 + 1) 0 ≤ 999) → Safe (lp_205_13 x0 n x1 d) → K (.inl none) (lp_205_13 x0 n x1 d)) → tRun E 205 (13, [.inr (11, x0), .inl (0, x1), v2, v3, v4], [], 0, 0, d) K := by
  intro n
  induction n with
  | zero =>
    intro x1 v2 v3 v4 d hS i0 hmp hmw i3 hm  h
    exact ls_205_13 hx0 0 _ (fun _ _ _ _ _ _ _ _ _ _ m0 m1 _ => absurd m1 (by omega)) x1 v2 v3 v4 d hS i0 hmp hmw i3 hm  h
  | succ n ih =>
    intro x1 v2 v3 v4 d hS i0 hmp hmw i3 hm  h
    exact ls_205_13 hx0 ((n + 1 : Nat) : Int) _ (fun x1 v2 v3 v4 d hS i0 hmp hmw i3  m0 m1 h => ih x1 v2 v3 v4 d hS i0 hmp hmw i3 (by omega)  h) x1 v2 v3 v4 d hS i0 hmp hmw i3 hm  h
def g_205 (x0 : Int) (d : mD) : mD := if d x0 13 = 0 then lp_205_13 x0 (1000 - d x0 10 + 1 : Int).toNat 1 d else lp_205_13 x0 (1000 - d x0 10 + 0 : Int).toNat 0 d
theorem k_205 {E : mO × tW} {K : tK} {d : mD} {x0 : Int} (hS : Safe d) (hx0 : mdB x0) (hmp : mpP (d (x0 + 1))) (hmw : mwP (d (x0 + 1))) (ht : d (x0 + 1) 0 ≤ 999) (h : (∀ b : Int, (b < x0 ∨ x0 + 1 < b) → (g_205 x0 d) b = d b) → (g_205 x0 d) x0 9 = d x0 9 → mpP ((g_205 x0 d) (x0 + 1)) → mwP ((g_205 x0 d) (x0 + 1)) → ((g_205 x0 d) (x0 + 1) 0 ≤ 999) → Safe (g_205 x0 d) → K (.inl none) (g_205 x0 d)) : tCall E 205 [.inr (11, x0)] d K := by
  refine t_205_0 ?_
  have w8 := r_11_f9 hS hx0
  have w9 := r_11_f10 hS hx0
  have q234 := r_11_f13 hS hx0
  refine ⟨m_inR (by omega) (by omega), fun c0 => ?_, fun c0 => ?_⟩
  · have q235 := r_11_f10 hS hx0
    refine l_205_13 hx0 (1000 - d x0 10 + 0 : Int).toNat 0 tu tu tu d hS (by omega) hmp hmw (by omega) (by omega) ?_
    intro F k0 P_hmp P_hmw n0 hS_
    have y0 : g_205 x0 d = lp_205_13 x0 (1000 - d x0 10 + 0 : Int).toNat 0 d := by simp only [g_205, if_neg (show ¬ d x0 13 = 0 from c0)]
    rw [y0] at h
    exact h F k0 P_hmp P_hmw (by omega) hS_
  · have q236 := r_11_f10 hS hx0
    refine l_205_13 hx0 (1000 - d x0 10 + 1 : Int).toNat 1 tu tu tu d hS (by omega) hmp hmw (by omega) (by omega) ?_
    intro F k0 P_hmp P_hmw n0 hS_
    have y0 : g_205 x0 d = lp_205_13 x0 (1000 - d x0 10 + 1 : Int).toNat 1 d := by simp only [g_205, if_pos (show d x0 13 = 0 from c0)]
    rw [y0] at h
    exact h F k0 P_hmp P_hmw (by omega) hS_
/-! ===== contracts of the reference's methods: printed by a program of mine ===== -/
def st_206_53 (x0 : Int) (r53 : Int → mD → mD) (x1 : Int) (d : mD) : mD := if x1 < 5 then r53 (x1 + 1) (mset (g_197 x0 (v_291 x1 d) (v_292 x1 d) d) (x0 + 1) (2 + x1) (v_197 x0 (v_291 x1 d) (v_292 x1 d) d)) else if (g_205 x0 (g_204 x0 0 (g_204 x0 1 (g_195 x0 (mset (g_197 x0 0 99999 d) (x0 + 1) 1 (v_197 x0 0 99999 d)))))) x0 13 = 0 then (if (g_189 x0 (g_205 x0 (g_204 x0 0 (g_204 x0 1 (g_195 x0 (mset (g_197 x0 0 99999 d) (x0 + 1) 1 (v_197 x0 0 99999 d))))))) x0 10 < d x0 9 then g_188 x0 1 ((g_189 x0 (g_205 x0 (g_204 x0 0 (g_204 x0 1 (g_195 x0 (mset (g_197 x0 0 99999 d) (x0 + 1) 1 (v_197 x0 0 99999 d))))))) x0 10) (g_189 x0 (g_205 x0 (g_204 x0 0 (g_204 x0 1 (g_195 x0 (mset (g_197 x0 0 99999 d) (x0 + 1) 1 (v_197 x0 0 99999 d))))))) else g_189 x0 (g_205 x0 (g_204 x0 0 (g_204 x0 1 (g_195 x0 (mset (g_197 x0 0 99999 d) (x0 + 1) 1 (v_197 x0 0 99999 d))))))) else g_205 x0 (g_204 x0 0 (g_204 x0 1 (g_195 x0 (mset (g_197 x0 0 99999 d) (x0 + 1) 1 (v_197 x0 0 99999 d)))))
def lp_206_53 (x0 : Int) : Nat → Int → mD → mD
  | 0 => st_206_53 x0 (fun _ d => d)
  | n + 1 => st_206_53 x0 (lp_206_53 x0 n)
theorem ls_206_53 {E : mO × tW} {K : tK} {x0 : Int} (hx0 : mdB x0) (N53 : Int) (r53 : Int → mD → mD) (ih53 : ∀ (x1 : Int) (d : mD), Safe d → (0 ≤ x1 ∧ x1 ≤ 5) → (mpP (d (x0 + 1))) → (mwP (d (x0 + 1))) → (d (x0 + 1) 0 ≤ 999) → 0 ≤ 5 - x1 → 5 - x1 < N53 → ((∀ b : Int, (b < x0 ∨ x0 + 1 < b) → (r53 x1 d) b = d b) → (r53 x1 d) x0 9 = d x0 9 → mpP ((r53 x1 d) (x0 + 1)) → mwP ((r53 x1 d) (x0 + 1)) → ((r53 x1 d) (x0 + 1) 0 ≤ 999) → Safe (r53 x1 d) → K (.inl none) (r53 x1 d)) → tRun E 206 (53, [.inr (11, x0), .inl (0, x1)], [], 0, 0, d) K) (x1 : Int) (d : mD) (hS : Safe d) (i0 : 0 ≤ x1 ∧ x1 ≤ 5) (hmp : mpP (d (x0 + 1))) (hmw : mwP (d (x0 + 1))) (i3 : d (x0 + 1) 0 ≤ 999) (hm : 5 - x1 ≤ N53) (h : (∀ b : Int, (b < x0 ∨ x0 + 1 < b) → (st_206_53 x0 r53 x1 d) b = d b) → (st_206_53 x0 r53 x1 d) x0 9 = d x0 9 → mpP ((st_206_53 x0 r53 x1 d) (x0 + 1)) → mwP ((st_206_53 x0 r53 x1 d) (x0 + 1)) → ((st_206_53 x0 r53 x1 d) (x0 + 1) 0 ≤ 999) → Safe (st_206_53 x0 r53 x1 d) → K (.inl none) (st_206_53 x0 r53 x1 d)) : tRun E 206 (53, [.inr (11, x0), .inl (0, x1)], [], 0, 0, d) K := by
  refine t_206_53 ?_
  have w8 := r_11_f9 hS hx0
  have w9 := r_11_f10 hS hx0
  refine ⟨⟨m_inR (by omega) (by omega), m_inR (by omega) (by omega)⟩, fun c0 => ?_, fun c0 => ?_⟩
  · refine k_197 hS hx0 (by omega) (by omega) (fun e1 F1 k1_0 n1_0 n1_1 n1_2 hS1 => ?_)
    refine t_206_96 ?_
    have w8 := r_11_f9 hS1 hx0
    have w9 := r_11_f10 hS1 hx0
    refine ⟨by omega, ?_⟩
    have hS2 : Safe (mset (g_197 x0 0 99999 d) (x0 + 1) 1 (v_197 x0 0 99999 d)) := smh_1 hS1 hx0 _ rfl (by omega)
    refine k_195 hS2 hx0 (fun F2 k2_0 n2_0 n2_1 n2_2 hS3 => ?_)
    refine t_206_101 ?_
    have w8 := r_11_f9 hS3 hx0
    have w9 := r_11_f10 hS3 hx0
    refine k_204 hS3 hx0 (by omega) (mpP.of (mh_7 hS hx0 _ rfl) (show ∀ i : Int, i = 7 ∨ (12 ≤ i ∧ i < 420 ∧ (i - 12) % 68 = 2) → (g_195 x0 (mset (g_197 x0 0 99999 d) (x0 + 1) 1 (v_197 x0 0 99999 d))) (x0 + 1) i = d (x0 + 1) i from fun i hi => ((congrFun (F2 (x0 + 1) (by omega)) i).trans (mset_ni (by omega))).trans (congrFun (F1 (x0 + 1) (by omega)) i)) hmp) (fun F3 k3_0 Q3 P3hmp n3_0 n3_1 hS4 => ?_)
    refine t_206_106 ?_
    have w8 := r_11_f9 hS4 hx0
    have w9 := r_11_f10 hS4 hx0
    refine k_204 hS4 hx0 (by omega) P3hmp (fun F4 k4_0 Q4 P4hmp n4_0 n4_1 hS5 => ?_)
    refine t_206_111 ?_
    have w8 := r_11_f9 hS5 hx0
    have w9 := r_11_f10 hS5 hx0
    have q1 : (g_204 x0 0 (g_204 x0 1 (g_195 x0 (mset (g_197 x0 0 99999 d) (x0 + 1) 1 (v_197 x0 0 99999 d))))) (x0 + 1) 0 = d (x0 + 1) 0 := ((((Q4 0 (by omega)).trans (Q3 0 (by omega))).trans (congrFun (F2 (x0 + 1) (by omega)) 0)).trans (mset_ni (by omega))).trans (congrFun (F1 (x0 + 1) (by omega)) 0)
    refine k_205 hS5 hx0 P4hmp (mwP.of (fun i hi => Q4 i (by omega)) (mwP.of (fun i hi => Q3 i (by omega)) (mwP.eq (F2 (x0 + 1) (by omega)) (mwP.ne (fun t t0 t1 => by omega) (mwP.eq (F1 (x0 + 1) (by omega)) hmw))))) (by omega) (fun F5 k5_0 P5hmp P5hmw n5_0 hS6 => ?_)
    refine t_206_115 ?_
    have w8 := r_11_f9 hS6 hx0
    have w9 := r_11_f10 hS6 hx0
    have q2 := r_11_f13 hS6 hx0
    refine ⟨m_inR (by omega) (by omega), fun c1 => ?_, fun c1 => ?_⟩
    · refine t_206_146 ?_
      have w8 := r_11_f9 hS6 hx0
      have w9 := r_11_f10 hS6 hx0
      have y0 : st_206_53 x0 r53 x1 d = g_205 x0 (g_204 x0 0 (g_204 x0 1 (g_195 x0 (mset (g_197 x0 0 99999 d) (x0 + 1) 1 (v_197 x0 0 99999 d))))) := by simp only [st_206_53, if_neg (show ¬ x1 < 5 from Int.not_lt.mpr c0), if_neg (show ¬ (g_205 x0 (g_204 x0 0 (g_204 x0 1 (g_195 x0 (mset (g_197 x0 0 99999 d) (x0 + 1) 1 (v_197 x0 0 99999 d)))))) x0 13 = 0 from c1)]
      rw [y0] at h
      exact h (show ∀ b : Int, (b < x0 ∨ x0 + 1 < b) → (g_205 x0 (g_204 x0 0 (g_204 x0 1 (g_195 x0 (mset (g_197 x0 0 99999 d) (x0 + 1) 1 (v_197 x0 0 99999 d)))))) b = d b from fun b hb => (F5 b (by omega)).trans ((F4 b (by omega)).trans ((F3 b (by omega)).trans ((F2 b (by omega)).trans ((mset_ne (by omega)).trans (F1 b (by omega))))))) (show (g_205 x0 (g_204 x0 0 (g_204 x0 1 (g_195 x0 (mset (g_197 x0 0 99999 d) (x0 + 1) 1 (v_197 x0 0 99999 d)))))) x0 9 = d x0 9 from (((((k5_0).trans (k4_0)).trans (k3_0)).trans (k2_0)).trans (congrFun (mset_ne (by omega)) 9)).trans (k1_0)) P5hmp P5hmw (show (g_205 x0 (g_204 x0 0 (g_204 x0 1 (g_195 x0 (mset (g_197 x0 0 99999 d) (x0 + 1) 1 (v_197 x0 0 99999 d)))))) (x0 + 1) 0 ≤ 999 by omega) hS6
    · refine k_189 hS6 hx0 (fun F6 k6_0 n6_0 n6_1 hS7 => ?_)
      refine t_206_126 ?_
      have w8 := r_11_f9 hS7 hx0
      have w9 := r_11_f10 hS7 hx0
      rw [k6_0]
      rw [k5_0]
      rw [k4_0]
      rw [k3_0]
      rw [k2_0]
      rw [mset_ni (d := g_197 x0 0 99999 d) (a := x0 + 1) (i := (1 : Int)) (v := v_197 x0 0 99999 d) (b := x0) (j := (9 : Int)) (by omega)]
      rw [k1_0]
      have q3 := r_11_f10 hS7 hx0
      have q4 := r_11_f9 hS hx0
      refine ⟨⟨m_inR (by omega) (by omega), m_inR (by omega) (by omega)⟩, fun c2 => ?_, fun c2 => ?_⟩
      · refine t_206_146 ?_
        have w8 := r_11_f9 hS7 hx0
        have w9 := r_11_f10 hS7 hx0
        have q5 : (g_189 x0 (g_205 x0 (g_204 x0 0 (g_204 x0 1 (g_195 x0 (mset (g_197 x0 0 99999 d) (x0 + 1) 1 (v_197 x0 0 99999 d))))))) (x0 + 1) 0 = (g_205 x0 (g_204 x0 0 (g_204 x0 1 (g_195 x0 (mset (g_197 x0 0 99999 d) (x0 + 1) 1 (v_197 x0 0 99999 d)))))) (x0 + 1) 0 := congrFun (F6 (x0 + 1) (by omega)) 0
        have y0 : st_206_53 x0 r53 x1 d = g_189 x0 (g_205 x0 (g_204 x0 0 (g_204 x0 1 (g_195 x0 (mset (g_197 x0 0 99999 d) (x0 + 1) 1 (v_197 x0 0 99999 d)))))) := by simp only [st_206_53, if_neg (show ¬ x1 < 5 from Int.not_lt.mpr c0), if_pos (show (g_205 x0 (g_204 x0 0 (g_204 x0 1 (g_195 x0 (mset (g_197 x0 0 99999 d) (x0 + 1) 1 (v_197 x0 0 99999 d)))))) x0 13 = 0 from c1), if_neg (show ¬ (g_189 x0 (g_205 x0 (g_204 x0 0 (g_204 x0 1 (g_195 x0 (mset (g_197 x0 0 99999 d) (x0 + 1) 1 (v_197 x0 0 99999 d))))))) x0 10 < d x0 9 from Int.not_lt.mpr c2)]
        rw [y0] at h
        exact h (show ∀ b : Int, (b < x0 ∨ x0 + 1 < b) → (g_189 x0 (g_205 x0 (g_204 x0 0 (g_204 x0 1 (g_195 x0 (mset (g_197 x0 0 99999 d) (x0 + 1) 1 (v_197 x0 0 99999 d))))))) b = d b from fun b hb => (F6 b (by omega)).trans ((F5 b (by omega)).trans ((F4 b (by omega)).trans ((F3 b (by omega)).trans ((F2 b (by omega)).trans ((mset_ne (by omega)).trans (F1 b (by omega)))))))) (show (g_189 x0 (g_205 x0 (g_204 x0 0 (g_204 x0 1 (g_195 x0 (mset (g_197 x0 0 99999 d) (x0 + 1) 1 (v_197 x0 0 99999 d))))))) x0 9 = d x0 9 from ((((((k6_0).trans (k5_0)).trans (k4_0)).trans (k3_0)).trans (k2_0)).trans (congrFun (mset_ne (by omega)) 9)).trans (k1_0)) (mpP.of (mh_7 hS6 hx0 _ rfl) (show ∀ i : Int, i = 7 ∨ (12 ≤ i ∧ i < 420 ∧ (i - 12) % 68 = 2) → (g_189 x0 (g_205 x0 (g_204 x0 0 (g_204 x0 1 (g_195 x0 (mset (g_197 x0 0 99999 d) (x0 + 1) 1 (v_197 x0 0 99999 d))))))) (x0 + 1) i = (g_205 x0 (g_204 x0 0 (g_204 x0 1 (g_195 x0 (mset (g_197 x0 0 99999 d) (x0 + 1) 1 (v_197 x0 0 99999 d)))))) (x0 + 1) i from fun i hi => congrFun (F6 (x0 + 1) (by omega)) i) P5hmp) (mwP.eq (F6 (x0 + 1) (by omega)) P5hmw) (show (g_189 x0 (g_205 x0 (g_204 x0 0 (g_204 x0 1 (g_195 x0 (mset (g_197 x0 0 99999 d) (x0 + 1) 1 (v_197 x0 0 99999 d))))))) (x0 + 1) 0 ≤ 999 by omega) hS7
      · refine k_188 hS7 hx0 (by omega) (by omega) (fun F7 k7_0 n7_0 n7_1 n7_2 hS8 => ?_)
        refine t_206_146 ?_
        have w8 := r_11_f9 hS8 hx0
        have w9 := r_11_f10 hS8 hx0
        have q6 : (g_188 x0 1 ((g_189 x0 (g_205 x0 (g_204 x0 0 (g_204 x0 1 (g_195 x0 (mset (g_197 x0 0 99999 d) (x0 + 1) 1 (v_197 x0 0 99999 d))))))) x0 10) (g_189 x0 (g_205 x0 (g_204 x0 0 (g_204 x0 1 (g_195 x0 (mset (g_197 x0 0 99999 d) (x0 + 1) 1 (v_197 x0 0 99999 d)))))))) (x0 + 1) 0 = (g_205 x0 (g_204 x0 0 (g_204 x0 1 (g_195 x0 (mset (g_197 x0 0 99999 d) (x0 + 1) 1 (v_197 x0 0 99999 d)))))) (x0 + 1) 0 := (congrFun (F7 (x0 + 1) (by omega)) 0).trans (congrFun (F6 (x0 + 1) (by omega)) 0)
        have y0 : st_206_53 x0 r53 x1 d = g_188 x0 1 ((g_189 x0 (g_205 x0 (g_204 x0 0 (g_204 x0 1 (g_195 x0 (mset (g_197 x0 0 99999 d) (x0 + 1) 1 (v_197 x0 0 99999 d))))))) x0 10) (g_189 x0 (g_205 x0 (g_204 x0 0 (g_204 x0 1 (g_195 x0 (mset (g_197 x0 0 99999 d) (x0 + 1) 1 (v_197 x0 0 99999 d))))))) := by simp only [st_206_53, if_neg (show ¬ x1 < 5 from Int.not_lt.mpr c0), if_pos (show (g_205 x0 (g_204 x0 0 (g_204 x0 1 (g_195 x0 (mset (g_197 x0 0 99999 d) (x0 + 1) 1 (v_197 x0 0 99999 d)))))) x0 13 = 0 from c1), if_pos (show (g_189 x0 (g_205 x0 (g_204 x0 0 (g_204 x0 1 (g_195 x0 (mset (g_197 x0 0 99999 d) (x0 + 1) 1 (v_197 x0 0 99999 d))))))) x0 10 < d x0 9 from c2)]
        rw [y0] at h
        exact h (show ∀ b : Int, (b < x0 ∨ x0 + 1 < b) → (g_188 x0 1 ((g_189 x0 (g_205 x0 (g_204 x0 0 (g_204 x0 1 (g_195 x0 (mset (g_197 x0 0 99999 d) (x0 + 1) 1 (v_197 x0 0 99999 d))))))) x0 10) (g_189 x0 (g_205 x0 (g_204 x0 0 (g_204 x0 1 (g_195 x0 (mset (g_197 x0 0 99999 d) (x0 + 1) 1 (v_197 x0 0 99999 d)))))))) b = d b from fun b hb => (F7 b (by omega)).trans ((F6 b (by omega)).trans ((F5 b (by omega)).trans ((F4 b (by omega)).trans ((F3 b (by omega)).trans ((F2 b (by omega)).trans ((mset_ne (by omega)).trans (F1 b (by omega))))))))) (show (g_188 x0 1 ((g_189 x0 (g_205 x0 (g_204 x0 0 (g_204 x0 1 (g_195 x0 (mset (g_197 x0 0 99999 d) (x0 + 1) 1 (v_197 x0 0 99999 d))))))) x0 10) (g_189 x0 (g_205 x0 (g_204 x0 0 (g_204 x0 1 (g_195 x0 (mset (g_197 x0 0 99999 d) (x0 + 1) 1 (v_197 x0 0 99999 d)))))))) x0 9 = d x0 9 from (((((((k7_0).trans (k6_0)).trans (k5_0)).trans (k4_0)).trans (k3_0)).trans (k2_0)).trans (congrFun (mset_ne (by omega)) 9)).trans (k1_0)) (mpP.of (mh_7 hS6 hx0 _ rfl) (show ∀ i : Int, i = 7 ∨ (12 ≤ i ∧ i < 420 ∧ (i - 12) % 68 = 2) → (g_188 x0 1 ((g_189 x0 (g_205 x0 (g_204 x0 0 (g_204 x0 1 (g_195 x0 (mset (g_197 x0 0 99999 d) (x0 + 1) 1 (v_197 x0 0 99999 d))))))) x0 10) (g_189 x0 (g_205 x0 (g_204 x0 0 (g_204 x0 1 (g_195 x0 (mset (g_197 x0 0 99999 d) (x0 + 1) 1 (v_197 x0 0 99999 d)))))))) (x0 + 1) i = (g_205 x0 (g_204 x0 0 (g_204 x0 1 (g_195 x0 (mset (g_197 x0 0 99999 d) (x0 + 1) 1 (v_197 x0 0 99999 d)))))) (x0 + 1) i from fun i hi => (congrFun (F7 (x0 + 1) (by omega)) i).trans (congrFun (F6 (x0 + 1) (by omega)) i)) P5hmp) (mwP.eq (F7 (x0 + 1) (by omega)) (mwP.eq (F6 (x0 + 1) (by omega)) P5hmw)) (show (g_188 x0 1 ((g_189 x0 (g_205 x0 (g_204 x0 0 (g_204 x0 1 (g_195 x0 (mset (g_197 x0 0 99999 d) (x0 + 1) 1 (v_197 x0 0 99999 d))))))) x0 10) (g_189 x0 (g_205 x0 (g_204 x0 0 (g_204 x0 1 (g_195 x0 (mset (g_197 x0 0 99999 d) (x0 + 1) 1 (v_197 x0 0 99999 d)))))))) (x0 + 1) 0 ≤ 999 by omega) hS8
  · refine k_291 hS (m_inR (by omega) (by omega)) (fun e2 => ?_)
    refine t_206_70 ?_
    have w8 := r_11_f9 hS hx0
    have w9 := r_11_f10 hS hx0
    refine k_292 hS (m_inR (by omega) (by omega)) (fun e3 => ?_)
    refine t_206_74 ?_
    have w8 := r_11_f9 hS hx0
    have w9 := r_11_f10 hS hx0
    refine k_197 hS hx0 (by omega) (by omega) (fun e4 F8 k8_0 n8_0 n8_1 n8_2 hS9 => ?_)
    refine t_206_77 ?_
    have w8 := r_11_f9 hS9 hx0
    have w9 := r_11_f10 hS9 hx0
    refine ⟨by omega, ?_⟩
    have hS10 : Safe (mset (g_197 x0 (v_291 x1 d) (v_292 x1 d) d) (x0 + 1) (2 + x1) (v_197 x0 (v_291 x1 d) (v_292 x1 d) d)) := smstg hS9 hx0 x1 (2 + x1) (by omega) (by omega) (by omega)
    have q7 : (mset (g_197 x0 (v_291 x1 d) (v_292 x1 d) d) (x0 + 1) (2 + x1) (v_197 x0 (v_291 x1 d) (v_292 x1 d) d)) (x0 + 1) 0 = d (x0 + 1) 0 := (mset_ni (by omega)).trans (congrFun (F8 (x0 + 1) (by omega)) 0)
    refine ih53 (x1 + 1)  (mset (g_197 x0 (v_291 x1 d) (v_292 x1 d) d) (x0 + 1) (2 + x1) (v_197 x0 (v_291 x1 d) (v_292 x1 d) d)) hS10 (by omega) (mpP.of (mh_7 hS hx0 _ rfl) (show ∀ i : Int, i = 7 ∨ (12 ≤ i ∧ i < 420 ∧ (i - 12) % 68 = 2) → (mset (g_197 x0 (v_291 x1 d) (v_292 x1 d) d) (x0 + 1) (2 + x1) (v_197 x0 (v_291 x1 d) (v_292 x1 d) d)) (x0 + 1) i = d (x0 + 1) i from fun i hi => (mset_ni (by omega)).trans (congrFun (F8 (x0 + 1) (by omega)) i)) hmp) (mwP.ne (fun t t0 t1 => by omega) (mwP.eq (F8 (x0 + 1) (by omega)) hmw)) (by omega) (by omega) (by omega) ?_
    intro F k0 P_hmp P_hmw n0 hS_
    have y0 : st_206_53 x0 r53 x1 d = r53 (x1 + 1) (mset (g_197 x0 (v_291 x1 d) (v_292 x1 d) d) (x0 + 1) (2 + x1) (v_197 x0 (v_291 x1 d) (v_292 x1 d) d)) := by simp only [st_206_53, if_pos (show x1 < 5 from c0)]
    rw [y0] at h
    exact h (fun b hb => (F b hb).trans ((show ∀ b : Int, (b < x0 ∨ x0 + 1 < b) → (mset (g_197 x0 (v_291 x1 d) (v_292 x1 d) d) (x0 + 1) (2 + x1) (v_197 x0 (v_291 x1 d) (v_292 x1 d) d)) b = d b from fun b hb => (mset_ne (by omega)).trans (F8 b (by omega))) b hb)) (k0.trans ((congrFun (mset_ne (by omega)) 9).trans (k8_0))) P_hmp P_hmw (by omega) hS_
theorem l_206_53 {E : mO × tW} {K : tK} {x0 : Int} (hx0 : mdB x0) : ∀ (n : Nat) (x1 : Int) (d : mD), Safe d → (0 ≤ x1 ∧ x1 ≤ 5) → (mpP (d (x0 + 1))) → (mwP (d (x0 + 1))) → (d (x0 + 1) 0 ≤ 999) → 5 - x1 ≤ (n : Int) → ((∀ b : Int, (b < x0 ∨ x0 + 1 < b) → (lp_206_53 x0 n x1 d) b = d b) → (lp_206_53 x0 n x1 d) x0 9 = d x0 9 → mpP ((lp_206_53 x0 n x1 d) (x0 + 1)) → mwP ((lp_206_53 x0 n x1 d) (x0 + 1)) → ((lp_206_53 x0 n x1 d) (x0 + 1) 0 ≤ 999) → Safe (lp_206_53 x0 n x1 d) → K (.inl none) (lp_206_53 x0 n x1 d)) → tRun E 206 (53, [.inr (11, x0), .inl (0, x1)], [], 0, 0, d) K := by
  intro n
  induction n with
  | zero =>
    intro x1  d hS i0 hmp hmw i3 hm  h
    exact ls_206_53 hx0 0 _ (fun _  _ _ _ _ _ _ m0 m1 _ => absurd m1 (by omega)) x1  d hS i0 hmp hmw i3 hm  h
  | succ n ih =>
    intro x1  d hS i0 hmp hmw i3 hm  h
    exact ls_206_53 hx0 ((n + 1 : Nat) : Int) _ (fun x1  d hS i0 hmp hmw i3  m0 m1 h => ih x1  d hS i0 hmp hmw i3 (by omega)  h) x1  d hS i0 hmp hmw i3 hm  h
def st_206_12 (x0 : Int) (r12 : Int → mD → mD) (x1 : Int) (d : mD) : mD := if x1 < 3116 then r12 (x1 + 1) (mset d (x0 + 1) x1 0) else if v_194 x0 40216062 d = 0 then lp_206_53 x0 (5 - 0 : Int).toNat 0 (g_188 x0 1 ((g_194 x0 40216062 d) x0 10) (g_194 x0 40216062 d)) else lp_206_53 x0 (5 - 0 : Int).toNat 0 (g_194 x0 40216062 d)
def lp_206_12 (x0 : Int) : Nat → Int → mD → mD
  | 0 => st_206_12 x0 (fun _ d => d)
  | n + 1 => st_206_12 x0 (lp_206_12 x0 n)
theorem ls_206_12 {E : mO × tW} {K : tK} {x0 : Int} (hx0 : mdB x0) (N12 : Int) (r12 : Int → mD → mD) (ih12 : ∀ (x1 : Int) (d : mD), Safe d → (0 ≤ x1 ∧ x1 ≤ 3116) → (zP (d (x0 + 1)) x1) → 0 ≤ 3116 - x1 → 3116 - x1 < N12 → ((∀ b : Int, (b < x0 ∨ x0 + 1 < b) → (r12 x1 d) b = d b) → (r12 x1 d) x0 9 = d x0 9 → mpP ((r12 x1 d) (x0 + 1)) → mwP ((r12 x1 d) (x0 + 1)) → ((r12 x1 d) (x0 + 1) 0 ≤ 999) → Safe (r12 x1 d) → K (.inl none) (r12 x1 d)) → tRun E 206 (12, [.inr (11, x0), .inl (0, x1)], [], 0, 0, d) K) (x1 : Int) (d : mD) (hS : Safe d) (i0 : 0 ≤ x1 ∧ x1 ≤ 3116) (hz : zP (d (x0 + 1)) x1) (hm : 3116 - x1 ≤ N12) (h : (∀ b : Int, (b < x0 ∨ x0 + 1 < b) → (st_206_12 x0 r12 x1 d) b = d b) → (st_206_12 x0 r12 x1 d) x0 9 = d x0 9 → mpP ((st_206_12 x0 r12 x1 d) (x0 + 1)) → mwP ((st_206_12 x0 r12 x1 d) (x0 + 1)) → ((st_206_12 x0 r12 x1 d) (x0 + 1) 0 ≤ 999) → Safe (st_206_12 x0 r12 x1 d) → K (.inl none) (st_206_12 x0 r12 x1 d)) : tRun E 206 (12, [.inr (11, x0), .inl (0, x1)], [], 0, 0, d) K := by
  refine t_206_12 ?_
  have w8 := r_11_f9 hS hx0
  have w9 := r_11_f10 hS hx0
  refine ⟨⟨m_inR (by omega) (by omega), m_inR (by omega) (by omega)⟩, fun c0 => ?_, fun c0 => ?_⟩
  · refine k_194 hS hx0 (by omega) (fun e5 F9 k9_0 n9_0 n9_1 n9_2 hS11 => ?_)
    refine t_206_39 ?_
    have hmp : mpP (d (x0 + 1)) := mpP.z hz (by omega)
    have hmw : mwP (d (x0 + 1)) := mwP.z hz (by omega)
    have w0 : d (x0 + 1) 0 = 0 := hz 0 (by omega) (by omega)
    have w8 := r_11_f9 hS11 hx0
    have w9 := r_11_f10 hS11 hx0
    refine ⟨m_inR (by omega) (by omega), fun c1 => ?_, fun c1 => ?_⟩
    · refine t_206_51 ?_
      have w8 := r_11_f9 hS11 hx0
      have w9 := r_11_f10 hS11 hx0
      have q8 : (g_194 x0 40216062 d) (x0 + 1) 0 = d (x0 + 1) 0 := congrFun (F9 (x0 + 1) (by omega)) 0
      refine l_206_53 hx0 (5 - 0 : Int).toNat 0  (g_194 x0 40216062 d) hS11 (by omega) (mpP.of (mh_7 hS hx0 _ rfl) (show ∀ i : Int, i = 7 ∨ (12 ≤ i ∧ i < 420 ∧ (i - 12) % 68 = 2) → (g_194 x0 40216062 d) (x0 + 1) i = d (x0 + 1) i from fun i hi => congrFun (F9 (x0 + 1) (by omega)) i) hmp) (mwP.eq (F9 (x0 + 1) (by omega)) hmw) (by omega) (by omega) ?_
      intro F k0 P_hmp P_hmw n0 hS_
      have y0 : st_206_12 x0 r12 x1 d = lp_206_53 x0 (5 - 0 : Int).toNat 0 (g_194 x0 40216062 d) := by simp only [st_206_12, if_neg (show ¬ x1 < 3116 from Int.not_lt.mpr c0), if_neg (show ¬ v_194 x0 40216062 d = 0 from c1)]
      rw [y0] at h
      exact h (fun b hb => (F b hb).trans ((show ∀ b : Int, (b < x0 ∨ x0 + 1 < b) → (g_194 x0 40216062 d) b = d b from fun b hb => F9 b (by omega)) b hb)) (k0.trans (k9_0)) P_hmp P_hmw (by omega) hS_
    · have q9 := r_11_f10 hS11 hx0
      refine k_188 hS11 hx0 (by omega) (by omega) (fun F10 k10_0 n10_0 n10_1 n10_2 hS12 => ?_)
      refine t_206_51 ?_
      have w8 := r_11_f9 hS12 hx0
      have w9 := r_11_f10 hS12 hx0
      have q10 : (g_188 x0 1 ((g_194 x0 40216062 d) x0 10) (g_194 x0 40216062 d)) (x0 + 1) 0 = d (x0 + 1) 0 := (congrFun (F10 (x0 + 1) (by omega)) 0).trans (congrFun (F9 (x0 + 1) (by omega)) 0)
      refine l_206_53 hx0 (5 - 0 : Int).toNat 0  (g_188 x0 1 ((g_194 x0 40216062 d) x0 10) (g_194 x0 40216062 d)) hS12 (by omega) (mpP.of (mh_7 hS hx0 _ rfl) (show ∀ i : Int, i = 7 ∨ (12 ≤ i ∧ i < 420 ∧ (i - 12) % 68 = 2) → (g_188 x0 1 ((g_194 x0 40216062 d) x0 10) (g_194 x0 40216062 d)) (x0 + 1) i = d (x0 + 1) i from fun i hi => (congrFun (F10 (x0 + 1) (by omega)) i).trans (congrFun (F9 (x0 + 1) (by omega)) i)) hmp) (mwP.eq (F10 (x0 + 1) (by omega)) (mwP.eq (F9 (x0 + 1) (by omega)) hmw)) (by omega) (by omega) ?_
      intro F k0 P_hmp P_hmw n0 hS_
      have y0 : st_206_12 x0 r12 x1 d = lp_206_53 x0 (5 - 0 : Int).toNat 0 (g_188 x0 1 ((g_194 x0 40216062 d) x0 10) (g_194 x0 40216062 d)) := by simp only [st_206_12, if_neg (show ¬ x1 < 3116 from Int.not_lt.mpr c0), if_pos (show v_194 x0 40216062 d = 0 from c1)]
      rw [y0] at h
      exact h (fun b hb => (F b hb).trans ((show ∀ b : Int, (b < x0 ∨ x0 + 1 < b) → (g_188 x0 1 ((g_194 x0 40216062 d) x0 10) (g_194 x0 40216062 d)) b = d b from fun b hb => (F10 b (by omega)).trans (F9 b (by omega))) b hb)) (k0.trans ((k10_0).trans (k9_0))) P_hmp P_hmw (by omega) hS_
  · refine ⟨by omega, ?_⟩
    have hS13 : Safe (mset d (x0 + 1) x1 0) := smz hS hx0 x1
    refine ih12 (x1 + 1)  (mset d (x0 + 1) x1 0) hS13 (by omega) (zP.s hz) (by omega) (by omega) ?_
    intro F k0 P_hmp P_hmw n0 hS_
    have y0 : st_206_12 x0 r12 x1 d = r12 (x1 + 1) (mset d (x0 + 1) x1 0) := by simp only [st_206_12, if_pos (show x1 < 3116 from c0)]
    rw [y0] at h
    exact h (fun b hb => (F b hb).trans ((show ∀ b : Int, (b < x0 ∨ x0 + 1 < b) → (mset d (x0 + 1) x1 0) b = d b from fun b hb => mset_ne (by omega)) b hb)) (k0.trans (congrFun (mset_ne (by omega)) 9)) P_hmp P_hmw (by omega) hS_
theorem l_206_12 {E : mO × tW} {K : tK} {x0 : Int} (hx0 : mdB x0) : ∀ (n : Nat) (x1 : Int) (d : mD), Safe d → (0 ≤ x1 ∧ x1 ≤ 3116) → (zP (d (x0 + 1)) x1) → 3116 - x1 ≤ (n : Int) → ((∀ b : Int, (b < x0 ∨ x0 + 1 < b) → (lp_206_12 x0 n x1 d) b = d b) → (lp_206_12 x0 n x1 d) x0 9 = d x0 9 → mpP ((lp_206_12 x0 n x1 d) (x0 + 1)) → mwP ((lp_206_12 x0 n x1 d) (x0 + 1)) → ((lp_206_12 x0 n x1 d) (x0 + 1) 0 ≤ 999) → Safe (lp_206_12 x0 n x1 d) → K (.inl none) (lp_206_12 x0 n x1 d)) → tRun E 206 (12, [.inr (11, x0), .inl (0, x1)], [], 0, 0, d) K := by
  intro n
  induction n with
  | zero =>
    intro x1  d hS i0 hz hm  h
    exact ls_206_12 hx0 0 _ (fun _  _ _ _ _ m0 m1 _ => absurd m1 (by omega)) x1  d hS i0 hz hm  h
  | succ n ih =>
    intro x1  d hS i0 hz hm  h
    exact ls_206_12 hx0 ((n + 1 : Nat) : Int) _ (fun x1  d hS i0 hz  m0 m1 h => ih x1  d hS i0 hz (by omega)  h) x1  d hS i0 hz hm  h
def g_206 (x0 : Int) (d : mD) : mD := lp_206_12 x0 (3116 - 0 : Int).toNat 0 (mset (mset d x0 10 0) x0 13 0)
theorem k_206 {E : mO × tW} {K : tK} {d : mD} {x0 : Int} (hS : Safe d) (hx0 : mdB x0) (h : (∀ b : Int, (b < x0 ∨ x0 + 1 < b) → (g_206 x0 d) b = d b) → (g_206 x0 d) x0 9 = d x0 9 → mpP ((g_206 x0 d) (x0 + 1)) → mwP ((g_206 x0 d) (x0 + 1)) → ((g_206 x0 d) (x0 + 1) 0 ≤ 999) → Safe (g_206 x0 d) → K (.inl none) (g_206 x0 d)) : tCall E 206 [.inr (11, x0)] d K := by
  refine t_206_0 ?_
  have w8 := r_11_f9 hS hx0
  have w9 := r_11_f10 hS hx0
  have hS14 : Safe (mset d x0 10 0) := s_11_f10 hS hx0 (by omega)
  refine ⟨by omega, ?_⟩
  have hS15 : Safe (mset (mset d x0 10 0) x0 13 0) := s_11_f13 hS14 hx0 (by omega)
  refine l_206_12 hx0 (3116 - 0 : Int).toNat 0  (mset (mset d x0 10 0) x0 13 0) hS15 (by omega) (fun i h0 h1 => absurd h1 (by omega)) (by omega) ?_
  intro F k0 P_hmp P_hmw n0 hS_
  have q11 : (mset (mset d x0 10 0) x0 13 0) (x0 + 1) 0 = d (x0 + 1) 0 := (congrFun (mset_ne (by omega)) 0).trans (congrFun (mset_ne (by omega)) 0)
  have y0 : g_206 x0 d = lp_206_12 x0 (3116 - 0 : Int).toNat 0 (mset (mset d x0 10 0) x0 13 0) := by simp only [g_206]
  rw [y0] at h
  exact h (fun b hb => (F b hb).trans ((show ∀ b : Int, (b < x0 ∨ x0 + 1 < b) → (mset (mset d x0 10 0) x0 13 0) b = d b from fun b hb => (mset_ne (by omega)).trans (mset_ne (by omega))) b hb)) (k0.trans ((mset_ni (by omega)).trans (mset_ni (by omega)))) P_hmp P_hmw (by omega) hS_
def st_207_71 (x0 : Int) (r71 : Int → mD → Int × mD) (x1 : Int) (d : mD) : Int × mD := if x1 < 3116 then r71 (x1 + 1) (mset d (x0 + 1) x1 (d (x0 + 5) x1)) else (0, d)
def lp_207_71 (x0 : Int) : Nat → Int → mD → Int × mD
  | 0 => st_207_71 x0 (fun _ d => (0, d))
  | n + 1 => st_207_71 x0 (lp_207_71 x0 n)
set_option maxRecDepth 20000 in
theorem ls_207_71 {E : mO × tW} {K : tK} {x0 : Int} (hx0 : mdB x0) (N71 : Int) (r71 : Int → mD → Int × mD) (ih71 : ∀ (x1 : Int) (d : mD), Safe d → (0 ≤ x1 ∧ x1 ≤ 3116) → 0 ≤ 3116 - x1 → 3116 - x1 < N71 → ((∀ b : Int, (b < x0 ∨ x0 + 1 < b) ∧ (b < x0 + 5 ∨ x0 + 6 < b) → (r71 x1 d).2 b = d b) → Safe (r71 x1 d).2 → K (.inl (some (0, (r71 x1 d).1))) (r71 x1 d).2) → tRun E 207 (71, [.inr (11, x0), .inl (0, x1)], [], 0, 0, d) K) (x1 : Int) (d : mD) (hS : Safe d) (i0 : 0 ≤ x1 ∧ x1 ≤ 3116) (hm : 3116 - x1 ≤ N71) (h : (∀ b : Int, (b < x0 ∨ x0 + 1 < b) ∧ (b < x0 + 5 ∨ x0 + 6 < b) → (st_207_71 x0 r71 x1 d).2 b = d b) → Safe (st_207_71 x0 r71 x1 d).2 → K (.inl (some (0, (st_207_71 x0 r71 x1 d).1))) (st_207_71 x0 r71 x1 d).2) : tRun E 207 (71, [.inr (11, x0), .inl (0, x1)], [], 0, 0, d) K := by
  refine t_207_71 ?_
  refine ⟨⟨m_inR (by omega) (by omega), m_inR (by omega) (by omega)⟩, fun c0 => ?_, fun c0 => ?_⟩
  · have y0 : st_207_71 x0 r71 x1 d = (0, d) := by simp only [st_207_71, if_neg (show ¬ x1 < 3116 from Int.not_lt.mpr c0)]
    rw [y0] at h
    dsimp only at h
    exact h (show ∀ b : Int, (b < x0 ∨ x0 + 1 < b) ∧ (b < x0 + 5 ∨ x0 + 6 < b) → d b = d b from fun _ _ => rfl) hS
  · refine ⟨by omega, by omega, ?_⟩
    have hS1 : Safe (mset d (x0 + 1) x1 (d (x0 + 5) x1)) := sr_1 hS hx0 (j := x1) (by omega) (rr_5 hS hx0 x1)
    refine ih71 (x1 + 1)  (mset d (x0 + 1) x1 (d (x0 + 5) x1)) hS1 (by omega) (by omega) (by omega) ?_
    intro F hS_
    have y0 : st_207_71 x0 r71 x1 d = r71 (x1 + 1) (mset d (x0 + 1) x1 (d (x0 + 5) x1)) := by simp only [st_207_71, if_pos (show x1 < 3116 from c0)]
    rw [y0] at h
    exact h (fun b hb => (F b hb).trans ((show ∀ b : Int, (b < x0 ∨ x0 + 1 < b) ∧ (b < x0 + 5 ∨ x0 + 6 < b) → (mset d (x0 + 1) x1 (d (x0 + 5) x1)) b = d b from fun b hb => mset_ne (by omega)) b hb)) hS_
set_option maxRecDepth 20000 in
theorem l_207_71 {E : mO × tW} {K : tK} {x0 : Int} (hx0 : mdB x0) : ∀ (n : Nat) (x1 : Int) (d : mD), Safe d → (0 ≤ x1 ∧ x1 ≤ 3116) → 3116 - x1 ≤ (n : Int) → ((∀ b : Int, (b < x0 ∨ x0 + 1 < b) ∧ (b < x0 + 5 ∨ x0 + 6 < b) → (lp_207_71 x0 n x1 d).2 b = d b) → Safe (lp_207_71 x0 n x1 d).2 → K (.inl (some (0, (lp_207_71 x0 n x1 d).1))) (lp_207_71 x0 n x1 d).2) → tRun E 207 (71, [.inr (11, x0), .inl (0, x1)], [], 0, 0, d) K := by
  intro n
  induction n with
  | zero =>
    intro x1  d hS i0 hm  h
    exact ls_207_71 hx0 0 _ (fun _  _ _ _ m0 m1 _ => absurd m1 (by omega)) x1  d hS i0 hm  h
  | succ n ih =>
    intro x1  d hS i0 hm  h
    exact ls_207_71 hx0 ((n + 1 : Nat) : Int) _ (fun x1  d hS i0  m0 m1 h => ih x1  d hS i0 (by omega)  h) x1  d hS i0 hm  h
def st_207_12 (x0 : Int) (r12 : Int → mD → Int × mD) (x1 : Int) (d : mD) : Int × mD := if x1 < 3116 then r12 (x1 + 1) (mset d (x0 + 5) x1 (d (x0 + 1) x1)) else if (g_206 x0 d) x0 13 = 0 then ((g_206 x0 d) (x0 + 1) 8, mset (mset (mset (mset (mset (g_206 x0 d) x0 9 0) x0 0 0) x0 7 0) (x0 + 6) 0 0) (x0 + 6) 1 0) else lp_207_71 x0 (3116 - 0 : Int).toNat 0 (mset (mset (g_206 x0 d) x0 9 0) x0 0 1)
def lp_207_12 (x0 : Int) : Nat → Int → mD → Int × mD
  | 0 => st_207_12 x0 (fun _ d => (0, d))
  | n + 1 => st_207_12 x0 (lp_207_12 x0 n)
set_option maxRecDepth 20000 in
theorem ls_207_12 {E : mO × tW} {K : tK} {x0 : Int} (hx0 : mdB x0) (N12 : Int) (r12 : Int → mD → Int × mD) (ih12 : ∀ (x1 : Int) (d : mD), Safe d → (0 ≤ x1 ∧ x1 ≤ 3116) → 0 ≤ 3116 - x1 → 3116 - x1 < N12 → ((∀ b : Int, (b < x0 ∨ x0 + 1 < b) ∧ (b < x0 + 5 ∨ x0 + 6 < b) → (r12 x1 d).2 b = d b) → Safe (r12 x1 d).2 → K (.inl (some (0, (r12 x1 d).1))) (r12 x1 d).2) → tRun E 207 (12, [.inr (11, x0), .inl (0, x1)], [], 0, 0, d) K) (x1 : Int) (d : mD) (hS : Safe d) (i0 : 0 ≤ x1 ∧ x1 ≤ 3116) (hm : 3116 - x1 ≤ N12) (h : (∀ b : Int, (b < x0 ∨ x0 + 1 < b) ∧ (b < x0 + 5 ∨ x0 + 6 < b) → (st_207_12 x0 r12 x1 d).2 b = d b) → Safe (st_207_12 x0 r12 x1 d).2 → K (.inl (some (0, (st_207_12 x0 r12 x1 d).1))) (st_207_12 x0 r12 x1 d).2) : tRun E 207 (12, [.inr (11, x0), .inl (0, x1)], [], 0, 0, d) K := by
  refine t_207_12 ?_
  refine ⟨⟨m_inR (by omega) (by omega), m_inR (by omega) (by omega)⟩, fun c0 => ?_, fun c0 => ?_⟩
  · refine k_206 hS hx0 (fun F1 k1_0 P1hmp P1hmw n1_0 hS2 => ?_)
    refine t_207_41 ?_
    have hS3 : Safe (mset (g_206 x0 d) x0 9 0) := s_11_f9 hS2 hx0 (by omega)
    rw [mset_ni (d := g_206 x0 d) (a := x0) (i := (9 : Int)) (v := (0 : Int)) (b := x0) (j := (13 : Int)) (by omega)]
    have q1 := r_11_f13 hS2 hx0
    refine ⟨m_inR (by omega) (by omega), fun c1 => ?_, fun c1 => ?_⟩
    · have hS4 : Safe (mset (mset (g_206 x0 d) x0 9 0) x0 0 0) := s_11_f0 hS3 hx0 (by omega)
      rw [mset_eq (d := mset (g_206 x0 d) x0 9 0) (a := x0) (i := (0 : Int)) (v := (0 : Int))]
      refine ⟨m_inR (by omega) (by omega), fun c2 => ?_, fun c2 => ?_⟩
      · have hS5 : Safe (mset (mset (mset (g_206 x0 d) x0 9 0) x0 0 0) x0 7 0) := s_11_f7 hS4 hx0 (by omega)
        refine ⟨by omega, ?_⟩
        have hS6 : Safe (mset (mset (mset (mset (g_206 x0 d) x0 9 0) x0 0 0) x0 7 0) (x0 + 6) 0 0) := s_11_6 hS5 hx0 (by omega)
        refine ⟨by omega, ?_⟩
        have hS7 : Safe (mset (mset (mset (mset (mset (g_206 x0 d) x0 9 0) x0 0 0) x0 7 0) (x0 + 6) 0 0) (x0 + 6) 1 0) := s_11_6 hS6 hx0 (by omega)
        rw [mset_ni (d := mset (mset (mset (mset (g_206 x0 d) x0 9 0) x0 0 0) x0 7 0) (x0 + 6) 0 0) (a := x0 + 6) (i := (1 : Int)) (v := (0 : Int)) (b := x0 + 1) (j := (8 : Int)) (by omega)]
        rw [mset_ni (d := mset (mset (mset (g_206 x0 d) x0 9 0) x0 0 0) x0 7 0) (a := x0 + 6) (i := (0 : Int)) (v := (0 : Int)) (b := x0 + 1) (j := (8 : Int)) (by omega)]
        rw [mset_ni (d := mset (mset (g_206 x0 d) x0 9 0) x0 0 0) (a := x0) (i := (7 : Int)) (v := (0 : Int)) (b := x0 + 1) (j := (8 : Int)) (by omega)]
        rw [mset_ni (d := mset (g_206 x0 d) x0 9 0) (a := x0) (i := (0 : Int)) (v := (0 : Int)) (b := x0 + 1) (j := (8 : Int)) (by omega)]
        rw [mset_ni (d := g_206 x0 d) (a := x0) (i := (9 : Int)) (v := (0 : Int)) (b := x0 + 1) (j := (8 : Int)) (by omega)]
        have q2 := mh_8 hS2 hx0 _ rfl
        refine ⟨by omega, ?_⟩
        have y0 : st_207_12 x0 r12 x1 d = ((g_206 x0 d) (x0 + 1) 8, mset (mset (mset (mset (mset (g_206 x0 d) x0 9 0) x0 0 0) x0 7 0) (x0 + 6) 0 0) (x0 + 6) 1 0) := by simp only [st_207_12, if_neg (show ¬ x1 < 3116 from Int.not_lt.mpr c0), if_pos (show (g_206 x0 d) x0 13 = 0 from c1), if_neg (show ¬ (0 : Int) < 0 from Int.not_lt.mpr c2)]
        rw [y0] at h
        dsimp only at h
        exact h (show ∀ b : Int, (b < x0 ∨ x0 + 1 < b) ∧ (b < x0 + 5 ∨ x0 + 6 < b) → (mset (mset (mset (mset (mset (g_206 x0 d) x0 9 0) x0 0 0) x0 7 0) (x0 + 6) 0 0) (x0 + 6) 1 0) b = d b from fun b hb => (mset_ne (by omega)).trans ((mset_ne (by omega)).trans ((mset_ne (by omega)).trans ((mset_ne (by omega)).trans ((mset_ne (by omega)).trans (F1 b (by omega))))))) hS7
      · exact (show False by omega).elim
    · have hS8 : Safe (mset (mset (g_206 x0 d) x0 9 0) x0 0 1) := s_11_f0 hS3 hx0 (by omega)
      rw [mset_eq (d := mset (g_206 x0 d) x0 9 0) (a := x0) (i := (0 : Int)) (v := (1 : Int))]
      refine ⟨m_inR (by omega) (by omega), fun c2 => ?_, fun c2 => ?_⟩
      · exact (show False by omega).elim
      · refine l_207_71 hx0 (3116 - 0 : Int).toNat 0  (mset (mset (g_206 x0 d) x0 9 0) x0 0 1) hS8 (by omega) (by omega) ?_
        intro F hS_
        have y0 : st_207_12 x0 r12 x1 d = lp_207_71 x0 (3116 - 0 : Int).toNat 0 (mset (mset (g_206 x0 d) x0 9 0) x0 0 1) := by simp only [st_207_12, if_neg (show ¬ x1 < 3116 from Int.not_lt.mpr c0), if_neg (show ¬ (g_206 x0 d) x0 13 = 0 from c1), if_pos (show (0 : Int) < 1 from c2)]
        rw [y0] at h
        exact h (fun b hb => (F b hb).trans ((show ∀ b : Int, (b < x0 ∨ x0 + 1 < b) ∧ (b < x0 + 5 ∨ x0 + 6 < b) → (mset (mset (g_206 x0 d) x0 9 0) x0 0 1) b = d b from fun b hb => (mset_ne (by omega)).trans ((mset_ne (by omega)).trans (F1 b (by omega)))) b hb)) hS_
  · refine ⟨by omega, by omega, ?_⟩
    have hS9 : Safe (mset d (x0 + 5) x1 (d (x0 + 1) x1)) := sr_5 hS hx0 (j := x1) (by omega) (rr_1 hS hx0 x1)
    refine ih12 (x1 + 1)  (mset d (x0 + 5) x1 (d (x0 + 1) x1)) hS9 (by omega) (by omega) (by omega) ?_
    intro F hS_
    have y0 : st_207_12 x0 r12 x1 d = r12 (x1 + 1) (mset d (x0 + 5) x1 (d (x0 + 1) x1)) := by simp only [st_207_12, if_pos (show x1 < 3116 from c0)]
    rw [y0] at h
    exact h (fun b hb => (F b hb).trans ((show ∀ b : Int, (b < x0 ∨ x0 + 1 < b) ∧ (b < x0 + 5 ∨ x0 + 6 < b) → (mset d (x0 + 5) x1 (d (x0 + 1) x1)) b = d b from fun b hb => mset_ne (by omega)) b hb)) hS_
set_option maxRecDepth 20000 in
theorem l_207_12 {E : mO × tW} {K : tK} {x0 : Int} (hx0 : mdB x0) : ∀ (n : Nat) (x1 : Int) (d : mD), Safe d → (0 ≤ x1 ∧ x1 ≤ 3116) → 3116 - x1 ≤ (n : Int) → ((∀ b : Int, (b < x0 ∨ x0 + 1 < b) ∧ (b < x0 + 5 ∨ x0 + 6 < b) → (lp_207_12 x0 n x1 d).2 b = d b) → Safe (lp_207_12 x0 n x1 d).2 → K (.inl (some (0, (lp_207_12 x0 n x1 d).1))) (lp_207_12 x0 n x1 d).2) → tRun E 207 (12, [.inr (11, x0), .inl (0, x1)], [], 0, 0, d) K := by
  intro n
  induction n with
  | zero =>
    intro x1  d hS i0 hm  h
    exact ls_207_12 hx0 0 _ (fun _  _ _ _ m0 m1 _ => absurd m1 (by omega)) x1  d hS i0 hm  h
  | succ n ih =>
    intro x1  d hS i0 hm  h
    exact ls_207_12 hx0 ((n + 1 : Nat) : Int) _ (fun x1  d hS i0  m0 m1 h => ih x1  d hS i0 (by omega)  h) x1  d hS i0 hm  h
def f_207 (x0 : Int) (d : mD) : Int × mD := lp_207_12 x0 (3116 - 0 : Int).toNat 0 (mset (mset d x0 11 0) x0 12 ((-1)))
def v_207 (x0 : Int) (d : mD) : Int := (f_207 x0 d).1
def g_207 (x0 : Int) (d : mD) : mD := (f_207 x0 d).2
set_option maxRecDepth 20000 in
theorem k_207 {E : mO × tW} {K : tK} {d : mD} {x0 : Int} (hS : Safe d) (hx0 : mdB x0) (h : (∀ b : Int, (b < x0 ∨ x0 + 1 < b) ∧ (b < x0 + 5 ∨ x0 + 6 < b) → (g_207 x0 d) b = d b) → Safe (g_207 x0 d) → K (.inl (some (0, (v_207 x0 d)))) (g_207 x0 d)) : tCall E 207 [.inr (11, x0)] d K := by
  simp only [v_207, g_207] at h
  refine t_207_0 ?_
  have hS10 : Safe (mset d x0 11 0) := s_11_f11 hS hx0 (by omega)
  have hS11 : Safe (mset (mset d x0 11 0) x0 12 ((-1))) := s_11_f12 hS10 hx0 (by omega)
  refine l_207_12 hx0 (3116 - 0 : Int).toNat 0  (mset (mset d x0 11 0) x0 12 ((-1))) hS11 (by omega) (by omega) ?_
  intro F hS_
  have y0 : f_207 x0 d = lp_207_12 x0 (3116 - 0 : Int).toNat 0 (mset (mset d x0 11 0) x0 12 ((-1))) := by simp only [f_207]
  rw [y0] at h
  exact h (fun b hb => (F b hb).trans ((show ∀ b : Int, (b < x0 ∨ x0 + 1 < b) ∧ (b < x0 + 5 ∨ x0 + 6 < b) → (mset (mset d x0 11 0) x0 12 ((-1))) b = d b from fun b hb => (mset_ne (by omega)).trans (mset_ne (by omega))) b hb)) hS_
/-! ===== contracts of the reader and the loader: printed by a program of mine ===== -/
def v_55 (x0 x1 : Int) (d : mD) : Int := if d x0 1 = 0 then (if d x0 3 - d x0 2 = tsl x1 then (if (List.range (tsl x1).toNat).all (fun i => decide (d (x0 + 1 + 1) (d x0 2 + (i : Int)) = tsc x1 (i : Int))) = true then 1 else 0) else 0) else 0
def W55 (E : mO × tW) : Prop := ∀ {K : tK} {d : mD} {x0 x1 : Int}, Safe d → reB x0 → 0 ≤ x1 ∧ x1 ≤ 6 → ((0 ≤ v_55 x0 x1 d ∧ v_55 x0 x1 d ≤ 1) → K (.inl (some (0, v_55 x0 x1 d))) d) → tCall E 55 [.inr (5, x0), .inl (5, x1)] d K
theorem k_55 {E : mO × tW} {K : tK} {d : mD} {x0 x1 : Int} (hW : W55 E) (hS : Safe d) (hx0 : reB x0) (hk : 0 ≤ x1 ∧ x1 ≤ 6) (h : (0 ≤ v_55 x0 x1 d ∧ v_55 x0 x1 d ≤ 1) → K (.inl (some (0, v_55 x0 x1 d))) d) : tCall E 55 [.inr (5, x0), .inl (5, x1)] d K := hW hS hx0 hk h
theorem irng {c : Prop} [Decidable c] {a b : Int} (ha : 0 ≤ a ∧ a ≤ 127) (hb : 0 ≤ b ∧ b ≤ 127) : 0 ≤ (if c then a else b) ∧ (if c then a else b) ≤ 127 := by
  split
  · exact ha
  · exact hb
theorem tsc_r (k i : Int) : 0 ≤ tsc k i ∧ tsc k i ≤ 127 := by
  unfold tsc
  repeat' (refine irng ?_ ?_)
  all_goals exact ⟨by decide, by decide⟩
theorem w55l {E : mO × tW} {K : tK} {d : mD} {x0 x1 : Int} (hS : Safe d) (hx0 : reB x0) (hk : 0 ≤ x1 ∧ x1 ≤ 6) (hl : d x0 3 - d x0 2 = tsl x1) (k1 : (∀ j, 0 ≤ j → j < tsl x1 → d (x0 + 1 + 1) (d x0 2 + j) = tsc x1 j) → K (.inl (some (0, 1))) d) (k0 : ¬ (∀ j, 0 ≤ j → j < tsl x1 → d (x0 + 1 + 1) (d x0 2 + j) = tsc x1 j) → K (.inl (some (0, 0))) d) : ∀ (n : Nat) (x2 : Int), 0 ≤ x2 → tsl x1 - x2 = (n : Int) → (∀ j, 0 ≤ j → j < x2 → d (x0 + 1 + 1) (d x0 2 + j) = tsc x1 j) → tRun E 55 (27, [.inr (5, x0), .inl (5, x1), .inl (0, x2)], [], 0, 0, d) K := by
  have ht := tsl_rng x1 hk.1 (by omega)
  have w2 := r_5_f2 hS hx0
  have w3 := r_5_f3 hS hx0
  intro n
  induction n with
  | zero =>
    intro x2 h0 hn hj
    exact t_55_27 ⟨by omega, ⟨m_inR (by omega) (by omega), m_inR (by omega) (by omega)⟩, fun _ => ⟨Or.inr rfl, k1 (fun j a b => hj j a (by omega))⟩, fun c => absurd c (by omega)⟩
  | succ n ih =>
    intro x2 h0 hn hj
    have w := r_7_1 hS (reB.tx hx0) (d x0 2 + x2) (by omega)
    have u := tsc_r x1 x2
    refine t_55_27 ⟨by omega, ⟨m_inR (by omega) (by omega), m_inR (by omega) (by omega)⟩, fun c => absurd c (by omega), fun _ => ⟨by omega, by omega, ⟨m_inR (by omega) (by omega), m_inR (by omega) (by omega)⟩, fun e => ?_, fun ne => ⟨Or.inl rfl, k0 (fun a => ne (a x2 h0 (by omega)))⟩⟩⟩
    refine ih (x2 + 1) (by omega) (by omega) (fun j a b => ?_)
    by_cases c : j = x2
    · rw [c]; exact e
    · exact hj j a (by omega)
theorem v55_1 {d : mD} {x0 x1 : Int} (h0 : d x0 1 = 0) (hl : d x0 3 - d x0 2 = tsl x1) (h : ∀ j, 0 ≤ j → j < tsl x1 → d (x0 + 1 + 1) (d x0 2 + j) = tsc x1 j) : v_55 x0 x1 d = 1 := by
  unfold v_55
  rw [if_pos h0, if_pos hl, if_pos]
  refine List.all_eq_true.mpr (fun i hi => ?_)
  have := List.mem_range.mp hi
  exact decide_eq_true (h i (by omega) (by omega))
theorem v55_0 {d : mD} {x0 x1 : Int} (h : ¬ (d x0 1 = 0 ∧ d x0 3 - d x0 2 = tsl x1 ∧ ∀ j, 0 ≤ j → j < tsl x1 → d (x0 + 1 + 1) (d x0 2 + j) = tsc x1 j)) : v_55 x0 x1 d = 0 := by
  unfold v_55
  split
  · rename_i h0
    split
    · rename_i hl
      split
      · rename_i ha
        refine absurd ⟨h0, hl, fun j a b => ?_⟩ h
        have := of_decide_eq_true (List.all_eq_true.mp ha j.toNat (List.mem_range.mpr (by omega)))
        rw [show ((j.toNat : Nat) : Int) = j by omega] at this
        exact this
      · rfl
    · rfl
  · rfl
theorem w55 {E : mO × tW} : W55 E := by
  intro K d x0 x1 hS hx0 hk h
  have ht := tsl_rng x1 hk.1 (by omega)
  have w1 := r_5_f1 hS hx0
  have w2 := r_5_f2 hS hx0
  have w3 := r_5_f3 hS hx0
  have z : ¬ (d x0 1 = 0 ∧ d x0 3 - d x0 2 = tsl x1 ∧ ∀ j, 0 ≤ j → j < tsl x1 → d (x0 + 1 + 1) (d x0 2 + j) = tsc x1 j) → K (.inl (some (0, 0))) d := fun n => by
    have e := v55_0 n
    rw [e] at h
    exact h ⟨by decide, by decide⟩
  refine t_55_0 ⟨m_inR (by omega) (by omega), fun n => ⟨Or.inl rfl, z (fun a => n a.1)⟩, fun h0 => ⟨by omega, ⟨m_inR (by omega) (by omega), m_inR (by omega) (by omega)⟩, fun hl => ?_, fun n => ⟨Or.inl rfl, z (fun a => n a.2.1)⟩⟩⟩
  refine w55l hS hx0 hk hl (fun a => ?_) (fun n => z (fun a => n a.2.2)) (tsl x1).toNat 0 (by decide) (by omega) (fun j a b => absurd b (by omega))
  have e := v55_1 h0 hl a
  rw [e] at h
  exact h ⟨by decide, by decide⟩
def st_53_0 (x0 : Int) (r0 : mD → mD) (d : mD) : mD := if d x0 3 < d (x0 + 1) 1 then (if v_91 (x0 + 1) (d x0 3) d = 0 then mset d x0 1 0 else r0 (mset d x0 3 ((d x0 3) + 1))) else mset d x0 1 0
def lp_53_0 (x0 : Int) : Nat → mD → mD
  | 0 => st_53_0 x0 (fun d => d)
  | n + 1 => st_53_0 x0 (lp_53_0 x0 n)
theorem ls_53_0 {E : mO × tW} {K : tK} {x0 : Int} (hx0 : reB x0) (N0 : Int) (r0 : mD → mD) (ih0 : ∀ (d : mD), Safe d → 0 ≤ 1000 - d x0 3 → 1000 - d x0 3 < N0 → ((∀ b : Int, (b < x0 ∨ x0 < b) → (r0  d) b = d b) → Safe (r0  d) → K (.inl none) (r0  d)) → tRun E 53 (0, [.inr (5, x0)], [], 0, 0, d) K) (d : mD) (hS : Safe d) (hm : 1000 - d x0 3 ≤ N0) (h : (∀ b : Int, (b < x0 ∨ x0 < b) → (st_53_0 x0 r0 d) b = d b) → Safe (st_53_0 x0 r0 d) → K (.inl none) (st_53_0 x0 r0 d)) : tRun E 53 (0, [.inr (5, x0)], [], 0, 0, d) K := by
  refine t_53_0 ?_
  have w8 := r_5_f2 hS hx0
  have w9 := r_5_f3 hS hx0
  have w7 := r_7_f1 hS (reB.tx hx0)
  have q1 := r_5_f3 hS hx0
  have q2 := r_7_f1 hS (reB.tx hx0)
  refine ⟨⟨m_inR (by omega) (by omega), m_inR (by omega) (by omega)⟩, fun c0 => ?_, fun c0 => ?_⟩
  · have hS1 : Safe (mset d x0 1 0) := s_5_f1 hS hx0 (by omega)
    have y0 : st_53_0 x0 r0 d = mset d x0 1 0 := by simp only [st_53_0, if_neg (show ¬ d x0 3 < d (x0 + 1) 1 from Int.not_lt.mpr c0)]
    rw [y0] at h
    exact h (show ∀ b : Int, (b < x0 ∨ x0 < b) → (mset d x0 1 0) b = d b from fun b hb => mset_ne (by omega)) hS1
  · refine k_91 hS (reB.tx hx0) (by omega) (fun e1 => ?_)
    refine t_53_25 ?_
    have w8 := r_5_f2 hS hx0
    have w9 := r_5_f3 hS hx0
    have w7 := r_7_f1 hS (reB.tx hx0)
    refine ⟨m_inR (by omega) (by omega), fun c1 => ?_, fun c1 => ?_⟩
    · have hS2 : Safe (mset d x0 1 0) := s_5_f1 hS hx0 (by omega)
      have y0 : st_53_0 x0 r0 d = mset d x0 1 0 := by simp only [st_53_0, if_pos (show d x0 3 < d (x0 + 1) 1 from c0), if_pos (show v_91 (x0 + 1) (d x0 3) d = 0 from c1)]
      rw [y0] at h
      exact h (show ∀ b : Int, (b < x0 ∨ x0 < b) → (mset d x0 1 0) b = d b from fun b hb => mset_ne (by omega)) hS2
    · have hS3 : Safe (mset d x0 3 ((d x0 3) + 1)) := s_5_f3 hS hx0 (by omega)
      have q3 := r_5_f3 hS3 hx0
      have q4 : (mset d x0 3 ((d x0 3) + 1)) x0 3 = (d x0 3) + 1 := mset_eq
      refine ih0   (mset d x0 3 ((d x0 3) + 1)) hS3 (by omega) (by omega) ?_
      intro F hS_
      have y0 : st_53_0 x0 r0 d = r0 (mset d x0 3 ((d x0 3) + 1)) := by simp only [st_53_0, if_pos (show d x0 3 < d (x0 + 1) 1 from c0), if_neg (show ¬ v_91 (x0 + 1) (d x0 3) d = 0 from c1)]
      rw [y0] at h
      exact h (fun b hb => (F b hb).trans ((show ∀ b : Int, (b < x0 ∨ x0 < b) → (mset d x0 3 ((d x0 3) + 1)) b = d b from fun b hb => mset_ne (by omega)) b hb)) hS_
theorem l_53_0 {E : mO × tW} {K : tK} {x0 : Int} (hx0 : reB x0) : ∀ (n : Nat) (d : mD), Safe d → 1000 - d x0 3 ≤ (n : Int) → ((∀ b : Int, (b < x0 ∨ x0 < b) → (lp_53_0 x0 n d) b = d b) → Safe (lp_53_0 x0 n d) → K (.inl none) (lp_53_0 x0 n d)) → tRun E 53 (0, [.inr (5, x0)], [], 0, 0, d) K := by
  intro n
  induction n with
  | zero =>
    intro   d hS  hm  h
    exact ls_53_0 hx0 0 _ (fun   _ _  m0 m1 _ => absurd m1 (by omega))   d hS  hm  h
  | succ n ih =>
    intro   d hS  hm  h
    exact ls_53_0 hx0 ((n + 1 : Nat) : Int) _ (fun   d hS   m0 m1 h => ih   d hS  (by omega)  h)   d hS  hm  h
def g_53 (x0 : Int) (d : mD) : mD := lp_53_0 x0 (1000 - d x0 3 : Int).toNat d
theorem k_53 {E : mO × tW} {K : tK} {d : mD} {x0 : Int} (hS : Safe d) (hx0 : reB x0) (h : (∀ b : Int, (b < x0 ∨ x0 < b) → (g_53 x0 d) b = d b) → Safe (g_53 x0 d) → K (.inl none) (g_53 x0 d)) : tCall E 53 [.inr (5, x0)] d K := by
  have q5 := r_5_f3 hS hx0
  refine l_53_0 hx0 (1000 - d x0 3 : Int).toNat   d hS (by omega) ?_
  intro F hS_
  have y0 : g_53 x0 d = lp_53_0 x0 (1000 - d x0 3 : Int).toNat d := by simp only [g_53]
  rw [y0] at h
  exact h F hS_
def st_54_5 (x0 : Int) (r5 : mD → mD) (d : mD) : mD := if d x0 3 < d (x0 + 1) 1 then (if v_92 (x0 + 1) (d x0 3) d = 0 then (if (5 : Int) < (d x0 3) - (d x0 2) then mset d x0 1 4 else mset d x0 1 1) else if (d x0 3) - (d x0 2) < 5 then r5 (mset (mset d x0 4 ((((d x0 4) * 10) + (d (x0 + 1 + 1) (d x0 3))) - 48)) x0 3 ((d x0 3) + 1)) else r5 (mset d x0 3 ((d x0 3) + 1))) else if (5 : Int) < (d x0 3) - (d x0 2) then mset d x0 1 4 else mset d x0 1 1
def lp_54_5 (x0 : Int) : Nat → mD → mD
  | 0 => st_54_5 x0 (fun d => d)
  | n + 1 => st_54_5 x0 (lp_54_5 x0 n)
theorem ls_54_5 {E : mO × tW} {K : tK} {x0 : Int} (hx0 : reB x0) (N5 : Int) (r5 : mD → mD) (ih5 : ∀ (d : mD), Safe d → (0 ≤ d x0 4) → ((d x0 3 = d x0 2 + 0 ∧ d x0 4 ≤ 0) ∨ (d x0 3 = d x0 2 + 1 ∧ d x0 4 ≤ 9) ∨ (d x0 3 = d x0 2 + 2 ∧ d x0 4 ≤ 99) ∨ (d x0 3 = d x0 2 + 3 ∧ d x0 4 ≤ 999) ∨ (d x0 3 = d x0 2 + 4 ∧ d x0 4 ≤ 9999) ∨ (d x0 2 + 5 ≤ d x0 3 ∧ d x0 4 ≤ 99999)) → 0 ≤ 1000 - d x0 3 → 1000 - d x0 3 < N5 → ((∀ b : Int, (b < x0 ∨ x0 < b) → (r5  d) b = d b) → Safe (r5  d) → K (.inl none) (r5  d)) → tRun E 54 (5, [.inr (5, x0)], [], 0, 0, d) K) (d : mD) (hS : Safe d) (i0 : 0 ≤ d x0 4) (i1 : (d x0 3 = d x0 2 + 0 ∧ d x0 4 ≤ 0) ∨ (d x0 3 = d x0 2 + 1 ∧ d x0 4 ≤ 9) ∨ (d x0 3 = d x0 2 + 2 ∧ d x0 4 ≤ 99) ∨ (d x0 3 = d x0 2 + 3 ∧ d x0 4 ≤ 999) ∨ (d x0 3 = d x0 2 + 4 ∧ d x0 4 ≤ 9999) ∨ (d x0 2 + 5 ≤ d x0 3 ∧ d x0 4 ≤ 99999)) (hm : 1000 - d x0 3 ≤ N5) (h : (∀ b : Int, (b < x0 ∨ x0 < b) → (st_54_5 x0 r5 d) b = d b) → Safe (st_54_5 x0 r5 d) → K (.inl none) (st_54_5 x0 r5 d)) : tRun E 54 (5, [.inr (5, x0)], [], 0, 0, d) K := by
  refine t_54_5 ?_
  have w8 := r_5_f2 hS hx0
  have w9 := r_5_f3 hS hx0
  have w7 := r_7_f1 hS (reB.tx hx0)
  have q1 := r_5_f3 hS hx0
  have q2 := r_7_f1 hS (reB.tx hx0)
  refine ⟨⟨m_inR (by omega) (by omega), m_inR (by omega) (by omega)⟩, fun c0 => ?_, fun c0 => ?_⟩
  · have q3 := r_5_f2 hS hx0
    refine ⟨⟨m_inR (by omega) (by omega), m_inR (by omega) (by omega)⟩, fun c1 => ?_, fun c1 => ?_⟩
    · have hS1 : Safe (mset d x0 1 1) := s_5_f1 hS hx0 (by omega)
      have y0 : st_54_5 x0 r5 d = mset d x0 1 1 := by simp only [st_54_5, if_neg (show ¬ d x0 3 < d (x0 + 1) 1 from Int.not_lt.mpr c0), if_neg (show ¬ (5 : Int) < (d x0 3) - (d x0 2) from Int.not_lt.mpr c1)]
      rw [y0] at h
      exact h (show ∀ b : Int, (b < x0 ∨ x0 < b) → (mset d x0 1 1) b = d b from fun b hb => mset_ne (by omega)) hS1
    · have hS2 : Safe (mset d x0 1 4) := s_5_f1 hS hx0 (by omega)
      have y0 : st_54_5 x0 r5 d = mset d x0 1 4 := by simp only [st_54_5, if_neg (show ¬ d x0 3 < d (x0 + 1) 1 from Int.not_lt.mpr c0), if_pos (show (5 : Int) < (d x0 3) - (d x0 2) from c1)]
      rw [y0] at h
      exact h (show ∀ b : Int, (b < x0 ∨ x0 < b) → (mset d x0 1 4) b = d b from fun b hb => mset_ne (by omega)) hS2
  · refine k_92 hS (reB.tx hx0) (by omega) (fun e1 => ?_)
    refine t_54_30 ?_
    have w8 := r_5_f2 hS hx0
    have w9 := r_5_f3 hS hx0
    have w7 := r_7_f1 hS (reB.tx hx0)
    refine ⟨m_inR (by omega) (by omega), fun c1 => ?_, fun c1 => ?_⟩
    · have q4 := r_5_f2 hS hx0
      refine ⟨⟨m_inR (by omega) (by omega), m_inR (by omega) (by omega)⟩, fun c2 => ?_, fun c2 => ?_⟩
      · have hS3 : Safe (mset d x0 1 1) := s_5_f1 hS hx0 (by omega)
        have y0 : st_54_5 x0 r5 d = mset d x0 1 1 := by simp only [st_54_5, if_pos (show d x0 3 < d (x0 + 1) 1 from c0), if_pos (show v_92 (x0 + 1) (d x0 3) d = 0 from c1), if_neg (show ¬ (5 : Int) < (d x0 3) - (d x0 2) from Int.not_lt.mpr c2)]
        rw [y0] at h
        exact h (show ∀ b : Int, (b < x0 ∨ x0 < b) → (mset d x0 1 1) b = d b from fun b hb => mset_ne (by omega)) hS3
      · have hS4 : Safe (mset d x0 1 4) := s_5_f1 hS hx0 (by omega)
        have y0 : st_54_5 x0 r5 d = mset d x0 1 4 := by simp only [st_54_5, if_pos (show d x0 3 < d (x0 + 1) 1 from c0), if_pos (show v_92 (x0 + 1) (d x0 3) d = 0 from c1), if_pos (show (5 : Int) < (d x0 3) - (d x0 2) from c2)]
        rw [y0] at h
        exact h (show ∀ b : Int, (b < x0 ∨ x0 < b) → (mset d x0 1 4) b = d b from fun b hb => mset_ne (by omega)) hS4
    · have q5 := r_5_f2 hS hx0
      refine ⟨⟨m_inR (by omega) (by omega), m_inR (by omega) (by omega)⟩, fun c2 => ?_, fun c2 => ?_⟩
      · have hS5 : Safe (mset d x0 3 ((d x0 3) + 1)) := s_5_f3 hS hx0 (by omega)
        have q6 := r_5_f3 hS5 hx0
        have q7 : (mset d x0 3 ((d x0 3) + 1)) x0 4 = d x0 4 := mset_ni (by omega)
        have q8 : (mset d x0 3 ((d x0 3) + 1)) x0 3 = (d x0 3) + 1 := mset_eq
        have q9 : (mset d x0 3 ((d x0 3) + 1)) x0 2 = d x0 2 := mset_ni (by omega)
        refine ih5   (mset d x0 3 ((d x0 3) + 1)) hS5 (by omega) (by omega) (by omega) (by omega) ?_
        intro F hS_
        have y0 : st_54_5 x0 r5 d = r5 (mset d x0 3 ((d x0 3) + 1)) := by simp only [st_54_5, if_pos (show d x0 3 < d (x0 + 1) 1 from c0), if_neg (show ¬ v_92 (x0 + 1) (d x0 3) d = 0 from c1), if_neg (show ¬ (d x0 3) - (d x0 2) < 5 from Int.not_lt.mpr c2)]
        rw [y0] at h
        exact h (fun b hb => (F b hb).trans ((show ∀ b : Int, (b < x0 ∨ x0 < b) → (mset d x0 3 ((d x0 3) + 1)) b = d b from fun b hb => mset_ne (by omega)) b hb)) hS_
      · have q10 := r_5_f4 hS hx0
        have q11 := r_7_1 hS (reB.tx hx0) (d x0 3)
        refine ⟨by omega, ?_⟩
        have hS6 : Safe (mset d x0 4 ((((d x0 4) * 10) + (d (x0 + 1 + 1) (d x0 3))) - 48)) := s_5_f4 hS hx0 (by omega)
        try rw [mset_ni (d := d) (a := x0) (i := (4 : Int)) (v := (((d x0 4) * 10) + (d (x0 + 1 + 1) (d x0 3))) - 48) (b := x0) (j := (3 : Int)) (by omega)]
        have hS7 : Safe (mset (mset d x0 4 ((((d x0 4) * 10) + (d (x0 + 1 + 1) (d x0 3))) - 48)) x0 3 ((d x0 3) + 1)) := s_5_f3 hS6 hx0 (by omega)
        have q12 := r_5_f3 hS7 hx0
        have q13 : (mset (mset d x0 4 ((((d x0 4) * 10) + (d (x0 + 1 + 1) (d x0 3))) - 48)) x0 3 ((d x0 3) + 1)) x0 4 = (((d x0 4) * 10) + (d (x0 + 1 + 1) (d x0 3))) - 48 := (mset_ni (by omega)).trans (mset_eq)
        have q14 : (mset (mset d x0 4 ((((d x0 4) * 10) + (d (x0 + 1 + 1) (d x0 3))) - 48)) x0 3 ((d x0 3) + 1)) x0 3 = (d x0 3) + 1 := mset_eq
        have q15 : (mset (mset d x0 4 ((((d x0 4) * 10) + (d (x0 + 1 + 1) (d x0 3))) - 48)) x0 3 ((d x0 3) + 1)) x0 2 = d x0 2 := (mset_ni (by omega)).trans (mset_ni (by omega))
        refine ih5   (mset (mset d x0 4 ((((d x0 4) * 10) + (d (x0 + 1 + 1) (d x0 3))) - 48)) x0 3 ((d x0 3) + 1)) hS7 (by omega) (by omega) (by omega) (by omega) ?_
        intro F hS_
        have y0 : st_54_5 x0 r5 d = r5 (mset (mset d x0 4 ((((d x0 4) * 10) + (d (x0 + 1 + 1) (d x0 3))) - 48)) x0 3 ((d x0 3) + 1)) := by simp only [st_54_5, if_pos (show d x0 3 < d (x0 + 1) 1 from c0), if_neg (show ¬ v_92 (x0 + 1) (d x0 3) d = 0 from c1), if_pos (show (d x0 3) - (d x0 2) < 5 from c2)]
        rw [y0] at h
        exact h (fun b hb => (F b hb).trans ((show ∀ b : Int, (b < x0 ∨ x0 < b) → (mset (mset d x0 4 ((((d x0 4) * 10) + (d (x0 + 1 + 1) (d x0 3))) - 48)) x0 3 ((d x0 3) + 1)) b = d b from fun b hb => (mset_ne (by omega)).trans (mset_ne (by omega))) b hb)) hS_
theorem l_54_5 {E : mO × tW} {K : tK} {x0 : Int} (hx0 : reB x0) : ∀ (n : Nat) (d : mD), Safe d → (0 ≤ d x0 4) → ((d x0 3 = d x0 2 + 0 ∧ d x0 4 ≤ 0) ∨ (d x0 3 = d x0 2 + 1 ∧ d x0 4 ≤ 9) ∨ (d x0 3 = d x0 2 + 2 ∧ d x0 4 ≤ 99) ∨ (d x0 3 = d x0 2 + 3 ∧ d x0 4 ≤ 999) ∨ (d x0 3 = d x0 2 + 4 ∧ d x0 4 ≤ 9999) ∨ (d x0 2 + 5 ≤ d x0 3 ∧ d x0 4 ≤ 99999)) → 1000 - d x0 3 ≤ (n : Int) → ((∀ b : Int, (b < x0 ∨ x0 < b) → (lp_54_5 x0 n d) b = d b) → Safe (lp_54_5 x0 n d) → K (.inl none) (lp_54_5 x0 n d)) → tRun E 54 (5, [.inr (5, x0)], [], 0, 0, d) K := by
  intro n
  induction n with
  | zero =>
    intro   d hS i0 i1 hm  h
    exact ls_54_5 hx0 0 _ (fun   _ _ _ _ m0 m1 _ => absurd m1 (by omega))   d hS i0 i1 hm  h
  | succ n ih =>
    intro   d hS i0 i1 hm  h
    exact ls_54_5 hx0 ((n + 1 : Nat) : Int) _ (fun   d hS i0 i1  m0 m1 h => ih   d hS i0 i1 (by omega)  h)   d hS i0 i1 hm  h
def g_54 (x0 : Int) (d : mD) : mD := lp_54_5 x0 (1000 - (mset d x0 4 0) x0 3 : Int).toNat (mset d x0 4 0)
theorem k_54 {E : mO × tW} {K : tK} {d : mD} {x0 : Int} (hS : Safe d) (hx0 : reB x0) (hze : d x0 3 = d x0 2) (h : (∀ b : Int, (b < x0 ∨ x0 < b) → (g_54 x0 d) b = d b) → Safe (g_54 x0 d) → K (.inl none) (g_54 x0 d)) : tCall E 54 [.inr (5, x0)] d K := by
  refine t_54_0 ?_
  have w8 := r_5_f2 hS hx0
  have w9 := r_5_f3 hS hx0
  have w7 := r_7_f1 hS (reB.tx hx0)
  have hS8 : Safe (mset d x0 4 0) := s_5_f4 hS hx0 (by omega)
  have q16 := r_5_f3 hS8 hx0
  have q17 : (mset d x0 4 0) x0 4 = 0 := mset_eq
  have q18 : (mset d x0 4 0) x0 3 = d x0 3 := mset_ni (by omega)
  have q19 : (mset d x0 4 0) x0 2 = d x0 2 := mset_ni (by omega)
  refine l_54_5 hx0 (1000 - (mset d x0 4 0) x0 3 : Int).toNat   (mset d x0 4 0) hS8 (by omega) (by omega) (by omega) ?_
  intro F hS_
  have y0 : g_54 x0 d = lp_54_5 x0 (1000 - (mset d x0 4 0) x0 3 : Int).toNat (mset d x0 4 0) := by simp only [g_54]
  rw [y0] at h
  exact h (fun b hb => (F b hb).trans ((show ∀ b : Int, (b < x0 ∨ x0 < b) → (mset d x0 4 0) b = d b from fun b hb => mset_ne (by omega)) b hb)) hS_
def st_52_8 (x0 : Int) (r8 : mD → mD) (d : mD) : mD := if d x0 2 < d (x0 + 1) 1 then (if v_90 (x0 + 1) (d x0 2) d = 0 then (if v_91 (x0 + 1) (d x0 2) (mset d x0 3 (d x0 2)) = 0 then (if v_92 (x0 + 1) (d x0 2) (mset d x0 3 (d x0 2)) = 0 then (if d (x0 + 1 + 1) (d x0 2) = 59 then mset (mset (mset d x0 3 (d x0 2)) x0 1 2) x0 3 ((d x0 2) + 1) else mset (mset (mset d x0 3 (d x0 2)) x0 1 4) x0 3 ((d x0 2) + 1)) else g_54 x0 (mset d x0 3 (d x0 2))) else g_53 x0 (mset d x0 3 (d x0 2))) else r8 (mset d x0 2 ((d x0 2) + 1))) else mset (mset d x0 3 (d x0 2)) x0 1 3
def lp_52_8 (x0 : Int) : Nat → mD → mD
  | 0 => st_52_8 x0 (fun d => d)
  | n + 1 => st_52_8 x0 (lp_52_8 x0 n)
theorem ls_52_8 {E : mO × tW} {K : tK} {x0 : Int} (hx0 : reB x0) (N8 : Int) (r8 : mD → mD) (ih8 : ∀ (d : mD), Safe d → 0 ≤ 1000 - d x0 2 → 1000 - d x0 2 < N8 → ((∀ b : Int, (b < x0 ∨ x0 < b) → (r8  d) b = d b) → Safe (r8  d) → K (.inl none) (r8  d)) → tRun E 52 (8, [.inr (5, x0)], [], 0, 0, d) K) (d : mD) (hS : Safe d) (hm : 1000 - d x0 2 ≤ N8) (h : (∀ b : Int, (b < x0 ∨ x0 < b) → (st_52_8 x0 r8 d) b = d b) → Safe (st_52_8 x0 r8 d) → K (.inl none) (st_52_8 x0 r8 d)) : tRun E 52 (8, [.inr (5, x0)], [], 0, 0, d) K := by
  refine t_52_8 ?_
  have w8 := r_5_f2 hS hx0
  have w9 := r_5_f3 hS hx0
  have w7 := r_7_f1 hS (reB.tx hx0)
  have q1 := r_5_f2 hS hx0
  have q2 := r_7_f1 hS (reB.tx hx0)
  refine ⟨⟨m_inR (by omega) (by omega), m_inR (by omega) (by omega)⟩, fun c0 => ?_, fun c0 => ?_⟩
  · have hS1 : Safe (mset d x0 3 (d x0 2)) := s_5_f3 hS hx0 (by omega)
    try rw [mset_ni (d := d) (a := x0) (i := (3 : Int)) (v := d x0 2) (b := x0) (j := (2 : Int)) (by omega)]
    try rw [mset_ni (d := d) (a := x0) (i := (3 : Int)) (v := d x0 2) (b := x0 + 1) (j := (1 : Int)) (by omega)]
    refine ⟨⟨m_inR (by omega) (by omega), m_inR (by omega) (by omega)⟩, fun c1 => ?_, fun c1 => ?_⟩
    · exact (show False by omega).elim
    · have hS2 : Safe (mset (mset d x0 3 (d x0 2)) x0 1 3) := s_5_f1 hS1 hx0 (by omega)
      have y0 : st_52_8 x0 r8 d = mset (mset d x0 3 (d x0 2)) x0 1 3 := by simp only [st_52_8, if_neg (show ¬ d x0 2 < d (x0 + 1) 1 from Int.not_lt.mpr c0), if_neg (show ¬ d x0 2 < d (x0 + 1) 1 from Int.not_lt.mpr c1)]
      rw [y0] at h
      exact h (show ∀ b : Int, (b < x0 ∨ x0 < b) → (mset (mset d x0 3 (d x0 2)) x0 1 3) b = d b from fun b hb => (mset_ne (by omega)).trans (mset_ne (by omega))) hS2
  · refine k_90 hS (reB.tx hx0) (by omega) (fun e1 => ?_)
    refine t_52_33 ?_
    have w8 := r_5_f2 hS hx0
    have w9 := r_5_f3 hS hx0
    have w7 := r_7_f1 hS (reB.tx hx0)
    refine ⟨m_inR (by omega) (by omega), fun c1 => ?_, fun c1 => ?_⟩
    · have hS3 : Safe (mset d x0 3 (d x0 2)) := s_5_f3 hS hx0 (by omega)
      try rw [mset_ni (d := d) (a := x0) (i := (3 : Int)) (v := d x0 2) (b := x0) (j := (2 : Int)) (by omega)]
      try rw [mset_ni (d := d) (a := x0) (i := (3 : Int)) (v := d x0 2) (b := x0 + 1) (j := (1 : Int)) (by omega)]
      refine ⟨⟨m_inR (by omega) (by omega), m_inR (by omega) (by omega)⟩, fun c2 => ?_, fun c2 => ?_⟩
      · try rw [mset_ni (d := d) (a := x0) (i := (3 : Int)) (v := d x0 2) (b := x0) (j := (2 : Int)) (by omega)]
        refine k_91 hS3 (reB.tx hx0) (by omega) (fun e2 => ?_)
        refine t_52_90 ?_
        have w8 := r_5_f2 hS3 hx0
        have w9 := r_5_f3 hS3 hx0
        have w7 := r_7_f1 hS3 (reB.tx hx0)
        refine ⟨m_inR (by omega) (by omega), fun c3 => ?_, fun c3 => ?_⟩
        · try rw [mset_ni (d := d) (a := x0) (i := (3 : Int)) (v := d x0 2) (b := x0) (j := (2 : Int)) (by omega)]
          refine k_92 hS3 (reB.tx hx0) (by omega) (fun e3 => ?_)
          refine t_52_111 ?_
          have w8 := r_5_f2 hS3 hx0
          have w9 := r_5_f3 hS3 hx0
          have w7 := r_7_f1 hS3 (reB.tx hx0)
          refine ⟨m_inR (by omega) (by omega), fun c4 => ?_, fun c4 => ?_⟩
          · try rw [mset_ni (d := d) (a := x0) (i := (3 : Int)) (v := d x0 2) (b := x0) (j := (2 : Int)) (by omega)]
            try rw [mset_ne (d := d) (a := x0) (i := (3 : Int)) (v := d x0 2) (b := x0 + 1 + 1) (by omega)]
            have q3 := r_7_1 hS (reB.tx hx0) (d x0 2)
            refine ⟨by omega, ⟨m_inR (by omega) (by omega), m_inR (by omega) (by omega)⟩, fun c5 => ?_, fun c5 => ?_⟩
            · have hS4 : Safe (mset (mset d x0 3 (d x0 2)) x0 1 4) := s_5_f1 hS3 hx0 (by omega)
              try rw [mset_ni (d := mset d x0 3 (d x0 2)) (a := x0) (i := (1 : Int)) (v := (4 : Int)) (b := x0) (j := (3 : Int)) (by omega)]
              try rw [mset_eq (d := d) (a := x0) (i := (3 : Int)) (v := d x0 2)]
              have hS5 : Safe (mset (mset (mset d x0 3 (d x0 2)) x0 1 4) x0 3 ((d x0 2) + 1)) := s_5_f3 hS4 hx0 (by omega)
              have y0 : st_52_8 x0 r8 d = mset (mset (mset d x0 3 (d x0 2)) x0 1 4) x0 3 ((d x0 2) + 1) := by simp only [st_52_8, if_pos (show d x0 2 < d (x0 + 1) 1 from c0), if_pos (show v_90 (x0 + 1) (d x0 2) d = 0 from c1), if_pos (show d x0 2 < d (x0 + 1) 1 from c2), if_pos (show v_91 (x0 + 1) (d x0 2) (mset d x0 3 (d x0 2)) = 0 from c3), if_pos (show v_92 (x0 + 1) (d x0 2) (mset d x0 3 (d x0 2)) = 0 from c4), if_neg (show ¬ d (x0 + 1 + 1) (d x0 2) = 59 from c5)]
              rw [y0] at h
              exact h (show ∀ b : Int, (b < x0 ∨ x0 < b) → (mset (mset (mset d x0 3 (d x0 2)) x0 1 4) x0 3 ((d x0 2) + 1)) b = d b from fun b hb => (mset_ne (by omega)).trans ((mset_ne (by omega)).trans (mset_ne (by omega)))) hS5
            · have hS6 : Safe (mset (mset d x0 3 (d x0 2)) x0 1 2) := s_5_f1 hS3 hx0 (by omega)
              try rw [mset_ni (d := mset d x0 3 (d x0 2)) (a := x0) (i := (1 : Int)) (v := (2 : Int)) (b := x0) (j := (3 : Int)) (by omega)]
              try rw [mset_eq (d := d) (a := x0) (i := (3 : Int)) (v := d x0 2)]
              have hS7 : Safe (mset (mset (mset d x0 3 (d x0 2)) x0 1 2) x0 3 ((d x0 2) + 1)) := s_5_f3 hS6 hx0 (by omega)
              have y0 : st_52_8 x0 r8 d = mset (mset (mset d x0 3 (d x0 2)) x0 1 2) x0 3 ((d x0 2) + 1) := by simp only [st_52_8, if_pos (show d x0 2 < d (x0 + 1) 1 from c0), if_pos (show v_90 (x0 + 1) (d x0 2) d = 0 from c1), if_pos (show d x0 2 < d (x0 + 1) 1 from c2), if_pos (show v_91 (x0 + 1) (d x0 2) (mset d x0 3 (d x0 2)) = 0 from c3), if_pos (show v_92 (x0 + 1) (d x0 2) (mset d x0 3 (d x0 2)) = 0 from c4), if_pos (show d (x0 + 1 + 1) (d x0 2) = 59 from c5)]
              rw [y0] at h
              exact h (show ∀ b : Int, (b < x0 ∨ x0 < b) → (mset (mset (mset d x0 3 (d x0 2)) x0 1 2) x0 3 ((d x0 2) + 1)) b = d b from fun b hb => (mset_ne (by omega)).trans ((mset_ne (by omega)).trans (mset_ne (by omega)))) hS7
          · have q4 : (mset d x0 3 (d x0 2)) x0 3 = d x0 2 := mset_eq
            have q5 : (mset d x0 3 (d x0 2)) x0 2 = d x0 2 := mset_ni (by omega)
            refine k_54 hS3 hx0 (by omega) (fun F1 hS8 => ?_)
            refine t_52_118 ?_
            have w8 := r_5_f2 hS8 hx0
            have w9 := r_5_f3 hS8 hx0
            have w7 := r_7_f1 hS8 (reB.tx hx0)
            have y0 : st_52_8 x0 r8 d = g_54 x0 (mset d x0 3 (d x0 2)) := by simp only [st_52_8, if_pos (show d x0 2 < d (x0 + 1) 1 from c0), if_pos (show v_90 (x0 + 1) (d x0 2) d = 0 from c1), if_pos (show d x0 2 < d (x0 + 1) 1 from c2), if_pos (show v_91 (x0 + 1) (d x0 2) (mset d x0 3 (d x0 2)) = 0 from c3), if_neg (show ¬ v_92 (x0 + 1) (d x0 2) (mset d x0 3 (d x0 2)) = 0 from c4)]
            rw [y0] at h
            exact h (show ∀ b : Int, (b < x0 ∨ x0 < b) → (g_54 x0 (mset d x0 3 (d x0 2))) b = d b from fun b hb => (F1 b (by omega)).trans (mset_ne (by omega))) hS8
        · refine k_53 hS3 hx0 (fun F2 hS9 => ?_)
          refine t_52_97 ?_
          have w8 := r_5_f2 hS9 hx0
          have w9 := r_5_f3 hS9 hx0
          have w7 := r_7_f1 hS9 (reB.tx hx0)
          have y0 : st_52_8 x0 r8 d = g_53 x0 (mset d x0 3 (d x0 2)) := by simp only [st_52_8, if_pos (show d x0 2 < d (x0 + 1) 1 from c0), if_pos (show v_90 (x0 + 1) (d x0 2) d = 0 from c1), if_pos (show d x0 2 < d (x0 + 1) 1 from c2), if_neg (show ¬ v_91 (x0 + 1) (d x0 2) (mset d x0 3 (d x0 2)) = 0 from c3)]
          rw [y0] at h
          exact h (show ∀ b : Int, (b < x0 ∨ x0 < b) → (g_53 x0 (mset d x0 3 (d x0 2))) b = d b from fun b hb => (F2 b (by omega)).trans (mset_ne (by omega))) hS9
      · exact (show False by omega).elim
    · have hS10 : Safe (mset d x0 2 ((d x0 2) + 1)) := s_5_f2 hS hx0 (by omega)
      have q6 := r_5_f2 hS10 hx0
      have q7 : (mset d x0 2 ((d x0 2) + 1)) x0 2 = (d x0 2) + 1 := mset_eq
      refine ih8   (mset d x0 2 ((d x0 2) + 1)) hS10 (by omega) (by omega) ?_
      intro F hS_
      have y0 : st_52_8 x0 r8 d = r8 (mset d x0 2 ((d x0 2) + 1)) := by simp only [st_52_8, if_pos (show d x0 2 < d (x0 + 1) 1 from c0), if_neg (show ¬ v_90 (x0 + 1) (d x0 2) d = 0 from c1)]
      rw [y0] at h
      exact h (fun b hb => (F b hb).trans ((show ∀ b : Int, (b < x0 ∨ x0 < b) → (mset d x0 2 ((d x0 2) + 1)) b = d b from fun b hb => mset_ne (by omega)) b hb)) hS_
theorem l_52_8 {E : mO × tW} {K : tK} {x0 : Int} (hx0 : reB x0) : ∀ (n : Nat) (d : mD), Safe d → 1000 - d x0 2 ≤ (n : Int) → ((∀ b : Int, (b < x0 ∨ x0 < b) → (lp_52_8 x0 n d) b = d b) → Safe (lp_52_8 x0 n d) → K (.inl none) (lp_52_8 x0 n d)) → tRun E 52 (8, [.inr (5, x0)], [], 0, 0, d) K := by
  intro n
  induction n with
  | zero =>
    intro   d hS  hm  h
    exact ls_52_8 hx0 0 _ (fun   _ _  m0 m1 _ => absurd m1 (by omega))   d hS  hm  h
  | succ n ih =>
    intro   d hS  hm  h
    exact ls_52_8 hx0 ((n + 1 : Nat) : Int) _ (fun   d hS   m0 m1 h => ih   d hS  (by omega)  h)   d hS  hm  h
def g_52 (x0 : Int) (d : mD) : mD := lp_52_8 x0 (1000 - (mset d x0 2 (d x0 3)) x0 2 : Int).toNat (mset d x0 2 (d x0 3))
theorem k_52 {E : mO × tW} {K : tK} {d : mD} {x0 : Int} (hS : Safe d) (hx0 : reB x0) (h : (∀ b : Int, (b < x0 ∨ x0 < b) → (g_52 x0 d) b = d b) → Safe (g_52 x0 d) → K (.inl none) (g_52 x0 d)) : tCall E 52 [.inr (5, x0)] d K := by
  refine t_52_0 ?_
  have w8 := r_5_f2 hS hx0
  have w9 := r_5_f3 hS hx0
  have w7 := r_7_f1 hS (reB.tx hx0)
  have q8 := r_5_f3 hS hx0
  have hS11 : Safe (mset d x0 2 (d x0 3)) := s_5_f2 hS hx0 (by omega)
  have q9 := r_5_f2 hS11 hx0
  have q10 : (mset d x0 2 (d x0 3)) x0 2 = d x0 3 := mset_eq
  refine l_52_8 hx0 (1000 - (mset d x0 2 (d x0 3)) x0 2 : Int).toNat   (mset d x0 2 (d x0 3)) hS11 (by omega) ?_
  intro F hS_
  have y0 : g_52 x0 d = lp_52_8 x0 (1000 - (mset d x0 2 (d x0 3)) x0 2 : Int).toNat (mset d x0 2 (d x0 3)) := by simp only [g_52]
  rw [y0] at h
  exact h (fun b hb => (F b hb).trans ((show ∀ b : Int, (b < x0 ∨ x0 < b) → (mset d x0 2 (d x0 3)) b = d b from fun b hb => mset_ne (by omega)) b hb)) hS_
def g_51 (x0 : Int) (d : mD) : mD := g_52 x0 (mset d x0 3 0)
theorem k_51 {E : mO × tW} {K : tK} {d : mD} {x0 : Int} (hS : Safe d) (hx0 : reB x0) (h : (∀ b : Int, (b < x0 ∨ x0 < b) → (g_51 x0 d) b = d b) → Safe (g_51 x0 d) → K (.inl none) (g_51 x0 d)) : tCall E 51 [.inr (5, x0)] d K := by
  refine t_51_0 ?_
  have w8 := r_5_f2 hS hx0
  have w9 := r_5_f3 hS hx0
  have w7 := r_7_f1 hS (reB.tx hx0)
  have hS1 : Safe (mset d x0 3 0) := s_5_f3 hS hx0 (by omega)
  refine k_52 hS1 hx0 (fun F1 hS2 => ?_)
  refine t_51_9 ?_
  have w8 := r_5_f2 hS2 hx0
  have w9 := r_5_f3 hS2 hx0
  have w7 := r_7_f1 hS2 (reB.tx hx0)
  have y0 : g_51 x0 d = g_52 x0 (mset d x0 3 0) := by simp only [g_51]
  rw [y0] at h
  exact h (show ∀ b : Int, (b < x0 ∨ x0 < b) → (g_52 x0 (mset d x0 3 0)) b = d b from fun b hb => (F1 b (by omega)).trans (mset_ne (by omega))) hS2
def v_56 (x0 : Int) (d : mD) : Int := if d x0 1 = 0 then v_93 (x0 + 1) (d x0 2) (d x0 3) d else (-1)
theorem k_56 {E : mO × tW} {K : tK} {d : mD} {x0 : Int} (hS : Safe d) (hx0 : reB x0) (h : (-1 ≤ (v_56 x0 d) ∧ (v_56 x0 d) ≤ 1073741823) → K (.inl (some (0, (v_56 x0 d)))) d) : tCall E 56 [.inr (5, x0)] d K := by
  refine t_56_0 ?_
  have w8 := r_5_f2 hS hx0
  have w9 := r_5_f3 hS hx0
  have w7 := r_7_f1 hS (reB.tx hx0)
  have q1 := r_5_f1 hS hx0
  refine ⟨m_inR (by omega) (by omega), fun c0 => ?_, fun c0 => ?_⟩
  · have y0 : v_56 x0 d = (-1) := by simp only [v_56, if_neg (show ¬ d x0 1 = 0 from c0)]
    rw [y0] at h
    exact h (show -1 ≤ ((-1 : Int)) ∧ ((-1 : Int)) ≤ 1073741823 from (by omega))
  · have q2 := r_5_f2 hS hx0
    have q3 := r_5_f3 hS hx0
    refine k_93 hS (reB.tx hx0) (by omega) (by omega) (fun e1 => ?_)
    refine t_56_22 ?_
    have w8 := r_5_f2 hS hx0
    have w9 := r_5_f3 hS hx0
    have w7 := r_7_f1 hS (reB.tx hx0)
    have y0 : v_56 x0 d = v_93 (x0 + 1) (d x0 2) (d x0 3) d := by simp only [v_56, if_pos (show d x0 1 = 0 from c0)]
    rw [y0] at h
    exact h (show -1 ≤ (v_93 (x0 + 1) (d x0 2) (d x0 3) d) ∧ (v_93 (x0 + 1) (d x0 2) (d x0 3) d) ≤ 1073741823 from (by omega))
