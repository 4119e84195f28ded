/-! ===== a World is made ===== -/
-- k of its rows stand
def WN (b : Int) (G0 : mG) (d0 : mD) (k : Nat) (G : mG) (d : mD) : Prop := G.2.2 = b + 1 + (k : Int) ∧ G.1 b = 13 ∧ (∀ j : Nat, j < k → G.1 (b + 1 + (j : Int)) = (tk (tpy (840 + j)) : Int) ∧ G.2.1 (b + 1 + (j : Int)) = tl (tpy (840 + j)) ∧ d b (8 + (j : Int)) = b + 1 + (j : Int) ∧ ∀ i, d (b + 1 + (j : Int)) i = 0) ∧ (∀ f : Int, 0 ≤ f → f < 8 → d b f = 0) ∧ (∀ a, a < b ∨ b + 1 + (k : Int) ≤ a → G.1 a = G0.1 a ∧ G.2.1 a = G0.2.1 a) ∧ ∀ a, a < b → d a = d0 a
theorem wn_next {b : Int} {G0 : mG} {d0 : mD} {k : Nat} {G : mG} {d : mD} (hb : 901 ≤ b) (h : WN b G0 d0 k G d) {kd n : Int} (h1 : kd = (tk (tpy (840 + k)) : Int)) (h2 : n = tl (tpy (840 + k))) : WN b G0 d0 (k + 1) (mkind G.1 G.2.2 kd, mkind G.2.1 G.2.2 n, mnxt G.2.2) (mset (mfill d G.2.2 0) b (8 + (k : Int)) G.2.2) := by
  obtain ⟨a1, a2, a3, a4, a5, a6⟩ := h
  refine ⟨?_, ?_, fun j hj => ?_, fun f f0 f1 => ?_, fun a ha => ?_, fun a ha => ?_⟩
  · show mnxt G.2.2 = _
    unfold mnxt
    rw [if_neg (by omega), if_neg (by omega)]
    omega
  · show (if b = G.2.2 then _ else G.1 b) = _
    rw [if_neg (by omega)]
    exact a2
  · show (if b + 1 + (j : Int) = G.2.2 then _ else G.1 _) = _ ∧ (if b + 1 + (j : Int) = G.2.2 then _ else G.2.1 _) = _ ∧ _
    rcases Nat.lt_or_ge j k with c | c
    · obtain ⟨b1, b2, b3, b4⟩ := a3 j c
      rw [if_neg (by omega), if_neg (by omega)]
      refine ⟨b1, b2, ?_, fun i => ?_⟩
      · unfold mset mfill
        rw [if_neg (by omega), if_neg (by omega)]
        exact b3
      · unfold mset mfill
        rw [if_neg (by omega), if_neg (by omega)]
        exact b4 i
    · have e : j = k := by omega
      subst e
      rw [if_pos (by omega), if_pos (by omega)]
      refine ⟨h1, h2, ?_, fun i => ?_⟩
      · unfold mset
        rw [if_pos ⟨rfl, rfl⟩]
        exact a1
      · unfold mset mfill
        rw [if_neg (by omega), if_pos (by omega)]
  · unfold mset mfill
    rw [if_neg (by omega), if_neg (by omega)]
    exact a4 f f0 f1
  · show (if a = G.2.2 then _ else G.1 a) = _ ∧ (if a = G.2.2 then _ else G.2.1 a) = _
    rw [if_neg (by omega), if_neg (by omega)]
    exact a5 a (by omega)
  · funext i
    unfold mset mfill
    rw [if_neg (by omega), if_neg (by omega), a6 a ha]
theorem wn_ob {b : Int} {G0 : mG} {d0 : mD} {k : Nat} {G : mG} {d : mD} (h : WN b G0 d0 k G d) {kd : Int} : mkind G.1 G.2.2 kd b = 13 := by
  unfold mkind
  rw [if_neg (by have := h.1; omega)]
  exact h.2.1
theorem wn0 {O : mO} {K : mK} {b : Int} {G0 : mG} {d0 : mD} {G : mG} {d : mD} (hb : 901 ≤ b) (h : WN b G0 d0 0 G d) (hk : ∀ G d, WN b G0 d0 1 G d → mRun O 343 (11, [(3, b)], [], 1, 5, G, d) K) : mRun O 343 (4, [(3, b)], [], 0, 0, G, d) K := by
  refine mN_run 4 _ ?_
  refine And.intro ⟨by decide, by decide, by have := h.1; omega, by decide, by decide, by decide⟩ ?_
  refine And.intro ⟨wn_ob h, rfl⟩ ?_
  exact hk _ _ (wn_next hb h (k := 0) rfl rfl)
theorem wn1 {O : mO} {K : mK} {b : Int} {G0 : mG} {d0 : mD} {G : mG} {d : mD} (hb : 901 ≤ b) (h : WN b G0 d0 1 G d) (hk : ∀ G d, WN b G0 d0 2 G d → mRun O 343 (19, [(3, b)], [], 2, 11, G, d) K) : mRun O 343 (11, [(3, b)], [], 1, 5, G, d) K := by
  refine mN_run 4 _ ?_
  refine And.intro ⟨by decide, by decide, by have := h.1; omega, by decide, by decide, by decide⟩ ?_
  refine And.intro ⟨wn_ob h, rfl⟩ ?_
  exact hk _ _ (wn_next hb h (k := 1) rfl rfl)
theorem wn2 {O : mO} {K : mK} {b : Int} {G0 : mG} {d0 : mD} {G : mG} {d : mD} (hb : 901 ≤ b) (h : WN b G0 d0 2 G d) (hk : ∀ G d, WN b G0 d0 3 G d → mRun O 343 (27, [(3, b)], [], 3, 17, G, d) K) : mRun O 343 (19, [(3, b)], [], 2, 11, G, d) K := by
  refine mN_run 4 _ ?_
  refine And.intro ⟨by decide, by decide, by have := h.1; omega, by decide, by decide, by decide⟩ ?_
  refine And.intro ⟨wn_ob h, rfl⟩ ?_
  exact hk _ _ (wn_next hb h (k := 2) rfl rfl)
theorem wn3 {O : mO} {K : mK} {b : Int} {G0 : mG} {d0 : mD} {G : mG} {d : mD} (hb : 901 ≤ b) (h : WN b G0 d0 3 G d) (hk : ∀ G d, WN b G0 d0 4 G d → mRun O 343 (35, [(3, b)], [], 4, 23, G, d) K) : mRun O 343 (27, [(3, b)], [], 3, 17, G, d) K := by
  refine mN_run 4 _ ?_
  refine And.intro ⟨by decide, by decide, by have := h.1; omega, by decide, by decide, by decide⟩ ?_
  refine And.intro ⟨wn_ob h, rfl⟩ ?_
  exact hk _ _ (wn_next hb h (k := 3) rfl rfl)
theorem wn4 {O : mO} {K : mK} {b : Int} {G0 : mG} {d0 : mD} {G : mG} {d : mD} (hb : 901 ≤ b) (h : WN b G0 d0 4 G d) (hk : ∀ G d, WN b G0 d0 5 G d → mRun O 343 (43, [(3, b)], [], 5, 29, G, d) K) : mRun O 343 (35, [(3, b)], [], 4, 23, G, d) K := by
  refine mN_run 4 _ ?_
  refine And.intro ⟨by decide, by decide, by have := h.1; omega, by decide, by decide, by decide⟩ ?_
  refine And.intro ⟨wn_ob h, rfl⟩ ?_
  exact hk _ _ (wn_next hb h (k := 4) rfl rfl)
theorem wn5 {O : mO} {K : mK} {b : Int} {G0 : mG} {d0 : mD} {G : mG} {d : mD} (hb : 901 ≤ b) (h : WN b G0 d0 5 G d) (hk : ∀ G d, WN b G0 d0 6 G d → mRun O 343 (51, [(3, b)], [], 6, 35, G, d) K) : mRun O 343 (43, [(3, b)], [], 5, 29, G, d) K := by
  refine mN_run 4 _ ?_
  refine And.intro ⟨by decide, by decide, by have := h.1; omega, by decide, by decide, by decide⟩ ?_
  refine And.intro ⟨wn_ob h, rfl⟩ ?_
  exact hk _ _ (wn_next hb h (k := 5) rfl rfl)
theorem wn6 {O : mO} {K : mK} {b : Int} {G0 : mG} {d0 : mD} {G : mG} {d : mD} (hb : 901 ≤ b) (h : WN b G0 d0 6 G d) (hk : ∀ G d, WN b G0 d0 7 G d → mRun O 343 (59, [(3, b)], [], 7, 51, G, d) K) : mRun O 343 (51, [(3, b)], [], 6, 35, G, d) K := by
  refine mN_run 4 _ ?_
  refine And.intro ⟨by decide, by decide, by have := h.1; omega, by decide, by decide, by decide⟩ ?_
  refine And.intro ⟨wn_ob h, rfl⟩ ?_
  exact hk _ _ (wn_next hb h (k := 6) rfl rfl)
theorem wn7 {O : mO} {K : mK} {b : Int} {G0 : mG} {d0 : mD} {G : mG} {d : mD} (hb : 901 ≤ b) (h : WN b G0 d0 7 G d) (hk : ∀ G d, WN b G0 d0 8 G d → mRun O 343 (67, [(3, b)], [], 8, 57, G, d) K) : mRun O 343 (59, [(3, b)], [], 7, 51, G, d) K := by
  refine mN_run 4 _ ?_
  refine And.intro ⟨by decide, by decide, by have := h.1; omega, by decide, by decide, by decide⟩ ?_
  refine And.intro ⟨wn_ob h, rfl⟩ ?_
  exact hk _ _ (wn_next hb h (k := 7) rfl rfl)
theorem wn8 {O : mO} {K : mK} {b : Int} {G0 : mG} {d0 : mD} {G : mG} {d : mD} (hb : 901 ≤ b) (h : WN b G0 d0 8 G d) (hk : ∀ G d, WN b G0 d0 9 G d → mRun O 343 (76, [(3, b)], [], 9, 423, G, d) K) : mRun O 343 (67, [(3, b)], [], 8, 57, G, d) K := by
  refine mN_run 4 _ ?_
  refine And.intro ⟨by decide, by decide, by have := h.1; omega, by decide, by decide, by decide⟩ ?_
  refine And.intro ⟨wn_ob h, rfl⟩ ?_
  exact hk _ _ (wn_next hb h (k := 8) rfl rfl)
theorem wn9 {O : mO} {K : mK} {b : Int} {G0 : mG} {d0 : mD} {G : mG} {d : mD} (hb : 901 ≤ b) (h : WN b G0 d0 9 G d) (hk : ∀ G d, WN b G0 d0 10 G d → mRun O 343 (84, [(3, b)], [], 10, 484, G, d) K) : mRun O 343 (76, [(3, b)], [], 9, 423, G, d) K := by
  refine mN_run 4 _ ?_
  refine And.intro ⟨by decide, by decide, by have := h.1; omega, by decide, by decide, by decide⟩ ?_
  refine And.intro ⟨wn_ob h, rfl⟩ ?_
  exact hk _ _ (wn_next hb h (k := 9) rfl rfl)
theorem wn10 {O : mO} {K : mK} {b : Int} {G0 : mG} {d0 : mD} {G : mG} {d : mD} (hb : 901 ≤ b) (h : WN b G0 d0 10 G d) (hk : ∀ G d, WN b G0 d0 11 G d → mRun O 343 (92, [(3, b)], [], 11, 545, G, d) K) : mRun O 343 (84, [(3, b)], [], 10, 484, G, d) K := by
  refine mN_run 4 _ ?_
  refine And.intro ⟨by decide, by decide, by have := h.1; omega, by decide, by decide, by decide⟩ ?_
  refine And.intro ⟨wn_ob h, rfl⟩ ?_
  exact hk _ _ (wn_next hb h (k := 10) rfl rfl)
theorem wn11 {O : mO} {K : mK} {b : Int} {G0 : mG} {d0 : mD} {G : mG} {d : mD} (hb : 901 ≤ b) (h : WN b G0 d0 11 G d) (hk : ∀ G d, WN b G0 d0 12 G d → mRun O 343 (100, [(3, b)], [], 12, 606, G, d) K) : mRun O 343 (92, [(3, b)], [], 11, 545, G, d) K := by
  refine mN_run 4 _ ?_
  refine And.intro ⟨by decide, by decide, by have := h.1; omega, by decide, by decide, by decide⟩ ?_
  refine And.intro ⟨wn_ob h, rfl⟩ ?_
  exact hk _ _ (wn_next hb h (k := 11) rfl rfl)
theorem wn12 {O : mO} {K : mK} {b : Int} {G0 : mG} {d0 : mD} {G : mG} {d : mD} (hb : 901 ≤ b) (h : WN b G0 d0 12 G d) (hk : ∀ G d, WN b G0 d0 13 G d → mRun O 343 (108, [(3, b)], [], 13, 667, G, d) K) : mRun O 343 (100, [(3, b)], [], 12, 606, G, d) K := by
  refine mN_run 4 _ ?_
  refine And.intro ⟨by decide, by decide, by have := h.1; omega, by decide, by decide, by decide⟩ ?_
  refine And.intro ⟨wn_ob h, rfl⟩ ?_
  exact hk _ _ (wn_next hb h (k := 12) rfl rfl)
theorem wn13 {O : mO} {K : mK} {b : Int} {G0 : mG} {d0 : mD} {G : mG} {d : mD} (hb : 901 ≤ b) (h : WN b G0 d0 13 G d) (hk : ∀ G d, WN b G0 d0 14 G d → mRun O 343 (116, [(3, b)], [], 14, 728, G, d) K) : mRun O 343 (108, [(3, b)], [], 13, 667, G, d) K := by
  refine mN_run 4 _ ?_
  refine And.intro ⟨by decide, by decide, by have := h.1; omega, by decide, by decide, by decide⟩ ?_
  refine And.intro ⟨wn_ob h, rfl⟩ ?_
  exact hk _ _ (wn_next hb h (k := 13) rfl rfl)
theorem wn14 {O : mO} {K : mK} {b : Int} {G0 : mG} {d0 : mD} {G : mG} {d : mD} (hb : 901 ≤ b) (h : WN b G0 d0 14 G d) (hk : ∀ G d, WN b G0 d0 15 G d → mRun O 343 (124, [(3, b)], [], 15, 789, G, d) K) : mRun O 343 (116, [(3, b)], [], 14, 728, G, d) K := by
  refine mN_run 4 _ ?_
  refine And.intro ⟨by decide, by decide, by have := h.1; omega, by decide, by decide, by decide⟩ ?_
  refine And.intro ⟨wn_ob h, rfl⟩ ?_
  exact hk _ _ (wn_next hb h (k := 14) rfl rfl)
theorem wn15 {O : mO} {K : mK} {b : Int} {G0 : mG} {d0 : mD} {G : mG} {d : mD} (hb : 901 ≤ b) (h : WN b G0 d0 15 G d) (hk : ∀ G d, WN b G0 d0 16 G d → mRun O 343 (132, [(3, b)], [], 16, 850, G, d) K) : mRun O 343 (124, [(3, b)], [], 15, 789, G, d) K := by
  refine mN_run 4 _ ?_
  refine And.intro ⟨by decide, by decide, by have := h.1; omega, by decide, by decide, by decide⟩ ?_
  refine And.intro ⟨wn_ob h, rfl⟩ ?_
  exact hk _ _ (wn_next hb h (k := 15) rfl rfl)
theorem wn16 {O : mO} {K : mK} {b : Int} {G0 : mG} {d0 : mD} {G : mG} {d : mD} (hb : 901 ≤ b) (h : WN b G0 d0 16 G d) (hk : ∀ G d, WN b G0 d0 17 G d → mRun O 343 (140, [(3, b)], [], 17, 911, G, d) K) : mRun O 343 (132, [(3, b)], [], 16, 850, G, d) K := by
  refine mN_run 4 _ ?_
  refine And.intro ⟨by decide, by decide, by have := h.1; omega, by decide, by decide, by decide⟩ ?_
  refine And.intro ⟨wn_ob h, rfl⟩ ?_
  exact hk _ _ (wn_next hb h (k := 16) rfl rfl)
theorem wn17 {O : mO} {K : mK} {b : Int} {G0 : mG} {d0 : mD} {G : mG} {d : mD} (hb : 901 ≤ b) (h : WN b G0 d0 17 G d) (hk : ∀ G d, WN b G0 d0 18 G d → mRun O 343 (149, [(3, b)], [], 18, 21711, G, d) K) : mRun O 343 (140, [(3, b)], [], 17, 911, G, d) K := by
  refine mN_run 4 _ ?_
  refine And.intro ⟨by decide, by decide, by have := h.1; omega, by decide, by decide, by decide⟩ ?_
  refine And.intro ⟨wn_ob h, rfl⟩ ?_
  exact hk _ _ (wn_next hb h (k := 17) rfl rfl)
theorem wn18 {O : mO} {K : mK} {b : Int} {G0 : mG} {d0 : mD} {G : mG} {d : mD} (hb : 901 ≤ b) (h : WN b G0 d0 18 G d) (hk : ∀ G d, WN b G0 d0 19 G d → mRun O 343 (158, [(3, b)], [], 19, 21911, G, d) K) : mRun O 343 (149, [(3, b)], [], 18, 21711, G, d) K := by
  refine mN_run 4 _ ?_
  refine And.intro ⟨by decide, by decide, by have := h.1; omega, by decide, by decide, by decide⟩ ?_
  refine And.intro ⟨wn_ob h, rfl⟩ ?_
  exact hk _ _ (wn_next hb h (k := 18) rfl rfl)
theorem wn19 {O : mO} {K : mK} {b : Int} {G0 : mG} {d0 : mD} {G : mG} {d : mD} (hb : 901 ≤ b) (h : WN b G0 d0 19 G d) (hk : ∀ G d, WN b G0 d0 20 G d → mRun O 343 (167, [(3, b)], [], 20, 22111, G, d) K) : mRun O 343 (158, [(3, b)], [], 19, 21911, G, d) K := by
  refine mN_run 4 _ ?_
  refine And.intro ⟨by decide, by decide, by have := h.1; omega, by decide, by decide, by decide⟩ ?_
  refine And.intro ⟨wn_ob h, rfl⟩ ?_
  exact hk _ _ (wn_next hb h (k := 19) rfl rfl)
theorem wn20 {O : mO} {K : mK} {b : Int} {G0 : mG} {d0 : mD} {G : mG} {d : mD} (hb : 901 ≤ b) (h : WN b G0 d0 20 G d) (hk : ∀ G d, WN b G0 d0 21 G d → mRun O 343 (176, [(3, b)], [], 21, 22311, G, d) K) : mRun O 343 (167, [(3, b)], [], 20, 22111, G, d) K := by
  refine mN_run 4 _ ?_
  refine And.intro ⟨by decide, by decide, by have := h.1; omega, by decide, by decide, by decide⟩ ?_
  refine And.intro ⟨wn_ob h, rfl⟩ ?_
  exact hk _ _ (wn_next hb h (k := 20) rfl rfl)
theorem wn21 {O : mO} {K : mK} {b : Int} {G0 : mG} {d0 : mD} {G : mG} {d : mD} (hb : 901 ≤ b) (h : WN b G0 d0 21 G d) (hk : ∀ G d, WN b G0 d0 22 G d → mRun O 343 (185, [(3, b)], [], 22, 22511, G, d) K) : mRun O 343 (176, [(3, b)], [], 21, 22311, G, d) K := by
  refine mN_run 4 _ ?_
  refine And.intro ⟨by decide, by decide, by have := h.1; omega, by decide, by decide, by decide⟩ ?_
  refine And.intro ⟨wn_ob h, rfl⟩ ?_
  exact hk _ _ (wn_next hb h (k := 21) rfl rfl)
theorem wn22 {O : mO} {K : mK} {b : Int} {G0 : mG} {d0 : mD} {G : mG} {d : mD} (hb : 901 ≤ b) (h : WN b G0 d0 22 G d) (hk : ∀ G d, WN b G0 d0 23 G d → mRun O 343 (194, [(3, b)], [], 23, 22711, G, d) K) : mRun O 343 (185, [(3, b)], [], 22, 22511, G, d) K := by
  refine mN_run 4 _ ?_
  refine And.intro ⟨by decide, by decide, by have := h.1; omega, by decide, by decide, by decide⟩ ?_
  refine And.intro ⟨wn_ob h, rfl⟩ ?_
  exact hk _ _ (wn_next hb h (k := 22) rfl rfl)
theorem wn23 {O : mO} {K : mK} {b : Int} {G0 : mG} {d0 : mD} {G : mG} {d : mD} (hb : 901 ≤ b) (h : WN b G0 d0 23 G d) (hk : ∀ G d, WN b G0 d0 24 G d → mRun O 343 (203, [(3, b)], [], 24, 22911, G, d) K) : mRun O 343 (194, [(3, b)], [], 23, 22711, G, d) K := by
  refine mN_run 4 _ ?_
  refine And.intro ⟨by decide, by decide, by have := h.1; omega, by decide, by decide, by decide⟩ ?_
  refine And.intro ⟨wn_ob h, rfl⟩ ?_
  exact hk _ _ (wn_next hb h (k := 23) rfl rfl)
theorem wn24 {O : mO} {K : mK} {b : Int} {G0 : mG} {d0 : mD} {G : mG} {d : mD} (hb : 901 ≤ b) (h : WN b G0 d0 24 G d) (hk : ∀ G d, WN b G0 d0 25 G d → mRun O 343 (212, [(3, b)], [], 25, 23111, G, d) K) : mRun O 343 (203, [(3, b)], [], 24, 22911, G, d) K := by
  refine mN_run 4 _ ?_
  refine And.intro ⟨by decide, by decide, by have := h.1; omega, by decide, by decide, by decide⟩ ?_
  refine And.intro ⟨wn_ob h, rfl⟩ ?_
  exact hk _ _ (wn_next hb h (k := 24) rfl rfl)
theorem wn25 {O : mO} {K : mK} {b : Int} {G0 : mG} {d0 : mD} {G : mG} {d : mD} (hb : 901 ≤ b) (h : WN b G0 d0 25 G d) (hk : ∀ G d, WN b G0 d0 26 G d → mRun O 343 (221, [(3, b)], [], 26, 23311, G, d) K) : mRun O 343 (212, [(3, b)], [], 25, 23111, G, d) K := by
  refine mN_run 4 _ ?_
  refine And.intro ⟨by decide, by decide, by have := h.1; omega, by decide, by decide, by decide⟩ ?_
  refine And.intro ⟨wn_ob h, rfl⟩ ?_
  exact hk _ _ (wn_next hb h (k := 25) rfl rfl)
theorem wn26 {O : mO} {K : mK} {b : Int} {G0 : mG} {d0 : mD} {G : mG} {d : mD} (hb : 901 ≤ b) (h : WN b G0 d0 26 G d) (hk : ∀ G d, WN b G0 d0 27 G d → mRun O 343 (230, [(3, b)], [], 27, 23511, G, d) K) : mRun O 343 (221, [(3, b)], [], 26, 23311, G, d) K := by
  refine mN_run 4 _ ?_
  refine And.intro ⟨by decide, by decide, by have := h.1; omega, by decide, by decide, by decide⟩ ?_
  refine And.intro ⟨wn_ob h, rfl⟩ ?_
  exact hk _ _ (wn_next hb h (k := 26) rfl rfl)
theorem wn_all {O : mO} {K : mK} {b : Int} {G0 : mG} {d0 : mD} {G : mG} {d : mD} (hb : 901 ≤ b) (h : WN b G0 d0 0 G d) (hk : ∀ G d, WN b G0 d0 27 G d → mRun O 343 (230, [(3, b)], [], 27, 23511, G, d) K) : mRun O 343 (4, [(3, b)], [], 0, 0, G, d) K :=
  wn0 hb h (fun _ _ h1 => wn1 hb h1 (fun _ _ h2 => wn2 hb h2 (fun _ _ h3 => wn3 hb h3 (fun _ _ h4 => wn4 hb h4 (fun _ _ h5 => wn5 hb h5 (fun _ _ h6 => wn6 hb h6 (fun _ _ h7 => wn7 hb h7 (fun _ _ h8 => wn8 hb h8 (fun _ _ h9 => wn9 hb h9 (fun _ _ h10 => wn10 hb h10 (fun _ _ h11 => wn11 hb h11 (fun _ _ h12 => wn12 hb h12 (fun _ _ h13 => wn13 hb h13 (fun _ _ h14 => wn14 hb h14 (fun _ _ h15 => wn15 hb h15 (fun _ _ h16 => wn16 hb h16 (fun _ _ h17 => wn17 hb h17 (fun _ _ h18 => wn18 hb h18 (fun _ _ h19 => wn19 hb h19 (fun _ _ h20 => wn20 hb h20 (fun _ _ h21 => wn21 hb h21 (fun _ _ h22 => wn22 hb h22 (fun _ _ h23 => wn23 hb h23 (fun _ _ h24 => wn24 hb h24 (fun _ _ h25 => wn25 hb h25 (fun _ _ h26 => wn26 hb h26 (fun _ _ h27 => hk _ _ h27)))))))))))))))))))))))))))
theorem world_init {O : mO} {K : mK} {b : Int} {G : mG} {d : mD} (hb : 901 ≤ b) (h0 : G.1 b = 13) (hn : G.2.2 = b + 1) (hf : ∀ f : Int, 0 ≤ f → f < 8 → d b f = 0) (hk : ∀ G' d', WN b G d 27 G' d' → K (.inl none) G' d') : mCall O 343 [(3, b)] G d K := by
  refine mN_run 2 _ ?_
  refine And.intro ⟨by omega, by decide, by decide⟩ ?_
  refine wn_all hb (G0 := G) (d0 := d) ⟨by rw [hn]; omega, h0, fun j hj => absurd hj (Nat.not_lt_zero j), hf, fun _ _ => ⟨rfl, rfl⟩, fun _ _ => rfl⟩ (fun G' d' h' => ?_)
  refine mN_run 1 _ ?_
  exact And.intro rfl (hk _ _ h')
/-! ===== the cells' shape when new cells are made ===== -/
def WT (W : tW) (nx : Int) : Prop := ∀ a, nx ≤ a → W.1 a = -1
theorem tok_up {W W' : tW} {nx : Int} (hf : WT W nx) (hs : ∀ a, a < nx → W'.1 a = W.1 a ∧ W'.2 a = W.2 a) {v : tV} (h : tokV W v) : tokV W' v := by
  match v, h with
  | .inl _, _ => exact trivial
  | .inr (t, a), h =>
    obtain ⟨h1, h2, h3⟩ := h
    have ha : a < nx := by
      rcases Int.lt_or_le a nx with c | c
      · exact c
      · have := hf a c
        omega
    obtain ⟨e1, e2⟩ := hs a ha
    exact ⟨h1, by rw [e1]; exact h2, fun q => by rw [e2]; exact h3 q⟩
theorem tok_dn {W W' : tW} {nx : Int} (hs : ∀ a, a < nx → W'.1 a = W.1 a ∧ W'.2 a = W.2 a) {t : Nat} {a : Int} (ha : a < nx) (h : tokV W' (.inr (t, a))) : tokV W (.inr (t, a)) := by
  obtain ⟨h1, h2, h3⟩ := h
  obtain ⟨e1, e2⟩ := hs a ha
  exact ⟨h1, by rw [← e1]; exact h2, fun q => by rw [← e2]; exact h3 q⟩
theorem tSh_up {W W' : tW} {nx : Int} {d d' : mD} (h : tSh W d) (hf : WT W nx) (hs : ∀ a, a < nx → W'.1 a = W.1 a ∧ W'.2 a = W.2 a) (hd : ∀ a, a < nx → d' a = d a)
    (h1 : ∀ (a : Int) (g : Nat), nx ≤ a → 0 ≤ a → g / 64 < 14 → W'.1 a = ((g / 64 : Nat) : Int) → mfty g = 4 → d' a ((g % 64 : Nat) : Int) = a + tpo g ∧ tokV W' (.inr (tpy g, a + tpo g)))
    (h2 : ∀ a, nx ≤ a → W'.1 a < 200) : tSh W' d' := by
  refine ⟨fun a g h0 hg hW h4 => ?_, fun a t i hv ht i0 i1 => ?_⟩
  · rcases Int.lt_or_le a nx with c | c
    · rw [(hs a c).1] at hW
      obtain ⟨e1, e2⟩ := h.1 a g h0 hg hW h4
      exact ⟨by rw [hd a c]; exact e1, tok_up hf hs e2⟩
    · exact h1 a g c h0 hg hW h4
  · rcases Int.lt_or_le a nx with c | c
    · obtain ⟨e1, e2⟩ := h.2 a t i (tok_dn hs c hv) ht i0 i1
      exact ⟨by rw [hd a c]; exact e1, tok_up hf hs e2⟩
    · have e := hv.2.1
      have := h2 a c
      omega
-- a new row of numbers
theorem tSh_row {W : tW} {nx kd ln z : Int} {d : mD} (h : tSh W d) (hf : WT W nx) (hk : 100 ≤ kd ∧ kd < 200) : tSh (mkind W.1 nx kd, mkind W.2 nx ln) (mfill d nx z) := by
  refine tSh_up h hf (fun a ha => ?_) (fun a ha => ?_) (fun a g ha _ hg hW _ => ?_) (fun a ha => ?_)
  · show (if a = nx then _ else W.1 a) = _ ∧ (if a = nx then _ else W.2 a) = _
    rw [if_neg (by omega), if_neg (by omega)]
    exact ⟨rfl, rfl⟩
  · funext i
    unfold mfill
    rw [if_neg (by omega)]
  · have hW : (if a = nx then kd else W.1 a) = _ := hW
    split at hW
    · omega
    · have := hf a ha
      omega
  · show (if a = nx then kd else W.1 a) < 200
    split
    · omega
    · have := hf a ha
      omega
theorem WT_row {W : tW} {nx kd ln : Int} (hf : WT W nx) : WT (mkind W.1 nx kd, mkind W.2 nx ln) (nx + 1) := fun a ha => by
  show (if a = nx then kd else W.1 a) = -1
  rw [if_neg (by omega)]
  exact hf a (by omega)
theorem wtab1 : ∀ j, j < 27 → 100 ≤ tk (tpy (840 + j)) ∧ tk (tpy (840 + j)) < 200 := by decide
theorem wtab2 : ∀ f, f < 64 → mfty (832 + f) = 4 → 8 ≤ f ∧ f < 35 ∧ tpo (832 + f) = (f : Int) - 7 := by decide
-- a new World
theorem tSh_world {W : tW} {b : Int} {d0 d : mD} {G0 G : mG} {d1 : mD} (hb : 901 ≤ b) (h : tSh W d0) (hf : WT W b) (hG : ∀ a, ¬ a = b → G0.1 a = W.1 a ∧ G0.2.1 a = W.2 a) (hd1 : ∀ a, a < b → d1 a = d0 a) (hw : WN b G0 d1 27 G d) : tSh (G.1, G.2.1) d ∧ WT (G.1, G.2.1) (b + 28) ∧ G.2.2 = b + 28 := by
  obtain ⟨w1, w2, w3, w4, w5, w6⟩ := hw
  have hi : ∀ a, b + 28 ≤ a → G.1 a = -1 := fun a ha => by
    rw [(w5 a (Or.inr (by omega))).1, (hG a (by omega)).1]
    exact hf a (by omega)
  have hm : ∀ a, b < a → a < b + 28 → ∃ j : Nat, j < 27 ∧ a = b + 1 + (j : Int) := fun a h1 h2 => ⟨(a - b - 1).toNat, by omega, by omega⟩
  refine ⟨tSh_up h hf (fun a ha => ?_) (fun a ha => ?_) (fun a g ha _ hg hW h4 => ?_) (fun a ha => ?_), hi, by rw [w1]; omega⟩
  · obtain ⟨e1, e2⟩ := w5 a (Or.inl ha)
    obtain ⟨e3, e4⟩ := hG a (by omega)
    exact ⟨by show G.1 a = _; rw [e1, e3], by show G.2.1 a = _; rw [e2, e4]⟩
  · rw [w6 a ha, hd1 a ha]
  · have hW : G.1 a = _ := hW
    by_cases e : a = b
    · subst e
      rw [w2] at hW
      have e9 : g / 64 = 13 := by omega
      have e8 : g = 832 + g % 64 := by omega
      rw [e8] at h4
      obtain ⟨q1, q2, q3⟩ := wtab2 (g % 64) (by omega) h4
      obtain ⟨b1, b2, b3, -⟩ := w3 (g % 64 - 8) (by omega)
      have e7 : tpo g = ((g % 64 : Nat) : Int) - 7 := by rw [← q3, ← e8]
      have e6 : (8 : Int) + ((g % 64 - 8 : Nat) : Int) = ((g % 64 : Nat) : Int) := by omega
      have e5 : a + 1 + ((g % 64 - 8 : Nat) : Int) = a + tpo g := by rw [e7]; omega
      have e4 : 840 + (g % 64 - 8) = g := by omega
      rw [e6, e5] at b3
      rw [e5, e4] at b1 b2
      exact ⟨b3, ⟨by omega, by omega⟩, b1, fun _ => b2⟩
    · rcases Int.lt_or_le a (b + 28) with c | c
      · obtain ⟨j, hj, rfl⟩ := hm a (by omega) c
        rw [(w3 j hj).1] at hW
        have := (wtab1 j hj).1
        omega
      · rw [hi a c] at hW
        omega
  · show G.1 a < 200
    by_cases e : a = b
    · rw [e, w2]
      decide
    · rcases Int.lt_or_le a (b + 28) with c | c
      · obtain ⟨j, hj, rfl⟩ := hm a (by omega) c
        rw [(w3 j hj).1]
        have := (wtab1 j hj).2
        omega
      · rw [hi a c]
        decide
/-! ===== pieces of the methods of World and Draws between cuts: printed by a program of mine ===== -/
theorem t_342_0 {E : mO × tW} {K : tK} {d : mD} {x0 x1 : Int}
  (h : (0 ≤ miushr ((mset d x0 0 (((d x0 0) * 1103515245) + 12345)) x0 0) 16 ∧ miushr ((mset d x0 0 (((d x0 0) * 1103515245) + 12345)) x0 0) 16 ≤ 2147483647 ∧ 0 < x1 ∧ x1 ≤ 2147483647) ∧ K (.inl (some (0, (miushr ((mset d x0 0 (((d x0 0) * 1103515245) + 12345)) x0 0) 16) % x1))) (mset d x0 0 (((d x0 0) * 1103515245) + 12345))) :
  tRun E 342 (0, [.inr (40, x0), .inl (0, x1)], [], 0, 0, d) K := tT_run (cut := [0]) 15 _ h
theorem t_344_0 {E : mO × tW} {K : tK} {d : mD} {x0 x1 : Int}
  (h : tCall E 345 [.inr (14, x1 + 1), .inr (14, x0 + 1)] (mset (mset (mset (mset (mset (mset (mset (mset d x0 0 (d x1 0)) x0 1 ((mset d x0 0 (d x1 0)) x1 1)) x0 2 ((mset (mset d x0 0 (d x1 0)) x0 1 ((mset d x0 0 (d x1 0)) x1 1)) x1 2)) x0 3 ((mset (mset (mset d x0 0 (d x1 0)) x0 1 ((mset d x0 0 (d x1 0)) x1 1)) x0 2 ((mset (mset d x0 0 (d x1 0)) x0 1 ((mset d x0 0 (d x1 0)) x1 1)) x1 2)) x1 3)) x0 4 ((mset (mset (mset (mset d x0 0 (d x1 0)) x0 1 ((mset d x0 0 (d x1 0)) x1 1)) x0 2 ((mset (mset d x0 0 (d x1 0)) x0 1 ((mset d x0 0 (d x1 0)) x1 1)) x1 2)) x0 3 ((mset (mset (mset d x0 0 (d x1 0)) x0 1 ((mset d x0 0 (d x1 0)) x1 1)) x0 2 ((mset (mset d x0 0 (d x1 0)) x0 1 ((mset d x0 0 (d x1 0)) x1 1)) x1 2)) x1 3)) x1 4)) x0 5 ((mset (mset (mset (mset (mset d x0 0 (d x1 0)) x0 1 ((mset d x0 0 (d x1 0)) x1 1)) x0 2 ((mset (mset d x0 0 (d x1 0)) x0 1 ((mset d x0 0 (d x1 0)) x1 1)) x1 2)) x0 3 ((mset (mset (mset d x0 0 (d x1 0)) x0 1 ((mset d x0 0 (d x1 0)) x1 1)) x0 2 ((mset (mset d x0 0 (d x1 0)) x0 1 ((mset d x0 0 (d x1 0)) x1 1)) x1 2)) x1 3)) x0 4 ((mset (mset (mset (mset d x0 0 (d x1 0)) x0 1 ((mset d x0 0 (d x1 0)) x1 1)) x0 2 ((mset (mset d x0 0 (d x1 0)) x0 1 ((mset d x0 0 (d x1 0)) x1 1)) x1 2)) x0 3 ((mset (mset (mset d x0 0 (d x1 0)) x0 1 ((mset d x0 0 (d x1 0)) x1 1)) x0 2 ((mset (mset d x0 0 (d x1 0)) x0 1 ((mset d x0 0 (d x1 0)) x1 1)) x1 2)) x1 3)) x1 4)) x1 5)) x0 6 ((mset (mset (mset (mset (mset (mset d x0 0 (d x1 0)) x0 1 ((mset d x0 0 (d x1 0)) x1 1)) x0 2 ((mset (mset d x0 0 (d x1 0)) x0 1 ((mset d x0 0 (d x1 0)) x1 1)) x1 2)) x0 3 ((mset (mset (mset d x0 0 (d x1 0)) x0 1 ((mset d x0 0 (d x1 0)) x1 1)) x0 2 ((mset (mset d x0 0 (d x1 0)) x0 1 ((mset d x0 0 (d x1 0)) x1 1)) x1 2)) x1 3)) x0 4 ((mset (mset (mset (mset d x0 0 (d x1 0)) x0 1 ((mset d x0 0 (d x1 0)) x1 1)) x0 2 ((mset (mset d x0 0 (d x1 0)) x0 1 ((mset d x0 0 (d x1 0)) x1 1)) x1 2)) x0 3 ((mset (mset (mset d x0 0 (d x1 0)) x0 1 ((mset d x0 0 (d x1 0)) x1 1)) x0 2 ((mset (mset d x0 0 (d x1 0)) x0 1 ((mset d x0 0 (d x1 0)) x1 1)) x1 2)) x1 3)) x1 4)) x0 5 ((mset (mset (mset (mset (mset d x0 0 (d x1 0)) x0 1 ((mset d x0 0 (d x1 0)) x1 1)) x0 2 ((mset (mset d x0 0 (d x1 0)) x0 1 ((mset d x0 0 (d x1 0)) x1 1)) x1 2)) x0 3 ((mset (mset (mset d x0 0 (d x1 0)) x0 1 ((mset d x0 0 (d x1 0)) x1 1)) x0 2 ((mset (mset d x0 0 (d x1 0)) x0 1 ((mset d x0 0 (d x1 0)) x1 1)) x1 2)) x1 3)) x0 4 ((mset (mset (mset (mset d x0 0 (d x1 0)) x0 1 ((mset d x0 0 (d x1 0)) x1 1)) x0 2 ((mset (mset d x0 0 (d x1 0)) x0 1 ((mset d x0 0 (d x1 0)) x1 1)) x1 2)) x0 3 ((mset (mset (mset d x0 0 (d x1 0)) x0 1 ((mset d x0 0 (d x1 0)) x1 1)) x0 2 ((mset (mset d x0 0 (d x1 0)) x0 1 ((mset d x0 0 (d x1 0)) x1 1)) x1 2)) x1 3)) x1 4)) x1 5)) x1 6)) x0 7 ((mset (mset (mset (mset (mset (mset (mset d x0 0 (d x1 0)) x0 1 ((mset d x0 0 (d x1 0)) x1 1)) x0 2 ((mset (mset d x0 0 (d x1 0)) x0 1 ((mset d x0 0 (d x1 0)) x1 1)) x1 2)) x0 3 ((mset (mset (mset d x0 0 (d x1 0)) x0 1 ((mset d x0 0 (d x1 0)) x1 1)) x0 2 ((mset (mset d x0 0 (d x1 0)) x0 1 ((mset d x0 0 (d x1 0)) x1 1)) x1 2)) x1 3)) x0 4 ((mset (mset (mset (mset d x0 0 (d x1 0)) x0 1 ((mset d x0 0 (d x1 0)) x1 1)) x0 2 ((mset (mset d x0 0 (d x1 0)) x0 1 ((mset d x0 0 (d x1 0)) x1 1)) x1 2)) x0 3 ((mset (mset (mset d x0 0 (d x1 0)) x0 1 ((mset d x0 0 (d x1 0)) x1 1)) x0 2 ((mset (mset d x0 0 (d x1 0)) x0 1 ((mset d x0 0 (d x1 0)) x1 1)) x1 2)) x1 3)) x1 4)) x0 5 ((mset (mset (mset (mset (mset d x0 0 (d x1 0)) x0 1 ((mset d x0 0 (d x1 0)) x1 1)) x0 2 ((mset (mset d x0 0 (d x1 0)) x0 1 ((mset d x0 0 (d x1 0)) x1 1)) x1 2)) x0 3 ((mset (mset (mset d x0 0 (d x1 0)) x0 1 ((mset d x0 0 (d x1 0)) x1 1)) x0 2 ((mset (mset d x0 0 (d x1 0)) x0 1 ((mset d x0 0 (d x1 0)) x1 1)) x1 2)) x1 3)) x0 4 ((mset (mset (mset (mset d x0 0 (d x1 0)) x0 1 ((mset d x0 0 (d x1 0)) x1 1)) x0 2 ((mset (mset d x0 0 (d x1 0)) x0 1 ((mset d x0 0 (d x1 0)) x1 1)) x1 2)) x0 3 ((mset (mset (mset d x0 0 (d x1 0)) x0 1 ((mset d x0 0 (d x1 0)) x1 1)) x0 2 ((mset (mset d x0 0 (d x1 0)) x0 1 ((mset d x0 0 (d x1 0)) x1 1)) x1 2)) x1 3)) x1 4)) x1 5)) x0 6 ((mset (mset (mset (mset (mset (mset d x0 0 (d x1 0)) x0 1 ((mset d x0 0 (d x1 0)) x1 1)) x0 2 ((mset (mset d x0 0 (d x1 0)) x0 1 ((mset d x0 0 (d x1 0)) x1 1)) x1 2)) x0 3 ((mset (mset (mset d x0 0 (d x1 0)) x0 1 ((mset d x0 0 (d x1 0)) x1 1)) x0 2 ((mset (mset d x0 0 (d x1 0)) x0 1 ((mset d x0 0 (d x1 0)) x1 1)) x1 2)) x1 3)) x0 4 ((mset (mset (mset (mset d x0 0 (d x1 0)) x0 1 ((mset d x0 0 (d x1 0)) x1 1)) x0 2 ((mset (mset d x0 0 (d x1 0)) x0 1 ((mset d x0 0 (d x1 0)) x1 1)) x1 2)) x0 3 ((mset (mset (mset d x0 0 (d x1 0)) x0 1 ((mset d x0 0 (d x1 0)) x1 1)) x0 2 ((mset (mset d x0 0 (d x1 0)) x0 1 ((mset d x0 0 (d x1 0)) x1 1)) x1 2)) x1 3)) x1 4)) x0 5 ((mset (mset (mset (mset (mset d x0 0 (d x1 0)) x0 1 ((mset d x0 0 (d x1 0)) x1 1)) x0 2 ((mset (mset d x0 0 (d x1 0)) x0 1 ((mset d x0 0 (d x1 0)) x1 1)) x1 2)) x0 3 ((mset (mset (mset d x0 0 (d x1 0)) x0 1 ((mset d x0 0 (d x1 0)) x1 1)) x0 2 ((mset (mset d x0 0 (d x1 0)) x0 1 ((mset d x0 0 (d x1 0)) x1 1)) x1 2)) x1 3)) x0 4 ((mset (mset (mset (mset d x0 0 (d x1 0)) x0 1 ((mset d x0 0 (d x1 0)) x1 1)) x0 2 ((mset (mset d x0 0 (d x1 0)) x0 1 ((mset d x0 0 (d x1 0)) x1 1)) x1 2)) x0 3 ((mset (mset (mset d x0 0 (d x1 0)) x0 1 ((mset d x0 0 (d x1 0)) x1 1)) x0 2 ((mset (mset d x0 0 (d x1 0)) x0 1 ((mset d x0 0 (d x1 0)) x1 1)) x1 2)) x1 3)) x1 4)) x1 5)) x1 6)) x1 7)) (tbk E 344 72 [.inr (41, x0), .inr (41, x1)] [] 0 0 K)) :
  tRun E 344 (0, [.inr (41, x0), .inr (41, x1)], [], 0, 0, d) K := tT_run (cut := [0, 75, 86, 97, 108, 119, 130, 141, 152, 163, 174, 185, 196, 207, 218, 229, 240, 251, 262, 273, 284, 295, 306, 317]) 37 _ h
theorem t_344_75 {E : mO × tW} {K : tK} {d : mD} {x0 x1 : Int}
  (h : tCall E 345 [.inr (15, x1 + 2), .inr (15, x0 + 2)] d (tbk E 344 83 [.inr (41, x0), .inr (41, x1)] [] 0 0 K)) :
  tRun E 344 (75, [.inr (41, x0), .inr (41, x1)], [], 0, 0, d) K := tT_run (cut := [0, 75, 86, 97, 108, 119, 130, 141, 152, 163, 174, 185, 196, 207, 218, 229, 240, 251, 262, 273, 284, 295, 306, 317]) 5 _ h
theorem t_344_86 {E : mO × tW} {K : tK} {d : mD} {x0 x1 : Int}
  (h : tCall E 345 [.inr (15, x1 + 3), .inr (15, x0 + 3)] d (tbk E 344 94 [.inr (41, x0), .inr (41, x1)] [] 0 0 K)) :
  tRun E 344 (86, [.inr (41, x0), .inr (41, x1)], [], 0, 0, d) K := tT_run (cut := [0, 75, 86, 97, 108, 119, 130, 141, 152, 163, 174, 185, 196, 207, 218, 229, 240, 251, 262, 273, 284, 295, 306, 317]) 5 _ h
theorem t_344_97 {E : mO × tW} {K : tK} {d : mD} {x0 x1 : Int}
  (h : tCall E 345 [.inr (15, x1 + 4), .inr (15, x0 + 4)] d (tbk E 344 105 [.inr (41, x0), .inr (41, x1)] [] 0 0 K)) :
  tRun E 344 (97, [.inr (41, x0), .inr (41, x1)], [], 0, 0, d) K := tT_run (cut := [0, 75, 86, 97, 108, 119, 130, 141, 152, 163, 174, 185, 196, 207, 218, 229, 240, 251, 262, 273, 284, 295, 306, 317]) 5 _ h
theorem t_344_108 {E : mO × tW} {K : tK} {d : mD} {x0 x1 : Int}
  (h : tCall E 345 [.inr (15, x1 + 5), .inr (15, x0 + 5)] d (tbk E 344 116 [.inr (41, x0), .inr (41, x1)] [] 0 0 K)) :
  tRun E 344 (108, [.inr (41, x0), .inr (41, x1)], [], 0, 0, d) K := tT_run (cut := [0, 75, 86, 97, 108, 119, 130, 141, 152, 163, 174, 185, 196, 207, 218, 229, 240, 251, 262, 273, 284, 295, 306, 317]) 5 _ h
theorem t_344_119 {E : mO × tW} {K : tK} {d : mD} {x0 x1 : Int}
  (h : tCall E 345 [.inr (15, x1 + 6), .inr (15, x0 + 6)] d (tbk E 344 127 [.inr (41, x0), .inr (41, x1)] [] 0 0 K)) :
  tRun E 344 (119, [.inr (41, x0), .inr (41, x1)], [], 0, 0, d) K := tT_run (cut := [0, 75, 86, 97, 108, 119, 130, 141, 152, 163, 174, 185, 196, 207, 218, 229, 240, 251, 262, 273, 284, 295, 306, 317]) 5 _ h
theorem t_344_130 {E : mO × tW} {K : tK} {d : mD} {x0 x1 : Int}
  (h : tCall E 345 [.inr (18, x1 + 7), .inr (18, x0 + 7)] d (tbk E 344 138 [.inr (41, x0), .inr (41, x1)] [] 0 0 K)) :
  tRun E 344 (130, [.inr (41, x0), .inr (41, x1)], [], 0, 0, d) K := tT_run (cut := [0, 75, 86, 97, 108, 119, 130, 141, 152, 163, 174, 185, 196, 207, 218, 229, 240, 251, 262, 273, 284, 295, 306, 317]) 5 _ h
theorem t_344_141 {E : mO × tW} {K : tK} {d : mD} {x0 x1 : Int}
  (h : tCall E 345 [.inr (42, x1 + 9), .inr (42, x0 + 9)] d (tbk E 344 149 [.inr (41, x0), .inr (41, x1)] [] 0 0 K)) :
  tRun E 344 (141, [.inr (41, x0), .inr (41, x1)], [], 0, 0, d) K := tT_run (cut := [0, 75, 86, 97, 108, 119, 130, 141, 152, 163, 174, 185, 196, 207, 218, 229, 240, 251, 262, 273, 284, 295, 306, 317]) 5 _ h
theorem t_344_152 {E : mO × tW} {K : tK} {d : mD} {x0 x1 : Int}
  (h : tCall E 345 [.inr (43, x1 + 10), .inr (43, x0 + 10)] d (tbk E 344 160 [.inr (41, x0), .inr (41, x1)] [] 0 0 K)) :
  tRun E 344 (152, [.inr (41, x0), .inr (41, x1)], [], 0, 0, d) K := tT_run (cut := [0, 75, 86, 97, 108, 119, 130, 141, 152, 163, 174, 185, 196, 207, 218, 229, 240, 251, 262, 273, 284, 295, 306, 317]) 5 _ h
theorem t_344_163 {E : mO × tW} {K : tK} {d : mD} {x0 x1 : Int}
  (h : tCall E 345 [.inr (43, x1 + 11), .inr (43, x0 + 11)] d (tbk E 344 171 [.inr (41, x0), .inr (41, x1)] [] 0 0 K)) :
  tRun E 344 (163, [.inr (41, x0), .inr (41, x1)], [], 0, 0, d) K := tT_run (cut := [0, 75, 86, 97, 108, 119, 130, 141, 152, 163, 174, 185, 196, 207, 218, 229, 240, 251, 262, 273, 284, 295, 306, 317]) 5 _ h
theorem t_344_174 {E : mO × tW} {K : tK} {d : mD} {x0 x1 : Int}
  (h : tCall E 345 [.inr (43, x1 + 12), .inr (43, x0 + 12)] d (tbk E 344 182 [.inr (41, x0), .inr (41, x1)] [] 0 0 K)) :
  tRun E 344 (174, [.inr (41, x0), .inr (41, x1)], [], 0, 0, d) K := tT_run (cut := [0, 75, 86, 97, 108, 119, 130, 141, 152, 163, 174, 185, 196, 207, 218, 229, 240, 251, 262, 273, 284, 295, 306, 317]) 5 _ h
theorem t_344_185 {E : mO × tW} {K : tK} {d : mD} {x0 x1 : Int}
  (h : tCall E 345 [.inr (43, x1 + 13), .inr (43, x0 + 13)] d (tbk E 344 193 [.inr (41, x0), .inr (41, x1)] [] 0 0 K)) :
  tRun E 344 (185, [.inr (41, x0), .inr (41, x1)], [], 0, 0, d) K := tT_run (cut := [0, 75, 86, 97, 108, 119, 130, 141, 152, 163, 174, 185, 196, 207, 218, 229, 240, 251, 262, 273, 284, 295, 306, 317]) 5 _ h
theorem t_344_196 {E : mO × tW} {K : tK} {d : mD} {x0 x1 : Int}
  (h : tCall E 345 [.inr (43, x1 + 14), .inr (43, x0 + 14)] d (tbk E 344 204 [.inr (41, x0), .inr (41, x1)] [] 0 0 K)) :
  tRun E 344 (196, [.inr (41, x0), .inr (41, x1)], [], 0, 0, d) K := tT_run (cut := [0, 75, 86, 97, 108, 119, 130, 141, 152, 163, 174, 185, 196, 207, 218, 229, 240, 251, 262, 273, 284, 295, 306, 317]) 5 _ h
theorem t_344_207 {E : mO × tW} {K : tK} {d : mD} {x0 x1 : Int}
  (h : tCall E 345 [.inr (43, x1 + 15), .inr (43, x0 + 15)] d (tbk E 344 215 [.inr (41, x0), .inr (41, x1)] [] 0 0 K)) :
  tRun E 344 (207, [.inr (41, x0), .inr (41, x1)], [], 0, 0, d) K := tT_run (cut := [0, 75, 86, 97, 108, 119, 130, 141, 152, 163, 174, 185, 196, 207, 218, 229, 240, 251, 262, 273, 284, 295, 306, 317]) 5 _ h
theorem t_344_218 {E : mO × tW} {K : tK} {d : mD} {x0 x1 : Int}
  (h : tCall E 345 [.inr (22, x1 + 19), .inr (22, x0 + 19)] d (tbk E 344 226 [.inr (41, x0), .inr (41, x1)] [] 0 0 K)) :
  tRun E 344 (218, [.inr (41, x0), .inr (41, x1)], [], 0, 0, d) K := tT_run (cut := [0, 75, 86, 97, 108, 119, 130, 141, 152, 163, 174, 185, 196, 207, 218, 229, 240, 251, 262, 273, 284, 295, 306, 317]) 5 _ h
theorem t_344_229 {E : mO × tW} {K : tK} {d : mD} {x0 x1 : Int}
  (h : tCall E 345 [.inr (22, x1 + 20), .inr (22, x0 + 20)] d (tbk E 344 237 [.inr (41, x0), .inr (41, x1)] [] 0 0 K)) :
  tRun E 344 (229, [.inr (41, x0), .inr (41, x1)], [], 0, 0, d) K := tT_run (cut := [0, 75, 86, 97, 108, 119, 130, 141, 152, 163, 174, 185, 196, 207, 218, 229, 240, 251, 262, 273, 284, 295, 306, 317]) 5 _ h
theorem t_344_240 {E : mO × tW} {K : tK} {d : mD} {x0 x1 : Int}
  (h : tCall E 345 [.inr (22, x1 + 21), .inr (22, x0 + 21)] d (tbk E 344 248 [.inr (41, x0), .inr (41, x1)] [] 0 0 K)) :
  tRun E 344 (240, [.inr (41, x0), .inr (41, x1)], [], 0, 0, d) K := tT_run (cut := [0, 75, 86, 97, 108, 119, 130, 141, 152, 163, 174, 185, 196, 207, 218, 229, 240, 251, 262, 273, 284, 295, 306, 317]) 5 _ h
theorem t_344_251 {E : mO × tW} {K : tK} {d : mD} {x0 x1 : Int}
  (h : tCall E 345 [.inr (22, x1 + 22), .inr (22, x0 + 22)] d (tbk E 344 259 [.inr (41, x0), .inr (41, x1)] [] 0 0 K)) :
  tRun E 344 (251, [.inr (41, x0), .inr (41, x1)], [], 0, 0, d) K := tT_run (cut := [0, 75, 86, 97, 108, 119, 130, 141, 152, 163, 174, 185, 196, 207, 218, 229, 240, 251, 262, 273, 284, 295, 306, 317]) 5 _ h
theorem t_344_262 {E : mO × tW} {K : tK} {d : mD} {x0 x1 : Int}
  (h : tCall E 345 [.inr (22, x1 + 23), .inr (22, x0 + 23)] d (tbk E 344 270 [.inr (41, x0), .inr (41, x1)] [] 0 0 K)) :
  tRun E 344 (262, [.inr (41, x0), .inr (41, x1)], [], 0, 0, d) K := tT_run (cut := [0, 75, 86, 97, 108, 119, 130, 141, 152, 163, 174, 185, 196, 207, 218, 229, 240, 251, 262, 273, 284, 295, 306, 317]) 5 _ h
theorem t_344_273 {E : mO × tW} {K : tK} {d : mD} {x0 x1 : Int}
  (h : tCall E 345 [.inr (22, x1 + 24), .inr (22, x0 + 24)] d (tbk E 344 281 [.inr (41, x0), .inr (41, x1)] [] 0 0 K)) :
  tRun E 344 (273, [.inr (41, x0), .inr (41, x1)], [], 0, 0, d) K := tT_run (cut := [0, 75, 86, 97, 108, 119, 130, 141, 152, 163, 174, 185, 196, 207, 218, 229, 240, 251, 262, 273, 284, 295, 306, 317]) 5 _ h
theorem t_344_284 {E : mO × tW} {K : tK} {d : mD} {x0 x1 : Int}
  (h : tCall E 345 [.inr (22, x1 + 25), .inr (22, x0 + 25)] d (tbk E 344 292 [.inr (41, x0), .inr (41, x1)] [] 0 0 K)) :
  tRun E 344 (284, [.inr (41, x0), .inr (41, x1)], [], 0, 0, d) K := tT_run (cut := [0, 75, 86, 97, 108, 119, 130, 141, 152, 163, 174, 185, 196, 207, 218, 229, 240, 251, 262, 273, 284, 295, 306, 317]) 5 _ h
theorem t_344_295 {E : mO × tW} {K : tK} {d : mD} {x0 x1 : Int}
  (h : tCall E 345 [.inr (22, x1 + 26), .inr (22, x0 + 26)] d (tbk E 344 303 [.inr (41, x0), .inr (41, x1)] [] 0 0 K)) :
  tRun E 344 (295, [.inr (41, x0), .inr (41, x1)], [], 0, 0, d) K := tT_run (cut := [0, 75, 86, 97, 108, 119, 130, 141, 152, 163, 174, 185, 196, 207, 218, 229, 240, 251, 262, 273, 284, 295, 306, 317]) 5 _ h
theorem t_344_306 {E : mO × tW} {K : tK} {d : mD} {x0 x1 : Int}
  (h : tCall E 345 [.inr (22, x1 + 27), .inr (22, x0 + 27)] d (tbk E 344 314 [.inr (41, x0), .inr (41, x1)] [] 0 0 K)) :
  tRun E 344 (306, [.inr (41, x0), .inr (41, x1)], [], 0, 0, d) K := tT_run (cut := [0, 75, 86, 97, 108, 119, 130, 141, 152, 163, 174, 185, 196, 207, 218, 229, 240, 251, 262, 273, 284, 295, 306, 317]) 5 _ h
theorem t_344_317 {E : mO × tW} {K : tK} {d : mD} {x0 x1 : Int}
  (h : (0 ≤ (0 : Int) ∧ 0 ≤ (0 : Int) ∧ 0 ≤ (6 : Int) ∧ (0 : Int) + (6 : Int) ≤ 6 ∧ (0 : Int) + (6 : Int) ≤ 6 ∧ ∀ i, 0 ≤ i → i < 0 + 6 → d (x1 + 8) i = 0 ∨ d (x1 + 8) i = 1) ∧ (0 ≤ (0 : Int) ∧ 0 ≤ (0 : Int) ∧ 0 ≤ (61 : Int) ∧ (0 : Int) + (61 : Int) ≤ 61 ∧ (0 : Int) + (61 : Int) ≤ 61 ∧ ∀ i, 0 ≤ i → i < 0 + 61 → (mcopy d (x1 + 8) 0 (x0 + 8) 0 6) (x1 + 16) i = 0 ∨ (mcopy d (x1 + 8) 0 (x0 + 8) 0 6) (x1 + 16) i = 1) ∧ (0 ≤ (0 : Int) ∧ 0 ≤ (0 : Int) ∧ 0 ≤ (61 : Int) ∧ (0 : Int) + (61 : Int) ≤ 61 ∧ (0 : Int) + (61 : Int) ≤ 61 ∧ ∀ i, 0 ≤ i → i < 0 + 61 → (mcopy (mcopy d (x1 + 8) 0 (x0 + 8) 0 6) (x1 + 16) 0 (x0 + 16) 0 61) (x1 + 17) i = 0 ∨ (mcopy (mcopy d (x1 + 8) 0 (x0 + 8) 0 6) (x1 + 16) 0 (x0 + 16) 0 61) (x1 + 17) i = 1) ∧ (0 ≤ (0 : Int) ∧ 0 ≤ (0 : Int) ∧ 0 ≤ (20800 : Int) ∧ (0 : Int) + (20800 : Int) ≤ 20800 ∧ (0 : Int) + (20800 : Int) ≤ 20800 ∧ ∀ i, 0 ≤ i → i < 0 + 20800 → (mcopy (mcopy (mcopy d (x1 + 8) 0 (x0 + 8) 0 6) (x1 + 16) 0 (x0 + 16) 0 61) (x1 + 17) 0 (x0 + 17) 0 61) (x1 + 18) i = 0 ∨ (mcopy (mcopy (mcopy d (x1 + 8) 0 (x0 + 8) 0 6) (x1 + 16) 0 (x0 + 16) 0 61) (x1 + 17) 0 (x0 + 17) 0 61) (x1 + 18) i = 1) ∧ K (.inl none) (mcopy (mcopy (mcopy (mcopy d (x1 + 8) 0 (x0 + 8) 0 6) (x1 + 16) 0 (x0 + 16) 0 61) (x1 + 17) 0 (x0 + 17) 0 61) (x1 + 18) 0 (x0 + 18) 0 20800)) :
  tRun E 344 (317, [.inr (41, x0), .inr (41, x1)], [], 0, 0, d) K := tT_run (cut := [0, 75, 86, 97, 108, 119, 130, 141, 152, 163, 174, 185, 196, 207, 218, 229, 240, 251, 262, 273, 284, 295, 306, 317]) 33 _ h
theorem t_346_0 {E : mO × tW} {K : tK} {d : mD} {x0 x1 : Int}
  (h : (0 ≤ x1 ∧ x1 < 61) ∧ mInR (d (x0 + 14) x1) ∧ (¬ d (x0 + 14) x1 = 0 → (0 ≤ x1 ∧ x1 < 61) ∧ K (.inl (some (0, d (x0 + 13) x1))) d) ∧ (d (x0 + 14) x1 = 0 → K (.inl (some (0, d x0 0))) d)) :
  tRun E 346 (0, [.inr (41, x0), .inl (0, x1)], [], 0, 0, d) K := tT_run (cut := [0]) 10 _ h
theorem t_347_0 {E : mO × tW} {K : tK} {d : mD} {x0 x1 : Int}
  (h : tCall E 346 [.inr (41, x0), .inl (0, x1)] d (tbk E 347 3 [.inr (41, x0), .inl (0, x1)] [.inl (0, 0)] 0 0 K)) :
  tRun E 347 (0, [.inr (41, x0), .inl (0, x1)], [], 0, 0, d) K := tT_run (cut := [0, 6]) 4 _ h
theorem t_347_6 {E : mO × tW} {K : tK} {d : mD} {x0 x1 y0 y1 : Int}
  (h : (0 ≤ x1 ∧ x1 < 61) ∧ (0 ≤ (0 : Int) ∧ (0 : Int) < 5) ∧ (mInR y0 ∧ mInR ((y1 - (d (x0 + 12) x1)) - (d (x0 + 1) 0))) ∧ K (.inl (some (0, mmax y0 ((y1 - (d (x0 + 12) x1)) - (d (x0 + 1) 0))))) d) :
  tRun E 347 (6, [.inr (41, x0), .inl (0, x1)], [.inl (0, y1), .inl (0, y0)], 0, 0, d) K := tT_run (cut := [0, 6]) 12 _ h
theorem t_348_0 {E : mO × tW} {K : tK} {d : mD} {x0 x1 : Int}
  (h : tRun E 348 (4, [.inr (41, x0), .inl (0, x1), .inl (0, 0), .inl (0, 0)], [], 0, 0, d) K) :
  tRun E 348 (0, [.inr (41, x0), .inl (0, x1), tu, tu], [], 0, 0, d) K := tT_run (cut := [0, 4]) 4 _ h
theorem t_348_4 {E : mO × tW} {K : tK} {d : mD} {x0 x1 x2 x3 : Int}
  (h : (mInR x3 ∧ mInR (d x0 5)) ∧ (d x0 5 ≤ x3 → K (.inl (some (0, x2))) d) ∧ (x3 < d x0 5 → (0 ≤ x3 ∧ x3 < 200) ∧ (0 ≤ d (x0 + 20) x3 ∧ d (x0 + 20) x3 < 61) ∧ (mInR (d (x0 + 10) (d (x0 + 20) x3)) ∧ mInR x1) ∧ (¬ d (x0 + 10) (d (x0 + 20) x3) = x1 → tRun E 348 (4, [.inr (41, x0), .inl (0, x1), .inl (0, x2 + 0), .inl (0, x3 + 1)], [], 0, 0, d) K) ∧ (d (x0 + 10) (d (x0 + 20) x3) = x1 → (0 ≤ x3 ∧ x3 < 200) ∧ (0 ≤ d x0 0 ∧ d x0 0 ≤ 2147483647 ∧ 0 < (20 : Int) ∧ (20 : Int) ≤ 2147483647) ∧ (mInR (d (x0 + 23) x3) ∧ mInR ((d x0 0) / 20)) ∧ (¬ d (x0 + 23) x3 = (d x0 0) / 20 → tRun E 348 (4, [.inr (41, x0), .inl (0, x1), .inl (0, x2 + 0), .inl (0, x3 + 1)], [], 0, 0, d) K) ∧ (d (x0 + 23) x3 = (d x0 0) / 20 → tRun E 348 (4, [.inr (41, x0), .inl (0, x1), .inl (0, x2 + 1), .inl (0, x3 + 1)], [], 0, 0, d) K)))) :
  tRun E 348 (4, [.inr (41, x0), .inl (0, x1), .inl (0, x2), .inl (0, x3)], [], 0, 0, d) K := tT_run (cut := [0, 4]) 29 _ h
theorem t_349_0 {E : mO × tW} {K : tK} {d : mD} {x0 x1 : Int}
  (h : (0 ≤ x1 ∧ x1 < 61) ∧ (0 ≤ (0 : Int) ∧ (0 : Int) < 5) ∧ tRun E 349 (16, [.inr (41, x0), .inl (0, x1), .inl (0, 0), .inl (0, (d (x0 + 12) x1) + (d (x0 + 1) 0))], [], 0, 0, d) K) :
  tRun E 349 (0, [.inr (41, x0), .inl (0, x1), tu, tu], [], 0, 0, d) K := tT_run (cut := [0, 16, 66]) 12 _ h
theorem t_349_16 {E : mO × tW} {K : tK} {d : mD} {x0 x1 x2 x3 : Int}
  (h : (0 ≤ x1 ∧ x1 < 61) ∧ (mInR x3 ∧ mInR (d (x0 + 13) x1)) ∧ (d (x0 + 13) x1 ≤ x3 → K (.inl (some (0, x2))) d) ∧ (x3 < d (x0 + 13) x1 → (0 ≤ x1 ∧ x1 < 61) ∧ (0 ≤ (1300 * (d (x0 + 10) x1)) + x3 ∧ (1300 * (d (x0 + 10) x1)) + x3 < 20800) ∧ mInR (d (x0 + 18) ((1300 * (d (x0 + 10) x1)) + x3)) ∧ (¬ d (x0 + 18) ((1300 * (d (x0 + 10) x1)) + x3) = 0 → tRun E 349 (16, [.inr (41, x0), .inl (0, x1), .inl (0, x2), .inl (0, x3 + 1)], [], 0, 0, d) K) ∧ (d (x0 + 18) ((1300 * (d (x0 + 10) x1)) + x3) = 0 → (mInR (d x0 5) ∧ mInR 200) ∧ (200 ≤ d x0 5 → tRun E 349 (16, [.inr (41, x0), .inl (0, x1), .inl (0, x2), .inl (0, x3 + 1)], [], 0, 0, d) K) ∧ (d x0 5 < 200 → (0 ≤ x1 ∧ x1 < 61) ∧ tCall E 348 [.inr (41, x0), .inl (0, d (x0 + 10) x1)] d (tbk E 349 63 [.inr (41, x0), .inl (0, x1), .inl (0, x2), .inl (0, x3)] [] 0 0 K))))) :
  tRun E 349 (16, [.inr (41, x0), .inl (0, x1), .inl (0, x2), .inl (0, x3)], [], 0, 0, d) K := tT_run (cut := [0, 16, 66]) 28 _ h
set_option maxRecDepth 4096 in
theorem t_349_66 {E : mO × tW} {K : tK} {d : mD} {x0 x1 x2 x3 y0 : Int}
  (h : (0 ≤ (3 : Int) ∧ (3 : Int) < 5) ∧ (mInR y0 ∧ mInR (d (x0 + 1) 3)) ∧ (d (x0 + 1) 3 ≤ y0 → tRun E 349 (16, [.inr (41, x0), .inl (0, x1), .inl (0, x2), .inl (0, x3 + 1)], [], 0, 0, d) K) ∧ (y0 < d (x0 + 1) 3 → (0 ≤ x1 ∧ x1 < 61) ∧ (((1 : Int) = 0 ∨ (1 : Int) = 1) ∧ 0 ≤ (1300 * (d (x0 + 10) x1)) + x3 ∧ (1300 * (d (x0 + 10) x1)) + x3 < 20800) ∧ (0 ≤ x1 ∧ x1 < 61) ∧ (0 ≤ (mset d (x0 + 18) ((1300 * (d (x0 + 10) x1)) + x3) 1) x0 5 ∧ (mset d (x0 + 18) ((1300 * (d (x0 + 10) x1)) + x3) 1) x0 5 < 200) ∧ (0 ≤ (mset (mset d (x0 + 18) ((1300 * (d (x0 + 10) x1)) + x3) 1) (x0 + 19) ((mset d (x0 + 18) ((1300 * (d (x0 + 10) x1)) + x3) 1) x0 5) ((mset d (x0 + 18) ((1300 * (d (x0 + 10) x1)) + x3) 1) (x0 + 10) x1)) x0 5 ∧ (mset (mset d (x0 + 18) ((1300 * (d (x0 + 10) x1)) + x3) 1) (x0 + 19) ((mset d (x0 + 18) ((1300 * (d (x0 + 10) x1)) + x3) 1) x0 5) ((mset d (x0 + 18) ((1300 * (d (x0 + 10) x1)) + x3) 1) (x0 + 10) x1)) x0 5 < 200) ∧ (0 ≤ (mset (mset (mset d (x0 + 18) ((1300 * (d (x0 + 10) x1)) + x3) 1) (x0 + 19) ((mset d (x0 + 18) ((1300 * (d (x0 + 10) x1)) + x3) 1) x0 5) ((mset d (x0 + 18) ((1300 * (d (x0 + 10) x1)) + x3) 1) (x0 + 10) x1)) (x0 + 20) ((mset (mset d (x0 + 18) ((1300 * (d (x0 + 10) x1)) + x3) 1) (x0 + 19) ((mset d (x0 + 18) ((1300 * (d (x0 + 10) x1)) + x3) 1) x0 5) ((mset d (x0 + 18) ((1300 * (d (x0 + 10) x1)) + x3) 1) (x0 + 10) x1)) x0 5) x1) x0 5 ∧ (mset (mset (mset d (x0 + 18) ((1300 * (d (x0 + 10) x1)) + x3) 1) (x0 + 19) ((mset d (x0 + 18) ((1300 * (d (x0 + 10) x1)) + x3) 1) x0 5) ((mset d (x0 + 18) ((1300 * (d (x0 + 10) x1)) + x3) 1) (x0 + 10) x1)) (x0 + 20) ((mset (mset d (x0 + 18) ((1300 * (d (x0 + 10) x1)) + x3) 1) (x0 + 19) ((mset d (x0 + 18) ((1300 * (d (x0 + 10) x1)) + x3) 1) x0 5) ((mset d (x0 + 18) ((1300 * (d (x0 + 10) x1)) + x3) 1) (x0 + 10) x1)) x0 5) x1) x0 5 < 200) ∧ (0 ≤ (mset (mset (mset (mset d (x0 + 18) ((1300 * (d (x0 + 10) x1)) + x3) 1) (x0 + 19) ((mset d (x0 + 18) ((1300 * (d (x0 + 10) x1)) + x3) 1) x0 5) ((mset d (x0 + 18) ((1300 * (d (x0 + 10) x1)) + x3) 1) (x0 + 10) x1)) (x0 + 20) ((mset (mset d (x0 + 18) ((1300 * (d (x0 + 10) x1)) + x3) 1) (x0 + 19) ((mset d (x0 + 18) ((1300 * (d (x0 + 10) x1)) + x3) 1) x0 5) ((mset d (x0 + 18) ((1300 * (d (x0 + 10) x1)) + x3) 1) (x0 + 10) x1)) x0 5) x1) (x0 + 21) ((mset (mset (mset d (x0 + 18) ((1300 * (d (x0 + 10) x1)) + x3) 1) (x0 + 19) ((mset d (x0 + 18) ((1300 * (d (x0 + 10) x1)) + x3) 1) x0 5) ((mset d (x0 + 18) ((1300 * (d (x0 + 10) x1)) + x3) 1) (x0 + 10) x1)) (x0 + 20) ((mset (mset d (x0 + 18) ((1300 * (d (x0 + 10) x1)) + x3) 1) (x0 + 19) ((mset d (x0 + 18) ((1300 * (d (x0 + 10) x1)) + x3) 1) x0 5) ((mset d (x0 + 18) ((1300 * (d (x0 + 10) x1)) + x3) 1) (x0 + 10) x1)) x0 5) x1) x0 5) x3) x0 5 ∧ (mset (mset (mset (mset d (x0 + 18) ((1300 * (d (x0 + 10) x1)) + x3) 1) (x0 + 19) ((mset d (x0 + 18) ((1300 * (d (x0 + 10) x1)) + x3) 1) x0 5) ((mset d (x0 + 18) ((1300 * (d (x0 + 10) x1)) + x3) 1) (x0 + 10) x1)) (x0 + 20) ((mset (mset d (x0 + 18) ((1300 * (d (x0 + 10) x1)) + x3) 1) (x0 + 19) ((mset d (x0 + 18) ((1300 * (d (x0 + 10) x1)) + x3) 1) x0 5) ((mset d (x0 + 18) ((1300 * (d (x0 + 10) x1)) + x3) 1) (x0 + 10) x1)) x0 5) x1) (x0 + 21) ((mset (mset (mset d (x0 + 18) ((1300 * (d (x0 + 10) x1)) + x3) 1) (x0 + 19) ((mset d (x0 + 18) ((1300 * (d (x0 + 10) x1)) + x3) 1) x0 5) ((mset d (x0 + 18) ((1300 * (d (x0 + 10) x1)) + x3) 1) (x0 + 10) x1)) (x0 + 20) ((mset (mset d (x0 + 18) ((1300 * (d (x0 + 10) x1)) + x3) 1) (x0 + 19) ((mset d (x0 + 18) ((1300 * (d (x0 + 10) x1)) + x3) 1) x0 5) ((mset d (x0 + 18) ((1300 * (d (x0 + 10) x1)) + x3) 1) (x0 + 10) x1)) x0 5) x1) x0 5) x3) x0 5 < 200) ∧ (0 ≤ (mset (mset (mset (mset (mset d (x0 + 18) ((1300 * (d (x0 + 10) x1)) + x3) 1) (x0 + 19) ((mset d (x0 + 18) ((1300 * (d (x0 + 10) x1)) + x3) 1) x0 5) ((mset d (x0 + 18) ((1300 * (d (x0 + 10) x1)) + x3) 1) (x0 + 10) x1)) (x0 + 20) ((mset (mset d (x0 + 18) ((1300 * (d (x0 + 10) x1)) + x3) 1) (x0 + 19) ((mset d (x0 + 18) ((1300 * (d (x0 + 10) x1)) + x3) 1) x0 5) ((mset d (x0 + 18) ((1300 * (d (x0 + 10) x1)) + x3) 1) (x0 + 10) x1)) x0 5) x1) (x0 + 21) ((mset (mset (mset d (x0 + 18) ((1300 * (d (x0 + 10) x1)) + x3) 1) (x0 + 19) ((mset d (x0 + 18) ((1300 * (d (x0 + 10) x1)) + x3) 1) x0 5) ((mset d (x0 + 18) ((1300 * (d (x0 + 10) x1)) + x3) 1) (x0 + 10) x1)) (x0 + 20) ((mset (mset d (x0 + 18) ((1300 * (d (x0 + 10) x1)) + x3) 1) (x0 + 19) ((mset d (x0 + 18) ((1300 * (d (x0 + 10) x1)) + x3) 1) x0 5) ((mset d (x0 + 18) ((1300 * (d (x0 + 10) x1)) + x3) 1) (x0 + 10) x1)) x0 5) x1) x0 5) x3) (x0 + 22) ((mset (mset (mset (mset d (x0 + 18) ((1300 * (d (x0 + 10) x1)) + x3) 1) (x0 + 19) ((mset d (x0 + 18) ((1300 * (d (x0 + 10) x1)) + x3) 1) x0 5) ((mset d (x0 + 18) ((1300 * (d (x0 + 10) x1)) + x3) 1) (x0 + 10) x1)) (x0 + 20) ((mset (mset d (x0 + 18) ((1300 * (d (x0 + 10) x1)) + x3) 1) (x0 + 19) ((mset d (x0 + 18) ((1300 * (d (x0 + 10) x1)) + x3) 1) x0 5) ((mset d (x0 + 18) ((1300 * (d (x0 + 10) x1)) + x3) 1) (x0 + 10) x1)) x0 5) x1) (x0 + 21) ((mset (mset (mset d (x0 + 18) ((1300 * (d (x0 + 10) x1)) + x3) 1) (x0 + 19) ((mset d (x0 + 18) ((1300 * (d (x0 + 10) x1)) + x3) 1) x0 5) ((mset d (x0 + 18) ((1300 * (d (x0 + 10) x1)) + x3) 1) (x0 + 10) x1)) (x0 + 20) ((mset (mset d (x0 + 18) ((1300 * (d (x0 + 10) x1)) + x3) 1) (x0 + 19) ((mset d (x0 + 18) ((1300 * (d (x0 + 10) x1)) + x3) 1) x0 5) ((mset d (x0 + 18) ((1300 * (d (x0 + 10) x1)) + x3) 1) (x0 + 10) x1)) x0 5) x1) x0 5) x3) x0 5) 0) x0 0 ∧ (mset (mset (mset (mset (mset d (x0 + 18) ((1300 * (d (x0 + 10) x1)) + x3) 1) (x0 + 19) ((mset d (x0 + 18) ((1300 * (d (x0 + 10) x1)) + x3) 1) x0 5) ((mset d (x0 + 18) ((1300 * (d (x0 + 10) x1)) + x3) 1) (x0 + 10) x1)) (x0 + 20) ((mset (mset d (x0 + 18) ((1300 * (d (x0 + 10) x1)) + x3) 1) (x0 + 19) ((mset d (x0 + 18) ((1300 * (d (x0 + 10) x1)) + x3) 1) x0 5) ((mset d (x0 + 18) ((1300 * (d (x0 + 10) x1)) + x3) 1) (x0 + 10) x1)) x0 5) x1) (x0 + 21) ((mset (mset (mset d (x0 + 18) ((1300 * (d (x0 + 10) x1)) + x3) 1) (x0 + 19) ((mset d (x0 + 18) ((1300 * (d (x0 + 10) x1)) + x3) 1) x0 5) ((mset d (x0 + 18) ((1300 * (d (x0 + 10) x1)) + x3) 1) (x0 + 10) x1)) (x0 + 20) ((mset (mset d (x0 + 18) ((1300 * (d (x0 + 10) x1)) + x3) 1) (x0 + 19) ((mset d (x0 + 18) ((1300 * (d (x0 + 10) x1)) + x3) 1) x0 5) ((mset d (x0 + 18) ((1300 * (d (x0 + 10) x1)) + x3) 1) (x0 + 10) x1)) x0 5) x1) x0 5) x3) (x0 + 22) ((mset (mset (mset (mset d (x0 + 18) ((1300 * (d (x0 + 10) x1)) + x3) 1) (x0 + 19) ((mset d (x0 + 18) ((1300 * (d (x0 + 10) x1)) + x3) 1) x0 5) ((mset d (x0 + 18) ((1300 * (d (x0 + 10) x1)) + x3) 1) (x0 + 10) x1)) (x0 + 20) ((mset (mset d (x0 + 18) ((1300 * (d (x0 + 10) x1)) + x3) 1) (x0 + 19) ((mset d (x0 + 18) ((1300 * (d (x0 + 10) x1)) + x3) 1) x0 5) ((mset d (x0 + 18) ((1300 * (d (x0 + 10) x1)) + x3) 1) (x0 + 10) x1)) x0 5) x1) (x0 + 21) ((mset (mset (mset d (x0 + 18) ((1300 * (d (x0 + 10) x1)) + x3) 1) (x0 + 19) ((mset d (x0 + 18) ((1300 * (d (x0 + 10) x1)) + x3) 1) x0 5) ((mset d (x0 + 18) ((1300 * (d (x0 + 10) x1)) + x3) 1) (x0 + 10) x1)) (x0 + 20) ((mset (mset d (x0 + 18) ((1300 * (d (x0 + 10) x1)) + x3) 1) (x0 + 19) ((mset d (x0 + 18) ((1300 * (d (x0 + 10) x1)) + x3) 1) x0 5) ((mset d (x0 + 18) ((1300 * (d (x0 + 10) x1)) + x3) 1) (x0 + 10) x1)) x0 5) x1) x0 5) x3) x0 5) 0) x0 0 ≤ 2147483647 ∧ 0 < (20 : Int) ∧ (20 : Int) ≤ 2147483647) ∧ (0 ≤ (mset (mset (mset (mset (mset d (x0 + 18) ((1300 * (d (x0 + 10) x1)) + x3) 1) (x0 + 19) ((mset d (x0 + 18) ((1300 * (d (x0 + 10) x1)) + x3) 1) x0 5) ((mset d (x0 + 18) ((1300 * (d (x0 + 10) x1)) + x3) 1) (x0 + 10) x1)) (x0 + 20) ((mset (mset d (x0 + 18) ((1300 * (d (x0 + 10) x1)) + x3) 1) (x0 + 19) ((mset d (x0 + 18) ((1300 * (d (x0 + 10) x1)) + x3) 1) x0 5) ((mset d (x0 + 18) ((1300 * (d (x0 + 10) x1)) + x3) 1) (x0 + 10) x1)) x0 5) x1) (x0 + 21) ((mset (mset (mset d (x0 + 18) ((1300 * (d (x0 + 10) x1)) + x3) 1) (x0 + 19) ((mset d (x0 + 18) ((1300 * (d (x0 + 10) x1)) + x3) 1) x0 5) ((mset d (x0 + 18) ((1300 * (d (x0 + 10) x1)) + x3) 1) (x0 + 10) x1)) (x0 + 20) ((mset (mset d (x0 + 18) ((1300 * (d (x0 + 10) x1)) + x3) 1) (x0 + 19) ((mset d (x0 + 18) ((1300 * (d (x0 + 10) x1)) + x3) 1) x0 5) ((mset d (x0 + 18) ((1300 * (d (x0 + 10) x1)) + x3) 1) (x0 + 10) x1)) x0 5) x1) x0 5) x3) (x0 + 22) ((mset (mset (mset (mset d (x0 + 18) ((1300 * (d (x0 + 10) x1)) + x3) 1) (x0 + 19) ((mset d (x0 + 18) ((1300 * (d (x0 + 10) x1)) + x3) 1) x0 5) ((mset d (x0 + 18) ((1300 * (d (x0 + 10) x1)) + x3) 1) (x0 + 10) x1)) (x0 + 20) ((mset (mset d (x0 + 18) ((1300 * (d (x0 + 10) x1)) + x3) 1) (x0 + 19) ((mset d (x0 + 18) ((1300 * (d (x0 + 10) x1)) + x3) 1) x0 5) ((mset d (x0 + 18) ((1300 * (d (x0 + 10) x1)) + x3) 1) (x0 + 10) x1)) x0 5) x1) (x0 + 21) ((mset (mset (mset d (x0 + 18) ((1300 * (d (x0 + 10) x1)) + x3) 1) (x0 + 19) ((mset d (x0 + 18) ((1300 * (d (x0 + 10) x1)) + x3) 1) x0 5) ((mset d (x0 + 18) ((1300 * (d (x0 + 10) x1)) + x3) 1) (x0 + 10) x1)) (x0 + 20) ((mset (mset d (x0 + 18) ((1300 * (d (x0 + 10) x1)) + x3) 1) (x0 + 19) ((mset d (x0 + 18) ((1300 * (d (x0 + 10) x1)) + x3) 1) x0 5) ((mset d (x0 + 18) ((1300 * (d (x0 + 10) x1)) + x3) 1) (x0 + 10) x1)) x0 5) x1) x0 5) x3) x0 5) 0) x0 5 ∧ (mset (mset (mset (mset (mset d (x0 + 18) ((1300 * (d (x0 + 10) x1)) + x3) 1) (x0 + 19) ((mset d (x0 + 18) ((1300 * (d (x0 + 10) x1)) + x3) 1) x0 5) ((mset d (x0 + 18) ((1300 * (d (x0 + 10) x1)) + x3) 1) (x0 + 10) x1)) (x0 + 20) ((mset (mset d (x0 + 18) ((1300 * (d (x0 + 10) x1)) + x3) 1) (x0 + 19) ((mset d (x0 + 18) ((1300 * (d (x0 + 10) x1)) + x3) 1) x0 5) ((mset d (x0 + 18) ((1300 * (d (x0 + 10) x1)) + x3) 1) (x0 + 10) x1)) x0 5) x1) (x0 + 21) ((mset (mset (mset d (x0 + 18) ((1300 * (d (x0 + 10) x1)) + x3) 1) (x0 + 19) ((mset d (x0 + 18) ((1300 * (d (x0 + 10) x1)) + x3) 1) x0 5) ((mset d (x0 + 18) ((1300 * (d (x0 + 10) x1)) + x3) 1) (x0 + 10) x1)) (x0 + 20) ((mset (mset d (x0 + 18) ((1300 * (d (x0 + 10) x1)) + x3) 1) (x0 + 19) ((mset d (x0 + 18) ((1300 * (d (x0 + 10) x1)) + x3) 1) x0 5) ((mset d (x0 + 18) ((1300 * (d (x0 + 10) x1)) + x3) 1) (x0 + 10) x1)) x0 5) x1) x0 5) x3) (x0 + 22) ((mset (mset (mset (mset d (x0 + 18) ((1300 * (d (x0 + 10) x1)) + x3) 1) (x0 + 19) ((mset d (x0 + 18) ((1300 * (d (x0 + 10) x1)) + x3) 1) x0 5) ((mset d (x0 + 18) ((1300 * (d (x0 + 10) x1)) + x3) 1) (x0 + 10) x1)) (x0 + 20) ((mset (mset d (x0 + 18) ((1300 * (d (x0 + 10) x1)) + x3) 1) (x0 + 19) ((mset d (x0 + 18) ((1300 * (d (x0 + 10) x1)) + x3) 1) x0 5) ((mset d (x0 + 18) ((1300 * (d (x0 + 10) x1)) + x3) 1) (x0 + 10) x1)) x0 5) x1) (x0 + 21) ((mset (mset (mset d (x0 + 18) ((1300 * (d (x0 + 10) x1)) + x3) 1) (x0 + 19) ((mset d (x0 + 18) ((1300 * (d (x0 + 10) x1)) + x3) 1) x0 5) ((mset d (x0 + 18) ((1300 * (d (x0 + 10) x1)) + x3) 1) (x0 + 10) x1)) (x0 + 20) ((mset (mset d (x0 + 18) ((1300 * (d (x0 + 10) x1)) + x3) 1) (x0 + 19) ((mset d (x0 + 18) ((1300 * (d (x0 + 10) x1)) + x3) 1) x0 5) ((mset d (x0 + 18) ((1300 * (d (x0 + 10) x1)) + x3) 1) (x0 + 10) x1)) x0 5) x1) x0 5) x3) x0 5) 0) x0 5 < 200) ∧ tRun E 349 (16, [.inr (41, x0), .inl (0, x1), .inl (0, x2 + 1), .inl (0, x3 + 1)], [], 0, 0, mset (mset (mset (mset (mset (mset (mset d (x0 + 18) ((1300 * (d (x0 + 10) x1)) + x3) 1) (x0 + 19) ((mset d (x0 + 18) ((1300 * (d (x0 + 10) x1)) + x3) 1) x0 5) ((mset d (x0 + 18) ((1300 * (d (x0 + 10) x1)) + x3) 1) (x0 + 10) x1)) (x0 + 20) ((mset (mset d (x0 + 18) ((1300 * (d (x0 + 10) x1)) + x3) 1) (x0 + 19) ((mset d (x0 + 18) ((1300 * (d (x0 + 10) x1)) + x3) 1) x0 5) ((mset d (x0 + 18) ((1300 * (d (x0 + 10) x1)) + x3) 1) (x0 + 10) x1)) x0 5) x1) (x0 + 21) ((mset (mset (mset d (x0 + 18) ((1300 * (d (x0 + 10) x1)) + x3) 1) (x0 + 19) ((mset d (x0 + 18) ((1300 * (d (x0 + 10) x1)) + x3) 1) x0 5) ((mset d (x0 + 18) ((1300 * (d (x0 + 10) x1)) + x3) 1) (x0 + 10) x1)) (x0 + 20) ((mset (mset d (x0 + 18) ((1300 * (d (x0 + 10) x1)) + x3) 1) (x0 + 19) ((mset d (x0 + 18) ((1300 * (d (x0 + 10) x1)) + x3) 1) x0 5) ((mset d (x0 + 18) ((1300 * (d (x0 + 10) x1)) + x3) 1) (x0 + 10) x1)) x0 5) x1) x0 5) x3) (x0 + 22) ((mset (mset (mset (mset d (x0 + 18) ((1300 * (d (x0 + 10) x1)) + x3) 1) (x0 + 19) ((mset d (x0 + 18) ((1300 * (d (x0 + 10) x1)) + x3) 1) x0 5) ((mset d (x0 + 18) ((1300 * (d (x0 + 10) x1)) + x3) 1) (x0 + 10) x1)) (x0 + 20) ((mset (mset d (x0 + 18) ((1300 * (d (x0 + 10) x1)) + x3) 1) (x0 + 19) ((mset d (x0 + 18) ((1300 * (d (x0 + 10) x1)) + x3) 1) x0 5) ((mset d (x0 + 18) ((1300 * (d (x0 + 10) x1)) + x3) 1) (x0 + 10) x1)) x0 5) x1) (x0 + 21) ((mset (mset (mset d (x0 + 18) ((1300 * (d (x0 + 10) x1)) + x3) 1) (x0 + 19) ((mset d (x0 + 18) ((1300 * (d (x0 + 10) x1)) + x3) 1) x0 5) ((mset d (x0 + 18) ((1300 * (d (x0 + 10) x1)) + x3) 1) (x0 + 10) x1)) (x0 + 20) ((mset (mset d (x0 + 18) ((1300 * (d (x0 + 10) x1)) + x3) 1) (x0 + 19) ((mset d (x0 + 18) ((1300 * (d (x0 + 10) x1)) + x3) 1) x0 5) ((mset d (x0 + 18) ((1300 * (d (x0 + 10) x1)) + x3) 1) (x0 + 10) x1)) x0 5) x1) x0 5) x3) x0 5) 0) (x0 + 23) ((mset (mset (mset (mset (mset d (x0 + 18) ((1300 * (d (x0 + 10) x1)) + x3) 1) (x0 + 19) ((mset d (x0 + 18) ((1300 * (d (x0 + 10) x1)) + x3) 1) x0 5) ((mset d (x0 + 18) ((1300 * (d (x0 + 10) x1)) + x3) 1) (x0 + 10) x1)) (x0 + 20) ((mset (mset d (x0 + 18) ((1300 * (d (x0 + 10) x1)) + x3) 1) (x0 + 19) ((mset d (x0 + 18) ((1300 * (d (x0 + 10) x1)) + x3) 1) x0 5) ((mset d (x0 + 18) ((1300 * (d (x0 + 10) x1)) + x3) 1) (x0 + 10) x1)) x0 5) x1) (x0 + 21) ((mset (mset (mset d (x0 + 18) ((1300 * (d (x0 + 10) x1)) + x3) 1) (x0 + 19) ((mset d (x0 + 18) ((1300 * (d (x0 + 10) x1)) + x3) 1) x0 5) ((mset d (x0 + 18) ((1300 * (d (x0 + 10) x1)) + x3) 1) (x0 + 10) x1)) (x0 + 20) ((mset (mset d (x0 + 18) ((1300 * (d (x0 + 10) x1)) + x3) 1) (x0 + 19) ((mset d (x0 + 18) ((1300 * (d (x0 + 10) x1)) + x3) 1) x0 5) ((mset d (x0 + 18) ((1300 * (d (x0 + 10) x1)) + x3) 1) (x0 + 10) x1)) x0 5) x1) x0 5) x3) (x0 + 22) ((mset (mset (mset (mset d (x0 + 18) ((1300 * (d (x0 + 10) x1)) + x3) 1) (x0 + 19) ((mset d (x0 + 18) ((1300 * (d (x0 + 10) x1)) + x3) 1) x0 5) ((mset d (x0 + 18) ((1300 * (d (x0 + 10) x1)) + x3) 1) (x0 + 10) x1)) (x0 + 20) ((mset (mset d (x0 + 18) ((1300 * (d (x0 + 10) x1)) + x3) 1) (x0 + 19) ((mset d (x0 + 18) ((1300 * (d (x0 + 10) x1)) + x3) 1) x0 5) ((mset d (x0 + 18) ((1300 * (d (x0 + 10) x1)) + x3) 1) (x0 + 10) x1)) x0 5) x1) (x0 + 21) ((mset (mset (mset d (x0 + 18) ((1300 * (d (x0 + 10) x1)) + x3) 1) (x0 + 19) ((mset d (x0 + 18) ((1300 * (d (x0 + 10) x1)) + x3) 1) x0 5) ((mset d (x0 + 18) ((1300 * (d (x0 + 10) x1)) + x3) 1) (x0 + 10) x1)) (x0 + 20) ((mset (mset d (x0 + 18) ((1300 * (d (x0 + 10) x1)) + x3) 1) (x0 + 19) ((mset d (x0 + 18) ((1300 * (d (x0 + 10) x1)) + x3) 1) x0 5) ((mset d (x0 + 18) ((1300 * (d (x0 + 10) x1)) + x3) 1) (x0 + 10) x1)) x0 5) x1) x0 5) x3) x0 5) 0) x0 5) (((mset (mset (mset (mset (mset d (x0 + 18) ((1300 * (d (x0 + 10) x1)) + x3) 1) (x0 + 19) ((mset d (x0 + 18) ((1300 * (d (x0 + 10) x1)) + x3) 1) x0 5) ((mset d (x0 + 18) ((1300 * (d (x0 + 10) x1)) + x3) 1) (x0 + 10) x1)) (x0 + 20) ((mset (mset d (x0 + 18) ((1300 * (d (x0 + 10) x1)) + x3) 1) (x0 + 19) ((mset d (x0 + 18) ((1300 * (d (x0 + 10) x1)) + x3) 1) x0 5) ((mset d (x0 + 18) ((1300 * (d (x0 + 10) x1)) + x3) 1) (x0 + 10) x1)) x0 5) x1) (x0 + 21) ((mset (mset (mset d (x0 + 18) ((1300 * (d (x0 + 10) x1)) + x3) 1) (x0 + 19) ((mset d (x0 + 18) ((1300 * (d (x0 + 10) x1)) + x3) 1) x0 5) ((mset d (x0 + 18) ((1300 * (d (x0 + 10) x1)) + x3) 1) (x0 + 10) x1)) (x0 + 20) ((mset (mset d (x0 + 18) ((1300 * (d (x0 + 10) x1)) + x3) 1) (x0 + 19) ((mset d (x0 + 18) ((1300 * (d (x0 + 10) x1)) + x3) 1) x0 5) ((mset d (x0 + 18) ((1300 * (d (x0 + 10) x1)) + x3) 1) (x0 + 10) x1)) x0 5) x1) x0 5) x3) (x0 + 22) ((mset (mset (mset (mset d (x0 + 18) ((1300 * (d (x0 + 10) x1)) + x3) 1) (x0 + 19) ((mset d (x0 + 18) ((1300 * (d (x0 + 10) x1)) + x3) 1) x0 5) ((mset d (x0 + 18) ((1300 * (d (x0 + 10) x1)) + x3) 1) (x0 + 10) x1)) (x0 + 20) ((mset (mset d (x0 + 18) ((1300 * (d (x0 + 10) x1)) + x3) 1) (x0 + 19) ((mset d (x0 + 18) ((1300 * (d (x0 + 10) x1)) + x3) 1) x0 5) ((mset d (x0 + 18) ((1300 * (d (x0 + 10) x1)) + x3) 1) (x0 + 10) x1)) x0 5) x1) (x0 + 21) ((mset (mset (mset d (x0 + 18) ((1300 * (d (x0 + 10) x1)) + x3) 1) (x0 + 19) ((mset d (x0 + 18) ((1300 * (d (x0 + 10) x1)) + x3) 1) x0 5) ((mset d (x0 + 18) ((1300 * (d (x0 + 10) x1)) + x3) 1) (x0 + 10) x1)) (x0 + 20) ((mset (mset d (x0 + 18) ((1300 * (d (x0 + 10) x1)) + x3) 1) (x0 + 19) ((mset d (x0 + 18) ((1300 * (d (x0 + 10) x1)) + x3) 1) x0 5) ((mset d (x0 + 18) ((1300 * (d (x0 + 10) x1)) + x3) 1) (x0 + 10) x1)) x0 5) x1) x0 5) x3) x0 5) 0) x0 0) / 20)) x0 5 (((mset (mset (mset (mset (mset (mset d (x0 + 18) ((1300 * (d (x0 + 10) x1)) + x3) 1) (x0 + 19) ((mset d (x0 + 18) ((1300 * (d (x0 + 10) x1)) + x3) 1) x0 5) ((mset d (x0 + 18) ((1300 * (d (x0 + 10) x1)) + x3) 1) (x0 + 10) x1)) (x0 + 20) ((mset (mset d (x0 + 18) ((1300 * (d (x0 + 10) x1)) + x3) 1) (x0 + 19) ((mset d (x0 + 18) ((1300 * (d (x0 + 10) x1)) + x3) 1) x0 5) ((mset d (x0 + 18) ((1300 * (d (x0 + 10) x1)) + x3) 1) (x0 + 10) x1)) x0 5) x1) (x0 + 21) ((mset (mset (mset d (x0 + 18) ((1300 * (d (x0 + 10) x1)) + x3) 1) (x0 + 19) ((mset d (x0 + 18) ((1300 * (d (x0 + 10) x1)) + x3) 1) x0 5) ((mset d (x0 + 18) ((1300 * (d (x0 + 10) x1)) + x3) 1) (x0 + 10) x1)) (x0 + 20) ((mset (mset d (x0 + 18) ((1300 * (d (x0 + 10) x1)) + x3) 1) (x0 + 19) ((mset d (x0 + 18) ((1300 * (d (x0 + 10) x1)) + x3) 1) x0 5) ((mset d (x0 + 18) ((1300 * (d (x0 + 10) x1)) + x3) 1) (x0 + 10) x1)) x0 5) x1) x0 5) x3) (x0 + 22) ((mset (mset (mset (mset d (x0 + 18) ((1300 * (d (x0 + 10) x1)) + x3) 1) (x0 + 19) ((mset d (x0 + 18) ((1300 * (d (x0 + 10) x1)) + x3) 1) x0 5) ((mset d (x0 + 18) ((1300 * (d (x0 + 10) x1)) + x3) 1) (x0 + 10) x1)) (x0 + 20) ((mset (mset d (x0 + 18) ((1300 * (d (x0 + 10) x1)) + x3) 1) (x0 + 19) ((mset d (x0 + 18) ((1300 * (d (x0 + 10) x1)) + x3) 1) x0 5) ((mset d (x0 + 18) ((1300 * (d (x0 + 10) x1)) + x3) 1) (x0 + 10) x1)) x0 5) x1) (x0 + 21) ((mset (mset (mset d (x0 + 18) ((1300 * (d (x0 + 10) x1)) + x3) 1) (x0 + 19) ((mset d (x0 + 18) ((1300 * (d (x0 + 10) x1)) + x3) 1) x0 5) ((mset d (x0 + 18) ((1300 * (d (x0 + 10) x1)) + x3) 1) (x0 + 10) x1)) (x0 + 20) ((mset (mset d (x0 + 18) ((1300 * (d (x0 + 10) x1)) + x3) 1) (x0 + 19) ((mset d (x0 + 18) ((1300 * (d (x0 + 10) x1)) + x3) 1) x0 5) ((mset d (x0 + 18) ((1300 * (d (x0 + 10) x1)) + x3) 1) (x0 + 10) x1)) x0 5) x1) x0 5) x3) x0 5) 0) (x0 + 23) ((mset (mset (mset (mset (mset d (x0 + 18) ((1300 * (d (x0 + 10) x1)) + x3) 1) (x0 + 19) ((mset d (x0 + 18) ((1300 * (d (x0 + 10) x1)) + x3) 1) x0 5) ((mset d (x0 + 18) ((1300 * (d (x0 + 10) x1)) + x3) 1) (x0 + 10) x1)) (x0 + 20) ((mset (mset d (x0 + 18) ((1300 * (d (x0 + 10) x1)) + x3) 1) (x0 + 19) ((mset d (x0 + 18) ((1300 * (d (x0 + 10) x1)) + x3) 1) x0 5) ((mset d (x0 + 18) ((1300 * (d (x0 + 10) x1)) + x3) 1) (x0 + 10) x1)) x0 5) x1) (x0 + 21) ((mset (mset (mset d (x0 + 18) ((1300 * (d (x0 + 10) x1)) + x3) 1) (x0 + 19) ((mset d (x0 + 18) ((1300 * (d (x0 + 10) x1)) + x3) 1) x0 5) ((mset d (x0 + 18) ((1300 * (d (x0 + 10) x1)) + x3) 1) (x0 + 10) x1)) (x0 + 20) ((mset (mset d (x0 + 18) ((1300 * (d (x0 + 10) x1)) + x3) 1) (x0 + 19) ((mset d (x0 + 18) ((1300 * (d (x0 + 10) x1)) + x3) 1) x0 5) ((mset d (x0 + 18) ((1300 * (d (x0 + 10) x1)) + x3) 1) (x0 + 10) x1)) x0 5) x1) x0 5) x3) (x0 + 22) ((mset (mset (mset (mset d (x0 + 18) ((1300 * (d (x0 + 10) x1)) + x3) 1) (x0 + 19) ((mset d (x0 + 18) ((1300 * (d (x0 + 10) x1)) + x3) 1) x0 5) ((mset d (x0 + 18) ((1300 * (d (x0 + 10) x1)) + x3) 1) (x0 + 10) x1)) (x0 + 20) ((mset (mset d (x0 + 18) ((1300 * (d (x0 + 10) x1)) + x3) 1) (x0 + 19) ((mset d (x0 + 18) ((1300 * (d (x0 + 10) x1)) + x3) 1) x0 5) ((mset d (x0 + 18) ((1300 * (d (x0 + 10) x1)) + x3) 1) (x0 + 10) x1)) x0 5) x1) (x0 + 21) ((mset (mset (mset d (x0 + 18) ((1300 * (d (x0 + 10) x1)) + x3) 1) (x0 + 19) ((mset d (x0 + 18) ((1300 * (d (x0 + 10) x1)) + x3) 1) x0 5) ((mset d (x0 + 18) ((1300 * (d (x0 + 10) x1)) + x3) 1) (x0 + 10) x1)) (x0 + 20) ((mset (mset d (x0 + 18) ((1300 * (d (x0 + 10) x1)) + x3) 1) (x0 + 19) ((mset d (x0 + 18) ((1300 * (d (x0 + 10) x1)) + x3) 1) x0 5) ((mset d (x0 + 18) ((1300 * (d (x0 + 10) x1)) + x3) 1) (x0 + 10) x1)) x0 5) x1) x0 5) x3) x0 5) 0) x0 5) (((mset (mset (mset (mset (mset d (x0 + 18) ((1300 * (d (x0 + 10) x1)) + x3) 1) (x0 + 19) ((mset d (x0 + 18) ((1300 * (d (x0 + 10) x1)) + x3) 1) x0 5) ((mset d (x0 + 18) ((1300 * (d (x0 + 10) x1)) + x3) 1) (x0 + 10) x1)) (x0 + 20) ((mset (mset d (x0 + 18) ((1300 * (d (x0 + 10) x1)) + x3) 1) (x0 + 19) ((mset d (x0 + 18) ((1300 * (d (x0 + 10) x1)) + x3) 1) x0 5) ((mset d (x0 + 18) ((1300 * (d (x0 + 10) x1)) + x3) 1) (x0 + 10) x1)) x0 5) x1) (x0 + 21) ((mset (mset (mset d (x0 + 18) ((1300 * (d (x0 + 10) x1)) + x3) 1) (x0 + 19) ((mset d (x0 + 18) ((1300 * (d (x0 + 10) x1)) + x3) 1) x0 5) ((mset d (x0 + 18) ((1300 * (d (x0 + 10) x1)) + x3) 1) (x0 + 10) x1)) (x0 + 20) ((mset (mset d (x0 + 18) ((1300 * (d (x0 + 10) x1)) + x3) 1) (x0 + 19) ((mset d (x0 + 18) ((1300 * (d (x0 + 10) x1)) + x3) 1) x0 5) ((mset d (x0 + 18) ((1300 * (d (x0 + 10) x1)) + x3) 1) (x0 + 10) x1)) x0 5) x1) x0 5) x3) (x0 + 22) ((mset (mset (mset (mset d (x0 + 18) ((1300 * (d (x0 + 10) x1)) + x3) 1) (x0 + 19) ((mset d (x0 + 18) ((1300 * (d (x0 + 10) x1)) + x3) 1) x0 5) ((mset d (x0 + 18) ((1300 * (d (x0 + 10) x1)) + x3) 1) (x0 + 10) x1)) (x0 + 20) ((mset (mset d (x0 + 18) ((1300 * (d (x0 + 10) x1)) + x3) 1) (x0 + 19) ((mset d (x0 + 18) ((1300 * (d (x0 + 10) x1)) + x3) 1) x0 5) ((mset d (x0 + 18) ((1300 * (d (x0 + 10) x1)) + x3) 1) (x0 + 10) x1)) x0 5) x1) (x0 + 21) ((mset (mset (mset d (x0 + 18) ((1300 * (d (x0 + 10) x1)) + x3) 1) (x0 + 19) ((mset d (x0 + 18) ((1300 * (d (x0 + 10) x1)) + x3) 1) x0 5) ((mset d (x0 + 18) ((1300 * (d (x0 + 10) x1)) + x3) 1) (x0 + 10) x1)) (x0 + 20) ((mset (mset d (x0 + 18) ((1300 * (d (x0 + 10) x1)) + x3) 1) (x0 + 19) ((mset d (x0 + 18) ((1300 * (d (x0 + 10) x1)) + x3) 1) x0 5) ((mset d (x0 + 18) ((1300 * (d (x0 + 10) x1)) + x3) 1) (x0 + 10) x1)) x0 5) x1) x0 5) x3) x0 5) 0) x0 0) / 20)) x0 5) + 1)) K)) :
  tRun E 349 (66, [.inr (41, x0), .inl (0, x1), .inl (0, x2), .inl (0, x3)], [.inl (0, y0)], 0, 0, d) K := tT_run (cut := [0, 16, 66]) 62 _ h
theorem t_350_0 {E : mO × tW} {K : tK} {d : mD} {x0 : Int}
  (h : tRun E 350 (2, [.inr (41, x0), .inl (0, 0)], [], 0, 0, d) K) :
  tRun E 350 (0, [.inr (41, x0), tu], [], 0, 0, d) K := tT_run (cut := [0, 2]) 2 _ h
set_option maxRecDepth 4096 in
theorem t_350_2 {E : mO × tW} {K : tK} {d : mD} {x0 x1 : Int}
  (h : (mInR x1 ∧ mInR (d x0 6)) ∧ (d x0 6 ≤ x1 → (0 ≤ x1 ∧ 0 ≤ (0 : Int) ∧ 0 ≤ (d x0 6) - x1 ∧ x1 + ((d x0 6) - x1) ≤ 200 ∧ (0 : Int) + ((d x0 6) - x1) ≤ 200) ∧ K (.inl (some (0, x1))) (mset (mcopy d (x0 + 24) x1 (x0 + 24) 0 ((d x0 6) - x1)) x0 6 (((mcopy d (x0 + 24) x1 (x0 + 24) 0 ((d x0 6) - x1)) x0 6) - x1))) ∧ (x1 < d x0 6 → (0 ≤ (4 : Int) ∧ (4 : Int) < 5) ∧ (mInR (d x0 1) ∧ mInR (d (x0 + 1) 4)) ∧ (d x0 1 < d (x0 + 1) 4 → (0 ≤ x1 ∧ 0 ≤ (0 : Int) ∧ 0 ≤ (d x0 6) - x1 ∧ x1 + ((d x0 6) - x1) ≤ 200 ∧ (0 : Int) + ((d x0 6) - x1) ≤ 200) ∧ K (.inl (some (0, x1))) (mset (mcopy d (x0 + 24) x1 (x0 + 24) 0 ((d x0 6) - x1)) x0 6 (((mcopy d (x0 + 24) x1 (x0 + 24) 0 ((d x0 6) - x1)) x0 6) - x1))) ∧ (d (x0 + 1) 4 ≤ d x0 1 → (0 ≤ (4 : Int) ∧ (4 : Int) < 5) ∧ (0 ≤ x1 ∧ x1 < 200) ∧ (0 ≤ (mset d x0 1 ((d x0 1) - (d (x0 + 1) 4))) (x0 + 24) x1 ∧ (mset d x0 1 ((d x0 1) - (d (x0 + 1) 4))) (x0 + 24) x1 < 200) ∧ (0 ≤ (mset d x0 1 ((d x0 1) - (d (x0 + 1) 4))) (x0 + 19) ((mset d x0 1 ((d x0 1) - (d (x0 + 1) 4))) (x0 + 24) x1) ∧ (mset d x0 1 ((d x0 1) - (d (x0 + 1) 4))) (x0 + 19) ((mset d x0 1 ((d x0 1) - (d (x0 + 1) 4))) (x0 + 24) x1) < 16) ∧ (0 ≤ (4 : Int) ∧ (4 : Int) < 5) ∧ (0 ≤ (mset d x0 1 ((d x0 1) - (d (x0 + 1) 4))) (x0 + 19) ((mset d x0 1 ((d x0 1) - (d (x0 + 1) 4))) (x0 + 24) x1) ∧ (mset d x0 1 ((d x0 1) - (d (x0 + 1) 4))) (x0 + 19) ((mset d x0 1 ((d x0 1) - (d (x0 + 1) 4))) (x0 + 24) x1) < 16) ∧ (0 ≤ x1 ∧ x1 < 200) ∧ (0 ≤ (mset (mset d x0 1 ((d x0 1) - (d (x0 + 1) 4))) (x0 + 7) ((mset d x0 1 ((d x0 1) - (d (x0 + 1) 4))) (x0 + 19) ((mset d x0 1 ((d x0 1) - (d (x0 + 1) 4))) (x0 + 24) x1)) (((mset d x0 1 ((d x0 1) - (d (x0 + 1) 4))) (x0 + 7) ((mset d x0 1 ((d x0 1) - (d (x0 + 1) 4))) (x0 + 19) ((mset d x0 1 ((d x0 1) - (d (x0 + 1) 4))) (x0 + 24) x1))) + ((mset d x0 1 ((d x0 1) - (d (x0 + 1) 4))) (x0 + 1) 4))) (x0 + 24) x1 ∧ (mset (mset d x0 1 ((d x0 1) - (d (x0 + 1) 4))) (x0 + 7) ((mset d x0 1 ((d x0 1) - (d (x0 + 1) 4))) (x0 + 19) ((mset d x0 1 ((d x0 1) - (d (x0 + 1) 4))) (x0 + 24) x1)) (((mset d x0 1 ((d x0 1) - (d (x0 + 1) 4))) (x0 + 7) ((mset d x0 1 ((d x0 1) - (d (x0 + 1) 4))) (x0 + 19) ((mset d x0 1 ((d x0 1) - (d (x0 + 1) 4))) (x0 + 24) x1))) + ((mset d x0 1 ((d x0 1) - (d (x0 + 1) 4))) (x0 + 1) 4))) (x0 + 24) x1 < 200) ∧ tRun E 350 (2, [.inr (41, x0), .inl (0, x1 + 1)], [], 0, 0, mset (mset (mset d x0 1 ((d x0 1) - (d (x0 + 1) 4))) (x0 + 7) ((mset d x0 1 ((d x0 1) - (d (x0 + 1) 4))) (x0 + 19) ((mset d x0 1 ((d x0 1) - (d (x0 + 1) 4))) (x0 + 24) x1)) (((mset d x0 1 ((d x0 1) - (d (x0 + 1) 4))) (x0 + 7) ((mset d x0 1 ((d x0 1) - (d (x0 + 1) 4))) (x0 + 19) ((mset d x0 1 ((d x0 1) - (d (x0 + 1) 4))) (x0 + 24) x1))) + ((mset d x0 1 ((d x0 1) - (d (x0 + 1) 4))) (x0 + 1) 4))) (x0 + 22) ((mset (mset d x0 1 ((d x0 1) - (d (x0 + 1) 4))) (x0 + 7) ((mset d x0 1 ((d x0 1) - (d (x0 + 1) 4))) (x0 + 19) ((mset d x0 1 ((d x0 1) - (d (x0 + 1) 4))) (x0 + 24) x1)) (((mset d x0 1 ((d x0 1) - (d (x0 + 1) 4))) (x0 + 7) ((mset d x0 1 ((d x0 1) - (d (x0 + 1) 4))) (x0 + 19) ((mset d x0 1 ((d x0 1) - (d (x0 + 1) 4))) (x0 + 24) x1))) + ((mset d x0 1 ((d x0 1) - (d (x0 + 1) 4))) (x0 + 1) 4))) (x0 + 24) x1) 2) K))) :
  tRun E 350 (2, [.inr (41, x0), .inl (0, x1)], [], 0, 0, d) K := tT_run (cut := [0, 2]) 47 _ h
theorem t_351_0 {E : mO × tW} {K : tK} {d : mD} {x0 x1 : Int}
  (h : tRun E 351 (2, [.inr (41, x0), .inl (0, x1), .inl (0, 0)], [], 0, 0, d) K) :
  tRun E 351 (0, [.inr (41, x0), .inl (0, x1), tu], [], 0, 0, d) K := tT_run (cut := [0, 2]) 2 _ h
theorem t_351_2 {E : mO × tW} {K : tK} {d : mD} {x0 x1 x2 : Int}
  (h : (0 ≤ x1 ∧ x1 < 61) ∧ (0 ≤ d (x0 + 11) x1 ∧ d (x0 + 11) x1 < 6) ∧ (mInR x2 ∧ mInR (d (x0 + 5) (d (x0 + 11) x1))) ∧ (d (x0 + 5) (d (x0 + 11) x1) ≤ x2 → K (.inl (some (0, (-1)))) d) ∧ (x2 < d (x0 + 5) (d (x0 + 11) x1) → (0 ≤ x1 ∧ x1 < 61) ∧ (0 ≤ (61 * (d (x0 + 11) x1)) + x2 ∧ (61 * (d (x0 + 11) x1)) + x2 < 366) ∧ (mInR (d (x0 + 9) ((61 * (d (x0 + 11) x1)) + x2)) ∧ mInR x1) ∧ (¬ d (x0 + 9) ((61 * (d (x0 + 11) x1)) + x2) = x1 → tRun E 351 (2, [.inr (41, x0), .inl (0, x1), .inl (0, x2 + 1)], [], 0, 0, d) K) ∧ (d (x0 + 9) ((61 * (d (x0 + 11) x1)) + x2) = x1 → K (.inl (some (0, x2))) d))) :
  tRun E 351 (2, [.inr (41, x0), .inl (0, x1), .inl (0, x2)], [], 0, 0, d) K := tT_run (cut := [0, 2]) 24 _ h
theorem t_352_0 {E : mO × tW} {K : tK} {d : mD} {x0 x1 x2 : Int}
  (h : (0 ≤ x1 ∧ x1 < 61) ∧ tCall E 351 [.inr (41, x0), .inl (0, x1)] d (tbk E 352 11 [.inr (41, x0), .inl (0, x1), .inl (0, x2), tu] [.inl (0, 61 * (d (x0 + 11) x1))] 0 0 K)) :
  tRun E 352 (0, [.inr (41, x0), .inl (0, x1), .inl (0, x2), tu], [], 0, 0, d) K := tT_run (cut := [0, 14]) 9 _ h
set_option maxRecDepth 4096 in
theorem t_352_14 {E : mO × tW} {K : tK} {d : mD} {x0 x1 x2 y0 y1 : Int}
  (h : (0 ≤ x1 ∧ x1 < 61) ∧ (0 ≤ d (x0 + 11) x1 ∧ d (x0 + 11) x1 < 6) ∧ (0 ≤ d (x0 + 11) x1 ∧ d (x0 + 11) x1 < 6) ∧ (0 ≤ x1 ∧ x1 < 61) ∧ (0 ≤ x1 ∧ x1 < 61) ∧ (0 ≤ (mset d (x0 + 5) (d (x0 + 11) x1) ((d (x0 + 5) (d (x0 + 11) x1)) - 1)) (x0 + 11) x1 ∧ (mset d (x0 + 5) (d (x0 + 11) x1) ((d (x0 + 5) (d (x0 + 11) x1)) - 1)) (x0 + 11) x1 < 6) ∧ (0 ≤ (y0 + y1) + 1 ∧ 0 ≤ y0 + y1 ∧ 0 ≤ ((61 * ((mset d (x0 + 5) (d (x0 + 11) x1) ((d (x0 + 5) (d (x0 + 11) x1)) - 1)) (x0 + 11) x1)) + ((mset d (x0 + 5) (d (x0 + 11) x1) ((d (x0 + 5) (d (x0 + 11) x1)) - 1)) (x0 + 5) ((mset d (x0 + 5) (d (x0 + 11) x1) ((d (x0 + 5) (d (x0 + 11) x1)) - 1)) (x0 + 11) x1))) - (y0 + y1) ∧ ((y0 + y1) + 1) + (((61 * ((mset d (x0 + 5) (d (x0 + 11) x1) ((d (x0 + 5) (d (x0 + 11) x1)) - 1)) (x0 + 11) x1)) + ((mset d (x0 + 5) (d (x0 + 11) x1) ((d (x0 + 5) (d (x0 + 11) x1)) - 1)) (x0 + 5) ((mset d (x0 + 5) (d (x0 + 11) x1) ((d (x0 + 5) (d (x0 + 11) x1)) - 1)) (x0 + 11) x1))) - (y0 + y1)) ≤ 366 ∧ (y0 + y1) + (((61 * ((mset d (x0 + 5) (d (x0 + 11) x1) ((d (x0 + 5) (d (x0 + 11) x1)) - 1)) (x0 + 11) x1)) + ((mset d (x0 + 5) (d (x0 + 11) x1) ((d (x0 + 5) (d (x0 + 11) x1)) - 1)) (x0 + 5) ((mset d (x0 + 5) (d (x0 + 11) x1) ((d (x0 + 5) (d (x0 + 11) x1)) - 1)) (x0 + 11) x1))) - (y0 + y1)) ≤ 366) ∧ (0 ≤ x1 ∧ x1 < 61) ∧ (0 ≤ x1 ∧ x1 < 61) ∧ K (.inl none) (mset (mset (mcopy (mset d (x0 + 5) (d (x0 + 11) x1) ((d (x0 + 5) (d (x0 + 11) x1)) - 1)) (x0 + 9) ((y0 + y1) + 1) (x0 + 9) (y0 + y1) (((61 * ((mset d (x0 + 5) (d (x0 + 11) x1) ((d (x0 + 5) (d (x0 + 11) x1)) - 1)) (x0 + 11) x1)) + ((mset d (x0 + 5) (d (x0 + 11) x1) ((d (x0 + 5) (d (x0 + 11) x1)) - 1)) (x0 + 5) ((mset d (x0 + 5) (d (x0 + 11) x1) ((d (x0 + 5) (d (x0 + 11) x1)) - 1)) (x0 + 11) x1))) - (y0 + y1))) (x0 + 14) x1 x2) (x0 + 13) x1 ((mset (mcopy (mset d (x0 + 5) (d (x0 + 11) x1) ((d (x0 + 5) (d (x0 + 11) x1)) - 1)) (x0 + 9) ((y0 + y1) + 1) (x0 + 9) (y0 + y1) (((61 * ((mset d (x0 + 5) (d (x0 + 11) x1) ((d (x0 + 5) (d (x0 + 11) x1)) - 1)) (x0 + 11) x1)) + ((mset d (x0 + 5) (d (x0 + 11) x1) ((d (x0 + 5) (d (x0 + 11) x1)) - 1)) (x0 + 5) ((mset d (x0 + 5) (d (x0 + 11) x1) ((d (x0 + 5) (d (x0 + 11) x1)) - 1)) (x0 + 11) x1))) - (y0 + y1))) (x0 + 14) x1 x2) x0 0))) :
  tRun E 352 (14, [.inr (41, x0), .inl (0, x1), .inl (0, x2), tu], [.inl (0, y1), .inl (0, y0)], 0, 0, d) K := tT_run (cut := [0, 14]) 50 _ h
theorem t_353_0 {E : mO × tW} {K : tK} {d : mD} {x0 : Int}
  (h : tRun E 353 (14, [.inr (41, x0), .inl (0, 0), .inl (0, 0), tu], [], 0, 0, mset d x0 0 ((d x0 0) + 1)) K) :
  tRun E 353 (0, [.inr (41, x0), tu, tu, tu], [], 0, 0, d) K := tT_run (cut := [0, 14, 24, 80, 107, 139, 154]) 10 _ h
theorem t_353_14 {E : mO × tW} {K : tK} {d : mD} {x0 x1 x2 : Int} {v3 : tV}
  (h : (mInR x2 ∧ mInR (d x0 2)) ∧ (d x0 2 ≤ x2 → tRun E 353 (107, [.inr (41, x0), .inl (0, x1), .inl (0, 0), v3], [], 0, 0, d) K) ∧ (x2 < d x0 2 → tRun E 353 (24, [.inr (41, x0), .inl (0, x1), .inl (0, x2), .inl (0, 0)], [], 0, 0, d) K)) :
  tRun E 353 (14, [.inr (41, x0), .inl (0, x1), .inl (0, x2), v3], [], 0, 0, d) K := tT_run (cut := [0, 14, 24, 80, 107, 139, 154]) 6 _ h
theorem t_353_24 {E : mO × tW} {K : tK} {d : mD} {x0 x1 x2 x3 : Int}
  (h : (0 ≤ x2 ∧ x2 < 6) ∧ mInR (d (x0 + 8) x2) ∧ (d (x0 + 8) x2 = 0 → tRun E 353 (14, [.inr (41, x0), .inl (0, x1), .inl (0, x2 + 1), .inl (0, x3)], [], 0, 0, d) K) ∧ (¬ d (x0 + 8) x2 = 0 → (0 ≤ x2 ∧ x2 < 6) ∧ (0 ≤ d x0 0 ∧ d x0 0 ≤ 2147483647 ∧ 0 < d (x0 + 3) x2 ∧ d (x0 + 3) x2 ≤ 2147483647) ∧ mInR ((d x0 0) % (d (x0 + 3) x2)) ∧ (¬ (d x0 0) % (d (x0 + 3) x2) = 0 → tRun E 353 (14, [.inr (41, x0), .inl (0, x1), .inl (0, x2 + 1), .inl (0, x3)], [], 0, 0, d) K) ∧ ((d x0 0) % (d (x0 + 3) x2) = 0 → (0 ≤ x2 ∧ x2 < 6) ∧ (mInR x3 ∧ mInR (d (x0 + 2) x2)) ∧ (d (x0 + 2) x2 ≤ x3 → tRun E 353 (14, [.inr (41, x0), .inl (0, x1), .inl (0, x2 + 1), .inl (0, x3)], [], 0, 0, d) K) ∧ (x3 < d (x0 + 2) x2 → (0 ≤ x2 ∧ x2 < 6) ∧ mInR (d (x0 + 5) x2) ∧ (d (x0 + 5) x2 ≤ 0 → tRun E 353 (14, [.inr (41, x0), .inl (0, x1), .inl (0, x2 + 1), .inl (0, x3)], [], 0, 0, d) K) ∧ (0 < d (x0 + 5) x2 → (0 ≤ 61 * x2 ∧ 61 * x2 < 366) ∧ tCall E 352 [.inr (41, x0), .inl (0, d (x0 + 9) (61 * x2)), .inl (0, 1)] d (tbk E 353 77 [.inr (41, x0), .inl (0, x1), .inl (0, x2), .inl (0, x3)] [] 0 0 K)))))) :
  tRun E 353 (24, [.inr (41, x0), .inl (0, x1), .inl (0, x2), .inl (0, x3)], [], 0, 0, d) K := tT_run (cut := [0, 14, 24, 80, 107, 139, 154]) 33 _ h
theorem t_353_80 {E : mO × tW} {K : tK} {d : mD} {x0 x1 x2 x3 : Int}
  (h : (0 ≤ x2 ∧ x2 < 6) ∧ (0 ≤ x2 ∧ x2 < 6) ∧ tRun E 353 (24, [.inr (41, x0), .inl (0, x1 + 1), .inl (0, x2), .inl (0, x3 + 1)], [], 0, 0, mset d (x0 + 6) x2 ((d (x0 + 6) x2) + 1)) K) :
  tRun E 353 (80, [.inr (41, x0), .inl (0, x1), .inl (0, x2), .inl (0, x3)], [], 0, 0, d) K := tT_run (cut := [0, 14, 24, 80, 107, 139, 154]) 11 _ h
theorem t_353_107 {E : mO × tW} {K : tK} {d : mD} {x0 x1 x2 : Int} {v3 : tV}
  (h : (0 ≤ d x0 0 ∧ d x0 0 ≤ 2147483647 ∧ 0 < (20 : Int) ∧ (20 : Int) ≤ 2147483647) ∧ mInR ((d x0 0) % 20) ∧ (¬ (d x0 0) % 20 = 0 → tCall E 350 [.inr (41, x0)] d (tbk E 353 151 [.inr (41, x0), .inl (0, x1), .inl (0, x2), v3] [] 0 0 K)) ∧ ((d x0 0) % 20 = 0 → (mInR x2 ∧ mInR (d x0 4)) ∧ (d x0 4 ≤ x2 → tCall E 350 [.inr (41, x0)] d (tbk E 353 151 [.inr (41, x0), .inl (0, x1), .inl (0, x2), v3] [] 0 0 K)) ∧ (x2 < d x0 4 → (0 ≤ x2 ∧ x2 < 61) ∧ mInR (d (x0 + 17) x2) ∧ (d (x0 + 17) x2 = 0 → tRun E 353 (107, [.inr (41, x0), .inl (0, x1), .inl (0, x2 + 1), .inl (0, 0)], [], 0, 0, d) K) ∧ (¬ d (x0 + 17) x2 = 0 → tCall E 349 [.inr (41, x0), .inl (0, x2)] d (tbk E 353 136 [.inr (41, x0), .inl (0, x1), .inl (0, x2), v3] [] 0 0 K))))) :
  tRun E 353 (107, [.inr (41, x0), .inl (0, x1), .inl (0, x2), v3], [], 0, 0, d) K := tT_run (cut := [0, 14, 24, 80, 107, 139, 154]) 18 _ h
theorem t_353_139 {E : mO × tW} {K : tK} {d : mD} {x0 x1 x2 y0 : Int} {v3 : tV}
  (h : tRun E 353 (107, [.inr (41, x0), .inl (0, x1), .inl (0, x2 + 1), .inl (0, y0)], [], 0, 0, d) K) :
  tRun E 353 (139, [.inr (41, x0), .inl (0, x1), .inl (0, x2), v3], [.inl (0, y0)], 0, 0, d) K := tT_run (cut := [0, 14, 24, 80, 107, 139, 154]) 4 _ h
theorem t_353_154 {E : mO × tW} {K : tK} {d : mD} {x0 x1 x2 y0 : Int} {v3 : tV}
  (h : K (.inl (some (0, x1))) d) :
  tRun E 353 (154, [.inr (41, x0), .inl (0, x1), .inl (0, x2), v3], [.inl (0, y0)], 0, 0, d) K := tT_run (cut := [0, 14, 24, 80, 107, 139, 154]) 3 _ h
set_option maxRecDepth 4096 in
theorem t_354_0 {E : mO × tW} {K : tK} {d : mD} {x0 x1 x2 : Int}
  (h : (0 ≤ d x0 4 ∧ d x0 4 < 61) ∧ (0 ≤ d x0 4 ∧ d x0 4 < 61) ∧ (0 ≤ d x0 4 ∧ d x0 4 < 61) ∧ (0 ≤ d x0 4 ∧ d x0 4 < 61) ∧ (0 ≤ d x0 4 ∧ d x0 4 < 61) ∧ (0 ≤ d x0 4 ∧ d x0 4 < 61) ∧ (((0 : Int) = 0 ∨ (0 : Int) = 1) ∧ 0 ≤ d x0 4 ∧ d x0 4 < 61) ∧ (((0 : Int) = 0 ∨ (0 : Int) = 1) ∧ 0 ≤ d x0 4 ∧ d x0 4 < 61) ∧ (0 ≤ x2 ∧ x2 < 6) ∧ (0 ≤ (61 * x2) + ((mset (mset (mset (mset (mset (mset (mset (mset (mset d x0 4 ((d x0 4) + 1)) (x0 + 10) (d x0 4) x1) (x0 + 11) (d x0 4) x2) (x0 + 12) (d x0 4) ((mset (mset (mset d x0 4 ((d x0 4) + 1)) (x0 + 10) (d x0 4) x1) (x0 + 11) (d x0 4) x2) x0 0)) (x0 + 13) (d x0 4) ((-1))) (x0 + 14) (d x0 4) 0) (x0 + 15) (d x0 4) 0) (x0 + 16) (d x0 4) 0) (x0 + 17) (d x0 4) 0) (x0 + 5) x2) ∧ (61 * x2) + ((mset (mset (mset (mset (mset (mset (mset (mset (mset d x0 4 ((d x0 4) + 1)) (x0 + 10) (d x0 4) x1) (x0 + 11) (d x0 4) x2) (x0 + 12) (d x0 4) ((mset (mset (mset d x0 4 ((d x0 4) + 1)) (x0 + 10) (d x0 4) x1) (x0 + 11) (d x0 4) x2) x0 0)) (x0 + 13) (d x0 4) ((-1))) (x0 + 14) (d x0 4) 0) (x0 + 15) (d x0 4) 0) (x0 + 16) (d x0 4) 0) (x0 + 17) (d x0 4) 0) (x0 + 5) x2) < 366) ∧ (0 ≤ x2 ∧ x2 < 6) ∧ (0 ≤ x2 ∧ x2 < 6) ∧ K (.inl (some (0, d x0 4))) (mset (mset (mset (mset (mset (mset (mset (mset (mset (mset (mset d x0 4 ((d x0 4) + 1)) (x0 + 10) (d x0 4) x1) (x0 + 11) (d x0 4) x2) (x0 + 12) (d x0 4) ((mset (mset (mset d x0 4 ((d x0 4) + 1)) (x0 + 10) (d x0 4) x1) (x0 + 11) (d x0 4) x2) x0 0)) (x0 + 13) (d x0 4) ((-1))) (x0 + 14) (d x0 4) 0) (x0 + 15) (d x0 4) 0) (x0 + 16) (d x0 4) 0) (x0 + 17) (d x0 4) 0) (x0 + 9) ((61 * x2) + ((mset (mset (mset (mset (mset (mset (mset (mset (mset d x0 4 ((d x0 4) + 1)) (x0 + 10) (d x0 4) x1) (x0 + 11) (d x0 4) x2) (x0 + 12) (d x0 4) ((mset (mset (mset d x0 4 ((d x0 4) + 1)) (x0 + 10) (d x0 4) x1) (x0 + 11) (d x0 4) x2) x0 0)) (x0 + 13) (d x0 4) ((-1))) (x0 + 14) (d x0 4) 0) (x0 + 15) (d x0 4) 0) (x0 + 16) (d x0 4) 0) (x0 + 17) (d x0 4) 0) (x0 + 5) x2)) (d x0 4)) (x0 + 5) x2 (((mset (mset (mset (mset (mset (mset (mset (mset (mset (mset d x0 4 ((d x0 4) + 1)) (x0 + 10) (d x0 4) x1) (x0 + 11) (d x0 4) x2) (x0 + 12) (d x0 4) ((mset (mset (mset d x0 4 ((d x0 4) + 1)) (x0 + 10) (d x0 4) x1) (x0 + 11) (d x0 4) x2) x0 0)) (x0 + 13) (d x0 4) ((-1))) (x0 + 14) (d x0 4) 0) (x0 + 15) (d x0 4) 0) (x0 + 16) (d x0 4) 0) (x0 + 17) (d x0 4) 0) (x0 + 9) ((61 * x2) + ((mset (mset (mset (mset (mset (mset (mset (mset (mset d x0 4 ((d x0 4) + 1)) (x0 + 10) (d x0 4) x1) (x0 + 11) (d x0 4) x2) (x0 + 12) (d x0 4) ((mset (mset (mset d x0 4 ((d x0 4) + 1)) (x0 + 10) (d x0 4) x1) (x0 + 11) (d x0 4) x2) x0 0)) (x0 + 13) (d x0 4) ((-1))) (x0 + 14) (d x0 4) 0) (x0 + 15) (d x0 4) 0) (x0 + 16) (d x0 4) 0) (x0 + 17) (d x0 4) 0) (x0 + 5) x2)) (d x0 4)) (x0 + 5) x2) + 1))) :
  tRun E 354 (0, [.inr (41, x0), .inl (0, x1), .inl (0, x2), tu], [], 0, 0, d) K := tT_run (cut := [0]) 72 _ h
theorem t_355_0 {E : mO × tW} {K : tK} {d : mD} {x0 x1 x2 : Int}
  (h : tRun E 355 (2, [.inr (41, x0), .inl (0, x1), .inl (0, x2), .inl (0, 0)], [], 0, 0, d) K) :
  tRun E 355 (0, [.inr (41, x0), .inl (0, x1), .inl (0, x2), tu], [], 0, 0, d) K := tT_run (cut := [0, 2]) 2 _ h
theorem t_355_2 {E : mO × tW} {K : tK} {d : mD} {x0 x1 x2 x3 : Int}
  (h : (mInR x3 ∧ mInR (d x0 4)) ∧ (d x0 4 ≤ x3 → (mInR (d x0 4) ∧ mInR 60) ∧ (60 ≤ d x0 4 → ((0 : Int) = 0 ∨ (0 : Int) = 1) ∧ K (.inl (some (0, 0))) d) ∧ (d x0 4 < 60 → (0 ≤ x2 ∧ x2 < 6) ∧ mInR (d (x0 + 8) x2) ∧ (d (x0 + 8) x2 = 0 → ((0 : Int) = 0 ∨ (0 : Int) = 1) ∧ K (.inl (some (0, 0))) d) ∧ (¬ d (x0 + 8) x2 = 0 → (0 ≤ x2 ∧ x2 < 6) ∧ (0 ≤ x2 ∧ x2 < 6) ∧ (mInR (d (x0 + 5) x2) ∧ mInR (d (x0 + 4) x2)) ∧ (d (x0 + 4) x2 ≤ d (x0 + 5) x2 → ((0 : Int) = 0 ∨ (0 : Int) = 1) ∧ K (.inl (some (0, 0))) d) ∧ (d (x0 + 5) x2 < d (x0 + 4) x2 → ((1 : Int) = 0 ∨ (1 : Int) = 1) ∧ K (.inl (some (0, 1))) d)))) ∧ (x3 < d x0 4 → (0 ≤ x3 ∧ x3 < 61) ∧ (mInR (d (x0 + 10) x3) ∧ mInR x1) ∧ (¬ d (x0 + 10) x3 = x1 → tRun E 355 (2, [.inr (41, x0), .inl (0, x1), .inl (0, x2), .inl (0, x3 + 1)], [], 0, 0, d) K) ∧ (d (x0 + 10) x3 = x1 → (0 ≤ x3 ∧ x3 < 61) ∧ (mInR (d (x0 + 11) x3) ∧ mInR x2) ∧ (¬ d (x0 + 11) x3 = x2 → tRun E 355 (2, [.inr (41, x0), .inl (0, x1), .inl (0, x2), .inl (0, x3 + 1)], [], 0, 0, d) K) ∧ (d (x0 + 11) x3 = x2 → (0 ≤ x3 ∧ x3 < 61) ∧ mInR (d (x0 + 14) x3) ∧ (¬ d (x0 + 14) x3 = 0 → tRun E 355 (2, [.inr (41, x0), .inl (0, x1), .inl (0, x2), .inl (0, x3 + 1)], [], 0, 0, d) K) ∧ (d (x0 + 14) x3 = 0 → ((0 : Int) = 0 ∨ (0 : Int) = 1) ∧ K (.inl (some (0, 0))) d))))) :
  tRun E 355 (2, [.inr (41, x0), .inl (0, x1), .inl (0, x2), .inl (0, x3)], [], 0, 0, d) K := tT_run (cut := [0, 2]) 25 _ h
theorem t_356_0 {E : mO × tW} {K : tK} {d : mD} {x0 x1 : Int}
  (h : (((1 : Int) = 0 ∨ (1 : Int) = 1) ∧ 0 ≤ x1 ∧ x1 < 61) ∧ (0 ≤ (1 : Int) ∧ (1 : Int) < 5) ∧ mInR ((mset d (x0 + 16) x1 1) (x0 + 1) 1) ∧ (¬ (mset d (x0 + 16) x1 1) (x0 + 1) 1 = 0 → (((0 : Int) = 0 ∨ (0 : Int) = 1) ∧ 0 ≤ x1 ∧ x1 < 61) ∧ (0 ≤ x1 ∧ x1 < 61) ∧ mInR ((mset (mset d (x0 + 16) x1 1) (x0 + 17) x1 0) (x0 + 17) x1) ∧ ((mset (mset d (x0 + 16) x1 1) (x0 + 17) x1 0) (x0 + 17) x1 = 0 → K (.inl (some (0, 0))) (mset (mset d (x0 + 16) x1 1) (x0 + 17) x1 0)) ∧ (¬ (mset (mset d (x0 + 16) x1 1) (x0 + 17) x1 0) (x0 + 17) x1 = 0 → tCall E 349 [.inr (41, x0), .inl (0, x1)] (mset (mset d (x0 + 16) x1 1) (x0 + 17) x1 0) (tbk E 356 38 [.inr (41, x0), .inl (0, x1)] [] 0 0 K))) ∧ ((mset d (x0 + 16) x1 1) (x0 + 1) 1 = 0 → (((1 : Int) = 0 ∨ (1 : Int) = 1) ∧ 0 ≤ x1 ∧ x1 < 61) ∧ (0 ≤ x1 ∧ x1 < 61) ∧ mInR ((mset (mset d (x0 + 16) x1 1) (x0 + 17) x1 1) (x0 + 17) x1) ∧ ((mset (mset d (x0 + 16) x1 1) (x0 + 17) x1 1) (x0 + 17) x1 = 0 → K (.inl (some (0, 0))) (mset (mset d (x0 + 16) x1 1) (x0 + 17) x1 1)) ∧ (¬ (mset (mset d (x0 + 16) x1 1) (x0 + 17) x1 1) (x0 + 17) x1 = 0 → tCall E 349 [.inr (41, x0), .inl (0, x1)] (mset (mset d (x0 + 16) x1 1) (x0 + 17) x1 1) (tbk E 356 38 [.inr (41, x0), .inl (0, x1)] [] 0 0 K)))) :
  tRun E 356 (0, [.inr (41, x0), .inl (0, x1)], [], 0, 0, d) K := tT_run (cut := [0, 41]) 24 _ h
theorem t_356_41 {E : mO × tW} {K : tK} {d : mD} {x0 x1 y0 : Int}
  (h : K (.inl (some (0, y0))) d) :
  tRun E 356 (41, [.inr (41, x0), .inl (0, x1)], [.inl (0, y0)], 0, 0, d) K := tT_run (cut := [0, 41]) 2 _ h
theorem t_357_0 {E : mO × tW} {K : tK} {d : mD} {x0 x1 x2 : Int}
  (h : tRun E 357 (5, [.inr (41, x0), .inl (0, x1), .inl (0, x2), .inl (0, 0), .inl (0, 0)], [], 0, 0, d) K) :
  tRun E 357 (0, [.inr (41, x0), .inl (0, x1), .inl (0, x2), tu, tu], [], 0, 0, d) K := tT_run (cut := [0, 5, 54, 59]) 4 _ h
theorem t_357_5 {E : mO × tW} {K : tK} {d : mD} {x0 x1 x2 x3 x4 : Int}
  (h : (mInR x4 ∧ mInR (d x0 4)) ∧ (d x0 4 ≤ x4 → K (.inl (some (0, x3))) d) ∧ (x4 < d x0 4 → (mInR x4 ∧ mInR x1) ∧ (x4 = x1 → tRun E 357 (5, [.inr (41, x0), .inl (0, x1), .inl (0, x2), .inl (0, x3), .inl (0, x4 + 1)], [], 0, 0, d) K) ∧ (¬ x4 = x1 → (0 ≤ x4 ∧ x4 < 61) ∧ (mInR (d (x0 + 10) x4) ∧ mInR x2) ∧ (¬ d (x0 + 10) x4 = x2 → tRun E 357 (5, [.inr (41, x0), .inl (0, x1), .inl (0, x2), .inl (0, x3), .inl (0, x4 + 1)], [], 0, 0, d) K) ∧ (d (x0 + 10) x4 = x2 → (0 ≤ x4 ∧ x4 < 61) ∧ (0 ≤ x1 ∧ x1 < 61) ∧ (mInR (d (x0 + 11) x4) ∧ mInR (d (x0 + 11) x1)) ∧ (¬ d (x0 + 11) x4 = d (x0 + 11) x1 → tRun E 357 (5, [.inr (41, x0), .inl (0, x1), .inl (0, x2), .inl (0, x3), .inl (0, x4 + 1)], [], 0, 0, d) K) ∧ (d (x0 + 11) x4 = d (x0 + 11) x1 → tCall E 346 [.inr (41, x0), .inl (0, x4)] d (tbk E 357 51 [.inr (41, x0), .inl (0, x1), .inl (0, x2), .inl (0, x3), .inl (0, x4)] [.inl (0, x3)] 0 0 K)))))) :
  tRun E 357 (5, [.inr (41, x0), .inl (0, x1), .inl (0, x2), .inl (0, x3), .inl (0, x4)], [], 0, 0, d) K := tT_run (cut := [0, 5, 54, 59]) 26 _ h
theorem t_357_54 {E : mO × tW} {K : tK} {d : mD} {x0 x1 x2 x3 x4 y0 y1 : Int}
  (h : tCall E 346 [.inr (41, x0), .inl (0, x1)] d (tbk E 357 56 [.inr (41, x0), .inl (0, x1), .inl (0, x2), .inl (0, x3), .inl (0, x4)] [.inl (0, y1), .inl (0, y0)] 0 0 K)) :
  tRun E 357 (54, [.inr (41, x0), .inl (0, x1), .inl (0, x2), .inl (0, x3), .inl (0, x4)], [.inl (0, y1), .inl (0, y0)], 0, 0, d) K := tT_run (cut := [0, 5, 54, 59]) 3 _ h
theorem t_357_59 {E : mO × tW} {K : tK} {d : mD} {x0 x1 x2 x3 x4 y0 y1 y2 : Int}
  (h : (mInR y1 ∧ mInR y2) ∧ (0 ≤ x4 ∧ x4 < 61) ∧ (0 ≤ x1 ∧ x1 < 61) ∧ (mInR (d (x0 + 12) x4) ∧ mInR (d (x0 + 12) x1)) ∧ (mInR y0 ∧ mInR ((mmin y1 y2) - (mmax (d (x0 + 12) x4) (d (x0 + 12) x1)))) ∧ tRun E 357 (5, [.inr (41, x0), .inl (0, x1), .inl (0, x2), .inl (0, mmax y0 ((mmin y1 y2) - (mmax (d (x0 + 12) x4) (d (x0 + 12) x1)))), .inl (0, x4 + 1)], [], 0, 0, d) K) :
  tRun E 357 (59, [.inr (41, x0), .inl (0, x1), .inl (0, x2), .inl (0, x3), .inl (0, x4)], [.inl (0, y2), .inl (0, y1), .inl (0, y0)], 0, 0, d) K := tT_run (cut := [0, 5, 54, 59]) 15 _ h
theorem t_358_0 {E : mO × tW} {K : tK} {d : mD} {x0 x1 : Int}
  (h : tRun E 358 (4, [.inr (41, x0), .inl (0, x1), .inl (0, 0), .inl (0, 0)], [], 0, 0, d) K) :
  tRun E 358 (0, [.inr (41, x0), .inl (0, x1), tu, tu], [], 0, 0, d) K := tT_run (cut := [0, 4]) 4 _ h
theorem t_358_4 {E : mO × tW} {K : tK} {d : mD} {x0 x1 x2 x3 : Int}
  (h : (mInR x3 ∧ mInR (d x0 7)) ∧ (d x0 7 ≤ x3 → K (.inl (some (0, x2))) d) ∧ (x3 < d x0 7 → (0 ≤ x3 ∧ x3 < 200) ∧ (mInR (d (x0 + 26) x3) ∧ mInR x1) ∧ (¬ d (x0 + 26) x3 = x1 → tRun E 358 (4, [.inr (41, x0), .inl (0, x1), .inl (0, x2 + 0), .inl (0, x3 + 1)], [], 0, 0, d) K) ∧ (d (x0 + 26) x3 = x1 → (0 ≤ x3 ∧ x3 < 200) ∧ (0 ≤ d x0 0 ∧ d x0 0 ≤ 2147483647 ∧ 0 < (20 : Int) ∧ (20 : Int) ≤ 2147483647) ∧ (mInR (d (x0 + 27) x3) ∧ mInR ((d x0 0) / 20)) ∧ (¬ d (x0 + 27) x3 = (d x0 0) / 20 → tRun E 358 (4, [.inr (41, x0), .inl (0, x1), .inl (0, x2 + 0), .inl (0, x3 + 1)], [], 0, 0, d) K) ∧ (d (x0 + 27) x3 = (d x0 0) / 20 → tRun E 358 (4, [.inr (41, x0), .inl (0, x1), .inl (0, x2 + 1), .inl (0, x3 + 1)], [], 0, 0, d) K)))) :
  tRun E 358 (4, [.inr (41, x0), .inl (0, x1), .inl (0, x2), .inl (0, x3)], [], 0, 0, d) K := tT_run (cut := [0, 4]) 26 _ h
theorem t_359_0 {E : mO × tW} {K : tK} {d : mD} {x0 x1 x2 : Int}
  (h : tRun E 359 (2, [.inr (41, x0), .inl (0, x1), .inl (0, x2), .inl (0, 0)], [], 0, 0, d) K) :
  tRun E 359 (0, [.inr (41, x0), .inl (0, x1), .inl (0, x2), tu], [], 0, 0, d) K := tT_run (cut := [0, 2]) 2 _ h
theorem t_359_2 {E : mO × tW} {K : tK} {d : mD} {x0 x1 x2 x3 : Int}
  (h : (mInR x3 ∧ mInR (d x0 7)) ∧ (d x0 7 ≤ x3 → ((0 : Int) = 0 ∨ (0 : Int) = 1) ∧ K (.inl (some (0, 0))) d) ∧ (x3 < d x0 7 → (0 ≤ x3 ∧ x3 < 200) ∧ (mInR (d (x0 + 25) x3) ∧ mInR x1) ∧ (¬ d (x0 + 25) x3 = x1 → tRun E 359 (2, [.inr (41, x0), .inl (0, x1), .inl (0, x2), .inl (0, x3 + 1)], [], 0, 0, d) K) ∧ (d (x0 + 25) x3 = x1 → (0 ≤ x3 ∧ x3 < 200) ∧ (mInR (d (x0 + 26) x3) ∧ mInR x2) ∧ (¬ d (x0 + 26) x3 = x2 → tRun E 359 (2, [.inr (41, x0), .inl (0, x1), .inl (0, x2), .inl (0, x3 + 1)], [], 0, 0, d) K) ∧ (d (x0 + 26) x3 = x2 → ((1 : Int) = 0 ∨ (1 : Int) = 1) ∧ K (.inl (some (0, 1))) d)))) :
  tRun E 359 (2, [.inr (41, x0), .inl (0, x1), .inl (0, x2), .inl (0, x3)], [], 0, 0, d) K := tT_run (cut := [0, 2]) 18 _ h
theorem t_360_0 {E : mO × tW} {K : tK} {d : mD} {x0 x1 x2 : Int}
  (h : (0 ≤ x1 ∧ x1 < 61) ∧ mInR (d (x0 + 16) x1) ∧ (d (x0 + 16) x1 = 0 → (0 ≤ x1 ∧ x1 < 61) ∧ mInR (d (x0 + 17) x1) ∧ (d (x0 + 17) x1 = 0 → K (.inl (some (0, 1))) d) ∧ (¬ d (x0 + 17) x1 = 0 → K (.inl (some (0, 2))) d)) ∧ (¬ d (x0 + 16) x1 = 0 → (0 ≤ x1 ∧ x1 < 61) ∧ mInR (d (x0 + 17) x1) ∧ (d (x0 + 17) x1 = 0 → (0 ≤ x1 ∧ x1 < 61) ∧ (mInR (d (x0 + 10) x1) ∧ mInR x2) ∧ (d (x0 + 10) x1 = x2 → (0 ≤ x1 ∧ x1 < 61) ∧ (mInR (d (x0 + 10) x1) ∧ mInR x2) ∧ (¬ d (x0 + 10) x1 = x2 → K (.inl (some (0, 4))) d) ∧ (d (x0 + 10) x1 = x2 → K (.inl (some (0, 3))) d)) ∧ (¬ d (x0 + 10) x1 = x2 → tCall E 359 [.inr (41, x0), .inl (0, x1), .inl (0, x2)] d (tbk E 360 46 [.inr (41, x0), .inl (0, x1), .inl (0, x2), tu] [] 0 0 K))) ∧ (¬ d (x0 + 17) x1 = 0 → (0 ≤ x1 ∧ x1 < 61) ∧ mInR (d (x0 + 17) x1) ∧ (d (x0 + 17) x1 = 0 → K (.inl (some (0, 1))) d) ∧ (¬ d (x0 + 17) x1 = 0 → K (.inl (some (0, 2))) d)))) :
  tRun E 360 (0, [.inr (41, x0), .inl (0, x1), .inl (0, x2), tu], [], 0, 0, d) K := tT_run (cut := [0, 49, 74, 88, 98, 116]) 25 _ h
theorem t_360_49 {E : mO × tW} {K : tK} {d : mD} {x0 x1 x2 y0 : Int}
  (h : mInR y0 ∧ (y0 = 0 → tCall E 357 [.inr (41, x0), .inl (0, x1), .inl (0, x2)] d (tbk E 360 71 [.inr (41, x0), .inl (0, x1), .inl (0, x2), tu] [] 0 0 K)) ∧ (¬ y0 = 0 → (0 ≤ x1 ∧ x1 < 61) ∧ (mInR (d (x0 + 10) x1) ∧ mInR x2) ∧ (¬ d (x0 + 10) x1 = x2 → K (.inl (some (0, 4))) d) ∧ (d (x0 + 10) x1 = x2 → K (.inl (some (0, 3))) d))) :
  tRun E 360 (49, [.inr (41, x0), .inl (0, x1), .inl (0, x2), tu], [.inl (0, y0)], 0, 0, d) K := tT_run (cut := [0, 49, 74, 88, 98, 116]) 10 _ h
theorem t_360_74 {E : mO × tW} {K : tK} {d : mD} {x0 x1 x2 y0 : Int}
  (h : (0 ≤ (2 : Int) ∧ (2 : Int) < 5) ∧ (mInR y0 ∧ mInR (d (x0 + 1) 2)) ∧ (y0 < d (x0 + 1) 2 → tCall E 357 [.inr (41, x0), .inl (0, x1), .inl (0, x2)] d (tbk E 360 95 [.inr (41, x0), .inl (0, x1), .inl (0, x2), tu] [] 0 0 K)) ∧ (d (x0 + 1) 2 ≤ y0 → tCall E 358 [.inr (41, x0), .inl (0, x2)] d (tbk E 360 85 [.inr (41, x0), .inl (0, x1), .inl (0, x2), tu] [] 0 0 K))) :
  tRun E 360 (74, [.inr (41, x0), .inl (0, x1), .inl (0, x2), tu], [.inl (0, y0)], 0, 0, d) K := tT_run (cut := [0, 49, 74, 88, 98, 116]) 9 _ h
theorem t_360_88 {E : mO × tW} {K : tK} {d : mD} {x0 x1 x2 y0 : Int}
  (h : (mInR y0 ∧ mInR 2) ∧ (y0 ≤ 2 → tRun E 360 (116, [.inr (41, x0), .inl (0, x1), .inl (0, x2), .inl (0, 0)], [], 0, 0, d) K) ∧ (2 < y0 → tCall E 357 [.inr (41, x0), .inl (0, x1), .inl (0, x2)] d (tbk E 360 95 [.inr (41, x0), .inl (0, x1), .inl (0, x2), tu] [] 0 0 K))) :
  tRun E 360 (88, [.inr (41, x0), .inl (0, x1), .inl (0, x2), tu], [.inl (0, y0)], 0, 0, d) K := tT_run (cut := [0, 49, 74, 88, 98, 116]) 6 _ h
theorem t_360_98 {E : mO × tW} {K : tK} {d : mD} {x0 x1 x2 y0 : Int}
  (h : (0 ≤ (2 : Int) ∧ (2 : Int) < 5) ∧ (mInR y0 ∧ mInR (d (x0 + 1) 2)) ∧ (d (x0 + 1) 2 ≤ y0 → K (.inl (some (0, 6))) d) ∧ (y0 < d (x0 + 1) 2 → K (.inl (some (0, 5))) d)) :
  tRun E 360 (98, [.inr (41, x0), .inl (0, x1), .inl (0, x2), tu], [.inl (0, y0)], 0, 0, d) K := tT_run (cut := [0, 49, 74, 88, 98, 116]) 8 _ h
theorem t_360_116 {E : mO × tW} {K : tK} {d : mD} {x0 x1 x2 x3 : Int}
  (h : (mInR x3 ∧ mInR (d x0 7)) ∧ (d x0 7 ≤ x3 → K (.inl (some (0, 0))) d) ∧ (x3 < d x0 7 → (0 ≤ x3 ∧ x3 < 200) ∧ (0 ≤ d (x0 + 25) x3 ∧ d (x0 + 25) x3 < 61) ∧ (mInR (d (x0 + 10) (d (x0 + 25) x3)) ∧ mInR x2) ∧ (¬ d (x0 + 10) (d (x0 + 25) x3) = x2 → tRun E 360 (116, [.inr (41, x0), .inl (0, x1), .inl (0, x2), .inl (0, x3 + 1)], [], 0, 0, d) K) ∧ (d (x0 + 10) (d (x0 + 25) x3) = x2 → (0 ≤ x3 ∧ x3 < 200) ∧ (0 ≤ x1 ∧ x1 < 61) ∧ (mInR (d (x0 + 26) x3) ∧ mInR (d (x0 + 10) x1)) ∧ (¬ d (x0 + 26) x3 = d (x0 + 10) x1 → tRun E 360 (116, [.inr (41, x0), .inl (0, x1), .inl (0, x2), .inl (0, x3 + 1)], [], 0, 0, d) K) ∧ (d (x0 + 26) x3 = d (x0 + 10) x1 → (0 ≤ x3 ∧ x3 < 200) ∧ (0 ≤ d x0 0 ∧ d x0 0 ≤ 2147483647 ∧ 0 < (20 : Int) ∧ (20 : Int) ≤ 2147483647) ∧ (mInR (d (x0 + 27) x3) ∧ mInR ((d x0 0) / 20)) ∧ (¬ d (x0 + 27) x3 = (d x0 0) / 20 → tRun E 360 (116, [.inr (41, x0), .inl (0, x1), .inl (0, x2), .inl (0, x3 + 1)], [], 0, 0, d) K) ∧ (d (x0 + 27) x3 = (d x0 0) / 20 → K (.inl (some (0, 7))) d))))) :
  tRun E 360 (116, [.inr (41, x0), .inl (0, x1), .inl (0, x2), .inl (0, x3)], [], 0, 0, d) K := tT_run (cut := [0, 49, 74, 88, 98, 116]) 33 _ h
set_option maxRecDepth 4096 in
theorem t_361_0 {E : mO × tW} {K : tK} {d : mD} {x0 x1 x2 : Int}
  (h : (0 ≤ d x0 7 ∧ d x0 7 < 200) ∧ (0 ≤ (mset d (x0 + 25) (d x0 7) x1) x0 7 ∧ (mset d (x0 + 25) (d x0 7) x1) x0 7 < 200) ∧ (0 ≤ (mset (mset d (x0 + 25) (d x0 7) x1) (x0 + 26) ((mset d (x0 + 25) (d x0 7) x1) x0 7) x2) x0 0 ∧ (mset (mset d (x0 + 25) (d x0 7) x1) (x0 + 26) ((mset d (x0 + 25) (d x0 7) x1) x0 7) x2) x0 0 ≤ 2147483647 ∧ 0 < (20 : Int) ∧ (20 : Int) ≤ 2147483647) ∧ (0 ≤ (mset (mset d (x0 + 25) (d x0 7) x1) (x0 + 26) ((mset d (x0 + 25) (d x0 7) x1) x0 7) x2) x0 7 ∧ (mset (mset d (x0 + 25) (d x0 7) x1) (x0 + 26) ((mset d (x0 + 25) (d x0 7) x1) x0 7) x2) x0 7 < 200) ∧ (0 ≤ x1 ∧ x1 < 61) ∧ (0 ≤ x1 ∧ x1 < 61) ∧ (0 ≤ x1 ∧ x1 < 61) ∧ (0 ≤ (1 : Int) ∧ (1 : Int) < 5) ∧ (mInR ((mset (mset (mset (mset (mset d (x0 + 25) (d x0 7) x1) (x0 + 26) ((mset d (x0 + 25) (d x0 7) x1) x0 7) x2) (x0 + 27) ((mset (mset d (x0 + 25) (d x0 7) x1) (x0 + 26) ((mset d (x0 + 25) (d x0 7) x1) x0 7) x2) x0 7) (((mset (mset d (x0 + 25) (d x0 7) x1) (x0 + 26) ((mset d (x0 + 25) (d x0 7) x1) x0 7) x2) x0 0) / 20)) x0 7 (((mset (mset (mset d (x0 + 25) (d x0 7) x1) (x0 + 26) ((mset d (x0 + 25) (d x0 7) x1) x0 7) x2) (x0 + 27) ((mset (mset d (x0 + 25) (d x0 7) x1) (x0 + 26) ((mset d (x0 + 25) (d x0 7) x1) x0 7) x2) x0 7) (((mset (mset d (x0 + 25) (d x0 7) x1) (x0 + 26) ((mset d (x0 + 25) (d x0 7) x1) x0 7) x2) x0 0) / 20)) x0 7) + 1)) (x0 + 15) x1 (((mset (mset (mset (mset d (x0 + 25) (d x0 7) x1) (x0 + 26) ((mset d (x0 + 25) (d x0 7) x1) x0 7) x2) (x0 + 27) ((mset (mset d (x0 + 25) (d x0 7) x1) (x0 + 26) ((mset d (x0 + 25) (d x0 7) x1) x0 7) x2) x0 7) (((mset (mset d (x0 + 25) (d x0 7) x1) (x0 + 26) ((mset d (x0 + 25) (d x0 7) x1) x0 7) x2) x0 0) / 20)) x0 7 (((mset (mset (mset d (x0 + 25) (d x0 7) x1) (x0 + 26) ((mset d (x0 + 25) (d x0 7) x1) x0 7) x2) (x0 + 27) ((mset (mset d (x0 + 25) (d x0 7) x1) (x0 + 26) ((mset d (x0 + 25) (d x0 7) x1) x0 7) x2) x0 7) (((mset (mset d (x0 + 25) (d x0 7) x1) (x0 + 26) ((mset d (x0 + 25) (d x0 7) x1) x0 7) x2) x0 0) / 20)) x0 7) + 1)) (x0 + 15) x1) + 1)) (x0 + 15) x1) ∧ mInR ((mset (mset (mset (mset (mset d (x0 + 25) (d x0 7) x1) (x0 + 26) ((mset d (x0 + 25) (d x0 7) x1) x0 7) x2) (x0 + 27) ((mset (mset d (x0 + 25) (d x0 7) x1) (x0 + 26) ((mset d (x0 + 25) (d x0 7) x1) x0 7) x2) x0 7) (((mset (mset d (x0 + 25) (d x0 7) x1) (x0 + 26) ((mset d (x0 + 25) (d x0 7) x1) x0 7) x2) x0 0) / 20)) x0 7 (((mset (mset (mset d (x0 + 25) (d x0 7) x1) (x0 + 26) ((mset d (x0 + 25) (d x0 7) x1) x0 7) x2) (x0 + 27) ((mset (mset d (x0 + 25) (d x0 7) x1) (x0 + 26) ((mset d (x0 + 25) (d x0 7) x1) x0 7) x2) x0 7) (((mset (mset d (x0 + 25) (d x0 7) x1) (x0 + 26) ((mset d (x0 + 25) (d x0 7) x1) x0 7) x2) x0 0) / 20)) x0 7) + 1)) (x0 + 15) x1 (((mset (mset (mset (mset d (x0 + 25) (d x0 7) x1) (x0 + 26) ((mset d (x0 + 25) (d x0 7) x1) x0 7) x2) (x0 + 27) ((mset (mset d (x0 + 25) (d x0 7) x1) (x0 + 26) ((mset d (x0 + 25) (d x0 7) x1) x0 7) x2) x0 7) (((mset (mset d (x0 + 25) (d x0 7) x1) (x0 + 26) ((mset d (x0 + 25) (d x0 7) x1) x0 7) x2) x0 0) / 20)) x0 7 (((mset (mset (mset d (x0 + 25) (d x0 7) x1) (x0 + 26) ((mset d (x0 + 25) (d x0 7) x1) x0 7) x2) (x0 + 27) ((mset (mset d (x0 + 25) (d x0 7) x1) (x0 + 26) ((mset d (x0 + 25) (d x0 7) x1) x0 7) x2) x0 7) (((mset (mset d (x0 + 25) (d x0 7) x1) (x0 + 26) ((mset d (x0 + 25) (d x0 7) x1) x0 7) x2) x0 0) / 20)) x0 7) + 1)) (x0 + 15) x1) + 1)) (x0 + 1) 1)) ∧ ((mset (mset (mset (mset (mset d (x0 + 25) (d x0 7) x1) (x0 + 26) ((mset d (x0 + 25) (d x0 7) x1) x0 7) x2) (x0 + 27) ((mset (mset d (x0 + 25) (d x0 7) x1) (x0 + 26) ((mset d (x0 + 25) (d x0 7) x1) x0 7) x2) x0 7) (((mset (mset d (x0 + 25) (d x0 7) x1) (x0 + 26) ((mset d (x0 + 25) (d x0 7) x1) x0 7) x2) x0 0) / 20)) x0 7 (((mset (mset (mset d (x0 + 25) (d x0 7) x1) (x0 + 26) ((mset d (x0 + 25) (d x0 7) x1) x0 7) x2) (x0 + 27) ((mset (mset d (x0 + 25) (d x0 7) x1) (x0 + 26) ((mset d (x0 + 25) (d x0 7) x1) x0 7) x2) x0 7) (((mset (mset d (x0 + 25) (d x0 7) x1) (x0 + 26) ((mset d (x0 + 25) (d x0 7) x1) x0 7) x2) x0 0) / 20)) x0 7) + 1)) (x0 + 15) x1 (((mset (mset (mset (mset d (x0 + 25) (d x0 7) x1) (x0 + 26) ((mset d (x0 + 25) (d x0 7) x1) x0 7) x2) (x0 + 27) ((mset (mset d (x0 + 25) (d x0 7) x1) (x0 + 26) ((mset d (x0 + 25) (d x0 7) x1) x0 7) x2) x0 7) (((mset (mset d (x0 + 25) (d x0 7) x1) (x0 + 26) ((mset d (x0 + 25) (d x0 7) x1) x0 7) x2) x0 0) / 20)) x0 7 (((mset (mset (mset d (x0 + 25) (d x0 7) x1) (x0 + 26) ((mset d (x0 + 25) (d x0 7) x1) x0 7) x2) (x0 + 27) ((mset (mset d (x0 + 25) (d x0 7) x1) (x0 + 26) ((mset d (x0 + 25) (d x0 7) x1) x0 7) x2) x0 7) (((mset (mset d (x0 + 25) (d x0 7) x1) (x0 + 26) ((mset d (x0 + 25) (d x0 7) x1) x0 7) x2) x0 0) / 20)) x0 7) + 1)) (x0 + 15) x1) + 1)) (x0 + 15) x1 < (mset (mset (mset (mset (mset d (x0 + 25) (d x0 7) x1) (x0 + 26) ((mset d (x0 + 25) (d x0 7) x1) x0 7) x2) (x0 + 27) ((mset (mset d (x0 + 25) (d x0 7) x1) (x0 + 26) ((mset d (x0 + 25) (d x0 7) x1) x0 7) x2) x0 7) (((mset (mset d (x0 + 25) (d x0 7) x1) (x0 + 26) ((mset d (x0 + 25) (d x0 7) x1) x0 7) x2) x0 0) / 20)) x0 7 (((mset (mset (mset d (x0 + 25) (d x0 7) x1) (x0 + 26) ((mset d (x0 + 25) (d x0 7) x1) x0 7) x2) (x0 + 27) ((mset (mset d (x0 + 25) (d x0 7) x1) (x0 + 26) ((mset d (x0 + 25) (d x0 7) x1) x0 7) x2) x0 7) (((mset (mset d (x0 + 25) (d x0 7) x1) (x0 + 26) ((mset d (x0 + 25) (d x0 7) x1) x0 7) x2) x0 0) / 20)) x0 7) + 1)) (x0 + 15) x1 (((mset (mset (mset (mset d (x0 + 25) (d x0 7) x1) (x0 + 26) ((mset d (x0 + 25) (d x0 7) x1) x0 7) x2) (x0 + 27) ((mset (mset d (x0 + 25) (d x0 7) x1) (x0 + 26) ((mset d (x0 + 25) (d x0 7) x1) x0 7) x2) x0 7) (((mset (mset d (x0 + 25) (d x0 7) x1) (x0 + 26) ((mset d (x0 + 25) (d x0 7) x1) x0 7) x2) x0 0) / 20)) x0 7 (((mset (mset (mset d (x0 + 25) (d x0 7) x1) (x0 + 26) ((mset d (x0 + 25) (d x0 7) x1) x0 7) x2) (x0 + 27) ((mset (mset d (x0 + 25) (d x0 7) x1) (x0 + 26) ((mset d (x0 + 25) (d x0 7) x1) x0 7) x2) x0 7) (((mset (mset d (x0 + 25) (d x0 7) x1) (x0 + 26) ((mset d (x0 + 25) (d x0 7) x1) x0 7) x2) x0 0) / 20)) x0 7) + 1)) (x0 + 15) x1) + 1)) (x0 + 1) 1 → (((0 : Int) = 0 ∨ (0 : Int) = 1) ∧ 0 ≤ x1 ∧ x1 < 61) ∧ (0 ≤ x1 ∧ x1 < 61) ∧ mInR ((mset (mset (mset (mset (mset (mset d (x0 + 25) (d x0 7) x1) (x0 + 26) ((mset d (x0 + 25) (d x0 7) x1) x0 7) x2) (x0 + 27) ((mset (mset d (x0 + 25) (d x0 7) x1) (x0 + 26) ((mset d (x0 + 25) (d x0 7) x1) x0 7) x2) x0 7) (((mset (mset d (x0 + 25) (d x0 7) x1) (x0 + 26) ((mset d (x0 + 25) (d x0 7) x1) x0 7) x2) x0 0) / 20)) x0 7 (((mset (mset (mset d (x0 + 25) (d x0 7) x1) (x0 + 26) ((mset d (x0 + 25) (d x0 7) x1) x0 7) x2) (x0 + 27) ((mset (mset d (x0 + 25) (d x0 7) x1) (x0 + 26) ((mset d (x0 + 25) (d x0 7) x1) x0 7) x2) x0 7) (((mset (mset d (x0 + 25) (d x0 7) x1) (x0 + 26) ((mset d (x0 + 25) (d x0 7) x1) x0 7) x2) x0 0) / 20)) x0 7) + 1)) (x0 + 15) x1 (((mset (mset (mset (mset d (x0 + 25) (d x0 7) x1) (x0 + 26) ((mset d (x0 + 25) (d x0 7) x1) x0 7) x2) (x0 + 27) ((mset (mset d (x0 + 25) (d x0 7) x1) (x0 + 26) ((mset d (x0 + 25) (d x0 7) x1) x0 7) x2) x0 7) (((mset (mset d (x0 + 25) (d x0 7) x1) (x0 + 26) ((mset d (x0 + 25) (d x0 7) x1) x0 7) x2) x0 0) / 20)) x0 7 (((mset (mset (mset d (x0 + 25) (d x0 7) x1) (x0 + 26) ((mset d (x0 + 25) (d x0 7) x1) x0 7) x2) (x0 + 27) ((mset (mset d (x0 + 25) (d x0 7) x1) (x0 + 26) ((mset d (x0 + 25) (d x0 7) x1) x0 7) x2) x0 7) (((mset (mset d (x0 + 25) (d x0 7) x1) (x0 + 26) ((mset d (x0 + 25) (d x0 7) x1) x0 7) x2) x0 0) / 20)) x0 7) + 1)) (x0 + 15) x1) + 1)) (x0 + 17) x1 0) (x0 + 17) x1) ∧ ((mset (mset (mset (mset (mset (mset d (x0 + 25) (d x0 7) x1) (x0 + 26) ((mset d (x0 + 25) (d x0 7) x1) x0 7) x2) (x0 + 27) ((mset (mset d (x0 + 25) (d x0 7) x1) (x0 + 26) ((mset d (x0 + 25) (d x0 7) x1) x0 7) x2) x0 7) (((mset (mset d (x0 + 25) (d x0 7) x1) (x0 + 26) ((mset d (x0 + 25) (d x0 7) x1) x0 7) x2) x0 0) / 20)) x0 7 (((mset (mset (mset d (x0 + 25) (d x0 7) x1) (x0 + 26) ((mset d (x0 + 25) (d x0 7) x1) x0 7) x2) (x0 + 27) ((mset (mset d (x0 + 25) (d x0 7) x1) (x0 + 26) ((mset d (x0 + 25) (d x0 7) x1) x0 7) x2) x0 7) (((mset (mset d (x0 + 25) (d x0 7) x1) (x0 + 26) ((mset d (x0 + 25) (d x0 7) x1) x0 7) x2) x0 0) / 20)) x0 7) + 1)) (x0 + 15) x1 (((mset (mset (mset (mset d (x0 + 25) (d x0 7) x1) (x0 + 26) ((mset d (x0 + 25) (d x0 7) x1) x0 7) x2) (x0 + 27) ((mset (mset d (x0 + 25) (d x0 7) x1) (x0 + 26) ((mset d (x0 + 25) (d x0 7) x1) x0 7) x2) x0 7) (((mset (mset d (x0 + 25) (d x0 7) x1) (x0 + 26) ((mset d (x0 + 25) (d x0 7) x1) x0 7) x2) x0 0) / 20)) x0 7 (((mset (mset (mset d (x0 + 25) (d x0 7) x1) (x0 + 26) ((mset d (x0 + 25) (d x0 7) x1) x0 7) x2) (x0 + 27) ((mset (mset d (x0 + 25) (d x0 7) x1) (x0 + 26) ((mset d (x0 + 25) (d x0 7) x1) x0 7) x2) x0 7) (((mset (mset d (x0 + 25) (d x0 7) x1) (x0 + 26) ((mset d (x0 + 25) (d x0 7) x1) x0 7) x2) x0 0) / 20)) x0 7) + 1)) (x0 + 15) x1) + 1)) (x0 + 17) x1 0) (x0 + 17) x1 = 0 → K (.inl (some (0, 0))) (mset (mset (mset (mset (mset (mset d (x0 + 25) (d x0 7) x1) (x0 + 26) ((mset d (x0 + 25) (d x0 7) x1) x0 7) x2) (x0 + 27) ((mset (mset d (x0 + 25) (d x0 7) x1) (x0 + 26) ((mset d (x0 + 25) (d x0 7) x1) x0 7) x2) x0 7) (((mset (mset d (x0 + 25) (d x0 7) x1) (x0 + 26) ((mset d (x0 + 25) (d x0 7) x1) x0 7) x2) x0 0) / 20)) x0 7 (((mset (mset (mset d (x0 + 25) (d x0 7) x1) (x0 + 26) ((mset d (x0 + 25) (d x0 7) x1) x0 7) x2) (x0 + 27) ((mset (mset d (x0 + 25) (d x0 7) x1) (x0 + 26) ((mset d (x0 + 25) (d x0 7) x1) x0 7) x2) x0 7) (((mset (mset d (x0 + 25) (d x0 7) x1) (x0 + 26) ((mset d (x0 + 25) (d x0 7) x1) x0 7) x2) x0 0) / 20)) x0 7) + 1)) (x0 + 15) x1 (((mset (mset (mset (mset d (x0 + 25) (d x0 7) x1) (x0 + 26) ((mset d (x0 + 25) (d x0 7) x1) x0 7) x2) (x0 + 27) ((mset (mset d (x0 + 25) (d x0 7) x1) (x0 + 26) ((mset d (x0 + 25) (d x0 7) x1) x0 7) x2) x0 7) (((mset (mset d (x0 + 25) (d x0 7) x1) (x0 + 26) ((mset d (x0 + 25) (d x0 7) x1) x0 7) x2) x0 0) / 20)) x0 7 (((mset (mset (mset d (x0 + 25) (d x0 7) x1) (x0 + 26) ((mset d (x0 + 25) (d x0 7) x1) x0 7) x2) (x0 + 27) ((mset (mset d (x0 + 25) (d x0 7) x1) (x0 + 26) ((mset d (x0 + 25) (d x0 7) x1) x0 7) x2) x0 7) (((mset (mset d (x0 + 25) (d x0 7) x1) (x0 + 26) ((mset d (x0 + 25) (d x0 7) x1) x0 7) x2) x0 0) / 20)) x0 7) + 1)) (x0 + 15) x1) + 1)) (x0 + 17) x1 0)) ∧ (¬ (mset (mset (mset (mset (mset (mset d (x0 + 25) (d x0 7) x1) (x0 + 26) ((mset d (x0 + 25) (d x0 7) x1) x0 7) x2) (x0 + 27) ((mset (mset d (x0 + 25) (d x0 7) x1) (x0 + 26) ((mset d (x0 + 25) (d x0 7) x1) x0 7) x2) x0 7) (((mset (mset d (x0 + 25) (d x0 7) x1) (x0 + 26) ((mset d (x0 + 25) (d x0 7) x1) x0 7) x2) x0 0) / 20)) x0 7 (((mset (mset (mset d (x0 + 25) (d x0 7) x1) (x0 + 26) ((mset d (x0 + 25) (d x0 7) x1) x0 7) x2) (x0 + 27) ((mset (mset d (x0 + 25) (d x0 7) x1) (x0 + 26) ((mset d (x0 + 25) (d x0 7) x1) x0 7) x2) x0 7) (((mset (mset d (x0 + 25) (d x0 7) x1) (x0 + 26) ((mset d (x0 + 25) (d x0 7) x1) x0 7) x2) x0 0) / 20)) x0 7) + 1)) (x0 + 15) x1 (((mset (mset (mset (mset d (x0 + 25) (d x0 7) x1) (x0 + 26) ((mset d (x0 + 25) (d x0 7) x1) x0 7) x2) (x0 + 27) ((mset (mset d (x0 + 25) (d x0 7) x1) (x0 + 26) ((mset d (x0 + 25) (d x0 7) x1) x0 7) x2) x0 7) (((mset (mset d (x0 + 25) (d x0 7) x1) (x0 + 26) ((mset d (x0 + 25) (d x0 7) x1) x0 7) x2) x0 0) / 20)) x0 7 (((mset (mset (mset d (x0 + 25) (d x0 7) x1) (x0 + 26) ((mset d (x0 + 25) (d x0 7) x1) x0 7) x2) (x0 + 27) ((mset (mset d (x0 + 25) (d x0 7) x1) (x0 + 26) ((mset d (x0 + 25) (d x0 7) x1) x0 7) x2) x0 7) (((mset (mset d (x0 + 25) (d x0 7) x1) (x0 + 26) ((mset d (x0 + 25) (d x0 7) x1) x0 7) x2) x0 0) / 20)) x0 7) + 1)) (x0 + 15) x1) + 1)) (x0 + 17) x1 0) (x0 + 17) x1 = 0 → tCall E 349 [.inr (41, x0), .inl (0, x1)] (mset (mset (mset (mset (mset (mset d (x0 + 25) (d x0 7) x1) (x0 + 26) ((mset d (x0 + 25) (d x0 7) x1) x0 7) x2) (x0 + 27) ((mset (mset d (x0 + 25) (d x0 7) x1) (x0 + 26) ((mset d (x0 + 25) (d x0 7) x1) x0 7) x2) x0 7) (((mset (mset d (x0 + 25) (d x0 7) x1) (x0 + 26) ((mset d (x0 + 25) (d x0 7) x1) x0 7) x2) x0 0) / 20)) x0 7 (((mset (mset (mset d (x0 + 25) (d x0 7) x1) (x0 + 26) ((mset d (x0 + 25) (d x0 7) x1) x0 7) x2) (x0 + 27) ((mset (mset d (x0 + 25) (d x0 7) x1) (x0 + 26) ((mset d (x0 + 25) (d x0 7) x1) x0 7) x2) x0 7) (((mset (mset d (x0 + 25) (d x0 7) x1) (x0 + 26) ((mset d (x0 + 25) (d x0 7) x1) x0 7) x2) x0 0) / 20)) x0 7) + 1)) (x0 + 15) x1 (((mset (mset (mset (mset d (x0 + 25) (d x0 7) x1) (x0 + 26) ((mset d (x0 + 25) (d x0 7) x1) x0 7) x2) (x0 + 27) ((mset (mset d (x0 + 25) (d x0 7) x1) (x0 + 26) ((mset d (x0 + 25) (d x0 7) x1) x0 7) x2) x0 7) (((mset (mset d (x0 + 25) (d x0 7) x1) (x0 + 26) ((mset d (x0 + 25) (d x0 7) x1) x0 7) x2) x0 0) / 20)) x0 7 (((mset (mset (mset d (x0 + 25) (d x0 7) x1) (x0 + 26) ((mset d (x0 + 25) (d x0 7) x1) x0 7) x2) (x0 + 27) ((mset (mset d (x0 + 25) (d x0 7) x1) (x0 + 26) ((mset d (x0 + 25) (d x0 7) x1) x0 7) x2) x0 7) (((mset (mset d (x0 + 25) (d x0 7) x1) (x0 + 26) ((mset d (x0 + 25) (d x0 7) x1) x0 7) x2) x0 0) / 20)) x0 7) + 1)) (x0 + 15) x1) + 1)) (x0 + 17) x1 0) (tbk E 361 93 [.inr (41, x0), .inl (0, x1), .inl (0, x2)] [] 0 0 K))) ∧ ((mset (mset (mset (mset (mset d (x0 + 25) (d x0 7) x1) (x0 + 26) ((mset d (x0 + 25) (d x0 7) x1) x0 7) x2) (x0 + 27) ((mset (mset d (x0 + 25) (d x0 7) x1) (x0 + 26) ((mset d (x0 + 25) (d x0 7) x1) x0 7) x2) x0 7) (((mset (mset d (x0 + 25) (d x0 7) x1) (x0 + 26) ((mset d (x0 + 25) (d x0 7) x1) x0 7) x2) x0 0) / 20)) x0 7 (((mset (mset (mset d (x0 + 25) (d x0 7) x1) (x0 + 26) ((mset d (x0 + 25) (d x0 7) x1) x0 7) x2) (x0 + 27) ((mset (mset d (x0 + 25) (d x0 7) x1) (x0 + 26) ((mset d (x0 + 25) (d x0 7) x1) x0 7) x2) x0 7) (((mset (mset d (x0 + 25) (d x0 7) x1) (x0 + 26) ((mset d (x0 + 25) (d x0 7) x1) x0 7) x2) x0 0) / 20)) x0 7) + 1)) (x0 + 15) x1 (((mset (mset (mset (mset d (x0 + 25) (d x0 7) x1) (x0 + 26) ((mset d (x0 + 25) (d x0 7) x1) x0 7) x2) (x0 + 27) ((mset (mset d (x0 + 25) (d x0 7) x1) (x0 + 26) ((mset d (x0 + 25) (d x0 7) x1) x0 7) x2) x0 7) (((mset (mset d (x0 + 25) (d x0 7) x1) (x0 + 26) ((mset d (x0 + 25) (d x0 7) x1) x0 7) x2) x0 0) / 20)) x0 7 (((mset (mset (mset d (x0 + 25) (d x0 7) x1) (x0 + 26) ((mset d (x0 + 25) (d x0 7) x1) x0 7) x2) (x0 + 27) ((mset (mset d (x0 + 25) (d x0 7) x1) (x0 + 26) ((mset d (x0 + 25) (d x0 7) x1) x0 7) x2) x0 7) (((mset (mset d (x0 + 25) (d x0 7) x1) (x0 + 26) ((mset d (x0 + 25) (d x0 7) x1) x0 7) x2) x0 0) / 20)) x0 7) + 1)) (x0 + 15) x1) + 1)) (x0 + 1) 1 ≤ (mset (mset (mset (mset (mset d (x0 + 25) (d x0 7) x1) (x0 + 26) ((mset d (x0 + 25) (d x0 7) x1) x0 7) x2) (x0 + 27) ((mset (mset d (x0 + 25) (d x0 7) x1) (x0 + 26) ((mset d (x0 + 25) (d x0 7) x1) x0 7) x2) x0 7) (((mset (mset d (x0 + 25) (d x0 7) x1) (x0 + 26) ((mset d (x0 + 25) (d x0 7) x1) x0 7) x2) x0 0) / 20)) x0 7 (((mset (mset (mset d (x0 + 25) (d x0 7) x1) (x0 + 26) ((mset d (x0 + 25) (d x0 7) x1) x0 7) x2) (x0 + 27) ((mset (mset d (x0 + 25) (d x0 7) x1) (x0 + 26) ((mset d (x0 + 25) (d x0 7) x1) x0 7) x2) x0 7) (((mset (mset d (x0 + 25) (d x0 7) x1) (x0 + 26) ((mset d (x0 + 25) (d x0 7) x1) x0 7) x2) x0 0) / 20)) x0 7) + 1)) (x0 + 15) x1 (((mset (mset (mset (mset d (x0 + 25) (d x0 7) x1) (x0 + 26) ((mset d (x0 + 25) (d x0 7) x1) x0 7) x2) (x0 + 27) ((mset (mset d (x0 + 25) (d x0 7) x1) (x0 + 26) ((mset d (x0 + 25) (d x0 7) x1) x0 7) x2) x0 7) (((mset (mset d (x0 + 25) (d x0 7) x1) (x0 + 26) ((mset d (x0 + 25) (d x0 7) x1) x0 7) x2) x0 0) / 20)) x0 7 (((mset (mset (mset d (x0 + 25) (d x0 7) x1) (x0 + 26) ((mset d (x0 + 25) (d x0 7) x1) x0 7) x2) (x0 + 27) ((mset (mset d (x0 + 25) (d x0 7) x1) (x0 + 26) ((mset d (x0 + 25) (d x0 7) x1) x0 7) x2) x0 7) (((mset (mset d (x0 + 25) (d x0 7) x1) (x0 + 26) ((mset d (x0 + 25) (d x0 7) x1) x0 7) x2) x0 0) / 20)) x0 7) + 1)) (x0 + 15) x1) + 1)) (x0 + 15) x1 → (((1 : Int) = 0 ∨ (1 : Int) = 1) ∧ 0 ≤ x1 ∧ x1 < 61) ∧ (0 ≤ x1 ∧ x1 < 61) ∧ mInR ((mset (mset (mset (mset (mset (mset d (x0 + 25) (d x0 7) x1) (x0 + 26) ((mset d (x0 + 25) (d x0 7) x1) x0 7) x2) (x0 + 27) ((mset (mset d (x0 + 25) (d x0 7) x1) (x0 + 26) ((mset d (x0 + 25) (d x0 7) x1) x0 7) x2) x0 7) (((mset (mset d (x0 + 25) (d x0 7) x1) (x0 + 26) ((mset d (x0 + 25) (d x0 7) x1) x0 7) x2) x0 0) / 20)) x0 7 (((mset (mset (mset d (x0 + 25) (d x0 7) x1) (x0 + 26) ((mset d (x0 + 25) (d x0 7) x1) x0 7) x2) (x0 + 27) ((mset (mset d (x0 + 25) (d x0 7) x1) (x0 + 26) ((mset d (x0 + 25) (d x0 7) x1) x0 7) x2) x0 7) (((mset (mset d (x0 + 25) (d x0 7) x1) (x0 + 26) ((mset d (x0 + 25) (d x0 7) x1) x0 7) x2) x0 0) / 20)) x0 7) + 1)) (x0 + 15) x1 (((mset (mset (mset (mset d (x0 + 25) (d x0 7) x1) (x0 + 26) ((mset d (x0 + 25) (d x0 7) x1) x0 7) x2) (x0 + 27) ((mset (mset d (x0 + 25) (d x0 7) x1) (x0 + 26) ((mset d (x0 + 25) (d x0 7) x1) x0 7) x2) x0 7) (((mset (mset d (x0 + 25) (d x0 7) x1) (x0 + 26) ((mset d (x0 + 25) (d x0 7) x1) x0 7) x2) x0 0) / 20)) x0 7 (((mset (mset (mset d (x0 + 25) (d x0 7) x1) (x0 + 26) ((mset d (x0 + 25) (d x0 7) x1) x0 7) x2) (x0 + 27) ((mset (mset d (x0 + 25) (d x0 7) x1) (x0 + 26) ((mset d (x0 + 25) (d x0 7) x1) x0 7) x2) x0 7) (((mset (mset d (x0 + 25) (d x0 7) x1) (x0 + 26) ((mset d (x0 + 25) (d x0 7) x1) x0 7) x2) x0 0) / 20)) x0 7) + 1)) (x0 + 15) x1) + 1)) (x0 + 17) x1 1) (x0 + 17) x1) ∧ ((mset (mset (mset (mset (mset (mset d (x0 + 25) (d x0 7) x1) (x0 + 26) ((mset d (x0 + 25) (d x0 7) x1) x0 7) x2) (x0 + 27) ((mset (mset d (x0 + 25) (d x0 7) x1) (x0 + 26) ((mset d (x0 + 25) (d x0 7) x1) x0 7) x2) x0 7) (((mset (mset d (x0 + 25) (d x0 7) x1) (x0 + 26) ((mset d (x0 + 25) (d x0 7) x1) x0 7) x2) x0 0) / 20)) x0 7 (((mset (mset (mset d (x0 + 25) (d x0 7) x1) (x0 + 26) ((mset d (x0 + 25) (d x0 7) x1) x0 7) x2) (x0 + 27) ((mset (mset d (x0 + 25) (d x0 7) x1) (x0 + 26) ((mset d (x0 + 25) (d x0 7) x1) x0 7) x2) x0 7) (((mset (mset d (x0 + 25) (d x0 7) x1) (x0 + 26) ((mset d (x0 + 25) (d x0 7) x1) x0 7) x2) x0 0) / 20)) x0 7) + 1)) (x0 + 15) x1 (((mset (mset (mset (mset d (x0 + 25) (d x0 7) x1) (x0 + 26) ((mset d (x0 + 25) (d x0 7) x1) x0 7) x2) (x0 + 27) ((mset (mset d (x0 + 25) (d x0 7) x1) (x0 + 26) ((mset d (x0 + 25) (d x0 7) x1) x0 7) x2) x0 7) (((mset (mset d (x0 + 25) (d x0 7) x1) (x0 + 26) ((mset d (x0 + 25) (d x0 7) x1) x0 7) x2) x0 0) / 20)) x0 7 (((mset (mset (mset d (x0 + 25) (d x0 7) x1) (x0 + 26) ((mset d (x0 + 25) (d x0 7) x1) x0 7) x2) (x0 + 27) ((mset (mset d (x0 + 25) (d x0 7) x1) (x0 + 26) ((mset d (x0 + 25) (d x0 7) x1) x0 7) x2) x0 7) (((mset (mset d (x0 + 25) (d x0 7) x1) (x0 + 26) ((mset d (x0 + 25) (d x0 7) x1) x0 7) x2) x0 0) / 20)) x0 7) + 1)) (x0 + 15) x1) + 1)) (x0 + 17) x1 1) (x0 + 17) x1 = 0 → K (.inl (some (0, 0))) (mset (mset (mset (mset (mset (mset d (x0 + 25) (d x0 7) x1) (x0 + 26) ((mset d (x0 + 25) (d x0 7) x1) x0 7) x2) (x0 + 27) ((mset (mset d (x0 + 25) (d x0 7) x1) (x0 + 26) ((mset d (x0 + 25) (d x0 7) x1) x0 7) x2) x0 7) (((mset (mset d (x0 + 25) (d x0 7) x1) (x0 + 26) ((mset d (x0 + 25) (d x0 7) x1) x0 7) x2) x0 0) / 20)) x0 7 (((mset (mset (mset d (x0 + 25) (d x0 7) x1) (x0 + 26) ((mset d (x0 + 25) (d x0 7) x1) x0 7) x2) (x0 + 27) ((mset (mset d (x0 + 25) (d x0 7) x1) (x0 + 26) ((mset d (x0 + 25) (d x0 7) x1) x0 7) x2) x0 7) (((mset (mset d (x0 + 25) (d x0 7) x1) (x0 + 26) ((mset d (x0 + 25) (d x0 7) x1) x0 7) x2) x0 0) / 20)) x0 7) + 1)) (x0 + 15) x1 (((mset (mset (mset (mset d (x0 + 25) (d x0 7) x1) (x0 + 26) ((mset d (x0 + 25) (d x0 7) x1) x0 7) x2) (x0 + 27) ((mset (mset d (x0 + 25) (d x0 7) x1) (x0 + 26) ((mset d (x0 + 25) (d x0 7) x1) x0 7) x2) x0 7) (((mset (mset d (x0 + 25) (d x0 7) x1) (x0 + 26) ((mset d (x0 + 25) (d x0 7) x1) x0 7) x2) x0 0) / 20)) x0 7 (((mset (mset (mset d (x0 + 25) (d x0 7) x1) (x0 + 26) ((mset d (x0 + 25) (d x0 7) x1) x0 7) x2) (x0 + 27) ((mset (mset d (x0 + 25) (d x0 7) x1) (x0 + 26) ((mset d (x0 + 25) (d x0 7) x1) x0 7) x2) x0 7) (((mset (mset d (x0 + 25) (d x0 7) x1) (x0 + 26) ((mset d (x0 + 25) (d x0 7) x1) x0 7) x2) x0 0) / 20)) x0 7) + 1)) (x0 + 15) x1) + 1)) (x0 + 17) x1 1)) ∧ (¬ (mset (mset (mset (mset (mset (mset d (x0 + 25) (d x0 7) x1) (x0 + 26) ((mset d (x0 + 25) (d x0 7) x1) x0 7) x2) (x0 + 27) ((mset (mset d (x0 + 25) (d x0 7) x1) (x0 + 26) ((mset d (x0 + 25) (d x0 7) x1) x0 7) x2) x0 7) (((mset (mset d (x0 + 25) (d x0 7) x1) (x0 + 26) ((mset d (x0 + 25) (d x0 7) x1) x0 7) x2) x0 0) / 20)) x0 7 (((mset (mset (mset d (x0 + 25) (d x0 7) x1) (x0 + 26) ((mset d (x0 + 25) (d x0 7) x1) x0 7) x2) (x0 + 27) ((mset (mset d (x0 + 25) (d x0 7) x1) (x0 + 26) ((mset d (x0 + 25) (d x0 7) x1) x0 7) x2) x0 7) (((mset (mset d (x0 + 25) (d x0 7) x1) (x0 + 26) ((mset d (x0 + 25) (d x0 7) x1) x0 7) x2) x0 0) / 20)) x0 7) + 1)) (x0 + 15) x1 (((mset (mset (mset (mset d (x0 + 25) (d x0 7) x1) (x0 + 26) ((mset d (x0 + 25) (d x0 7) x1) x0 7) x2) (x0 + 27) ((mset (mset d (x0 + 25) (d x0 7) x1) (x0 + 26) ((mset d (x0 + 25) (d x0 7) x1) x0 7) x2) x0 7) (((mset (mset d (x0 + 25) (d x0 7) x1) (x0 + 26) ((mset d (x0 + 25) (d x0 7) x1) x0 7) x2) x0 0) / 20)) x0 7 (((mset (mset (mset d (x0 + 25) (d x0 7) x1) (x0 + 26) ((mset d (x0 + 25) (d x0 7) x1) x0 7) x2) (x0 + 27) ((mset (mset d (x0 + 25) (d x0 7) x1) (x0 + 26) ((mset d (x0 + 25) (d x0 7) x1) x0 7) x2) x0 7) (((mset (mset d (x0 + 25) (d x0 7) x1) (x0 + 26) ((mset d (x0 + 25) (d x0 7) x1) x0 7) x2) x0 0) / 20)) x0 7) + 1)) (x0 + 15) x1) + 1)) (x0 + 17) x1 1) (x0 + 17) x1 = 0 → tCall E 349 [.inr (41, x0), .inl (0, x1)] (mset (mset (mset (mset (mset (mset d (x0 + 25) (d x0 7) x1) (x0 + 26) ((mset d (x0 + 25) (d x0 7) x1) x0 7) x2) (x0 + 27) ((mset (mset d (x0 + 25) (d x0 7) x1) (x0 + 26) ((mset d (x0 + 25) (d x0 7) x1) x0 7) x2) x0 7) (((mset (mset d (x0 + 25) (d x0 7) x1) (x0 + 26) ((mset d (x0 + 25) (d x0 7) x1) x0 7) x2) x0 0) / 20)) x0 7 (((mset (mset (mset d (x0 + 25) (d x0 7) x1) (x0 + 26) ((mset d (x0 + 25) (d x0 7) x1) x0 7) x2) (x0 + 27) ((mset (mset d (x0 + 25) (d x0 7) x1) (x0 + 26) ((mset d (x0 + 25) (d x0 7) x1) x0 7) x2) x0 7) (((mset (mset d (x0 + 25) (d x0 7) x1) (x0 + 26) ((mset d (x0 + 25) (d x0 7) x1) x0 7) x2) x0 0) / 20)) x0 7) + 1)) (x0 + 15) x1 (((mset (mset (mset (mset d (x0 + 25) (d x0 7) x1) (x0 + 26) ((mset d (x0 + 25) (d x0 7) x1) x0 7) x2) (x0 + 27) ((mset (mset d (x0 + 25) (d x0 7) x1) (x0 + 26) ((mset d (x0 + 25) (d x0 7) x1) x0 7) x2) x0 7) (((mset (mset d (x0 + 25) (d x0 7) x1) (x0 + 26) ((mset d (x0 + 25) (d x0 7) x1) x0 7) x2) x0 0) / 20)) x0 7 (((mset (mset (mset d (x0 + 25) (d x0 7) x1) (x0 + 26) ((mset d (x0 + 25) (d x0 7) x1) x0 7) x2) (x0 + 27) ((mset (mset d (x0 + 25) (d x0 7) x1) (x0 + 26) ((mset d (x0 + 25) (d x0 7) x1) x0 7) x2) x0 7) (((mset (mset d (x0 + 25) (d x0 7) x1) (x0 + 26) ((mset d (x0 + 25) (d x0 7) x1) x0 7) x2) x0 0) / 20)) x0 7) + 1)) (x0 + 15) x1) + 1)) (x0 + 17) x1 1) (tbk E 361 93 [.inr (41, x0), .inl (0, x1), .inl (0, x2)] [] 0 0 K)))) :
  tRun E 361 (0, [.inr (41, x0), .inl (0, x1), .inl (0, x2)], [], 0, 0, d) K := tT_run (cut := [0, 96]) 58 _ h
theorem t_361_96 {E : mO × tW} {K : tK} {d : mD} {x0 x1 x2 y0 : Int}
  (h : K (.inl (some (0, y0))) d) :
  tRun E 361 (96, [.inr (41, x0), .inl (0, x1), .inl (0, x2)], [.inl (0, y0)], 0, 0, d) K := tT_run (cut := [0, 96]) 2 _ h
theorem t_362_0 {E : mO × tW} {K : tK} {d : mD} {x0 x1 x2 : Int}
  (h : tRun E 362 (5, [.inr (41, x0), .inl (0, x1), .inl (0, x2), .inl (0, 0), .inl (0, 0)], [], 0, 0, d) K) :
  tRun E 362 (0, [.inr (41, x0), .inl (0, x1), .inl (0, x2), tu, tu], [], 0, 0, d) K := tT_run (cut := [0, 5]) 4 _ h
theorem t_362_5 {E : mO × tW} {K : tK} {d : mD} {x0 x1 x2 x3 x4 : Int}
  (h : (mInR x4 ∧ mInR (d x0 5)) ∧ (d x0 5 ≤ x4 → K (.inl (some (0, x3))) d) ∧ (x4 < d x0 5 → (0 ≤ x4 ∧ x4 < 200) ∧ (mInR (d (x0 + 19) x4) ∧ mInR x1) ∧ (¬ d (x0 + 19) x4 = x1 → tRun E 362 (5, [.inr (41, x0), .inl (0, x1), .inl (0, x2), .inl (0, x3 + 0), .inl (0, x4 + 1)], [], 0, 0, d) K) ∧ (d (x0 + 19) x4 = x1 → (0 ≤ x4 ∧ x4 < 200) ∧ (mInR (d (x0 + 22) x4) ∧ mInR x2) ∧ (¬ d (x0 + 22) x4 = x2 → tRun E 362 (5, [.inr (41, x0), .inl (0, x1), .inl (0, x2), .inl (0, x3 + 0), .inl (0, x4 + 1)], [], 0, 0, d) K) ∧ (d (x0 + 22) x4 = x2 → tRun E 362 (5, [.inr (41, x0), .inl (0, x1), .inl (0, x2), .inl (0, x3 + 1), .inl (0, x4 + 1)], [], 0, 0, d) K)))) :
  tRun E 362 (5, [.inr (41, x0), .inl (0, x1), .inl (0, x2), .inl (0, x3), .inl (0, x4)], [], 0, 0, d) K := tT_run (cut := [0, 5]) 23 _ h
theorem t_363_0 {E : mO × tW} {K : tK} {d : mD} {x0 x1 : Int}
  (h : tRun E 363 (2, [.inr (41, x0), .inl (0, x1), .inl (0, 0)], [], 0, 0, d) K) :
  tRun E 363 (0, [.inr (41, x0), .inl (0, x1), tu], [], 0, 0, d) K := tT_run (cut := [0, 2]) 2 _ h
theorem t_363_2 {E : mO × tW} {K : tK} {d : mD} {x0 x1 x2 : Int}
  (h : (mInR x2 ∧ mInR (d x0 5)) ∧ (d x0 5 ≤ x2 → K (.inl (some (0, (-1)))) d) ∧ (x2 < d x0 5 → (0 ≤ x2 ∧ x2 < 200) ∧ (mInR (d (x0 + 19) x2) ∧ mInR x1) ∧ (¬ d (x0 + 19) x2 = x1 → tRun E 363 (2, [.inr (41, x0), .inl (0, x1), .inl (0, x2 + 1)], [], 0, 0, d) K) ∧ (d (x0 + 19) x2 = x1 → (0 ≤ x2 ∧ x2 < 200) ∧ mInR (d (x0 + 22) x2) ∧ (¬ d (x0 + 22) x2 = 0 → tRun E 363 (2, [.inr (41, x0), .inl (0, x1), .inl (0, x2 + 1)], [], 0, 0, d) K) ∧ (d (x0 + 22) x2 = 0 → K (.inl (some (0, x2))) d)))) :
  tRun E 363 (2, [.inr (41, x0), .inl (0, x1), .inl (0, x2)], [], 0, 0, d) K := tT_run (cut := [0, 2]) 17 _ h
theorem t_364_0 {E : mO × tW} {K : tK} {d : mD} {x0 x1 x2 : Int}
  (h : (mInR x1 ∧ mInR x2) ∧ (x1 = x2 → ((0 : Int) = 0 ∨ (0 : Int) = 1) ∧ K (.inl (some (0, 0))) d) ∧ (¬ x1 = x2 → (0 ≤ x1 ∧ x1 < 6) ∧ mInR (d (x0 + 8) x1) ∧ (d (x0 + 8) x1 = 0 → ((0 : Int) = 0 ∨ (0 : Int) = 1) ∧ K (.inl (some (0, 0))) d) ∧ (¬ d (x0 + 8) x1 = 0 → (0 ≤ x2 ∧ x2 < 6) ∧ mInR (d (x0 + 8) x2) ∧ (d (x0 + 8) x2 = 0 → ((0 : Int) = 0 ∨ (0 : Int) = 1) ∧ K (.inl (some (0, 0))) d) ∧ (¬ d (x0 + 8) x2 = 0 → ((1 : Int) = 0 ∨ (1 : Int) = 1) ∧ K (.inl (some (0, 1))) d)))) :
  tRun E 364 (0, [.inr (41, x0), .inl (0, x1), .inl (0, x2)], [], 0, 0, d) K := tT_run (cut := [0]) 16 _ h
/-! ===== the numbers' source ===== -/
theorem miushr16 (x : Int) : 0 ≤ miushr x 16 ∧ miushr x 16 ≤ 65535 := by
  unfold miushr mI
  have e : ((Int32.ofInt 16).toUInt32 &&& Int32.toUInt32 31) = 16 := by decide
  show 0 ≤ (((Int32.ofInt x).toUInt32 >>> ((Int32.ofInt 16).toUInt32 &&& Int32.toUInt32 31)).toInt32).toInt ∧ (((Int32.ofInt x).toUInt32 >>> ((Int32.ofInt 16).toUInt32 &&& Int32.toUInt32 31)).toInt32).toInt ≤ 65535
  rw [e]
  generalize (Int32.ofInt x).toUInt32 = u
  have h1 : (u >>> 16).toNat = u.toNat >>> 16 := by
    rw [UInt32.toNat_shiftRight]
    rfl
  have h2 := u.toNat_lt
  rw [Nat.shiftRight_eq_div_pow] at h1
  have h3 : (u >>> 16).toNat < 65536 := by omega
  have h4 : ((u >>> 16).toInt32).toInt = ((u >>> 16).toNat : Int) := by
    show (u >>> 16).toBitVec.toInt = ((u >>> 16).toBitVec.toNat : Int)
    exact BitVec.toInt_eq_toNat_of_lt (by show 2 * (u >>> 16).toNat < 2 ^ 32; omega)
  rw [h4]
  omega
theorem k_342 {E : mO × tW} {K : tK} {d : mD} {x0 x1 : Int} (h1 : 1 ≤ x1 ∧ x1 ≤ 2147483647) (h : ∀ x r : Int, 0 ≤ r → r < x1 → r ≤ 65535 → K (.inl (some (0, r))) (mset d x0 0 x)) : tCall E 342 [.inr (40, x0), .inl (0, x1)] d K := by
  refine t_342_0 ?_
  have q := miushr16 ((mset d x0 0 (((d x0 0) * 1103515245) + 12345)) x0 0)
  refine ⟨by omega, ?_⟩
  have e1 := Int.emod_nonneg (miushr ((mset d x0 0 (((d x0 0) * 1103515245) + 12345)) x0 0) 16) (show x1 ≠ 0 by omega)
  have e2 := Int.emod_lt_of_pos (miushr ((mset d x0 0 (((d x0 0) * 1103515245) + 12345)) x0 0) 16) (show 0 < x1 by omega)
  have e3 : (miushr ((mset d x0 0 (((d x0 0) * 1103515245) + 12345)) x0 0) 16) % x1 ≤ miushr ((mset d x0 0 (((d x0 0) * 1103515245) + 12345)) x0 0) 16 := by
    rcases Int.lt_or_le (miushr ((mset d x0 0 (((d x0 0) * 1103515245) + 12345)) x0 0) 16) x1 with c | c
    · rw [Int.emod_eq_of_lt q.1 c]
      exact Int.le_refl _
    · omega
  exact h _ _ e1 e2 (by omega)
/-! ===== World.takes: printed by a program of mine ===== -/
theorem mz_a {d : mD} {a i v b j : Int} (h : ¬ b = a) : mset d a i v b j = d b j := by simp [mset, h]
theorem mz_i {d : mD} {a i v b j : Int} (h : ¬ j = i) : mset d a i v b j = d b j := by simp [mset, h]
theorem t_345_0_14 {E : mO × tW} {K : tK} {d : mD} {x0 x1 : Int}
  (h : (0 ≤ (0 : Int) ∧ 0 ≤ (0 : Int) ∧ 0 ≤ (5 : Int) ∧ (0 : Int) + (5 : Int) ≤ 5 ∧ (0 : Int) + (5 : Int) ≤ 5) ∧ K (.inl none) (mcopy d x0 0 x1 0 5)) :
  tRun E 345 (0, [.inr (14, x0), .inr (14, x1)], [], 0, 0, d) K := tT_run (cut := [0]) 8 _ h
theorem k_345_14 {E : mO × tW} {K : tK} {d : mD} {x0 x1 : Int} (h : K (.inl none) (mcopy d x0 0 x1 0 5)) : tCall E 345 [.inr (14, x0), .inr (14, x1)] d K := by
  refine t_345_0_14 ?_
  exact ⟨by decide, h⟩
theorem t_345_0_15 {E : mO × tW} {K : tK} {d : mD} {x0 x1 : Int}
  (h : (0 ≤ (0 : Int) ∧ 0 ≤ (0 : Int) ∧ 0 ≤ (6 : Int) ∧ (0 : Int) + (6 : Int) ≤ 6 ∧ (0 : Int) + (6 : Int) ≤ 6) ∧ K (.inl none) (mcopy d x0 0 x1 0 6)) :
  tRun E 345 (0, [.inr (15, x0), .inr (15, x1)], [], 0, 0, d) K := tT_run (cut := [0]) 8 _ h
theorem k_345_15 {E : mO × tW} {K : tK} {d : mD} {x0 x1 : Int} (h : K (.inl none) (mcopy d x0 0 x1 0 6)) : tCall E 345 [.inr (15, x0), .inr (15, x1)] d K := by
  refine t_345_0_15 ?_
  exact ⟨by decide, h⟩
theorem t_345_0_18 {E : mO × tW} {K : tK} {d : mD} {x0 x1 : Int}
  (h : (0 ≤ (0 : Int) ∧ 0 ≤ (0 : Int) ∧ 0 ≤ (16 : Int) ∧ (0 : Int) + (16 : Int) ≤ 16 ∧ (0 : Int) + (16 : Int) ≤ 16) ∧ K (.inl none) (mcopy d x0 0 x1 0 16)) :
  tRun E 345 (0, [.inr (18, x0), .inr (18, x1)], [], 0, 0, d) K := tT_run (cut := [0]) 8 _ h
theorem k_345_18 {E : mO × tW} {K : tK} {d : mD} {x0 x1 : Int} (h : K (.inl none) (mcopy d x0 0 x1 0 16)) : tCall E 345 [.inr (18, x0), .inr (18, x1)] d K := by
  refine t_345_0_18 ?_
  exact ⟨by decide, h⟩
theorem t_345_0_42 {E : mO × tW} {K : tK} {d : mD} {x0 x1 : Int}
  (h : (0 ≤ (0 : Int) ∧ 0 ≤ (0 : Int) ∧ 0 ≤ (366 : Int) ∧ (0 : Int) + (366 : Int) ≤ 366 ∧ (0 : Int) + (366 : Int) ≤ 366) ∧ K (.inl none) (mcopy d x0 0 x1 0 366)) :
  tRun E 345 (0, [.inr (42, x0), .inr (42, x1)], [], 0, 0, d) K := tT_run (cut := [0]) 8 _ h
theorem k_345_42 {E : mO × tW} {K : tK} {d : mD} {x0 x1 : Int} (h : K (.inl none) (mcopy d x0 0 x1 0 366)) : tCall E 345 [.inr (42, x0), .inr (42, x1)] d K := by
  refine t_345_0_42 ?_
  exact ⟨by decide, h⟩
theorem t_345_0_43 {E : mO × tW} {K : tK} {d : mD} {x0 x1 : Int}
  (h : (0 ≤ (0 : Int) ∧ 0 ≤ (0 : Int) ∧ 0 ≤ (61 : Int) ∧ (0 : Int) + (61 : Int) ≤ 61 ∧ (0 : Int) + (61 : Int) ≤ 61) ∧ K (.inl none) (mcopy d x0 0 x1 0 61)) :
  tRun E 345 (0, [.inr (43, x0), .inr (43, x1)], [], 0, 0, d) K := tT_run (cut := [0]) 8 _ h
theorem k_345_43 {E : mO × tW} {K : tK} {d : mD} {x0 x1 : Int} (h : K (.inl none) (mcopy d x0 0 x1 0 61)) : tCall E 345 [.inr (43, x0), .inr (43, x1)] d K := by
  refine t_345_0_43 ?_
  exact ⟨by decide, h⟩
theorem t_345_0_22 {E : mO × tW} {K : tK} {d : mD} {x0 x1 : Int}
  (h : (0 ≤ (0 : Int) ∧ 0 ≤ (0 : Int) ∧ 0 ≤ (200 : Int) ∧ (0 : Int) + (200 : Int) ≤ 200 ∧ (0 : Int) + (200 : Int) ≤ 200) ∧ K (.inl none) (mcopy d x0 0 x1 0 200)) :
  tRun E 345 (0, [.inr (22, x0), .inr (22, x1)], [], 0, 0, d) K := tT_run (cut := [0]) 8 _ h
theorem k_345_22 {E : mO × tW} {K : tK} {d : mD} {x0 x1 : Int} (h : K (.inl none) (mcopy d x0 0 x1 0 200)) : tCall E 345 [.inr (22, x0), .inr (22, x1)] d K := by
  refine t_345_0_22 ?_
  exact ⟨by decide, h⟩
-- the rows l are taken
def TKS (x0 x1 : Int) (d0 : mD) (l : List Nat) (d : mD) : Prop := (∀ c, c < x0 ∨ x0 + 27 < c → d c = d0 c) ∧ (∀ i, d x0 i = if 0 ≤ i ∧ i < 8 then d0 x1 i else d0 x0 i) ∧ ∀ k : Nat, k ∈ l → ∀ i, 0 ≤ i → i < tl (tpy (839 + k)) → d (x0 + (k : Int)) i = d0 (x1 + (k : Int)) i
theorem tks_step {x0 x1 : Int} {d0 d : mD} {l : List Nat} {n a b : Int} (k : Nat) (hk : 1 ≤ k ∧ k ≤ 27) (hn : n = tl (tpy (839 + k))) (hx : x0 + 27 < x1 ∨ x1 + 27 < x0) (ha : a = x1 + (k : Int)) (hb : b = x0 + (k : Int)) (h : TKS x0 x1 d0 l d) : TKS x0 x1 d0 (k :: l) (mcopy d a 0 b 0 n) := by
  subst ha
  subst hb
  obtain ⟨h1, h2, h3⟩ := h
  refine ⟨fun c hc => ?_, fun i => ?_, fun q hq i i0 i1 => ?_⟩
  · rw [← h1 c hc]
    funext i
    unfold mcopy
    rw [if_neg (by omega)]
  · rw [← h2 i]
    unfold mcopy
    rw [if_neg (by omega)]
  · unfold mcopy
    by_cases e : q = k
    · subst e
      rw [if_pos ⟨rfl, i0, by omega⟩, h1 (x1 + (q : Int)) (by omega)]
      congr 1
      omega
    · have hq2 : q ∈ l := by
        rcases List.mem_cons.mp hq with c | c
        · exact absurd c e
        · exact c
      rw [if_neg (by omega)]
      exact h3 q hq2 i i0 i1
theorem tks_0 {x0 x1 : Int} {d : mD} (hx : x0 + 27 < x1 ∨ x1 + 27 < x0) : TKS x0 x1 d [] (mset (mset (mset (mset (mset (mset (mset (mset d x0 0 (d x1 0)) x0 1 (d x1 1)) x0 2 (d x1 2)) x0 3 (d x1 3)) x0 4 (d x1 4)) x0 5 (d x1 5)) x0 6 (d x1 6)) x0 7 (d x1 7)) := by
  refine ⟨fun c hc => ?_, fun i => ?_, fun k hk => by cases hk⟩
  · funext i
    simp (disch := omega) only [mset, if_neg (show ¬ (c = x0 ∧ _) from fun z => by omega)]
    repeat rw [if_neg (by omega)]
  · unfold mset
    repeat' split
    all_goals first
      | omega
      | (rename_i q _; obtain ⟨-, rfl⟩ := q; rfl)
      | rfl
      | skip
theorem k_344 {E : mO × tW} {K : tK} {d : mD} {x0 x1 : Int} (hx : x0 + 27 < x1 ∨ x1 + 27 < x0) (hb : ∀ k i : Int, k = 8 ∨ k = 16 ∨ k = 17 ∨ k = 18 → d (x1 + k) i = 0 ∨ d (x1 + k) i = 1) (h : ∀ d2, TKS x0 x1 d [18, 17, 16, 8, 27, 26, 25, 24, 23, 22, 21, 20, 19, 15, 14, 13, 12, 11, 10, 9, 7, 6, 5, 4, 3, 2, 1] d2 → K (.inl none) d2) : tCall E 344 [.inr (41, x0), .inr (41, x1)] d K := by
  have h0 := tks_0 (d := d) hx
  refine t_344_0 ?_
  simp (disch := omega) only [mz_i, mz_a]
  refine k_345_14 ?_
  have h1 := tks_step 1 (by decide) (n := 5) rfl hx rfl rfl h0
  generalize mcopy _ (x1 + 1) 0 (x0 + 1) 0 5 = d1 at h1 ⊢
  refine t_344_75 ?_
  refine k_345_15 ?_
  have h2 := tks_step 2 (by decide) (n := 6) rfl hx rfl rfl h1
  generalize mcopy _ (x1 + 2) 0 (x0 + 2) 0 6 = d2 at h2 ⊢
  refine t_344_86 ?_
  refine k_345_15 ?_
  have h3 := tks_step 3 (by decide) (n := 6) rfl hx rfl rfl h2
  generalize mcopy _ (x1 + 3) 0 (x0 + 3) 0 6 = d3 at h3 ⊢
  refine t_344_97 ?_
  refine k_345_15 ?_
  have h4 := tks_step 4 (by decide) (n := 6) rfl hx rfl rfl h3
  generalize mcopy _ (x1 + 4) 0 (x0 + 4) 0 6 = d4 at h4 ⊢
  refine t_344_108 ?_
  refine k_345_15 ?_
  have h5 := tks_step 5 (by decide) (n := 6) rfl hx rfl rfl h4
  generalize mcopy _ (x1 + 5) 0 (x0 + 5) 0 6 = d5 at h5 ⊢
  refine t_344_119 ?_
  refine k_345_15 ?_
  have h6 := tks_step 6 (by decide) (n := 6) rfl hx rfl rfl h5
  generalize mcopy _ (x1 + 6) 0 (x0 + 6) 0 6 = d6 at h6 ⊢
  refine t_344_130 ?_
  refine k_345_18 ?_
  have h7 := tks_step 7 (by decide) (n := 16) rfl hx rfl rfl h6
  generalize mcopy _ (x1 + 7) 0 (x0 + 7) 0 16 = d7 at h7 ⊢
  refine t_344_141 ?_
  refine k_345_42 ?_
  have h8 := tks_step 9 (by decide) (n := 366) rfl hx rfl rfl h7
  generalize mcopy _ (x1 + 9) 0 (x0 + 9) 0 366 = d8 at h8 ⊢
  refine t_344_152 ?_
  refine k_345_43 ?_
  have h9 := tks_step 10 (by decide) (n := 61) rfl hx rfl rfl h8
  generalize mcopy _ (x1 + 10) 0 (x0 + 10) 0 61 = d9 at h9 ⊢
  refine t_344_163 ?_
  refine k_345_43 ?_
  have h10 := tks_step 11 (by decide) (n := 61) rfl hx rfl rfl h9
  generalize mcopy _ (x1 + 11) 0 (x0 + 11) 0 61 = d10 at h10 ⊢
  refine t_344_174 ?_
  refine k_345_43 ?_
  have h11 := tks_step 12 (by decide) (n := 61) rfl hx rfl rfl h10
  generalize mcopy _ (x1 + 12) 0 (x0 + 12) 0 61 = d11 at h11 ⊢
  refine t_344_185 ?_
  refine k_345_43 ?_
  have h12 := tks_step 13 (by decide) (n := 61) rfl hx rfl rfl h11
  generalize mcopy _ (x1 + 13) 0 (x0 + 13) 0 61 = d12 at h12 ⊢
  refine t_344_196 ?_
  refine k_345_43 ?_
  have h13 := tks_step 14 (by decide) (n := 61) rfl hx rfl rfl h12
  generalize mcopy _ (x1 + 14) 0 (x0 + 14) 0 61 = d13 at h13 ⊢
  refine t_344_207 ?_
  refine k_345_43 ?_
  have h14 := tks_step 15 (by decide) (n := 61) rfl hx rfl rfl h13
  generalize mcopy _ (x1 + 15) 0 (x0 + 15) 0 61 = d14 at h14 ⊢
  refine t_344_218 ?_
  refine k_345_22 ?_
  have h15 := tks_step 19 (by decide) (n := 200) rfl hx rfl rfl h14
  generalize mcopy _ (x1 + 19) 0 (x0 + 19) 0 200 = d15 at h15 ⊢
  refine t_344_229 ?_
  refine k_345_22 ?_
  have h16 := tks_step 20 (by decide) (n := 200) rfl hx rfl rfl h15
  generalize mcopy _ (x1 + 20) 0 (x0 + 20) 0 200 = d16 at h16 ⊢
  refine t_344_240 ?_
  refine k_345_22 ?_
  have h17 := tks_step 21 (by decide) (n := 200) rfl hx rfl rfl h16
  generalize mcopy _ (x1 + 21) 0 (x0 + 21) 0 200 = d17 at h17 ⊢
  refine t_344_251 ?_
  refine k_345_22 ?_
  have h18 := tks_step 22 (by decide) (n := 200) rfl hx rfl rfl h17
  generalize mcopy _ (x1 + 22) 0 (x0 + 22) 0 200 = d18 at h18 ⊢
  refine t_344_262 ?_
  refine k_345_22 ?_
  have h19 := tks_step 23 (by decide) (n := 200) rfl hx rfl rfl h18
  generalize mcopy _ (x1 + 23) 0 (x0 + 23) 0 200 = d19 at h19 ⊢
  refine t_344_273 ?_
  refine k_345_22 ?_
  have h20 := tks_step 24 (by decide) (n := 200) rfl hx rfl rfl h19
  generalize mcopy _ (x1 + 24) 0 (x0 + 24) 0 200 = d20 at h20 ⊢
  refine t_344_284 ?_
  refine k_345_22 ?_
  have h21 := tks_step 25 (by decide) (n := 200) rfl hx rfl rfl h20
  generalize mcopy _ (x1 + 25) 0 (x0 + 25) 0 200 = d21 at h21 ⊢
  refine t_344_295 ?_
  refine k_345_22 ?_
  have h22 := tks_step 26 (by decide) (n := 200) rfl hx rfl rfl h21
  generalize mcopy _ (x1 + 26) 0 (x0 + 26) 0 200 = d22 at h22 ⊢
  refine t_344_306 ?_
  refine k_345_22 ?_
  have h23 := tks_step 27 (by decide) (n := 200) rfl hx rfl rfl h22
  generalize mcopy _ (x1 + 27) 0 (x0 + 27) 0 200 = d23 at h23 ⊢
  refine t_344_317 ?_
  have b1 : ∀ c i : Int, (c = 8 ∨ c = 16 ∨ c = 17 ∨ c = 18) → d23 (x1 + c) i = 0 ∨ d23 (x1 + c) i = 1 := fun c i hc => by
    rw [h23.1 (x1 + c) (by omega)]
    exact hb c i hc
  refine ⟨⟨by decide, by decide, by decide, by decide, by decide, fun i _ _ => b1 8 i (by decide)⟩, ⟨by decide, by decide, by decide, by decide, by decide, fun i _ _ => ?_⟩, ⟨by decide, by decide, by decide, by decide, by decide, fun i _ _ => ?_⟩, ⟨by decide, by decide, by decide, by decide, by decide, fun i _ _ => ?_⟩, ?_⟩
  · rw [mcopy_ne (by omega)]
    exact b1 16 i (by decide)
  · rw [mcopy_ne (by omega), mcopy_ne (by omega)]
    exact b1 17 i (by decide)
  · rw [mcopy_ne (by omega), mcopy_ne (by omega), mcopy_ne (by omega)]
    exact b1 18 i (by decide)
  · exact h _ (tks_step 18 (by decide) rfl hx rfl rfl (tks_step 17 (by decide) rfl hx rfl rfl (tks_step 16 (by decide) rfl hx rfl rfl (tks_step 8 (by decide) rfl hx rfl rfl h23))))
/-! ===== working on the typed machine ===== -/
theorem t_rounds {E : mO × tW} {m : Nat} {K : tK} (st : Int → mD → tSt) (Inv : Int → mD → Prop) {N : Int} (hN : 0 ≤ N) (h1 : ∀ i d, 0 ≤ i → i < N → Inv i d → (∀ d', Inv (i + 1) d' → tRun E m (st (i + 1) d') K) → tRun E m (st i d) K) (h2 : ∀ d, Inv N d → tRun E m (st N d) K) {d : mD} (h0 : Inv 0 d) : tRun E m (st 0 d) K := by
  have h : ∀ n : Nat, (n : Int) ≤ N → ∀ d, Inv (N - (n : Int)) d → tRun E m (st (N - (n : Int)) d) K := by
    intro n
    induction n with
    | zero =>
      intro _ d hd
      have e : N - ((0 : Nat) : Int) = N := by omega
      rw [e] at hd ⊢
      exact h2 d hd
    | succ n ih =>
      intro hn d hd
      refine h1 _ d (by omega) (by omega) hd (fun d' hd' => ?_)
      have e : N - ((n + 1 : Nat) : Int) + 1 = N - (n : Int) := by omega
      rw [e] at hd' ⊢
      exact ih (by omega) d' hd'
  have h9 := h N.toNat (by omega)
  have e : N - (N.toNat : Int) = 0 := by omega
  rw [e] at h9
  exact h9 d h0
theorem t_count {E : mO × tW} {m : Nat} {K : tK} (st : Int → tSt) {N : Int} (hN : 0 ≤ N) (h1 : ∀ i, 0 ≤ i → i < N → tRun E m (st (i + 1)) K → tRun E m (st i) K) (h2 : tRun E m (st N) K) : tRun E m (st 0) K :=
  t_rounds (fun i _ => st i) (fun _ _ => True) hN (fun i d a b _ k => h1 i a b (k d trivial)) (fun _ _ => h2) (d := fun _ _ => 0) trivial
theorem t_find {E : mO × tW} {m : Nat} {K : tK} (st : Int → tSt) (p : Int → Prop) {N : Int} (hN : 0 ≤ N) (h1 : ∀ i, 0 ≤ i → i < N → (∀ j, 0 ≤ j → j < i → ¬ p j) → (¬ p i → tRun E m (st (i + 1)) K) → tRun E m (st i) K) (h2 : (∀ j, 0 ≤ j → j < N → ¬ p j) → tRun E m (st N) K) : tRun E m (st 0) K :=
  t_rounds (fun i _ => st i) (fun i _ => ∀ j, 0 ≤ j → j < i → ¬ p j) hN (fun i d a b hi k => h1 i a b hi (fun hn => k d (fun j h0 hj => by
    by_cases e : j = i
    · rw [e]; exact hn
    · exact hi j h0 (by omega)))) (fun _ h => h2 h) (d := fun _ _ => 0) (fun j h0 hj => absurd hj (by omega))
-- the first place
def isF (p : Int → Prop) (n r : Int) : Prop := (r = -1 ∧ ∀ j, 0 ≤ j → j < n → ¬ p j) ∨ (0 ≤ r ∧ r < n ∧ p r ∧ ∀ j, 0 ≤ j → j < r → ¬ p j)
-- sums
def csum (f : Int → Int) : Nat → Int
  | 0 => 0
  | n + 1 => csum f n + f (n : Int)
theorem csum_s (f : Int → Int) {i : Int} (h : 0 ≤ i) : csum f (i + 1).toNat = csum f i.toNat + f i := by
  have e : (i + 1).toNat = i.toNat + 1 := by omega
  rw [e]
  show csum f i.toNat + f (i.toNat : Int) = _
  rw [Int.toNat_of_nonneg h]
theorem csum_congr {f g : Int → Int} {n : Nat} (h : ∀ i : Int, 0 ≤ i → i < (n : Int) → f i = g i) : csum f n = csum g n := by
  induction n with
  | zero => rfl
  | succ n ih =>
    show csum f n + f (n : Int) = csum g n + g (n : Int)
    rw [ih (fun i h0 h1 => h i h0 (by omega)), h (n : Int) (by omega) (by omega)]
theorem csum_rng {f : Int → Int} {n : Nat} {B : Int} (h : ∀ i : Int, 0 ≤ i → i < (n : Int) → 0 ≤ f i ∧ f i ≤ B) : 0 ≤ csum f n ∧ csum f n ≤ (n : Int) * B := by
  induction n with
  | zero => exact ⟨Int.le_refl 0, by simp [csum]⟩
  | succ n ih =>
    have h1 := ih (fun i h0 h1 => h i h0 (by omega))
    have h2 := h (n : Int) (by omega) (by omega)
    have e : ((n + 1 : Nat) : Int) * B = (n : Int) * B + B := by
      rw [Int.natCast_add, Int.add_mul]
      simp
    show 0 ≤ csum f n + f (n : Int) ∧ csum f n + f (n : Int) ≤ _
    rw [e]
    omega
/-! ===== bits ===== -/
theorem n32 {n : Nat} (h : n < 2147483648) : (Int32.ofInt (n : Int)).toBitVec.toNat = n := by
  show (BitVec.ofInt 32 (n : Int)).toNat = n
  rw [BitVec.toNat_ofInt]
  omega
theorem i32n {v : Int32} (h : v.toBitVec.toNat < 2147483648) : v.toInt = (v.toBitVec.toNat : Int) := by
  show v.toBitVec.toInt = _
  exact BitVec.toInt_eq_toNat_of_lt (by omega)
theorem mishl5_n {n : Nat} (h : n < 33554432) : (Int32.ofInt (n : Int) <<< (Int32.ofInt 5 &&& 31)).toBitVec.toNat = 32 * n := by
  have e : (Int32.ofInt 5 &&& 31) = (5 : Int32) := by decide
  rw [e, Int32.toBitVec_shiftLeft]
  have e2 : ((5 : Int32).toBitVec.smod 32) = 5#32 := by decide
  rw [e2, BitVec.shiftLeft_eq', BitVec.toNat_shiftLeft, n32 (by omega)]
  show n <<< 5 % 4294967296 = _
  rw [Nat.shiftLeft_eq]
  omega
theorem mname_or (x c : Int) : (0 ≤ x ∧ x < 33554432 ∧ 1 ≤ c ∧ c ≤ 31 ∧ mior (mishl x 5) c = 32 * x + c) ∨ x < 0 ∨ 33554432 ≤ x ∨ c < 1 ∨ 31 < c := by
  by_cases h : 0 ≤ x ∧ x < 33554432 ∧ 1 ≤ c ∧ c ≤ 31
  · left
    obtain ⟨h0, h1, h2, h3⟩ := h
    refine ⟨h0, h1, h2, h3, ?_⟩
    obtain ⟨n, rfl⟩ := Int.eq_ofNat_of_zero_le h0
    obtain ⟨k, rfl⟩ := Int.eq_ofNat_of_zero_le (show 0 ≤ c by omega)
    have hs : mishl (n : Int) 5 = ((32 * n : Nat) : Int) := by
      unfold mishl mI
      have := mishl5_n (n := n) (by omega)
      rw [i32n (by rw [this]; omega), this]
    rw [hs]
    unfold mior mI
    have hb : (Int32.ofInt ((32 * n : Nat) : Int) ||| Int32.ofInt (k : Int)).toBitVec.toNat = 32 * n + k := by
      rw [Int32.toBitVec_or, BitVec.toNat_or, n32 (by omega), n32 (by omega)]
      have := Nat.shiftLeft_add_eq_or_of_lt (b := k) (i := 5) (by omega) n
      rw [Nat.shiftLeft_eq] at this
      rw [show 32 * n = n * 2 ^ 5 by omega, ← this]
    rw [i32n (by rw [hb]; omega), hb]
    omega
  · omega
theorem mishr6_n : ∀ n : Fin 1000, mishr ((n : Nat) : Int) 6 = ((n.val / 64 : Nat) : Int) := by decide +kernel
theorem mishr6_r (x : Int) : (mishr x 6 = x / 64 ∧ 0 ≤ x ∧ x ≤ 999) ∨ x < 0 ∨ 999 < x := by
  by_cases h : 0 ≤ x ∧ x ≤ 999
  · left
    obtain ⟨n, rfl⟩ := Int.eq_ofNat_of_zero_le h.1
    have := mishr6_n ⟨n, by omega⟩
    have e : (((n / 64 : Nat)) : Int) = (n : Int) / 64 := by omega
    exact ⟨this.trans e, h⟩
  · omega
/-! ===== the ranges of the class's cells ===== -/
def stB (s : Int) : Prop := s = 1 ∨ (66 ≤ s ∧ s ≤ 507 ∧ (s - 66) % 63 = 0) ∨ s = 580 ∨ s = 643 ∨ s = 706
def ofB (x : Int) : Prop := stB (x - 2)
def peB (x : Int) : Prop := stB (x - 10)
def tiB (x : Int) : Prop := stB (x - 49)
def toB (x : Int) : Prop := stB (x - 57)
def hsB (x : Int) : Prop := (16 ≤ x ∧ (∃ s p : Int, stB s ∧ 0 ≤ p ∧ p < 16 ∧ x = s + 17 + 2 * p)) ∨ x = 574
def txB (x : Int) : Prop := x = 572 ∨ x = 578
def reB (x : Int) : Prop := x = 577
def ldB (x : Int) : Prop := x = 576
def hiB (x : Int) : Prop := x = 64
def wbB (x : Int) : Prop := x = 0
def mdB (x : Int) : Prop := x = 769
-- what a cell is: its number in a state (the spare one's own: 63), or its place
def tcd (a : Int) : Nat := if a < 1 then 999 else if a < 64 then (a - 1).toNat else if a < 66 then a.toNat else if a < 570 then ((a - 66) % 63).toNat else if a < 580 then a.toNat else if a = 580 then 63 else if a < 769 then ((a - 580) % 63).toNat else a.toNat
-- a row of the reference: what may stand at place i
def wk (i : Int) : Nat := if i < 0 then 99 else if i < 12 then i.toNat else if i < 420 then (if (i - 12) % 68 < 7 then (20 + (i - 12) % 68).toNat else 27) else if i < 452 then (30 + i % 2).toNat else if i < 1916 then (if (i - 452) % 24 < 8 then (40 + (i - 452) % 24).toNat else 48) else if i < 2916 then (50 + (i - 1916) % 5).toNat else if i < 3116 then 60 else 99
def rk : Nat → Int → Prop
  | 0, v => 0 ≤ v ∧ v ≤ 1200
  | 1, v => 0 ≤ v ∧ v ≤ 99999
  | 2, v => 0 ≤ v ∧ v ≤ 99
  | 3, v => 0 ≤ v ∧ v ≤ 3
  | 4, v => 0 ≤ v ∧ v ≤ 99
  | 5, v => 0 ≤ v ∧ v ≤ 99
  | 6, v => 0 ≤ v ∧ v ≤ 99
  | 7, v => 0 ≤ v ∧ v ≤ 6
  | 8, v => 0 ≤ v ∧ v ≤ 16
  | 9, v => 0 ≤ v ∧ v ≤ 61
  | 10, v => 0 ≤ v ∧ v ≤ 200
  | 11, v => 0 ≤ v ∧ v ≤ 200
  | 20, v => 0 ≤ v ∧ v ≤ 387420488
  | 21, v => 0 ≤ v ∧ v ≤ 4
  | 22, v => 0 ≤ v ∧ v ≤ 6
  | 23, v => 0 ≤ v ∧ v ≤ 20
  | 24, v => 0 ≤ v ∧ v ≤ 1
  | 25, v => 0 ≤ v ∧ v ≤ 61
  | 27, v => 0 ≤ v ∧ v ≤ 60
  | 30, v => 0 ≤ v ∧ v ≤ 387420488
  | 40, v => 0 ≤ v ∧ v ≤ 15
  | 41, v => 0 ≤ v ∧ v ≤ 5
  | 42, v => 0 ≤ v ∧ v ≤ 1200
  | 43, v => -1 ≤ v ∧ v ≤ 1200
  | 44, v => 0 ≤ v ∧ v ≤ 2
  | 45, v => 0 ≤ v ∧ v ≤ 1
  | 46, v => 0 ≤ v ∧ v ≤ 1
  | 47, v => 0 ≤ v ∧ v ≤ 1000
  | 48, v => 0 ≤ v ∧ v ≤ 1201
  | 50, v => 0 ≤ v ∧ v ≤ 15
  | 51, v => 0 ≤ v ∧ v ≤ 60
  | 52, v => 0 ≤ v ∧ v ≤ 1300
  | 53, v => 0 ≤ v ∧ v ≤ 2
  | 54, v => 0 ≤ v ∧ v ≤ 1200
  | 60, v => 0 ≤ v ∧ v ≤ 199
  | _, _ => True
def rgW (i v : Int) : Prop := rk (wk i) v
theorem rgW_at {i v : Int} {n : Nat} (e : wk i = n) (h : rgW i v) : rk n v := by
  unfold rgW at h; rwa [e] at h
theorem rgW_of {i v : Int} {n : Nat} (e : wk i = n) (h : rk n v) : rgW i v := by
  unfold rgW; rwa [e]
theorem wk_o {k f i : Int} {n : Nat} (hk : 0 ≤ k ∧ k ≤ 5) (hf : 0 ≤ f ∧ f ≤ 6) (hn : (n : Int) = 20 + f) (he : i = 12 + 68 * k + f) : wk i = n := by
  have h1 : (i - 12) % 68 = f := by omega
  unfold wk
  rw [if_neg (by omega), if_neg (by omega), if_pos (by omega), h1, if_pos (by omega)]
  omega
theorem wk_q {k e i : Int} (hk : 0 ≤ k ∧ k ≤ 5) (hf : 0 ≤ e ∧ e ≤ 60) (he : i = 12 + 68 * k + 7 + e) : wk i = 27 := by
  have h1 : (i - 12) % 68 = 7 + e := by omega
  unfold wk
  rw [if_neg (by omega), if_neg (by omega), if_pos (by omega), h1, if_neg (by omega)]
theorem wk_p {k f i : Int} {n : Nat} (hk : 0 ≤ k ∧ k ≤ 15) (hf : 0 ≤ f ∧ f ≤ 1) (hn : (n : Int) = 30 + f) (he : i = 420 + 2 * k + f) : wk i = n := by
  have h1 : i % 2 = f := by omega
  unfold wk
  rw [if_neg (by omega), if_neg (by omega), if_neg (by omega), if_pos (by omega), h1]
  omega
theorem wk_t {k f i : Int} {n : Nat} (hk : 0 ≤ k ∧ k ≤ 60) (hf : 0 ≤ f ∧ f ≤ 7) (hn : (n : Int) = 40 + f) (he : i = 452 + 24 * k + f) : wk i = n := by
  have h1 : (i - 452) % 24 = f := by omega
  unfold wk
  rw [if_neg (by omega), if_neg (by omega), if_neg (by omega), if_neg (by omega), if_pos (by omega), h1, if_pos (by omega)]
  omega
theorem wk_w {k e i : Int} (hk : 0 ≤ k ∧ k ≤ 60) (hf : 0 ≤ e ∧ e ≤ 15) (he : i = 452 + 24 * k + 8 + e) : wk i = 48 := by
  have h1 : (i - 452) % 24 = 8 + e := by omega
  unfold wk
  rw [if_neg (by omega), if_neg (by omega), if_neg (by omega), if_neg (by omega), if_pos (by omega), h1, if_neg (by omega)]
theorem wk_k {k f i : Int} {n : Nat} (hk : 0 ≤ k ∧ k ≤ 199) (hf : 0 ≤ f ∧ f ≤ 4) (hn : (n : Int) = 50 + f) (he : i = 1916 + 5 * k + f) : wk i = n := by
  have h1 : (i - 1916) % 5 = f := by omega
  unfold wk
  rw [if_neg (by omega), if_neg (by omega), if_neg (by omega), if_neg (by omega), if_neg (by omega), if_pos (by omega), h1]
  omega
theorem wk_f {k i : Int} (hk : 0 ≤ k ∧ k ≤ 199) (he : i = 2916 + k) : wk i = 60 := by
  unfold wk
  rw [if_neg (by omega), if_neg (by omega), if_neg (by omega), if_neg (by omega), if_neg (by omega), if_neg (by omega), if_pos (by omega)]
def rg : Nat → Int → Int → Prop
  | 0, i, v => (i = 1 → 0 ≤ v ∧ v ≤ 99999) ∧ (i = 2 → 0 ≤ v ∧ v ≤ 999)
  | 1, _, v => 0 ≤ v ∧ v ≤ 99
  | 2, i, v => (i = 0 → 0 ≤ v ∧ v ≤ 6)
  | 3, _, v => 0 ≤ v ∧ v ≤ 1073741823
  | 4, _, v => 0 ≤ v ∧ v ≤ 4
  | 5, _, v => 0 ≤ v ∧ v ≤ 6
  | 6, _, v => 0 ≤ v ∧ v ≤ 20
  | 7, _, v => 0 ≤ v ∧ v ≤ 1
  | 8, _, v => 0 ≤ v ∧ v ≤ 16
  | 9, _, v => 0 ≤ v ∧ v ≤ 59
  | 10, i, v => (i = 0 → 0 ≤ v ∧ v ≤ 16)
  | 11, _, v => 0 ≤ v ∧ v ≤ 1073741823
  | 13, _, v => 0 ≤ v ∧ v ≤ 99
  | 14, _, v => 0 ≤ v ∧ v ≤ 3
  | 49, i, v => (i = 0 → 0 ≤ v ∧ v ≤ 60)
  | 50, _, v => 0 ≤ v ∧ v ≤ 15
  | 51, _, v => 0 ≤ v ∧ v ≤ 5
  | 52, _, v => 0 ≤ v ∧ v ≤ 999
  | 53, _, v => -1 ≤ v ∧ v ≤ 1199
  | 54, _, v => 0 ≤ v ∧ v ≤ 2
  | 55, _, v => 0 ≤ v ∧ v ≤ 2
  | 57, i, v => (i = 0 → 0 ≤ v ∧ v ≤ 200) ∧ (i = 5 → 0 ≤ v ∧ v ≤ 200)
  | 58, _, v => 0 ≤ v ∧ v ≤ 15
  | 59, _, v => 0 ≤ v ∧ v ≤ 59
  | 60, _, v => 0 ≤ v ∧ v ≤ 1300
  | 61, _, v => 0 ≤ v ∧ v ≤ 2
  | 62, _, v => 0 ≤ v ∧ v ≤ 199
  | 63, i, v => (i = 1 → 0 ≤ v ∧ v ≤ 99999) ∧ (i = 2 → 0 ≤ v ∧ v ≤ 1199)
  | 64, i, v => (i = 1 → 0 ≤ v ∧ v ≤ 7) ∧ (i = 2 → 0 ≤ v ∧ v ≤ 8)
  | 571, _, v => 0 ≤ v ∧ v ≤ 1
  | 572, i, v => (i = 1 → 0 ≤ v ∧ v ≤ 1000)
  | 573, _, v => -128 ≤ v ∧ v ≤ 127
  | 576, i, v => (i = 2 → 0 ≤ v ∧ v ≤ 6) ∧ (i = 3 → -1 ≤ v ∧ v ≤ 1000) ∧ (i = 4 → 0 ≤ v ∧ v ≤ 99999) ∧ (i = 5 → -1 ≤ v ∧ v ≤ 1073741823) ∧ (i = 6 → -1 ≤ v ∧ v ≤ 59)
  | 577, i, v => (i = 1 → 0 ≤ v ∧ v ≤ 4) ∧ (i = 2 → 0 ≤ v ∧ v ≤ 1000) ∧ (i = 3 → 0 ≤ v ∧ v ≤ 1000) ∧ (i = 4 → 0 ≤ v ∧ v ≤ 99999)
  | 578, i, v => (i = 1 → 0 ≤ v ∧ v ≤ 1000)
  | 579, _, v => -128 ≤ v ∧ v ≤ 127
  | 769, i, v => (i = 0 → 0 ≤ v ∧ v ≤ 3) ∧ (i = 7 → 0 ≤ v ∧ v ≤ 8) ∧ (i = 9 → 0 ≤ v ∧ v ≤ 1000) ∧ (i = 10 → 0 ≤ v ∧ v ≤ 1000) ∧ (i = 11 → 0 ≤ v ∧ v ≤ 6) ∧ (i = 12 → -1 ≤ v ∧ v ≤ 1000) ∧ (i = 13 → 0 ≤ v ∧ v ≤ 1) ∧ (i = 14 → 0 ≤ v ∧ v ≤ 99999) ∧ (i = 15 → 0 ≤ v ∧ v ≤ 1000) ∧ (i = 16 → 0 ≤ v ∧ v ≤ 1000) ∧ (i = 18 → 0 ≤ v ∧ v ≤ 800)
  | 775, _, v => 0 ≤ v ∧ v ≤ 1
  | 776, _, v => 0 ≤ v ∧ v ≤ 255
  | 777, _, v => 0 ≤ v ∧ v ≤ 255
  | 770, i, v => rgW i v
  | 771, i, v => rgW (i % 3116) v
  | 772, i, v => rgW (i % 3116) v
  | 773, i, v => rgW i v
  | 774, i, v => rgW i v
  | _, _, _ => True
def Safe (d : mD) : Prop := ∀ a i : Int, 0 ≤ i → rg (tcd a) i (d a i)
theorem Safe.rd {d : mD} (h : Safe d) {a : Int} {k : Nat} (e : tcd a = k) (i : Int) (h0 : 0 ≤ i) : rg k i (d a i) := by
  have := h a i h0
  rwa [e] at this
theorem Safe.set {d : mD} (h : Safe d) {a i v : Int} {k : Nat} (e : tcd a = k) (hv : rg k i v) : Safe (mset d a i v) := by
  intro b j hj
  unfold mset
  split
  · rename_i c
    rw [c.1, c.2, e]
    exact hv
  · exact h b j hj
theorem Safe.copy {d : mD} (h : Safe d) {x y sp dp n : Int} {k : Nat} (ex : tcd x = k) (ey : tcd y = k) (hk : ∀ i j v, rg k i v → rg k j v) (hsp : 0 ≤ sp) : Safe (mcopy d x sp y dp n) := by
  intro b j hj
  unfold mcopy
  split
  · rename_i c
    rw [c.1, ey]
    exact hk _ _ _ (h.rd ex _ (by omega))
  · exact h b j hj
theorem Safe.fill {d : mD} (h : Safe d) {a v : Int} {k : Nat} (e : tcd a = k) (hv : ∀ i, rg k i v) : Safe (mfill d a v) := by
  intro b j hj
  unfold mfill
  split
  · rename_i c
    rw [c, e]
    exact hv j
  · exact h b j hj
theorem tcd_st {s k : Int} (hs : stB s) (h1 : 1 ≤ k) (h2 : k ≤ 62) : tcd (s + k) = k.toNat := by
  unfold stB at hs
  unfold tcd
  rcases hs with h | h | h | h | h <;> (repeat' split) <;> omega
theorem tcd_s0 {s : Int} (hs : stB s) (h : s ≠ 580) : tcd s = 0 := by
  unfold stB at hs
  unfold tcd
  rcases hs with h | h | h | h | h <;> (repeat' split) <;> omega
theorem tcd_s580 : tcd 580 = 63 := by decide
theorem stB.of {s : Int} (h : stB s) : ofB (s + 2) := by
  unfold ofB; rwa [show s + 2 - 2 = s by omega]
theorem stB.pe {s : Int} (h : stB s) : peB (s + 10) := by
  unfold peB; rwa [show s + 10 - 10 = s by omega]
theorem stB.ti {s : Int} (h : stB s) : tiB (s + 49) := by
  unfold tiB; rwa [show s + 49 - 49 = s by omega]
theorem stB.to {s : Int} (h : stB s) : toB (s + 57) := by
  unfold toB; rwa [show s + 57 - 57 = s by omega]
theorem stB.pos {s : Int} (h : stB s) : 1 ≤ s ∧ s ≤ 706 := by
  unfold stB at h; omega
theorem peB.hs {x i : Int} (h : peB x) (h0 : 0 ≤ i) (h1 : i < 16) : hsB (x + 6 + (1 + 2 * i)) :=
  Or.inl ⟨by have := stB.pos h; omega, x - 10, i, h, h0, h1, by omega⟩
theorem stB.far {x y : Int} (h : stB x) (k : stB y) : x = y ∨ x + 63 ≤ y ∨ y + 63 ≤ x := by
  unfold stB at h k; omega
theorem hiB.st {x i : Int} (h : hiB x) (h0 : 0 ≤ i) (h1 : i < 8) : stB (x + 1 + (1 + 63 * i)) := by
  unfold hiB at h; unfold stB; omega
theorem wbB.sv {x i : Int} (h : wbB x) (h0 : 0 ≤ i) (h1 : i < 2) : stB (x + 570 + (73 + 63 * i)) := by
  unfold wbB at h; unfold stB; omega
theorem wbB.nw {x : Int} (h : wbB x) : stB (x + 1) := by
  unfold wbB at h; unfold stB; omega
theorem wbB.sp {x : Int} (h : wbB x) : stB (x + 580) := by
  unfold wbB at h; unfold stB; omega
theorem wbB.hi {x : Int} (h : wbB x) : hiB (x + 64) := by
  unfold wbB at h; unfold hiB; omega
theorem wbB.ou {x : Int} (h : wbB x) : txB (x + 572) := by
  unfold wbB at h; unfold txB; omega
theorem wbB.lo {x : Int} (h : wbB x) : hsB (x + 574) := by
  unfold wbB at h; unfold hsB; omega
theorem wbB.ld {x : Int} (h : wbB x) : ldB (x + 576) := by
  unfold wbB at h; unfold ldB; omega
theorem wbB.tx {x : Int} (h : wbB x) : txB (x + 578) := by
  unfold wbB at h; unfold txB; omega
theorem ldB.re {x : Int} (h : ldB x) : reB (x + 1) := by
  unfold ldB at h; unfold reB; omega
theorem ldB.st {x : Int} (h : ldB x) : stB (x + 4) := by
  unfold ldB at h; unfold stB; omega
theorem reB.tx {x : Int} (h : reB x) : txB (x + 1) := by
  unfold reB at h; unfold txB; omega
theorem rg_hs {k : Nat} (h0 : 17 ≤ k) (h1 : k ≤ 48) (i v : Int) : rg k i v := by
  have h : k = 17 ∨ k = 18 ∨ k = 19 ∨ k = 20 ∨ k = 21 ∨ k = 22 ∨ k = 23 ∨ k = 24 ∨ k = 25 ∨ k = 26 ∨ k = 27 ∨ k = 28 ∨ k = 29 ∨ k = 30 ∨ k = 31 ∨ k = 32 ∨ k = 33 ∨ k = 34 ∨ k = 35 ∨ k = 36 ∨ k = 37 ∨ k = 38 ∨ k = 39 ∨ k = 40 ∨ k = 41 ∨ k = 42 ∨ k = 43 ∨ k = 44 ∨ k = 45 ∨ k = 46 ∨ k = 47 ∨ k = 48 := by omega
  rcases h with h | h | h | h | h | h | h | h | h | h | h | h | h | h | h | h | h | h | h | h | h | h | h | h | h | h | h | h | h | h | h | h <;> subst h <;> trivial
theorem tcd_hs {x : Int} (h : hsB x) (i v : Int) : rg (tcd (x + 1)) i v := by
  rcases h with ⟨-, s, p, hs, h0, h1, rfl⟩ | rfl
  · have e := tcd_st hs (k := 18 + 2 * p) (by omega) (by omega)
    rw [show s + 17 + 2 * p + 1 = s + (18 + 2 * p) by omega, e]
    exact rg_hs (by omega) (by omega) i v
  · exact trivial
theorem s_1_1 {d : mD} {x i v : Int} (hS : Safe d) (hx : hsB x) : Safe (mset d (x + 1) i v) := hS.set rfl (tcd_hs hx i v)
theorem f_1_1 {d : mD} {x v : Int} (hS : Safe d) (hx : hsB x) : Safe (mfill d (x + 1) v) := hS.fill rfl (fun i => tcd_hs hx i v)
theorem c_1_1 {d : mD} {x y sp dp n : Int} (hS : Safe d) (hy : hsB y) : Safe (mcopy d (x + 1) sp (y + 1) dp n) := by
  intro b j hj
  unfold mcopy
  split
  · rename_i c
    rw [c.1]
    exact tcd_hs hy _ _
  · exact hS b j hj
theorem cd_3_0 {x : Int} (hx : ofB x) : tcd x = 2 := by
  have := tcd_st (k := 2) hx (by omega) (by omega)
  rwa [show x - 2 + 2 = x by omega] at this
theorem cd_3_1 {x : Int} (hx : ofB x) : tcd (x + 1) = 3 := by
  have := tcd_st (k := 3) hx (by omega) (by omega)
  rwa [show x - 2 + 3 = x + 1 by omega] at this
theorem cd_3_2 {x : Int} (hx : ofB x) : tcd (x + 2) = 4 := by
  have := tcd_st (k := 4) hx (by omega) (by omega)
  rwa [show x - 2 + 4 = x + 2 by omega] at this
theorem cd_3_3 {x : Int} (hx : ofB x) : tcd (x + 3) = 5 := by
  have := tcd_st (k := 5) hx (by omega) (by omega)
  rwa [show x - 2 + 5 = x + 3 by omega] at this
theorem cd_3_4 {x : Int} (hx : ofB x) : tcd (x + 4) = 6 := by
  have := tcd_st (k := 6) hx (by omega) (by omega)
  rwa [show x - 2 + 6 = x + 4 by omega] at this
theorem cd_3_5 {x : Int} (hx : ofB x) : tcd (x + 5) = 7 := by
  have := tcd_st (k := 7) hx (by omega) (by omega)
  rwa [show x - 2 + 7 = x + 5 by omega] at this
theorem cd_3_6 {x : Int} (hx : ofB x) : tcd (x + 6) = 8 := by
  have := tcd_st (k := 8) hx (by omega) (by omega)
  rwa [show x - 2 + 8 = x + 6 by omega] at this
theorem cd_3_7 {x : Int} (hx : ofB x) : tcd (x + 7) = 9 := by
  have := tcd_st (k := 9) hx (by omega) (by omega)
  rwa [show x - 2 + 9 = x + 7 by omega] at this
theorem cd_4_0 {x : Int} (hx : peB x) : tcd x = 10 := by
  have := tcd_st (k := 10) hx (by omega) (by omega)
  rwa [show x - 10 + 10 = x by omega] at this
theorem cd_4_1 {x : Int} (hx : peB x) : tcd (x + 1) = 11 := by
  have := tcd_st (k := 11) hx (by omega) (by omega)
  rwa [show x - 10 + 11 = x + 1 by omega] at this
theorem cd_4_2 {x : Int} (hx : peB x) : tcd (x + 2) = 12 := by
  have := tcd_st (k := 12) hx (by omega) (by omega)
  rwa [show x - 10 + 12 = x + 2 by omega] at this
theorem cd_4_3 {x : Int} (hx : peB x) : tcd (x + 3) = 13 := by
  have := tcd_st (k := 13) hx (by omega) (by omega)
  rwa [show x - 10 + 13 = x + 3 by omega] at this
theorem cd_4_4 {x : Int} (hx : peB x) : tcd (x + 4) = 14 := by
  have := tcd_st (k := 14) hx (by omega) (by omega)
  rwa [show x - 10 + 14 = x + 4 by omega] at this
theorem cd_4_5 {x : Int} (hx : peB x) : tcd (x + 5) = 15 := by
  have := tcd_st (k := 15) hx (by omega) (by omega)
  rwa [show x - 10 + 15 = x + 5 by omega] at this
theorem cd_8_0 {x : Int} (hx : tiB x) : tcd x = 49 := by
  have := tcd_st (k := 49) hx (by omega) (by omega)
  rwa [show x - 49 + 49 = x by omega] at this
theorem cd_8_1 {x : Int} (hx : tiB x) : tcd (x + 1) = 50 := by
  have := tcd_st (k := 50) hx (by omega) (by omega)
  rwa [show x - 49 + 50 = x + 1 by omega] at this
theorem cd_8_2 {x : Int} (hx : tiB x) : tcd (x + 2) = 51 := by
  have := tcd_st (k := 51) hx (by omega) (by omega)
  rwa [show x - 49 + 51 = x + 2 by omega] at this
theorem cd_8_3 {x : Int} (hx : tiB x) : tcd (x + 3) = 52 := by
  have := tcd_st (k := 52) hx (by omega) (by omega)
  rwa [show x - 49 + 52 = x + 3 by omega] at this
theorem cd_8_4 {x : Int} (hx : tiB x) : tcd (x + 4) = 53 := by
  have := tcd_st (k := 53) hx (by omega) (by omega)
  rwa [show x - 49 + 53 = x + 4 by omega] at this
theorem cd_8_5 {x : Int} (hx : tiB x) : tcd (x + 5) = 54 := by
  have := tcd_st (k := 54) hx (by omega) (by omega)
  rwa [show x - 49 + 54 = x + 5 by omega] at this
theorem cd_8_6 {x : Int} (hx : tiB x) : tcd (x + 6) = 55 := by
  have := tcd_st (k := 55) hx (by omega) (by omega)
  rwa [show x - 49 + 55 = x + 6 by omega] at this
theorem cd_8_7 {x : Int} (hx : tiB x) : tcd (x + 7) = 56 := by
  have := tcd_st (k := 56) hx (by omega) (by omega)
  rwa [show x - 49 + 56 = x + 7 by omega] at this
theorem cd_9_0 {x : Int} (hx : toB x) : tcd x = 57 := by
  have := tcd_st (k := 57) hx (by omega) (by omega)
  rwa [show x - 57 + 57 = x by omega] at this
theorem cd_9_1 {x : Int} (hx : toB x) : tcd (x + 1) = 58 := by
  have := tcd_st (k := 58) hx (by omega) (by omega)
  rwa [show x - 57 + 58 = x + 1 by omega] at this
theorem cd_9_2 {x : Int} (hx : toB x) : tcd (x + 2) = 59 := by
  have := tcd_st (k := 59) hx (by omega) (by omega)
  rwa [show x - 57 + 59 = x + 2 by omega] at this
theorem cd_9_3 {x : Int} (hx : toB x) : tcd (x + 3) = 60 := by
  have := tcd_st (k := 60) hx (by omega) (by omega)
  rwa [show x - 57 + 60 = x + 3 by omega] at this
theorem cd_9_4 {x : Int} (hx : toB x) : tcd (x + 4) = 61 := by
  have := tcd_st (k := 61) hx (by omega) (by omega)
  rwa [show x - 57 + 61 = x + 4 by omega] at this
theorem cd_9_5 {x : Int} (hx : toB x) : tcd (x + 5) = 62 := by
  have := tcd_st (k := 62) hx (by omega) (by omega)
  rwa [show x - 57 + 62 = x + 5 by omega] at this
theorem cd_6_1 {x : Int} (hx : stB x) : tcd (x + 1) = 1 := tcd_st hx (by omega) (by omega)
theorem cd_5_0 {x : Int} (hx : reB x) : tcd x = 577 := by
  rw [show x = 577 from hx]; rfl
theorem cd_2_0 {x : Int} (hx : ldB x) : tcd x = 576 := by
  rw [show x = 576 from hx]; rfl
theorem cd_0_0 {x : Int} (hx : hiB x) : tcd x = 64 := by
  rw [show x = 64 from hx]; rfl
theorem cd_10_571 {x : Int} (hx : wbB x) : tcd (x + 571) = 571 := by
  rw [show x = 0 from hx]; rfl
theorem r_3_f0 {d : mD} {x : Int} (hS : Safe d) (hx : ofB x) : 0 ≤ d x 0 ∧ d x 0 ≤ 6 := (hS.rd (cd_3_0 hx) 0 (by decide)) rfl
theorem s_3_f0 {d : mD} {x v : Int} (hS : Safe d) (hx : ofB x) (hv : 0 ≤ v ∧ v ≤ 6) : Safe (mset d x 0 v) := hS.set (cd_3_0 hx) (fun _ => hv)
theorem r_3_1 {d : mD} {x : Int} (hS : Safe d) (hx : ofB x) (i : Int) (h0 : 0 ≤ i := by omega) : 0 ≤ d (x + 1) i ∧ d (x + 1) i ≤ 1073741823 := hS.rd (cd_3_1 hx) i h0
theorem s_3_1 {d : mD} {x i v : Int} (hS : Safe d) (hx : ofB x) (hv : 0 ≤ v ∧ v ≤ 1073741823) : Safe (mset d (x + 1) i v) := hS.set (cd_3_1 hx) hv
theorem c_3_1 {d : mD} {x y sp dp n : Int} (hS : Safe d) (hx : ofB x) (hy : ofB y) (hsp : 0 ≤ sp := by omega) : Safe (mcopy d (x + 1) sp (y + 1) dp n) := hS.copy (cd_3_1 hx) (cd_3_1 hy) (fun _ _ _ h => h) hsp
theorem f_3_1 {d : mD} {x v : Int} (hS : Safe d) (hx : ofB x) (hv : 0 ≤ v ∧ v ≤ 1073741823) : Safe (mfill d (x + 1) v) := hS.fill (cd_3_1 hx) (fun _ => hv)
theorem r_3_2 {d : mD} {x : Int} (hS : Safe d) (hx : ofB x) (i : Int) (h0 : 0 ≤ i := by omega) : 0 ≤ d (x + 2) i ∧ d (x + 2) i ≤ 4 := hS.rd (cd_3_2 hx) i h0
theorem s_3_2 {d : mD} {x i v : Int} (hS : Safe d) (hx : ofB x) (hv : 0 ≤ v ∧ v ≤ 4) : Safe (mset d (x + 2) i v) := hS.set (cd_3_2 hx) hv
theorem c_3_2 {d : mD} {x y sp dp n : Int} (hS : Safe d) (hx : ofB x) (hy : ofB y) (hsp : 0 ≤ sp := by omega) : Safe (mcopy d (x + 2) sp (y + 2) dp n) := hS.copy (cd_3_2 hx) (cd_3_2 hy) (fun _ _ _ h => h) hsp
theorem f_3_2 {d : mD} {x v : Int} (hS : Safe d) (hx : ofB x) (hv : 0 ≤ v ∧ v ≤ 4) : Safe (mfill d (x + 2) v) := hS.fill (cd_3_2 hx) (fun _ => hv)
theorem r_3_3 {d : mD} {x : Int} (hS : Safe d) (hx : ofB x) (i : Int) (h0 : 0 ≤ i := by omega) : 0 ≤ d (x + 3) i ∧ d (x + 3) i ≤ 6 := hS.rd (cd_3_3 hx) i h0
theorem s_3_3 {d : mD} {x i v : Int} (hS : Safe d) (hx : ofB x) (hv : 0 ≤ v ∧ v ≤ 6) : Safe (mset d (x + 3) i v) := hS.set (cd_3_3 hx) hv
theorem c_3_3 {d : mD} {x y sp dp n : Int} (hS : Safe d) (hx : ofB x) (hy : ofB y) (hsp : 0 ≤ sp := by omega) : Safe (mcopy d (x + 3) sp (y + 3) dp n) := hS.copy (cd_3_3 hx) (cd_3_3 hy) (fun _ _ _ h => h) hsp
theorem f_3_3 {d : mD} {x v : Int} (hS : Safe d) (hx : ofB x) (hv : 0 ≤ v ∧ v ≤ 6) : Safe (mfill d (x + 3) v) := hS.fill (cd_3_3 hx) (fun _ => hv)
theorem r_3_4 {d : mD} {x : Int} (hS : Safe d) (hx : ofB x) (i : Int) (h0 : 0 ≤ i := by omega) : 0 ≤ d (x + 4) i ∧ d (x + 4) i ≤ 20 := hS.rd (cd_3_4 hx) i h0
theorem s_3_4 {d : mD} {x i v : Int} (hS : Safe d) (hx : ofB x) (hv : 0 ≤ v ∧ v ≤ 20) : Safe (mset d (x + 4) i v) := hS.set (cd_3_4 hx) hv
theorem c_3_4 {d : mD} {x y sp dp n : Int} (hS : Safe d) (hx : ofB x) (hy : ofB y) (hsp : 0 ≤ sp := by omega) : Safe (mcopy d (x + 4) sp (y + 4) dp n) := hS.copy (cd_3_4 hx) (cd_3_4 hy) (fun _ _ _ h => h) hsp
theorem f_3_4 {d : mD} {x v : Int} (hS : Safe d) (hx : ofB x) (hv : 0 ≤ v ∧ v ≤ 20) : Safe (mfill d (x + 4) v) := hS.fill (cd_3_4 hx) (fun _ => hv)
theorem r_3_5 {d : mD} {x : Int} (hS : Safe d) (hx : ofB x) (i : Int) (h0 : 0 ≤ i := by omega) : 0 ≤ d (x + 5) i ∧ d (x + 5) i ≤ 1 := hS.rd (cd_3_5 hx) i h0
theorem s_3_5 {d : mD} {x i v : Int} (hS : Safe d) (hx : ofB x) (hv : 0 ≤ v ∧ v ≤ 1) : Safe (mset d (x + 5) i v) := hS.set (cd_3_5 hx) hv
theorem c_3_5 {d : mD} {x y sp dp n : Int} (hS : Safe d) (hx : ofB x) (hy : ofB y) (hsp : 0 ≤ sp := by omega) : Safe (mcopy d (x + 5) sp (y + 5) dp n) := hS.copy (cd_3_5 hx) (cd_3_5 hy) (fun _ _ _ h => h) hsp
theorem f_3_5 {d : mD} {x v : Int} (hS : Safe d) (hx : ofB x) (hv : 0 ≤ v ∧ v ≤ 1) : Safe (mfill d (x + 5) v) := hS.fill (cd_3_5 hx) (fun _ => hv)
theorem r_3_6 {d : mD} {x : Int} (hS : Safe d) (hx : ofB x) (i : Int) (h0 : 0 ≤ i := by omega) : 0 ≤ d (x + 6) i ∧ d (x + 6) i ≤ 16 := hS.rd (cd_3_6 hx) i h0
theorem s_3_6 {d : mD} {x i v : Int} (hS : Safe d) (hx : ofB x) (hv : 0 ≤ v ∧ v ≤ 16) : Safe (mset d (x + 6) i v) := hS.set (cd_3_6 hx) hv
theorem c_3_6 {d : mD} {x y sp dp n : Int} (hS : Safe d) (hx : ofB x) (hy : ofB y) (hsp : 0 ≤ sp := by omega) : Safe (mcopy d (x + 6) sp (y + 6) dp n) := hS.copy (cd_3_6 hx) (cd_3_6 hy) (fun _ _ _ h => h) hsp
theorem f_3_6 {d : mD} {x v : Int} (hS : Safe d) (hx : ofB x) (hv : 0 ≤ v ∧ v ≤ 16) : Safe (mfill d (x + 6) v) := hS.fill (cd_3_6 hx) (fun _ => hv)
theorem r_3_7 {d : mD} {x : Int} (hS : Safe d) (hx : ofB x) (i : Int) (h0 : 0 ≤ i := by omega) : 0 ≤ d (x + 7) i ∧ d (x + 7) i ≤ 59 := hS.rd (cd_3_7 hx) i h0
theorem s_3_7 {d : mD} {x i v : Int} (hS : Safe d) (hx : ofB x) (hv : 0 ≤ v ∧ v ≤ 59) : Safe (mset d (x + 7) i v) := hS.set (cd_3_7 hx) hv
theorem c_3_7 {d : mD} {x y sp dp n : Int} (hS : Safe d) (hx : ofB x) (hy : ofB y) (hsp : 0 ≤ sp := by omega) : Safe (mcopy d (x + 7) sp (y + 7) dp n) := hS.copy (cd_3_7 hx) (cd_3_7 hy) (fun _ _ _ h => h) hsp
theorem f_3_7 {d : mD} {x v : Int} (hS : Safe d) (hx : ofB x) (hv : 0 ≤ v ∧ v ≤ 59) : Safe (mfill d (x + 7) v) := hS.fill (cd_3_7 hx) (fun _ => hv)
theorem r_4_f0 {d : mD} {x : Int} (hS : Safe d) (hx : peB x) : 0 ≤ d x 0 ∧ d x 0 ≤ 16 := (hS.rd (cd_4_0 hx) 0 (by decide)) rfl
theorem s_4_f0 {d : mD} {x v : Int} (hS : Safe d) (hx : peB x) (hv : 0 ≤ v ∧ v ≤ 16) : Safe (mset d x 0 v) := hS.set (cd_4_0 hx) (fun _ => hv)
theorem r_4_1 {d : mD} {x : Int} (hS : Safe d) (hx : peB x) (i : Int) (h0 : 0 ≤ i := by omega) : 0 ≤ d (x + 1) i ∧ d (x + 1) i ≤ 1073741823 := hS.rd (cd_4_1 hx) i h0
theorem s_4_1 {d : mD} {x i v : Int} (hS : Safe d) (hx : peB x) (hv : 0 ≤ v ∧ v ≤ 1073741823) : Safe (mset d (x + 1) i v) := hS.set (cd_4_1 hx) hv
theorem c_4_1 {d : mD} {x y sp dp n : Int} (hS : Safe d) (hx : peB x) (hy : peB y) (hsp : 0 ≤ sp := by omega) : Safe (mcopy d (x + 1) sp (y + 1) dp n) := hS.copy (cd_4_1 hx) (cd_4_1 hy) (fun _ _ _ h => h) hsp
theorem f_4_1 {d : mD} {x v : Int} (hS : Safe d) (hx : peB x) (hv : 0 ≤ v ∧ v ≤ 1073741823) : Safe (mfill d (x + 1) v) := hS.fill (cd_4_1 hx) (fun _ => hv)
theorem s_4_2 {d : mD} {x i v : Int} (hS : Safe d) (hx : peB x) : Safe (mset d (x + 2) i v) := hS.set (cd_4_2 hx) trivial
theorem c_4_2 {d : mD} {x y sp dp n : Int} (hS : Safe d) (hx : peB x) (hy : peB y) (hsp : 0 ≤ sp := by omega) : Safe (mcopy d (x + 2) sp (y + 2) dp n) := hS.copy (cd_4_2 hx) (cd_4_2 hy) (fun _ _ _ h => h) hsp
theorem f_4_2 {d : mD} {x v : Int} (hS : Safe d) (hx : peB x) : Safe (mfill d (x + 2) v) := hS.fill (cd_4_2 hx) (fun _ => trivial)
theorem r_4_3 {d : mD} {x : Int} (hS : Safe d) (hx : peB x) (i : Int) (h0 : 0 ≤ i := by omega) : 0 ≤ d (x + 3) i ∧ d (x + 3) i ≤ 99 := hS.rd (cd_4_3 hx) i h0
theorem s_4_3 {d : mD} {x i v : Int} (hS : Safe d) (hx : peB x) (hv : 0 ≤ v ∧ v ≤ 99) : Safe (mset d (x + 3) i v) := hS.set (cd_4_3 hx) hv
theorem c_4_3 {d : mD} {x y sp dp n : Int} (hS : Safe d) (hx : peB x) (hy : peB y) (hsp : 0 ≤ sp := by omega) : Safe (mcopy d (x + 3) sp (y + 3) dp n) := hS.copy (cd_4_3 hx) (cd_4_3 hy) (fun _ _ _ h => h) hsp
theorem f_4_3 {d : mD} {x v : Int} (hS : Safe d) (hx : peB x) (hv : 0 ≤ v ∧ v ≤ 99) : Safe (mfill d (x + 3) v) := hS.fill (cd_4_3 hx) (fun _ => hv)
theorem r_4_4 {d : mD} {x : Int} (hS : Safe d) (hx : peB x) (i : Int) (h0 : 0 ≤ i := by omega) : 0 ≤ d (x + 4) i ∧ d (x + 4) i ≤ 3 := hS.rd (cd_4_4 hx) i h0
theorem s_4_4 {d : mD} {x i v : Int} (hS : Safe d) (hx : peB x) (hv : 0 ≤ v ∧ v ≤ 3) : Safe (mset d (x + 4) i v) := hS.set (cd_4_4 hx) hv
theorem c_4_4 {d : mD} {x y sp dp n : Int} (hS : Safe d) (hx : peB x) (hy : peB y) (hsp : 0 ≤ sp := by omega) : Safe (mcopy d (x + 4) sp (y + 4) dp n) := hS.copy (cd_4_4 hx) (cd_4_4 hy) (fun _ _ _ h => h) hsp
theorem f_4_4 {d : mD} {x v : Int} (hS : Safe d) (hx : peB x) (hv : 0 ≤ v ∧ v ≤ 3) : Safe (mfill d (x + 4) v) := hS.fill (cd_4_4 hx) (fun _ => hv)
theorem s_4_5 {d : mD} {x i v : Int} (hS : Safe d) (hx : peB x) : Safe (mset d (x + 5) i v) := hS.set (cd_4_5 hx) trivial
theorem c_4_5 {d : mD} {x y sp dp n : Int} (hS : Safe d) (hx : peB x) (hy : peB y) (hsp : 0 ≤ sp := by omega) : Safe (mcopy d (x + 5) sp (y + 5) dp n) := hS.copy (cd_4_5 hx) (cd_4_5 hy) (fun _ _ _ h => h) hsp
theorem f_4_5 {d : mD} {x v : Int} (hS : Safe d) (hx : peB x) : Safe (mfill d (x + 5) v) := hS.fill (cd_4_5 hx) (fun _ => trivial)
theorem r_8_f0 {d : mD} {x : Int} (hS : Safe d) (hx : tiB x) : 0 ≤ d x 0 ∧ d x 0 ≤ 60 := (hS.rd (cd_8_0 hx) 0 (by decide)) rfl
theorem s_8_f0 {d : mD} {x v : Int} (hS : Safe d) (hx : tiB x) (hv : 0 ≤ v ∧ v ≤ 60) : Safe (mset d x 0 v) := hS.set (cd_8_0 hx) (fun _ => hv)
theorem r_8_1 {d : mD} {x : Int} (hS : Safe d) (hx : tiB x) (i : Int) (h0 : 0 ≤ i := by omega) : 0 ≤ d (x + 1) i ∧ d (x + 1) i ≤ 15 := hS.rd (cd_8_1 hx) i h0
theorem s_8_1 {d : mD} {x i v : Int} (hS : Safe d) (hx : tiB x) (hv : 0 ≤ v ∧ v ≤ 15) : Safe (mset d (x + 1) i v) := hS.set (cd_8_1 hx) hv
theorem c_8_1 {d : mD} {x y sp dp n : Int} (hS : Safe d) (hx : tiB x) (hy : tiB y) (hsp : 0 ≤ sp := by omega) : Safe (mcopy d (x + 1) sp (y + 1) dp n) := hS.copy (cd_8_1 hx) (cd_8_1 hy) (fun _ _ _ h => h) hsp
theorem f_8_1 {d : mD} {x v : Int} (hS : Safe d) (hx : tiB x) (hv : 0 ≤ v ∧ v ≤ 15) : Safe (mfill d (x + 1) v) := hS.fill (cd_8_1 hx) (fun _ => hv)
theorem r_8_2 {d : mD} {x : Int} (hS : Safe d) (hx : tiB x) (i : Int) (h0 : 0 ≤ i := by omega) : 0 ≤ d (x + 2) i ∧ d (x + 2) i ≤ 5 := hS.rd (cd_8_2 hx) i h0
theorem s_8_2 {d : mD} {x i v : Int} (hS : Safe d) (hx : tiB x) (hv : 0 ≤ v ∧ v ≤ 5) : Safe (mset d (x + 2) i v) := hS.set (cd_8_2 hx) hv
theorem c_8_2 {d : mD} {x y sp dp n : Int} (hS : Safe d) (hx : tiB x) (hy : tiB y) (hsp : 0 ≤ sp := by omega) : Safe (mcopy d (x + 2) sp (y + 2) dp n) := hS.copy (cd_8_2 hx) (cd_8_2 hy) (fun _ _ _ h => h) hsp
theorem f_8_2 {d : mD} {x v : Int} (hS : Safe d) (hx : tiB x) (hv : 0 ≤ v ∧ v ≤ 5) : Safe (mfill d (x + 2) v) := hS.fill (cd_8_2 hx) (fun _ => hv)
theorem r_8_3 {d : mD} {x : Int} (hS : Safe d) (hx : tiB x) (i : Int) (h0 : 0 ≤ i := by omega) : 0 ≤ d (x + 3) i ∧ d (x + 3) i ≤ 999 := hS.rd (cd_8_3 hx) i h0
theorem s_8_3 {d : mD} {x i v : Int} (hS : Safe d) (hx : tiB x) (hv : 0 ≤ v ∧ v ≤ 999) : Safe (mset d (x + 3) i v) := hS.set (cd_8_3 hx) hv
theorem c_8_3 {d : mD} {x y sp dp n : Int} (hS : Safe d) (hx : tiB x) (hy : tiB y) (hsp : 0 ≤ sp := by omega) : Safe (mcopy d (x + 3) sp (y + 3) dp n) := hS.copy (cd_8_3 hx) (cd_8_3 hy) (fun _ _ _ h => h) hsp
theorem f_8_3 {d : mD} {x v : Int} (hS : Safe d) (hx : tiB x) (hv : 0 ≤ v ∧ v ≤ 999) : Safe (mfill d (x + 3) v) := hS.fill (cd_8_3 hx) (fun _ => hv)
theorem r_8_4 {d : mD} {x : Int} (hS : Safe d) (hx : tiB x) (i : Int) (h0 : 0 ≤ i := by omega) : -1 ≤ d (x + 4) i ∧ d (x + 4) i ≤ 1199 := hS.rd (cd_8_4 hx) i h0
theorem s_8_4 {d : mD} {x i v : Int} (hS : Safe d) (hx : tiB x) (hv : -1 ≤ v ∧ v ≤ 1199) : Safe (mset d (x + 4) i v) := hS.set (cd_8_4 hx) hv
theorem c_8_4 {d : mD} {x y sp dp n : Int} (hS : Safe d) (hx : tiB x) (hy : tiB y) (hsp : 0 ≤ sp := by omega) : Safe (mcopy d (x + 4) sp (y + 4) dp n) := hS.copy (cd_8_4 hx) (cd_8_4 hy) (fun _ _ _ h => h) hsp
theorem f_8_4 {d : mD} {x v : Int} (hS : Safe d) (hx : tiB x) (hv : -1 ≤ v ∧ v ≤ 1199) : Safe (mfill d (x + 4) v) := hS.fill (cd_8_4 hx) (fun _ => hv)
theorem r_8_5 {d : mD} {x : Int} (hS : Safe d) (hx : tiB x) (i : Int) (h0 : 0 ≤ i := by omega) : 0 ≤ d (x + 5) i ∧ d (x + 5) i ≤ 2 := hS.rd (cd_8_5 hx) i h0
theorem s_8_5 {d : mD} {x i v : Int} (hS : Safe d) (hx : tiB x) (hv : 0 ≤ v ∧ v ≤ 2) : Safe (mset d (x + 5) i v) := hS.set (cd_8_5 hx) hv
theorem c_8_5 {d : mD} {x y sp dp n : Int} (hS : Safe d) (hx : tiB x) (hy : tiB y) (hsp : 0 ≤ sp := by omega) : Safe (mcopy d (x + 5) sp (y + 5) dp n) := hS.copy (cd_8_5 hx) (cd_8_5 hy) (fun _ _ _ h => h) hsp
theorem f_8_5 {d : mD} {x v : Int} (hS : Safe d) (hx : tiB x) (hv : 0 ≤ v ∧ v ≤ 2) : Safe (mfill d (x + 5) v) := hS.fill (cd_8_5 hx) (fun _ => hv)
theorem r_8_6 {d : mD} {x : Int} (hS : Safe d) (hx : tiB x) (i : Int) (h0 : 0 ≤ i := by omega) : 0 ≤ d (x + 6) i ∧ d (x + 6) i ≤ 2 := hS.rd (cd_8_6 hx) i h0
theorem s_8_6 {d : mD} {x i v : Int} (hS : Safe d) (hx : tiB x) (hv : 0 ≤ v ∧ v ≤ 2) : Safe (mset d (x + 6) i v) := hS.set (cd_8_6 hx) hv
theorem c_8_6 {d : mD} {x y sp dp n : Int} (hS : Safe d) (hx : tiB x) (hy : tiB y) (hsp : 0 ≤ sp := by omega) : Safe (mcopy d (x + 6) sp (y + 6) dp n) := hS.copy (cd_8_6 hx) (cd_8_6 hy) (fun _ _ _ h => h) hsp
theorem f_8_6 {d : mD} {x v : Int} (hS : Safe d) (hx : tiB x) (hv : 0 ≤ v ∧ v ≤ 2) : Safe (mfill d (x + 6) v) := hS.fill (cd_8_6 hx) (fun _ => hv)
theorem s_8_7 {d : mD} {x i v : Int} (hS : Safe d) (hx : tiB x) : Safe (mset d (x + 7) i v) := hS.set (cd_8_7 hx) trivial
theorem c_8_7 {d : mD} {x y sp dp n : Int} (hS : Safe d) (hx : tiB x) (hy : tiB y) (hsp : 0 ≤ sp := by omega) : Safe (mcopy d (x + 7) sp (y + 7) dp n) := hS.copy (cd_8_7 hx) (cd_8_7 hy) (fun _ _ _ h => h) hsp
theorem f_8_7 {d : mD} {x v : Int} (hS : Safe d) (hx : tiB x) : Safe (mfill d (x + 7) v) := hS.fill (cd_8_7 hx) (fun _ => trivial)
theorem r_9_f0 {d : mD} {x : Int} (hS : Safe d) (hx : toB x) : 0 ≤ d x 0 ∧ d x 0 ≤ 200 := (hS.rd (cd_9_0 hx) 0 (by decide)).1 rfl
theorem s_9_f0 {d : mD} {x v : Int} (hS : Safe d) (hx : toB x) (hv : 0 ≤ v ∧ v ≤ 200) : Safe (mset d x 0 v) := hS.set (cd_9_0 hx) (⟨fun _ => hv, fun h => absurd h (by decide)⟩)
theorem r_9_f5 {d : mD} {x : Int} (hS : Safe d) (hx : toB x) : 0 ≤ d x 5 ∧ d x 5 ≤ 200 := (hS.rd (cd_9_0 hx) 5 (by decide)).2 rfl
theorem s_9_f5 {d : mD} {x v : Int} (hS : Safe d) (hx : toB x) (hv : 0 ≤ v ∧ v ≤ 200) : Safe (mset d x 5 v) := hS.set (cd_9_0 hx) (⟨fun h => absurd h (by decide), fun _ => hv⟩)
theorem r_9_1 {d : mD} {x : Int} (hS : Safe d) (hx : toB x) (i : Int) (h0 : 0 ≤ i := by omega) : 0 ≤ d (x + 1) i ∧ d (x + 1) i ≤ 15 := hS.rd (cd_9_1 hx) i h0
theorem s_9_1 {d : mD} {x i v : Int} (hS : Safe d) (hx : toB x) (hv : 0 ≤ v ∧ v ≤ 15) : Safe (mset d (x + 1) i v) := hS.set (cd_9_1 hx) hv
theorem c_9_1 {d : mD} {x y sp dp n : Int} (hS : Safe d) (hx : toB x) (hy : toB y) (hsp : 0 ≤ sp := by omega) : Safe (mcopy d (x + 1) sp (y + 1) dp n) := hS.copy (cd_9_1 hx) (cd_9_1 hy) (fun _ _ _ h => h) hsp
theorem f_9_1 {d : mD} {x v : Int} (hS : Safe d) (hx : toB x) (hv : 0 ≤ v ∧ v ≤ 15) : Safe (mfill d (x + 1) v) := hS.fill (cd_9_1 hx) (fun _ => hv)
theorem r_9_2 {d : mD} {x : Int} (hS : Safe d) (hx : toB x) (i : Int) (h0 : 0 ≤ i := by omega) : 0 ≤ d (x + 2) i ∧ d (x + 2) i ≤ 59 := hS.rd (cd_9_2 hx) i h0
theorem s_9_2 {d : mD} {x i v : Int} (hS : Safe d) (hx : toB x) (hv : 0 ≤ v ∧ v ≤ 59) : Safe (mset d (x + 2) i v) := hS.set (cd_9_2 hx) hv
theorem c_9_2 {d : mD} {x y sp dp n : Int} (hS : Safe d) (hx : toB x) (hy : toB y) (hsp : 0 ≤ sp := by omega) : Safe (mcopy d (x + 2) sp (y + 2) dp n) := hS.copy (cd_9_2 hx) (cd_9_2 hy) (fun _ _ _ h => h) hsp
theorem f_9_2 {d : mD} {x v : Int} (hS : Safe d) (hx : toB x) (hv : 0 ≤ v ∧ v ≤ 59) : Safe (mfill d (x + 2) v) := hS.fill (cd_9_2 hx) (fun _ => hv)
theorem r_9_3 {d : mD} {x : Int} (hS : Safe d) (hx : toB x) (i : Int) (h0 : 0 ≤ i := by omega) : 0 ≤ d (x + 3) i ∧ d (x + 3) i ≤ 1300 := hS.rd (cd_9_3 hx) i h0
theorem s_9_3 {d : mD} {x i v : Int} (hS : Safe d) (hx : toB x) (hv : 0 ≤ v ∧ v ≤ 1300) : Safe (mset d (x + 3) i v) := hS.set (cd_9_3 hx) hv
theorem c_9_3 {d : mD} {x y sp dp n : Int} (hS : Safe d) (hx : toB x) (hy : toB y) (hsp : 0 ≤ sp := by omega) : Safe (mcopy d (x + 3) sp (y + 3) dp n) := hS.copy (cd_9_3 hx) (cd_9_3 hy) (fun _ _ _ h => h) hsp
theorem f_9_3 {d : mD} {x v : Int} (hS : Safe d) (hx : toB x) (hv : 0 ≤ v ∧ v ≤ 1300) : Safe (mfill d (x + 3) v) := hS.fill (cd_9_3 hx) (fun _ => hv)
theorem r_9_4 {d : mD} {x : Int} (hS : Safe d) (hx : toB x) (i : Int) (h0 : 0 ≤ i := by omega) : 0 ≤ d (x + 4) i ∧ d (x + 4) i ≤ 2 := hS.rd (cd_9_4 hx) i h0
theorem s_9_4 {d : mD} {x i v : Int} (hS : Safe d) (hx : toB x) (hv : 0 ≤ v ∧ v ≤ 2) : Safe (mset d (x + 4) i v) := hS.set (cd_9_4 hx) hv
theorem c_9_4 {d : mD} {x y sp dp n : Int} (hS : Safe d) (hx : toB x) (hy : toB y) (hsp : 0 ≤ sp := by omega) : Safe (mcopy d (x + 4) sp (y + 4) dp n) := hS.copy (cd_9_4 hx) (cd_9_4 hy) (fun _ _ _ h => h) hsp
theorem f_9_4 {d : mD} {x v : Int} (hS : Safe d) (hx : toB x) (hv : 0 ≤ v ∧ v ≤ 2) : Safe (mfill d (x + 4) v) := hS.fill (cd_9_4 hx) (fun _ => hv)
theorem r_9_5 {d : mD} {x : Int} (hS : Safe d) (hx : toB x) (i : Int) (h0 : 0 ≤ i := by omega) : 0 ≤ d (x + 5) i ∧ d (x + 5) i ≤ 199 := hS.rd (cd_9_5 hx) i h0
theorem s_9_5 {d : mD} {x i v : Int} (hS : Safe d) (hx : toB x) (hv : 0 ≤ v ∧ v ≤ 199) : Safe (mset d (x + 5) i v) := hS.set (cd_9_5 hx) hv
theorem c_9_5 {d : mD} {x y sp dp n : Int} (hS : Safe d) (hx : toB x) (hy : toB y) (hsp : 0 ≤ sp := by omega) : Safe (mcopy d (x + 5) sp (y + 5) dp n) := hS.copy (cd_9_5 hx) (cd_9_5 hy) (fun _ _ _ h => h) hsp
theorem f_9_5 {d : mD} {x v : Int} (hS : Safe d) (hx : toB x) (hv : 0 ≤ v ∧ v ≤ 199) : Safe (mfill d (x + 5) v) := hS.fill (cd_9_5 hx) (fun _ => hv)
theorem r_6_1 {d : mD} {x : Int} (hS : Safe d) (hx : stB x) (i : Int) (h0 : 0 ≤ i := by omega) : 0 ≤ d (x + 1) i ∧ d (x + 1) i ≤ 99 := hS.rd (cd_6_1 hx) i h0
theorem s_6_1 {d : mD} {x i v : Int} (hS : Safe d) (hx : stB x) (hv : 0 ≤ v ∧ v ≤ 99) : Safe (mset d (x + 1) i v) := hS.set (cd_6_1 hx) hv
theorem c_6_1 {d : mD} {x y sp dp n : Int} (hS : Safe d) (hx : stB x) (hy : stB y) (hsp : 0 ≤ sp := by omega) : Safe (mcopy d (x + 1) sp (y + 1) dp n) := hS.copy (cd_6_1 hx) (cd_6_1 hy) (fun _ _ _ h => h) hsp
theorem f_6_1 {d : mD} {x v : Int} (hS : Safe d) (hx : stB x) (hv : 0 ≤ v ∧ v ≤ 99) : Safe (mfill d (x + 1) v) := hS.fill (cd_6_1 hx) (fun _ => hv)
theorem r_5_f1 {d : mD} {x : Int} (hS : Safe d) (hx : reB x) : 0 ≤ d x 1 ∧ d x 1 ≤ 4 := (hS.rd (cd_5_0 hx) 1 (by decide)).1 rfl
theorem s_5_f1 {d : mD} {x v : Int} (hS : Safe d) (hx : reB x) (hv : 0 ≤ v ∧ v ≤ 4) : Safe (mset d x 1 v) := hS.set (cd_5_0 hx) (⟨fun _ => hv, fun h => absurd h (by decide), fun h => absurd h (by decide), fun h => absurd h (by decide)⟩)
theorem r_5_f2 {d : mD} {x : Int} (hS : Safe d) (hx : reB x) : 0 ≤ d x 2 ∧ d x 2 ≤ 1000 := (hS.rd (cd_5_0 hx) 2 (by decide)).2.1 rfl
theorem s_5_f2 {d : mD} {x v : Int} (hS : Safe d) (hx : reB x) (hv : 0 ≤ v ∧ v ≤ 1000) : Safe (mset d x 2 v) := hS.set (cd_5_0 hx) (⟨fun h => absurd h (by decide), fun _ => hv, fun h => absurd h (by decide), fun h => absurd h (by decide)⟩)
theorem r_5_f3 {d : mD} {x : Int} (hS : Safe d) (hx : reB x) : 0 ≤ d x 3 ∧ d x 3 ≤ 1000 := (hS.rd (cd_5_0 hx) 3 (by decide)).2.2.1 rfl
theorem s_5_f3 {d : mD} {x v : Int} (hS : Safe d) (hx : reB x) (hv : 0 ≤ v ∧ v ≤ 1000) : Safe (mset d x 3 v) := hS.set (cd_5_0 hx) (⟨fun h => absurd h (by decide), fun h => absurd h (by decide), fun _ => hv, fun h => absurd h (by decide)⟩)
theorem r_5_f4 {d : mD} {x : Int} (hS : Safe d) (hx : reB x) : 0 ≤ d x 4 ∧ d x 4 ≤ 99999 := (hS.rd (cd_5_0 hx) 4 (by decide)).2.2.2 rfl
theorem s_5_f4 {d : mD} {x v : Int} (hS : Safe d) (hx : reB x) (hv : 0 ≤ v ∧ v ≤ 99999) : Safe (mset d x 4 v) := hS.set (cd_5_0 hx) (⟨fun h => absurd h (by decide), fun h => absurd h (by decide), fun h => absurd h (by decide), fun _ => hv⟩)
theorem r_2_f2 {d : mD} {x : Int} (hS : Safe d) (hx : ldB x) : 0 ≤ d x 2 ∧ d x 2 ≤ 6 := (hS.rd (cd_2_0 hx) 2 (by decide)).1 rfl
theorem s_2_f2 {d : mD} {x v : Int} (hS : Safe d) (hx : ldB x) (hv : 0 ≤ v ∧ v ≤ 6) : Safe (mset d x 2 v) := hS.set (cd_2_0 hx) (⟨fun _ => hv, fun h => absurd h (by decide), fun h => absurd h (by decide), fun h => absurd h (by decide), fun h => absurd h (by decide)⟩)
theorem r_2_f3 {d : mD} {x : Int} (hS : Safe d) (hx : ldB x) : -1 ≤ d x 3 ∧ d x 3 ≤ 1000 := (hS.rd (cd_2_0 hx) 3 (by decide)).2.1 rfl
theorem s_2_f3 {d : mD} {x v : Int} (hS : Safe d) (hx : ldB x) (hv : -1 ≤ v ∧ v ≤ 1000) : Safe (mset d x 3 v) := hS.set (cd_2_0 hx) (⟨fun h => absurd h (by decide), fun _ => hv, fun h => absurd h (by decide), fun h => absurd h (by decide), fun h => absurd h (by decide)⟩)
theorem r_2_f4 {d : mD} {x : Int} (hS : Safe d) (hx : ldB x) : 0 ≤ d x 4 ∧ d x 4 ≤ 99999 := (hS.rd (cd_2_0 hx) 4 (by decide)).2.2.1 rfl
theorem s_2_f4 {d : mD} {x v : Int} (hS : Safe d) (hx : ldB x) (hv : 0 ≤ v ∧ v ≤ 99999) : Safe (mset d x 4 v) := hS.set (cd_2_0 hx) (⟨fun h => absurd h (by decide), fun h => absurd h (by decide), fun _ => hv, fun h => absurd h (by decide), fun h => absurd h (by decide)⟩)
theorem r_2_f5 {d : mD} {x : Int} (hS : Safe d) (hx : ldB x) : -1 ≤ d x 5 ∧ d x 5 ≤ 1073741823 := (hS.rd (cd_2_0 hx) 5 (by decide)).2.2.2.1 rfl
theorem s_2_f5 {d : mD} {x v : Int} (hS : Safe d) (hx : ldB x) (hv : -1 ≤ v ∧ v ≤ 1073741823) : Safe (mset d x 5 v) := hS.set (cd_2_0 hx) (⟨fun h => absurd h (by decide), fun h => absurd h (by decide), fun h => absurd h (by decide), fun _ => hv, fun h => absurd h (by decide)⟩)
theorem r_2_f6 {d : mD} {x : Int} (hS : Safe d) (hx : ldB x) : -1 ≤ d x 6 ∧ d x 6 ≤ 59 := (hS.rd (cd_2_0 hx) 6 (by decide)).2.2.2.2 rfl
theorem s_2_f6 {d : mD} {x v : Int} (hS : Safe d) (hx : ldB x) (hv : -1 ≤ v ∧ v ≤ 59) : Safe (mset d x 6 v) := hS.set (cd_2_0 hx) (⟨fun h => absurd h (by decide), fun h => absurd h (by decide), fun h => absurd h (by decide), fun h => absurd h (by decide), fun _ => hv⟩)
theorem r_0_f1 {d : mD} {x : Int} (hS : Safe d) (hx : hiB x) : 0 ≤ d x 1 ∧ d x 1 ≤ 7 := (hS.rd (cd_0_0 hx) 1 (by decide)).1 rfl
theorem s_0_f1 {d : mD} {x v : Int} (hS : Safe d) (hx : hiB x) (hv : 0 ≤ v ∧ v ≤ 7) : Safe (mset d x 1 v) := hS.set (cd_0_0 hx) (⟨fun _ => hv, fun h => absurd h (by decide)⟩)
theorem r_0_f2 {d : mD} {x : Int} (hS : Safe d) (hx : hiB x) : 0 ≤ d x 2 ∧ d x 2 ≤ 8 := (hS.rd (cd_0_0 hx) 2 (by decide)).2 rfl
theorem s_0_f2 {d : mD} {x v : Int} (hS : Safe d) (hx : hiB x) (hv : 0 ≤ v ∧ v ≤ 8) : Safe (mset d x 2 v) := hS.set (cd_0_0 hx) (⟨fun h => absurd h (by decide), fun _ => hv⟩)
theorem r_10_571 {d : mD} {x : Int} (hS : Safe d) (hx : wbB x) (i : Int) (h0 : 0 ≤ i := by omega) : 0 ≤ d (x + 571) i ∧ d (x + 571) i ≤ 1 := hS.rd (cd_10_571 hx) i h0
theorem s_10_571 {d : mD} {x i v : Int} (hS : Safe d) (hx : wbB x) (hv : 0 ≤ v ∧ v ≤ 1) : Safe (mset d (x + 571) i v) := hS.set (cd_10_571 hx) hv
theorem c_10_571 {d : mD} {x y sp dp n : Int} (hS : Safe d) (hx : wbB x) (hy : wbB y) (hsp : 0 ≤ sp := by omega) : Safe (mcopy d (x + 571) sp (y + 571) dp n) := hS.copy (cd_10_571 hx) (cd_10_571 hy) (fun _ _ _ h => h) hsp
theorem f_10_571 {d : mD} {x v : Int} (hS : Safe d) (hx : wbB x) (hv : 0 ≤ v ∧ v ≤ 1) : Safe (mfill d (x + 571) v) := hS.fill (cd_10_571 hx) (fun _ => hv)
theorem r_6_f1 {d : mD} {x : Int} (hS : Safe d) (hx : stB x) : 0 ≤ d x 1 ∧ d x 1 ≤ 99999 := by
  by_cases h : x = 580
  · subst h; exact (hS.rd tcd_s580 1 (by decide)).1 rfl
  · exact (hS.rd (tcd_s0 hx h) 1 (by decide)).1 rfl
theorem r_6_f2 {d : mD} {x : Int} (hS : Safe d) (hx : stB x) : 0 ≤ d x 2 ∧ d x 2 ≤ 1199 ∧ (x = 580 ∨ d x 2 ≤ 999) := by
  by_cases h : x = 580
  · subst h; have := (hS.rd tcd_s580 2 (by decide)).2 rfl; omega
  · have := (hS.rd (tcd_s0 hx h) 2 (by decide)).2 rfl; omega
theorem s_6_f1 {d : mD} {x v : Int} (hS : Safe d) (hx : stB x) (hv : 0 ≤ v ∧ v ≤ 99999) : Safe (mset d x 1 v) := by
  by_cases h : x = 580
  · subst h; exact hS.set tcd_s580 ⟨fun _ => hv, fun h => absurd h (by decide)⟩
  · exact hS.set (tcd_s0 hx h) ⟨fun _ => hv, fun h => absurd h (by decide)⟩
theorem s_6_f2 {d : mD} {x v : Int} (hS : Safe d) (hx : stB x) (hv : 0 ≤ v ∧ v ≤ 1199 ∧ (x = 580 ∨ v ≤ 999)) : Safe (mset d x 2 v) := by
  by_cases h : x = 580
  · subst h; exact hS.set tcd_s580 ⟨fun h => absurd h (by decide), fun _ => ⟨hv.1, hv.2.1⟩⟩
  · exact hS.set (tcd_s0 hx h) ⟨fun h => absurd h (by decide), fun _ => ⟨hv.1, hv.2.2.resolve_left h⟩⟩
theorem r_7_f1 {d : mD} {x : Int} (hS : Safe d) (hx : txB x) : 0 ≤ d x 1 ∧ d x 1 ≤ 1000 := by
  rcases hx with rfl | rfl
  · exact (hS.rd (a := 572) (k := 572) rfl 1 (by decide)) rfl
  · exact (hS.rd (a := 578) (k := 578) rfl 1 (by decide)) rfl
theorem s_7_f1 {d : mD} {x v : Int} (hS : Safe d) (hx : txB x) (hv : 0 ≤ v ∧ v ≤ 1000) : Safe (mset d x 1 v) := by
  rcases hx with rfl | rfl
  · exact hS.set (k := 572) rfl (fun _ => hv)
  · exact hS.set (k := 578) rfl (fun _ => hv)
theorem r_7_1 {d : mD} {x : Int} (hS : Safe d) (hx : txB x) (i : Int) (h0 : 0 ≤ i := by omega) : -128 ≤ d (x + 1) i ∧ d (x + 1) i ≤ 127 := by
  rcases hx with rfl | rfl
  · exact hS.rd (a := 572 + 1) (k := 573) rfl i h0
  · exact hS.rd (a := 578 + 1) (k := 579) rfl i h0
theorem s_7_1 {d : mD} {x i v : Int} (hS : Safe d) (hx : txB x) (hv : -128 ≤ v ∧ v ≤ 127) : Safe (mset d (x + 1) i v) := by
  rcases hx with rfl | rfl
  · exact hS.set (k := 573) rfl hv
  · exact hS.set (k := 579) rfl hv
-- what the machine's words give
theorem mI_inR (f : Int32 → Int32 → Int32) (x y : Int) : mInR (mI f x y) := ⟨Int32.le_toInt _, Int32.toInt_le _⟩
theorem mJ_inL (f : Int64 → Int64 → Int64) (x y : Int) : mInL (mJ f x y) := ⟨Int64.le_toInt _, Int64.toInt_le _⟩
theorem miand_r (x m : Int) (h0 : 0 ≤ m) (h1 : m < 2147483648) : 0 ≤ miand x m ∧ miand x m ≤ m := by
  obtain ⟨n, rfl⟩ := Int.eq_ofNat_of_zero_le h0
  have e : miand x (n : Int) = (((Int32.ofInt x).toBitVec.toNat &&& n : Nat) : Int) := by
    show (Int32.ofInt x &&& Int32.ofInt (n : Int)).toBitVec.toInt = _
    rw [Int32.toBitVec_and, BitVec.toInt_and]
    have hn : (Int32.ofInt (n : Int)).toBitVec.toNat = n := by
      show (BitVec.ofInt 32 (n : Int)).toNat = n
      rw [BitVec.toNat_ofInt]
      omega
    rw [hn]
    have hl : (Int32.ofInt x).toBitVec.toNat &&& n ≤ n := Nat.and_le_right
    rw [Int.bmod_eq_of_le] <;> omega
  have hl : (Int32.ofInt x).toBitVec.toNat &&& n ≤ n := Nat.and_le_right
  rw [e]
  omega
def mfl (d : mD) (a v n : Int) : mD := fun b j => if b = a ∧ 0 ≤ j ∧ j < n then v else d b j
theorem mfl_ne {d : mD} {a v n b : Int} (h : b ≠ a) : mfl d a v n b = d b := by
  unfold mfl; exact funext (fun j => if_neg (fun c => h c.1))
theorem Safe.fl {d : mD} (h : Safe d) {a v n : Int} (hv : ∀ i, rg (tcd a) i v) : Safe (mfl d a v n) := by
  intro b j hj
  unfold mfl
  split
  · rename_i c
    rw [c.1]
    exact hv j
  · exact h b j hj
theorem mfl_s (d : mD) (a v : Int) {n : Int} (h : 0 ≤ n) : mset (mfl d a v n) a n v = mfl d a v (n + 1) := by
  funext b j
  unfold mset mfl
  by_cases hb : b = a
  · subst hb
    by_cases hj : j = n
    · subst hj
      rw [if_pos ⟨rfl, rfl⟩, if_pos ⟨rfl, h, by omega⟩]
    · rw [if_neg (fun c => hj c.2)]
      by_cases hr : 0 ≤ j ∧ j < n
      · rw [if_pos ⟨rfl, hr⟩, if_pos ⟨rfl, hr.1, by omega⟩]
      · rw [if_neg (fun c => hr c.2), if_neg (fun c => hr ⟨c.2.1, by omega⟩)]
  · rw [if_neg (fun c => hb c.1), if_neg (fun c => hb c.1), if_neg (fun c => hb c.1)]
theorem mfl_0 (d : mD) (a v : Int) : mfl d a v 0 = d := by
  funext b j
  unfold mfl
  exact if_neg (fun c => by omega)
theorem hus_r {b t r : Int} (hb : 1 ≤ b ∧ b ≤ 6) (ht : 0 ≤ t) (hr : 1 ≤ r ∧ r ≤ 17) : 1 ≤ (t / b + r) * b - t ∧ (t / b + r) * b - t ≤ 102 := by
  obtain ⟨h0, h1⟩ := hb
  have h : b = 1 ∨ b = 2 ∨ b = 3 ∨ b = 4 ∨ b = 5 ∨ b = 6 := by omega
  rcases h with h | h | h | h | h | h <;> subst h <;> omega
theorem mdiv_r {x y : Int} (hx : 0 ≤ x) (hy : 0 < y) : 0 ≤ x / y ∧ x / y ≤ x := ⟨Int.ediv_nonneg hx (Int.le_of_lt hy), Int.ediv_le_self y hx⟩
theorem lin_r {b t h w : Int} (hb : 1 ≤ b) (ht : 0 ≤ t ∧ t ≤ 1199) (hh : 0 ≤ h ∧ h ≤ 200) (hw : 0 ≤ w ∧ w ≤ 4) : 0 ≤ ((t + h) / b - t / b) * w ∧ ((t + h) / b - t / b) * w ≤ 6000 := by
  have h1 := mdiv_r (x := t + h) (y := b) (by omega) (by omega)
  have h2 := mdiv_r (x := t) (y := b) (by omega) (by omega)
  have h3 : t / b ≤ (t + h) / b := Int.ediv_le_ediv (by omega) (by omega)
  obtain ⟨w0, w1⟩ := hw
  have h4 : w = 0 ∨ w = 1 ∨ w = 2 ∨ w = 3 ∨ w = 4 := by omega
  rcases h4 with h | h | h | h | h <;> subst h <;> omega
theorem mul_r {a b : Int} (ha : -200 ≤ a ∧ a ≤ 200) (hb : 0 ≤ b ∧ b ≤ 99) : -19800 ≤ a * b ∧ a * b ≤ 19800 := by
  have h1 : -200 * b ≤ a * b := Int.mul_le_mul_of_nonneg_right ha.1 hb.1
  have h2 : a * b ≤ 200 * b := Int.mul_le_mul_of_nonneg_right ha.2 hb.1
  omega
theorem dd_ok {a b : Int} (hb : 1 ≤ b ∧ b ≤ 2147483647) : vf_n64 (FP.ddiv (mbit (mi2d a)) (mbit (mi2d b))) := by
  have e : ∀ x, mbit (mi2d x) = FP.i2d (Int32.ofInt x) := fun x => by
    unfold mbit mi2d mof
    rw [Int.toNat_natCast, UInt64.ofNat_toNat]
  rw [e, e]
  have hn : Int32.ofInt b ≠ 0 := fun h => by
    have h1 := congrArg Int32.toInt h
    rw [Int32.toInt_ofInt_of_le (by omega) (by omega)] at h1
    have h2 : (0 : Int32).toInt = 0 := by decide
    omega
  have h := FP.Core.ddiv_out (a := FP.i2d (Int32.ofInt a)) (b := FP.i2d (Int32.ofInt b)) (FP.Core.DFin.notNaN (FP.Core.i2d_fin _)) (FP.Core.i2d_fin _) (fun z => FP.Core.i2d_ne_zero hn ((FP.Core.zero_bits2 _).mp z))
  have h2 : ¬ 9218868437227405312 < (FP.ddiv (FP.i2d (Int32.ofInt a)) (FP.i2d (Int32.ofInt b))).toNat % 2 ^ 63 := fun c => by
    have h3 := (FP.Core.isNaN_bits _).mpr c
    exact Bool.false_ne_true (h.symm.trans h3)
  unfold vf_n64
  rw [UInt64.le_iff_toNat_le, UInt64.toNat_and]
  have e3 : (0x7fffffffffffffff : UInt64).toNat = 2 ^ 63 - 1 := by decide
  have e4 : (0x7ff0000000000000 : UInt64).toNat = 9218868437227405312 := by decide
  rw [e3, e4, Nat.and_two_pow_sub_one_eq_mod]
  exact Nat.le_of_not_lt h2
theorem mbool (x : Int) : (x = 0 ∧ miand x 0 = 0 ∧ miand x 1 = 0 ∧ mior x 0 = 0 ∧ mior x 1 = 1) ∨ (x = 1 ∧ miand x 0 = 0 ∧ miand x 1 = 1 ∧ mior x 0 = 1 ∧ mior x 1 = 1) ∨ x < 0 ∨ 1 < x := by
  by_cases h0 : x = 0
  · subst h0; left; decide
  · by_cases h1 : x = 1
    · subst h1; right; left; decide
    · omega
def EOK (E : mO × tW) : Prop := E.1.1 0 = 5 ∧ E.1.1 1 = 5 ∧ (E.1.2 0 0 = 0 ∧ E.1.2 0 1 = 0 ∧ E.1.2 0 2 = 1 ∧ E.1.2 0 3 = 1 ∧ E.1.2 0 4 = 1) ∧ (E.1.2 1 0 = 9 ∧ E.1.2 1 1 = 3 ∧ E.1.2 1 2 = 9 ∧ E.1.2 1 3 = 20 ∧ E.1.2 1 4 = 99)
theorem EOK.rd {E : mO × tW} (h : EOK E) {i : Int} (hi : 0 ≤ i ∧ i ≤ 4) : 0 ≤ E.1.2 0 i ∧ E.1.2 0 i ≤ 1 ∧ 1 ≤ E.1.2 1 i ∧ E.1.2 1 i ≤ 99 := by
  obtain ⟨-, -, h1, h2⟩ := h
  have h : i = 0 ∨ i = 1 ∨ i = 2 ∨ i = 3 ∨ i = 4 := by omega
  rcases h with h | h | h | h | h <;> subst h <;> omega
theorem mset_eq {d : mD} {a i v : Int} : mset d a i v a i = v := by
  unfold mset; exact if_pos ⟨rfl, rfl⟩
theorem mset_e2 {d : mD} {a i v j : Int} (h : j = i) : mset d a i v a j = v := by
  unfold mset; exact if_pos ⟨rfl, h⟩
theorem mset_ni {d : mD} {a i v b j : Int} (h : j ≠ i) : mset d a i v b j = d b j := by
  unfold mset; exact if_neg (fun c => h c.2)
theorem mcmp_r (x y : Int) : (x < y ∧ mcmp x y = -1) ∨ (x = y ∧ mcmp x y = 0) ∨ (y < x ∧ mcmp x y = 1) := by
  unfold mcmp; split <;> (try split) <;> omega
theorem mmax_r (x y : Int) : (mmax x y = x ∧ y ≤ x) ∨ (mmax x y = y ∧ x ≤ y) := by
  unfold mmax; split <;> omega
theorem mmin_r (x y : Int) : (mmin x y = x ∧ x ≤ y) ∨ (mmin x y = y ∧ y ≤ x) := by
  unfold mmin; split <;> omega
theorem mi2b_r (x : Int) : -128 ≤ mi2b x ∧ mi2b x ≤ 127 := by
  unfold mi2b
  rw [Int8.toInt_toInt32]
  exact ⟨Int8.le_toInt _, Int8.toInt_le _⟩
theorem mmod_r {x y : Int} (hx : 0 ≤ x) (hy : 0 < y) : 0 ≤ x % y ∧ x % y < y := ⟨Int.emod_nonneg x (by omega), Int.emod_lt_of_pos x hy⟩
theorem cd_11_0 {x : Int} (hx : mdB x) : tcd x = 769 := by
  rw [show x = 769 from hx]; rfl
theorem cd_11_1 {x : Int} (hx : mdB x) : tcd (x + 1) = 770 := by
  rw [show x = 769 from hx]; rfl
theorem cd_11_2 {x : Int} (hx : mdB x) : tcd (x + 2) = 771 := by
  rw [show x = 769 from hx]; rfl
theorem cd_11_3 {x : Int} (hx : mdB x) : tcd (x + 3) = 772 := by
  rw [show x = 769 from hx]; rfl
theorem cd_11_4 {x : Int} (hx : mdB x) : tcd (x + 4) = 773 := by
  rw [show x = 769 from hx]; rfl
theorem cd_11_5 {x : Int} (hx : mdB x) : tcd (x + 5) = 774 := by
  rw [show x = 769 from hx]; rfl
theorem cd_11_6 {x : Int} (hx : mdB x) : tcd (x + 6) = 775 := by
  rw [show x = 769 from hx]; rfl
theorem cd_11_7 {x : Int} (hx : mdB x) : tcd (x + 7) = 776 := by
  rw [show x = 769 from hx]; rfl
theorem cd_11_8 {x : Int} (hx : mdB x) : tcd (x + 8) = 777 := by
  rw [show x = 769 from hx]; rfl
theorem r_11_f0 {d : mD} {x : Int} (hS : Safe d) (hx : mdB x) : 0 ≤ d x 0 ∧ d x 0 ≤ 3 := (hS.rd (cd_11_0 hx) 0 (by decide)).1 rfl
theorem s_11_f0 {d : mD} {x v : Int} (hS : Safe d) (hx : mdB x) (hv : 0 ≤ v ∧ v ≤ 3) : Safe (mset d x 0 v) := hS.set (cd_11_0 hx) (⟨fun _ => hv, fun h => absurd h (by decide), fun h => absurd h (by decide), fun h => absurd h (by decide), fun h => absurd h (by decide), fun h => absurd h (by decide), fun h => absurd h (by decide), fun h => absurd h (by decide), fun h => absurd h (by decide), fun h => absurd h (by decide), fun h => absurd h (by decide)⟩)
theorem r_11_f7 {d : mD} {x : Int} (hS : Safe d) (hx : mdB x) : 0 ≤ d x 7 ∧ d x 7 ≤ 8 := (hS.rd (cd_11_0 hx) 7 (by decide)).2.1 rfl
theorem s_11_f7 {d : mD} {x v : Int} (hS : Safe d) (hx : mdB x) (hv : 0 ≤ v ∧ v ≤ 8) : Safe (mset d x 7 v) := hS.set (cd_11_0 hx) (⟨fun h => absurd h (by decide), fun _ => hv, fun h => absurd h (by decide), fun h => absurd h (by decide), fun h => absurd h (by decide), fun h => absurd h (by decide), fun h => absurd h (by decide), fun h => absurd h (by decide), fun h => absurd h (by decide), fun h => absurd h (by decide), fun h => absurd h (by decide)⟩)
theorem r_11_f9 {d : mD} {x : Int} (hS : Safe d) (hx : mdB x) : 0 ≤ d x 9 ∧ d x 9 ≤ 1000 := (hS.rd (cd_11_0 hx) 9 (by decide)).2.2.1 rfl
theorem s_11_f9 {d : mD} {x v : Int} (hS : Safe d) (hx : mdB x) (hv : 0 ≤ v ∧ v ≤ 1000) : Safe (mset d x 9 v) := hS.set (cd_11_0 hx) (⟨fun h => absurd h (by decide), fun h => absurd h (by decide), fun _ => hv, fun h => absurd h (by decide), fun h => absurd h (by decide), fun h => absurd h (by decide), fun h => absurd h (by decide), fun h => absurd h (by decide), fun h => absurd h (by decide), fun h => absurd h (by decide), fun h => absurd h (by decide)⟩)
theorem r_11_f10 {d : mD} {x : Int} (hS : Safe d) (hx : mdB x) : 0 ≤ d x 10 ∧ d x 10 ≤ 1000 := (hS.rd (cd_11_0 hx) 10 (by decide)).2.2.2.1 rfl
theorem s_11_f10 {d : mD} {x v : Int} (hS : Safe d) (hx : mdB x) (hv : 0 ≤ v ∧ v ≤ 1000) : Safe (mset d x 10 v) := hS.set (cd_11_0 hx) (⟨fun h => absurd h (by decide), fun h => absurd h (by decide), fun h => absurd h (by decide), fun _ => hv, fun h => absurd h (by decide), fun h => absurd h (by decide), fun h => absurd h (by decide), fun h => absurd h (by decide), fun h => absurd h (by decide), fun h => absurd h (by decide), fun h => absurd h (by decide)⟩)
theorem r_11_f11 {d : mD} {x : Int} (hS : Safe d) (hx : mdB x) : 0 ≤ d x 11 ∧ d x 11 ≤ 6 := (hS.rd (cd_11_0 hx) 11 (by decide)).2.2.2.2.1 rfl
theorem s_11_f11 {d : mD} {x v : Int} (hS : Safe d) (hx : mdB x) (hv : 0 ≤ v ∧ v ≤ 6) : Safe (mset d x 11 v) := hS.set (cd_11_0 hx) (⟨fun h => absurd h (by decide), fun h => absurd h (by decide), fun h => absurd h (by decide), fun h => absurd h (by decide), fun _ => hv, fun h => absurd h (by decide), fun h => absurd h (by decide), fun h => absurd h (by decide), fun h => absurd h (by decide), fun h => absurd h (by decide), fun h => absurd h (by decide)⟩)
theorem r_11_f12 {d : mD} {x : Int} (hS : Safe d) (hx : mdB x) : -1 ≤ d x 12 ∧ d x 12 ≤ 1000 := (hS.rd (cd_11_0 hx) 12 (by decide)).2.2.2.2.2.1 rfl
theorem s_11_f12 {d : mD} {x v : Int} (hS : Safe d) (hx : mdB x) (hv : -1 ≤ v ∧ v ≤ 1000) : Safe (mset d x 12 v) := hS.set (cd_11_0 hx) (⟨fun h => absurd h (by decide), fun h => absurd h (by decide), fun h => absurd h (by decide), fun h => absurd h (by decide), fun h => absurd h (by decide), fun _ => hv, fun h => absurd h (by decide), fun h => absurd h (by decide), fun h => absurd h (by decide), fun h => absurd h (by decide), fun h => absurd h (by decide)⟩)
theorem r_11_f13 {d : mD} {x : Int} (hS : Safe d) (hx : mdB x) : 0 ≤ d x 13 ∧ d x 13 ≤ 1 := (hS.rd (cd_11_0 hx) 13 (by decide)).2.2.2.2.2.2.1 rfl
theorem s_11_f13 {d : mD} {x v : Int} (hS : Safe d) (hx : mdB x) (hv : 0 ≤ v ∧ v ≤ 1) : Safe (mset d x 13 v) := hS.set (cd_11_0 hx) (⟨fun h => absurd h (by decide), fun h => absurd h (by decide), fun h => absurd h (by decide), fun h => absurd h (by decide), fun h => absurd h (by decide), fun h => absurd h (by decide), fun _ => hv, fun h => absurd h (by decide), fun h => absurd h (by decide), fun h => absurd h (by decide), fun h => absurd h (by decide)⟩)
theorem r_11_f14 {d : mD} {x : Int} (hS : Safe d) (hx : mdB x) : 0 ≤ d x 14 ∧ d x 14 ≤ 99999 := (hS.rd (cd_11_0 hx) 14 (by decide)).2.2.2.2.2.2.2.1 rfl
theorem s_11_f14 {d : mD} {x v : Int} (hS : Safe d) (hx : mdB x) (hv : 0 ≤ v ∧ v ≤ 99999) : Safe (mset d x 14 v) := hS.set (cd_11_0 hx) (⟨fun h => absurd h (by decide), fun h => absurd h (by decide), fun h => absurd h (by decide), fun h => absurd h (by decide), fun h => absurd h (by decide), fun h => absurd h (by decide), fun h => absurd h (by decide), fun _ => hv, fun h => absurd h (by decide), fun h => absurd h (by decide), fun h => absurd h (by decide)⟩)
theorem r_11_f15 {d : mD} {x : Int} (hS : Safe d) (hx : mdB x) : 0 ≤ d x 15 ∧ d x 15 ≤ 1000 := (hS.rd (cd_11_0 hx) 15 (by decide)).2.2.2.2.2.2.2.2.1 rfl
theorem s_11_f15 {d : mD} {x v : Int} (hS : Safe d) (hx : mdB x) (hv : 0 ≤ v ∧ v ≤ 1000) : Safe (mset d x 15 v) := hS.set (cd_11_0 hx) (⟨fun h => absurd h (by decide), fun h => absurd h (by decide), fun h => absurd h (by decide), fun h => absurd h (by decide), fun h => absurd h (by decide), fun h => absurd h (by decide), fun h => absurd h (by decide), fun h => absurd h (by decide), fun _ => hv, fun h => absurd h (by decide), fun h => absurd h (by decide)⟩)
theorem r_11_f16 {d : mD} {x : Int} (hS : Safe d) (hx : mdB x) : 0 ≤ d x 16 ∧ d x 16 ≤ 1000 := (hS.rd (cd_11_0 hx) 16 (by decide)).2.2.2.2.2.2.2.2.2.1 rfl
theorem s_11_f16 {d : mD} {x v : Int} (hS : Safe d) (hx : mdB x) (hv : 0 ≤ v ∧ v ≤ 1000) : Safe (mset d x 16 v) := hS.set (cd_11_0 hx) (⟨fun h => absurd h (by decide), fun h => absurd h (by decide), fun h => absurd h (by decide), fun h => absurd h (by decide), fun h => absurd h (by decide), fun h => absurd h (by decide), fun h => absurd h (by decide), fun h => absurd h (by decide), fun h => absurd h (by decide), fun _ => hv, fun h => absurd h (by decide)⟩)
theorem r_11_f18 {d : mD} {x : Int} (hS : Safe d) (hx : mdB x) : 0 ≤ d x 18 ∧ d x 18 ≤ 800 := (hS.rd (cd_11_0 hx) 18 (by decide)).2.2.2.2.2.2.2.2.2.2 rfl
theorem s_11_f18 {d : mD} {x v : Int} (hS : Safe d) (hx : mdB x) (hv : 0 ≤ v ∧ v ≤ 800) : Safe (mset d x 18 v) := hS.set (cd_11_0 hx) (⟨fun h => absurd h (by decide), fun h => absurd h (by decide), fun h => absurd h (by decide), fun h => absurd h (by decide), fun h => absurd h (by decide), fun h => absurd h (by decide), fun h => absurd h (by decide), fun h => absurd h (by decide), fun h => absurd h (by decide), fun h => absurd h (by decide), fun _ => hv⟩)
theorem r_11_6 {d : mD} {x : Int} (hS : Safe d) (hx : mdB x) (i : Int) (h0 : 0 ≤ i := by omega) : 0 ≤ d (x + 6) i ∧ d (x + 6) i ≤ 1 := hS.rd (cd_11_6 hx) i h0
theorem s_11_6 {d : mD} {x i v : Int} (hS : Safe d) (hx : mdB x) (hv : 0 ≤ v ∧ v ≤ 1) : Safe (mset d (x + 6) i v) := hS.set (cd_11_6 hx) hv
theorem c_11_6 {d : mD} {x y sp dp n : Int} (hS : Safe d) (hx : mdB x) (hy : mdB y) (hsp : 0 ≤ sp := by omega) : Safe (mcopy d (x + 6) sp (y + 6) dp n) := hS.copy (cd_11_6 hx) (cd_11_6 hy) (fun _ _ _ h => h) hsp
theorem f_11_6 {d : mD} {x v : Int} (hS : Safe d) (hx : mdB x) (hv : 0 ≤ v ∧ v ≤ 1) : Safe (mfill d (x + 6) v) := hS.fill (cd_11_6 hx) (fun _ => hv)
theorem r_11_7 {d : mD} {x : Int} (hS : Safe d) (hx : mdB x) (i : Int) (h0 : 0 ≤ i := by omega) : 0 ≤ d (x + 7) i ∧ d (x + 7) i ≤ 255 := hS.rd (cd_11_7 hx) i h0
theorem s_11_7 {d : mD} {x i v : Int} (hS : Safe d) (hx : mdB x) (hv : 0 ≤ v ∧ v ≤ 255) : Safe (mset d (x + 7) i v) := hS.set (cd_11_7 hx) hv
theorem c_11_7 {d : mD} {x y sp dp n : Int} (hS : Safe d) (hx : mdB x) (hy : mdB y) (hsp : 0 ≤ sp := by omega) : Safe (mcopy d (x + 7) sp (y + 7) dp n) := hS.copy (cd_11_7 hx) (cd_11_7 hy) (fun _ _ _ h => h) hsp
theorem f_11_7 {d : mD} {x v : Int} (hS : Safe d) (hx : mdB x) (hv : 0 ≤ v ∧ v ≤ 255) : Safe (mfill d (x + 7) v) := hS.fill (cd_11_7 hx) (fun _ => hv)
theorem r_11_8 {d : mD} {x : Int} (hS : Safe d) (hx : mdB x) (i : Int) (h0 : 0 ≤ i := by omega) : 0 ≤ d (x + 8) i ∧ d (x + 8) i ≤ 255 := hS.rd (cd_11_8 hx) i h0
theorem s_11_8 {d : mD} {x i v : Int} (hS : Safe d) (hx : mdB x) (hv : 0 ≤ v ∧ v ≤ 255) : Safe (mset d (x + 8) i v) := hS.set (cd_11_8 hx) hv
theorem c_11_8 {d : mD} {x y sp dp n : Int} (hS : Safe d) (hx : mdB x) (hy : mdB y) (hsp : 0 ≤ sp := by omega) : Safe (mcopy d (x + 8) sp (y + 8) dp n) := hS.copy (cd_11_8 hx) (cd_11_8 hy) (fun _ _ _ h => h) hsp
theorem f_11_8 {d : mD} {x v : Int} (hS : Safe d) (hx : mdB x) (hv : 0 ≤ v ∧ v ≤ 255) : Safe (mfill d (x + 8) v) := hS.fill (cd_11_8 hx) (fun _ => hv)
theorem rr_1 {d : mD} {x : Int} (hS : Safe d) (hx : mdB x) (i : Int) (h0 : 0 ≤ i := by omega) : rgW i (d (x + 1) i) := hS.rd (cd_11_1 hx) i h0
theorem sr_1 {d : mD} {x i j v : Int} (hS : Safe d) (hx : mdB x) (e : i = j) (q : rgW j v) : Safe (mset d (x + 1) i v) := hS.set (cd_11_1 hx) (show rgW i v by rw [e]; exact q)
theorem rr_2 {d : mD} {x : Int} (hS : Safe d) (hx : mdB x) (i : Int) (h0 : 0 ≤ i := by omega) : rgW (i % 3116) (d (x + 2) i) := hS.rd (cd_11_2 hx) i h0
theorem sr_2 {d : mD} {x i j v : Int} (hS : Safe d) (hx : mdB x) (e : (i % 3116) = j) (q : rgW j v) : Safe (mset d (x + 2) i v) := hS.set (cd_11_2 hx) (show rgW (i % 3116) v by rw [e]; exact q)
theorem rr_3 {d : mD} {x : Int} (hS : Safe d) (hx : mdB x) (i : Int) (h0 : 0 ≤ i := by omega) : rgW (i % 3116) (d (x + 3) i) := hS.rd (cd_11_3 hx) i h0
theorem sr_3 {d : mD} {x i j v : Int} (hS : Safe d) (hx : mdB x) (e : (i % 3116) = j) (q : rgW j v) : Safe (mset d (x + 3) i v) := hS.set (cd_11_3 hx) (show rgW (i % 3116) v by rw [e]; exact q)
theorem rr_4 {d : mD} {x : Int} (hS : Safe d) (hx : mdB x) (i : Int) (h0 : 0 ≤ i := by omega) : rgW i (d (x + 4) i) := hS.rd (cd_11_4 hx) i h0
theorem sr_4 {d : mD} {x i j v : Int} (hS : Safe d) (hx : mdB x) (e : i = j) (q : rgW j v) : Safe (mset d (x + 4) i v) := hS.set (cd_11_4 hx) (show rgW i v by rw [e]; exact q)
theorem rr_5 {d : mD} {x : Int} (hS : Safe d) (hx : mdB x) (i : Int) (h0 : 0 ≤ i := by omega) : rgW i (d (x + 5) i) := hS.rd (cd_11_5 hx) i h0
theorem sr_5 {d : mD} {x i j v : Int} (hS : Safe d) (hx : mdB x) (e : i = j) (q : rgW j v) : Safe (mset d (x + 5) i v) := hS.set (cd_11_5 hx) (show rgW i v by rw [e]; exact q)
theorem mh_0 {d : mD} {x : Int} (hS : Safe d) (hx : mdB x) (i : Int) (he : i = 0) : 0 ≤ d (x + 1) i ∧ d (x + 1) i ≤ 1200 := rgW_at (show wk i = 0 by rw [he]; decide) (rr_1 hS hx i (by omega))
theorem smh_0 {d : mD} {x v : Int} (hS : Safe d) (hx : mdB x) (i : Int) (he : i = 0) (hv : 0 ≤ v ∧ v ≤ 1200) : Safe (mset d (x + 1) i v) := hS.set (cd_11_1 hx) (show rgW i v from rgW_of (show wk i = 0 by rw [he]; decide) hv)
theorem mh_1 {d : mD} {x : Int} (hS : Safe d) (hx : mdB x) (i : Int) (he : i = 1) : 0 ≤ d (x + 1) i ∧ d (x + 1) i ≤ 99999 := rgW_at (show wk i = 1 by rw [he]; decide) (rr_1 hS hx i (by omega))
theorem smh_1 {d : mD} {x v : Int} (hS : Safe d) (hx : mdB x) (i : Int) (he : i = 1) (hv : 0 ≤ v ∧ v ≤ 99999) : Safe (mset d (x + 1) i v) := hS.set (cd_11_1 hx) (show rgW i v from rgW_of (show wk i = 1 by rw [he]; decide) hv)
theorem mh_7 {d : mD} {x : Int} (hS : Safe d) (hx : mdB x) (i : Int) (he : i = 7) : 0 ≤ d (x + 1) i ∧ d (x + 1) i ≤ 6 := rgW_at (show wk i = 7 by rw [he]; decide) (rr_1 hS hx i (by omega))
theorem smh_7 {d : mD} {x v : Int} (hS : Safe d) (hx : mdB x) (i : Int) (he : i = 7) (hv : 0 ≤ v ∧ v ≤ 6) : Safe (mset d (x + 1) i v) := hS.set (cd_11_1 hx) (show rgW i v from rgW_of (show wk i = 7 by rw [he]; decide) hv)
theorem mh_8 {d : mD} {x : Int} (hS : Safe d) (hx : mdB x) (i : Int) (he : i = 8) : 0 ≤ d (x + 1) i ∧ d (x + 1) i ≤ 16 := rgW_at (show wk i = 8 by rw [he]; decide) (rr_1 hS hx i (by omega))
theorem smh_8 {d : mD} {x v : Int} (hS : Safe d) (hx : mdB x) (i : Int) (he : i = 8) (hv : 0 ≤ v ∧ v ≤ 16) : Safe (mset d (x + 1) i v) := hS.set (cd_11_1 hx) (show rgW i v from rgW_of (show wk i = 8 by rw [he]; decide) hv)
theorem mh_9 {d : mD} {x : Int} (hS : Safe d) (hx : mdB x) (i : Int) (he : i = 9) : 0 ≤ d (x + 1) i ∧ d (x + 1) i ≤ 61 := rgW_at (show wk i = 9 by rw [he]; decide) (rr_1 hS hx i (by omega))
theorem smh_9 {d : mD} {x v : Int} (hS : Safe d) (hx : mdB x) (i : Int) (he : i = 9) (hv : 0 ≤ v ∧ v ≤ 61) : Safe (mset d (x + 1) i v) := hS.set (cd_11_1 hx) (show rgW i v from rgW_of (show wk i = 9 by rw [he]; decide) hv)
theorem mh_10 {d : mD} {x : Int} (hS : Safe d) (hx : mdB x) (i : Int) (he : i = 10) : 0 ≤ d (x + 1) i ∧ d (x + 1) i ≤ 200 := rgW_at (show wk i = 10 by rw [he]; decide) (rr_1 hS hx i (by omega))
theorem smh_10 {d : mD} {x v : Int} (hS : Safe d) (hx : mdB x) (i : Int) (he : i = 10) (hv : 0 ≤ v ∧ v ≤ 200) : Safe (mset d (x + 1) i v) := hS.set (cd_11_1 hx) (show rgW i v from rgW_of (show wk i = 10 by rw [he]; decide) hv)
theorem mh_11 {d : mD} {x : Int} (hS : Safe d) (hx : mdB x) (i : Int) (he : i = 11) : 0 ≤ d (x + 1) i ∧ d (x + 1) i ≤ 200 := rgW_at (show wk i = 11 by rw [he]; decide) (rr_1 hS hx i (by omega))
theorem smh_11 {d : mD} {x v : Int} (hS : Safe d) (hx : mdB x) (i : Int) (he : i = 11) (hv : 0 ≤ v ∧ v ≤ 200) : Safe (mset d (x + 1) i v) := hS.set (cd_11_1 hx) (show rgW i v from rgW_of (show wk i = 11 by rw [he]; decide) hv)
theorem mh_2 {d : mD} {x : Int} (hS : Safe d) (hx : mdB x) (i : Int) (he : i = 2) : 0 ≤ d (x + 1) i ∧ d (x + 1) i ≤ 99 := rgW_at (show wk i = 2 by rw [he]; decide) (rr_1 hS hx i (by omega))
theorem smh_2 {d : mD} {x v : Int} (hS : Safe d) (hx : mdB x) (i : Int) (he : i = 2) (hv : 0 ≤ v ∧ v ≤ 99) : Safe (mset d (x + 1) i v) := hS.set (cd_11_1 hx) (show rgW i v from rgW_of (show wk i = 2 by rw [he]; decide) hv)
theorem mh_4 {d : mD} {x : Int} (hS : Safe d) (hx : mdB x) (i : Int) (he : i = 4) : 0 ≤ d (x + 1) i ∧ d (x + 1) i ≤ 99 := rgW_at (show wk i = 4 by rw [he]; decide) (rr_1 hS hx i (by omega))
theorem smh_4 {d : mD} {x v : Int} (hS : Safe d) (hx : mdB x) (i : Int) (he : i = 4) (hv : 0 ≤ v ∧ v ≤ 99) : Safe (mset d (x + 1) i v) := hS.set (cd_11_1 hx) (show rgW i v from rgW_of (show wk i = 4 by rw [he]; decide) hv)
theorem mh_5 {d : mD} {x : Int} (hS : Safe d) (hx : mdB x) (i : Int) (he : i = 5) : 0 ≤ d (x + 1) i ∧ d (x + 1) i ≤ 99 := rgW_at (show wk i = 5 by rw [he]; decide) (rr_1 hS hx i (by omega))
theorem smh_5 {d : mD} {x v : Int} (hS : Safe d) (hx : mdB x) (i : Int) (he : i = 5) (hv : 0 ≤ v ∧ v ≤ 99) : Safe (mset d (x + 1) i v) := hS.set (cd_11_1 hx) (show rgW i v from rgW_of (show wk i = 5 by rw [he]; decide) hv)
theorem mh_6 {d : mD} {x : Int} (hS : Safe d) (hx : mdB x) (i : Int) (he : i = 6) : 0 ≤ d (x + 1) i ∧ d (x + 1) i ≤ 99 := rgW_at (show wk i = 6 by rw [he]; decide) (rr_1 hS hx i (by omega))
theorem smh_6 {d : mD} {x v : Int} (hS : Safe d) (hx : mdB x) (i : Int) (he : i = 6) (hv : 0 ≤ v ∧ v ≤ 99) : Safe (mset d (x + 1) i v) := hS.set (cd_11_1 hx) (show rgW i v from rgW_of (show wk i = 6 by rw [he]; decide) hv)
theorem mh_3 {d : mD} {x : Int} (hS : Safe d) (hx : mdB x) (i : Int) (he : i = 3) : 0 ≤ d (x + 1) i ∧ d (x + 1) i ≤ 3 := rgW_at (show wk i = 3 by rw [he]; decide) (rr_1 hS hx i (by omega))
theorem smh_3 {d : mD} {x v : Int} (hS : Safe d) (hx : mdB x) (i : Int) (he : i = 3) (hv : 0 ≤ v ∧ v ≤ 3) : Safe (mset d (x + 1) i v) := hS.set (cd_11_1 hx) (show rgW i v from rgW_of (show wk i = 3 by rw [he]; decide) hv)
theorem mo_0 {d : mD} {x : Int} (hS : Safe d) (hx : mdB x) (k : Int) (i : Int) (hk : 0 ≤ k ∧ k ≤ 5) (he : i = 12 + 68 * k + 0) : 0 ≤ d (x + 1) i ∧ d (x + 1) i ≤ 387420488 := rgW_at (wk_o hk (f := 0) (by decide) (n := 20) (by decide) (by omega)) (rr_1 hS hx i (by omega))
theorem smo_0 {d : mD} {x v : Int} (hS : Safe d) (hx : mdB x) (k : Int) (i : Int) (hk : 0 ≤ k ∧ k ≤ 5) (he : i = 12 + 68 * k + 0) (hv : 0 ≤ v ∧ v ≤ 387420488) : Safe (mset d (x + 1) i v) := hS.set (cd_11_1 hx) (show rgW i v from rgW_of (wk_o hk (f := 0) (by decide) (n := 20) (by decide) (by omega)) hv)
theorem mo_1 {d : mD} {x : Int} (hS : Safe d) (hx : mdB x) (k : Int) (i : Int) (hk : 0 ≤ k ∧ k ≤ 5) (he : i = 12 + 68 * k + 1) : 0 ≤ d (x + 1) i ∧ d (x + 1) i ≤ 4 := rgW_at (wk_o hk (f := 1) (by decide) (n := 21) (by decide) (by omega)) (rr_1 hS hx i (by omega))
theorem smo_1 {d : mD} {x v : Int} (hS : Safe d) (hx : mdB x) (k : Int) (i : Int) (hk : 0 ≤ k ∧ k ≤ 5) (he : i = 12 + 68 * k + 1) (hv : 0 ≤ v ∧ v ≤ 4) : Safe (mset d (x + 1) i v) := hS.set (cd_11_1 hx) (show rgW i v from rgW_of (wk_o hk (f := 1) (by decide) (n := 21) (by decide) (by omega)) hv)
theorem mo_2 {d : mD} {x : Int} (hS : Safe d) (hx : mdB x) (k : Int) (i : Int) (hk : 0 ≤ k ∧ k ≤ 5) (he : i = 12 + 68 * k + 2) : 0 ≤ d (x + 1) i ∧ d (x + 1) i ≤ 6 := rgW_at (wk_o hk (f := 2) (by decide) (n := 22) (by decide) (by omega)) (rr_1 hS hx i (by omega))
theorem smo_2 {d : mD} {x v : Int} (hS : Safe d) (hx : mdB x) (k : Int) (i : Int) (hk : 0 ≤ k ∧ k ≤ 5) (he : i = 12 + 68 * k + 2) (hv : 0 ≤ v ∧ v ≤ 6) : Safe (mset d (x + 1) i v) := hS.set (cd_11_1 hx) (show rgW i v from rgW_of (wk_o hk (f := 2) (by decide) (n := 22) (by decide) (by omega)) hv)
theorem mo_3 {d : mD} {x : Int} (hS : Safe d) (hx : mdB x) (k : Int) (i : Int) (hk : 0 ≤ k ∧ k ≤ 5) (he : i = 12 + 68 * k + 3) : 0 ≤ d (x + 1) i ∧ d (x + 1) i ≤ 20 := rgW_at (wk_o hk (f := 3) (by decide) (n := 23) (by decide) (by omega)) (rr_1 hS hx i (by omega))
theorem smo_3 {d : mD} {x v : Int} (hS : Safe d) (hx : mdB x) (k : Int) (i : Int) (hk : 0 ≤ k ∧ k ≤ 5) (he : i = 12 + 68 * k + 3) (hv : 0 ≤ v ∧ v ≤ 20) : Safe (mset d (x + 1) i v) := hS.set (cd_11_1 hx) (show rgW i v from rgW_of (wk_o hk (f := 3) (by decide) (n := 23) (by decide) (by omega)) hv)
theorem mo_4 {d : mD} {x : Int} (hS : Safe d) (hx : mdB x) (k : Int) (i : Int) (hk : 0 ≤ k ∧ k ≤ 5) (he : i = 12 + 68 * k + 4) : 0 ≤ d (x + 1) i ∧ d (x + 1) i ≤ 1 := rgW_at (wk_o hk (f := 4) (by decide) (n := 24) (by decide) (by omega)) (rr_1 hS hx i (by omega))
theorem smo_4 {d : mD} {x v : Int} (hS : Safe d) (hx : mdB x) (k : Int) (i : Int) (hk : 0 ≤ k ∧ k ≤ 5) (he : i = 12 + 68 * k + 4) (hv : 0 ≤ v ∧ v ≤ 1) : Safe (mset d (x + 1) i v) := hS.set (cd_11_1 hx) (show rgW i v from rgW_of (wk_o hk (f := 4) (by decide) (n := 24) (by decide) (by omega)) hv)
theorem mo_5 {d : mD} {x : Int} (hS : Safe d) (hx : mdB x) (k : Int) (i : Int) (hk : 0 ≤ k ∧ k ≤ 5) (he : i = 12 + 68 * k + 5) : 0 ≤ d (x + 1) i ∧ d (x + 1) i ≤ 61 := rgW_at (wk_o hk (f := 5) (by decide) (n := 25) (by decide) (by omega)) (rr_1 hS hx i (by omega))
theorem smo_5 {d : mD} {x v : Int} (hS : Safe d) (hx : mdB x) (k : Int) (i : Int) (hk : 0 ≤ k ∧ k ≤ 5) (he : i = 12 + 68 * k + 5) (hv : 0 ≤ v ∧ v ≤ 61) : Safe (mset d (x + 1) i v) := hS.set (cd_11_1 hx) (show rgW i v from rgW_of (wk_o hk (f := 5) (by decide) (n := 25) (by decide) (by omega)) hv)
theorem smo_6 {d : mD} {x v : Int} (hS : Safe d) (hx : mdB x) (k : Int) (i : Int) (hk : 0 ≤ k ∧ k ≤ 5) (he : i = 12 + 68 * k + 6) : Safe (mset d (x + 1) i v) := hS.set (cd_11_1 hx) (show rgW i v from rgW_of (wk_o hk (f := 6) (by decide) (n := 26) (by decide) (by omega)) trivial)
theorem mp_0 {d : mD} {x : Int} (hS : Safe d) (hx : mdB x) (k : Int) (i : Int) (hk : 0 ≤ k ∧ k ≤ 15) (he : i = 420 + 2 * k) : 0 ≤ d (x + 1) i ∧ d (x + 1) i ≤ 387420488 := rgW_at (wk_p hk (f := 0) (by decide) (n := 30) (by decide) (by omega)) (rr_1 hS hx i (by omega))
theorem smp_0 {d : mD} {x v : Int} (hS : Safe d) (hx : mdB x) (k : Int) (i : Int) (hk : 0 ≤ k ∧ k ≤ 15) (he : i = 420 + 2 * k) (hv : 0 ≤ v ∧ v ≤ 387420488) : Safe (mset d (x + 1) i v) := hS.set (cd_11_1 hx) (show rgW i v from rgW_of (wk_p hk (f := 0) (by decide) (n := 30) (by decide) (by omega)) hv)
theorem smp_1 {d : mD} {x v : Int} (hS : Safe d) (hx : mdB x) (k : Int) (i : Int) (hk : 0 ≤ k ∧ k ≤ 15) (he : i = 420 + 2 * k + 1) : Safe (mset d (x + 1) i v) := hS.set (cd_11_1 hx) (show rgW i v from rgW_of (wk_p hk (f := 1) (by decide) (n := 31) (by decide) (by omega)) trivial)
theorem mt_0 {d : mD} {x : Int} (hS : Safe d) (hx : mdB x) (k : Int) (i : Int) (hk : 0 ≤ k ∧ k ≤ 60) (he : i = 452 + 24 * k + 0) : 0 ≤ d (x + 1) i ∧ d (x + 1) i ≤ 15 := rgW_at (wk_t hk (f := 0) (by decide) (n := 40) (by decide) (by omega)) (rr_1 hS hx i (by omega))
theorem smt_0 {d : mD} {x v : Int} (hS : Safe d) (hx : mdB x) (k : Int) (i : Int) (hk : 0 ≤ k ∧ k ≤ 60) (he : i = 452 + 24 * k + 0) (hv : 0 ≤ v ∧ v ≤ 15) : Safe (mset d (x + 1) i v) := hS.set (cd_11_1 hx) (show rgW i v from rgW_of (wk_t hk (f := 0) (by decide) (n := 40) (by decide) (by omega)) hv)
theorem mt_1 {d : mD} {x : Int} (hS : Safe d) (hx : mdB x) (k : Int) (i : Int) (hk : 0 ≤ k ∧ k ≤ 60) (he : i = 452 + 24 * k + 1) : 0 ≤ d (x + 1) i ∧ d (x + 1) i ≤ 5 := rgW_at (wk_t hk (f := 1) (by decide) (n := 41) (by decide) (by omega)) (rr_1 hS hx i (by omega))
theorem smt_1 {d : mD} {x v : Int} (hS : Safe d) (hx : mdB x) (k : Int) (i : Int) (hk : 0 ≤ k ∧ k ≤ 60) (he : i = 452 + 24 * k + 1) (hv : 0 ≤ v ∧ v ≤ 5) : Safe (mset d (x + 1) i v) := hS.set (cd_11_1 hx) (show rgW i v from rgW_of (wk_t hk (f := 1) (by decide) (n := 41) (by decide) (by omega)) hv)
theorem mt_2 {d : mD} {x : Int} (hS : Safe d) (hx : mdB x) (k : Int) (i : Int) (hk : 0 ≤ k ∧ k ≤ 60) (he : i = 452 + 24 * k + 2) : 0 ≤ d (x + 1) i ∧ d (x + 1) i ≤ 1200 := rgW_at (wk_t hk (f := 2) (by decide) (n := 42) (by decide) (by omega)) (rr_1 hS hx i (by omega))
theorem smt_2 {d : mD} {x v : Int} (hS : Safe d) (hx : mdB x) (k : Int) (i : Int) (hk : 0 ≤ k ∧ k ≤ 60) (he : i = 452 + 24 * k + 2) (hv : 0 ≤ v ∧ v ≤ 1200) : Safe (mset d (x + 1) i v) := hS.set (cd_11_1 hx) (show rgW i v from rgW_of (wk_t hk (f := 2) (by decide) (n := 42) (by decide) (by omega)) hv)
theorem mt_3 {d : mD} {x : Int} (hS : Safe d) (hx : mdB x) (k : Int) (i : Int) (hk : 0 ≤ k ∧ k ≤ 60) (he : i = 452 + 24 * k + 3) : -1 ≤ d (x + 1) i ∧ d (x + 1) i ≤ 1200 := rgW_at (wk_t hk (f := 3) (by decide) (n := 43) (by decide) (by omega)) (rr_1 hS hx i (by omega))
theorem smt_3 {d : mD} {x v : Int} (hS : Safe d) (hx : mdB x) (k : Int) (i : Int) (hk : 0 ≤ k ∧ k ≤ 60) (he : i = 452 + 24 * k + 3) (hv : -1 ≤ v ∧ v ≤ 1200) : Safe (mset d (x + 1) i v) := hS.set (cd_11_1 hx) (show rgW i v from rgW_of (wk_t hk (f := 3) (by decide) (n := 43) (by decide) (by omega)) hv)
theorem mt_4 {d : mD} {x : Int} (hS : Safe d) (hx : mdB x) (k : Int) (i : Int) (hk : 0 ≤ k ∧ k ≤ 60) (he : i = 452 + 24 * k + 4) : 0 ≤ d (x + 1) i ∧ d (x + 1) i ≤ 2 := rgW_at (wk_t hk (f := 4) (by decide) (n := 44) (by decide) (by omega)) (rr_1 hS hx i (by omega))
theorem smt_4 {d : mD} {x v : Int} (hS : Safe d) (hx : mdB x) (k : Int) (i : Int) (hk : 0 ≤ k ∧ k ≤ 60) (he : i = 452 + 24 * k + 4) (hv : 0 ≤ v ∧ v ≤ 2) : Safe (mset d (x + 1) i v) := hS.set (cd_11_1 hx) (show rgW i v from rgW_of (wk_t hk (f := 4) (by decide) (n := 44) (by decide) (by omega)) hv)
theorem mt_5 {d : mD} {x : Int} (hS : Safe d) (hx : mdB x) (k : Int) (i : Int) (hk : 0 ≤ k ∧ k ≤ 60) (he : i = 452 + 24 * k + 5) : 0 ≤ d (x + 1) i ∧ d (x + 1) i ≤ 1 := rgW_at (wk_t hk (f := 5) (by decide) (n := 45) (by decide) (by omega)) (rr_1 hS hx i (by omega))
theorem smt_5 {d : mD} {x v : Int} (hS : Safe d) (hx : mdB x) (k : Int) (i : Int) (hk : 0 ≤ k ∧ k ≤ 60) (he : i = 452 + 24 * k + 5) (hv : 0 ≤ v ∧ v ≤ 1) : Safe (mset d (x + 1) i v) := hS.set (cd_11_1 hx) (show rgW i v from rgW_of (wk_t hk (f := 5) (by decide) (n := 45) (by decide) (by omega)) hv)
theorem mt_6 {d : mD} {x : Int} (hS : Safe d) (hx : mdB x) (k : Int) (i : Int) (hk : 0 ≤ k ∧ k ≤ 60) (he : i = 452 + 24 * k + 6) : 0 ≤ d (x + 1) i ∧ d (x + 1) i ≤ 1 := rgW_at (wk_t hk (f := 6) (by decide) (n := 46) (by decide) (by omega)) (rr_1 hS hx i (by omega))
theorem smt_6 {d : mD} {x v : Int} (hS : Safe d) (hx : mdB x) (k : Int) (i : Int) (hk : 0 ≤ k ∧ k ≤ 60) (he : i = 452 + 24 * k + 6) (hv : 0 ≤ v ∧ v ≤ 1) : Safe (mset d (x + 1) i v) := hS.set (cd_11_1 hx) (show rgW i v from rgW_of (wk_t hk (f := 6) (by decide) (n := 46) (by decide) (by omega)) hv)
theorem mt_7 {d : mD} {x : Int} (hS : Safe d) (hx : mdB x) (k : Int) (i : Int) (hk : 0 ≤ k ∧ k ≤ 60) (he : i = 452 + 24 * k + 7) : 0 ≤ d (x + 1) i ∧ d (x + 1) i ≤ 1000 := rgW_at (wk_t hk (f := 7) (by decide) (n := 47) (by decide) (by omega)) (rr_1 hS hx i (by omega))
theorem smt_7 {d : mD} {x v : Int} (hS : Safe d) (hx : mdB x) (k : Int) (i : Int) (hk : 0 ≤ k ∧ k ≤ 60) (he : i = 452 + 24 * k + 7) (hv : 0 ≤ v ∧ v ≤ 1000) : Safe (mset d (x + 1) i v) := hS.set (cd_11_1 hx) (show rgW i v from rgW_of (wk_t hk (f := 7) (by decide) (n := 47) (by decide) (by omega)) hv)
theorem mk_0 {d : mD} {x : Int} (hS : Safe d) (hx : mdB x) (k : Int) (i : Int) (hk : 0 ≤ k ∧ k ≤ 199) (he : i = 1916 + 5 * k + 0) : 0 ≤ d (x + 1) i ∧ d (x + 1) i ≤ 15 := rgW_at (wk_k hk (f := 0) (by decide) (n := 50) (by decide) (by omega)) (rr_1 hS hx i (by omega))
theorem smk_0 {d : mD} {x v : Int} (hS : Safe d) (hx : mdB x) (k : Int) (i : Int) (hk : 0 ≤ k ∧ k ≤ 199) (he : i = 1916 + 5 * k + 0) (hv : 0 ≤ v ∧ v ≤ 15) : Safe (mset d (x + 1) i v) := hS.set (cd_11_1 hx) (show rgW i v from rgW_of (wk_k hk (f := 0) (by decide) (n := 50) (by decide) (by omega)) hv)
theorem mk_1 {d : mD} {x : Int} (hS : Safe d) (hx : mdB x) (k : Int) (i : Int) (hk : 0 ≤ k ∧ k ≤ 199) (he : i = 1916 + 5 * k + 1) : 0 ≤ d (x + 1) i ∧ d (x + 1) i ≤ 60 := rgW_at (wk_k hk (f := 1) (by decide) (n := 51) (by decide) (by omega)) (rr_1 hS hx i (by omega))
theorem smk_1 {d : mD} {x v : Int} (hS : Safe d) (hx : mdB x) (k : Int) (i : Int) (hk : 0 ≤ k ∧ k ≤ 199) (he : i = 1916 + 5 * k + 1) (hv : 0 ≤ v ∧ v ≤ 60) : Safe (mset d (x + 1) i v) := hS.set (cd_11_1 hx) (show rgW i v from rgW_of (wk_k hk (f := 1) (by decide) (n := 51) (by decide) (by omega)) hv)
theorem mk_2 {d : mD} {x : Int} (hS : Safe d) (hx : mdB x) (k : Int) (i : Int) (hk : 0 ≤ k ∧ k ≤ 199) (he : i = 1916 + 5 * k + 2) : 0 ≤ d (x + 1) i ∧ d (x + 1) i ≤ 1300 := rgW_at (wk_k hk (f := 2) (by decide) (n := 52) (by decide) (by omega)) (rr_1 hS hx i (by omega))
theorem smk_2 {d : mD} {x v : Int} (hS : Safe d) (hx : mdB x) (k : Int) (i : Int) (hk : 0 ≤ k ∧ k ≤ 199) (he : i = 1916 + 5 * k + 2) (hv : 0 ≤ v ∧ v ≤ 1300) : Safe (mset d (x + 1) i v) := hS.set (cd_11_1 hx) (show rgW i v from rgW_of (wk_k hk (f := 2) (by decide) (n := 52) (by decide) (by omega)) hv)
theorem mk_3 {d : mD} {x : Int} (hS : Safe d) (hx : mdB x) (k : Int) (i : Int) (hk : 0 ≤ k ∧ k ≤ 199) (he : i = 1916 + 5 * k + 3) : 0 ≤ d (x + 1) i ∧ d (x + 1) i ≤ 2 := rgW_at (wk_k hk (f := 3) (by decide) (n := 53) (by decide) (by omega)) (rr_1 hS hx i (by omega))
theorem smk_3 {d : mD} {x v : Int} (hS : Safe d) (hx : mdB x) (k : Int) (i : Int) (hk : 0 ≤ k ∧ k ≤ 199) (he : i = 1916 + 5 * k + 3) (hv : 0 ≤ v ∧ v ≤ 2) : Safe (mset d (x + 1) i v) := hS.set (cd_11_1 hx) (show rgW i v from rgW_of (wk_k hk (f := 3) (by decide) (n := 53) (by decide) (by omega)) hv)
theorem mk_4 {d : mD} {x : Int} (hS : Safe d) (hx : mdB x) (k : Int) (i : Int) (hk : 0 ≤ k ∧ k ≤ 199) (he : i = 1916 + 5 * k + 4) : 0 ≤ d (x + 1) i ∧ d (x + 1) i ≤ 1200 := rgW_at (wk_k hk (f := 4) (by decide) (n := 54) (by decide) (by omega)) (rr_1 hS hx i (by omega))
theorem smk_4 {d : mD} {x v : Int} (hS : Safe d) (hx : mdB x) (k : Int) (i : Int) (hk : 0 ≤ k ∧ k ≤ 199) (he : i = 1916 + 5 * k + 4) (hv : 0 ≤ v ∧ v ≤ 1200) : Safe (mset d (x + 1) i v) := hS.set (cd_11_1 hx) (show rgW i v from rgW_of (wk_k hk (f := 4) (by decide) (n := 54) (by decide) (by omega)) hv)
theorem mf {d : mD} {x : Int} (hS : Safe d) (hx : mdB x) (k : Int) (i : Int) (hk : 0 ≤ k ∧ k ≤ 199) (he : i = 2916 + k) : 0 ≤ d (x + 1) i ∧ d (x + 1) i ≤ 199 := rgW_at (wk_f hk he) (rr_1 hS hx i (by omega))
theorem smf {d : mD} {x v : Int} (hS : Safe d) (hx : mdB x) (k : Int) (i : Int) (hk : 0 ≤ k ∧ k ≤ 199) (he : i = 2916 + k) (hv : 0 ≤ v ∧ v ≤ 199) : Safe (mset d (x + 1) i v) := hS.set (cd_11_1 hx) (show rgW i v from rgW_of (wk_f hk he) hv)
theorem mo_q {d : mD} {x : Int} (hS : Safe d) (hx : mdB x) (k e i : Int) (hk : 0 ≤ k ∧ k ≤ 5) (hq : 0 ≤ e ∧ e ≤ 60) (he : i = 12 + 68 * k + 7 + e) : 0 ≤ d (x + 1) i ∧ d (x + 1) i ≤ 60 := rgW_at (wk_q hk hq he) (rr_1 hS hx i (by omega))
theorem smo_q {d : mD} {x v : Int} (hS : Safe d) (hx : mdB x) (k e i : Int) (hk : 0 ≤ k ∧ k ≤ 5) (hq : 0 ≤ e ∧ e ≤ 60) (he : i = 12 + 68 * k + 7 + e) (hv : 0 ≤ v ∧ v ≤ 60) : Safe (mset d (x + 1) i v) := hS.set (cd_11_1 hx) (show rgW i v from rgW_of (wk_q hk hq he) hv)
theorem mt_w {d : mD} {x : Int} (hS : Safe d) (hx : mdB x) (k e i : Int) (hk : 0 ≤ k ∧ k ≤ 60) (hq : 0 ≤ e ∧ e ≤ 15) (he : i = 452 + 24 * k + 8 + e) : 0 ≤ d (x + 1) i ∧ d (x + 1) i ≤ 1201 := rgW_at (wk_w hk hq he) (rr_1 hS hx i (by omega))
theorem smt_w {d : mD} {x v : Int} (hS : Safe d) (hx : mdB x) (k e i : Int) (hk : 0 ≤ k ∧ k ≤ 60) (hq : 0 ≤ e ∧ e ≤ 15) (he : i = 452 + 24 * k + 8 + e) (hv : 0 ≤ v ∧ v ≤ 1201) : Safe (mset d (x + 1) i v) := hS.set (cd_11_1 hx) (show rgW i v from rgW_of (wk_w hk hq he) hv)
theorem smz {d : mD} {x : Int} (hS : Safe d) (hx : mdB x) (i : Int) : Safe (mset d (x + 1) i 0) := by
  refine hS.set (cd_11_1 hx) (show rk (wk i) 0 from ?_)
  generalize wk i = n
  unfold rk
  split <;> (first | trivial | exact ⟨by decide, by decide⟩)
theorem mstg {d : mD} {x : Int} (hS : Safe d) (hx : mdB x) (k i : Int) (hk : 0 ≤ k ∧ k ≤ 4) (he : i = 2 + k) : 0 ≤ d (x + 1) i ∧ d (x + 1) i ≤ 99 := by
  have h : k = 0 ∨ k = 1 ∨ k = 2 ∨ k = 3 ∨ k = 4 := by omega
  rcases h with h | h | h | h | h <;> subst h
  · exact mh_2 hS hx i he
  · have := mh_3 hS hx i he; omega
  · exact mh_4 hS hx i he
  · exact mh_5 hS hx i he
  · exact mh_6 hS hx i he
theorem smstg {d : mD} {x v : Int} (hS : Safe d) (hx : mdB x) (k i : Int) (hk : 0 ≤ k ∧ k ≤ 4) (he : i = 2 + k) (hv : (0 ≤ v ∧ v ≤ 99) ∧ (¬ k = 1 ∨ v ≤ 3)) : Safe (mset d (x + 1) i v) := by
  have h : k = 0 ∨ k = 1 ∨ k = 2 ∨ k = 3 ∨ k = 4 := by omega
  rcases h with h | h | h | h | h <;> subst h
  · exact smh_2 hS hx i he hv.1
  · exact smh_3 hS hx i he (by omega)
  · exact smh_4 hS hx i he hv.1
  · exact smh_5 hS hx i he hv.1
  · exact smh_6 hS hx i he hv.1
/-! ===== contracts of the methods: printed by a program of mine ===== -/
def v_297 (x0 : Int) (d : mD) : Int := miand ((((mland (((mland (x0 - (mland (mlushr x0 1) 6148914691236517205)) 3689348814741910323) + (mland (mlushr (x0 - (mland (mlushr x0 1) 6148914691236517205)) 2) 3689348814741910323)) + (mlushr ((mland (x0 - (mland (mlushr x0 1) 6148914691236517205)) 3689348814741910323) + (mland (mlushr (x0 - (mland (mlushr x0 1) 6148914691236517205)) 2) 3689348814741910323)) 4)) 1085102592571150095) + (mlushr (mland (((mland (x0 - (mland (mlushr x0 1) 6148914691236517205)) 3689348814741910323) + (mland (mlushr (x0 - (mland (mlushr x0 1) 6148914691236517205)) 2) 3689348814741910323)) + (mlushr ((mland (x0 - (mland (mlushr x0 1) 6148914691236517205)) 3689348814741910323) + (mland (mlushr (x0 - (mland (mlushr x0 1) 6148914691236517205)) 2) 3689348814741910323)) 4)) 1085102592571150095) 8)) + (mlushr ((mland (((mland (x0 - (mland (mlushr x0 1) 6148914691236517205)) 3689348814741910323) + (mland (mlushr (x0 - (mland (mlushr x0 1) 6148914691236517205)) 2) 3689348814741910323)) + (mlushr ((mland (x0 - (mland (mlushr x0 1) 6148914691236517205)) 3689348814741910323) + (mland (mlushr (x0 - (mland (mlushr x0 1) 6148914691236517205)) 2) 3689348814741910323)) 4)) 1085102592571150095) + (mlushr (mland (((mland (x0 - (mland (mlushr x0 1) 6148914691236517205)) 3689348814741910323) + (mland (mlushr (x0 - (mland (mlushr x0 1) 6148914691236517205)) 2) 3689348814741910323)) + (mlushr ((mland (x0 - (mland (mlushr x0 1) 6148914691236517205)) 3689348814741910323) + (mland (mlushr (x0 - (mland (mlushr x0 1) 6148914691236517205)) 2) 3689348814741910323)) 4)) 1085102592571150095) 8)) 16)) + (mlushr (((mland (((mland (x0 - (mland (mlushr x0 1) 6148914691236517205)) 3689348814741910323) + (mland (mlushr (x0 - (mland (mlushr x0 1) 6148914691236517205)) 2) 3689348814741910323)) + (mlushr ((mland (x0 - (mland (mlushr x0 1) 6148914691236517205)) 3689348814741910323) + (mland (mlushr (x0 - (mland (mlushr x0 1) 6148914691236517205)) 2) 3689348814741910323)) 4)) 1085102592571150095) + (mlushr (mland (((mland (x0 - (mland (mlushr x0 1) 6148914691236517205)) 3689348814741910323) + (mland (mlushr (x0 - (mland (mlushr x0 1) 6148914691236517205)) 2) 3689348814741910323)) + (mlushr ((mland (x0 - (mland (mlushr x0 1) 6148914691236517205)) 3689348814741910323) + (mland (mlushr (x0 - (mland (mlushr x0 1) 6148914691236517205)) 2) 3689348814741910323)) 4)) 1085102592571150095) 8)) + (mlushr ((mland (((mland (x0 - (mland (mlushr x0 1) 6148914691236517205)) 3689348814741910323) + (mland (mlushr (x0 - (mland (mlushr x0 1) 6148914691236517205)) 2) 3689348814741910323)) + (mlushr ((mland (x0 - (mland (mlushr x0 1) 6148914691236517205)) 3689348814741910323) + (mland (mlushr (x0 - (mland (mlushr x0 1) 6148914691236517205)) 2) 3689348814741910323)) 4)) 1085102592571150095) + (mlushr (mland (((mland (x0 - (mland (mlushr x0 1) 6148914691236517205)) 3689348814741910323) + (mland (mlushr (x0 - (mland (mlushr x0 1) 6148914691236517205)) 2) 3689348814741910323)) + (mlushr ((mland (x0 - (mland (mlushr x0 1) 6148914691236517205)) 3689348814741910323) + (mland (mlushr (x0 - (mland (mlushr x0 1) 6148914691236517205)) 2) 3689348814741910323)) 4)) 1085102592571150095) 8)) 16)) 32)) 127
theorem k_297 {E : mO × tW} {K : tK} {d : mD} {x0 : Int} (hS : Safe d) (h : (0 ≤ (v_297 x0 d) ∧ (v_297 x0 d) ≤ 127) → K (.inl (some (0, (v_297 x0 d)))) d) : tCall E 297 [.inl (1, x0)] d K := by
  refine t_297_0 ?_
  have q1 := miand_r ((((mland (((mland (x0 - (mland (mlushr x0 1) 6148914691236517205)) 3689348814741910323) + (mland (mlushr (x0 - (mland (mlushr x0 1) 6148914691236517205)) 2) 3689348814741910323)) + (mlushr ((mland (x0 - (mland (mlushr x0 1) 6148914691236517205)) 3689348814741910323) + (mland (mlushr (x0 - (mland (mlushr x0 1) 6148914691236517205)) 2) 3689348814741910323)) 4)) 1085102592571150095) + (mlushr (mland (((mland (x0 - (mland (mlushr x0 1) 6148914691236517205)) 3689348814741910323) + (mland (mlushr (x0 - (mland (mlushr x0 1) 6148914691236517205)) 2) 3689348814741910323)) + (mlushr ((mland (x0 - (mland (mlushr x0 1) 6148914691236517205)) 3689348814741910323) + (mland (mlushr (x0 - (mland (mlushr x0 1) 6148914691236517205)) 2) 3689348814741910323)) 4)) 1085102592571150095) 8)) + (mlushr ((mland (((mland (x0 - (mland (mlushr x0 1) 6148914691236517205)) 3689348814741910323) + (mland (mlushr (x0 - (mland (mlushr x0 1) 6148914691236517205)) 2) 3689348814741910323)) + (mlushr ((mland (x0 - (mland (mlushr x0 1) 6148914691236517205)) 3689348814741910323) + (mland (mlushr (x0 - (mland (mlushr x0 1) 6148914691236517205)) 2) 3689348814741910323)) 4)) 1085102592571150095) + (mlushr (mland (((mland (x0 - (mland (mlushr x0 1) 6148914691236517205)) 3689348814741910323) + (mland (mlushr (x0 - (mland (mlushr x0 1) 6148914691236517205)) 2) 3689348814741910323)) + (mlushr ((mland (x0 - (mland (mlushr x0 1) 6148914691236517205)) 3689348814741910323) + (mland (mlushr (x0 - (mland (mlushr x0 1) 6148914691236517205)) 2) 3689348814741910323)) 4)) 1085102592571150095) 8)) 16)) + (mlushr (((mland (((mland (x0 - (mland (mlushr x0 1) 6148914691236517205)) 3689348814741910323) + (mland (mlushr (x0 - (mland (mlushr x0 1) 6148914691236517205)) 2) 3689348814741910323)) + (mlushr ((mland (x0 - (mland (mlushr x0 1) 6148914691236517205)) 3689348814741910323) + (mland (mlushr (x0 - (mland (mlushr x0 1) 6148914691236517205)) 2) 3689348814741910323)) 4)) 1085102592571150095) + (mlushr (mland (((mland (x0 - (mland (mlushr x0 1) 6148914691236517205)) 3689348814741910323) + (mland (mlushr (x0 - (mland (mlushr x0 1) 6148914691236517205)) 2) 3689348814741910323)) + (mlushr ((mland (x0 - (mland (mlushr x0 1) 6148914691236517205)) 3689348814741910323) + (mland (mlushr (x0 - (mland (mlushr x0 1) 6148914691236517205)) 2) 3689348814741910323)) 4)) 1085102592571150095) 8)) + (mlushr ((mland (((mland (x0 - (mland (mlushr x0 1) 6148914691236517205)) 3689348814741910323) + (mland (mlushr (x0 - (mland (mlushr x0 1) 6148914691236517205)) 2) 3689348814741910323)) + (mlushr ((mland (x0 - (mland (mlushr x0 1) 6148914691236517205)) 3689348814741910323) + (mland (mlushr (x0 - (mland (mlushr x0 1) 6148914691236517205)) 2) 3689348814741910323)) 4)) 1085102592571150095) + (mlushr (mland (((mland (x0 - (mland (mlushr x0 1) 6148914691236517205)) 3689348814741910323) + (mland (mlushr (x0 - (mland (mlushr x0 1) 6148914691236517205)) 2) 3689348814741910323)) + (mlushr ((mland (x0 - (mland (mlushr x0 1) 6148914691236517205)) 3689348814741910323) + (mland (mlushr (x0 - (mland (mlushr x0 1) 6148914691236517205)) 2) 3689348814741910323)) 4)) 1085102592571150095) 8)) 16)) 32)) 127 (by decide) (by decide)
  have y0 : v_297 x0 d = miand ((((mland (((mland (x0 - (mland (mlushr x0 1) 6148914691236517205)) 3689348814741910323) + (mland (mlushr (x0 - (mland (mlushr x0 1) 6148914691236517205)) 2) 3689348814741910323)) + (mlushr ((mland (x0 - (mland (mlushr x0 1) 6148914691236517205)) 3689348814741910323) + (mland (mlushr (x0 - (mland (mlushr x0 1) 6148914691236517205)) 2) 3689348814741910323)) 4)) 1085102592571150095) + (mlushr (mland (((mland (x0 - (mland (mlushr x0 1) 6148914691236517205)) 3689348814741910323) + (mland (mlushr (x0 - (mland (mlushr x0 1) 6148914691236517205)) 2) 3689348814741910323)) + (mlushr ((mland (x0 - (mland (mlushr x0 1) 6148914691236517205)) 3689348814741910323) + (mland (mlushr (x0 - (mland (mlushr x0 1) 6148914691236517205)) 2) 3689348814741910323)) 4)) 1085102592571150095) 8)) + (mlushr ((mland (((mland (x0 - (mland (mlushr x0 1) 6148914691236517205)) 3689348814741910323) + (mland (mlushr (x0 - (mland (mlushr x0 1) 6148914691236517205)) 2) 3689348814741910323)) + (mlushr ((mland (x0 - (mland (mlushr x0 1) 6148914691236517205)) 3689348814741910323) + (mland (mlushr (x0 - (mland (mlushr x0 1) 6148914691236517205)) 2) 3689348814741910323)) 4)) 1085102592571150095) + (mlushr (mland (((mland (x0 - (mland (mlushr x0 1) 6148914691236517205)) 3689348814741910323) + (mland (mlushr (x0 - (mland (mlushr x0 1) 6148914691236517205)) 2) 3689348814741910323)) + (mlushr ((mland (x0 - (mland (mlushr x0 1) 6148914691236517205)) 3689348814741910323) + (mland (mlushr (x0 - (mland (mlushr x0 1) 6148914691236517205)) 2) 3689348814741910323)) 4)) 1085102592571150095) 8)) 16)) + (mlushr (((mland (((mland (x0 - (mland (mlushr x0 1) 6148914691236517205)) 3689348814741910323) + (mland (mlushr (x0 - (mland (mlushr x0 1) 6148914691236517205)) 2) 3689348814741910323)) + (mlushr ((mland (x0 - (mland (mlushr x0 1) 6148914691236517205)) 3689348814741910323) + (mland (mlushr (x0 - (mland (mlushr x0 1) 6148914691236517205)) 2) 3689348814741910323)) 4)) 1085102592571150095) + (mlushr (mland (((mland (x0 - (mland (mlushr x0 1) 6148914691236517205)) 3689348814741910323) + (mland (mlushr (x0 - (mland (mlushr x0 1) 6148914691236517205)) 2) 3689348814741910323)) + (mlushr ((mland (x0 - (mland (mlushr x0 1) 6148914691236517205)) 3689348814741910323) + (mland (mlushr (x0 - (mland (mlushr x0 1) 6148914691236517205)) 2) 3689348814741910323)) 4)) 1085102592571150095) 8)) + (mlushr ((mland (((mland (x0 - (mland (mlushr x0 1) 6148914691236517205)) 3689348814741910323) + (mland (mlushr (x0 - (mland (mlushr x0 1) 6148914691236517205)) 2) 3689348814741910323)) + (mlushr ((mland (x0 - (mland (mlushr x0 1) 6148914691236517205)) 3689348814741910323) + (mland (mlushr (x0 - (mland (mlushr x0 1) 6148914691236517205)) 2) 3689348814741910323)) 4)) 1085102592571150095) + (mlushr (mland (((mland (x0 - (mland (mlushr x0 1) 6148914691236517205)) 3689348814741910323) + (mland (mlushr (x0 - (mland (mlushr x0 1) 6148914691236517205)) 2) 3689348814741910323)) + (mlushr ((mland (x0 - (mland (mlushr x0 1) 6148914691236517205)) 3689348814741910323) + (mland (mlushr (x0 - (mland (mlushr x0 1) 6148914691236517205)) 2) 3689348814741910323)) 4)) 1085102592571150095) 8)) 16)) 32)) 127 := by simp only [v_297]
  rw [y0] at h
  exact h (show 0 ≤ (miand ((((mland (((mland (x0 - (mland (mlushr x0 1) 6148914691236517205)) 3689348814741910323) + (mland (mlushr (x0 - (mland (mlushr x0 1) 6148914691236517205)) 2) 3689348814741910323)) + (mlushr ((mland (x0 - (mland (mlushr x0 1) 6148914691236517205)) 3689348814741910323) + (mland (mlushr (x0 - (mland (mlushr x0 1) 6148914691236517205)) 2) 3689348814741910323)) 4)) 1085102592571150095) + (mlushr (mland (((mland (x0 - (mland (mlushr x0 1) 6148914691236517205)) 3689348814741910323) + (mland (mlushr (x0 - (mland (mlushr x0 1) 6148914691236517205)) 2) 3689348814741910323)) + (mlushr ((mland (x0 - (mland (mlushr x0 1) 6148914691236517205)) 3689348814741910323) + (mland (mlushr (x0 - (mland (mlushr x0 1) 6148914691236517205)) 2) 3689348814741910323)) 4)) 1085102592571150095) 8)) + (mlushr ((mland (((mland (x0 - (mland (mlushr x0 1) 6148914691236517205)) 3689348814741910323) + (mland (mlushr (x0 - (mland (mlushr x0 1) 6148914691236517205)) 2) 3689348814741910323)) + (mlushr ((mland (x0 - (mland (mlushr x0 1) 6148914691236517205)) 3689348814741910323) + (mland (mlushr (x0 - (mland (mlushr x0 1) 6148914691236517205)) 2) 3689348814741910323)) 4)) 1085102592571150095) + (mlushr (mland (((mland (x0 - (mland (mlushr x0 1) 6148914691236517205)) 3689348814741910323) + (mland (mlushr (x0 - (mland (mlushr x0 1) 6148914691236517205)) 2) 3689348814741910323)) + (mlushr ((mland (x0 - (mland (mlushr x0 1) 6148914691236517205)) 3689348814741910323) + (mland (mlushr (x0 - (mland (mlushr x0 1) 6148914691236517205)) 2) 3689348814741910323)) 4)) 1085102592571150095) 8)) 16)) + (mlushr (((mland (((mland (x0 - (mland (mlushr x0 1) 6148914691236517205)) 3689348814741910323) + (mland (mlushr (x0 - (mland (mlushr x0 1) 6148914691236517205)) 2) 3689348814741910323)) + (mlushr ((mland (x0 - (mland (mlushr x0 1) 6148914691236517205)) 3689348814741910323) + (mland (mlushr (x0 - (mland (mlushr x0 1) 6148914691236517205)) 2) 3689348814741910323)) 4)) 1085102592571150095) + (mlushr (mland (((mland (x0 - (mland (mlushr x0 1) 6148914691236517205)) 3689348814741910323) + (mland (mlushr (x0 - (mland (mlushr x0 1) 6148914691236517205)) 2) 3689348814741910323)) + (mlushr ((mland (x0 - (mland (mlushr x0 1) 6148914691236517205)) 3689348814741910323) + (mland (mlushr (x0 - (mland (mlushr x0 1) 6148914691236517205)) 2) 3689348814741910323)) 4)) 1085102592571150095) 8)) + (mlushr ((mland (((mland (x0 - (mland (mlushr x0 1) 6148914691236517205)) 3689348814741910323) + (mland (mlushr (x0 - (mland (mlushr x0 1) 6148914691236517205)) 2) 3689348814741910323)) + (mlushr ((mland (x0 - (mland (mlushr x0 1) 6148914691236517205)) 3689348814741910323) + (mland (mlushr (x0 - (mland (mlushr x0 1) 6148914691236517205)) 2) 3689348814741910323)) 4)) 1085102592571150095) + (mlushr (mland (((mland (x0 - (mland (mlushr x0 1) 6148914691236517205)) 3689348814741910323) + (mland (mlushr (x0 - (mland (mlushr x0 1) 6148914691236517205)) 2) 3689348814741910323)) + (mlushr ((mland (x0 - (mland (mlushr x0 1) 6148914691236517205)) 3689348814741910323) + (mland (mlushr (x0 - (mland (mlushr x0 1) 6148914691236517205)) 2) 3689348814741910323)) 4)) 1085102592571150095) 8)) 16)) 32)) 127) ∧ (miand ((((mland (((mland (x0 - (mland (mlushr x0 1) 6148914691236517205)) 3689348814741910323) + (mland (mlushr (x0 - (mland (mlushr x0 1) 6148914691236517205)) 2) 3689348814741910323)) + (mlushr ((mland (x0 - (mland (mlushr x0 1) 6148914691236517205)) 3689348814741910323) + (mland (mlushr (x0 - (mland (mlushr x0 1) 6148914691236517205)) 2) 3689348814741910323)) 4)) 1085102592571150095) + (mlushr (mland (((mland (x0 - (mland (mlushr x0 1) 6148914691236517205)) 3689348814741910323) + (mland (mlushr (x0 - (mland (mlushr x0 1) 6148914691236517205)) 2) 3689348814741910323)) + (mlushr ((mland (x0 - (mland (mlushr x0 1) 6148914691236517205)) 3689348814741910323) + (mland (mlushr (x0 - (mland (mlushr x0 1) 6148914691236517205)) 2) 3689348814741910323)) 4)) 1085102592571150095) 8)) + (mlushr ((mland (((mland (x0 - (mland (mlushr x0 1) 6148914691236517205)) 3689348814741910323) + (mland (mlushr (x0 - (mland (mlushr x0 1) 6148914691236517205)) 2) 3689348814741910323)) + (mlushr ((mland (x0 - (mland (mlushr x0 1) 6148914691236517205)) 3689348814741910323) + (mland (mlushr (x0 - (mland (mlushr x0 1) 6148914691236517205)) 2) 3689348814741910323)) 4)) 1085102592571150095) + (mlushr (mland (((mland (x0 - (mland (mlushr x0 1) 6148914691236517205)) 3689348814741910323) + (mland (mlushr (x0 - (mland (mlushr x0 1) 6148914691236517205)) 2) 3689348814741910323)) + (mlushr ((mland (x0 - (mland (mlushr x0 1) 6148914691236517205)) 3689348814741910323) + (mland (mlushr (x0 - (mland (mlushr x0 1) 6148914691236517205)) 2) 3689348814741910323)) 4)) 1085102592571150095) 8)) 16)) + (mlushr (((mland (((mland (x0 - (mland (mlushr x0 1) 6148914691236517205)) 3689348814741910323) + (mland (mlushr (x0 - (mland (mlushr x0 1) 6148914691236517205)) 2) 3689348814741910323)) + (mlushr ((mland (x0 - (mland (mlushr x0 1) 6148914691236517205)) 3689348814741910323) + (mland (mlushr (x0 - (mland (mlushr x0 1) 6148914691236517205)) 2) 3689348814741910323)) 4)) 1085102592571150095) + (mlushr (mland (((mland (x0 - (mland (mlushr x0 1) 6148914691236517205)) 3689348814741910323) + (mland (mlushr (x0 - (mland (mlushr x0 1) 6148914691236517205)) 2) 3689348814741910323)) + (mlushr ((mland (x0 - (mland (mlushr x0 1) 6148914691236517205)) 3689348814741910323) + (mland (mlushr (x0 - (mland (mlushr x0 1) 6148914691236517205)) 2) 3689348814741910323)) 4)) 1085102592571150095) 8)) + (mlushr ((mland (((mland (x0 - (mland (mlushr x0 1) 6148914691236517205)) 3689348814741910323) + (mland (mlushr (x0 - (mland (mlushr x0 1) 6148914691236517205)) 2) 3689348814741910323)) + (mlushr ((mland (x0 - (mland (mlushr x0 1) 6148914691236517205)) 3689348814741910323) + (mland (mlushr (x0 - (mland (mlushr x0 1) 6148914691236517205)) 2) 3689348814741910323)) 4)) 1085102592571150095) + (mlushr (mland (((mland (x0 - (mland (mlushr x0 1) 6148914691236517205)) 3689348814741910323) + (mland (mlushr (x0 - (mland (mlushr x0 1) 6148914691236517205)) 2) 3689348814741910323)) + (mlushr ((mland (x0 - (mland (mlushr x0 1) 6148914691236517205)) 3689348814741910323) + (mland (mlushr (x0 - (mland (mlushr x0 1) 6148914691236517205)) 2) 3689348814741910323)) 4)) 1085102592571150095) 8)) 16)) 32)) 127) ≤ 127 from (miand_r _ _ (by decide) (by decide)))
def v_298 (x0 : Int) (d : mD) : Int := miand (((miand (((miand (x0 - (miand (miushr x0 1) 1431655765)) 858993459) + (miand (miushr (x0 - (miand (miushr x0 1) 1431655765)) 2) 858993459)) + (miushr ((miand (x0 - (miand (miushr x0 1) 1431655765)) 858993459) + (miand (miushr (x0 - (miand (miushr x0 1) 1431655765)) 2) 858993459)) 4)) 252645135) + (miushr (miand (((miand (x0 - (miand (miushr x0 1) 1431655765)) 858993459) + (miand (miushr (x0 - (miand (miushr x0 1) 1431655765)) 2) 858993459)) + (miushr ((miand (x0 - (miand (miushr x0 1) 1431655765)) 858993459) + (miand (miushr (x0 - (miand (miushr x0 1) 1431655765)) 2) 858993459)) 4)) 252645135) 8)) + (miushr ((miand (((miand (x0 - (miand (miushr x0 1) 1431655765)) 858993459) + (miand (miushr (x0 - (miand (miushr x0 1) 1431655765)) 2) 858993459)) + (miushr ((miand (x0 - (miand (miushr x0 1) 1431655765)) 858993459) + (miand (miushr (x0 - (miand (miushr x0 1) 1431655765)) 2) 858993459)) 4)) 252645135) + (miushr (miand (((miand (x0 - (miand (miushr x0 1) 1431655765)) 858993459) + (miand (miushr (x0 - (miand (miushr x0 1) 1431655765)) 2) 858993459)) + (miushr ((miand (x0 - (miand (miushr x0 1) 1431655765)) 858993459) + (miand (miushr (x0 - (miand (miushr x0 1) 1431655765)) 2) 858993459)) 4)) 252645135) 8)) 16)) 63
theorem k_298 {E : mO × tW} {K : tK} {d : mD} {x0 : Int} (hS : Safe d) (h : (0 ≤ (v_298 x0 d) ∧ (v_298 x0 d) ≤ 63) → K (.inl (some (0, (v_298 x0 d)))) d) : tCall E 298 [.inl (0, x0)] d K := by
  refine t_298_0 ?_
  have q1 := miand_r (((miand (((miand (x0 - (miand (miushr x0 1) 1431655765)) 858993459) + (miand (miushr (x0 - (miand (miushr x0 1) 1431655765)) 2) 858993459)) + (miushr ((miand (x0 - (miand (miushr x0 1) 1431655765)) 858993459) + (miand (miushr (x0 - (miand (miushr x0 1) 1431655765)) 2) 858993459)) 4)) 252645135) + (miushr (miand (((miand (x0 - (miand (miushr x0 1) 1431655765)) 858993459) + (miand (miushr (x0 - (miand (miushr x0 1) 1431655765)) 2) 858993459)) + (miushr ((miand (x0 - (miand (miushr x0 1) 1431655765)) 858993459) + (miand (miushr (x0 - (miand (miushr x0 1) 1431655765)) 2) 858993459)) 4)) 252645135) 8)) + (miushr ((miand (((miand (x0 - (miand (miushr x0 1) 1431655765)) 858993459) + (miand (miushr (x0 - (miand (miushr x0 1) 1431655765)) 2) 858993459)) + (miushr ((miand (x0 - (miand (miushr x0 1) 1431655765)) 858993459) + (miand (miushr (x0 - (miand (miushr x0 1) 1431655765)) 2) 858993459)) 4)) 252645135) + (miushr (miand (((miand (x0 - (miand (miushr x0 1) 1431655765)) 858993459) + (miand (miushr (x0 - (miand (miushr x0 1) 1431655765)) 2) 858993459)) + (miushr ((miand (x0 - (miand (miushr x0 1) 1431655765)) 858993459) + (miand (miushr (x0 - (miand (miushr x0 1) 1431655765)) 2) 858993459)) 4)) 252645135) 8)) 16)) 63 (by decide) (by decide)
  have y0 : v_298 x0 d = miand (((miand (((miand (x0 - (miand (miushr x0 1) 1431655765)) 858993459) + (miand (miushr (x0 - (miand (miushr x0 1) 1431655765)) 2) 858993459)) + (miushr ((miand (x0 - (miand (miushr x0 1) 1431655765)) 858993459) + (miand (miushr (x0 - (miand (miushr x0 1) 1431655765)) 2) 858993459)) 4)) 252645135) + (miushr (miand (((miand (x0 - (miand (miushr x0 1) 1431655765)) 858993459) + (miand (miushr (x0 - (miand (miushr x0 1) 1431655765)) 2) 858993459)) + (miushr ((miand (x0 - (miand (miushr x0 1) 1431655765)) 858993459) + (miand (miushr (x0 - (miand (miushr x0 1) 1431655765)) 2) 858993459)) 4)) 252645135) 8)) + (miushr ((miand (((miand (x0 - (miand (miushr x0 1) 1431655765)) 858993459) + (miand (miushr (x0 - (miand (miushr x0 1) 1431655765)) 2) 858993459)) + (miushr ((miand (x0 - (miand (miushr x0 1) 1431655765)) 858993459) + (miand (miushr (x0 - (miand (miushr x0 1) 1431655765)) 2) 858993459)) 4)) 252645135) + (miushr (miand (((miand (x0 - (miand (miushr x0 1) 1431655765)) 858993459) + (miand (miushr (x0 - (miand (miushr x0 1) 1431655765)) 2) 858993459)) + (miushr ((miand (x0 - (miand (miushr x0 1) 1431655765)) 858993459) + (miand (miushr (x0 - (miand (miushr x0 1) 1431655765)) 2) 858993459)) 4)) 252645135) 8)) 16)) 63 := by simp only [v_298]
  rw [y0] at h
  exact h (show 0 ≤ (miand (((miand (((miand (x0 - (miand (miushr x0 1) 1431655765)) 858993459) + (miand (miushr (x0 - (miand (miushr x0 1) 1431655765)) 2) 858993459)) + (miushr ((miand (x0 - (miand (miushr x0 1) 1431655765)) 858993459) + (miand (miushr (x0 - (miand (miushr x0 1) 1431655765)) 2) 858993459)) 4)) 252645135) + (miushr (miand (((miand (x0 - (miand (miushr x0 1) 1431655765)) 858993459) + (miand (miushr (x0 - (miand (miushr x0 1) 1431655765)) 2) 858993459)) + (miushr ((miand (x0 - (miand (miushr x0 1) 1431655765)) 858993459) + (miand (miushr (x0 - (miand (miushr x0 1) 1431655765)) 2) 858993459)) 4)) 252645135) 8)) + (miushr ((miand (((miand (x0 - (miand (miushr x0 1) 1431655765)) 858993459) + (miand (miushr (x0 - (miand (miushr x0 1) 1431655765)) 2) 858993459)) + (miushr ((miand (x0 - (miand (miushr x0 1) 1431655765)) 858993459) + (miand (miushr (x0 - (miand (miushr x0 1) 1431655765)) 2) 858993459)) 4)) 252645135) + (miushr (miand (((miand (x0 - (miand (miushr x0 1) 1431655765)) 858993459) + (miand (miushr (x0 - (miand (miushr x0 1) 1431655765)) 2) 858993459)) + (miushr ((miand (x0 - (miand (miushr x0 1) 1431655765)) 858993459) + (miand (miushr (x0 - (miand (miushr x0 1) 1431655765)) 2) 858993459)) 4)) 252645135) 8)) 16)) 63) ∧ (miand (((miand (((miand (x0 - (miand (miushr x0 1) 1431655765)) 858993459) + (miand (miushr (x0 - (miand (miushr x0 1) 1431655765)) 2) 858993459)) + (miushr ((miand (x0 - (miand (miushr x0 1) 1431655765)) 858993459) + (miand (miushr (x0 - (miand (miushr x0 1) 1431655765)) 2) 858993459)) 4)) 252645135) + (miushr (miand (((miand (x0 - (miand (miushr x0 1) 1431655765)) 858993459) + (miand (miushr (x0 - (miand (miushr x0 1) 1431655765)) 2) 858993459)) + (miushr ((miand (x0 - (miand (miushr x0 1) 1431655765)) 858993459) + (miand (miushr (x0 - (miand (miushr x0 1) 1431655765)) 2) 858993459)) 4)) 252645135) 8)) + (miushr ((miand (((miand (x0 - (miand (miushr x0 1) 1431655765)) 858993459) + (miand (miushr (x0 - (miand (miushr x0 1) 1431655765)) 2) 858993459)) + (miushr ((miand (x0 - (miand (miushr x0 1) 1431655765)) 858993459) + (miand (miushr (x0 - (miand (miushr x0 1) 1431655765)) 2) 858993459)) 4)) 252645135) + (miushr (miand (((miand (x0 - (miand (miushr x0 1) 1431655765)) 858993459) + (miand (miushr (x0 - (miand (miushr x0 1) 1431655765)) 2) 858993459)) + (miushr ((miand (x0 - (miand (miushr x0 1) 1431655765)) 858993459) + (miand (miushr (x0 - (miand (miushr x0 1) 1431655765)) 2) 858993459)) 4)) 252645135) 8)) 16)) 63) ≤ 63 from (miand_r _ _ (by decide) (by decide)))
def g_299 (x0 x1 : Int) (d : mD) : mD := mfl d x0 x1 16
theorem k_299 {E : mO × tW} {K : tK} {d : mD} {x0 x1 : Int} (hS : Safe d) (hr : ∀ i, rg (tcd x0) i x1) (h : (∀ b : Int, (b < x0 ∨ x0 < b) → (g_299 x0 x1 d) b = d b) → Safe (g_299 x0 x1 d) → K (.inl none) (g_299 x0 x1 d)) : tCall E 299 [.inr (18, x0), .inl (0, x1)] d K := by
  refine t_299_0 ?_
  refine t_rounds (fun i d => (5, [.inr (18, x0), .inl (0, x1), .inl (0, i), .inl (0, 16)], [], 0, 0, d)) (fun i d' => d' = mfl d x0 x1 i) (N := 16) (by decide) (fun i d' h0 h1 hd k => ?_) (fun d' hd => ?_) (mfl_0 d x0 x1).symm
  · subst hd
    exact t_299_5 ⟨⟨m_inR (by omega) (by omega), m_inR (by omega) (by omega)⟩, fun c => absurd c (by omega), fun _ => ⟨⟨h0, h1⟩, k _ (mfl_s d x0 x1 h0)⟩⟩
  · subst hd
    exact t_299_5 ⟨⟨m_inR (by omega) (by omega), m_inR (by omega) (by omega)⟩, fun _ => h (fun b hb => mfl_ne (by omega)) (hS.fl hr), fun c => absurd c (by omega)⟩
def g_300 (x0 x1 : Int) (d : mD) : mD := mfl d x0 x1 16
theorem k_300 {E : mO × tW} {K : tK} {d : mD} {x0 x1 : Int} (hS : Safe d) (hr : ∀ i, rg (tcd x0) i x1) (h : (∀ b : Int, (b < x0 ∨ x0 < b) → (g_300 x0 x1 d) b = d b) → Safe (g_300 x0 x1 d) → K (.inl none) (g_300 x0 x1 d)) : tCall E 300 [.inr (20, x0), .inl (1, x1)] d K := by
  refine t_300_0 ?_
  refine t_rounds (fun i d => (6, [.inr (20, x0), .inl (1, x1), tu, .inl (0, i), .inl (0, 16)], [], 0, 0, d)) (fun i d' => d' = mfl d x0 x1 i) (N := 16) (by decide) (fun i d' h0 h1 hd k => ?_) (fun d' hd => ?_) (mfl_0 d x0 x1).symm
  · subst hd
    exact t_300_6 ⟨⟨m_inR (by omega) (by omega), m_inR (by omega) (by omega)⟩, fun c => absurd c (by omega), fun _ => ⟨⟨h0, h1⟩, k _ (mfl_s d x0 x1 h0)⟩⟩
  · subst hd
    exact t_300_6 ⟨⟨m_inR (by omega) (by omega), m_inR (by omega) (by omega)⟩, fun _ => h (fun b hb => mfl_ne (by omega)) (hS.fl hr), fun c => absurd c (by omega)⟩
def v_6 (x0 x1 : Int) (d : mD) : Int := if x1 < 0 then 0 else if (999 : Int) < x1 then 0 else if mcmp (mland (mlushr (d (x0 + 1) (mishr x1 6)) (miand x1 63)) 1) 0 = 0 then 0 else 1
theorem k_6 {E : mO × tW} {K : tK} {d : mD} {x0 x1 : Int} (hS : Safe d) (hx0 : hsB x0) (p1 : -2147483648 ≤ x1 ∧ x1 ≤ 2147483647) (h : (0 ≤ (v_6 x0 x1 d) ∧ (v_6 x0 x1 d) ≤ 1) → K (.inl (some (0, (v_6 x0 x1 d)))) d) : tCall E 6 [.inr (1, x0), .inl (0, x1)] d K := by
  refine t_6_0 ?_
  have w1 := mishr6_r x1
  refine ⟨m_inR (by omega) (by omega), fun c0 => ?_, fun c0 => ?_⟩
  · refine ⟨by omega, ?_⟩
    have y0 : v_6 x0 x1 d = 0 := by simp only [v_6, if_pos (show x1 < 0 from c0)]
    rw [y0] at h
    exact h (show 0 ≤ ((0 : Int)) ∧ ((0 : Int)) ≤ 1 from (by omega))
  · refine ⟨⟨m_inR (by omega) (by omega), m_inR (by omega) (by omega)⟩, fun c1 => ?_, fun c1 => ?_⟩
    · refine ⟨by omega, ?_⟩
      have y0 : v_6 x0 x1 d = 0 := by simp only [v_6, if_neg (show ¬ x1 < 0 from Int.not_lt.mpr c0), if_pos (show (999 : Int) < x1 from c1)]
      rw [y0] at h
      exact h (show 0 ≤ ((0 : Int)) ∧ ((0 : Int)) ≤ 1 from (by omega))
    · have q1 := mcmp_r (mland (mlushr (d (x0 + 1) (mishr x1 6)) (miand x1 63)) 1) 0
      refine ⟨by omega, ⟨mJ_inL _ _ _, ⟨by omega, by omega⟩⟩, m_inR (by omega) (by omega), fun c2 => ?_, fun c2 => ?_⟩
      · refine ⟨by omega, ?_⟩
        have y0 : v_6 x0 x1 d = 0 := by simp only [v_6, if_neg (show ¬ x1 < 0 from Int.not_lt.mpr c0), if_neg (show ¬ (999 : Int) < x1 from Int.not_lt.mpr c1), if_pos (show mcmp (mland (mlushr (d (x0 + 1) (mishr x1 6)) (miand x1 63)) 1) 0 = 0 from c2)]
        rw [y0] at h
        exact h (show 0 ≤ ((0 : Int)) ∧ ((0 : Int)) ≤ 1 from (by omega))
      · refine ⟨by omega, ?_⟩
        have y0 : v_6 x0 x1 d = 1 := by simp only [v_6, if_neg (show ¬ x1 < 0 from Int.not_lt.mpr c0), if_neg (show ¬ (999 : Int) < x1 from Int.not_lt.mpr c1), if_neg (show ¬ mcmp (mland (mlushr (d (x0 + 1) (mishr x1 6)) (miand x1 63)) 1) 0 = 0 from c2)]
        rw [y0] at h
        exact h (show 0 ≤ ((1 : Int)) ∧ ((1 : Int)) ≤ 1 from (by omega))
def g_7 (x0 x1 : Int) (d : mD) : mD := if x1 < 0 then d else if (999 : Int) < x1 then d else mset d (x0 + 1) (mishr x1 6) (mlor (d (x0 + 1) (mishr x1 6)) (mlshl 1 (miand x1 63)))
theorem k_7 {E : mO × tW} {K : tK} {d : mD} {x0 x1 : Int} (hS : Safe d) (hx0 : hsB x0) (p1 : -2147483648 ≤ x1 ∧ x1 ≤ 2147483647) (h : (∀ b : Int, (b < x0 + 1 ∨ x0 + 1 < b) → (g_7 x0 x1 d) b = d b) → Safe (g_7 x0 x1 d) → K (.inl none) (g_7 x0 x1 d)) : tCall E 7 [.inr (1, x0), .inl (0, x1)] d K := by
  refine t_7_0 ?_
  have w1 := mishr6_r x1
  refine ⟨m_inR (by omega) (by omega), fun c0 => ?_, fun c0 => ?_⟩
  · have y0 : g_7 x0 x1 d = d := by simp only [g_7, if_pos (show x1 < 0 from c0)]
    rw [y0] at h
    exact h (show ∀ b : Int, (b < x0 + 1 ∨ x0 + 1 < b) → d b = d b from fun _ _ => rfl) hS
  · refine ⟨⟨m_inR (by omega) (by omega), m_inR (by omega) (by omega)⟩, fun c1 => ?_, fun c1 => ?_⟩
    · have y0 : g_7 x0 x1 d = d := by simp only [g_7, if_neg (show ¬ x1 < 0 from Int.not_lt.mpr c0), if_pos (show (999 : Int) < x1 from c1)]
      rw [y0] at h
      exact h (show ∀ b : Int, (b < x0 + 1 ∨ x0 + 1 < b) → d b = d b from fun _ _ => rfl) hS
    · refine ⟨by omega, by omega, ?_⟩
      have hS1 : Safe (mset d (x0 + 1) (mishr x1 6) (mlor (d (x0 + 1) (mishr x1 6)) (mlshl 1 (miand x1 63)))) := s_1_1 hS hx0
      have y0 : g_7 x0 x1 d = mset d (x0 + 1) (mishr x1 6) (mlor (d (x0 + 1) (mishr x1 6)) (mlshl 1 (miand x1 63))) := by simp only [g_7, if_neg (show ¬ x1 < 0 from Int.not_lt.mpr c0), if_neg (show ¬ (999 : Int) < x1 from Int.not_lt.mpr c1)]
      rw [y0] at h
      exact h (show ∀ b : Int, (b < x0 + 1 ∨ x0 + 1 < b) → (mset d (x0 + 1) (mishr x1 6) (mlor (d (x0 + 1) (mishr x1 6)) (mlshl 1 (miand x1 63)))) b = d b from fun b hb => mset_ne (by omega)) hS1
def g_8 (x0 : Int) (d : mD) : mD := g_300 (x0 + 1) 0 d
theorem k_8 {E : mO × tW} {K : tK} {d : mD} {x0 : Int} (hS : Safe d) (hx0 : hsB x0) (h : (∀ b : Int, (b < x0 + 1 ∨ x0 + 1 < b) → (g_8 x0 d) b = d b) → Safe (g_8 x0 d) → K (.inl none) (g_8 x0 d)) : tCall E 8 [.inr (1, x0)] d K := by
  refine t_8_0 ?_
  refine k_300 hS (fun i => tcd_hs hx0 i _) (fun F1 hS1 => ?_)
  refine t_8_8 ?_
  have y0 : g_8 x0 d = g_300 (x0 + 1) 0 d := by simp only [g_8]
  rw [y0] at h
  exact h (show ∀ b : Int, (b < x0 + 1 ∨ x0 + 1 < b) → (g_300 (x0 + 1) 0 d) b = d b from fun b hb => F1 b (by omega)) hS1
def st_9_4 (x0 : Int) (r4 : Int → Int → mD → Int) (x1 x2 : Int) (d : mD) : Int := if x2 < 16 then r4 (x1 + (v_297 (d (x0 + 1) x2) d)) (x2 + 1) d else x1
def lp_9_4 (x0 : Int) : Nat → Int → Int → mD → Int
  | 0 => st_9_4 x0 (fun _ _ d => 0)
  | n + 1 => st_9_4 x0 (lp_9_4 x0 n)
theorem ls_9_4 {E : mO × tW} {K : tK} {x0 : Int} (hx0 : hsB x0) (N4 : Int) (r4 : Int → Int → mD → Int) (ih4 : ∀ (x1 x2 : Int) (d : mD), Safe d → (0 ≤ x2 ∧ x2 ≤ 16) → (0 ≤ x1 ∧ x1 ≤ 127 * x2) → 0 ≤ 16 - x2 → 16 - x2 < N4 → ((0 ≤ (r4 x1 x2 d) ∧ (r4 x1 x2 d) ≤ 2032) → K (.inl (some (0, (r4 x1 x2 d)))) d) → tRun E 9 (4, [.inr (1, x0), .inl (0, x1), .inl (0, x2)], [], 0, 0, d) K) (x1 x2 : Int) (d : mD) (hS : Safe d) (i0 : 0 ≤ x2 ∧ x2 ≤ 16) (i1 : 0 ≤ x1 ∧ x1 ≤ 127 * x2) (hm : 16 - x2 ≤ N4) (h : (0 ≤ (st_9_4 x0 r4 x1 x2 d) ∧ (st_9_4 x0 r4 x1 x2 d) ≤ 2032) → K (.inl (some (0, (st_9_4 x0 r4 x1 x2 d)))) d) : tRun E 9 (4, [.inr (1, x0), .inl (0, x1), .inl (0, x2)], [], 0, 0, d) K := by
  refine t_9_4 ?_
  refine ⟨⟨m_inR (by omega) (by omega), m_inR (by omega) (by omega)⟩, fun c0 => ?_, fun c0 => ?_⟩
  · have y0 : st_9_4 x0 r4 x1 x2 d = x1 := by simp only [st_9_4, if_neg (show ¬ x2 < 16 from Int.not_lt.mpr c0)]
    rw [y0] at h
    exact h (show 0 ≤ x1 ∧ x1 ≤ 2032 from (by omega))
  · refine ⟨by omega, ?_⟩
    refine k_297 hS (fun e1 => ?_)
    refine t_9_20 ?_
    refine ih4 (x1 + (v_297 (d (x0 + 1) x2) d)) (x2 + 1)  d hS (by omega) (by omega) (by omega) (by omega) ?_
    intro e
    have y0 : st_9_4 x0 r4 x1 x2 d = r4 (x1 + (v_297 (d (x0 + 1) x2) d)) (x2 + 1) d := by simp only [st_9_4, if_pos (show x2 < 16 from c0)]
    rw [y0] at h
    exact h e
theorem l_9_4 {E : mO × tW} {K : tK} {x0 : Int} (hx0 : hsB x0) : ∀ (n : Nat) (x1 x2 : Int) (d : mD), Safe d → (0 ≤ x2 ∧ x2 ≤ 16) → (0 ≤ x1 ∧ x1 ≤ 127 * x2) → 16 - x2 ≤ (n : Int) → ((0 ≤ (lp_9_4 x0 n x1 x2 d) ∧ (lp_9_4 x0 n x1 x2 d) ≤ 2032) → K (.inl (some (0, (lp_9_4 x0 n x1 x2 d)))) d) → tRun E 9 (4, [.inr (1, x0), .inl (0, x1), .inl (0, x2)], [], 0, 0, d) K := by
  intro n
  induction n with
  | zero =>
    intro x1 x2  d hS i0 i1 hm  h
    exact ls_9_4 hx0 0 _ (fun _ _  _ _ _ _ m0 m1 _ => absurd m1 (by omega)) x1 x2  d hS i0 i1 hm  h
  | succ n ih =>
    intro x1 x2  d hS i0 i1 hm  h
    exact ls_9_4 hx0 ((n + 1 : Nat) : Int) _ (fun x1 x2  d hS i0 i1  m0 m1 h => ih x1 x2  d hS i0 i1 (by omega)  h) x1 x2  d hS i0 i1 hm  h
def v_9 (x0 : Int) (d : mD) : Int := lp_9_4 x0 (16 - 0 : Int).toNat 0 0 d
theorem k_9 {E : mO × tW} {K : tK} {d : mD} {x0 : Int} (hS : Safe d) (hx0 : hsB x0) (h : (0 ≤ (v_9 x0 d) ∧ (v_9 x0 d) ≤ 2032) → K (.inl (some (0, (v_9 x0 d)))) d) : tCall E 9 [.inr (1, x0)] d K := by
  refine t_9_0 ?_
  refine l_9_4 hx0 (16 - 0 : Int).toNat 0 0  d hS (by omega) (by omega) (by omega) ?_
  intro e
  have y0 : v_9 x0 d = lp_9_4 x0 (16 - 0 : Int).toNat 0 0 d := by simp only [v_9]
  rw [y0] at h
  exact h e
def st_10_4 (x0 x1 : Int) (r4 : Int → Int → mD → Int) (x2 x3 : Int) (d : mD) : Int := if x3 < 16 then r4 (x2 + (v_297 (mland (d (x0 + 1) x3) (mlxor (d (x1 + 1) x3) ((-1)))) d)) (x3 + 1) d else x2
def lp_10_4 (x0 x1 : Int) : Nat → Int → Int → mD → Int
  | 0 => st_10_4 x0 x1 (fun _ _ d => 0)
  | n + 1 => st_10_4 x0 x1 (lp_10_4 x0 x1 n)
theorem ls_10_4 {E : mO × tW} {K : tK} {x0 x1 : Int} (hx0 : hsB x0) (hx1 : hsB x1) (N4 : Int) (r4 : Int → Int → mD → Int) (ih4 : ∀ (x2 x3 : Int) (d : mD), Safe d → (0 ≤ x3 ∧ x3 ≤ 16) → (0 ≤ x2 ∧ x2 ≤ 127 * x3) → 0 ≤ 16 - x3 → 16 - x3 < N4 → ((0 ≤ (r4 x2 x3 d) ∧ (r4 x2 x3 d) ≤ 2032) → K (.inl (some (0, (r4 x2 x3 d)))) d) → tRun E 10 (4, [.inr (1, x0), .inr (1, x1), .inl (0, x2), .inl (0, x3)], [], 0, 0, d) K) (x2 x3 : Int) (d : mD) (hS : Safe d) (i0 : 0 ≤ x3 ∧ x3 ≤ 16) (i1 : 0 ≤ x2 ∧ x2 ≤ 127 * x3) (hm : 16 - x3 ≤ N4) (h : (0 ≤ (st_10_4 x0 x1 r4 x2 x3 d) ∧ (st_10_4 x0 x1 r4 x2 x3 d) ≤ 2032) → K (.inl (some (0, (st_10_4 x0 x1 r4 x2 x3 d)))) d) : tRun E 10 (4, [.inr (1, x0), .inr (1, x1), .inl (0, x2), .inl (0, x3)], [], 0, 0, d) K := by
  refine t_10_4 ?_
  refine ⟨⟨m_inR (by omega) (by omega), m_inR (by omega) (by omega)⟩, fun c0 => ?_, fun c0 => ?_⟩
  · have y0 : st_10_4 x0 x1 r4 x2 x3 d = x2 := by simp only [st_10_4, if_neg (show ¬ x3 < 16 from Int.not_lt.mpr c0)]
    rw [y0] at h
    exact h (show 0 ≤ x2 ∧ x2 ≤ 2032 from (by omega))
  · refine ⟨by omega, by omega, ?_⟩
    refine k_297 hS (fun e1 => ?_)
    refine t_10_31 ?_
    refine ih4 (x2 + (v_297 (mland (d (x0 + 1) x3) (mlxor (d (x1 + 1) x3) ((-1)))) d)) (x3 + 1)  d hS (by omega) (by omega) (by omega) (by omega) ?_
    intro e
    have y0 : st_10_4 x0 x1 r4 x2 x3 d = r4 (x2 + (v_297 (mland (d (x0 + 1) x3) (mlxor (d (x1 + 1) x3) ((-1)))) d)) (x3 + 1) d := by simp only [st_10_4, if_pos (show x3 < 16 from c0)]
    rw [y0] at h
    exact h e
theorem l_10_4 {E : mO × tW} {K : tK} {x0 x1 : Int} (hx0 : hsB x0) (hx1 : hsB x1) : ∀ (n : Nat) (x2 x3 : Int) (d : mD), Safe d → (0 ≤ x3 ∧ x3 ≤ 16) → (0 ≤ x2 ∧ x2 ≤ 127 * x3) → 16 - x3 ≤ (n : Int) → ((0 ≤ (lp_10_4 x0 x1 n x2 x3 d) ∧ (lp_10_4 x0 x1 n x2 x3 d) ≤ 2032) → K (.inl (some (0, (lp_10_4 x0 x1 n x2 x3 d)))) d) → tRun E 10 (4, [.inr (1, x0), .inr (1, x1), .inl (0, x2), .inl (0, x3)], [], 0, 0, d) K := by
  intro n
  induction n with
  | zero =>
    intro x2 x3  d hS i0 i1 hm  h
    exact ls_10_4 hx0 hx1 0 _ (fun _ _  _ _ _ _ m0 m1 _ => absurd m1 (by omega)) x2 x3  d hS i0 i1 hm  h
  | succ n ih =>
    intro x2 x3  d hS i0 i1 hm  h
    exact ls_10_4 hx0 hx1 ((n + 1 : Nat) : Int) _ (fun x2 x3  d hS i0 i1  m0 m1 h => ih x2 x3  d hS i0 i1 (by omega)  h) x2 x3  d hS i0 i1 hm  h
def v_10 (x0 x1 : Int) (d : mD) : Int := lp_10_4 x0 x1 (16 - 0 : Int).toNat 0 0 d
theorem k_10 {E : mO × tW} {K : tK} {d : mD} {x0 x1 : Int} (hS : Safe d) (hx0 : hsB x0) (hx1 : hsB x1) (h : (0 ≤ (v_10 x0 x1 d) ∧ (v_10 x0 x1 d) ≤ 2032) → K (.inl (some (0, (v_10 x0 x1 d)))) d) : tCall E 10 [.inr (1, x0), .inr (1, x1)] d K := by
  refine t_10_0 ?_
  refine l_10_4 hx0 hx1 (16 - 0 : Int).toNat 0 0  d hS (by omega) (by omega) (by omega) ?_
  intro e
  have y0 : v_10 x0 x1 d = lp_10_4 x0 x1 (16 - 0 : Int).toNat 0 0 d := by simp only [v_10]
  rw [y0] at h
  exact h e
def g_11 (x0 x1 : Int) (d : mD) : mD := mcopy d (x1 + 1) 0 (x0 + 1) 0 16
theorem k_11 {E : mO × tW} {K : tK} {d : mD} {x0 x1 : Int} (hS : Safe d) (hx0 : hsB x0) (hx1 : hsB x1) (h : (∀ b : Int, (b < x0 + 1 ∨ x0 + 1 < b) → (g_11 x0 x1 d) b = d b) → Safe (g_11 x0 x1 d) → K (.inl none) (g_11 x0 x1 d)) : tCall E 11 [.inr (1, x0), .inr (1, x1)] d K := by
  refine t_11_0 ?_
  refine ⟨by omega, ?_⟩
  have hS1 : Safe (mcopy d (x1 + 1) 0 (x0 + 1) 0 16) := c_1_1 hS hx0
  have y0 : g_11 x0 x1 d = mcopy d (x1 + 1) 0 (x0 + 1) 0 16 := by simp only [g_11]
  rw [y0] at h
  exact h (show ∀ b : Int, (b < x0 + 1 ∨ x0 + 1 < b) → (mcopy d (x1 + 1) 0 (x0 + 1) 0 16) b = d b from fun b hb => mcopy_ne (by omega)) hS1
def st_34_100 (x0 x1 : Int) (r100 : Int → mD → mD) (x2 : Int) (d : mD) : mD := if x2 < 6 then r100 (x2 + 1) (mset d (x0 + 5) x2 (d (x1 + 5) x2)) else d
def lp_34_100 (x0 x1 : Int) : Nat → Int → mD → mD
  | 0 => st_34_100 x0 x1 (fun _ d => d)
  | n + 1 => st_34_100 x0 x1 (lp_34_100 x0 x1 n)
theorem ls_34_100 {E : mO × tW} {K : tK} {x0 x1 : Int} (hx0 : ofB x0) (hx1 : ofB x1) (N100 : Int) (r100 : Int → mD → mD) (ih100 : ∀ (x2 : Int) (d : mD), Safe d → (0 ≤ x2 ∧ x2 ≤ 6) → 0 ≤ 6 - x2 → 6 - x2 < N100 → ((∀ b : Int, (b < x0 ∨ x0 + 7 < b) → (r100 x2 d) b = d b) → Safe (r100 x2 d) → K (.inl none) (r100 x2 d)) → tRun E 34 (100, [.inr (3, x0), .inr (3, x1), .inl (0, x2)], [], 0, 0, d) K) (x2 : Int) (d : mD) (hS : Safe d) (i0 : 0 ≤ x2 ∧ x2 ≤ 6) (hm : 6 - x2 ≤ N100) (h : (∀ b : Int, (b < x0 ∨ x0 + 7 < b) → (st_34_100 x0 x1 r100 x2 d) b = d b) → Safe (st_34_100 x0 x1 r100 x2 d) → K (.inl none) (st_34_100 x0 x1 r100 x2 d)) : tRun E 34 (100, [.inr (3, x0), .inr (3, x1), .inl (0, x2)], [], 0, 0, d) K := by
  refine t_34_100 ?_
  refine ⟨⟨m_inR (by omega) (by omega), m_inR (by omega) (by omega)⟩, fun c0 => ?_, fun c0 => ?_⟩
  · have y0 : st_34_100 x0 x1 r100 x2 d = d := by simp only [st_34_100, if_neg (show ¬ x2 < 6 from Int.not_lt.mpr c0)]
    rw [y0] at h
    exact h (show ∀ b : Int, (b < x0 ∨ x0 + 7 < b) → d b = d b from fun _ _ => rfl) hS
  · have q1 := r_3_5 hS hx1 x2
    refine ⟨by omega, by omega, ?_⟩
    have hS1 : Safe (mset d (x0 + 5) x2 (d (x1 + 5) x2)) := s_3_5 hS hx0 (by omega)
    refine ih100 (x2 + 1)  (mset d (x0 + 5) x2 (d (x1 + 5) x2)) hS1 (by omega) (by omega) (by omega) ?_
    intro F hS_
    have y0 : st_34_100 x0 x1 r100 x2 d = r100 (x2 + 1) (mset d (x0 + 5) x2 (d (x1 + 5) x2)) := by simp only [st_34_100, if_pos (show x2 < 6 from c0)]
    rw [y0] at h
    exact h (fun b hb => (F b hb).trans ((show ∀ b : Int, (b < x0 ∨ x0 + 7 < b) → (mset d (x0 + 5) x2 (d (x1 + 5) x2)) b = d b from fun b hb => mset_ne (by omega)) b hb)) hS_
theorem l_34_100 {E : mO × tW} {K : tK} {x0 x1 : Int} (hx0 : ofB x0) (hx1 : ofB x1) : ∀ (n : Nat) (x2 : Int) (d : mD), Safe d → (0 ≤ x2 ∧ x2 ≤ 6) → 6 - x2 ≤ (n : Int) → ((∀ b : Int, (b < x0 ∨ x0 + 7 < b) → (lp_34_100 x0 x1 n x2 d) b = d b) → Safe (lp_34_100 x0 x1 n x2 d) → K (.inl none) (lp_34_100 x0 x1 n x2 d)) → tRun E 34 (100, [.inr (3, x0), .inr (3, x1), .inl (0, x2)], [], 0, 0, d) K := by
  intro n
  induction n with
  | zero =>
    intro x2  d hS i0 hm  h
    exact ls_34_100 hx0 hx1 0 _ (fun _  _ _ _ m0 m1 _ => absurd m1 (by omega)) x2  d hS i0 hm  h
  | succ n ih =>
    intro x2  d hS i0 hm  h
    exact ls_34_100 hx0 hx1 ((n + 1 : Nat) : Int) _ (fun x2  d hS i0  m0 m1 h => ih x2  d hS i0 (by omega)  h) x2  d hS i0 hm  h
def g_34 (x0 x1 : Int) (d : mD) : mD := lp_34_100 x0 x1 (6 - 0 : Int).toNat 0 (mcopy (mcopy (mcopy (mcopy (mcopy (mcopy (mset d x0 0 (d x1 0)) (x1 + 1) 0 (x0 + 1) 0 6) (x1 + 2) 0 (x0 + 2) 0 6) (x1 + 3) 0 (x0 + 3) 0 6) (x1 + 4) 0 (x0 + 4) 0 6) (x1 + 6) 0 (x0 + 6) 0 6) (x1 + 7) 0 (x0 + 7) 0 96)
theorem k_34 {E : mO × tW} {K : tK} {d : mD} {x0 x1 : Int} (hS : Safe d) (hx0 : ofB x0) (hx1 : ofB x1) (h : (∀ b : Int, (b < x0 ∨ x0 + 7 < b) → (g_34 x0 x1 d) b = d b) → Safe (g_34 x0 x1 d) → K (.inl none) (g_34 x0 x1 d)) : tCall E 34 [.inr (3, x0), .inr (3, x1)] d K := by
  refine t_34_0 ?_
  have q2 := r_3_f0 hS hx1
  have hS2 : Safe (mset d x0 0 (d x1 0)) := s_3_f0 hS hx0 (by omega)
  refine ⟨by omega, ?_⟩
  have hS3 : Safe (mcopy (mset d x0 0 (d x1 0)) (x1 + 1) 0 (x0 + 1) 0 6) := c_3_1 hS2 hx1 hx0
  refine t_34_23 ?_
  refine ⟨by omega, ?_⟩
  have hS4 : Safe (mcopy (mcopy (mset d x0 0 (d x1 0)) (x1 + 1) 0 (x0 + 1) 0 6) (x1 + 2) 0 (x0 + 2) 0 6) := c_3_2 hS3 hx1 hx0
  refine t_34_38 ?_
  refine ⟨by omega, ?_⟩
  have hS5 : Safe (mcopy (mcopy (mcopy (mset d x0 0 (d x1 0)) (x1 + 1) 0 (x0 + 1) 0 6) (x1 + 2) 0 (x0 + 2) 0 6) (x1 + 3) 0 (x0 + 3) 0 6) := c_3_3 hS4 hx1 hx0
  refine t_34_53 ?_
  refine ⟨by omega, ?_⟩
  have hS6 : Safe (mcopy (mcopy (mcopy (mcopy (mset d x0 0 (d x1 0)) (x1 + 1) 0 (x0 + 1) 0 6) (x1 + 2) 0 (x0 + 2) 0 6) (x1 + 3) 0 (x0 + 3) 0 6) (x1 + 4) 0 (x0 + 4) 0 6) := c_3_4 hS5 hx1 hx0
  refine t_34_68 ?_
  refine ⟨by omega, ?_⟩
  have hS7 : Safe (mcopy (mcopy (mcopy (mcopy (mcopy (mset d x0 0 (d x1 0)) (x1 + 1) 0 (x0 + 1) 0 6) (x1 + 2) 0 (x0 + 2) 0 6) (x1 + 3) 0 (x0 + 3) 0 6) (x1 + 4) 0 (x0 + 4) 0 6) (x1 + 6) 0 (x0 + 6) 0 6) := c_3_6 hS6 hx1 hx0
  refine t_34_83 ?_
  refine ⟨by omega, ?_⟩
  have hS8 : Safe (mcopy (mcopy (mcopy (mcopy (mcopy (mcopy (mset d x0 0 (d x1 0)) (x1 + 1) 0 (x0 + 1) 0 6) (x1 + 2) 0 (x0 + 2) 0 6) (x1 + 3) 0 (x0 + 3) 0 6) (x1 + 4) 0 (x0 + 4) 0 6) (x1 + 6) 0 (x0 + 6) 0 6) (x1 + 7) 0 (x0 + 7) 0 96) := c_3_7 hS7 hx1 hx0
  refine t_34_98 ?_
  refine l_34_100 hx0 hx1 (6 - 0 : Int).toNat 0  (mcopy (mcopy (mcopy (mcopy (mcopy (mcopy (mset d x0 0 (d x1 0)) (x1 + 1) 0 (x0 + 1) 0 6) (x1 + 2) 0 (x0 + 2) 0 6) (x1 + 3) 0 (x0 + 3) 0 6) (x1 + 4) 0 (x0 + 4) 0 6) (x1 + 6) 0 (x0 + 6) 0 6) (x1 + 7) 0 (x0 + 7) 0 96) hS8 (by omega) (by omega) ?_
  intro F hS_
  have y0 : g_34 x0 x1 d = lp_34_100 x0 x1 (6 - 0 : Int).toNat 0 (mcopy (mcopy (mcopy (mcopy (mcopy (mcopy (mset d x0 0 (d x1 0)) (x1 + 1) 0 (x0 + 1) 0 6) (x1 + 2) 0 (x0 + 2) 0 6) (x1 + 3) 0 (x0 + 3) 0 6) (x1 + 4) 0 (x0 + 4) 0 6) (x1 + 6) 0 (x0 + 6) 0 6) (x1 + 7) 0 (x0 + 7) 0 96) := by simp only [g_34]
  rw [y0] at h
  exact h (fun b hb => (F b hb).trans ((show ∀ b : Int, (b < x0 ∨ x0 + 7 < b) → (mcopy (mcopy (mcopy (mcopy (mcopy (mcopy (mset d x0 0 (d x1 0)) (x1 + 1) 0 (x0 + 1) 0 6) (x1 + 2) 0 (x0 + 2) 0 6) (x1 + 3) 0 (x0 + 3) 0 6) (x1 + 4) 0 (x0 + 4) 0 6) (x1 + 6) 0 (x0 + 6) 0 6) (x1 + 7) 0 (x0 + 7) 0 96) b = d b from fun b hb => (mcopy_ne (by omega)).trans ((mcopy_ne (by omega)).trans ((mcopy_ne (by omega)).trans ((mcopy_ne (by omega)).trans ((mcopy_ne (by omega)).trans ((mcopy_ne (by omega)).trans (mset_ne (by omega)))))))) b hb)) hS_
def g_35 (x0 x1 x2 x3 x4 : Int) (d : mD) : mD := if d x0 0 < 6 then mset (mset (mset (mset (mset (mset (mset d (x0 + 1) (d x0 0) x1) (x0 + 2) (d x0 0) x2) (x0 + 3) (d x0 0) x3) (x0 + 4) (d x0 0) x4) (x0 + 5) (d x0 0) 1) (x0 + 6) (d x0 0) 0) x0 0 ((d x0 0) + 1) else d
theorem k_35 {E : mO × tW} {K : tK} {d : mD} {x0 x1 x2 x3 x4 : Int} (hS : Safe d) (hx0 : ofB x0) (p1 : 0 ≤ x1 ∧ x1 ≤ 1073741823) (p2 : 0 ≤ x2 ∧ x2 ≤ 4) (p3 : 0 ≤ x3 ∧ x3 ≤ 6) (p4 : 0 ≤ x4 ∧ x4 ≤ 20) (h : (∀ b : Int, (b < x0 ∨ x0 + 6 < b) → (g_35 x0 x1 x2 x3 x4 d) b = d b) → Safe (g_35 x0 x1 x2 x3 x4 d) → K (.inl none) (g_35 x0 x1 x2 x3 x4 d)) : tCall E 35 [.inr (3, x0), .inl (0, x1), .inl (0, x2), .inl (0, x3), .inl (0, x4)] d K := by
  refine t_35_0 ?_
  have q1 := r_3_f0 hS hx0
  refine ⟨⟨m_inR (by omega) (by omega), m_inR (by omega) (by omega)⟩, fun c0 => ?_, fun c0 => ?_⟩
  · refine ⟨by omega, ?_⟩
    have hS1 : Safe (mset d (x0 + 1) (d x0 0) x1) := s_3_1 hS hx0 (by omega)
    refine t_35_20 ?_
    rw [mset_ne (d := d) (a := x0 + 1) (i := d x0 0) (v := x1) (b := x0) (by omega)]
    refine ⟨by omega, ?_⟩
    have hS2 : Safe (mset (mset d (x0 + 1) (d x0 0) x1) (x0 + 2) (d x0 0) x2) := s_3_2 hS1 hx0 (by omega)
    refine t_35_30 ?_
    rw [mset_ne (d := mset d (x0 + 1) (d x0 0) x1) (a := x0 + 2) (i := d x0 0) (v := x2) (b := x0) (by omega)]
    rw [mset_ne (d := d) (a := x0 + 1) (i := d x0 0) (v := x1) (b := x0) (by omega)]
    refine ⟨by omega, ?_⟩
    have hS3 : Safe (mset (mset (mset d (x0 + 1) (d x0 0) x1) (x0 + 2) (d x0 0) x2) (x0 + 3) (d x0 0) x3) := s_3_3 hS2 hx0 (by omega)
    refine t_35_40 ?_
    rw [mset_ne (d := mset (mset d (x0 + 1) (d x0 0) x1) (x0 + 2) (d x0 0) x2) (a := x0 + 3) (i := d x0 0) (v := x3) (b := x0) (by omega)]
    rw [mset_ne (d := mset d (x0 + 1) (d x0 0) x1) (a := x0 + 2) (i := d x0 0) (v := x2) (b := x0) (by omega)]
    rw [mset_ne (d := d) (a := x0 + 1) (i := d x0 0) (v := x1) (b := x0) (by omega)]
    refine ⟨by omega, ?_⟩
    have hS4 : Safe (mset (mset (mset (mset d (x0 + 1) (d x0 0) x1) (x0 + 2) (d x0 0) x2) (x0 + 3) (d x0 0) x3) (x0 + 4) (d x0 0) x4) := s_3_4 hS3 hx0 (by omega)
    refine t_35_51 ?_
    rw [mset_ne (d := mset (mset (mset d (x0 + 1) (d x0 0) x1) (x0 + 2) (d x0 0) x2) (x0 + 3) (d x0 0) x3) (a := x0 + 4) (i := d x0 0) (v := x4) (b := x0) (by omega)]
    rw [mset_ne (d := mset (mset d (x0 + 1) (d x0 0) x1) (x0 + 2) (d x0 0) x2) (a := x0 + 3) (i := d x0 0) (v := x3) (b := x0) (by omega)]
    rw [mset_ne (d := mset d (x0 + 1) (d x0 0) x1) (a := x0 + 2) (i := d x0 0) (v := x2) (b := x0) (by omega)]
    rw [mset_ne (d := d) (a := x0 + 1) (i := d x0 0) (v := x1) (b := x0) (by omega)]
    refine ⟨by omega, ?_⟩
    have hS5 : Safe (mset (mset (mset (mset (mset d (x0 + 1) (d x0 0) x1) (x0 + 2) (d x0 0) x2) (x0 + 3) (d x0 0) x3) (x0 + 4) (d x0 0) x4) (x0 + 5) (d x0 0) 1) := s_3_5 hS4 hx0 (by omega)
    refine t_35_61 ?_
    rw [mset_ne (d := mset (mset (mset (mset d (x0 + 1) (d x0 0) x1) (x0 + 2) (d x0 0) x2) (x0 + 3) (d x0 0) x3) (x0 + 4) (d x0 0) x4) (a := x0 + 5) (i := d x0 0) (v := (1 : Int)) (b := x0) (by omega)]
    rw [mset_ne (d := mset (mset (mset d (x0 + 1) (d x0 0) x1) (x0 + 2) (d x0 0) x2) (x0 + 3) (d x0 0) x3) (a := x0 + 4) (i := d x0 0) (v := x4) (b := x0) (by omega)]
    rw [mset_ne (d := mset (mset d (x0 + 1) (d x0 0) x1) (x0 + 2) (d x0 0) x2) (a := x0 + 3) (i := d x0 0) (v := x3) (b := x0) (by omega)]
    rw [mset_ne (d := mset d (x0 + 1) (d x0 0) x1) (a := x0 + 2) (i := d x0 0) (v := x2) (b := x0) (by omega)]
    rw [mset_ne (d := d) (a := x0 + 1) (i := d x0 0) (v := x1) (b := x0) (by omega)]
    refine ⟨by omega, ?_⟩
    have hS6 : Safe (mset (mset (mset (mset (mset (mset d (x0 + 1) (d x0 0) x1) (x0 + 2) (d x0 0) x2) (x0 + 3) (d x0 0) x3) (x0 + 4) (d x0 0) x4) (x0 + 5) (d x0 0) 1) (x0 + 6) (d x0 0) 0) := s_3_6 hS5 hx0 (by omega)
    refine t_35_71 ?_
    rw [mset_ne (d := mset (mset (mset (mset (mset d (x0 + 1) (d x0 0) x1) (x0 + 2) (d x0 0) x2) (x0 + 3) (d x0 0) x3) (x0 + 4) (d x0 0) x4) (x0 + 5) (d x0 0) 1) (a := x0 + 6) (i := d x0 0) (v := (0 : Int)) (b := x0) (by omega)]
    rw [mset_ne (d := mset (mset (mset (mset d (x0 + 1) (d x0 0) x1) (x0 + 2) (d x0 0) x2) (x0 + 3) (d x0 0) x3) (x0 + 4) (d x0 0) x4) (a := x0 + 5) (i := d x0 0) (v := (1 : Int)) (b := x0) (by omega)]
    rw [mset_ne (d := mset (mset (mset d (x0 + 1) (d x0 0) x1) (x0 + 2) (d x0 0) x2) (x0 + 3) (d x0 0) x3) (a := x0 + 4) (i := d x0 0) (v := x4) (b := x0) (by omega)]
    rw [mset_ne (d := mset (mset d (x0 + 1) (d x0 0) x1) (x0 + 2) (d x0 0) x2) (a := x0 + 3) (i := d x0 0) (v := x3) (b := x0) (by omega)]
    rw [mset_ne (d := mset d (x0 + 1) (d x0 0) x1) (a := x0 + 2) (i := d x0 0) (v := x2) (b := x0) (by omega)]
    rw [mset_ne (d := d) (a := x0 + 1) (i := d x0 0) (v := x1) (b := x0) (by omega)]
    have hS7 : Safe (mset (mset (mset (mset (mset (mset (mset d (x0 + 1) (d x0 0) x1) (x0 + 2) (d x0 0) x2) (x0 + 3) (d x0 0) x3) (x0 + 4) (d x0 0) x4) (x0 + 5) (d x0 0) 1) (x0 + 6) (d x0 0) 0) x0 0 ((d x0 0) + 1)) := s_3_f0 hS6 hx0 (by omega)
    have y0 : g_35 x0 x1 x2 x3 x4 d = mset (mset (mset (mset (mset (mset (mset d (x0 + 1) (d x0 0) x1) (x0 + 2) (d x0 0) x2) (x0 + 3) (d x0 0) x3) (x0 + 4) (d x0 0) x4) (x0 + 5) (d x0 0) 1) (x0 + 6) (d x0 0) 0) x0 0 ((d x0 0) + 1) := by simp only [g_35, if_pos (show d x0 0 < 6 from c0)]
    rw [y0] at h
    exact h (show ∀ b : Int, (b < x0 ∨ x0 + 6 < b) → (mset (mset (mset (mset (mset (mset (mset d (x0 + 1) (d x0 0) x1) (x0 + 2) (d x0 0) x2) (x0 + 3) (d x0 0) x3) (x0 + 4) (d x0 0) x4) (x0 + 5) (d x0 0) 1) (x0 + 6) (d x0 0) 0) x0 0 ((d x0 0) + 1)) b = d b from fun b hb => (mset_ne (by omega)).trans ((mset_ne (by omega)).trans ((mset_ne (by omega)).trans ((mset_ne (by omega)).trans ((mset_ne (by omega)).trans ((mset_ne (by omega)).trans (mset_ne (by omega)))))))) hS7
  · have y0 : g_35 x0 x1 x2 x3 x4 d = d := by simp only [g_35, if_neg (show ¬ d x0 0 < 6 from Int.not_lt.mpr c0)]
    rw [y0] at h
    exact h (show ∀ b : Int, (b < x0 ∨ x0 + 6 < b) → d b = d b from fun _ _ => rfl) hS
def st_36_2 (x0 x1 : Int) (r2 : Int → mD → Int) (x2 : Int) (d : mD) : Int := if x2 < d x0 0 then (if d (x0 + 1) x2 = x1 then x2 else r2 (x2 + 1) d) else (-1)
def lp_36_2 (x0 x1 : Int) : Nat → Int → mD → Int
  | 0 => st_36_2 x0 x1 (fun _ d => 0)
  | n + 1 => st_36_2 x0 x1 (lp_36_2 x0 x1 n)
theorem ls_36_2 {E : mO × tW} {K : tK} {x0 x1 : Int} (hx0 : ofB x0) (p1 : -2147483648 ≤ x1 ∧ x1 ≤ 2147483647) (N2 : Int) (r2 : Int → mD → Int) (ih2 : ∀ (x2 : Int) (d : mD), Safe d → (0 ≤ x2 ∧ x2 ≤ 6) → 0 ≤ 6 - x2 → 6 - x2 < N2 → ((-1 ≤ (r2 x2 d) ∧ (r2 x2 d) ≤ 5) → K (.inl (some (0, (r2 x2 d)))) d) → tRun E 36 (2, [.inr (3, x0), .inl (0, x1), .inl (0, x2)], [], 0, 0, d) K) (x2 : Int) (d : mD) (hS : Safe d) (i0 : 0 ≤ x2 ∧ x2 ≤ 6) (hm : 6 - x2 ≤ N2) (h : (-1 ≤ (st_36_2 x0 x1 r2 x2 d) ∧ (st_36_2 x0 x1 r2 x2 d) ≤ 5) → K (.inl (some (0, (st_36_2 x0 x1 r2 x2 d)))) d) : tRun E 36 (2, [.inr (3, x0), .inl (0, x1), .inl (0, x2)], [], 0, 0, d) K := by
  refine t_36_2 ?_
  have q1 := r_3_f0 hS hx0
  refine ⟨⟨m_inR (by omega) (by omega), m_inR (by omega) (by omega)⟩, fun c0 => ?_, fun c0 => ?_⟩
  · have y0 : st_36_2 x0 x1 r2 x2 d = (-1) := by simp only [st_36_2, if_neg (show ¬ x2 < d x0 0 from Int.not_lt.mpr c0)]
    rw [y0] at h
    exact h (show -1 ≤ ((-1 : Int)) ∧ ((-1 : Int)) ≤ 5 from (by omega))
  · have q2 := r_3_1 hS hx0 x2
    refine ⟨by omega, ⟨m_inR (by omega) (by omega), m_inR (by omega) (by omega)⟩, fun c1 => ?_, fun c1 => ?_⟩
    · refine ih2 (x2 + 1)  d hS (by omega) (by omega) (by omega) ?_
      intro e
      have y0 : st_36_2 x0 x1 r2 x2 d = r2 (x2 + 1) d := by simp only [st_36_2, if_pos (show x2 < d x0 0 from c0), if_neg (show ¬ d (x0 + 1) x2 = x1 from c1)]
      rw [y0] at h
      exact h e
    · have y0 : st_36_2 x0 x1 r2 x2 d = x2 := by simp only [st_36_2, if_pos (show x2 < d x0 0 from c0), if_pos (show d (x0 + 1) x2 = x1 from c1)]
      rw [y0] at h
      exact h (show -1 ≤ x2 ∧ x2 ≤ 5 from (by omega))
theorem l_36_2 {E : mO × tW} {K : tK} {x0 x1 : Int} (hx0 : ofB x0) (p1 : -2147483648 ≤ x1 ∧ x1 ≤ 2147483647) : ∀ (n : Nat) (x2 : Int) (d : mD), Safe d → (0 ≤ x2 ∧ x2 ≤ 6) → 6 - x2 ≤ (n : Int) → ((-1 ≤ (lp_36_2 x0 x1 n x2 d) ∧ (lp_36_2 x0 x1 n x2 d) ≤ 5) → K (.inl (some (0, (lp_36_2 x0 x1 n x2 d)))) d) → tRun E 36 (2, [.inr (3, x0), .inl (0, x1), .inl (0, x2)], [], 0, 0, d) K := by
  intro n
  induction n with
  | zero =>
    intro x2  d hS i0 hm  h
    exact ls_36_2 hx0 p1 0 _ (fun _  _ _ _ m0 m1 _ => absurd m1 (by omega)) x2  d hS i0 hm  h
  | succ n ih =>
    intro x2  d hS i0 hm  h
    exact ls_36_2 hx0 p1 ((n + 1 : Nat) : Int) _ (fun x2  d hS i0  m0 m1 h => ih x2  d hS i0 (by omega)  h) x2  d hS i0 hm  h
def v_36 (x0 x1 : Int) (d : mD) : Int := lp_36_2 x0 x1 (6 - 0 : Int).toNat 0 d
theorem k_36 {E : mO × tW} {K : tK} {d : mD} {x0 x1 : Int} (hS : Safe d) (hx0 : ofB x0) (p1 : -2147483648 ≤ x1 ∧ x1 ≤ 2147483647) (h : (-1 ≤ (v_36 x0 x1 d) ∧ (v_36 x0 x1 d) ≤ 5) → K (.inl (some (0, (v_36 x0 x1 d)))) d) : tCall E 36 [.inr (3, x0), .inl (0, x1)] d K := by
  refine t_36_0 ?_
  refine l_36_2 hx0 p1 (6 - 0 : Int).toNat 0  d hS (by omega) (by omega) ?_
  intro e
  have y0 : v_36 x0 x1 d = lp_36_2 x0 x1 (6 - 0 : Int).toNat 0 d := by simp only [v_36]
  rw [y0] at h
  exact h e
def st_37_4 (x0 : Int) (r4 : Int → Int → mD → Int) (x1 x2 : Int) (d : mD) : Int := if x2 < d x0 0 then (if d (x0 + 5) x2 = 0 then r4 (x1 + 0) (x2 + 1) d else r4 (x1 + 1) (x2 + 1) d) else x1
def lp_37_4 (x0 : Int) : Nat → Int → Int → mD → Int
  | 0 => st_37_4 x0 (fun _ _ d => 0)
  | n + 1 => st_37_4 x0 (lp_37_4 x0 n)
theorem ls_37_4 {E : mO × tW} {K : tK} {x0 : Int} (hx0 : ofB x0) (N4 : Int) (r4 : Int → Int → mD → Int) (ih4 : ∀ (x1 x2 : Int) (d : mD), Safe d → (0 ≤ x2 ∧ x2 ≤ 6) → (0 ≤ x1 ∧ x1 ≤ x2) → 0 ≤ 6 - x2 → 6 - x2 < N4 → ((0 ≤ (r4 x1 x2 d) ∧ (r4 x1 x2 d) ≤ 6) → K (.inl (some (0, (r4 x1 x2 d)))) d) → tRun E 37 (4, [.inr (3, x0), .inl (0, x1), .inl (0, x2)], [], 0, 0, d) K) (x1 x2 : Int) (d : mD) (hS : Safe d) (i0 : 0 ≤ x2 ∧ x2 ≤ 6) (i1 : 0 ≤ x1 ∧ x1 ≤ x2) (hm : 6 - x2 ≤ N4) (h : (0 ≤ (st_37_4 x0 r4 x1 x2 d) ∧ (st_37_4 x0 r4 x1 x2 d) ≤ 6) → K (.inl (some (0, (st_37_4 x0 r4 x1 x2 d)))) d) : tRun E 37 (4, [.inr (3, x0), .inl (0, x1), .inl (0, x2)], [], 0, 0, d) K := by
  refine t_37_4 ?_
  have q1 := r_3_f0 hS hx0
  refine ⟨⟨m_inR (by omega) (by omega), m_inR (by omega) (by omega)⟩, fun c0 => ?_, fun c0 => ?_⟩
  · have y0 : st_37_4 x0 r4 x1 x2 d = x1 := by simp only [st_37_4, if_neg (show ¬ x2 < d x0 0 from Int.not_lt.mpr c0)]
    rw [y0] at h
    exact h (show 0 ≤ x1 ∧ x1 ≤ 6 from (by omega))
  · have q2 := r_3_5 hS hx0 x2
    refine ⟨by omega, m_inR (by omega) (by omega), fun c1 => ?_, fun c1 => ?_⟩
    · refine ih4 (x1 + 0) (x2 + 1)  d hS (by omega) (by omega) (by omega) (by omega) ?_
      intro e
      have y0 : st_37_4 x0 r4 x1 x2 d = r4 (x1 + 0) (x2 + 1) d := by simp only [st_37_4, if_pos (show x2 < d x0 0 from c0), if_pos (show d (x0 + 5) x2 = 0 from c1)]
      rw [y0] at h
      exact h e
    · refine ih4 (x1 + 1) (x2 + 1)  d hS (by omega) (by omega) (by omega) (by omega) ?_
      intro e
      have y0 : st_37_4 x0 r4 x1 x2 d = r4 (x1 + 1) (x2 + 1) d := by simp only [st_37_4, if_pos (show x2 < d x0 0 from c0), if_neg (show ¬ d (x0 + 5) x2 = 0 from c1)]
      rw [y0] at h
      exact h e
theorem l_37_4 {E : mO × tW} {K : tK} {x0 : Int} (hx0 : ofB x0) : ∀ (n : Nat) (x1 x2 : Int) (d : mD), Safe d → (0 ≤ x2 ∧ x2 ≤ 6) → (0 ≤ x1 ∧ x1 ≤ x2) → 6 - x2 ≤ (n : Int) → ((0 ≤ (lp_37_4 x0 n x1 x2 d) ∧ (lp_37_4 x0 n x1 x2 d) ≤ 6) → K (.inl (some (0, (lp_37_4 x0 n x1 x2 d)))) d) → tRun E 37 (4, [.inr (3, x0), .inl (0, x1), .inl (0, x2)], [], 0, 0, d) K := by
  intro n
  induction n with
  | zero =>
    intro x1 x2  d hS i0 i1 hm  h
    exact ls_37_4 hx0 0 _ (fun _ _  _ _ _ _ m0 m1 _ => absurd m1 (by omega)) x1 x2  d hS i0 i1 hm  h
  | succ n ih =>
    intro x1 x2  d hS i0 i1 hm  h
    exact ls_37_4 hx0 ((n + 1 : Nat) : Int) _ (fun x1 x2  d hS i0 i1  m0 m1 h => ih x1 x2  d hS i0 i1 (by omega)  h) x1 x2  d hS i0 i1 hm  h
def v_37 (x0 : Int) (d : mD) : Int := lp_37_4 x0 (6 - 0 : Int).toNat 0 0 d
theorem k_37 {E : mO × tW} {K : tK} {d : mD} {x0 : Int} (hS : Safe d) (hx0 : ofB x0) (h : (0 ≤ (v_37 x0 d) ∧ (v_37 x0 d) ≤ 6) → K (.inl (some (0, (v_37 x0 d)))) d) : tCall E 37 [.inr (3, x0)] d K := by
  refine t_37_0 ?_
  refine l_37_4 hx0 (6 - 0 : Int).toNat 0 0  d hS (by omega) (by omega) (by omega) ?_
  intro e
  have y0 : v_37 x0 d = lp_37_4 x0 (6 - 0 : Int).toNat 0 0 d := by simp only [v_37]
  rw [y0] at h
  exact h e
def v_38 (x0 x1 x2 : Int) (d : mD) : Int := d (x0 + 7) ((x1 * 16) + x2)
theorem k_38 {E : mO × tW} {K : tK} {d : mD} {x0 x1 x2 : Int} (hS : Safe d) (hx0 : ofB x0) (p1 : 0 ≤ x1 ∧ x1 ≤ 5) (p2 : 0 ≤ x2 ∧ x2 ≤ 15) (h : (0 ≤ (v_38 x0 x1 x2 d) ∧ (v_38 x0 x1 x2 d) ≤ 59) → K (.inl (some (0, (v_38 x0 x1 x2 d)))) d) : tCall E 38 [.inr (3, x0), .inl (0, x1), .inl (0, x2)] d K := by
  refine t_38_0 ?_
  have q1 := r_3_7 hS hx0 ((x1 * 16) + x2)
  refine ⟨by omega, ?_⟩
  have y0 : v_38 x0 x1 x2 d = d (x0 + 7) ((x1 * 16) + x2) := by simp only [v_38]
  rw [y0] at h
  exact h (show 0 ≤ (d (x0 + 7) ((x1 * 16) + x2)) ∧ (d (x0 + 7) ((x1 * 16) + x2)) ≤ 59 from (by omega))
def st_39_2 (x0 x1 x2 : Int) (r2 : Int → mD → Int) (x3 : Int) (d : mD) : Int := if x3 < d (x0 + 6) x1 then (if v_38 x0 x1 x3 d = x2 then x3 else r2 (x3 + 1) d) else (-1)
def lp_39_2 (x0 x1 x2 : Int) : Nat → Int → mD → Int
  | 0 => st_39_2 x0 x1 x2 (fun _ d => 0)
  | n + 1 => st_39_2 x0 x1 x2 (lp_39_2 x0 x1 x2 n)
theorem ls_39_2 {E : mO × tW} {K : tK} {x0 x1 x2 : Int} (hx0 : ofB x0) (p1 : 0 ≤ x1 ∧ x1 ≤ 5) (p2 : -2147483648 ≤ x2 ∧ x2 ≤ 2147483647) (N2 : Int) (r2 : Int → mD → Int) (ih2 : ∀ (x3 : Int) (d : mD), Safe d → (0 ≤ x3 ∧ x3 ≤ 16) → 0 ≤ 16 - x3 → 16 - x3 < N2 → ((-1 ≤ (r2 x3 d) ∧ (r2 x3 d) ≤ 15) → K (.inl (some (0, (r2 x3 d)))) d) → tRun E 39 (2, [.inr (3, x0), .inl (0, x1), .inl (0, x2), .inl (0, x3)], [], 0, 0, d) K) (x3 : Int) (d : mD) (hS : Safe d) (i0 : 0 ≤ x3 ∧ x3 ≤ 16) (hm : 16 - x3 ≤ N2) (h : (-1 ≤ (st_39_2 x0 x1 x2 r2 x3 d) ∧ (st_39_2 x0 x1 x2 r2 x3 d) ≤ 15) → K (.inl (some (0, (st_39_2 x0 x1 x2 r2 x3 d)))) d) : tRun E 39 (2, [.inr (3, x0), .inl (0, x1), .inl (0, x2), .inl (0, x3)], [], 0, 0, d) K := by
  refine t_39_2 ?_
  have q1 := r_3_6 hS hx0 x1
  refine ⟨by omega, ⟨m_inR (by omega) (by omega), m_inR (by omega) (by omega)⟩, fun c0 => ?_, fun c0 => ?_⟩
  · have y0 : st_39_2 x0 x1 x2 r2 x3 d = (-1) := by simp only [st_39_2, if_neg (show ¬ x3 < d (x0 + 6) x1 from Int.not_lt.mpr c0)]
    rw [y0] at h
    exact h (show -1 ≤ ((-1 : Int)) ∧ ((-1 : Int)) ≤ 15 from (by omega))
  · refine k_38 hS hx0 (by omega) (by omega) (fun e1 => ?_)
    refine t_39_18 ?_
    refine ⟨⟨m_inR (by omega) (by omega), m_inR (by omega) (by omega)⟩, fun c1 => ?_, fun c1 => ?_⟩
    · refine ih2 (x3 + 1)  d hS (by omega) (by omega) (by omega) ?_
      intro e
      have y0 : st_39_2 x0 x1 x2 r2 x3 d = r2 (x3 + 1) d := by simp only [st_39_2, if_pos (show x3 < d (x0 + 6) x1 from c0), if_neg (show ¬ v_38 x0 x1 x3 d = x2 from c1)]
      rw [y0] at h
      exact h e
    · have y0 : st_39_2 x0 x1 x2 r2 x3 d = x3 := by simp only [st_39_2, if_pos (show x3 < d (x0 + 6) x1 from c0), if_pos (show v_38 x0 x1 x3 d = x2 from c1)]
      rw [y0] at h
      exact h (show -1 ≤ x3 ∧ x3 ≤ 15 from (by omega))
theorem l_39_2 {E : mO × tW} {K : tK} {x0 x1 x2 : Int} (hx0 : ofB x0) (p1 : 0 ≤ x1 ∧ x1 ≤ 5) (p2 : -2147483648 ≤ x2 ∧ x2 ≤ 2147483647) : ∀ (n : Nat) (x3 : Int) (d : mD), Safe d → (0 ≤ x3 ∧ x3 ≤ 16) → 16 - x3 ≤ (n : Int) → ((-1 ≤ (lp_39_2 x0 x1 x2 n x3 d) ∧ (lp_39_2 x0 x1 x2 n x3 d) ≤ 15) → K (.inl (some (0, (lp_39_2 x0 x1 x2 n x3 d)))) d) → tRun E 39 (2, [.inr (3, x0), .inl (0, x1), .inl (0, x2), .inl (0, x3)], [], 0, 0, d) K := by
  intro n
  induction n with
  | zero =>
    intro x3  d hS i0 hm  h
    exact ls_39_2 hx0 p1 p2 0 _ (fun _  _ _ _ m0 m1 _ => absurd m1 (by omega)) x3  d hS i0 hm  h
  | succ n ih =>
    intro x3  d hS i0 hm  h
    exact ls_39_2 hx0 p1 p2 ((n + 1 : Nat) : Int) _ (fun x3  d hS i0  m0 m1 h => ih x3  d hS i0 (by omega)  h) x3  d hS i0 hm  h
def v_39 (x0 x1 x2 : Int) (d : mD) : Int := lp_39_2 x0 x1 x2 (16 - 0 : Int).toNat 0 d
theorem k_39 {E : mO × tW} {K : tK} {d : mD} {x0 x1 x2 : Int} (hS : Safe d) (hx0 : ofB x0) (p1 : 0 ≤ x1 ∧ x1 ≤ 5) (p2 : -2147483648 ≤ x2 ∧ x2 ≤ 2147483647) (h : (-1 ≤ (v_39 x0 x1 x2 d) ∧ (v_39 x0 x1 x2 d) ≤ 15) → K (.inl (some (0, (v_39 x0 x1 x2 d)))) d) : tCall E 39 [.inr (3, x0), .inl (0, x1), .inl (0, x2)] d K := by
  refine t_39_0 ?_
  refine l_39_2 hx0 p1 p2 (16 - 0 : Int).toNat 0  d hS (by omega) (by omega) ?_
  intro e
  have y0 : v_39 x0 x1 x2 d = lp_39_2 x0 x1 x2 (16 - 0 : Int).toNat 0 d := by simp only [v_39]
  rw [y0] at h
  exact h e
def st_40_40 (x0 x1 x2 x3 : Int) (r40 : Int → Int → mD → mD) (x4 x5 : Int) (d : mD) : mD := if x2 < x5 then r40 x4 (x5 + (-1)) (mset d (x0 + 7) (x4 + x5) (d (x0 + 7) ((x4 + x5) - 1))) else mset (mset d (x0 + 7) (x4 + x2) x3) (x0 + 6) x1 ((d (x0 + 6) x1) + 1)
def lp_40_40 (x0 x1 x2 x3 : Int) : Nat → Int → Int → mD → mD
  | 0 => st_40_40 x0 x1 x2 x3 (fun _ _ d => d)
  | n + 1 => st_40_40 x0 x1 x2 x3 (lp_40_40 x0 x1 x2 x3 n)
theorem ls_40_40 {E : mO × tW} {K : tK} {x0 x1 x2 x3 : Int} (hx0 : ofB x0) (p1 : 0 ≤ x1 ∧ x1 ≤ 5) (p2 : -2147483648 ≤ x2 ∧ x2 ≤ 2147483647) (p3 : 0 ≤ x3 ∧ x3 ≤ 59) (N40 : Int) (r40 : Int → Int → mD → mD) (ih40 : ∀ (x4 x5 : Int) (d : mD), Safe d → (0 ≤ x2 ∧ x2 ≤ x5 ∧ x5 ≤ 15) → (x4 = x1 * 16) → (d (x0 + 6) x1 ≤ 15) → 0 ≤ x5 → x5 < N40 → ((∀ b : Int, (b < x0 + 6 ∨ x0 + 7 < b) → (r40 x4 x5 d) b = d b) → Safe (r40 x4 x5 d) → K (.inl none) (r40 x4 x5 d)) → tRun E 40 (40, [.inr (3, x0), .inl (0, x1), .inl (0, x2), .inl (0, x3), .inl (0, x4), .inl (0, x5)], [], 0, 0, d) K) (x4 x5 : Int) (d : mD) (hS : Safe d) (i0 : 0 ≤ x2 ∧ x2 ≤ x5 ∧ x5 ≤ 15) (i1 : x4 = x1 * 16) (i2 : d (x0 + 6) x1 ≤ 15) (hm : x5 ≤ N40) (h : (∀ b : Int, (b < x0 + 6 ∨ x0 + 7 < b) → (st_40_40 x0 x1 x2 x3 r40 x4 x5 d) b = d b) → Safe (st_40_40 x0 x1 x2 x3 r40 x4 x5 d) → K (.inl none) (st_40_40 x0 x1 x2 x3 r40 x4 x5 d)) : tRun E 40 (40, [.inr (3, x0), .inl (0, x1), .inl (0, x2), .inl (0, x3), .inl (0, x4), .inl (0, x5)], [], 0, 0, d) K := by
  refine t_40_40 ?_
  refine ⟨⟨m_inR (by omega) (by omega), m_inR (by omega) (by omega)⟩, fun c0 => ?_, fun c0 => ?_⟩
  · refine ⟨by omega, ?_⟩
    have hS1 : Safe (mset d (x0 + 7) (x4 + x2) x3) := s_3_7 hS hx0 (by omega)
    rw [mset_ne (d := d) (a := x0 + 7) (i := x4 + x2) (v := x3) (b := x0 + 6) (by omega)]
    have q1 := r_3_6 hS hx0 x1
    refine ⟨by omega, by omega, ?_⟩
    have hS2 : Safe (mset (mset d (x0 + 7) (x4 + x2) x3) (x0 + 6) x1 ((d (x0 + 6) x1) + 1)) := s_3_6 hS1 hx0 (by omega)
    have y0 : st_40_40 x0 x1 x2 x3 r40 x4 x5 d = mset (mset d (x0 + 7) (x4 + x2) x3) (x0 + 6) x1 ((d (x0 + 6) x1) + 1) := by simp only [st_40_40, if_neg (show ¬ x2 < x5 from Int.not_lt.mpr c0)]
    rw [y0] at h
    exact h (show ∀ b : Int, (b < x0 + 6 ∨ x0 + 7 < b) → (mset (mset d (x0 + 7) (x4 + x2) x3) (x0 + 6) x1 ((d (x0 + 6) x1) + 1)) b = d b from fun b hb => (mset_ne (by omega)).trans (mset_ne (by omega))) hS2
  · have q2 := r_3_7 hS hx0 ((x4 + x5) - 1)
    refine ⟨by omega, by omega, ?_⟩
    have hS3 : Safe (mset d (x0 + 7) (x4 + x5) (d (x0 + 7) ((x4 + x5) - 1))) := s_3_7 hS hx0 (by omega)
    have q3 : (mset d (x0 + 7) (x4 + x5) (d (x0 + 7) ((x4 + x5) - 1))) (x0 + 6) x1 = d (x0 + 6) x1 := congrFun (mset_ne (by omega)) x1
    refine ih40 x4 (x5 + (-1))  (mset d (x0 + 7) (x4 + x5) (d (x0 + 7) ((x4 + x5) - 1))) hS3 (by omega) (by omega) (by omega) (by omega) (by omega) ?_
    intro F hS_
    have y0 : st_40_40 x0 x1 x2 x3 r40 x4 x5 d = r40 x4 (x5 + (-1)) (mset d (x0 + 7) (x4 + x5) (d (x0 + 7) ((x4 + x5) - 1))) := by simp only [st_40_40, if_pos (show x2 < x5 from c0)]
    rw [y0] at h
    exact h (fun b hb => (F b hb).trans ((show ∀ b : Int, (b < x0 + 6 ∨ x0 + 7 < b) → (mset d (x0 + 7) (x4 + x5) (d (x0 + 7) ((x4 + x5) - 1))) b = d b from fun b hb => mset_ne (by omega)) b hb)) hS_
theorem l_40_40 {E : mO × tW} {K : tK} {x0 x1 x2 x3 : Int} (hx0 : ofB x0) (p1 : 0 ≤ x1 ∧ x1 ≤ 5) (p2 : -2147483648 ≤ x2 ∧ x2 ≤ 2147483647) (p3 : 0 ≤ x3 ∧ x3 ≤ 59) : ∀ (n : Nat) (x4 x5 : Int) (d : mD), Safe d → (0 ≤ x2 ∧ x2 ≤ x5 ∧ x5 ≤ 15) → (x4 = x1 * 16) → (d (x0 + 6) x1 ≤ 15) → x5 ≤ (n : Int) → ((∀ b : Int, (b < x0 + 6 ∨ x0 + 7 < b) → (lp_40_40 x0 x1 x2 x3 n x4 x5 d) b = d b) → Safe (lp_40_40 x0 x1 x2 x3 n x4 x5 d) → K (.inl none) (lp_40_40 x0 x1 x2 x3 n x4 x5 d)) → tRun E 40 (40, [.inr (3, x0), .inl (0, x1), .inl (0, x2), .inl (0, x3), .inl (0, x4), .inl (0, x5)], [], 0, 0, d) K := by
  intro n
  induction n with
  | zero =>
    intro x4 x5  d hS i0 i1 i2 hm  h
    exact ls_40_40 hx0 p1 p2 p3 0 _ (fun _ _  _ _ _ _ _ m0 m1 _ => absurd m1 (by omega)) x4 x5  d hS i0 i1 i2 hm  h
  | succ n ih =>
    intro x4 x5  d hS i0 i1 i2 hm  h
    exact ls_40_40 hx0 p1 p2 p3 ((n + 1 : Nat) : Int) _ (fun x4 x5  d hS i0 i1 i2  m0 m1 h => ih x4 x5  d hS i0 i1 i2 (by omega)  h) x4 x5  d hS i0 i1 i2 hm  h
def g_40 (x0 x1 x2 x3 : Int) (d : mD) : mD := if x2 < 0 then d else if d (x0 + 6) x1 < x2 then d else if d (x0 + 6) x1 < 16 then lp_40_40 x0 x1 x2 x3 ((d (x0 + 6) x1) : Int).toNat (x1 * 16) (d (x0 + 6) x1) d else d
theorem k_40 {E : mO × tW} {K : tK} {d : mD} {x0 x1 x2 x3 : Int} (hS : Safe d) (hx0 : ofB x0) (p1 : 0 ≤ x1 ∧ x1 ≤ 5) (p2 : -2147483648 ≤ x2 ∧ x2 ≤ 2147483647) (p3 : 0 ≤ x3 ∧ x3 ≤ 59) (h : (∀ b : Int, (b < x0 + 6 ∨ x0 + 7 < b) → (g_40 x0 x1 x2 x3 d) b = d b) → Safe (g_40 x0 x1 x2 x3 d) → K (.inl none) (g_40 x0 x1 x2 x3 d)) : tCall E 40 [.inr (3, x0), .inl (0, x1), .inl (0, x2), .inl (0, x3)] d K := by
  refine t_40_0 ?_
  refine ⟨m_inR (by omega) (by omega), fun c0 => ?_, fun c0 => ?_⟩
  · have y0 : g_40 x0 x1 x2 x3 d = d := by simp only [g_40, if_pos (show x2 < 0 from c0)]
    rw [y0] at h
    exact h (show ∀ b : Int, (b < x0 + 6 ∨ x0 + 7 < b) → d b = d b from fun _ _ => rfl) hS
  · have q4 := r_3_6 hS hx0 x1
    refine ⟨by omega, ⟨m_inR (by omega) (by omega), m_inR (by omega) (by omega)⟩, fun c1 => ?_, fun c1 => ?_⟩
    · have y0 : g_40 x0 x1 x2 x3 d = d := by simp only [g_40, if_neg (show ¬ x2 < 0 from Int.not_lt.mpr c0), if_pos (show d (x0 + 6) x1 < x2 from c1)]
      rw [y0] at h
      exact h (show ∀ b : Int, (b < x0 + 6 ∨ x0 + 7 < b) → d b = d b from fun _ _ => rfl) hS
    · refine ⟨by omega, ⟨m_inR (by omega) (by omega), m_inR (by omega) (by omega)⟩, fun c2 => ?_, fun c2 => ?_⟩
      · refine ⟨by omega, ?_⟩
        refine l_40_40 hx0 p1 p2 p3 ((d (x0 + 6) x1) : Int).toNat (x1 * 16) (d (x0 + 6) x1)  d hS (by omega) (by omega) (by omega) (by omega) ?_
        intro F hS_
        have y0 : g_40 x0 x1 x2 x3 d = lp_40_40 x0 x1 x2 x3 ((d (x0 + 6) x1) : Int).toNat (x1 * 16) (d (x0 + 6) x1) d := by simp only [g_40, if_neg (show ¬ x2 < 0 from Int.not_lt.mpr c0), if_neg (show ¬ d (x0 + 6) x1 < x2 from Int.not_lt.mpr c1), if_pos (show d (x0 + 6) x1 < 16 from c2)]
        rw [y0] at h
        exact h F hS_
      · have y0 : g_40 x0 x1 x2 x3 d = d := by simp only [g_40, if_neg (show ¬ x2 < 0 from Int.not_lt.mpr c0), if_neg (show ¬ d (x0 + 6) x1 < x2 from Int.not_lt.mpr c1), if_neg (show ¬ d (x0 + 6) x1 < 16 from Int.not_lt.mpr c2)]
        rw [y0] at h
        exact h (show ∀ b : Int, (b < x0 + 6 ∨ x0 + 7 < b) → d b = d b from fun _ _ => rfl) hS
def st_41_25 (x0 x1 x2 : Int) (r25 : Int → Int → mD → mD) (x3 x4 : Int) (d : mD) : mD := if x4 < d (x0 + 6) x1 then r25 x3 (x4 + 1) (mset d (x0 + 7) ((x3 + x4) - 1) (d (x0 + 7) (x3 + x4))) else mset d (x0 + 6) x1 ((d (x0 + 6) x1) - 1)
def lp_41_25 (x0 x1 x2 : Int) : Nat → Int → Int → mD → mD
  | 0 => st_41_25 x0 x1 x2 (fun _ _ d => d)
  | n + 1 => st_41_25 x0 x1 x2 (lp_41_25 x0 x1 x2 n)
theorem ls_41_25 {E : mO × tW} {K : tK} {x0 x1 x2 : Int} (hx0 : ofB x0) (p1 : 0 ≤ x1 ∧ x1 ≤ 5) (p2 : -2147483648 ≤ x2 ∧ x2 ≤ 2147483647) (N25 : Int) (r25 : Int → Int → mD → mD) (ih25 : ∀ (x3 x4 : Int) (d : mD), Safe d → (1 ≤ x4 ∧ x4 ≤ 16) → (x3 = x1 * 16) → (1 ≤ d (x0 + 6) x1) → 0 ≤ 16 - x4 → 16 - x4 < N25 → ((∀ b : Int, (b < x0 + 6 ∨ x0 + 7 < b) → (r25 x3 x4 d) b = d b) → Safe (r25 x3 x4 d) → K (.inl none) (r25 x3 x4 d)) → tRun E 41 (25, [.inr (3, x0), .inl (0, x1), .inl (0, x2), .inl (0, x3), .inl (0, x4)], [], 0, 0, d) K) (x3 x4 : Int) (d : mD) (hS : Safe d) (i0 : 1 ≤ x4 ∧ x4 ≤ 16) (i1 : x3 = x1 * 16) (i2 : 1 ≤ d (x0 + 6) x1) (hm : 16 - x4 ≤ N25) (h : (∀ b : Int, (b < x0 + 6 ∨ x0 + 7 < b) → (st_41_25 x0 x1 x2 r25 x3 x4 d) b = d b) → Safe (st_41_25 x0 x1 x2 r25 x3 x4 d) → K (.inl none) (st_41_25 x0 x1 x2 r25 x3 x4 d)) : tRun E 41 (25, [.inr (3, x0), .inl (0, x1), .inl (0, x2), .inl (0, x3), .inl (0, x4)], [], 0, 0, d) K := by
  refine t_41_25 ?_
  have q1 := r_3_6 hS hx0 x1
  refine ⟨by omega, ⟨m_inR (by omega) (by omega), m_inR (by omega) (by omega)⟩, fun c0 => ?_, fun c0 => ?_⟩
  · refine ⟨by omega, by omega, ?_⟩
    have hS1 : Safe (mset d (x0 + 6) x1 ((d (x0 + 6) x1) - 1)) := s_3_6 hS hx0 (by omega)
    have y0 : st_41_25 x0 x1 x2 r25 x3 x4 d = mset d (x0 + 6) x1 ((d (x0 + 6) x1) - 1) := by simp only [st_41_25, if_neg (show ¬ x4 < d (x0 + 6) x1 from Int.not_lt.mpr c0)]
    rw [y0] at h
    exact h (show ∀ b : Int, (b < x0 + 6 ∨ x0 + 7 < b) → (mset d (x0 + 6) x1 ((d (x0 + 6) x1) - 1)) b = d b from fun b hb => mset_ne (by omega)) hS1
  · have q2 := r_3_7 hS hx0 (x3 + x4)
    refine ⟨by omega, by omega, ?_⟩
    have hS2 : Safe (mset d (x0 + 7) ((x3 + x4) - 1) (d (x0 + 7) (x3 + x4))) := s_3_7 hS hx0 (by omega)
    have q3 : (mset d (x0 + 7) ((x3 + x4) - 1) (d (x0 + 7) (x3 + x4))) (x0 + 6) x1 = d (x0 + 6) x1 := congrFun (mset_ne (by omega)) x1
    refine ih25 x3 (x4 + 1)  (mset d (x0 + 7) ((x3 + x4) - 1) (d (x0 + 7) (x3 + x4))) hS2 (by omega) (by omega) (by omega) (by omega) (by omega) ?_
    intro F hS_
    have y0 : st_41_25 x0 x1 x2 r25 x3 x4 d = r25 x3 (x4 + 1) (mset d (x0 + 7) ((x3 + x4) - 1) (d (x0 + 7) (x3 + x4))) := by simp only [st_41_25, if_pos (show x4 < d (x0 + 6) x1 from c0)]
    rw [y0] at h
    exact h (fun b hb => (F b hb).trans ((show ∀ b : Int, (b < x0 + 6 ∨ x0 + 7 < b) → (mset d (x0 + 7) ((x3 + x4) - 1) (d (x0 + 7) (x3 + x4))) b = d b from fun b hb => mset_ne (by omega)) b hb)) hS_
theorem l_41_25 {E : mO × tW} {K : tK} {x0 x1 x2 : Int} (hx0 : ofB x0) (p1 : 0 ≤ x1 ∧ x1 ≤ 5) (p2 : -2147483648 ≤ x2 ∧ x2 ≤ 2147483647) : ∀ (n : Nat) (x3 x4 : Int) (d : mD), Safe d → (1 ≤ x4 ∧ x4 ≤ 16) → (x3 = x1 * 16) → (1 ≤ d (x0 + 6) x1) → 16 - x4 ≤ (n : Int) → ((∀ b : Int, (b < x0 + 6 ∨ x0 + 7 < b) → (lp_41_25 x0 x1 x2 n x3 x4 d) b = d b) → Safe (lp_41_25 x0 x1 x2 n x3 x4 d) → K (.inl none) (lp_41_25 x0 x1 x2 n x3 x4 d)) → tRun E 41 (25, [.inr (3, x0), .inl (0, x1), .inl (0, x2), .inl (0, x3), .inl (0, x4)], [], 0, 0, d) K := by
  intro n
  induction n with
  | zero =>
    intro x3 x4  d hS i0 i1 i2 hm  h
    exact ls_41_25 hx0 p1 p2 0 _ (fun _ _  _ _ _ _ _ m0 m1 _ => absurd m1 (by omega)) x3 x4  d hS i0 i1 i2 hm  h
  | succ n ih =>
    intro x3 x4  d hS i0 i1 i2 hm  h
    exact ls_41_25 hx0 p1 p2 ((n + 1 : Nat) : Int) _ (fun x3 x4  d hS i0 i1 i2  m0 m1 h => ih x3 x4  d hS i0 i1 i2 (by omega)  h) x3 x4  d hS i0 i1 i2 hm  h
def g_41 (x0 x1 x2 : Int) (d : mD) : mD := if x2 < 0 then d else if x2 < d (x0 + 6) x1 then lp_41_25 x0 x1 x2 (16 - (x2 + 1) : Int).toNat (x1 * 16) (x2 + 1) d else d
theorem k_41 {E : mO × tW} {K : tK} {d : mD} {x0 x1 x2 : Int} (hS : Safe d) (hx0 : ofB x0) (p1 : 0 ≤ x1 ∧ x1 ≤ 5) (p2 : -2147483648 ≤ x2 ∧ x2 ≤ 2147483647) (h : (∀ b : Int, (b < x0 + 6 ∨ x0 + 7 < b) → (g_41 x0 x1 x2 d) b = d b) → Safe (g_41 x0 x1 x2 d) → K (.inl none) (g_41 x0 x1 x2 d)) : tCall E 41 [.inr (3, x0), .inl (0, x1), .inl (0, x2)] d K := by
  refine t_41_0 ?_
  refine ⟨m_inR (by omega) (by omega), fun c0 => ?_, fun c0 => ?_⟩
  · have y0 : g_41 x0 x1 x2 d = d := by simp only [g_41, if_pos (show x2 < 0 from c0)]
    rw [y0] at h
    exact h (show ∀ b : Int, (b < x0 + 6 ∨ x0 + 7 < b) → d b = d b from fun _ _ => rfl) hS
  · have q4 := r_3_6 hS hx0 x1
    refine ⟨by omega, ⟨m_inR (by omega) (by omega), m_inR (by omega) (by omega)⟩, fun c1 => ?_, fun c1 => ?_⟩
    · refine l_41_25 hx0 p1 p2 (16 - (x2 + 1) : Int).toNat (x1 * 16) (x2 + 1)  d hS (by omega) (by omega) (by omega) (by omega) ?_
      intro F hS_
      have y0 : g_41 x0 x1 x2 d = lp_41_25 x0 x1 x2 (16 - (x2 + 1) : Int).toNat (x1 * 16) (x2 + 1) d := by simp only [g_41, if_neg (show ¬ x2 < 0 from Int.not_lt.mpr c0), if_pos (show x2 < d (x0 + 6) x1 from c1)]
      rw [y0] at h
      exact h F hS_
    · have y0 : g_41 x0 x1 x2 d = d := by simp only [g_41, if_neg (show ¬ x2 < 0 from Int.not_lt.mpr c0), if_neg (show ¬ x2 < d (x0 + 6) x1 from Int.not_lt.mpr c1)]
      rw [y0] at h
      exact h (show ∀ b : Int, (b < x0 + 6 ∨ x0 + 7 < b) → d b = d b from fun _ _ => rfl) hS
def v_42 (x0 x1 x2 : Int) (d : mD) : Int := if d (x0 + 5) x1 = 0 then 0 else if x2 % (mmax 1 (d (x0 + 3) x1)) = 0 then mmin (d (x0 + 2) x1) (d (x0 + 6) x1) else 0
theorem k_42 {E : mO × tW} {K : tK} {d : mD} {x0 x1 x2 : Int} (hS : Safe d) (hx0 : ofB x0) (p1 : 0 ≤ x1 ∧ x1 ≤ 5) (p2 : 0 ≤ x2 ∧ x2 ≤ 1199) (h : (0 ≤ (v_42 x0 x1 x2 d) ∧ (v_42 x0 x1 x2 d) ≤ 4) → K (.inl (some (0, (v_42 x0 x1 x2 d)))) d) : tCall E 42 [.inr (3, x0), .inl (0, x1), .inl (0, x2)] d K := by
  refine t_42_0 ?_
  have q1 := r_3_5 hS hx0 x1
  refine ⟨by omega, m_inR (by omega) (by omega), fun c0 => ?_, fun c0 => ?_⟩
  · have y0 : v_42 x0 x1 x2 d = 0 := by simp only [v_42, if_pos (show d (x0 + 5) x1 = 0 from c0)]
    rw [y0] at h
    exact h (show 0 ≤ ((0 : Int)) ∧ ((0 : Int)) ≤ 4 from (by omega))
  · have q2 := r_3_3 hS hx0 x1
    have q3 := mmax_r 1 (d (x0 + 3) x1)
    have q4 := mmod_r (x := x2) (y := mmax 1 (d (x0 + 3) x1)) (by omega) (by omega)
    refine ⟨by omega, ⟨m_inR (by omega) (by omega), m_inR (by omega) (by omega)⟩, by omega, m_inR (by omega) (by omega), fun c1 => ?_, fun c1 => ?_⟩
    · have q5 := r_3_2 hS hx0 x1
      have q6 := r_3_6 hS hx0 x1
      have q7 := mmin_r (d (x0 + 2) x1) (d (x0 + 6) x1)
      refine ⟨by omega, by omega, ⟨m_inR (by omega) (by omega), m_inR (by omega) (by omega)⟩, ?_⟩
      have y0 : v_42 x0 x1 x2 d = mmin (d (x0 + 2) x1) (d (x0 + 6) x1) := by simp only [v_42, if_neg (show ¬ d (x0 + 5) x1 = 0 from c0), if_pos (show x2 % (mmax 1 (d (x0 + 3) x1)) = 0 from c1)]
      rw [y0] at h
      exact h (show 0 ≤ (mmin (d (x0 + 2) x1) (d (x0 + 6) x1)) ∧ (mmin (d (x0 + 2) x1) (d (x0 + 6) x1)) ≤ 4 from (by omega))
    · have y0 : v_42 x0 x1 x2 d = 0 := by simp only [v_42, if_neg (show ¬ d (x0 + 5) x1 = 0 from c0), if_neg (show ¬ x2 % (mmax 1 (d (x0 + 3) x1)) = 0 from c1)]
      rw [y0] at h
      exact h (show 0 ≤ ((0 : Int)) ∧ ((0 : Int)) ≤ 4 from (by omega))
def v_43 (x0 x1 x2 x3 : Int) (d : mD) : Int := (((x3 / (mmax 1 (d (x0 + 3) x1))) + ((x2 / (mmax 1 (d (x0 + 2) x1))) + 1)) * (mmax 1 (d (x0 + 3) x1))) - x3
theorem k_43 {E : mO × tW} {K : tK} {d : mD} {x0 x1 x2 x3 : Int} (hS : Safe d) (hx0 : ofB x0) (p1 : 0 ≤ x1 ∧ x1 ≤ 5) (p2 : 0 ≤ x2 ∧ x2 ≤ 16) (p3 : 0 ≤ x3 ∧ x3 ≤ 1199) (h : (1 ≤ (v_43 x0 x1 x2 x3 d) ∧ (v_43 x0 x1 x2 x3 d) ≤ 102) → K (.inl (some (0, (v_43 x0 x1 x2 x3 d)))) d) : tCall E 43 [.inr (3, x0), .inl (0, x1), .inl (0, x2), .inl (0, x3)] d K := by
  refine t_43_0 ?_
  have q1 := r_3_3 hS hx0 x1
  have q2 := r_3_2 hS hx0 x1
  have q3 := mmax_r 1 (d (x0 + 2) x1)
  have q4 := mmax_r 1 (d (x0 + 3) x1)
  have q5 := mdiv_r (x := x3) (y := mmax 1 (d (x0 + 3) x1)) (by omega) (by omega)
  have q6 := mdiv_r (x := x2) (y := mmax 1 (d (x0 + 2) x1)) (by omega) (by omega)
  refine ⟨by omega, ⟨m_inR (by omega) (by omega), m_inR (by omega) (by omega)⟩, by omega, ⟨m_inR (by omega) (by omega), m_inR (by omega) (by omega)⟩, by omega, by omega, ?_⟩
  have y0 : v_43 x0 x1 x2 x3 d = (((x3 / (mmax 1 (d (x0 + 3) x1))) + ((x2 / (mmax 1 (d (x0 + 2) x1))) + 1)) * (mmax 1 (d (x0 + 3) x1))) - x3 := by simp only [v_43]
  rw [y0] at h
  exact h (show 1 ≤ ((((x3 / (mmax 1 (d (x0 + 3) x1))) + ((x2 / (mmax 1 (d (x0 + 2) x1))) + 1)) * (mmax 1 (d (x0 + 3) x1))) - x3) ∧ ((((x3 / (mmax 1 (d (x0 + 3) x1))) + ((x2 / (mmax 1 (d (x0 + 2) x1))) + 1)) * (mmax 1 (d (x0 + 3) x1))) - x3) ≤ 102 from (hus_r (by omega) (by omega) (by omega)))
def v_44 (x0 x1 x2 x3 : Int) (d : mD) : Int := mmax 0 ((d (x0 + 6) x1) - ((((x3 + x2) / (mmax 1 (d (x0 + 3) x1))) - (x3 / (mmax 1 (d (x0 + 3) x1)))) * (d (x0 + 2) x1)))
theorem k_44 {E : mO × tW} {K : tK} {d : mD} {x0 x1 x2 x3 : Int} (hS : Safe d) (hx0 : ofB x0) (p1 : 0 ≤ x1 ∧ x1 ≤ 5) (p2 : 0 ≤ x2 ∧ x2 ≤ 200) (p3 : 0 ≤ x3 ∧ x3 ≤ 1199) (h : (0 ≤ (v_44 x0 x1 x2 x3 d) ∧ (v_44 x0 x1 x2 x3 d) ≤ 16) → K (.inl (some (0, (v_44 x0 x1 x2 x3 d)))) d) : tCall E 44 [.inr (3, x0), .inl (0, x1), .inl (0, x2), .inl (0, x3)] d K := by
  refine t_44_0 ?_
  have w0 := mmax_r 1 (d (x0 + 3) x1)
  have w2 := r_3_2 hS hx0 x1
  have w1 := lin_r (b := mmax 1 (d (x0 + 3) x1)) (t := x3) (h := x2) (w := d (x0 + 2) x1) (by omega) (by omega) (by omega) (by omega)
  have q1 := r_3_3 hS hx0 x1
  have q2 := mmax_r 1 (d (x0 + 3) x1)
  have q3 := r_3_6 hS hx0 x1
  have q4 := mdiv_r (x := x3 + x2) (y := mmax 1 (d (x0 + 3) x1)) (by omega) (by omega)
  have q5 := mdiv_r (x := x3) (y := mmax 1 (d (x0 + 3) x1)) (by omega) (by omega)
  have q6 := r_3_2 hS hx0 x1
  have q7 := mmax_r 0 ((d (x0 + 6) x1) - ((((x3 + x2) / (mmax 1 (d (x0 + 3) x1))) - (x3 / (mmax 1 (d (x0 + 3) x1)))) * (d (x0 + 2) x1)))
  refine ⟨by omega, ⟨m_inR (by omega) (by omega), m_inR (by omega) (by omega)⟩, by omega, by omega, by omega, by omega, ⟨m_inR (by omega) (by omega), m_inR (by omega) (by omega)⟩, ?_⟩
  have y0 : v_44 x0 x1 x2 x3 d = mmax 0 ((d (x0 + 6) x1) - ((((x3 + x2) / (mmax 1 (d (x0 + 3) x1))) - (x3 / (mmax 1 (d (x0 + 3) x1)))) * (d (x0 + 2) x1))) := by simp only [v_44]
  rw [y0] at h
  exact h (show 0 ≤ (mmax 0 ((d (x0 + 6) x1) - ((((x3 + x2) / (mmax 1 (d (x0 + 3) x1))) - (x3 / (mmax 1 (d (x0 + 3) x1)))) * (d (x0 + 2) x1)))) ∧ (mmax 0 ((d (x0 + 6) x1) - ((((x3 + x2) / (mmax 1 (d (x0 + 3) x1))) - (x3 / (mmax 1 (d (x0 + 3) x1)))) * (d (x0 + 2) x1)))) ≤ 16 from (by omega))
