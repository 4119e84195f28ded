/-! ===== the class's reader never goes back ===== -/
def CT (d : mD) : Prop := (0 ≤ d 577 2 ∧ d 577 2 ≤ d 578 1 ∧ d 578 1 ≤ 1000) ∧ TokAt (d 579) (d 578 1) (d 577 2) (d 577 1) (d 577 3) (d 577 4)
def PG (d d' : mD) : Prop := CT d → CT d' ∧ d 577 2 ≤ d' 577 2 ∧ FrC d d'
theorem Syn.ct {d e : mD} (h : Syn d e) : CT d := by
  obtain ⟨tx, b13, bt, bl, tk⟩ := h
  exact ⟨⟨by have := bl.1; omega, bl.2.1, tx.1.2⟩, tk⟩
def PW (d d' : mD) : Prop := CT d → CT d' ∧ d 577 2 ≤ d' 577 2
theorem PG.w {d d' : mD} (h : PG d d') : PW d d' := fun z => ⟨(h z).1, (h z).2.1⟩
theorem PW.fr {d d' : mD} (h7 : d' 577 = d 577) (h8 : d' 578 = d 578) (h9 : d' 579 = d 579) : PW d d' := fun h => by
  unfold CT at h ⊢
  rw [h7, h8, h9]
  exact ⟨h, Int.le_refl _⟩
theorem PW.trans {a b c : mD} (h : PW a b) (g : PW b c) : PW a c := fun z => by
  obtain ⟨q1, q2⟩ := h z
  obtain ⟨q3, q4⟩ := g q1
  exact ⟨q3, by omega⟩
theorem PG.trans {a b c : mD} (h : PG a b) (g : PG b c) : PG a c := fun z => by
  obtain ⟨q1, q2, q5⟩ := h z
  obtain ⟨q3, q4, q6⟩ := g q1
  exact ⟨q3, by omega, q5.trans q6⟩
theorem PG.refl {d : mD} : PG d d := fun z => ⟨z, Int.le_refl _, FrC.refl⟩
theorem PG.s6 {d : mD} {j v : Int} : PG d (mset d 576 j v) := fun z => by
  obtain ⟨q1, q2⟩ := PW.fr (d := d) (d' := mset d 576 j v) (by funext i; exact ms_a (by decide)) (by funext i; exact ms_a (by decide)) (by funext i; exact ms_a (by decide)) z
  exact ⟨q1, q2, fun b x _ => by funext i; exact ms_a x⟩
theorem pg52' {d : mD} (h : CT d) : CT (g_52 577 d) ∧ d 577 3 ≤ g_52 577 d 577 2 ∧ FrC d (g_52 577 d) := by
  obtain ⟨⟨h0, h1, h2⟩, tk⟩ := h
  have hz := tk.z h1
  obtain ⟨a1, a2, a3⟩ := adv (L := d 578 1) (d := d) rfl h2 (by omega) hz.2
  have e8 : g_52 577 d 578 = d 578 := a1 578 (by decide)
  have e9 : g_52 577 d 579 = d 579 := a1 579 (by decide)
  have := a2.1
  refine ⟨⟨⟨by omega, ?_, ?_⟩, ?_⟩, a2.1, fun b _ y => a1 b y⟩
  · rw [e8]; exact a2.2.1
  · rw [e8]; exact h2
  · rw [e8, e9]; exact a3
theorem pg52 {d : mD} : PG d (g_52 577 d) := fun h => by
  obtain ⟨q1, q2, q3⟩ := pg52' h
  have := (h.2.z h.1.2.1).1
  exact ⟨q1, by omega, q3⟩
theorem pg52s {d : mD} (h : CT d) (k : d 577 1 = 0) : CT (g_52 577 d) ∧ d 577 2 < g_52 577 d 577 2 := by
  obtain ⟨q1, q2, -⟩ := pg52' h
  obtain ⟨⟨h0, h1, h2⟩, tk⟩ := h
  refine ⟨q1, ?_⟩
  rcases tk with ⟨a1, a2, a3⟩ | ⟨a1, a2, a3, a4⟩ | ⟨a1, a2, a3, a4⟩ | ⟨a1, a2, a3, a4⟩ | ⟨a1, a2, a3, a4, a5, a6⟩
  · omega
  · by_cases c : d 577 2 < d 577 3
    · omega
    · have e3 : d 577 3 = d 577 2 := by have := a4.1; omega
      have := a4.2.2.2
      rw [e3] at this
      exact absurd a2 (this a1)
  · omega
  · omega
  · omega
theorem pg32 {c : Int} {d : mD} : PG d (g_32 576 c d) := PG.s6.trans PG.s6
theorem pg25 {lo hi : Int} {d : mD} : PG d (g_25 576 lo hi d) := by
  unfold g_25
  rw [show (576 : Int) + 1 = 577 by decide]
  repeat' split
  · exact pg32
  · exact pg32
  · exact PG.s6.trans pg52
  · exact pg32
theorem pg26 {d : mD} : PG d (g_26 576 d) := by
  unfold g_26
  rw [show (576 : Int) + 1 = 577 by decide]
  repeat' split
  · exact PG.s6.trans pg32
  · exact PG.s6.trans pg52
theorem pg27 {d : mD} : PG d (g_27 576 d) := by
  unfold g_27
  repeat' split
  · exact PG.s6.trans pg26
  · exact PG.s6.trans pg32
  · exact PG.s6.trans pg26
theorem pg28 {d : mD} : PG d (g_28 576 d) := by
  unfold g_28
  repeat' split
  · exact PG.s6.trans pg26
  · exact PG.s6.trans pg32
  · exact PG.s6.trans pg26
theorem pg29 {d : mD} : PG d (g_29 576 d) := by
  unfold g_29
  repeat' split
  · exact PG.s6.trans pg26
  · exact PG.s6.trans pg32
  · exact PG.s6.trans pg26
  · exact PG.s6.trans pg32
  · exact PG.s6.trans pg26
theorem pg30 {d : mD} : PG d (g_30 576 d) := by
  unfold g_30
  split
  · exact PG.refl
  · exact pg32
theorem pg31 {d : mD} : PG d (g_31 576 d) := by
  unfold g_31
  rw [show (576 : Int) + 1 = 577 by decide]
  split
  · exact pg30
  · exact pg30.trans pg52
-- behind a word: strictly on
def SPG (d d' : mD) : Prop := CT d → d 577 1 = 0 → d 577 2 < d' 577 2
theorem SPG.of {d d' : mD} (h : PW (g_52 577 d) d') : SPG d d' := fun c k => by
  obtain ⟨q1, q2⟩ := pg52s c k
  have := (h q1).2
  omega
theorem pg16 {d : mD} (h6 : d 582 0 < 6) : SPG d (g_16 576 d) := by
  refine SPG.of ?_
  have f : ∀ c x y z D, PW D (g_35 582 c x y z D) := fun c x y z D => PW.fr (f35 577 (by decide)) (f35 578 (by decide)) (f35 579 (by decide))
  have t : ∀ c x y z (D : mD), PW D (g_35 582 c x y z (g_31 576 (g_25 576 1 20 (g_25 576 1 6 (g_25 576 1 4 (g_26 576 D)))))) := fun c x y z D => ((((pg26.trans pg25).trans pg25).trans pg25).trans pg31).w.trans (f c x y z _)
  unfold g_16
  rw [show (576 : Int) + 1 = 577 by decide, show (576 : Int) + 4 + 2 = 582 by decide, if_pos h6]
  repeat' split
  all_goals first
    | exact t _ _ _ _ _
    | exact ((((pg26.trans pg25).trans pg25).trans pg25).trans pg31).w
    | exact (((pg26.trans pg25).trans pg25).trans pg25).w
    | exact ((pg26.trans pg25).trans pg25).w
    | exact (pg26.trans pg25).w
    | exact pg26.w
    | exact pg32.w
theorem pg18 {d : mD} (h6 : d 590 0 < 16) (h0 : 0 ≤ d 590 0) : SPG d (g_18 576 d) := by
  intro c k
  have e1 : g_52 577 d 590 = d 590 := (pg52 c).2.2 590 (by decide) (by decide)
  refine SPG.of (fun z => ?_) c k
  have f : ∀ c, PW (g_52 577 d) (g_47 590 c (g_31 576 (g_26 576 (g_52 577 d)))) := fun c z => by
    obtain ⟨q1, q2, q3⟩ := (pg26.trans pg31) z
    have hD : 0 ≤ g_31 576 (g_26 576 (g_52 577 d)) 590 0 := by rw [q3 590 (by decide) (by decide), e1]; exact h0
    obtain ⟨q4, q5⟩ := PW.fr (f47 (c := c) hD 577 (by decide)) (f47 (c := c) hD 578 (by decide)) (f47 (c := c) hD 579 (by decide)) q1
    exact ⟨q4, by omega⟩
  unfold g_18
  rw [show (576 : Int) + 1 = 577 by decide, show (576 : Int) + 4 + 10 = 590 by decide, if_pos h6]
  repeat' split
  all_goals first
    | exact f _ z
    | exact (pg26.trans pg31).w z
    | exact pg26.w z
    | exact pg32.w z
theorem pg20 {d : mD} : SPG d (g_20 576 d) := by
  refine SPG.of ?_
  have f : ∀ p o (D : mD), PW D (g_61 580 p o D) := fun p o D => PW.fr (f61 577 (by decide)) (f61 578 (by decide)) (f61 579 (by decide))
  have t : ∀ p o (D : mD), PW D (g_31 576 (g_61 580 p o (g_30 576 (g_28 576 (g_27 576 D))))) := fun p o D => (((pg27.trans pg28).trans pg30).w.trans (f p o _)).trans pg31.w
  unfold g_20
  rw [show (576 : Int) + 1 = 577 by decide, show (576 : Int) + 4 = 580 by decide]
  repeat' split
  all_goals first
    | exact t _ _ _
    | exact (((pg27.trans pg28).trans pg30).trans pg32).w
    | exact ((pg27.trans pg28).trans pg30).w
    | exact (pg27.trans pg28).w
    | exact pg27.w
theorem PW.fs {d d' : mD} (h : ∀ b, (b < 580 ∨ 642 < b) → d' b = d b) : PW d d' := PW.fr (h 577 (by decide)) (h 578 (by decide)) (h 579 (by decide))
theorem pg30e {d : mD} (h : ¬ v_30 576 d = 0) : g_30 576 d = d := by
  unfold v_30 at h
  unfold g_30
  split
  · rfl
  · rename_i c
    rw [if_neg c] at h
    exact absurd rfl h
theorem v25_1 {lo hi : Int} {d : mD} (h : ¬ v_25 576 lo hi d = 0) : v_25 576 lo hi d = 1 := by
  have : v_25 576 lo hi d = 0 ∨ v_25 576 lo hi d = 1 := by
    unfold v_25 v_32
    repeat' split
    all_goals first
      | exact Or.inl rfl
      | exact Or.inr rfl
  omega
theorem v29_1 {d : mD} (h : ¬ v_29 576 d = 0) : v_29 576 d = 1 := by
  have : v_29 576 d = 0 ∨ v_29 576 d = 1 := by
    unfold v_29 v_26 v_32
    repeat' split
    all_goals first
      | exact Or.inl rfl
      | exact Or.inr rfl
  omega
theorem v27_1 {d : mD} (h : ¬ v_27 576 d = 0) : v_27 576 d = 1 := by
  have : v_27 576 d = 0 ∨ v_27 576 d = 1 := by
    unfold v_27 v_26 v_32
    repeat' split
    all_goals first
      | exact Or.inl rfl
      | exact Or.inr rfl
  omega
theorem pg21 {d : mD} (hF : v_25 576 1 99 (g_52 577 d) = 1 → ∀ b, (b < 580 ∨ 642 < b) → g_68 580 (g_25 576 1 99 (g_52 577 d) 576 4) (g_25 576 1 99 (g_52 577 d)) b = g_25 576 1 99 (g_52 577 d) b) : SPG d (g_21 576 d) := by
  refine SPG.of ?_
  unfold g_21
  rw [show (576 : Int) + 1 = 577 by decide, show (576 : Int) + 4 = 580 by decide]
  by_cases c1 : v_25 576 1 99 (g_52 577 d) = 0
  · rw [if_pos c1]
    exact pg25.w
  · rw [if_neg c1]
    have v1 : v_25 576 1 99 (g_52 577 d) = 1 := v25_1 c1
    by_cases c2 : v_30 576 (g_25 576 1 99 (g_52 577 d)) = 0
    · rw [if_pos c2]
      exact (pg25.trans pg30).w
    · rw [if_neg c2]
      by_cases c3 : v_67 580 (g_25 576 1 99 (g_52 577 d) 576 4) (g_30 576 (g_25 576 1 99 (g_52 577 d))) = 0
      · rw [if_pos c3]
        exact ((pg25.trans pg30).trans pg32).w
      · rw [if_neg c3, pg30e c2]
        exact (pg25.w.trans (PW.fs (hF v1))).trans pg31.w
theorem pg22 {d : mD} (hF : v_29 576 (g_52 577 d) = 1 → ∀ b, (b < 580 ∨ 642 < b) → g_74 580 (g_29 576 (g_52 577 d) 576 6) (g_29 576 (g_52 577 d)) b = g_29 576 (g_52 577 d) b) : SPG d (g_22 576 d) := by
  refine SPG.of ?_
  unfold g_22
  rw [show (576 : Int) + 1 = 577 by decide, show (576 : Int) + 4 = 580 by decide]
  by_cases c1 : v_29 576 (g_52 577 d) = 0
  · rw [if_pos c1]
    exact pg29.w
  · rw [if_neg c1]
    by_cases c2 : v_30 576 (g_29 576 (g_52 577 d)) = 0
    · rw [if_pos c2]
      exact (pg29.trans pg30).w
    · rw [if_neg c2]
      by_cases c3 : v_73 580 (g_29 576 (g_52 577 d) 576 6) (g_30 576 (g_29 576 (g_52 577 d))) = 0
      · rw [if_pos c3]
        exact ((pg29.trans pg30).trans pg32).w
      · rw [if_neg c3, pg30e c2]
        exact (pg29.w.trans (PW.fs (hF (v29_1 c1)))).trans pg31.w
theorem pg23 {d : mD} (hF : v_27 576 (g_52 577 d) = 1 → v_29 576 (g_27 576 (g_52 577 d)) = 1 → v_77 580 (g_29 576 (g_27 576 (g_52 577 d)) 576 6) (g_27 576 (g_52 577 d) 576 6) (g_29 576 (g_27 576 (g_52 577 d))) = 0 → ∀ b, (b < 580 ∨ 642 < b) → g_75 580 (g_29 576 (g_27 576 (g_52 577 d)) 576 6) (g_27 576 (g_52 577 d) 576 6) (g_29 576 (g_27 576 (g_52 577 d))) b = g_29 576 (g_27 576 (g_52 577 d)) b) : SPG d (g_23 576 d) := by
  refine SPG.of ?_
  unfold g_23
  rw [show (576 : Int) + 1 = 577 by decide, show (576 : Int) + 4 = 580 by decide]
  by_cases c0 : v_27 576 (g_52 577 d) = 0
  · rw [if_pos c0]
    exact pg27.w
  · rw [if_neg c0]
    by_cases c1 : v_29 576 (g_27 576 (g_52 577 d)) = 0
    · rw [if_pos c1]
      exact (pg27.trans pg29).w
    · rw [if_neg c1]
      by_cases c2 : v_30 576 (g_29 576 (g_27 576 (g_52 577 d))) = 0
      · rw [if_pos c2]
        exact ((pg27.trans pg29).trans pg30).w
      · rw [if_neg c2]
        by_cases c3 : v_77 580 (g_29 576 (g_27 576 (g_52 577 d)) 576 6) (g_27 576 (g_52 577 d) 576 6) (g_30 576 (g_29 576 (g_27 576 (g_52 577 d)))) = 0
        · rw [if_pos c3, pg30e c2]
          rw [pg30e c2] at c3
          exact ((pg27.trans pg29).w.trans (PW.fs (hF (v27_1 c0) (v29_1 c1) c3))).trans pg31.w
        · rw [if_neg c3]
          exact (((pg27.trans pg29).trans pg30).trans pg32).w
theorem v55k {w : Int} {d : mD} (h : ¬ v_55 577 w d = 0) : d 577 1 = 0 := by
  unfold v_55 at h
  by_cases c : d 577 1 = 0
  · exact c
  · rw [if_neg c] at h
    exact absurd rfl h
