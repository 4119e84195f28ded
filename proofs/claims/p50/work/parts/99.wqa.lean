/-! ===== World's small queries ===== -/
def SW (b : Int) (d : mD) : Prop := ∀ c i, b ≤ c → c ≤ b + 27 → -1000000 ≤ d c i ∧ d c i ≤ 1000000
theorem SW.m {b : Int} {d : mD} (h : SW b d) {c i : Int} (h1 : b ≤ c) (h2 : c ≤ b + 27) : mInR (d c i) := by
  have := h c i h1 h2
  exact m_inR (by omega) (by omega)
def wEnd (x0 x1 : Int) (d : mD) : Int := if d (x0 + 14) x1 = 0 then d x0 0 else d (x0 + 13) x1
theorem k_346 {E : mO × tW} {K : tK} {d : mD} {x0 x1 : Int} (hS : SW x0 d) (h1 : 0 ≤ x1 ∧ x1 < 61) (h : K (.inl (some (0, wEnd x0 x1 d))) d) : tCall E 346 [.inr (41, x0), .inl (0, x1)] d K := by
  refine t_346_0 ?_
  unfold wEnd at h
  refine ⟨h1, hS.m (by omega) (by omega), fun c => ⟨h1, ?_⟩, fun c => ?_⟩
  · rw [if_neg c] at h
    exact h
  · rw [if_pos c] at h
    exact h
theorem wEnd_r {x0 x1 : Int} {d : mD} (hS : SW x0 d) : -1000000 ≤ wEnd x0 x1 d ∧ wEnd x0 x1 d ≤ 1000000 := by
  unfold wEnd
  split
  · exact hS _ _ (by omega) (by omega)
  · exact hS _ _ (by omega) (by omega)
def wLost (x0 x1 : Int) (d : mD) : Int := mmax 0 ((wEnd x0 x1 d - d (x0 + 12) x1) - d (x0 + 1) 0)
theorem k_347 {E : mO × tW} {K : tK} {d : mD} {x0 x1 : Int} (hS : SW x0 d) (h1 : 0 ≤ x1 ∧ x1 < 61) (h : K (.inl (some (0, wLost x0 x1 d))) d) : tCall E 347 [.inr (41, x0), .inl (0, x1)] d K := by
  refine t_347_0 ?_
  refine k_346 hS h1 ?_
  refine t_347_6 ?_
  have a := wEnd_r (x1 := x1) hS
  have b := hS (x0 + 12) x1 (by omega) (by omega)
  have c := hS (x0 + 1) 0 (by omega) (by omega)
  exact ⟨h1, by decide, ⟨m_inR (by omega) (by omega), m_inR (by omega) (by omega)⟩, h⟩
def wCanMerge (x0 x1 x2 : Int) (d : mD) : Int := if x1 = x2 ∨ d (x0 + 8) x1 = 0 ∨ d (x0 + 8) x2 = 0 then 0 else 1
theorem k_364 {E : mO × tW} {K : tK} {d : mD} {x0 x1 x2 : Int} (hS : SW x0 d) (h1 : 0 ≤ x1 ∧ x1 < 6) (h2 : 0 ≤ x2 ∧ x2 < 6) (h : K (.inl (some (0, wCanMerge x0 x1 x2 d))) d) : tCall E 364 [.inr (41, x0), .inl (0, x1), .inl (0, x2)] d K := by
  refine t_364_0 ?_
  unfold wCanMerge at h
  refine ⟨⟨m_inR (by omega) (by omega), m_inR (by omega) (by omega)⟩, fun c => ⟨Or.inl rfl, ?_⟩, fun c => ⟨h1, hS.m (by omega) (by omega), fun c2 => ⟨Or.inl rfl, ?_⟩, fun c2 => ⟨h2, hS.m (by omega) (by omega), fun c3 => ⟨Or.inl rfl, ?_⟩, fun c3 => ⟨Or.inr rfl, ?_⟩⟩⟩⟩
  · rw [if_pos (Or.inl c)] at h
    exact h
  · rw [if_pos (Or.inr (Or.inl c2))] at h
    exact h
  · rw [if_pos (Or.inr (Or.inr c3))] at h
    exact h
  · rw [if_neg (fun z => z.elim c (fun z => z.elim c2 c3))] at h
    exact h
def wOwnF (x0 x1 x2 : Int) (d : mD) (k : Int) : Int := if d (x0 + 19) k = x1 ∧ d (x0 + 22) k = x2 then 1 else 0
theorem k_362 {E : mO × tW} {K : tK} {d : mD} {x0 x1 x2 : Int} (hS : SW x0 d) (h1 : mInR x1) (h2 : mInR x2) (hn : 0 ≤ d x0 5 ∧ d x0 5 ≤ 200) (h : K (.inl (some (0, csum (wOwnF x0 x1 x2 d) (d x0 5).toNat))) d) : tCall E 362 [.inr (41, x0), .inl (0, x1), .inl (0, x2)] d K := by
  refine t_362_0 ?_
  refine t_count (fun i => (5, [.inr (41, x0), .inl (0, x1), .inl (0, x2), .inl (0, csum (wOwnF x0 x1 x2 d) i.toNat), .inl (0, i)], [], 0, 0, d)) hn.1 (fun i i0 i1 k => ?_) ?_
  · refine t_362_5 ?_
    rw [csum_s _ i0] at k
    refine ⟨⟨m_inR (by omega) (by omega), hS.m (by omega) (by omega)⟩, fun c => absurd i1 (by omega), fun _ => ⟨⟨i0, by omega⟩, ⟨hS.m (by omega) (by omega), h1⟩, fun c => ?_, fun c => ⟨⟨i0, by omega⟩, ⟨hS.m (by omega) (by omega), h2⟩, fun c2 => ?_, fun c2 => ?_⟩⟩⟩
    · rw [show wOwnF x0 x1 x2 d i = 0 from if_neg (fun z => c z.1)] at k
      exact k
    · rw [show wOwnF x0 x1 x2 d i = 0 from if_neg (fun z => c2 z.2)] at k
      exact k
    · rw [show wOwnF x0 x1 x2 d i = 1 from if_pos ⟨c, c2⟩] at k
      exact k
  · refine t_362_5 ?_
    exact ⟨⟨m_inR (by omega) (by omega), hS.m (by omega) (by omega)⟩, fun _ => h, fun c => absurd c (by omega)⟩
theorem k_363 {E : mO × tW} {K : tK} {d : mD} {x0 x1 : Int} (hS : SW x0 d) (h1 : mInR x1) (hn : 0 ≤ d x0 5 ∧ d x0 5 ≤ 200) (h : ∀ r, isF (fun k => d (x0 + 19) k = x1 ∧ d (x0 + 22) k = 0) (d x0 5) r → K (.inl (some (0, r))) d) : tCall E 363 [.inr (41, x0), .inl (0, x1)] d K := by
  refine t_363_0 ?_
  refine t_find (fun i => (2, [.inr (41, x0), .inl (0, x1), .inl (0, i)], [], 0, 0, d)) (fun k => d (x0 + 19) k = x1 ∧ d (x0 + 22) k = 0) hn.1 (fun i i0 i1 hno k => ?_) (fun hno => ?_)
  · refine t_363_2 ?_
    exact ⟨⟨m_inR (by omega) (by omega), hS.m (by omega) (by omega)⟩, fun c => absurd i1 (by omega), fun _ => ⟨⟨i0, by omega⟩, ⟨hS.m (by omega) (by omega), h1⟩, fun c => k (fun z => c z.1), fun c => ⟨⟨i0, by omega⟩, hS.m (by omega) (by omega), fun c2 => k (fun z => c2 z.2), fun c2 => h i (Or.inr ⟨i0, i1, ⟨c, c2⟩, hno⟩)⟩⟩⟩
  · refine t_363_2 ?_
    exact ⟨⟨m_inR (by omega) (by omega), hS.m (by omega) (by omega)⟩, fun _ => h (-1) (Or.inl ⟨rfl, hno⟩), fun c => absurd c (by omega)⟩
theorem k_351 {E : mO × tW} {K : tK} {d : mD} {x0 x1 : Int} (hS : SW x0 d) (h1 : 0 ≤ x1 ∧ x1 < 61) (hw : 0 ≤ d (x0 + 11) x1 ∧ d (x0 + 11) x1 < 6) (hn : 0 ≤ d (x0 + 5) (d (x0 + 11) x1) ∧ d (x0 + 5) (d (x0 + 11) x1) ≤ 61) (h : ∀ r, isF (fun k => d (x0 + 9) (61 * d (x0 + 11) x1 + k) = x1) (d (x0 + 5) (d (x0 + 11) x1)) r → K (.inl (some (0, r))) d) : tCall E 351 [.inr (41, x0), .inl (0, x1)] d K := by
  refine t_351_0 ?_
  refine t_find (fun i => (2, [.inr (41, x0), .inl (0, x1), .inl (0, i)], [], 0, 0, d)) (fun k => d (x0 + 9) (61 * d (x0 + 11) x1 + k) = x1) hn.1 (fun i i0 i1 hno k => ?_) (fun hno => ?_)
  · refine t_351_2 ?_
    exact ⟨h1, hw, ⟨m_inR (by omega) (by omega), hS.m (by omega) (by omega)⟩, fun c => absurd i1 (by omega), fun _ => ⟨h1, ⟨by omega, by omega⟩, ⟨hS.m (by omega) (by omega), m_inR (by omega) (by omega)⟩, fun c => k c, fun c => h i (Or.inr ⟨i0, i1, c, hno⟩)⟩⟩
  · refine t_351_2 ?_
    exact ⟨h1, hw, ⟨m_inR (by omega) (by omega), hS.m (by omega) (by omega)⟩, fun _ => h (-1) (Or.inl ⟨rfl, hno⟩), fun c => absurd c (by omega)⟩
def wMadeF (x0 x1 : Int) (d : mD) (k : Int) : Int := if d (x0 + 10) (d (x0 + 20) k) = x1 ∧ d (x0 + 23) k = d x0 0 / 20 then 1 else 0
theorem k_348 {E : mO × tW} {K : tK} {d : mD} {x0 x1 : Int} (hS : SW x0 d) (h1 : mInR x1) (ht : 0 ≤ d x0 0) (hn : 0 ≤ d x0 5 ∧ d x0 5 ≤ 200) (ho : ∀ k, 0 ≤ k → k < d x0 5 → 0 ≤ d (x0 + 20) k ∧ d (x0 + 20) k < 61) (h : K (.inl (some (0, csum (wMadeF x0 x1 d) (d x0 5).toNat))) d) : tCall E 348 [.inr (41, x0), .inl (0, x1)] d K := by
  have hT := hS x0 0 (by omega) (by omega)
  refine t_348_0 ?_
  refine t_count (fun i => (4, [.inr (41, x0), .inl (0, x1), .inl (0, csum (wMadeF x0 x1 d) i.toNat), .inl (0, i)], [], 0, 0, d)) hn.1 (fun i i0 i1 k => ?_) ?_
  · refine t_348_4 ?_
    rw [csum_s _ i0] at k
    refine ⟨⟨m_inR (by omega) (by omega), hS.m (by omega) (by omega)⟩, fun c => absurd i1 (by omega), fun _ => ⟨⟨i0, by omega⟩, ho i i0 i1, ⟨hS.m (by omega) (by omega), h1⟩, fun c => ?_, fun c => ⟨⟨i0, by omega⟩, by omega, ⟨hS.m (by omega) (by omega), m_inR (by omega) (by omega)⟩, fun c2 => ?_, fun c2 => ?_⟩⟩⟩
    · rw [show wMadeF x0 x1 d i = 0 from if_neg (fun z => c z.1)] at k
      exact k
    · rw [show wMadeF x0 x1 d i = 0 from if_neg (fun z => c2 z.2)] at k
      exact k
    · rw [show wMadeF x0 x1 d i = 1 from if_pos ⟨c, c2⟩] at k
      exact k
  · refine t_348_4 ?_
    exact ⟨⟨m_inR (by omega) (by omega), hS.m (by omega) (by omega)⟩, fun _ => h, fun c => absurd c (by omega)⟩
def wOftF (x0 x1 : Int) (d : mD) (k : Int) : Int := if d (x0 + 26) k = x1 ∧ d (x0 + 27) k = d x0 0 / 20 then 1 else 0
theorem k_358 {E : mO × tW} {K : tK} {d : mD} {x0 x1 : Int} (hS : SW x0 d) (h1 : mInR x1) (ht : 0 ≤ d x0 0) (hn : 0 ≤ d x0 7 ∧ d x0 7 ≤ 200) (h : K (.inl (some (0, csum (wOftF x0 x1 d) (d x0 7).toNat))) d) : tCall E 358 [.inr (41, x0), .inl (0, x1)] d K := by
  have hT := hS x0 0 (by omega) (by omega)
  refine t_358_0 ?_
  refine t_count (fun i => (4, [.inr (41, x0), .inl (0, x1), .inl (0, csum (wOftF x0 x1 d) i.toNat), .inl (0, i)], [], 0, 0, d)) hn.1 (fun i i0 i1 k => ?_) ?_
  · refine t_358_4 ?_
    rw [csum_s _ i0] at k
    refine ⟨⟨m_inR (by omega) (by omega), hS.m (by omega) (by omega)⟩, fun c => absurd i1 (by omega), fun _ => ⟨⟨i0, by omega⟩, ⟨hS.m (by omega) (by omega), h1⟩, fun c => ?_, fun c => ⟨⟨i0, by omega⟩, by omega, ⟨hS.m (by omega) (by omega), m_inR (by omega) (by omega)⟩, fun c2 => ?_, fun c2 => ?_⟩⟩⟩
    · rw [show wOftF x0 x1 d i = 0 from if_neg (fun z => c z.1)] at k
      exact k
    · rw [show wOftF x0 x1 d i = 0 from if_neg (fun z => c2 z.2)] at k
      exact k
    · rw [show wOftF x0 x1 d i = 1 from if_pos ⟨c, c2⟩] at k
      exact k
  · refine t_358_4 ?_
    exact ⟨⟨m_inR (by omega) (by omega), hS.m (by omega) (by omega)⟩, fun _ => h, fun c => absurd c (by omega)⟩
-- is there one
def isE (p : Int → Prop) (n r : Int) : Prop := (r = 0 ∧ ∀ j, 0 ≤ j → j < n → ¬ p j) ∨ (r = 1 ∧ ∃ j, 0 ≤ j ∧ j < n ∧ p j)
theorem k_359 {E : mO × tW} {K : tK} {d : mD} {x0 x1 x2 : Int} (hS : SW x0 d) (h1 : mInR x1) (h2 : mInR x2) (hn : 0 ≤ d x0 7 ∧ d x0 7 ≤ 200) (h : ∀ r, isE (fun k => d (x0 + 25) k = x1 ∧ d (x0 + 26) k = x2) (d x0 7) r → K (.inl (some (0, r))) d) : tCall E 359 [.inr (41, x0), .inl (0, x1), .inl (0, x2)] d K := by
  refine t_359_0 ?_
  refine t_find (fun i => (2, [.inr (41, x0), .inl (0, x1), .inl (0, x2), .inl (0, i)], [], 0, 0, d)) (fun k => d (x0 + 25) k = x1 ∧ d (x0 + 26) k = x2) hn.1 (fun i i0 i1 hno k => ?_) (fun hno => ?_)
  · refine t_359_2 ?_
    exact ⟨⟨m_inR (by omega) (by omega), hS.m (by omega) (by omega)⟩, fun c => absurd i1 (by omega), fun _ => ⟨⟨i0, by omega⟩, ⟨hS.m (by omega) (by omega), h1⟩, fun c => k (fun z => c z.1), fun c => ⟨⟨i0, by omega⟩, ⟨hS.m (by omega) (by omega), h2⟩, fun c2 => k (fun z => c2 z.2), fun c2 => ⟨Or.inr rfl, h 1 (Or.inr ⟨rfl, i, i0, i1, c, c2⟩)⟩⟩⟩⟩
  · refine t_359_2 ?_
    exact ⟨⟨m_inR (by omega) (by omega), hS.m (by omega) (by omega)⟩, fun _ => ⟨Or.inl rfl, h 0 (Or.inl ⟨rfl, hno⟩)⟩, fun c => absurd c (by omega)⟩
theorem k_355 {E : mO × tW} {K : tK} {d : mD} {x0 x1 x2 : Int} (hS : SW x0 d) (h1 : mInR x1) (h2 : 0 ≤ x2 ∧ x2 < 6) (hn : 0 ≤ d x0 4 ∧ d x0 4 ≤ 60)
    (h : ∀ r, (r = 1 ∧ (∀ k, 0 ≤ k → k < d x0 4 → ¬ (d (x0 + 10) k = x1 ∧ d (x0 + 11) k = x2 ∧ d (x0 + 14) k = 0)) ∧ d x0 4 < 60 ∧ ¬ d (x0 + 8) x2 = 0 ∧ d (x0 + 5) x2 < d (x0 + 4) x2) ∨ (r = 0 ∧ ((∃ k, 0 ≤ k ∧ k < d x0 4 ∧ d (x0 + 10) k = x1 ∧ d (x0 + 11) k = x2 ∧ d (x0 + 14) k = 0) ∨ 60 ≤ d x0 4 ∨ d (x0 + 8) x2 = 0 ∨ d (x0 + 4) x2 ≤ d (x0 + 5) x2)) → K (.inl (some (0, r))) d) : tCall E 355 [.inr (41, x0), .inl (0, x1), .inl (0, x2)] d K := by
  refine t_355_0 ?_
  refine t_find (fun i => (2, [.inr (41, x0), .inl (0, x1), .inl (0, x2), .inl (0, i)], [], 0, 0, d)) (fun k => d (x0 + 10) k = x1 ∧ d (x0 + 11) k = x2 ∧ d (x0 + 14) k = 0) hn.1 (fun i i0 i1 hno k => ?_) (fun hno => ?_)
  · refine t_355_2 ?_
    exact ⟨⟨m_inR (by omega) (by omega), hS.m (by omega) (by omega)⟩, fun c => absurd i1 (by omega), fun _ => ⟨⟨i0, by omega⟩, ⟨hS.m (by omega) (by omega), h1⟩, fun c => k (fun z => c z.1), fun c => ⟨⟨i0, by omega⟩, ⟨hS.m (by omega) (by omega), m_inR (by omega) (by omega)⟩, fun c2 => k (fun z => c2 z.2.1), fun c2 => ⟨⟨i0, by omega⟩, hS.m (by omega) (by omega), fun c3 => k (fun z => c3 z.2.2), fun c3 => ⟨Or.inl rfl, h 0 (Or.inr ⟨rfl, Or.inl ⟨i, i0, i1, c, c2, c3⟩⟩)⟩⟩⟩⟩⟩
  · refine t_355_2 ?_
    exact ⟨⟨m_inR (by omega) (by omega), hS.m (by omega) (by omega)⟩, fun _ => ⟨⟨hS.m (by omega) (by omega), m_inR (by omega) (by omega)⟩, fun c => ⟨Or.inl rfl, h 0 (Or.inr ⟨rfl, Or.inr (Or.inl c)⟩)⟩, fun c => ⟨h2, hS.m (by omega) (by omega), fun c2 => ⟨Or.inl rfl, h 0 (Or.inr ⟨rfl, Or.inr (Or.inr (Or.inl c2))⟩)⟩, fun c2 => ⟨h2, h2, ⟨hS.m (by omega) (by omega), hS.m (by omega) (by omega)⟩, fun c3 => ⟨Or.inl rfl, h 0 (Or.inr ⟨rfl, Or.inr (Or.inr (Or.inr c3))⟩)⟩, fun c3 => ⟨Or.inr rfl, h 1 (Or.inl ⟨rfl, hno, c, c2, c3⟩)⟩⟩⟩⟩, fun c => absurd c (by omega)⟩
