/-! ===== each piece of the relation: what it looks at ===== -/
theorem GN.k {w w' : Row} (e : ∀ i, 0 ≤ i ∧ i ≤ 11 → w' i = w i) (h : GN w) : GN w' := by
  unfold GN at *
  rw [e 0 (by omega), e 1 (by omega), e 2 (by omega), e 3 (by omega), e 4 (by omega), e 5 (by omega), e 6 (by omega), e 7 (by omega), e 8 (by omega), e 9 (by omega), e 10 (by omega), e 11 (by omega)]
  exact h
theorem GO.k {w w' : Row} (e : ∀ i, i = 7 ∨ i = 9 ∨ (12 ≤ i ∧ i < 420 ∧ 1 ≤ (i - 12) % 68 ∧ (i - 12) % 68 ≤ 6) ∨ (452 ≤ i ∧ i < 1916 ∧ ((i - 452) % 24 = 1 ∨ (i - 452) % 24 = 4)) → w' i = w i) (hn : GN w) (h : GO w) : GO w' := by
  intro o x y
  obtain ⟨n7, n8, n9, n10, n11, -⟩ := hn
  rw [e 7 (by omega)] at y
  have g := h o x y
  rw [e (12 + 68 * o + 1) (by omega), e (12 + 68 * o + 2) (by omega), e (12 + 68 * o + 3) (by omega), e (12 + 68 * o + 4) (by omega), e (12 + 68 * o + 5) (by omega), e (12 + 68 * o + 6) (by omega), e 9 (by omega),
    csum_congr (f := fun t => if w' (452 + 24 * t + 4) = 1 ∧ w' (452 + 24 * t + 1) = o then 1 else 0) (g := fun t => if w (452 + 24 * t + 4) = 1 ∧ w (452 + 24 * t + 1) = o then 1 else 0) (fun t a b => by
      show (if w' (452 + 24 * t + 4) = 1 ∧ w' (452 + 24 * t + 1) = o then (1 : Int) else 0) = if w (452 + 24 * t + 4) = 1 ∧ w (452 + 24 * t + 1) = o then 1 else 0
      rw [e (452 + 24 * t + 4) (by omega), e (452 + 24 * t + 1) (by omega)])]
  exact g
theorem GQ.k {w w' : Row} (e : ∀ i, i = 7 ∨ i = 9 ∨ (12 ≤ i ∧ i < 420 ∧ 5 ≤ (i - 12) % 68 ∧ ¬ (i - 12) % 68 = 6) ∨ (452 ≤ i ∧ i < 1916 ∧ ((i - 452) % 24 ≤ 2 ∨ (i - 452) % 24 = 4)) → w' i = w i) (hn : GN w) (ho : GO w) (h : GQ w) : GQ w' := by
  intro o x y k u v
  obtain ⟨n7, n8, n9, n10, n11, -⟩ := hn
  rw [e 7 (by omega)] at y
  have hO := ho o x y
  rw [e (12 + 68 * o + 5) (by omega)] at v
  have g := h o x y k u v
  rw [e (12 + 68 * o + 7 + k) (by omega), e 9 (by omega), e (452 + 24 * w (12 + 68 * o + 7 + k) + 1) (by omega), e (452 + 24 * w (12 + 68 * o + 7 + k) + 4) (by omega)]
  refine ⟨g.1, g.2.1, g.2.2.1, fun i a b => ?_⟩
  have gi := h o x y i a (by omega)
  rw [e (12 + 68 * o + 7 + i) (by omega), e (452 + 24 * w (12 + 68 * o + 7 + k) + 2) (by omega), e (452 + 24 * w (12 + 68 * o + 7 + k) + 0) (by omega), e (452 + 24 * w (12 + 68 * o + 7 + i) + 2) (by omega), e (452 + 24 * w (12 + 68 * o + 7 + i) + 0) (by omega)]
  exact g.2.2.2 i a b
theorem GT.k {w w' : Row} (e : ∀ i, i = 0 ∨ i = 7 ∨ i = 8 ∨ i = 9 ∨ (12 ≤ i ∧ i < 420 ∧ 5 ≤ (i - 12) % 68 ∧ ¬ (i - 12) % 68 = 6) ∨ (452 ≤ i ∧ i < 1916 ∧ (i - 452) % 24 ≤ 4) → w' i = w i) (hn : GN w) (ho : GO w) (h : GT w) : GT w' := by
  intro t x y
  obtain ⟨n7, n8, n9, n10, n11, -⟩ := hn
  rw [e 9 (by omega)] at y
  have g := h t x y
  rw [e (452 + 24 * t + 0) (by omega), e (452 + 24 * t + 1) (by omega), e (452 + 24 * t + 2) (by omega), e (452 + 24 * t + 3) (by omega), e (452 + 24 * t + 4) (by omega), e 0 (by omega), e 7 (by omega), e 8 (by omega)]
  refine ⟨g.1, g.2.1, g.2.2.1, g.2.2.2.1, fun z => ?_, g.2.2.2.2.2⟩
  obtain ⟨g1, k, g2, g3, g4⟩ := g.2.2.2.2.1 z
  have hO := ho _ g.2.1.1 g.2.1.2
  exact ⟨g1, k, g2, by rw [e _ (by omega)]; exact g3, by rw [e _ (by omega)]; exact g4⟩
theorem GC.k {w w' : Row} (e : ∀ i, i = 0 ∨ i = 9 ∨ (452 ≤ i ∧ i < 1916 ∧ 3 ≤ (i - 452) % 24 ∧ ¬ (i - 452) % 24 = 7) → w' i = w i) (hn : GN w) (h : GC w) : GC w' := by
  intro t x y
  obtain ⟨n7, n8, n9, n10, n11, -⟩ := hn
  rw [e 9 (by omega)] at y
  have g := h t x y
  rw [e (452 + 24 * t + 5) (by omega), e (452 + 24 * t + 6) (by omega), e (452 + 24 * t + 3) (by omega), e (452 + 24 * t + 4) (by omega), e 0 (by omega)]
  exact ⟨g.1, g.2.1, g.2.2.1, g.2.2.2.1, fun p a b => by rw [e (452 + 24 * t + 8 + p) (by omega)]; exact g.2.2.2.2 p a b⟩
theorem perO_k {w w' : Row} (e : ∀ i, (1916 ≤ i ∧ i < 2916 ∧ (i - 1916) % 5 = 1) ∨ (452 ≤ i ∧ i < 1916 ∧ (i - 452) % 24 = 0) → w' i = w i) (h9 : 0 ≤ w 9 ∧ w 9 ≤ 60) (h10 : 0 ≤ w 10 ∧ w 10 ≤ 200) {k : Int} (h0 : 0 ≤ k) (h1 : k < w 10) (g : 0 ≤ w (1916 + 5 * k + 1) ∧ w (1916 + 5 * k + 1) < w 9) : perO w' k = perO w k := by
  unfold perO
  rw [e (1916 + 5 * k + 1) (by omega), e _ (by omega)]
theorem GK.k {w w' : Row} (e : ∀ i, i = 0 ∨ i = 8 ∨ i = 9 ∨ i = 10 ∨ (1916 ≤ i ∧ i < 2916) ∨ (452 ≤ i ∧ i < 1916 ∧ (i - 452) % 24 = 0) → w' i = w i) (hn : GN w) (h : GK w) : GK w' := by
  intro k x y
  rw [e 10 (by omega)] at y
  have g := h k x y
  obtain ⟨n7, n8, n9, n10, n11, -⟩ := id hn
  have p := perO_k (fun i hi => e i (by omega)) n9 n10 x y g.2.1
  rw [e (1916 + 5 * k + 0) (by omega), e (1916 + 5 * k + 1) (by omega), e (1916 + 5 * k + 2) (by omega), e (1916 + 5 * k + 3) (by omega), e (1916 + 5 * k + 4) (by omega), e 8 (by omega), e 9 (by omega), e 0 (by omega), p]
  refine ⟨g.1, g.2.1, g.2.2.1, g.2.2.2.1, g.2.2.2.2.1, fun i a b => ?_⟩
  rw [e (1916 + 5 * i + 2) (by omega), perO_k (fun i hi => e i (by omega)) n9 n10 a (by omega) (h i a (by omega)).2.1]
  exact g.2.2.2.2.2 i a b
theorem GK.k2 {w w' : Row} (e : ∀ i, i = 0 ∨ i = 8 ∨ i = 9 ∨ i = 10 ∨ (1916 ≤ i ∧ i < 2916 ∧ ¬ (i - 1916) % 5 = 0 ∧ ¬ (i - 1916) % 5 = 3) ∨ (452 ≤ i ∧ i < 1916 ∧ (i - 452) % 24 = 0) → w' i = w i) (hn : GN w) (hz : ∀ k, 0 ≤ k → k < w 10 → (0 ≤ w' (1916 + 5 * k + 0) ∧ w' (1916 + 5 * k + 0) < w 8) ∧ (0 ≤ w' (1916 + 5 * k + 3) ∧ w' (1916 + 5 * k + 3) ≤ 2)) (h : GK w) : GK w' := by
  intro k x y
  rw [e 10 (by omega)] at y
  have g := h k x y
  obtain ⟨n7, n8, n9, n10, n11, -⟩ := id hn
  have p := perO_k (fun i hi => e i (by omega)) n9 n10 x y g.2.1
  rw [e (1916 + 5 * k + 1) (by omega), e (1916 + 5 * k + 2) (by omega), e (1916 + 5 * k + 4) (by omega), e 8 (by omega), e 9 (by omega), e 0 (by omega), p]
  refine ⟨(hz k x y).1, g.2.1, g.2.2.1, (hz k x y).2, g.2.2.2.2.1, fun i a b => ?_⟩
  rw [e (1916 + 5 * i + 2) (by omega), perO_k (fun i hi => e i (by omega)) n9 n10 a (by omega) (h i a (by omega)).2.1]
  exact g.2.2.2.2.2 i a b
theorem GR.k {w w' : Row} (e : ∀ i, i = 10 ∨ i = 11 ∨ (1916 ≤ i ∧ i < 2916 ∧ (i - 1916) % 5 = 3) ∨ (2916 ≤ i ∧ i < 3116) → w' i = w i) (hn : GN w) (h : GR w) : GR w' := by
  obtain ⟨n7, n8, n9, n10, n11, -⟩ := hn
  refine ⟨?_, fun k x y => ?_⟩
  · rw [e 11 (by omega), e 10 (by omega), h.1]
    refine csum_congr (fun k a b => ?_)
    rw [e (1916 + 5 * k + 3) (by omega)]
  · rw [e 11 (by omega)] at y
    have g := h.2 k x y
    rw [e (2916 + k) (by omega), e 10 (by omega), e _ (by omega)]
    exact ⟨g.1, g.2.1, fun i a b => by rw [e (2916 + i) (by omega)]; exact g.2.2 i a b⟩
theorem RelA.k {s : Int} {d d' : mD} {w w' : Row} (hd : ∀ b, b = s ∨ b = s + 1 → d' b = d b) (e : ∀ i, 0 ≤ i ∧ i ≤ 6 → w' i = w i) (h : RelA s d w) : RelA s d' w' := by
  obtain ⟨a1, a2, a3⟩ := h
  refine ⟨by rw [hd s (Or.inl rfl), e 1 (by omega)]; exact a1, by rw [hd s (Or.inl rfl), e 0 (by omega)]; exact a2, fun k x y => by rw [hd (s + 1) (Or.inr rfl), e (2 + k) (by omega)]; exact a3 k x y⟩
theorem RelO.k {s : Int} {d d' : mD} {w w' : Row} (hd : ∀ b, s + 2 ≤ b → b ≤ s + 8 → d' b = d b) (e : ∀ i, i = 7 ∨ (12 ≤ i ∧ i < 420 ∧ (i - 12) % 68 ≤ 5) → w' i = w i) (h7 : 0 ≤ w 7 ∧ w 7 ≤ 6) (h : RelO s d w) : RelO s d' w' := by
  obtain ⟨o1, o2⟩ := h
  refine ⟨by rw [hd _ (by omega) (by omega), e 7 (by omega)]; exact o1, fun o x y => ?_⟩
  rw [e 7 (by omega)] at y
  rw [hd (s + 3) (by omega) (by omega), hd (s + 4) (by omega) (by omega), hd (s + 5) (by omega) (by omega), hd (s + 6) (by omega) (by omega), hd (s + 7) (by omega) (by omega), hd (s + 8) (by omega) (by omega), e (12 + 68 * o + 0) (by omega), e (12 + 68 * o + 1) (by omega), e (12 + 68 * o + 2) (by omega), e (12 + 68 * o + 3) (by omega), e (12 + 68 * o + 4) (by omega), e (12 + 68 * o + 5) (by omega)]
  exact o2 o x y
theorem RelQ.k {s : Int} {d d' : mD} {w w' : Row} (hd : d' (s + 9) = d (s + 9)) (e : ∀ i, i = 7 ∨ (12 ≤ i ∧ i < 420 ∧ 5 ≤ (i - 12) % 68 ∧ ¬ (i - 12) % 68 = 6) → w' i = w i) (h7 : 0 ≤ w 7 ∧ w 7 ≤ 6) (hO : GO w) (h : RelQ s d w) : RelQ s d' w' := by
  intro o x y k u v
  rw [e 7 (by omega)] at y
  have g := hO o x y
  rw [e (12 + 68 * o + 5) (by omega)] at v
  rw [hd, e (12 + 68 * o + 7 + k) (by omega)]
  exact h o x y k u v
theorem RelP.k {s : Int} {d d' : mD} {w w' : Row} (hd : ∀ b, s + 10 ≤ b → b ≤ s + 12 → d' b = d b) (e : ∀ i, i = 8 ∨ (420 ≤ i ∧ i < 452) → w' i = w i) (h8 : 0 ≤ w 8 ∧ w 8 ≤ 16) (h : RelP s d w) : RelP s d' w' := by
  obtain ⟨p1, p2⟩ := h
  refine ⟨by rw [hd _ (by omega) (by omega), e 8 (by omega)]; exact p1, fun p x y => ?_⟩
  rw [e 8 (by omega)] at y
  rw [hd (s + 11) (by omega) (by omega), hd (s + 12) (by omega) (by omega), e (420 + 2 * p + 0) (by omega), e (420 + 2 * p + 1) (by omega)]
  exact p2 p x y
theorem RelT.k {s : Int} {d d' : mD} {w w' : Row} (hd : ∀ b, s + 49 ≤ b → b ≤ s + 54 → d' b = d b) (e : ∀ i, i = 9 ∨ (452 ≤ i ∧ i < 1916 ∧ (i - 452) % 24 ≤ 4) → w' i = w i) (h9 : 0 ≤ w 9 ∧ w 9 ≤ 60) (h : RelT s d w) : RelT s d' w' := by
  obtain ⟨t1, t2⟩ := h
  refine ⟨by rw [hd _ (by omega) (by omega), e 9 (by omega)]; exact t1, fun t x y => ?_⟩
  rw [e 9 (by omega)] at y
  rw [hd (s + 50) (by omega) (by omega), hd (s + 51) (by omega) (by omega), hd (s + 52) (by omega) (by omega), hd (s + 53) (by omega) (by omega), hd (s + 54) (by omega) (by omega), e (452 + 24 * t + 0) (by omega), e (452 + 24 * t + 1) (by omega), e (452 + 24 * t + 2) (by omega), e (452 + 24 * t + 3) (by omega), e (452 + 24 * t + 4) (by omega)]
  exact t2 t x y
theorem RelC.k {s : Int} {d d' : mD} {w w' : Row} (hd : ∀ b, b = s + 55 ∨ b = s + 56 → d' b = d b) (e : ∀ i, i = 9 ∨ (452 ≤ i ∧ i < 1916 ∧ 5 ≤ (i - 452) % 24) → w' i = w i) (h9 : 0 ≤ w 9 ∧ w 9 ≤ 60) (h : RelC s d w) : RelC s d' w' := by
  intro t x y
  rw [e 9 (by omega)] at y
  obtain ⟨g1, g2, g3, g4⟩ := h t x y
  rw [hd (s + 55) (by omega), hd (s + 56) (by omega), e (452 + 24 * t + 5) (by omega), e (452 + 24 * t + 6) (by omega), e (452 + 24 * t + 7) (by omega)]
  refine ⟨g1, ?_, fun p u v => by rw [e (452 + 24 * t + 8 + p) (by omega)]; exact g3 p u v, g4⟩
  rw [g2]
  exact csum_congr (fun p u v => by rw [e (452 + 24 * t + 8 + p) (by omega)])
theorem RelK.k {s : Int} {d d' : mD} {w w' : Row} (hd0 : d' (s + 57) 0 = d (s + 57) 0) (hd : ∀ b, s + 58 ≤ b → b ≤ s + 61 → d' b = d b) (e : ∀ i, i = 10 ∨ (1916 ≤ i ∧ i < 2916 ∧ (i - 1916) % 5 ≤ 3) → w' i = w i) (h10 : 0 ≤ w 10 ∧ w 10 ≤ 200) (h : RelK s d w) : RelK s d' w' := by
  obtain ⟨k1, k2⟩ := h
  refine ⟨by rw [hd0, e 10 (by omega)]; exact k1, fun k x y => ?_⟩
  rw [e 10 (by omega)] at y
  rw [hd (s + 58) (by omega) (by omega), hd (s + 59) (by omega) (by omega), hd (s + 60) (by omega) (by omega), hd (s + 61) (by omega) (by omega), e (1916 + 5 * k + 0) (by omega), e (1916 + 5 * k + 1) (by omega), e (1916 + 5 * k + 2) (by omega), e (1916 + 5 * k + 3) (by omega)]
  exact k2 k x y
theorem RelR.k {s : Int} {d d' : mD} {w w' : Row} (hd5 : d' (s + 57) 5 = d (s + 57) 5) (hd : d' (s + 62) = d (s + 62)) (e : ∀ i, i = 11 ∨ (2916 ≤ i ∧ i < 3116) → w' i = w i) (h11 : 0 ≤ w 11 ∧ w 11 ≤ 200) (h : RelR s d w) : RelR s d' w' := by
  obtain ⟨r1, r2⟩ := h
  refine ⟨by rw [hd5, e 11 (by omega)]; exact r1, fun k x y => ?_⟩
  rw [e 11 (by omega)] at y
  rw [hd, e (2916 + k) (by omega)]
  exact r2 k x y
theorem ndB {t p : Int} (t0 : 0 ≤ t) (t1 : t < 60) (h0 : 0 ≤ p) (h1 : p < 16) : (452 + 24 * t + 8 + p) = 0 ∨ (452 + 24 * t + 8 + p) = 8 ∨ (452 + 24 * t + 8 + p) = 9 ∨ (452 + 24 * t + 8 + p) = 10 ∨ (452 ≤ (452 + 24 * t + 8 + p) ∧ (452 + 24 * t + 8 + p) < 1916 ∧ (((452 + 24 * t + 8 + p) - 452) % 24 = 0 ∨ 8 ≤ ((452 + 24 * t + 8 + p) - 452) % 24)) ∨ (1916 ≤ (452 + 24 * t + 8 + p) ∧ (452 + 24 * t + 8 + p) < 2916 ∧ (((452 + 24 * t + 8 + p) - 1916) % 5 = 1 ∨ ((452 + 24 * t + 8 + p) - 1916) % 5 = 4)) := Or.inr (Or.inr (Or.inr (Or.inr (Or.inl ⟨by omega, by omega, Or.inr (by omega)⟩))))
theorem madeR_k {w w' : Row} (e : ∀ i, i = 0 ∨ i = 8 ∨ i = 9 ∨ i = 10 ∨ (452 ≤ i ∧ i < 1916 ∧ ((i - 452) % 24 = 0 ∨ 8 ≤ (i - 452) % 24)) ∨ (1916 ≤ i ∧ i < 2916 ∧ ((i - 1916) % 5 = 1 ∨ (i - 1916) % 5 = 4)) → w' i = w i) (h9 : 0 ≤ w 9 ∧ w 9 ≤ 60) (h10 : 0 ≤ w 10 ∧ w 10 ≤ 200) (hK : ∀ k, 0 ≤ k → k < w 10 → 0 ≤ w (1916 + 5 * k + 1) ∧ w (1916 + 5 * k + 1) < w 9) (p : Int) : madeR w' p = madeR w p := by
  unfold madeR
  rw [e 10 (by omega)]
  refine csum_congr (fun k a b => ?_)
  rw [perO_k (fun i hi => e i (by omega)) h9 h10 a (by omega) (hK k a (by omega)), e (1916 + 5 * k + 4) (by omega), e 0 (by omega)]
theorem attR_k {w w' : Row} (e : ∀ i, i = 0 ∨ i = 8 ∨ i = 9 ∨ i = 10 ∨ (452 ≤ i ∧ i < 1916 ∧ ((i - 452) % 24 = 0 ∨ 8 ≤ (i - 452) % 24)) ∨ (1916 ≤ i ∧ i < 2916 ∧ ((i - 1916) % 5 = 1 ∨ (i - 1916) % 5 = 4)) → w' i = w i) (h9 : 0 ≤ w 9 ∧ w 9 ≤ 60) {p : Int} (h0 : 0 ≤ p) (h1 : p < 16) : attR w' p = attR w p := by
  unfold attR
  rw [e 9 (by omega)]
  refine csum_congr (fun t a b => ?_)
  rw [e (452 + 24 * t + 8 + p) (ndB (by omega) (by omega) (by omega) (by omega)), e 0 (by omega)]
theorem RelB.k {s : Int} {d d' : mD} {w w' : Row} (hd : ∀ b, s + 13 ≤ b → b ≤ s + 15 → d' b = d b) (e : ∀ i, i = 0 ∨ i = 8 ∨ i = 9 ∨ i = 10 ∨ (452 ≤ i ∧ i < 1916 ∧ ((i - 452) % 24 = 0 ∨ 8 ≤ (i - 452) % 24)) ∨ (1916 ≤ i ∧ i < 2916 ∧ ((i - 1916) % 5 = 1 ∨ (i - 1916) % 5 = 4)) → w' i = w i) (h8 : 0 ≤ w 8 ∧ w 8 ≤ 16) (h9 : 0 ≤ w 9 ∧ w 9 ≤ 60) (h10 : 0 ≤ w 10 ∧ w 10 ≤ 200) (hK : ∀ k, 0 ≤ k → k < w 10 → 0 ≤ w (1916 + 5 * k + 1) ∧ w (1916 + 5 * k + 1) < w 9) (h : RelB s d w) : RelB s d' w' := by
  intro p x y
  rw [e 8 (by omega)] at y
  obtain ⟨g1, g2, g3⟩ := h p x y
  rw [hd (s + 13) (by omega) (by omega), hd (s + 14) (by omega) (by omega), hd (s + 15) (by omega) (by omega)]
  refine ⟨by rw [madeR_k e h9 h10 hK]; exact g1, by rw [attR_k e h9 x (by omega)]; exact g2, fun q u v => (g3 q u v).trans ⟨?_, ?_⟩⟩
  · rintro ⟨t, z1, z2, z3, z4⟩
    refine ⟨t, z1, by rw [e 9 (by omega)]; exact z2, by rw [e (452 + 24 * t + 0) (by omega)]; exact z3, ?_⟩
    unfold attd at *
    rw [e (452 + 24 * t + 8 + p) (ndB (by omega) (by omega) (by omega) (by omega)), e 0 (by omega)]
    exact z4
  · rintro ⟨t, z1, z2, z3, z4⟩
    rw [e 9 (by omega)] at z2
    rw [e (452 + 24 * t + 0) (by omega)] at z3
    refine ⟨t, z1, z2, z3, ?_⟩
    unfold attd at *
    rw [e (452 + 24 * t + 8 + p) (ndB (by omega) (by omega) (by omega) (by omega)), e 0 (by omega)] at z4
    exact z4
theorem RelH.k {s : Int} {d d' : mD} {w w' : Row} (hd : ∀ b, s + 18 ≤ b → b ≤ s + 48 → d' b = d b) (e : ∀ i, i = 8 ∨ i = 10 ∨ (1916 ≤ i ∧ i < 2916 ∧ ((i - 1916) % 5 = 1 ∨ (i - 1916) % 5 = 2)) ∨ (452 ≤ i ∧ i < 1916 ∧ (i - 452) % 24 = 0) → w' i = w i) (h8 : 0 ≤ w 8 ∧ w 8 ≤ 16) (h9 : 0 ≤ w 9 ∧ w 9 ≤ 60) (h10 : 0 ≤ w 10 ∧ w 10 ≤ 200) (hK : ∀ k, 0 ≤ k → k < w 10 → 0 ≤ w (1916 + 5 * k + 1) ∧ w (1916 + 5 * k + 1) < w 9) (h : RelH s d w) : RelH s d' w' := by
  intro p x y h0 u v
  rw [e 8 (by omega)] at y
  rw [hd (s + 18 + 2 * p) (by omega) (by omega)]
  refine (h p x y h0 u v).trans ⟨?_, ?_⟩
  · rintro ⟨k, z1, z2, z3, z4⟩
    exact ⟨k, z1, by rw [e 10 (by omega)]; exact z2, by rw [e (1916 + 5 * k + 2) (by omega)]; exact z3, by rw [perO_k (fun i hi => e i (by omega)) h9 h10 z1 z2 (hK k z1 z2)]; exact z4⟩
  · rintro ⟨k, z1, z2, z3, z4⟩
    rw [e 10 (by omega)] at z2
    rw [e (1916 + 5 * k + 2) (by omega)] at z3
    rw [perO_k (fun i hi => e i (by omega)) h9 h10 z1 z2 (hK k z1 z2)] at z4
    exact ⟨k, z1, z2, z3, z4⟩
theorem GK.of {w : Row} (h : GK w) : ∀ k, 0 ≤ k → k < w 10 → 0 ≤ w (1916 + 5 * k + 1) ∧ w (1916 + 5 * k + 1) < w 9 := fun k a b => (h k a b).2.1
theorem csum_upd {f g : Int → Int} {n : Nat} {k : Int} (h0 : 0 ≤ k) (h1 : k < (n : Int)) (h : ∀ i : Int, 0 ≤ i → i < (n : Int) → ¬ i = k → f i = g i) : csum f n = csum g n + (f k - g k) := by
  induction n with
  | zero => omega
  | succ n ih =>
    show csum f n + f (n : Int) = csum g n + g (n : Int) + (f k - g k)
    by_cases hk : k = (n : Int)
    · rw [csum_congr (n := n) (f := f) (g := g) (fun i a b => h i a (by omega) (by omega)), hk]
      omega
    · rw [ih (by omega) (fun i a b c => h i a (by omega) c), h (n : Int) (by omega) (by omega) (by omega)]
      omega
