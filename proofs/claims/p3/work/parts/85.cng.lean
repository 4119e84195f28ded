/-! ===== rows that are the same as far as they are looked at ===== -/
def REq (w w' : Row) : Prop := ∀ i, 0 ≤ i → i < 3116 → w' i = w i
theorem GN.row {w w' : Row} (e : REq w w') (h : GN w) : GN w' := by
  unfold GN at *
  rw [e 0 (by decide) (by decide), e 1 (by decide) (by decide), e 2 (by decide) (by decide), e 3 (by decide) (by decide), e 4 (by decide) (by decide), e 5 (by decide) (by decide), e 6 (by decide) (by decide), e 7 (by decide) (by decide), e 8 (by decide) (by decide), e 9 (by decide) (by decide), e 10 (by decide) (by decide), e 11 (by decide) (by decide)]
  exact h
theorem GO.row {w w' : Row} (e : REq w w') (hn : GN w) (h : GO w) : GO w' := by
  intro o x y
  obtain ⟨n7, n8, n9, n10, n11, -⟩ := hn
  rw [e 7 (by decide) (by decide)] at y
  have g := h o x y
  rw [e (12 + 68 * o + 1) (by omega) (by omega), e (12 + 68 * o + 2) (by omega) (by omega), e (12 + 68 * o + 3) (by omega) (by omega), e (12 + 68 * o + 4) (by omega) (by omega), e (12 + 68 * o + 5) (by omega) (by omega), e (12 + 68 * o + 6) (by omega) (by omega), e 9 (by decide) (by decide),
    csum_congr (f := fun t => if w' (452 + 24 * t + 4) = 1 ∧ w' (452 + 24 * t + 1) = o then 1 else 0) (g := fun t => if w (452 + 24 * t + 4) = 1 ∧ w (452 + 24 * t + 1) = o then 1 else 0) (fun t a b => by
      show (if w' (452 + 24 * t + 4) = 1 ∧ w' (452 + 24 * t + 1) = o then (1 : Int) else 0) = if w (452 + 24 * t + 4) = 1 ∧ w (452 + 24 * t + 1) = o then 1 else 0
      rw [e (452 + 24 * t + 4) (by omega) (by omega), e (452 + 24 * t + 1) (by omega) (by omega)])]
  exact g
theorem GQ.row {w w' : Row} (e : REq w w') (hn : GN w) (ho : GO w) (h : GQ w) : GQ w' := by
  intro o x y k u v
  obtain ⟨n7, n8, n9, n10, n11, -⟩ := hn
  rw [e 7 (by decide) (by decide)] at y
  have hO := ho o x y
  rw [e (12 + 68 * o + 5) (by omega) (by omega)] at v
  have g := h o x y k u v
  rw [e (12 + 68 * o + 7 + k) (by omega) (by omega), e 9 (by decide) (by decide), e (452 + 24 * w (12 + 68 * o + 7 + k) + 1) (by omega) (by omega), e (452 + 24 * w (12 + 68 * o + 7 + k) + 4) (by omega) (by omega)]
  refine ⟨g.1, g.2.1, g.2.2.1, fun i a b => ?_⟩
  have gi := h o x y i a (by omega)
  rw [e (12 + 68 * o + 7 + i) (by omega) (by omega), e (452 + 24 * w (12 + 68 * o + 7 + k) + 2) (by omega) (by omega), e (452 + 24 * w (12 + 68 * o + 7 + k) + 0) (by omega) (by omega), e (452 + 24 * w (12 + 68 * o + 7 + i) + 2) (by omega) (by omega), e (452 + 24 * w (12 + 68 * o + 7 + i) + 0) (by omega) (by omega)]
  exact g.2.2.2 i a b
theorem GT.row {w w' : Row} (e : REq w w') (hn : GN w) (ho : GO w) (h : GT w) : GT w' := by
  intro t x y
  obtain ⟨n7, n8, n9, n10, n11, -⟩ := hn
  rw [e 9 (by decide) (by decide)] at y
  have g := h t x y
  rw [e (452 + 24 * t + 0) (by omega) (by omega), e (452 + 24 * t + 1) (by omega) (by omega), e (452 + 24 * t + 2) (by omega) (by omega), e (452 + 24 * t + 3) (by omega) (by omega), e (452 + 24 * t + 4) (by omega) (by omega), e 0 (by decide) (by decide), e 7 (by decide) (by decide), e 8 (by decide) (by decide)]
  refine ⟨g.1, g.2.1, g.2.2.1, g.2.2.2.1, fun z => ?_, g.2.2.2.2.2⟩
  obtain ⟨g1, k, g2, g3, g4⟩ := g.2.2.2.2.1 z
  have hO := ho _ g.2.1.1 g.2.1.2
  exact ⟨g1, k, g2, by rw [e _ (by omega) (by omega)]; exact g3, by rw [e _ (by omega) (by omega)]; exact g4⟩
theorem GC.row {w w' : Row} (e : REq w w') (hn : GN w) (h : GC w) : GC w' := by
  intro t x y
  obtain ⟨n7, n8, n9, n10, n11, -⟩ := hn
  rw [e 9 (by decide) (by decide)] at y
  have g := h t x y
  rw [e (452 + 24 * t + 5) (by omega) (by omega), e (452 + 24 * t + 6) (by omega) (by omega), e (452 + 24 * t + 3) (by omega) (by omega), e (452 + 24 * t + 4) (by omega) (by omega), e 0 (by decide) (by decide)]
  exact ⟨g.1, g.2.1, g.2.2.1, g.2.2.2.1, fun p a b => by rw [e (452 + 24 * t + 8 + p) (by omega) (by omega)]; exact g.2.2.2.2 p a b⟩
theorem perO_row {w w' : Row} (e : REq w w') (hn : GN w) (hk : GK w) {k : Int} (h0 : 0 ≤ k) (h1 : k < w 10) : perO w' k = perO w k := by
  have g := hk k h0 h1
  obtain ⟨n7, n8, n9, n10, n11, -⟩ := hn
  unfold perO
  rw [e (1916 + 5 * k + 1) (by omega) (by omega), e _ (by omega) (by omega)]
theorem GK.row {w w' : Row} (e : REq w w') (hn : GN w) (h : GK w) : GK w' := by
  intro k x y
  rw [e 10 (by decide) (by decide)] at y
  have g := h k x y
  have p := perO_row e hn h x y
  obtain ⟨n7, n8, n9, n10, n11, -⟩ := id hn
  rw [e (1916 + 5 * k + 0) (by omega) (by omega), e (1916 + 5 * k + 1) (by omega) (by omega), e (1916 + 5 * k + 2) (by omega) (by omega), e (1916 + 5 * k + 3) (by omega) (by omega), e (1916 + 5 * k + 4) (by omega) (by omega), e 8 (by decide) (by decide), e 9 (by decide) (by decide), e 0 (by decide) (by decide), p]
  refine ⟨g.1, g.2.1, g.2.2.1, g.2.2.2.1, g.2.2.2.2.1, fun i a b => ?_⟩
  rw [e (1916 + 5 * i + 2) (by omega) (by omega), perO_row e hn h a (by omega)]
  exact g.2.2.2.2.2 i a b
theorem GR.row {w w' : Row} (e : REq w w') (hn : GN w) (h : GR w) : GR w' := by
  obtain ⟨n7, n8, n9, n10, n11, -⟩ := hn
  refine ⟨?_, fun k x y => ?_⟩
  · rw [e 11 (by decide) (by decide), e 10 (by decide) (by decide), h.1]
    refine csum_congr (fun k a b => ?_)
    rw [e (1916 + 5 * k + 3) (by omega) (by omega)]
  · rw [e 11 (by decide) (by decide)] at y
    have g := h.2 k x y
    rw [e (2916 + k) (by omega) (by omega), e 10 (by decide) (by decide), e _ (by omega) (by omega)]
    exact ⟨g.1, g.2.1, fun i a b => by rw [e (2916 + i) (by omega) (by omega)]; exact g.2.2 i a b⟩
theorem GG.row {w w' : Row} (e : REq w w') (h : GG w) : GG w' := by
  obtain ⟨a, b, c, d, f, g, k⟩ := h
  exact ⟨a.row e, b.row e a, c.row e a b, d.row e a b, f.row e a, g.row e a, k.row e a⟩
theorem madeR_row {w w' : Row} (e : REq w w') (hn : GN w) (hk : GK w) (p : Int) : madeR w' p = madeR w p := by
  unfold madeR
  rw [e 10 (by decide) (by decide)]
  refine csum_congr (fun k a b => ?_)
  have n10 := hn.2.2.2.1
  rw [perO_row e hn hk a (by omega), e (1916 + 5 * k + 4) (by omega) (by omega), e 0 (by decide) (by decide)]
theorem attR_row {w w' : Row} (e : REq w w') (hn : GN w) {p : Int} (h0 : 0 ≤ p) (h1 : p < 16) : attR w' p = attR w p := by
  unfold attR
  rw [e 9 (by decide) (by decide)]
  refine csum_congr (fun t a b => ?_)
  have n9 := hn.2.2.1
  rw [e (452 + 24 * t + 8 + p) (by omega) (by omega), e 0 (by decide) (by decide)]
theorem Rel.row {s : Int} {d : mD} {w w' : Row} (e : REq w w') (hg : GG w) (h : Rel s d w) : Rel s d w' := by
  obtain ⟨hN, hO, hQ, hT, hCC, hK, hR⟩ := hg
  obtain ⟨n7, n8, n9, n10, n11, -⟩ := id hN
  obtain ⟨⟨a1, a2, a3⟩, ⟨o1, o2⟩, hq, ⟨p1, p2⟩, ⟨t1, t2⟩, hC, ⟨k1, k2⟩, ⟨r1, r2⟩, hB, hH⟩ := h
  have e0 := e 0 (by decide) (by decide)
  have e7 := e 7 (by decide) (by decide)
  have e8 := e 8 (by decide) (by decide)
  have e9 := e 9 (by decide) (by decide)
  have e10 := e 10 (by decide) (by decide)
  have e11 := e 11 (by decide) (by decide)
  refine ⟨⟨by rw [e 1 (by decide) (by decide)]; exact a1, by rw [e0]; exact a2, fun k x y => by rw [e (2 + k) (by omega) (by omega)]; exact a3 k x y⟩, ⟨by rw [e7]; exact o1, fun o x y => ?_⟩, fun o x y k u v => ?_, ⟨by rw [e8]; exact p1, fun p x y => ?_⟩, ⟨by rw [e9]; exact t1, fun t x y => ?_⟩, fun t x y => ?_, ⟨by rw [e10]; exact k1, fun k x y => ?_⟩, ⟨by rw [e11]; exact r1, fun k x y => ?_⟩, fun p x y => ?_, fun p x y h0 u v => ?_⟩
  · rw [e7] at y
    rw [e (12 + 68 * o + 0) (by omega) (by omega), e (12 + 68 * o + 1) (by omega) (by omega), e (12 + 68 * o + 2) (by omega) (by omega), e (12 + 68 * o + 3) (by omega) (by omega), e (12 + 68 * o + 4) (by omega) (by omega), e (12 + 68 * o + 5) (by omega) (by omega)]
    exact o2 o x y
  · rw [e7] at y
    have g := hO o x y
    rw [e (12 + 68 * o + 5) (by omega) (by omega)] at v
    rw [e (12 + 68 * o + 7 + k) (by omega) (by omega)]
    exact hq o x y k u v
  · rw [e8] at y
    rw [e (420 + 2 * p + 0) (by omega) (by omega), e (420 + 2 * p + 1) (by omega) (by omega)]
    exact p2 p x y
  · rw [e9] at y
    rw [e (452 + 24 * t + 0) (by omega) (by omega), e (452 + 24 * t + 1) (by omega) (by omega), e (452 + 24 * t + 2) (by omega) (by omega), e (452 + 24 * t + 3) (by omega) (by omega), e (452 + 24 * t + 4) (by omega) (by omega)]
    exact t2 t x y
  · rw [e9] at y
    obtain ⟨g1, g2, g3, g4⟩ := hC t x y
    rw [e (452 + 24 * t + 5) (by omega) (by omega), e (452 + 24 * t + 6) (by omega) (by omega), e (452 + 24 * t + 7) (by omega) (by omega)]
    refine ⟨g1, ?_, fun p u v => by rw [e (452 + 24 * t + 8 + p) (by omega) (by omega)]; exact g3 p u v, g4⟩
    rw [g2]
    exact csum_congr (fun p u v => by rw [e (452 + 24 * t + 8 + p) (by omega) (by omega)])
  · rw [e10] at y
    rw [e (1916 + 5 * k + 0) (by omega) (by omega), e (1916 + 5 * k + 1) (by omega) (by omega), e (1916 + 5 * k + 2) (by omega) (by omega), e (1916 + 5 * k + 3) (by omega) (by omega)]
    exact k2 k x y
  · rw [e11] at y
    rw [e (2916 + k) (by omega) (by omega)]
    exact r2 k x y
  · rw [e8] at y
    obtain ⟨g1, g2, g3⟩ := hB p x y
    refine ⟨by rw [madeR_row e hN hK]; exact g1, by rw [attR_row e hN x (by omega)]; exact g2, fun q u v => (g3 q u v).trans ⟨?_, ?_⟩⟩
    · rintro ⟨t, z1, z2, z3, z4⟩
      refine ⟨t, z1, by rw [e9]; exact z2, by rw [e (452 + 24 * t + 0) (by omega) (by omega)]; exact z3, ?_⟩
      unfold attd at *
      rw [e (452 + 24 * t + 8 + p) (by omega) (by omega), e0]
      exact z4
    · rintro ⟨t, z1, z2, z3, z4⟩
      rw [e9] at z2
      rw [e (452 + 24 * t + 0) (by omega) (by omega)] at z3
      refine ⟨t, z1, z2, z3, ?_⟩
      unfold attd at *
      rw [e (452 + 24 * t + 8 + p) (by omega) (by omega), e0] at z4
      exact z4
  · rw [e8] at y
    refine (hH p x y h0 u v).trans ⟨?_, ?_⟩
    · rintro ⟨k, z1, z2, z3, z4⟩
      exact ⟨k, z1, by rw [e10]; exact z2, by rw [e (1916 + 5 * k + 2) (by omega) (by omega)]; exact z3, by rw [perO_row e hN hK z1 z2]; exact z4⟩
    · rintro ⟨k, z1, z2, z3, z4⟩
      rw [e10] at z2
      rw [e (1916 + 5 * k + 2) (by omega) (by omega)] at z3
      rw [perO_row e hN hK z1 z2] at z4
      exact ⟨k, z1, z2, z3, z4⟩
