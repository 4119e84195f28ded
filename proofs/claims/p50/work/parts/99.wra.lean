/-! ===== World (at b in the memory d) beside a row of the reference ===== -/
-- its numbers are small; what is true or false is 0 or 1
def WB (b : Int) (d : mD) : Prop := SW b d ∧ (∀ i, 0 ≤ i → i < 6 → d (b + 8) i = 0 ∨ d (b + 8) i = 1) ∧ (∀ i, 0 ≤ i → i < 61 → (d (b + 16) i = 0 ∨ d (b + 16) i = 1) ∧ (d (b + 17) i = 0 ∨ d (b + 17) i = 1))
def WA (b : Int) (d : mD) (w : Row) : Prop := d b 0 = w 0 ∧ d b 1 = w 1 ∧ d b 2 = w 7 ∧ d b 3 = w 8 ∧ d b 4 = w 9 ∧ d b 5 = w 10 ∧ ∀ k, 0 ≤ k → k < 5 → d (b + 1) k = w (2 + k)
def WO (b : Int) (d : mD) (w : Row) : Prop := ∀ o, 0 ≤ o → o < w 7 → d (b + 2) o = w (12 + 68 * o + 1) ∧ d (b + 3) o = w (12 + 68 * o + 2) ∧ d (b + 4) o = w (12 + 68 * o + 3) ∧ d (b + 8) o = w (12 + 68 * o + 4) ∧ d (b + 5) o = w (12 + 68 * o + 5) ∧ d (b + 6) o = w (12 + 68 * o + 6)
def WQ (b : Int) (d : mD) (w : Row) : Prop := ∀ o, 0 ≤ o → o < w 7 → ∀ k, 0 ≤ k → k < w (12 + 68 * o + 5) → d (b + 9) (61 * o + k) = w (12 + 68 * o + 7 + k)
def WP (b : Int) (d : mD) (w : Row) : Prop := ∀ p, 0 ≤ p → p < 16 → d (b + 7) p = if p < w 8 then w (420 + 2 * p + 1) else 0
def WT1 (b : Int) (d : mD) (w : Row) : Prop := ∀ t, 0 ≤ t → t < w 9 → d (b + 10) t = w (452 + 24 * t + 0) ∧ d (b + 11) t = w (452 + 24 * t + 1) ∧ d (b + 12) t = w (452 + 24 * t + 2) ∧ d (b + 13) t = w (452 + 24 * t + 3) ∧ d (b + 14) t = w (452 + 24 * t + 4)
def WT2 (b : Int) (d : mD) (w : Row) : Prop := ∀ t, 0 ≤ t → t < w 9 → d (b + 16) t = w (452 + 24 * t + 5) ∧ d (b + 17) t = w (452 + 24 * t + 6) ∧ d (b + 15) t = w (452 + 24 * t + 7)
def WK (b : Int) (d : mD) (w : Row) : Prop := ∀ k, 0 ≤ k → k < w 10 → d (b + 19) k = w (1916 + 5 * k + 0) ∧ d (b + 20) k = w (1916 + 5 * k + 1) ∧ d (b + 21) k = w (1916 + 5 * k + 2) ∧ d (b + 22) k = w (1916 + 5 * k + 3) ∧ d (b + 23) k = w (1916 + 5 * k + 4) / 20
def WS (m b : Int) (d : mD) (w : Row) : Prop := d b 6 = w 11 + m ∧ ∀ k, 0 ≤ k → k < w 11 → d (b + 24) (m + k) = w (2916 + k)
def WH (b : Int) (d : mD) (w : Row) : Prop := ∀ p h, 0 ≤ p → p < 16 → 0 ≤ h → h < 1300 → (d (b + 18) (1300 * p + h) = 0 ∨ d (b + 18) (1300 * p + h) = 1) ∧ (¬ d (b + 18) (1300 * p + h) = 0 ↔ ∃ k, 0 ≤ k ∧ k < w 10 ∧ w (1916 + 5 * k + 2) = h ∧ perO w k = p)
def WD (b : Int) (d : mD) (w : Row) : Prop := (0 ≤ d b 7 ∧ d b 7 ≤ 190) ∧ (∀ k, 0 ≤ k → k < d b 7 → (0 ≤ d (b + 25) k ∧ d (b + 25) k < w 9) ∧ (0 ≤ d (b + 26) k ∧ d (b + 26) k < 16) ∧ ¬ w (452 + 24 * d (b + 25) k + 8 + d (b + 26) k) = 0 ∧ d (b + 27) k = (w (452 + 24 * d (b + 25) k + 8 + d (b + 26) k) - 1) / 20 ∧ ∀ i, 0 ≤ i → i < k → ¬ (d (b + 25) i = d (b + 25) k ∧ d (b + 26) i = d (b + 26) k))
  ∧ ∀ t p, 0 ≤ t → t < w 9 → 0 ≤ p → p < 16 → ¬ w (452 + 24 * t + 8 + p) = 0 → ∃ k, 0 ≤ k ∧ k < d b 7 ∧ d (b + 25) k = t ∧ d (b + 26) k = p
-- m offered tokens are paid already
def WM (m b : Int) (d : mD) (w : Row) : Prop := WB b d ∧ WA b d w ∧ WO b d w ∧ WQ b d w ∧ WP b d w ∧ WT1 b d w ∧ WT2 b d w ∧ WK b d w ∧ WS m b d w ∧ WH b d w ∧ WD b d w
def WR (b : Int) (d : mD) (w : Row) : Prop := WM 0 b d w
-- what stays
def WF0 (b : Int) (d d' : mD) : Prop := ∀ c, c < b ∨ b + 27 < c → d' c = d c
-- .. and the deeds, too
def WF (b : Int) (d d' : mD) : Prop := WF0 b d d' ∧ d' b 7 = d b 7
theorem WF0.trans {b : Int} {d d1 d2 : mD} (h : WF0 b d d1) (g : WF0 b d1 d2) : WF0 b d d2 := fun c hc => (g c hc).trans (h c hc)
theorem WF.refl {b : Int} {d : mD} : WF b d d := ⟨fun _ _ => rfl, rfl⟩
theorem WF.trans {b : Int} {d d1 d2 : mD} (h : WF b d d1) (g : WF b d1 d2) : WF b d d2 := ⟨h.1.trans g.1, g.2.trans h.2⟩
theorem WF.set {b a i v : Int} {d : mD} (h1 : b ≤ a) (h2 : a ≤ b + 27) (h3 : ¬ (a = b ∧ i = 7)) : WF b d (mset d a i v) := ⟨fun c hc => by
  funext j
  exact ms_a (by omega), by
  unfold mset
  rw [if_neg (by omega)]⟩
theorem WF.st {b a i v : Int} {d d1 : mD} (h : WF b d d1) (h1 : b ≤ a) (h2 : a ≤ b + 27) (h3 : ¬ (a = b ∧ i = 7)) : WF b d (mset d1 a i v) := h.trans (WF.set h1 h2 h3)
theorem WF.cp {b x sp y dp n : Int} {d d1 : mD} (h : WF b d d1) (h1 : b < y) (h2 : y ≤ b + 27) : WF b d (mcopy d1 x sp y dp n) := h.trans ⟨fun c hc => by
  funext j
  exact mc_n (by omega), mc_n (by omega)⟩
theorem SW.cp {b x sp y dp n : Int} {d : mD} (h : SW b d) (hx : b ≤ x ∧ x ≤ b + 27) : SW b (mcopy d x sp y dp n) := by
  intro c j h1 h2
  unfold mcopy
  split
  · exact h _ _ hx.1 hx.2
  · exact h c j h1 h2
-- a write that is no truth
theorem WB.st {b a i v : Int} {d : mD} (h : WB b d) (hv : -1000000 ≤ v ∧ v ≤ 1000000) (h8 : ¬ a = b + 8) (h6 : ¬ a = b + 16) (h7 : ¬ a = b + 17) : WB b (mset d a i v) := by
  obtain ⟨s, t, u⟩ := h
  refine ⟨s.set hv, fun j x y => ?_, fun j x y => ?_⟩
  · rw [ms_a (by omega)]
    exact t j x y
  · rw [ms_a (by omega), ms_a (by omega)]
    exact u j x y
theorem WB.st8 {b a i v : Int} {d : mD} (h : WB b d) (hv : v = 0 ∨ v = 1) (ha : a = b + 8 ∨ a = b + 16 ∨ a = b + 17) : WB b (mset d a i v) := by
  obtain ⟨s, t, u⟩ := h
  have f : ∀ c j, (d c j = 0 ∨ d c j = 1) → (mset d a i v c j = 0 ∨ mset d a i v c j = 1) := fun c j h => by
    unfold mset
    split
    · exact hv
    · exact h
  exact ⟨s.set (by omega), fun j x y => f _ _ (t j x y), fun j x y => ⟨f _ _ (u j x y).1, f _ _ (u j x y).2⟩⟩
theorem WB.cp {b x sp y dp n : Int} {d : mD} (h : WB b d) (hx : b ≤ x ∧ x ≤ b + 27) (h8 : ¬ y = b + 8) (h6 : ¬ y = b + 16) (h7 : ¬ y = b + 17) : WB b (mcopy d x sp y dp n) := by
  obtain ⟨s, t, u⟩ := h
  refine ⟨s.cp hx, fun j x y => ?_, fun j x y => ?_⟩
  · rw [mc_n (by omega)]
    exact t j x y
  · rw [mc_n (by omega), mc_n (by omega)]
    exact u j x y
-- what each piece looks at
theorem WB.k {b : Int} {d d' : mD} (hd : ∀ c, b ≤ c → c ≤ b + 27 → d' c = d c) (h : WB b d) : WB b d' := by
  obtain ⟨s, t, u⟩ := h
  refine ⟨fun c i x y => by rw [hd c x y]; exact s c i x y, fun i x y => by rw [hd _ (by omega) (by omega)]; exact t i x y, fun i x y => by rw [hd (b + 16) (by omega) (by omega), hd (b + 17) (by omega) (by omega)]; exact u i x y⟩
theorem WA.k {b : Int} {d d' : mD} {w w' : Row} (h0 : ∀ j, 0 ≤ j → j ≤ 5 → d' b j = d b j) (h1 : d' (b + 1) = d (b + 1)) (e : ∀ i, 0 ≤ i ∧ i ≤ 10 → w' i = w i) (h : WA b d w) : WA b d' w' := by
  obtain ⟨a0, a1, a2, a3, a4, a5, a6⟩ := h
  refine ⟨by rw [h0 0 (by decide) (by decide), e 0 (by decide)]; exact a0, by rw [h0 1 (by decide) (by decide), e 1 (by decide)]; exact a1, by rw [h0 2 (by decide) (by decide), e 7 (by decide)]; exact a2, by rw [h0 3 (by decide) (by decide), e 8 (by decide)]; exact a3, by rw [h0 4 (by decide) (by decide), e 9 (by decide)]; exact a4, by rw [h0 5 (by decide) (by decide), e 10 (by decide)]; exact a5, fun k x y => by rw [h1, e (2 + k) (by omega)]; exact a6 k x y⟩
theorem WO.k {b : Int} {d d' : mD} {w w' : Row} (hd : ∀ c, b + 2 ≤ c → c ≤ b + 8 → ¬ c = b + 7 → d' c = d c) (e : ∀ i, i = 7 ∨ (12 ≤ i ∧ i < 420 ∧ 1 ≤ (i - 12) % 68 ∧ (i - 12) % 68 ≤ 6) → w' i = w i) (h7 : 0 ≤ w 7 ∧ w 7 ≤ 6) (h : WO b d w) : WO b d' w' := by
  intro o x y
  rw [e 7 (by omega)] at y
  rw [hd (b + 2) (by omega) (by omega) (by omega), hd (b + 3) (by omega) (by omega) (by omega), hd (b + 4) (by omega) (by omega) (by omega), hd (b + 8) (by omega) (by omega) (by omega), hd (b + 5) (by omega) (by omega) (by omega), hd (b + 6) (by omega) (by omega) (by omega), e (12 + 68 * o + 1) (by omega), e (12 + 68 * o + 2) (by omega), e (12 + 68 * o + 3) (by omega), e (12 + 68 * o + 4) (by omega), e (12 + 68 * o + 5) (by omega), e (12 + 68 * o + 6) (by omega)]
  exact h o x y
theorem WQ.k {b : Int} {d d' : mD} {w w' : Row} (hd : d' (b + 9) = d (b + 9)) (e : ∀ i, i = 7 ∨ (12 ≤ i ∧ i < 420 ∧ 5 ≤ (i - 12) % 68 ∧ ¬ (i - 12) % 68 = 6) → w' i = w i) (h7 : 0 ≤ w 7 ∧ w 7 ≤ 6) (hO : GO w) (h : WQ b d w) : WQ b d' w' := by
  intro o x y k u v
  rw [e 7 (by omega)] at y
  have g := (hO o x y).2.2.2.2.1
  rw [e (12 + 68 * o + 5) (by omega)] at v
  rw [hd, e (12 + 68 * o + 7 + k) (by omega)]
  exact h o x y k u v
theorem WP.k {b : Int} {d d' : mD} {w w' : Row} (hd : d' (b + 7) = d (b + 7)) (e : ∀ i, i = 8 ∨ (420 ≤ i ∧ i < 452) → w' i = w i) (h : WP b d w) : WP b d' w' := by
  intro p x y
  rw [hd, e 8 (by omega), e (420 + 2 * p + 1) (by omega)]
  exact h p x y
theorem WT1.k {b : Int} {d d' : mD} {w w' : Row} (hd : ∀ c, b + 10 ≤ c → c ≤ b + 14 → d' c = d c) (e : ∀ i, i = 9 ∨ (452 ≤ i ∧ i < 1916 ∧ (i - 452) % 24 ≤ 4) → w' i = w i) (h9 : 0 ≤ w 9 ∧ w 9 ≤ 60) (h : WT1 b d w) : WT1 b d' w' := by
  intro t x y
  rw [e 9 (by omega)] at y
  rw [hd (b + 10) (by omega) (by omega), hd (b + 11) (by omega) (by omega), hd (b + 12) (by omega) (by omega), hd (b + 13) (by omega) (by omega), hd (b + 14) (by omega) (by omega), e (452 + 24 * t + 0) (by omega), e (452 + 24 * t + 1) (by omega), e (452 + 24 * t + 2) (by omega), e (452 + 24 * t + 3) (by omega), e (452 + 24 * t + 4) (by omega)]
  exact h t x y
theorem WT2.k {b : Int} {d d' : mD} {w w' : Row} (hd : ∀ c, b + 15 ≤ c → c ≤ b + 17 → d' c = d c) (e : ∀ i, i = 9 ∨ (452 ≤ i ∧ i < 1916 ∧ 5 ≤ (i - 452) % 24 ∧ (i - 452) % 24 ≤ 7) → w' i = w i) (h9 : 0 ≤ w 9 ∧ w 9 ≤ 60) (h : WT2 b d w) : WT2 b d' w' := by
  intro t x y
  rw [e 9 (by omega)] at y
  rw [hd (b + 16) (by omega) (by omega), hd (b + 17) (by omega) (by omega), hd (b + 15) (by omega) (by omega), e (452 + 24 * t + 5) (by omega), e (452 + 24 * t + 6) (by omega), e (452 + 24 * t + 7) (by omega)]
  exact h t x y
theorem WK.k {b : Int} {d d' : mD} {w w' : Row} (hd : ∀ c, b + 19 ≤ c → c ≤ b + 23 → d' c = d c) (e : ∀ i, i = 10 ∨ (1916 ≤ i ∧ i < 2916) → w' i = w i) (h10 : 0 ≤ w 10 ∧ w 10 ≤ 200) (h : WK b d w) : WK b d' w' := by
  intro k x y
  rw [e 10 (by omega)] at y
  rw [hd (b + 19) (by omega) (by omega), hd (b + 20) (by omega) (by omega), hd (b + 21) (by omega) (by omega), hd (b + 22) (by omega) (by omega), hd (b + 23) (by omega) (by omega), e (1916 + 5 * k + 0) (by omega), e (1916 + 5 * k + 1) (by omega), e (1916 + 5 * k + 2) (by omega), e (1916 + 5 * k + 3) (by omega), e (1916 + 5 * k + 4) (by omega)]
  exact h k x y
theorem WS.k {m b : Int} {d d' : mD} {w w' : Row} (h6 : d' b 6 = d b 6) (hd : d' (b + 24) = d (b + 24)) (e : ∀ i, i = 11 ∨ (2916 ≤ i ∧ i < 3116) → w' i = w i) (h11 : 0 ≤ w 11 ∧ w 11 ≤ 200) (h : WS m b d w) : WS m b d' w' := by
  refine ⟨by rw [h6, e 11 (by omega)]; exact h.1, fun k x y => ?_⟩
  rw [e 11 (by omega)] at y
  rw [hd, e (2916 + k) (by omega)]
  exact h.2 k x y
theorem WH.k {b : Int} {d d' : mD} {w w' : Row} (hd : d' (b + 18) = d (b + 18)) (e : ∀ i, i = 10 ∨ (1916 ≤ i ∧ i < 2916 ∧ ((i - 1916) % 5 = 1 ∨ (i - 1916) % 5 = 2)) ∨ (452 ≤ i ∧ i < 1916 ∧ (i - 452) % 24 = 0) → w' i = w i) (h9 : 0 ≤ w 9 ∧ w 9 ≤ 60) (h10 : 0 ≤ w 10 ∧ w 10 ≤ 200) (hK : ∀ k, 0 ≤ k → k < w 10 → 0 ≤ w (1916 + 5 * k + 1) ∧ w (1916 + 5 * k + 1) < w 9) (h : WH b d w) : WH b d' w' := by
  intro p q x y u v
  obtain ⟨g1, g2⟩ := h p q x y u v
  rw [hd]
  refine ⟨g1, g2.trans ⟨fun ⟨k, k0, k1, k2, k3⟩ => ⟨k, k0, by rw [e 10 (by omega)]; exact k1, by rw [e (1916 + 5 * k + 2) (by omega)]; exact k2, ?_⟩, fun ⟨k, k0, k1, k2, k3⟩ => ?_⟩⟩
  · rw [perO_k (fun i hi => e i (by omega)) h9 h10 k0 k1 (hK k k0 k1)]
    exact k3
  · rw [e 10 (by omega)] at k1
    rw [e (1916 + 5 * k + 2) (by omega)] at k2
    rw [perO_k (fun i hi => e i (by omega)) h9 h10 k0 k1 (hK k k0 k1)] at k3
    exact ⟨k, k0, k1, k2, k3⟩
theorem WD.k {b : Int} {d d' : mD} {w w' : Row} (h7 : d' b 7 = d b 7) (hd : ∀ c, b + 25 ≤ c → c ≤ b + 27 → d' c = d c) (e : ∀ i, i = 9 ∨ (452 ≤ i ∧ i < 1916 ∧ 8 ≤ (i - 452) % 24) → w' i = w i) (h9 : 0 ≤ w 9 ∧ w 9 ≤ 60) (h : WD b d w) : WD b d' w' := by
  obtain ⟨a1, a2, a3⟩ := h
  have e5 := hd (b + 25) (by omega) (by omega)
  have e6 := hd (b + 26) (by omega) (by omega)
  have e7 := hd (b + 27) (by omega) (by omega)
  have e9 := e 9 (by omega)
  refine ⟨by rw [h7]; exact a1, fun k x y => ?_, fun t p x y u v z => ?_⟩
  · rw [h7] at y
    have g := a2 k x y
    rw [e5, e6, e7, e9, e (452 + 24 * d (b + 25) k + 8 + d (b + 26) k) (by omega)]
    exact g
  · rw [e9] at y
    rw [e (452 + 24 * t + 8 + p) (by omega)] at z
    rw [h7, e5, e6]
    exact a3 t p x y u v z
theorem WM.k {m b : Int} {d d' : mD} {w : Row} (hd : ∀ c, b ≤ c → c ≤ b + 27 → d' c = d c) (h : WM m b d w) : WM m b d' w := by
  obtain ⟨hB, hA, hO, hQ, hP, h1, h2, hK, hS, hH, hD⟩ := h
  have z := hd b (by omega) (by omega)
  have f : ∀ c, b ≤ c → c ≤ b + 27 → d' c = d c := hd
  refine ⟨hB.k hd, ?_, ?_, ?_, ?_, ?_, ?_, ?_, ?_, ?_, ?_⟩
  · unfold WA
    rw [z, f (b + 1) (by omega) (by omega)]
    exact hA
  · intro o x y
    rw [f (b + 2) (by omega) (by omega), f (b + 3) (by omega) (by omega), f (b + 4) (by omega) (by omega), f (b + 8) (by omega) (by omega), f (b + 5) (by omega) (by omega), f (b + 6) (by omega) (by omega)]
    exact hO o x y
  · intro o x y k u v
    rw [f (b + 9) (by omega) (by omega)]
    exact hQ o x y k u v
  · intro p x y
    rw [f (b + 7) (by omega) (by omega)]
    exact hP p x y
  · intro t x y
    rw [f (b + 10) (by omega) (by omega), f (b + 11) (by omega) (by omega), f (b + 12) (by omega) (by omega), f (b + 13) (by omega) (by omega), f (b + 14) (by omega) (by omega)]
    exact h1 t x y
  · intro t x y
    rw [f (b + 16) (by omega) (by omega), f (b + 17) (by omega) (by omega), f (b + 15) (by omega) (by omega)]
    exact h2 t x y
  · intro k x y
    rw [f (b + 19) (by omega) (by omega), f (b + 20) (by omega) (by omega), f (b + 21) (by omega) (by omega), f (b + 22) (by omega) (by omega), f (b + 23) (by omega) (by omega)]
    exact hK k x y
  · unfold WS
    rw [z, f (b + 24) (by omega) (by omega)]
    exact hS
  · intro p q x y u v
    rw [f (b + 18) (by omega) (by omega)]
    exact hH p q x y u v
  · unfold WD
    rw [z, f (b + 25) (by omega) (by omega), f (b + 26) (by omega) (by omega), f (b + 27) (by omega) (by omega)]
    exact hD
-- rows that are the same where they are looked at
theorem WM.row {m b : Int} {d : mD} {w w' : Row} (e : REq w w') (hg : GG w) (h : WM m b d w) : WM m b d w' := by
  obtain ⟨hN, hO', hQ', hT, hC, hK', hR⟩ := hg
  obtain ⟨n7, n8, n9, n10, n11, n0, n1, n2, n3, n4, n5, n6⟩ := id hN
  obtain ⟨hB, hA, hO, hQ, hP, h1, h2, hK, hS, hH, hD⟩ := h
  exact ⟨hB, hA.k (fun _ _ _ => rfl) rfl (fun i hi => e i (by omega) (by omega)), hO.k (fun _ _ _ _ => rfl) (fun i hi => e i (by omega) (by omega)) n7, hQ.k rfl (fun i hi => e i (by omega) (by omega)) n7 hO', hP.k rfl (fun i hi => e i (by omega) (by omega)), h1.k (fun _ _ _ => rfl) (fun i hi => e i (by omega) (by omega)) n9, h2.k (fun _ _ _ => rfl) (fun i hi => e i (by omega) (by omega)) n9, hK.k (fun _ _ _ => rfl) (fun i hi => e i (by omega) (by omega)) n10, hS.k rfl rfl (fun i hi => e i (by omega) (by omega)) n11, hH.k rfl (fun i hi => e i (by omega) (by omega)) n9 n10 hK'.of, hD.k rfl (fun _ _ _ => rfl) (fun i hi => e i (by omega) (by omega)) n9⟩
-- states of the class stand behind these rows
def CN (X : Prop) (w : Row) : Prop := GG w ∧ ∃ s d, RelN s d w ∧ (X → RelB s d w)
def CB (w : Row) : Prop := GG w ∧ ∃ s d, Rel s d w
def CS (w : Row) : Prop := GG w ∧ ∃ m s d, 0 ≤ m ∧ RelS m s d w
theorem CB.n {X : Prop} {w : Row} (h : CB w) : CN X w := by
  obtain ⟨g, s, d, r⟩ := h
  exact ⟨g, s, d, r.n.1, fun _ => r.n.2⟩
theorem CN.b {X : Prop} {w : Row} (h : CN X w) (hX : X) : CB w := by
  obtain ⟨g, s, d, r, rb⟩ := h
  exact ⟨g, s, d, r.r (rb hX)⟩
theorem CB.s {w : Row} (h : CB w) : CS w := by
  obtain ⟨g, s, d, rA, rO, rQ, rP, rT, rC, rK, ⟨r1, r2⟩, rB, rH⟩ := h
  exact ⟨g, 0, s, d, Int.le_refl 0, rA, rO, rQ, rP, rT, rC, rK, ⟨by rw [r1]; omega, fun k x y => by rw [Int.zero_add]; exact r2 k x y⟩, rB, rH⟩
theorem CS.step {w w' : Row} (h : CS w) (h11 : 0 < w 11) (h6 : w 6 ≤ w 1) (hS : StepS w w') : CS w' := by
  obtain ⟨g, m, s, d, m0, r⟩ := h
  obtain ⟨g', r'⟩ := stlStep m0 g r h11 h6 hS
  exact ⟨g', m + 1, s, _, by omega, r'⟩
theorem CN.serve {X : Prop} {o : Int} {w w' : Row} (h : CN X w) (ho : 0 ≤ o ∧ o < w 7) (hq : 0 < w (12 + 68 * o + 5)) (hS : StepV o w w') : CN X w' := by
  obtain ⟨g, s, d, r, rb⟩ := h
  obtain ⟨g', r', rb'⟩ := serve1 (X := X) g r rb ho hq hS
  exact ⟨g', s, _, r', rb'⟩
