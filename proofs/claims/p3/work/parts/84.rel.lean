/-! ===== what a state of the class has to do with a row of the reference ===== -/
-- a name: five bits a letter in the class, base 27 in the reference
def nm (c : Int) : Int := c % 32 + 27 * (c / 32 % 32 + 27 * (c / 1024 % 32 + 27 * (c / 32768 % 32 + 27 * (c / 1048576 % 32 + 27 * (c / 33554432 % 32)))))
def okN (c : Int) : Prop := 0 < c ∧ c < 1073741824 ∧ (1 ≤ c % 32 ∧ c % 32 ≤ 26) ∧ c / 32 % 32 ≤ 26 ∧ c / 1024 % 32 ≤ 26 ∧ c / 32768 % 32 ≤ 26 ∧ c / 1048576 % 32 ≤ 26 ∧ c / 33554432 % 32 ≤ 26
  ∧ (c / 32 % 32 = 0 → c / 1024 % 32 = 0) ∧ (c / 1024 % 32 = 0 → c / 32768 % 32 = 0) ∧ (c / 32768 % 32 = 0 → c / 1048576 % 32 = 0) ∧ (c / 1048576 % 32 = 0 → c / 33554432 % 32 = 0)
theorem nm_inj {a b : Int} (ha : okN a) (hb : okN b) (h : nm a = nm b) : a = b := by
  unfold okN at ha hb
  unfold nm at h
  omega
theorem nm_pos {a : Int} (ha : okN a) : 0 < nm a := by
  unfold okN at ha
  unfold nm
  omega
def perO (w : Row) (k : Int) : Int := w (452 + 24 * w (1916 + 5 * k + 1) + 0)
def madeR (w : Row) (p : Int) : Int := csum (fun k => if perO w k = p ∧ w (1916 + 5 * k + 4) / 20 = w 0 / 20 then 1 else 0) (w 10).toNat
def attd (w : Row) (t p : Int) : Prop := 0 < w (452 + 24 * t + 8 + p) ∧ (w (452 + 24 * t + 8 + p) - 1) / 20 = w 0 / 20
def attR (w : Row) (p : Int) : Int := csum (fun t => if 0 < w (452 + 24 * t + 8 + p) ∧ (w (452 + 24 * t + 8 + p) - 1) / 20 = w 0 / 20 then 1 else 0) (w 9).toNat
def RelA (s : Int) (d : mD) (w : Row) : Prop := d s 1 = w 1 ∧ d s 2 = w 0 ∧ ∀ k, 0 ≤ k → k < 5 → d (s + 1) k = w (2 + k)
def RelO (s : Int) (d : mD) (w : Row) : Prop := d (s + 2) 0 = w 7 ∧ ∀ o, 0 ≤ o → o < w 7 → (okN (d (s + 3) o) ∧ nm (d (s + 3) o) = w (12 + 68 * o + 0)) ∧ d (s + 4) o = w (12 + 68 * o + 1) ∧ d (s + 5) o = w (12 + 68 * o + 2) ∧ d (s + 6) o = w (12 + 68 * o + 3) ∧ d (s + 7) o = w (12 + 68 * o + 4) ∧ d (s + 8) o = w (12 + 68 * o + 5)
def RelQ (s : Int) (d : mD) (w : Row) : Prop := ∀ o, 0 ≤ o → o < w 7 → ∀ k, 0 ≤ k → k < w (12 + 68 * o + 5) → d (s + 9) (o * 16 + k) = w (12 + 68 * o + 7 + k)
def RelP (s : Int) (d : mD) (w : Row) : Prop := d (s + 10) 0 = w 8 ∧ ∀ p, 0 ≤ p → p < w 8 → (okN (d (s + 11) p) ∧ nm (d (s + 11) p) = w (420 + 2 * p + 0)) ∧ d (s + 12) p = w (420 + 2 * p + 1)
def RelT (s : Int) (d : mD) (w : Row) : Prop := d (s + 49) 0 = w 9 ∧ ∀ t, 0 ≤ t → t < w 9 → d (s + 50) t = w (452 + 24 * t + 0) ∧ d (s + 51) t = w (452 + 24 * t + 1) ∧ d (s + 52) t = w (452 + 24 * t + 2) ∧ d (s + 53) t = w (452 + 24 * t + 3) ∧ d (s + 54) t = w (452 + 24 * t + 4)
def RelC (s : Int) (d : mD) (w : Row) : Prop := ∀ t, 0 ≤ t → t < w 9 → d (s + 55) t = w (452 + 24 * t + 5) + w (452 + 24 * t + 6) ∧ w (452 + 24 * t + 7) = csum (fun p => if w (452 + 24 * t + 8 + p) = 0 then 0 else 1) 16 ∧ (∀ p, 0 ≤ p → p < 16 → (ib (d (s + 56) t) p.toNat = true ↔ ¬ w (452 + 24 * t + 8 + p) = 0)) ∧ 0 ≤ d (s + 56) t ∧ d (s + 56) t < 65536
def RelK (s : Int) (d : mD) (w : Row) : Prop := d (s + 57) 0 = w 10 ∧ ∀ k, 0 ≤ k → k < w 10 → d (s + 58) k = w (1916 + 5 * k + 0) ∧ d (s + 59) k = w (1916 + 5 * k + 1) ∧ d (s + 60) k = w (1916 + 5 * k + 2) ∧ d (s + 61) k = w (1916 + 5 * k + 3)
def RelR (s : Int) (d : mD) (w : Row) : Prop := d (s + 57) 5 = w 11 ∧ ∀ k, 0 ≤ k → k < w 11 → d (s + 62) k = w (2916 + k)
def RelB (s : Int) (d : mD) (w : Row) : Prop := ∀ p, 0 ≤ p → p < w 8 → d (s + 13) p = madeR w p ∧ d (s + 14) p = attR w p ∧ ∀ q, 0 ≤ q → q < 16 → (ib (d (s + 15) p) q.toNat = true ↔ ∃ t, 0 ≤ t ∧ t < w 9 ∧ w (452 + 24 * t + 0) = q ∧ attd w t p)
def RelH (s : Int) (d : mD) (w : Row) : Prop := ∀ p, 0 ≤ p → p < w 8 → ∀ h, 0 ≤ h → h ≤ 999 → (lb (d (s + 18 + 2 * p) (h / 64)) (h % 64).toNat = true ↔ ∃ k, 0 ≤ k ∧ k < w 10 ∧ w (1916 + 5 * k + 2) = h ∧ perO w k = p)
-- the row alone: the numbers
def GN (w : Row) : Prop := (0 ≤ w 7 ∧ w 7 ≤ 6) ∧ (0 ≤ w 8 ∧ w 8 ≤ 16) ∧ (0 ≤ w 9 ∧ w 9 ≤ 60) ∧ (0 ≤ w 10 ∧ w 10 ≤ 200) ∧ (0 ≤ w 11 ∧ w 11 ≤ 200) ∧ (0 ≤ w 0 ∧ w 0 ≤ 1199) ∧ (0 ≤ w 1 ∧ w 1 ≤ 99999) ∧ (0 ≤ w 2 ∧ w 2 ≤ 9) ∧ (0 ≤ w 3 ∧ w 3 ≤ 3) ∧ (1 ≤ w 4 ∧ w 4 ≤ 9) ∧ (1 ≤ w 5 ∧ w 5 ≤ 20) ∧ 1 ≤ w 6 ∧ w 6 ≤ 99
-- offices
def GO (w : Row) : Prop := ∀ o, 0 ≤ o → o < w 7 → (1 ≤ w (12 + 68 * o + 1) ∧ w (12 + 68 * o + 1) ≤ 4) ∧ (1 ≤ w (12 + 68 * o + 2) ∧ w (12 + 68 * o + 2) ≤ 6) ∧ (1 ≤ w (12 + 68 * o + 3) ∧ w (12 + 68 * o + 3) ≤ 20) ∧ (w (12 + 68 * o + 4) = 0 ∨ w (12 + 68 * o + 4) = 1) ∧ (0 ≤ w (12 + 68 * o + 5) ∧ w (12 + 68 * o + 5) ≤ 16) ∧ (w (12 + 68 * o + 4) = 0 → w (12 + 68 * o + 5) = 0)
  ∧ w (12 + 68 * o + 6) = csum (fun t => if w (452 + 24 * t + 4) = 1 ∧ w (452 + 24 * t + 1) = o then 1 else 0) (w 9).toNat
-- queues
def GQ (w : Row) : Prop := ∀ o, 0 ≤ o → o < w 7 → ∀ k, 0 ≤ k → k < w (12 + 68 * o + 5) → (0 ≤ w (12 + 68 * o + 7 + k) ∧ w (12 + 68 * o + 7 + k) < w 9) ∧ w (452 + 24 * w (12 + 68 * o + 7 + k) + 1) = o ∧ w (452 + 24 * w (12 + 68 * o + 7 + k) + 4) = 0
  ∧ ∀ i, 0 ≤ i → i < k → w (452 + 24 * w (12 + 68 * o + 7 + i) + 2) ≤ w (452 + 24 * w (12 + 68 * o + 7 + k) + 2) ∧ ¬ w (452 + 24 * w (12 + 68 * o + 7 + i) + 0) = w (452 + 24 * w (12 + 68 * o + 7 + k) + 0)
-- tickets
def GT (w : Row) : Prop := ∀ t, 0 ≤ t → t < w 9 → (0 ≤ w (452 + 24 * t + 0) ∧ w (452 + 24 * t + 0) < w 8) ∧ (0 ≤ w (452 + 24 * t + 1) ∧ w (452 + 24 * t + 1) < w 7) ∧ (0 ≤ w (452 + 24 * t + 2) ∧ w (452 + 24 * t + 2) ≤ w 0) ∧ (0 ≤ w (452 + 24 * t + 4) ∧ w (452 + 24 * t + 4) ≤ 2)
  ∧ (w (452 + 24 * t + 4) = 0 → w (452 + 24 * t + 3) = -1 ∧ ∃ k, 0 ≤ k ∧ k < w (12 + 68 * w (452 + 24 * t + 1) + 5) ∧ w (12 + 68 * w (452 + 24 * t + 1) + 7 + k) = t)
  ∧ (¬ w (452 + 24 * t + 4) = 0 → w (452 + 24 * t + 2) ≤ w (452 + 24 * t + 3) ∧ w (452 + 24 * t + 3) ≤ w 0)
-- claims and witnesses
def GC (w : Row) : Prop := ∀ t, 0 ≤ t → t < w 9 → (w (452 + 24 * t + 5) = 0 ∨ w (452 + 24 * t + 5) = 1) ∧ (w (452 + 24 * t + 6) = 0 ∨ w (452 + 24 * t + 6) = 1) ∧ (w (452 + 24 * t + 6) = 1 → w (452 + 24 * t + 5) = 1 ∧ w (452 + 24 * t + 3) ≤ 999) ∧ (w (452 + 24 * t + 5) = 1 → w (452 + 24 * t + 4) = 1) ∧ ∀ p, 0 ≤ p → p < 16 → 0 ≤ w (452 + 24 * t + 8 + p) ∧ w (452 + 24 * t + 8 + p) ≤ w 0 + 1
-- tokens
def GK (w : Row) : Prop := ∀ k, 0 ≤ k → k < w 10 → (0 ≤ w (1916 + 5 * k + 0) ∧ w (1916 + 5 * k + 0) < w 8) ∧ (0 ≤ w (1916 + 5 * k + 1) ∧ w (1916 + 5 * k + 1) < w 9) ∧ (0 ≤ w (1916 + 5 * k + 2) ∧ w (1916 + 5 * k + 2) ≤ 999) ∧ (0 ≤ w (1916 + 5 * k + 3) ∧ w (1916 + 5 * k + 3) ≤ 2) ∧ (0 ≤ w (1916 + 5 * k + 4) ∧ w (1916 + 5 * k + 4) ≤ w 0)
  ∧ ∀ i, 0 ≤ i → i < k → ¬ (w (1916 + 5 * i + 2) = w (1916 + 5 * k + 2) ∧ perO w i = perO w k)
-- the row of offered tokens
def GR (w : Row) : Prop := w 11 = csum (fun k => if w (1916 + 5 * k + 3) = 1 then 1 else 0) (w 10).toNat ∧ ∀ k, 0 ≤ k → k < w 11 → (0 ≤ w (2916 + k) ∧ w (2916 + k) < w 10) ∧ w (1916 + 5 * w (2916 + k) + 3) = 1 ∧ ∀ i, 0 ≤ i → i < k → ¬ w (2916 + i) = w (2916 + k)
def GG (w : Row) : Prop := GN w ∧ GO w ∧ GQ w ∧ GT w ∧ GC w ∧ GK w ∧ GR w
def Rel (s : Int) (d : mD) (w : Row) : Prop := RelA s d w ∧ RelO s d w ∧ RelQ s d w ∧ RelP s d w ∧ RelT s d w ∧ RelC s d w ∧ RelK s d w ∧ RelR s d w ∧ RelB s d w ∧ RelH s d w
-- two states of the class that are the same as far as they are looked at
def CEq (s : Int) (d : mD) (s' : Int) (d' : mD) : Prop := (d' s' 1 = d s 1 ∧ d' s' 2 = d s 2 ∧ ∀ k, 0 ≤ k → k < 5 → d' (s' + 1) k = d (s + 1) k)
  ∧ (d' (s' + 2) 0 = d (s + 2) 0 ∧ ∀ o, 0 ≤ o → o < 6 → d' (s' + 3) o = d (s + 3) o ∧ d' (s' + 4) o = d (s + 4) o ∧ d' (s' + 5) o = d (s + 5) o ∧ d' (s' + 6) o = d (s + 6) o ∧ d' (s' + 7) o = d (s + 7) o ∧ d' (s' + 8) o = d (s + 8) o)
  ∧ (∀ i, 0 ≤ i → i < 96 → d' (s' + 9) i = d (s + 9) i)
  ∧ (d' (s' + 10) 0 = d (s + 10) 0 ∧ ∀ p, 0 ≤ p → p < 16 → d' (s' + 11) p = d (s + 11) p ∧ d' (s' + 12) p = d (s + 12) p ∧ d' (s' + 13) p = d (s + 13) p ∧ d' (s' + 14) p = d (s + 14) p ∧ d' (s' + 15) p = d (s + 15) p)
  ∧ (∀ p, 0 ≤ p → p < d (s + 10) 0 → ∀ i, 0 ≤ i → i < 16 → d' (s' + 18 + 2 * p) i = d (s + 18 + 2 * p) i)
  ∧ (d' (s' + 49) 0 = d (s + 49) 0 ∧ ∀ t, 0 ≤ t → t < d (s + 49) 0 → d' (s' + 50) t = d (s + 50) t ∧ d' (s' + 51) t = d (s + 51) t ∧ d' (s' + 52) t = d (s + 52) t ∧ d' (s' + 53) t = d (s + 53) t ∧ d' (s' + 54) t = d (s + 54) t ∧ d' (s' + 55) t = d (s + 55) t ∧ d' (s' + 56) t = d (s + 56) t)
  ∧ (d' (s' + 57) 0 = d (s + 57) 0 ∧ ∀ k, 0 ≤ k → k < d (s + 57) 0 → d' (s' + 58) k = d (s + 58) k ∧ d' (s' + 59) k = d (s + 59) k ∧ d' (s' + 60) k = d (s + 60) k ∧ d' (s' + 61) k = d (s + 61) k)
  ∧ (d' (s' + 57) 5 = d (s + 57) 5 ∧ ∀ k, 0 ≤ k → k < d (s + 57) 5 → d' (s' + 62) k = d (s + 62) k)
theorem Rel.cls {s s' : Int} {d d' : mD} {w : Row} (hn : GN w) (hg : GO w) (hc : CEq s d s' d') (h : Rel s d w) : Rel s' d' w := by
  obtain ⟨⟨a1, a2, a3⟩, ⟨o1, o2⟩, hq, ⟨p1, p2⟩, ⟨t1, t2⟩, hC, ⟨k1, k2⟩, ⟨r1, r2⟩, hB, hH⟩ := h
  obtain ⟨⟨c1, c2, c3⟩, ⟨c4, c5⟩, c6, ⟨c7, c8⟩, c9, ⟨c10, c11⟩, ⟨c12, c13⟩, c14, c15⟩ := hc
  obtain ⟨n7, n8, n9, n10, n11, -⟩ := hn
  refine ⟨⟨by rw [c1]; exact a1, by rw [c2]; exact a2, fun k x y => by rw [c3 k x y]; exact a3 k x y⟩, ⟨by rw [c4]; exact o1, fun o x y => ?_⟩, fun o x y k u v => ?_, ⟨by rw [c7]; exact p1, fun p x y => ?_⟩, ⟨by rw [c10]; exact t1, fun t x y => ?_⟩, fun t x y => ?_, ⟨by rw [c12]; exact k1, fun k x y => ?_⟩, ⟨by rw [c14]; exact r1, fun k x y => ?_⟩, fun p x y => ?_, fun p x y h0 u v => ?_⟩
  · obtain ⟨e1, e2, e3, e4, e5, e6⟩ := c5 o x (by omega)
    rw [e1, e2, e3, e4, e5, e6]
    exact o2 o x y
  · have g := hg o x y
    rw [c6 (o * 16 + k) (by omega) (by omega)]
    exact hq o x y k u v
  · obtain ⟨e1, e2, -⟩ := c8 p x (by omega)
    rw [e1, e2]
    exact p2 p x y
  · obtain ⟨e1, e2, e3, e4, e5, -⟩ := c11 t x (by omega)
    rw [e1, e2, e3, e4, e5]
    exact t2 t x y
  · obtain ⟨-, -, -, -, -, e6, e7⟩ := c11 t x (by omega)
    rw [e6, e7]
    exact hC t x y
  · obtain ⟨e1, e2, e3, e4⟩ := c13 k x (by omega)
    rw [e1, e2, e3, e4]
    exact k2 k x y
  · rw [c15 k x (by omega)]
    exact r2 k x y
  · obtain ⟨-, -, e3, e4, e5⟩ := c8 p x (by omega)
    rw [e3, e4, e5]
    exact hB p x y
  · rw [c9 p x (by omega) (h0 / 64) (by omega) (by omega)]
    exact hH p x y h0 u v
