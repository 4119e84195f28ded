/-! ===== purses and witnesses through the other changes ===== -/
theorem XR.fr {w w' : Row} (h8 : 0 ≤ w 8 ∧ w 8 ≤ 16) (h10 : 0 ≤ w 10 ∧ w 10 ≤ 200) (e0 : w' 0 = w 0) (e8 : w' 8 = w 8) (e9 : w' 9 = w 9) (e10 : w' 10 = w 10) (ew : ∀ t q, 0 ≤ t → t < w 9 → w 8 ≤ q → q < 16 → w' (452 + 24 * t + 8 + q) = w (452 + 24 * t + 8 + q)) (ep : ∀ p, 0 ≤ p → p < 16 → w' (420 + 2 * p + 1) = w (420 + 2 * p + 1)) (ec : ∀ k, 0 ≤ k → k < 200 → w' (1916 + 5 * k + 3) = w (1916 + 5 * k + 3)) : XR w w' :=
  ⟨GXI.keep h8 e8 e9 ew ep (Int.le_of_eq (C2_of e10 (fun k a b => by rw [ec k a (by omega)])).symm), e0⟩
theorem wsX {w : Row} {i v : Int} (hg : GN w) (h : (1 ≤ i ∧ i ≤ 6) ∨ (12 ≤ i ∧ i < 420) ∨ (452 ≤ i ∧ i < 1892 ∧ (i - 452) % 24 < 8)) : XR w (ws w i v) := by
  obtain ⟨n7, n8, n9, n10, n11, -⟩ := hg
  exact XR.fr n8 n10 (wsn (by omega)) (wsn (by omega)) (wsn (by omega)) (wsn (by omega)) (fun t q a b c d => wsn (by omega)) (fun p a b => wsn (by omega)) (fun k a b => wsn (by omega))
theorem claimX {t : Int} {w : Row} (hg : GG w) (ht : 0 ≤ t ∧ t < w 9) : XR w (W_228 t w) := by
  have n9 := hg.1.2.2.1
  unfold W_228
  have x1 : ∀ v, XR w (ws w (452 + 24 * t + 5) v) := fun v => wsX hg.1 (by omega)
  by_cases c : 0 < w 3
  · rw [if_pos c]; exact x1 1
  · rw [if_neg c]
    have e : ∀ i, i ≤ 11 → ws (ws w (452 + 24 * t + 5) 1) (452 + 24 * t + 6) 1 i = w i := fun i a => by
      rw [wsn (by omega), wsn (by omega)]
    have x2 : XR w (ws (ws w (452 + 24 * t + 5) 1) (452 + 24 * t + 6) 1) := XR.fr hg.1.2.1 hg.1.2.2.2.1 (e 0 (by omega)) (e 8 (by omega)) (e 9 (by omega)) (e 10 (by omega)) (fun t q a b c d => by have := hg.1.2.1; rw [wsn (by omega), wsn (by omega)]) (fun p a b => by rw [wsn (by omega), wsn (by omega)]) (fun k a b => by rw [wsn (by omega), wsn (by omega)])
    exact x2.trans (makesX (by rw [e 8 (by omega)]; exact hg.1.2.1) (by rw [e 9 (by omega)]; exact n9) (by rw [e 10 (by omega)]; exact hg.1.2.2.2.1))
theorem attestX {t p : Int} {w : Row} (hg : GG w) (ht : 0 ≤ t ∧ t < w 9) (hp : 0 ≤ p ∧ p < w 8) : XR w (W_235 t p w) := by
  have n8 := hg.1.2.1
  have n9 := hg.1.2.2.1
  have n10 := hg.1.2.2.2.1
  unfold W_235
  have st : ∀ u : Row, (∀ i, ¬ i = 452 + 24 * t + 8 + p → ¬ i = 452 + 24 * t + 7 → ¬ i = 452 + 24 * t + 6 → u i = w i) → XR w u := fun u e => XR.fr n8 n10 (e 0 (by omega) (by omega) (by omega)) (e 8 (by omega) (by omega) (by omega)) (e 9 (by omega) (by omega) (by omega)) (e 10 (by omega) (by omega) (by omega)) (fun t q a b c d => e _ (by omega) (by omega) (by omega)) (fun p a b => e _ (by omega) (by omega) (by omega)) (fun k a b => e _ (by omega) (by omega) (by omega))
  by_cases c : w (452 + 24 * t + 7) + 1 < w 3
  · rw [if_pos c]
    exact st _ (fun i a b c => by rw [wsn b, wsn a])
  · rw [if_neg c]
    generalize hu : (ws (ws (ws w (((452 + (24 * t)) + 8) + p) ((w 0) + 1)) ((452 + (24 * t)) + 7) ((w ((452 + (24 * t)) + 7)) + 1)) ((452 + (24 * t)) + 6) 1) = u
    have e : ∀ i, ¬ i = 452 + 24 * t + 8 + p → ¬ i = 452 + 24 * t + 7 → ¬ i = 452 + 24 * t + 6 → u i = w i := fun i a b c => by
      rw [← hu, wsn c, wsn b, wsn a]
    exact (st u e).trans (makesX (by rw [e 8 (by omega) (by omega) (by omega)]; exact n8) (by rw [e 9 (by omega) (by omega) (by omega)]; exact n9) (by rw [e 10 (by omega) (by omega) (by omega)]; exact n10))
theorem joinX {p o : Int} {w : Row} (hg : GG w) (ho : 0 ≤ o ∧ o < w 7) (h9 : w 9 < 60) : XR w (W_226 p o w) := by
  have n7 := hg.1.1
  have n8 := hg.1.2.1
  have n9 := hg.1.2.2.1
  have n10 := hg.1.2.2.2.1
  have go := (hg.2.1 o ho.1 ho.2).2.2.2.2.1
  obtain ⟨-, ⟨⟨-, -, -, -, f4⟩, -, -, f9, fr⟩⟩ := newW (p := p) (o := o) (w := w) ⟨ho.1, by omega⟩ n9 (by omega)
  show XR w (W_224 p o w)
  generalize W_224 p o w = w' at *
  have e : ∀ i, ¬ i = 9 → ¬ (12 ≤ i ∧ i < 420) → ¬ (452 + 24 * w 9 ≤ i ∧ i < 452 + 24 * w 9 + 24) → w' i = w i := fun i a b c => fr i (by omega) (by omega) (by omega) (by omega)
  have e8 := e 8 (by omega) (by omega) (by omega)
  refine ⟨fun a b => ⟨fun t x y q u v => ?_, fun q x y => ?_⟩, e 0 (by omega) (by omega) (by omega)⟩
  · rw [f9] at y
    rw [e8] at u
    by_cases z : t = w 9
    · rw [z, show 452 + 24 * w 9 + 8 + q = 452 + 24 * w 9 + (8 + q) by omega]
      exact f4 (8 + q) (by omega) (by omega)
    · rw [e _ (by omega) (by omega) (by omega)]
      exact a t x (by omega) q u v
  · rw [e8] at y
    rw [e _ (by omega) (by omega) (by omega), C2_of (w := w) (w' := w') (e 10 (by omega) (by omega) (by omega)) (fun k a b => by rw [e _ (by omega) (by omega) (by omega)])]
    exact b q x y
theorem leaveX {t : Int} {w : Row} {p : Int} (hg : GG w) (ht : 0 ≤ t ∧ t < w 9) (hp : 0 ≤ p ∧ p ≤ 61) : XR w (ws (ws (W_220 (w (452 + 24 * t + 1)) p w) (452 + 24 * t + 4) 2) (452 + 24 * t + 3) (w 0)) := by
  have n7 := hg.1.1
  have n8 := hg.1.2.1
  have n9 := hg.1.2.2.1
  have n10 := hg.1.2.2.2.1
  have gt := (hg.2.2.2.1 t ht.1 ht.2).2.1
  have go := (hg.2.1 _ gt.1 gt.2).2.2.2.2.1
  generalize w (452 + 24 * t + 1) = o at *
  obtain ⟨-, -, fr⟩ := take220 (o := o) (p := p) (w := w) hp.1 (by omega) hp.2
  generalize W_220 o p w = u at *
  have e : ∀ i, ¬ (12 ≤ i ∧ i < 420) → ¬ i = 452 + 24 * t + 4 → ¬ i = 452 + 24 * t + 3 → ws (ws u (452 + 24 * t + 4) 2) (452 + 24 * t + 3) (w 0) i = w i := fun i a b c => by
    rw [wsn c, wsn b]
    exact fr i (by omega) (by omega)
  exact XR.fr n8 n10 (e 0 (by omega) (by omega) (by omega)) (e 8 (by omega) (by omega) (by omega)) (e 9 (by omega) (by omega) (by omega)) (e 10 (by omega) (by omega) (by omega)) (fun t q a b c d => e _ (by omega) (by omega) (by omega)) (fun p a b => e _ (by omega) (by omega) (by omega)) (fun k a b => e _ (by omega) (by omega) (by omega))
theorem mergeX {w w' : Row} (hg : GG w) (e : ∀ i, ¬ (12 ≤ i ∧ i < 420) → ¬ (452 ≤ i ∧ i < 1892 ∧ ((i - 452) % 24 = 1 ∨ (i - 452) % 24 = 3 ∨ (i - 452) % 24 = 4)) → w' i = w i) : XR w w' := by
  have n8 := hg.1.2.1
  have n9 := hg.1.2.2.1
  exact XR.fr n8 hg.1.2.2.2.1 (e 0 (by omega) (by omega)) (e 8 (by omega) (by omega)) (e 9 (by omega) (by omega)) (e 10 (by omega) (by omega)) (fun t q a b c d => e _ (by omega) (by omega)) (fun p a b => e _ (by omega) (by omega)) (fun k a b => e _ (by omega) (by omega))
theorem addPX {c : Int} {w : Row} (hg : GG w) (h8 : w 8 < 16) (hp : GP w) : GP (W_182 c w) := by
  have n8 := hg.1.2.1
  have n10 := hg.1.2.2.2.1
  have e : ∀ i, ¬ i = 8 → ¬ i = 420 + 2 * w 8 + 0 → ¬ i = 420 + 2 * w 8 + 1 → W_182 c w i = w i := fun i x y z => by
    unfold W_182
    simp (disch := omega) only [wsn]
  have e1 : W_182 c w (420 + 2 * w 8 + 1) = 0 := by
    unfold W_182
    simp (disch := omega) only [wsn, wse]
  have e8 : W_182 c w 8 = w 8 + 1 := by
    unfold W_182
    simp (disch := omega) only [wse, wsn]
  generalize W_182 c w = w' at *
  have ec : C2 w' = C2 w := C2_of (e 10 (by omega) (by omega) (by omega)) (fun k a b => by rw [e _ (by omega) (by omega) (by omega)])
  have c0 : 0 ≤ C2 w := (csum_rng (B := 1) (fun i a b => by
    show 0 ≤ (if w (1916 + 5 * i + 3) = 2 then (1 : Int) else 0) ∧ (if w (1916 + 5 * i + 3) = 2 then (1 : Int) else 0) ≤ 1
    split <;> omega)).1
  intro p x y
  rw [e8] at y
  rw [ec]
  by_cases z : p = w 8
  · rw [z, e1]
    omega
  · rw [e _ (by omega) (by omega) (by omega)]
    exact hp p x (by omega)
theorem addOX {w w' : Row} (hg : GG w) (e : ∀ i, ¬ i = 7 → ¬ (12 ≤ i ∧ i < 420) → w' i = w i) : XR w w' := by
  have n8 := hg.1.2.1
  have n9 := hg.1.2.2.1
  exact XR.fr n8 hg.1.2.2.2.1 (e 0 (by omega) (by omega)) (e 8 (by omega) (by omega)) (e 9 (by omega) (by omega)) (e 10 (by omega) (by omega)) (fun t q a b c d => e _ (by omega) (by omega)) (fun p a b => e _ (by omega) (by omega)) (fun k a b => e _ (by omega) (by omega))
-- the purse as the class shows it
theorem purse {s : Int} {d : mD} {w : Row} (hg : GG w) (hp : GP w) (h : Rel s d w) {p : Int} (p0 : 0 ≤ p) (p1 : p < w 8) : 0 ≤ d (s + 12) p ∧ d (s + 12) p ≤ 19800 := by
  have e := (h.2.2.2.1.2 p p0 p1).2
  have b := hp p p0 p1
  have n10 := hg.1.2.2.2.1
  have c := (csum_rng (f := fun k => if w (1916 + 5 * k + 3) = 2 then (1 : Int) else 0) (n := (w 10).toNat) (B := 1) (fun i a b => by
    show 0 ≤ (if w (1916 + 5 * i + 3) = 2 then (1 : Int) else 0) ∧ (if w (1916 + 5 * i + 3) = 2 then (1 : Int) else 0) ≤ 1
    split <;> omega)).2
  rw [e]
  have cc : C2 w ≤ 200 := by
    unfold C2
    omega
  omega
