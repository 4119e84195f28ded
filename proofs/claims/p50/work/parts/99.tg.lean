/-! ===== purses and witnesses through the other changes ===== -/
theorem XR.fr {w w' : Row} (h8 : 0 ≤ w 8 ∧ w 8 ≤ 16) (h10 : 0 ≤ w 10 ∧ w 10 ≤ 200) (e0 : w' 0 = w 0) (e8 : w' 8 = w 8) (e9 : w' 9 = w 9) (e10 : w' 10 = w 10) (ew : ∀ t q, 0 ≤ t → t < w 9 → w 8 ≤ q → q < 16 → w' (452 + 24 * t + 8 + q) = w (452 + 24 * t + 8 + q)) (ep : ∀ p, 0 ≤ p → p < 16 → w' (420 + 2 * p + 1) = w (420 + 2 * p + 1)) (ec : ∀ k, 0 ≤ k → k < 200 → w' (1916 + 5 * k + 3) = w (1916 + 5 * k + 3)) : XR w w' :=
  ⟨GXI.keep h8 e8 e9 ew ep (Int.le_of_eq (C2_of e10 (fun k a b => by rw [ec k a (by omega)])).symm), e0⟩
theorem wsX {w : Row} {i v : Int} (hg : GN w) (h : (1 ≤ i ∧ i ≤ 6) ∨ (12 ≤ i ∧ i < 420) ∨ (452 ≤ i ∧ i < 1892 ∧ (i - 452) % 24 < 8)) : XR w (ws w i v) := by
  obtain ⟨n7, n8, n9, n10, n11, -⟩ := hg
  exact XR.fr n8 n10 (wsn (by omega)) (wsn (by omega)) (wsn (by omega)) (wsn (by omega)) (fun t q a b c d => wsn (by omega)) (fun p a b => wsn (by omega)) (fun k a b => wsn (by omega))
theorem claimX {t : Int} {w : Row} (hg : GG w) (ht : 0 ≤ t ∧ t < w 9) : XR w (W_228 t w) := by
  have n9 := hg.1.2.2.1
  unfold W_228
  have x1 : ∀ v, XR w (ws w (452 + 24 * t + 5) v) := fun v => wsX hg.1 (by omega)
  by_cases c : 0 < w 3
  · rw [if_pos c]; exact x1 1
  · rw [if_neg c]
    have e : ∀ i, i ≤ 11 → ws (ws w (452 + 24 * t + 5) 1) (452 + 24 * t + 6) 1 i = w i := fun i a => by
      rw [wsn (by omega), wsn (by omega)]
    have x2 : XR w (ws (ws w (452 + 24 * t + 5) 1) (452 + 24 * t + 6) 1) := XR.fr hg.1.2.1 hg.1.2.2.2.1 (e 0 (by omega)) (e 8 (by omega)) (e 9 (by omega)) (e 10 (by omega)) (fun t q a b c d => by have := hg.1.2.1; rw [wsn (by omega), wsn (by omega)]) (fun p a b => by rw [wsn (by omega), wsn (by omega)]) (fun k a b => by rw [wsn (by omega), wsn (by omega)])
    exact x2.trans (makesX (by rw [e 8 (by omega)]; exact hg.1.2.1) (by rw [e 9 (by omega)]; exact n9) (by rw [e 10 (by omega)]; exact hg.1.2.2.2.1))
theorem attestX {t p : Int} {w : Row} (hg : GG w) (ht : 0 ≤ t ∧ t < w 9) (hp : 0 ≤ p ∧ p < w 8) : XR w (W_235 t p w) := by
  have n8 := hg.1.2.1
  have n9 := hg.1.2.2.1
  have n10 := hg.1.2.2.2.1
  unfold W_235
  have st : ∀ u : Row, (∀ i, ¬ i = 452 + 24 * t + 8 + p → ¬ i = 452 + 24 * t + 7 → ¬ i = 452 + 24 * t + 6 → u i = w i) → XR w u := fun u e => XR.fr n8 n10 (e 0 (by omega) (by omega) (by omega)) (e 8 (by omega) (by omega) (by omega)) (e 9 (by omega) (by omega) (by omega)) (e 10 (by omega) (by omega) (by omega)) (fun t q a b c d => e _ (by omega) (by omega) (by omega)) (fun p a b => e _ (by omega) (by omega) (by omega)) (fun k a b => e _ (by omega) (by omega) (by omega))
  by_cases c : w (452 + 24 * t + 7) + 1 < w 3
  · rw [if_pos c]
    exact st _ (fun i a b c => by rw [wsn b, wsn a])
  · rw [if_neg c]
    generalize hu : (ws (ws (ws w (((452 + (24 * t)) + 8) + p) ((w 0) + 1)) ((452 + (24 * t)) + 7) ((w ((452 + (24 * t)) + 7)) + 1)) ((452 + (24 * t)) + 6) 1) = u
    have e : ∀ i, ¬ i = 452 + 24 * t + 8 + p → ¬ i = 452 + 24 * t + 7 → ¬ i = 452 + 24 * t + 6 → u i = w i := fun i a b c => by
      rw [← hu, wsn c, wsn b, wsn a]
    exact (st u e).trans (makesX (by rw [e 8 (by omega) (by omega) (by omega)]; exact n8) (by rw [e 9 (by omega) (by omega) (by omega)]; exact n9) (by rw [e 10 (by omega) (by omega) (by omega)]; exact n10))
theorem joinX {p o : Int} {w : Row} (hg : GG w) (ho : 0 ≤ o ∧ o < w 7) (h9 : w 9 < 60) : XR w (W_226 p o w) := by
  have n7 := hg.1.1
  have n8 := hg.1.2.1
  have n9 := hg.1.2.2.1
  have n10 := hg.1.2.2.2.1
  have go := (hg.2.1 o ho.1 ho.2).2.2.2.2.1
  obtain ⟨-, ⟨⟨-, -, -, -, f4⟩, -, -, f9, fr⟩⟩ := newW (p := p) (o := o) (w := w) ⟨ho.1, by omega⟩ n9 (by omega)
  show XR w (W_224 p o w)
  generalize W_224 p o w = w' at *
  have e : ∀ i, ¬ i = 9 → ¬ (12 ≤ i ∧ i < 420) → ¬ (452 + 24 * w 9 ≤ i ∧ i < 452 + 24 * w 9 + 24) → w' i = w i := fun i a b c => fr i (by omega) (by omega) (by omega) (by omega)
  have e8 := e 8 (by omega) (by omega) (by omega)
  refine ⟨fun a b => ⟨fun t x y q u v => ?_, fun q x y => ?_⟩, e 0 (by omega) (by omega) (by omega)⟩
  · rw [f9] at y
    rw [e8] at u
    by_cases z : t = w 9
    · rw [z, show 452 + 24 * w 9 + 8 + q = 452 + 24 * w 9 + (8 + q) by omega]
      exact f4 (8 + q) (by omega) (by omega)
    · rw [e _ (by omega) (by omega) (by omega)]
      exact a t x (by omega) q u v
  · rw [e8] at y
    rw [e _ (by omega) (by omega) (by omega), C2_of (w := w) (w' := w') (e 10 (by omega) (by omega) (by omega)) (fun k a b => by rw [e _ (by omega) (by omega) (by omega)])]
    exact b q x y
theorem leaveX {t : Int} {w : Row} {p : Int} (hg : GG w) (ht : 0 ≤ t ∧ t < w 9) (hp : 0 ≤ p ∧ p ≤ 61) : XR w (ws (ws (W_220 (w (452 + 24 * t + 1)) p w) (452 + 24 * t + 4) 2) (452 + 24 * t + 3) (w 0)) := by
  have n7 := hg.1.1
  have n8 := hg.1.2.1
  have n9 := hg.1.2.2.1
  have n10 := hg.1.2.2.2.1
  have gt := (hg.2.2.2.1 t ht.1 ht.2).2.1
  have go := (hg.2.1 _ gt.1 gt.2).2.2.2.2.1
  generalize w (452 + 24 * t + 1) = o at *
  obtain ⟨-, -, fr⟩ := take220 (o := o) (p := p) (w := w) hp.1 (by omega) hp.2
  generalize W_220 o p w = u at *
  have e : ∀ i, ¬ (12 ≤ i ∧ i < 420) → ¬ i = 452 + 24 * t + 4 → ¬ i = 452 + 24 * t + 3 → ws (ws u (452 + 24 * t + 4) 2) (452 + 24 * t + 3) (w 0) i = w i := fun i a b c => by
    rw [wsn c, wsn b]
    exact fr i (by omega) (by omega)
  exact XR.fr n8 n10 (e 0 (by omega) (by omega) (by omega)) (e 8 (by omega) (by omega) (by omega)) (e 9 (by omega) (by omega) (by omega)) (e 10 (by omega) (by omega) (by omega)) (fun t q a b c d => e _ (by omega) (by omega) (by omega)) (fun p a b => e _ (by omega) (by omega) (by omega)) (fun k a b => e _ (by omega) (by omega) (by omega))
theorem mergeX {w w' : Row} (hg : GG w) (e : ∀ i, ¬ (12 ≤ i ∧ i < 420) → ¬ (452 ≤ i ∧ i < 1892 ∧ ((i - 452) % 24 = 1 ∨ (i - 452) % 24 = 3 ∨ (i - 452) % 24 = 4)) → w' i = w i) : XR w w' := by
  have n8 := hg.1.2.1
  have n9 := hg.1.2.2.1
  exact XR.fr n8 hg.1.2.2.2.1 (e 0 (by omega) (by omega)) (e 8 (by omega) (by omega)) (e 9 (by omega) (by omega)) (e 10 (by omega) (by omega)) (fun t q a b c d => e _ (by omega) (by omega)) (fun p a b => e _ (by omega) (by omega)) (fun k a b => e _ (by omega) (by omega))
theorem addPX {c : Int} {w : Row} (hg : GG w) (h8 : w 8 < 16) (hp : GP w) : GP (W_182 c w) := by
  have n8 := hg.1.2.1
  have n10 := hg.1.2.2.2.1
  have e : ∀ i, ¬ i = 8 → ¬ i = 420 + 2 * w 8 + 0 → ¬ i = 420 + 2 * w 8 + 1 → W_182 c w i = w i := fun i x y z => by
    unfold W_182
    simp (disch := omega) only [wsn]
  have e1 : W_182 c w (420 + 2 * w 8 + 1) = 0 := by
    unfold W_182
    simp (disch := omega) only [wsn, wse]
  have e8 : W_182 c w 8 = w 8 + 1 := by
    unfold W_182
    simp (disch := omega) only [wse, wsn]
  generalize W_182 c w = w' at *
  have ec : C2 w' = C2 w := C2_of (e 10 (by omega) (by omega) (by omega)) (fun k a b => by rw [e _ (by omega) (by omega) (by omega)])
  have c0 : 0 ≤ C2 w := (csum_rng (B := 1) (fun i a b => by
    show 0 ≤ (if w (1916 + 5 * i + 3) = 2 then (1 : Int) else 0) ∧ (if w (1916 + 5 * i + 3) = 2 then (1 : Int) else 0) ≤ 1
    split <;> omega)).1
  intro p x y
  rw [e8] at y
  rw [ec]
  by_cases z : p = w 8
  · rw [z, e1]
    omega
  · rw [e _ (by omega) (by omega) (by omega)]
    exact hp p x (by omega)
theorem addOX {w w' : Row} (hg : GG w) (e : ∀ i, ¬ i = 7 → ¬ (12 ≤ i ∧ i < 420) → w' i = w i) : XR w w' := by
  have n8 := hg.1.2.1
  have n9 := hg.1.2.2.1
  exact XR.fr n8 hg.1.2.2.2.1 (e 0 (by omega) (by omega)) (e 8 (by omega) (by omega)) (e 9 (by omega) (by omega)) (e 10 (by omega) (by omega)) (fun t q a b c d => e _ (by omega) (by omega)) (fun p a b => e _ (by omega) (by omega)) (fun k a b => e _ (by omega) (by omega))
-- the purse as the class shows it
theorem purse {s : Int} {d : mD} {w : Row} (hg : GG w) (hp : GP w) (h : Rel s d w) {p : Int} (p0 : 0 ≤ p) (p1 : p < w 8) : 0 ≤ d (s + 12) p ∧ d (s + 12) p ≤ 19800 := by
  have e := (h.2.2.2.1.2 p p0 p1).2
  have b := hp p p0 p1
  have n10 := hg.1.2.2.2.1
  have c := (csum_rng (f := fun k => if w (1916 + 5 * k + 3) = 2 then (1 : Int) else 0) (n := (w 10).toNat) (B := 1) (fun i a b => by
    show 0 ≤ (if w (1916 + 5 * i + 3) = 2 then (1 : Int) else 0) ∧ (if w (1916 + 5 * i + 3) = 2 then (1 : Int) else 0) ≤ 1
    split <;> omega)).2
  rw [e]
  have cc : C2 w ≤ 200 := by
    unfold C2
    omega
  omega
/-! ===== what is kept: undo's history and the saved states ===== -/
def OKR (s : Int) (d : mD) (w : Row) : Prop := GG w ∧ GWt w ∧ GP w ∧ w 0 ≤ 999 ∧ Rel s d w
theorem GWt.row {w w' : Row} (e : REq w w') (hn : GN w) (h : GWt w) : GWt w' := by
  obtain ⟨n7, n8, n9, n10, -⟩ := hn
  intro t x y q u v
  rw [e 9 (by omega) (by omega)] at y
  rw [e 8 (by omega) (by omega)] at u
  rw [e _ (by omega) (by omega)]
  exact h t x y q u v
theorem GP.row {w w' : Row} (e : REq w w') (hn : GN w) (h : GP w) : GP w' := by
  obtain ⟨n7, n8, n9, n10, -⟩ := hn
  intro p x y
  rw [e 8 (by omega) (by omega)] at y
  rw [e _ (by omega) (by omega), C2_of (e 10 (by omega) (by omega)) (fun k a b => by rw [e _ (by omega) (by omega)])]
  exact h p x y
theorem OKR.row {s : Int} {d : mD} {w w' : Row} (e : REq w w') (h : OKR s d w) : OKR s d w' := by
  obtain ⟨a, b, c, t, r⟩ := h
  exact ⟨a.row e, b.row e a.1, c.row e a.1, by rw [e 0 (by omega) (by omega)]; exact t, r.row e a⟩
theorem OKR.cls {s s' : Int} {d d' : mD} {w : Row} (hc : CEq s d s' d') (h : OKR s d w) : OKR s' d' w := by
  obtain ⟨a, b, c, t, r⟩ := h
  exact ⟨a, b, c, t, r.cls a.1 a.2.1 hc⟩
theorem OKR.fr {s : Int} {d d' : mD} {w : Row} (e : ∀ b, s ≤ b → b ≤ s + 62 → d' b = d b) (h : OKR s d w) : OKR s d' w := by
  obtain ⟨a, b, c, t, r⟩ := h
  have n8 := a.1.2.1
  have p8 := r.2.2.2.1.1
  refine ⟨a, b, c, t, r.cls a.1 a.2.1 ⟨⟨by rw [e s (by omega) (by omega)], by rw [e s (by omega) (by omega)], fun k _ _ => by rw [e _ (by omega) (by omega)]⟩, ⟨by rw [e _ (by omega) (by omega)], fun o _ _ => ?_⟩, fun i _ _ => by rw [e _ (by omega) (by omega)], ⟨by rw [e _ (by omega) (by omega)], fun p _ _ => ?_⟩, fun p _ _ i _ _ => by rw [e _ (by omega) (by omega)], ⟨by rw [e _ (by omega) (by omega)], fun t _ _ => ?_⟩, ⟨by rw [e _ (by omega) (by omega)], fun k _ _ => ?_⟩, by rw [e _ (by omega) (by omega)], fun k _ _ => by rw [e _ (by omega) (by omega)]⟩⟩
  · rw [e (s + 3) (by omega) (by omega), e (s + 4) (by omega) (by omega), e (s + 5) (by omega) (by omega), e (s + 6) (by omega) (by omega), e (s + 7) (by omega) (by omega), e (s + 8) (by omega) (by omega)]
    exact ⟨rfl, rfl, rfl, rfl, rfl, rfl⟩
  · rw [e (s + 11) (by omega) (by omega), e (s + 12) (by omega) (by omega), e (s + 13) (by omega) (by omega), e (s + 14) (by omega) (by omega), e (s + 15) (by omega) (by omega)]
    exact ⟨rfl, rfl, rfl, rfl, rfl⟩
  · rw [e (s + 50) (by omega) (by omega), e (s + 51) (by omega) (by omega), e (s + 52) (by omega) (by omega), e (s + 53) (by omega) (by omega), e (s + 54) (by omega) (by omega), e (s + 55) (by omega) (by omega), e (s + 56) (by omega) (by omega)]
    exact ⟨rfl, rfl, rfl, rfl, rfl, rfl, rfl⟩
  · rw [e (s + 58) (by omega) (by omega), e (s + 59) (by omega) (by omega), e (s + 60) (by omega) (by omega), e (s + 61) (by omega) (by omega)]
    exact ⟨rfl, rfl, rfl, rfl⟩
theorem cpyF {a s : Int} (hx : a + 63 ≤ s ∨ s + 63 ≤ a) (d : mD) (h16 : d (s + 10) 0 ≤ 16) : ∀ b, (b < a ∨ a + 62 < b) → g_59 a s d b = d b := by
  intro b hb
  unfold g_59
  generalize hd1 : (mset (mset (mcopy d (s + 1) 0 (a + 1) 0 5) a 1 (d s 1)) a 2 (d s 2)) = d1
  have f1 : ∀ b, (b < a ∨ a + 1 < b) → d1 b = d b := fun b hb => by
    rw [← hd1]
    funext j
    simp (disch := omega) only [mc_n, ms_a]
  obtain ⟨a1, -⟩ := c34 hx d1
  generalize g_34 (a + 2) (s + 2) d1 = d2 at *
  obtain ⟨b1, -⟩ := c46 hx d2 (by rw [a1 _ (by omega), f1 _ (by omega)]; exact h16)
  generalize g_46 (a + 10) (s + 10) d2 = d3 at *
  obtain ⟨c1, -⟩ := c95 hx d3
  generalize g_95 (a + 49) (s + 49) d3 = d4 at *
  obtain ⟨e1, -⟩ := c108 hx d4
  rw [e1 b (by omega), c1 b (by omega), b1 b (by omega), a1 b (by omega), f1 b (by omega)]
theorem OKR.copy {a s : Int} {d : mD} {w : Row} (hx : a + 63 ≤ s ∨ s + 63 ≤ a) (h : OKR s d w) : OKR a (g_59 a s d) w ∧ ∀ b, (b < a ∨ a + 62 < b) → g_59 a s d b = d b := by
  have n8 := h.1.1.2.1
  have p8 := h.2.2.2.2.2.2.2.1.1
  exact ⟨h.cls (cpy hx d (by omega)), cpyF hx d (by omega)⟩
-- loops that copy rows
theorem copyLoop {α : Type} {L : Nat → Int → mD → α} {F : mD → α} {I : mD → Prop} {A B C D N : Int} (hAC : ¬ A = C) (hI : ∀ d j v, I d → I (mset d A j v)) (hz : ∀ n x d, I d → N ≤ x → L n x d = F d) (hs : ∀ n x d, I d → x < N → L (n + 1) x d = L n (x + 1) (mset d A (B + x) (d C (D + x)))) : ∀ (n : Nat) (x : Int) (d : mD), I d → x ≤ N → N - x ≤ (n : Int) → ∃ d', L n x d = F d' ∧ (∀ b, ¬ b = A → d' b = d b) ∧ (∀ i, x ≤ i → i < N → d' A (B + i) = d C (D + i)) ∧ ∀ j, ¬ (B + x ≤ j ∧ j < B + N) → d' A j = d A j := by
  intro n
  induction n with
  | zero =>
    intro x d hi a b
    exact ⟨d, hz 0 x d hi (by omega), fun _ _ => rfl, fun i u v => by omega, fun _ _ => rfl⟩
  | succ n ih =>
    intro x d hi a b
    by_cases c : x < N
    · obtain ⟨d', q1, q2, q3, q4⟩ := ih (x + 1) (mset d A (B + x) (d C (D + x))) (hI _ _ _ hi) (by omega) (by omega)
      refine ⟨d', (hs n x d hi c).trans q1, fun b hb => ?_, fun i u v => ?_, fun j hj => ?_⟩
      · rw [q2 b hb]
        funext j
        exact ms_a hb
      · by_cases z : i = x
        · rw [z, q4 _ (by omega), ms_e rfl rfl]
        · rw [q3 i (by omega) v, ms_a (fun y => hAC y.symm)]
      · rw [q4 j (by omega), ms_i (by omega)]
    · exact ⟨d, hz (n + 1) x d hi (by omega), fun _ _ => rfl, fun i u v => by omega, fun _ _ => rfl⟩
theorem shiftLoop {α : Type} {L : Nat → Int → mD → α} {F : mD → α} {I : mD → Prop} {A S N : Int} (hS : 0 < S) (hI : ∀ d j v, I d → I (mset d A j v)) (hz : ∀ n x d, I d → N ≤ x → L n x d = F d) (hs : ∀ n x d, I d → x < N → L (n + 1) x d = L n (x + 1) (mset d A (x - S) (d A x))) : ∀ (n : Nat) (x : Int) (d : mD), I d → x ≤ N → N - x ≤ (n : Int) → ∃ d', L n x d = F d' ∧ (∀ b, ¬ b = A → d' b = d b) ∧ (∀ i, x ≤ i → i < N → d' A (i - S) = d A i) ∧ (∀ j, N - S ≤ j → d' A j = d A j) ∧ ∀ j, j < x - S → d' A j = d A j := by
  intro n
  induction n with
  | zero =>
    intro x d hi a b
    exact ⟨d, hz 0 x d hi (by omega), fun _ _ => rfl, fun i u v => by omega, fun _ _ => rfl, fun _ _ => rfl⟩
  | succ n ih =>
    intro x d hi a b
    by_cases c : x < N
    · obtain ⟨d', q1, q2, q3, q4, q5⟩ := ih (x + 1) (mset d A (x - S) (d A x)) (hI _ _ _ hi) (by omega) (by omega)
      refine ⟨d', (hs n x d hi c).trans q1, fun b hb => ?_, fun i u v => ?_, fun j hj => ?_, fun j hj => ?_⟩
      · rw [q2 b hb]
        funext j
        exact ms_a hb
      · by_cases z : i = x
        · rw [z, q5 _ (by omega), ms_e rfl rfl]
        · rw [q3 i (by omega) v, ms_i (by omega)]
      · rw [q4 j hj, ms_i (by omega)]
      · rw [q5 j (by omega), ms_i (by omega)]
    · exact ⟨d, hz (n + 1) x d hi (by omega), fun _ _ => rfl, fun i u v => by omega, fun _ _ => rfl, fun _ _ => rfl⟩
-- keeps: the row behind the others; of eight the oldest goes
def KeepW (d d' : mD) : Prop := (∀ b, ¬ b = 769 → ¬ b = 771 → d' b = d b) ∧ (∀ j, ¬ j = 7 → d' 769 j = d 769 j) ∧ ((¬ d 769 7 = 8 ∧ d' 769 7 = d 769 7 + 1 ∧ (∀ i, 0 ≤ i → i < 3116 → d' 771 (3116 * d 769 7 + i) = d 770 i) ∧ ∀ j, j < 3116 * d 769 7 → d' 771 j = d 771 j) ∨ (d 769 7 = 8 ∧ d' 769 7 = 8 ∧ (∀ i, 0 ≤ i → i < 3116 → d' 771 (3116 * 7 + i) = d 770 i) ∧ ∀ j, 0 ≤ j → j < 21812 → d' 771 j = d 771 (j + 3116)))
theorem lp278 {d : mD} {u : Int} (h : d 769 7 = u) : ∃ d', lp_278_54 769 (3116 - 0 : Int).toNat 0 d = mset d' 769 7 (u + 1) ∧ (∀ b, ¬ b = 771 → d' b = d b) ∧ (∀ i, 0 ≤ i → i < 3116 → d' 771 (3116 * u + i) = d 770 i) ∧ ∀ j, ¬ (3116 * u ≤ j ∧ j < 3116 * u + 3116) → d' 771 j = d 771 j := by
  obtain ⟨d', q1, q2, q3, q4⟩ := copyLoop (L := lp_278_54 769) (F := fun d => mset d 769 7 (u + 1)) (I := fun d => d 769 7 = u) (A := 771) (B := 3116 * u) (C := 770) (D := 0) (N := 3116) (by decide) (fun d j v hi => by show mset d 771 j v 769 7 = u; rw [ms_a (by decide)]; exact hi) (fun n x d hi hx => by
    have st : ∀ r, st_278_54 769 r x d = mset d 769 7 (u + 1) := fun r => by
      unfold st_278_54
      rw [if_neg (by omega), hi]
    cases n with
    | zero => exact st _
    | succ n => exact st _) (fun n x d hi hx => by
    show st_278_54 769 _ x d = _
    unfold st_278_54
    rw [if_pos hx, hi, Int.zero_add]
    rfl) (3116 - 0 : Int).toNat 0 d h (by decide) (by decide)
  refine ⟨d', q1, q2, fun i a b => ?_, fun j hj => q4 j (by omega)⟩
  have := q3 i a b
  rw [Int.zero_add] at this
  exact this
theorem keep278 {d : mD} : KeepW d (g_278 769 d) := by
  unfold g_278
  by_cases c : d 769 7 = 8
  · rw [if_pos c]
    obtain ⟨d1, q1, q2, q3, q4, q5⟩ := shiftLoop (L := lp_278_13 769) (F := fun d => lp_278_54 769 (3116 - 0 : Int).toNat 0 (mset d 769 7 (d 769 7 - 1))) (I := fun _ => True) (A := 771) (S := 3116) (N := 24928) (by decide) (fun _ _ _ _ => trivial) (fun n x d _ hx => by
      have st : ∀ r, st_278_13 769 r x d = lp_278_54 769 (3116 - 0 : Int).toNat 0 (mset d 769 7 (d 769 7 - 1)) := fun r => by
        unfold st_278_13
        rw [if_neg (by omega)]
      cases n with
      | zero => exact st _
      | succ n => exact st _) (fun n x d _ hx => by
      show st_278_13 769 _ x d = _
      unfold st_278_13
      rw [if_pos hx]
      rfl) (24928 - 3116 : Int).toNat 3116 d trivial (by decide) (by decide)
    have e7 : d1 769 7 = 8 := by rw [q2 769 (by decide)]; exact c
    obtain ⟨d2, p1, p2, p3, p4⟩ := lp278 (d := mset d1 769 7 (d1 769 7 - 1)) (u := 7) (by rw [ms_e rfl rfl, e7]; rfl)
    rw [q1]
    show KeepW d (lp_278_54 769 (3116 - 0 : Int).toNat 0 (mset d1 769 7 (d1 769 7 - 1)))
    rw [p1]
    refine ⟨fun b x y => ?_, fun j hj => ?_, Or.inr ⟨c, ms_e rfl rfl, fun i a b => ?_, fun j a b => ?_⟩⟩
    · have e1 : mset d2 769 7 (7 + 1) b = d2 b := by funext j; exact ms_a x
      have e2 : mset d1 769 7 (d1 769 7 - 1) b = d1 b := by funext j; exact ms_a x
      rw [e1, p2 b y, e2, q2 b y]
    · rw [ms_i hj, p2 769 (by decide), ms_i hj, q2 769 (by decide)]
    · rw [ms_a (by decide), p3 i a b, ms_a (by decide), q2 770 (by decide)]
    · rw [ms_a (by decide), p4 j (by omega), ms_a (by decide)]
      have := q3 (j + 3116) (by omega) (by omega)
      rw [show j + 3116 - 3116 = j by omega] at this
      exact this
  · rw [if_neg c]
    obtain ⟨d2, p1, p2, p3, p4⟩ := lp278 (d := d) (u := d 769 7) rfl
    rw [p1]
    refine ⟨fun b x y => ?_, fun j hj => ?_, Or.inl ⟨c, ms_e rfl rfl, fun i a b => ?_, fun j hj => ?_⟩⟩
    · have e1 : mset d2 769 7 (d 769 7 + 1) b = d2 b := by funext j; exact ms_a x
      rw [e1, p2 b y]
    · rw [ms_i hj, p2 769 (by decide)]
    · rw [ms_a (by decide), p3 i a b]
    · rw [ms_a (by decide), p4 j (by omega)]
-- the relation of the two histories
def ksl (n c k : Int) : Int := 66 + 63 * ((n + 8 - c + k) % 8)
def HistRel (d : mD) : Prop := (0 ≤ d 64 1 ∧ d 64 1 < 8) ∧ (0 ≤ d 64 2 ∧ d 64 2 ≤ 8) ∧ d 769 7 = d 64 2 ∧ ∀ k, 0 ≤ k → k < d 64 2 → OKR (ksl (d 64 1) (d 64 2) k) d (fun i => d 771 (3116 * k + i))
def SaveRel (d : mD) : Prop := ∀ j, (j = 0 ∨ j = 1) → d 571 j = d 775 j ∧ (¬ d 775 j = 0 → OKR (643 + 63 * j) d (fun i => d 772 (3116 * j + i)))
theorem HistRel.fr {d d' : mD} (h : HistRel d) (e : ∀ b, 64 ≤ b → b ≤ 569 → d' b = d b) (e7 : d' 769 7 = d 769 7) (e1 : ∀ j, 0 ≤ j → j < 3116 * d 769 7 → d' 771 j = d 771 j) : HistRel d' := by
  obtain ⟨a, b, c, f⟩ := h
  rw [HistRel, e 64 (by decide) (by decide), e7]
  refine ⟨a, b, c, fun k x y => ?_⟩
  have g := f k x y
  have r : 66 ≤ ksl (d 64 1) (d 64 2) k ∧ ksl (d 64 1) (d 64 2) k ≤ 507 := by
    unfold ksl
    omega
  refine OKR.row (w := fun i => d 771 (3116 * k + i)) (fun i i0 i1 => ?_) (g.fr (fun b x y => e b (by omega) (by omega)))
  show d' 771 (3116 * k + i) = d 771 (3116 * k + i)
  exact e1 _ (by omega) (by omega)
theorem SaveRel.fr {d d' : mD} (h : SaveRel d) (e : ∀ b, b = 571 ∨ (643 ≤ b ∧ b ≤ 768) ∨ b = 775 ∨ b = 772 → d' b = d b) : SaveRel d' := by
  intro j hj
  obtain ⟨a, b⟩ := h j hj
  rw [e 571 (by omega), e 775 (by omega), e 772 (by omega)]
  exact ⟨a, fun z => (b z).fr (fun b x y => e b (by omega))⟩
-- the class keeps
theorem keepC {d : mD} {w : Row} (hn : 0 ≤ d 64 1 ∧ d 64 1 < 8) (h : OKR 1 d w) : OKR (66 + 63 * d 64 1) (g_2 64 1 d) w ∧ (∀ b, ¬ b = 64 → ¬ (66 + 63 * d 64 1 ≤ b ∧ b ≤ 66 + 63 * d 64 1 + 62) → g_2 64 1 d b = d b) ∧ g_2 64 1 d 64 1 = (d 64 1 + 1) % 8 ∧ g_2 64 1 d 64 2 = mmin 8 (d 64 2 + 1) := by
  obtain ⟨c1, c2⟩ := h.copy (a := 66 + 63 * d 64 1) (by omega)
  unfold g_2
  rw [show (64 : Int) + 1 + (1 + 63 * d 64 1) = 66 + 63 * d 64 1 by omega]
  generalize g_59 (66 + 63 * d 64 1) 1 d = d1 at *
  have e : ∀ b, ¬ b = 64 → mset (mset d1 64 1 ((d 64 1 + 1) % 8)) 64 2 (mmin 8 (d 64 2 + 1)) b = d1 b := fun b x => by
    funext j
    rw [ms_a x, ms_a x]
  exact ⟨c1.fr (fun b x y => e b (by omega)), fun b x y => by rw [e b x, c2 b (by omega)], by rw [ms_i (by decide), ms_e rfl rfl], ms_e rfl rfl⟩
theorem keepH {d d' : mD} (hH : HistRel d) (h : OKR 1 d (d 770)) (hc : ∀ b, 64 ≤ b → b ≤ 569 → d' b = g_2 64 1 d b) {r r' : mD} (hr : KeepW r r') (r7 : r 769 7 = d 769 7) (r0 : r 770 = d 770) (r1 : r 771 = d 771) (e7 : d' 769 7 = r' 769 7) (e1 : d' 771 = r' 771) : HistRel d' := by
  obtain ⟨hn, hc2, hu, hk⟩ := hH
  obtain ⟨c1, c2, c3, c4⟩ := keepC hn h
  obtain ⟨-, -, kw⟩ := hr
  rw [r7, r0, r1, ← e7, ← e1] at kw
  have hm : mmin 8 (d 64 2 + 1) = if d 64 2 = 8 then 8 else d 64 2 + 1 := by
    have := mmin_r 8 (d 64 2 + 1)
    split <;> omega
  have f1 : d' 64 1 = (d 64 1 + 1) % 8 := by rw [hc 64 (by decide) (by decide)]; exact c3
  have f2 : d' 64 2 = if d 64 2 = 8 then 8 else d 64 2 + 1 := by rw [hc 64 (by decide) (by decide), c4, hm]
  have new : ∀ {w : Row}, REq (d 770) w → OKR (66 + 63 * d 64 1) d' w := fun e => (c1.fr (fun b x y => hc b (by omega) (by omega))).row e
  have old : ∀ {w : Row} {a : Int}, OKR (66 + 63 * a) d w → 0 ≤ a → a < 8 → ¬ a = d 64 1 → OKR (66 + 63 * a) d' w := fun o x y z => o.fr (fun b u v => by
    rw [hc b (by omega) (by omega)]
    exact c2 b (by omega) (by omega))
  rcases kw with ⟨k0, k1, k2, k3⟩ | ⟨k0, k1, k2, k3⟩
  · rw [hu] at k0 k1 k2 k3
    rw [if_neg k0] at f2
    refine ⟨by omega, by omega, by omega, fun k x y => ?_⟩
    rw [f1, f2]
    by_cases z : k = d 64 2
    · have e : ksl ((d 64 1 + 1) % 8) (d 64 2 + 1) k = 66 + 63 * d 64 1 := by
        unfold ksl
        omega
      rw [e]
      refine new (fun i i0 i1 => ?_)
      show d' 771 (3116 * k + i) = d 770 i
      rw [z]
      exact k2 i i0 i1
    · have e : ksl ((d 64 1 + 1) % 8) (d 64 2 + 1) k = 66 + 63 * ((d 64 1 + 8 - d 64 2 + k) % 8) := by
        unfold ksl
        omega
      rw [e]
      refine OKR.row (w := fun i => d 771 (3116 * k + i)) (fun i i0 i1 => ?_) (old (hk k x (by omega)) (by omega) (by omega) (by omega))
      show d' 771 (3116 * k + i) = d 771 (3116 * k + i)
      exact k3 _ (by omega)
  · rw [hu] at k0
    rw [if_pos k0] at f2
    refine ⟨by omega, by omega, by omega, fun k x y => ?_⟩
    rw [f1, f2]
    by_cases z : k = 7
    · have e : ksl ((d 64 1 + 1) % 8) 8 k = 66 + 63 * d 64 1 := by
        unfold ksl
        omega
      rw [e]
      refine new (fun i i0 i1 => ?_)
      show d' 771 (3116 * k + i) = d 770 i
      rw [z]
      exact k2 i i0 i1
    · have e : ksl ((d 64 1 + 1) % 8) 8 k = 66 + 63 * ((d 64 1 + 8 - d 64 2 + (k + 1)) % 8) := by
        unfold ksl
        omega
      rw [e]
      refine OKR.row (w := fun i => d 771 (3116 * (k + 1) + i)) (fun i i0 i1 => ?_) (old (hk (k + 1) (by omega) (by omega)) (by omega) (by omega) (by omega))
      show d' 771 (3116 * k + i) = d 771 (3116 * (k + 1) + i)
      rw [k3 _ (by omega) (by omega), show 3116 * k + i + 3116 = 3116 * (k + 1) + i by omega]
/-! ===== undo, save, restore ===== -/
def UndoW (d d' : mD) : Prop := (∀ b, ¬ b = 769 → ¬ b = 770 → d' b = d b) ∧ (∀ j, ¬ j = 7 → ¬ j = 0 → d' 769 j = d 769 j) ∧ d' 769 0 = 0 ∧ d' 769 7 = d 769 7 - 1 ∧ ∀ i, 0 ≤ i → i < 3116 → d' 770 i = d 771 (3116 * (d 769 7 - 1) + i)
theorem undo294 {d : mD} (h : 0 < d 769 7) : v_294 769 d = d 769 7 - 1 ∧ UndoW d (g_294 769 d) := by
  obtain ⟨d', q1, q2, q3, q4⟩ := copyLoop (L := lp_294_37 769) (F := fun e => (e 769 7, e)) (I := fun e => e 769 7 = d 769 7 - 1) (A := 770) (B := 0) (C := 771) (D := 3116 * (d 769 7 - 1)) (N := 3116) (by decide) (fun e j v hi => by show mset e 770 j v 769 7 = _; rw [ms_a (by decide)]; exact hi) (fun n x e hi hx => by
    have st : ∀ r, st_294_37 769 r x e = (e 769 7, e) := fun r => by
      unfold st_294_37
      rw [if_neg (by omega)]
    cases n with
    | zero => exact st _
    | succ n => exact st _) (fun n x e hi hx => by
    show st_294_37 769 _ x e = _
    unfold st_294_37
    rw [if_pos hx, hi, Int.zero_add]
    rfl) (3116 - 0 : Int).toNat 0 (mset (mset d 769 0 0) 769 7 (d 769 7 - 1)) (ms_e rfl rfl) (by decide) (by decide)
  have e : f_294 769 d = (d' 769 7, d') := by
    unfold f_294
    rw [if_pos h]
    exact q1
  unfold v_294 g_294
  rw [e]
  have d7 : d' 769 = (mset (mset d 769 0 0) 769 7 (d 769 7 - 1)) 769 := q2 769 (by decide)
  refine ⟨?_, fun b x y => ?_, fun j x y => ?_, ?_, ?_, fun i a b => ?_⟩
  · show d' 769 7 = _
    rw [d7, ms_e rfl rfl]
  · show d' b = d b
    rw [q2 b y]
    funext j
    rw [ms_a x, ms_a x]
  · show d' 769 j = _
    rw [d7, ms_i x, ms_i y]
  · show d' 769 0 = 0
    rw [d7, ms_i (by decide), ms_e rfl rfl]
  · show d' 769 7 = _
    rw [d7, ms_e rfl rfl]
  · show d' 770 i = _
    have := q3 i a b
    rw [Int.zero_add, ms_a (by decide), ms_a (by decide)] at this
    exact this
theorem undoC {d : mD} {w : Row} (hn : 0 ≤ d 64 1 ∧ d 64 1 < 8) (h : OKR (66 + 63 * ((d 64 1 + 8 - 1) % 8)) d w) : OKR 1 (g_3 64 1 d) w ∧ (∀ b, ¬ b = 64 → ¬ (1 ≤ b ∧ b ≤ 63) → g_3 64 1 d b = d b) ∧ g_3 64 1 d 64 1 = (d 64 1 + 8 - 1) % 8 ∧ g_3 64 1 d 64 2 = d 64 2 - 1 := by
  unfold g_3
  have e : ∀ b, ¬ b = 64 → mset (mset d 64 1 ((d 64 1 + 8 - 1) % 8)) 64 2 (d 64 2 - 1) b = d b := fun b x => by
    funext j
    rw [ms_a x, ms_a x]
  have e1 : mset (mset d 64 1 ((d 64 1 + 8 - 1) % 8)) 64 2 (d 64 2 - 1) 64 1 = (d 64 1 + 8 - 1) % 8 := by
    rw [ms_i (by decide), ms_e rfl rfl]
  have e2 : mset (mset d 64 1 ((d 64 1 + 8 - 1) % 8)) 64 2 (d 64 2 - 1) 64 2 = d 64 2 - 1 := ms_e rfl rfl
  rw [show (64 : Int) + 1 + (1 + 63 * ((d 64 1 + 8 - 1) % 8)) = 66 + 63 * ((d 64 1 + 8 - 1) % 8) by omega]
  generalize mset (mset d 64 1 ((d 64 1 + 8 - 1) % 8)) 64 2 (d 64 2 - 1) = d1 at *
  obtain ⟨c1, c2⟩ := (h.fr (d' := d1) (fun b x y => e b (by omega))).copy (a := 1) (by omega)
  refine ⟨c1, fun b x y => by rw [c2 b (by omega), e b x], ?_, ?_⟩
  · rw [c2 64 (by omega), e1]
  · rw [c2 64 (by omega), e2]
theorem undoH {d d' : mD} (hH : HistRel d) (hp : 0 < d 64 2) (hc : ∀ b, 1 ≤ b → b ≤ 569 → d' b = g_3 64 1 d b) {r r' : mD} (hr : UndoW r r') (r7 : r 769 7 = d 769 7) (r1 : r 771 = d 771) (e7 : d' 769 7 = r' 769 7) (e0 : d' 770 = r' 770) (e1 : d' 771 = r' 771) : HistRel d' ∧ OKR 1 d' (d' 770) := by
  obtain ⟨hn, hc2, hu, hk⟩ := hH
  have top := hk (d 64 2 - 1) (by omega) (by omega)
  have et : ksl (d 64 1) (d 64 2) (d 64 2 - 1) = 66 + 63 * ((d 64 1 + 8 - 1) % 8) := by
    unfold ksl
    omega
  rw [et] at top
  obtain ⟨c1, c2, c3, c4⟩ := undoC hn top
  obtain ⟨u1, -, -, u2, u3⟩ := hr
  rw [r7, ← e7, hu] at u2
  rw [r7, r1, ← e0, hu] at u3
  have f1 : d' 64 1 = (d 64 1 + 8 - 1) % 8 := by rw [hc 64 (by decide) (by decide)]; exact c3
  have f2 : d' 64 2 = d 64 2 - 1 := by rw [hc 64 (by decide) (by decide)]; exact c4
  have f3 : d' 771 = d 771 := by rw [e1, u1 771 (by decide) (by decide), r1]
  refine ⟨⟨by omega, by omega, by omega, fun k x y => ?_⟩, ?_⟩
  · rw [f1, f2, f3]
    rw [f2] at y
    have e : ksl ((d 64 1 + 8 - 1) % 8) (d 64 2 - 1) k = ksl (d 64 1) (d 64 2) k := by
      unfold ksl
      omega
    rw [e]
    have r : 66 ≤ ksl (d 64 1) (d 64 2) k ∧ ksl (d 64 1) (d 64 2) k ≤ 507 := by
      unfold ksl
      omega
    exact (hk k x (by omega)).fr (fun b x y => by rw [hc b (by omega) (by omega), c2 b (by omega) (by omega)])
  · refine OKR.row (w := fun i => d 771 (3116 * (d 64 2 - 1) + i)) (fun i a b => u3 i a b) (c1.fr (fun b x y => hc b (by omega) (by omega)))
-- nothing can be undone
theorem noneH {d' : mD} (h1 : 0 ≤ d' 64 1 ∧ d' 64 1 < 8) (h2 : d' 64 2 = 0) (h7 : d' 769 7 = 0) : HistRel d' := ⟨h1, by omega, by omega, fun k x y => by omega⟩
-- save
def SaveW (a : Int) (d d' : mD) : Prop := (∀ b, ¬ b = 772 → ¬ b = 775 → d' b = d b) ∧ d' 775 a = 1 ∧ (∀ j, ¬ j = a → d' 775 j = d 775 j) ∧ (∀ i, 0 ≤ i → i < 3116 → d' 772 (3116 * a + i) = d 770 i) ∧ ∀ j, ¬ (3116 * a ≤ j ∧ j < 3116 * a + 3116) → d' 772 j = d 772 j
theorem save295 {a : Int} {d : mD} : SaveW a d (lp_295_29 769 a (3116 - 0 : Int).toNat 0 d) := by
  obtain ⟨d', q1, q2, q3, q4⟩ := copyLoop (L := lp_295_29 769 a) (F := fun e => mset e 775 a 1) (I := fun _ => True) (A := 772) (B := 3116 * a) (C := 770) (D := 0) (N := 3116) (by decide) (fun _ _ _ _ => trivial) (fun n x e _ hx => by
    have st : ∀ r, st_295_29 769 a r x e = mset e 775 a 1 := fun r => by
      unfold st_295_29
      rw [if_neg (by omega)]
      rfl
    cases n with
    | zero => exact st _
    | succ n => exact st _) (fun n x e _ hx => by
    show st_295_29 769 a _ x e = _
    unfold st_295_29
    rw [if_pos hx, Int.zero_add]
    rfl) (3116 - 0 : Int).toNat 0 d trivial (by decide) (by decide)
  rw [q1]
  refine ⟨fun b x y => ?_, ms_e rfl rfl, fun j hj => ?_, fun i x y => ?_, fun j hj => ?_⟩
  · show mset d' 775 a 1 b = _
    rw [← q2 b x]
    funext j
    exact ms_a y
  · show mset d' 775 a 1 775 j = _
    rw [ms_i hj, q2 775 (by decide)]
  · show mset d' 775 a 1 772 _ = _
    rw [ms_a (by decide), q3 i x y, Int.zero_add]
  · show mset d' 775 a 1 772 _ = _
    rw [ms_a (by decide)]
    exact q4 j (by omega)
theorem saveH {a : Int} {d d' : mD} (ha : a = 0 ∨ a = 1) (hS : SaveRel d) (h : OKR 1 d (d 770)) (hc : ∀ b, 571 ≤ b → b ≤ 768 → d' b = mset (g_59 (643 + 63 * a) 1 d) 571 a 1 b) {r r' : mD} (hr : SaveW a r r') (r0 : r 770 = d 770) (r2 : r 772 = d 772) (r5 : r 775 = d 775) (e2 : d' 772 = r' 772) (e5 : d' 775 = r' 775) : SaveRel d' := by
  obtain ⟨c1, c2⟩ := h.copy (a := 643 + 63 * a) (by omega)
  obtain ⟨-, u1, u2, u3, u4⟩ := hr
  rw [← e5] at u1
  rw [← e5, r5] at u2
  rw [← e2, r0] at u3
  rw [← e2, r2] at u4
  have g571 : g_59 (643 + 63 * a) 1 d 571 = d 571 := c2 571 (by omega)
  intro j hj
  by_cases z : j = a
  · refine ⟨?_, fun _ => ?_⟩
    · rw [hc 571 (by decide) (by decide), z, ms_e rfl rfl, u1]
    · rw [z]
      refine OKR.row (w := d 770) (fun i x y => u3 i x y) (c1.fr (fun b x y => ?_))
      rw [hc b (by omega) (by omega)]
      funext k
      exact ms_a (by omega)
  · obtain ⟨s1, s2⟩ := hS j hj
    refine ⟨?_, fun y => ?_⟩
    · rw [hc 571 (by decide) (by decide), ms_i z, u2 j z, g571]
      exact s1
    · rw [u2 j z] at y
      refine OKR.row (w := fun i => d 772 (3116 * j + i)) (fun i x y => u4 _ (by omega)) ((s2 y).fr (fun b x y => ?_))
      rw [hc b (by omega) (by omega), ← c2 b (by omega)]
      funext k
      exact ms_a (by omega)
-- restore
def RestW (a : Int) (d d' : mD) : Prop := (∀ b, ¬ b = 769 → ¬ b = 770 → d' b = d b) ∧ d' 769 7 = 0 ∧ (∀ j, ¬ j = 7 → d' 769 j = d 769 j) ∧ ∀ i, 0 ≤ i → i < 3116 → d' 770 i = d 772 (3116 * a + i)
theorem rest296 {a : Int} {d : mD} : RestW a d (lp_296_42 769 a (3116 - 0 : Int).toNat 0 d) := by
  obtain ⟨d', q1, q2, q3, q4⟩ := copyLoop (L := lp_296_42 769 a) (F := fun e => mset e 769 7 0) (I := fun _ => True) (A := 770) (B := 0) (C := 772) (D := 3116 * a) (N := 3116) (by decide) (fun _ _ _ _ => trivial) (fun n x e _ hx => by
    have st : ∀ r, st_296_42 769 a r x e = mset e 769 7 0 := fun r => by
      unfold st_296_42
      rw [if_neg (by omega)]
    cases n with
    | zero => exact st _
    | succ n => exact st _) (fun n x e _ hx => by
    show st_296_42 769 a _ x e = _
    unfold st_296_42
    rw [if_pos hx, Int.zero_add]
    rfl) (3116 - 0 : Int).toNat 0 d trivial (by decide) (by decide)
  rw [q1]
  refine ⟨fun b x y => ?_, ms_e rfl rfl, fun j hj => ?_, fun i x y => ?_⟩
  · show mset d' 769 7 0 b = _
    rw [← q2 b y]
    funext j
    exact ms_a x
  · show mset d' 769 7 0 769 j = _
    rw [ms_i hj, q2 769 (by decide)]
  · show mset d' 769 7 0 770 _ = _
    have := q3 i x y
    rw [Int.zero_add] at this
    rw [ms_a (by decide), this]
theorem restH {a : Int} {d d' : mD} (ha : a = 0 ∨ a = 1) (hS : SaveRel d) (hv : ¬ d 775 a = 0) (hn : 0 ≤ d 64 1 ∧ d 64 1 < 8) (hc : ∀ b, 1 ≤ b → b ≤ 65 → d' b = g_4 64 (g_59 1 (643 + 63 * a) d) b) {r r' : mD} (hr : RestW a r r') (r2 : r 772 = d 772) (e7 : d' 769 7 = r' 769 7) (e0 : d' 770 = r' 770) : HistRel d' ∧ OKR 1 d' (d' 770) := by
  obtain ⟨-, u1, -, u2⟩ := hr
  rw [← e7] at u1
  rw [← e0, r2] at u2
  obtain ⟨c1, c2⟩ := ((hS a ha).2 hv).copy (a := 1) (by omega)
  have f64 : d' 64 = g_4 64 (g_59 1 (643 + 63 * a) d) 64 := hc 64 (by decide) (by decide)
  refine ⟨noneH ?_ ?_ u1, OKR.row (w := fun i => d 772 (3116 * a + i)) (fun i x y => u2 i x y) (c1.fr (fun b x y => ?_))⟩
  · rw [f64]
    unfold g_4
    rw [ms_i (by decide), c2 64 (by omega)]
    exact hn
  · rw [f64]
    unfold g_4
    exact ms_e rfl rfl
  · rw [hc b (by omega) (by omega)]
    unfold g_4
    funext k
    exact ms_a (by omega)
/-! ===== the text: bytes ===== -/
theorem bvByte (x : BitVec 8) (y : BitVec 32) (h : ∀ i, i < 32 → y.getLsbD i = (decide (i < 8) && x.getLsbD i)) : x.toInt % 256 = y.toInt := by
  have e : y = x.setWidth 32 := by
    apply BitVec.eq_of_getLsbD_eq
    intro i hi
    rw [h i hi, BitVec.getLsbD_setWidth]
    by_cases q : i < 8
    · simp [q, hi]
    · simp [q, BitVec.getLsbD_of_ge x i (by omega)]
  have hx := x.isLt
  have ey : y.toNat = x.toNat := by
    rw [e, BitVec.toNat_setWidth]
    exact Nat.mod_eq_of_lt (by omega)
  rw [BitVec.toInt_eq_toNat_cond, BitVec.toInt_eq_toNat_cond, ey]
  split <;> split <;> omega
theorem i2bB (X : Int) : mi2b X = (((Int32.ofInt X).toBitVec).setWidth 8).toInt := by
  unfold mi2b
  rw [Int8.toInt_toInt32]
  show (((Int32.ofInt X).toInt8).toBitVec).toInt = _
  rw [Int32.toBitVec_toInt8, BitVec.signExtend_eq_setWidth_of_le _ (by decide)]
theorem andB (W : Int) (k : Nat) (h : k < 31) (i : Nat) (hi : i < 32) : ((Int32.ofInt W >>> (Int32.ofInt (k : Int) &&& 31)) &&& Int32.ofInt 255).toBitVec.getLsbD i = (decide (i < 8) && ((Int32.ofInt W).toBitVec.sshiftRight k).getLsbD i) := by
  have e1 : (Int32.ofInt W >>> (Int32.ofInt (k : Int) &&& 31)).toBitVec = (Int32.ofInt W).toBitVec.sshiftRight k := by
    rw [Int32.toBitVec_shiftRight]
    have e3 : ((Int32.ofInt (k : Int) &&& 31).toBitVec.smod 32).toNat = k := by
      have : ∀ k : Fin 31, ((Int32.ofInt ((k.val : Nat) : Int) &&& 31).toBitVec.smod 32).toNat = k.val := by decide +kernel
      exact this ⟨k, h⟩
    show (Int32.ofInt W).toBitVec.sshiftRight (((Int32.ofInt (k : Int) &&& 31).toBitVec.smod 32).toNat) = _
    rw [e3]
  have e2 : ∀ i : Fin 32, (Int32.ofInt 255).toBitVec.getLsbD i.val = decide (i.val < 8) := by decide +kernel
  rw [Int32.toBitVec_and, BitVec.getLsbD_and, e1, e2 ⟨i, hi⟩, Bool.and_comm]
theorem byteEq (W : Int) (k : Nat) (h : k ≤ 24) : mi2b (miushr W (k : Int)) % 256 = miand (mishr W (k : Int)) 255 := by
  rw [i2bB]
  unfold miand mI mishr mI miushr mI
  rw [m_back, m_back]
  refine bvByte _ _ (fun i hi => ?_)
  rw [andB W k (by omega) i hi, BitVec.getLsbD_sshiftRight, BitVec.getLsbD_setWidth]
  by_cases q : i < 8
  · have e1 : ((Int32.ofInt W).toUInt32 >>> ((Int32.ofInt (k : Int)).toUInt32 &&& Int32.toUInt32 31)).toInt32.toBitVec = (Int32.ofInt W).toBitVec >>> k := by
      have e3 : ((Int32.ofInt (k : Int)).toUInt32 &&& Int32.toUInt32 31).toNat % 32 = k := by
        have : ∀ k : Fin 31, ((Int32.ofInt ((k.val : Nat) : Int)).toUInt32 &&& Int32.toUInt32 31).toNat % 32 = k.val := by decide +kernel
        exact this ⟨k, by omega⟩
      apply BitVec.eq_of_toNat_eq
      show ((Int32.ofInt W).toUInt32 >>> ((Int32.ofInt (k : Int)).toUInt32 &&& Int32.toUInt32 31)).toNat = _
      rw [UInt32.toNat_shiftRight, e3, BitVec.toNat_ushiftRight]
      rfl
    rw [e1, BitVec.getLsbD_ushiftRight]
    have c : k + i < 32 := by omega
    simp [q, c]
    omega
  · simp [q]
theorem byteEq0 (W : Int) : mi2b W % 256 = miand (mishr W 0) 255 := by
  rw [i2bB]
  unfold miand mI mishr mI
  rw [m_back]
  refine bvByte _ _ (fun i hi => ?_)
  have h := andB W 0 (by omega) i hi
  rw [BitVec.getLsbD_sshiftRight] at h
  have h2 : ((Int32.ofInt W >>> (Int32.ofInt 0 &&& 31)) &&& Int32.ofInt 255).toBitVec.getLsbD i = _ := h
  rw [h2, BitVec.getLsbD_setWidth]
  by_cases q : i < 8
  · have c : 0 + i < 32 := by omega
    rw [Nat.zero_add] at c
    rw [Nat.zero_add]
    have c2 : ¬ 32 ≤ i := by omega
    simp only [q, c, c2, decide_true, decide_false, Bool.true_and, Bool.not_false, Bool.true_and, if_true, if_pos]
  · simp [q]
/-! ===== the text of both sides ===== -/
def TextR (d e : mD) : Prop := (0 ≤ d 578 1 ∧ d 578 1 ≤ 1000) ∧ e 769 9 = d 578 1 ∧ ∀ i, 0 ≤ i → i < d 578 1 → d 579 i % 256 = e 776 i ∧ -128 ≤ d 579 i ∧ d 579 i ≤ 127
theorem i2b_rng (X : Int) : -128 ≤ mi2b X ∧ mi2b X ≤ 127 := by
  rw [i2bB]
  have h := ((Int32.ofInt X).toBitVec.setWidth 8).isLt
  rw [BitVec.toInt_eq_toNat_cond]
  split <;> omega
theorem TextR.fr {d d' e e' : mD} (h : TextR d e) (h1 : d' 578 1 = d 578 1) (h2 : d' 579 = d 579) (h3 : e' 769 9 = e 769 9) (h4 : e' 776 = e 776) : TextR d' e' := by
  unfold TextR
  rw [h1, h2, h3, h4]
  exact h
theorem TextR.put {d e : mD} {v u : Int} (h : TextR d e) (hl : d 578 1 < 1000) (hu : mi2b v % 256 = u) : TextR (g_86 578 v d) (mset (mset e 776 (e 769 9) u) 769 9 (e 769 9 + 1)) ∧ g_86 578 v d 578 1 = d 578 1 + 1 ∧ ∀ b, ¬ b = 578 → ¬ b = 579 → g_86 578 v d b = d b := by
  obtain ⟨h1, h2, h3⟩ := h
  have hr := i2b_rng v
  have e1 : g_86 578 v d = mset (mset d 579 (d 578 1) (mi2b v)) 578 1 (d 578 1 + 1) := by
    unfold g_86
    rw [if_pos hl]
    rfl
  rw [e1, h2]
  refine ⟨⟨?_, ?_, fun i a b => ?_⟩, ms_e rfl rfl, fun b x y => ?_⟩
  · rw [ms_e rfl rfl]; omega
  · rw [ms_e rfl rfl, ms_e rfl rfl]
  · rw [ms_e rfl rfl] at b
    have q1 : ∀ j, mset (mset d 579 (d 578 1) (mi2b v)) 578 1 (d 578 1 + 1) 579 j = mset d 579 (d 578 1) (mi2b v) 579 j := fun j => ms_a (by decide)
    have q2 : ∀ j, mset (mset e 776 (d 578 1) u) 769 9 (d 578 1 + 1) 776 j = mset e 776 (d 578 1) u 776 j := fun j => ms_a (by decide)
    rw [q1, q2]
    by_cases z : i = d 578 1
    · rw [z, ms_e rfl rfl, ms_e rfl rfl]
      exact ⟨hu, hr⟩
    · rw [ms_i z, ms_i z]
      exact h3 i a (by omega)
  · funext j
    rw [ms_a x, ms_a y]
def putR (x k : Int) (e : mD) : mD := mset (mset e 776 (e 769 9) (miand (mishr x k) 255)) 769 9 (e 769 9 + 1)
theorem st185 {x : Int} {e : mD} : g_185 769 x e = putR x 0 (putR x 8 (putR x 16 (putR x 24 e))) := by
  have s : ∀ (n : Nat) (k : Int) (e : mD), 0 ≤ k → lp_185_3 769 x (n + 1) k e = lp_185_3 769 x n (k + -8) (putR x k e) := fun n k e hk => by
    show st_185_3 769 x _ k e = _
    unfold st_185_3
    rw [if_neg (by omega)]
    rfl
  have z : ∀ (n : Nat) (k : Int) (e : mD), k < 0 → lp_185_3 769 x n k e = e := fun n k e hk => by
    have st : ∀ r, st_185_3 769 x r k e = e := fun r => by
      unfold st_185_3
      rw [if_pos hk]
    cases n with
    | zero => exact st _
    | succ n => exact st _
  unfold g_185
  rw [show (24 + 8 : Int).toNat = 28 + 1 + 1 + 1 + 1 by decide, s _ 24 e (by decide), s _ (24 + -8) _ (by decide), s _ (24 + -8 + -8) _ (by decide), s _ (24 + -8 + -8 + -8) _ (by decide), z _ _ _ (by decide)]
  rfl
theorem TextR.int {d e : mD} {x : Int} (h : TextR d e) (hl : d 578 1 + 4 ≤ 1000) : TextR (g_87 578 x d) (g_185 769 x e) ∧ g_87 578 x d 578 1 = d 578 1 + 4 ∧ ∀ b, ¬ b = 578 → ¬ b = 579 → g_87 578 x d b = d b := by
  rw [st185]
  unfold g_87
  obtain ⟨a1, a2, a3⟩ := h.put (v := miushr x 24) (u := miand (mishr x 24) 255) (by omega) (byteEq x 24 (by decide))
  obtain ⟨b1, b2, b3⟩ := a1.put (v := miushr x 16) (u := miand (mishr x 16) 255) (by omega) (byteEq x 16 (by decide))
  obtain ⟨c1, c2, c3⟩ := b1.put (v := miushr x 8) (u := miand (mishr x 8) 255) (by omega) (byteEq x 8 (by decide))
  obtain ⟨f1, f2, f3⟩ := c1.put (v := x) (u := miand (mishr x 0) 255) (by omega) (byteEq0 x)
  exact ⟨f1, by omega, fun b x y => by rw [f3 b x y, c3 b x y, b3 b x y, a3 b x y]⟩
theorem putR_f {x k : Int} {e : mD} : (∀ b, ¬ b = 769 → ¬ b = 776 → putR x k e b = e b) ∧ ∀ j, ¬ j = 9 → putR x k e 769 j = e 769 j := by
  unfold putR
  exact ⟨fun b h1 h2 => by funext j; rw [ms_a h1, ms_a h2], fun j hj => by rw [ms_i hj, ms_a (by decide)]⟩
theorem f185 {x : Int} {e : mD} : (∀ b, ¬ b = 769 → ¬ b = 776 → g_185 769 x e b = e b) ∧ ∀ j, ¬ j = 9 → g_185 769 x e 769 j = e 769 j := by
  rw [st185]
  exact ⟨fun b h1 h2 => by rw [putR_f.1 b h1 h2, putR_f.1 b h1 h2, putR_f.1 b h1 h2, putR_f.1 b h1 h2], fun j hj => by rw [putR_f.2 j hj, putR_f.2 j hj, putR_f.2 j hj, putR_f.2 j hj]⟩
theorem TextR.app {d e : mD} {a b c x y : Int} (h : TextR d e) (hl : d 578 1 + 20 ≤ 1000) : TextR (g_87 578 y (g_87 578 x (g_87 578 c (g_87 578 b (g_87 578 a d))))) (g_185 769 y (g_185 769 x (g_185 769 c (g_185 769 b (g_185 769 a e))))) ∧ g_87 578 y (g_87 578 x (g_87 578 c (g_87 578 b (g_87 578 a d)))) 578 1 = d 578 1 + 20 ∧ ∀ k, ¬ k = 578 → ¬ k = 579 → g_87 578 y (g_87 578 x (g_87 578 c (g_87 578 b (g_87 578 a d)))) k = d k := by
  obtain ⟨a1, a2, a3⟩ := h.int (x := a) (by omega)
  obtain ⟨b1, b2, b3⟩ := a1.int (x := b) (by omega)
  obtain ⟨c1, c2, c3⟩ := b1.int (x := c) (by omega)
  obtain ⟨f1, f2, f3⟩ := c1.int (x := x) (by omega)
  obtain ⟨g1, g2, g3⟩ := f1.int (x := y) (by omega)
  exact ⟨g1, by omega, fun k u v => by rw [g3 k u v, f3 k u v, c3 k u v, b3 k u v, a3 k u v]⟩
-- letters, digits, blanks
theorem v176 {x a b : Int} {d : mD} : v_176 x a b d = if a ≤ x ∧ x ≤ b then 1 else 0 := by
  unfold v_176
  have h1 : mcmp x a < 0 ↔ x < a := by
    unfold mcmp
    split
    · omega
    · split <;> omega
  have h2 : 0 < mcmp x b ↔ b < x := by
    unfold mcmp
    split
    · omega
    · split <;> omega
  by_cases c1 : x < a
  · rw [if_pos (h1.2 c1), if_neg (by omega)]
  · rw [if_neg (fun z => c1 (h1.1 z))]
    by_cases c2 : b < x
    · rw [if_pos (h2.2 c2), if_neg (by omega)]
    · rw [if_neg (fun z => c2 (h2.1 z)), if_pos (by omega)]
theorem TextR.letter {d e : mD} {i : Int} (h : TextR d e) (h0 : 0 ≤ i) (h1 : i < d 578 1) : (v_91 578 i d = 0 ∨ v_91 578 i d = 1) ∧ v_190 769 i e = v_91 578 i d ∧ (v_91 578 i d = 1 → e 776 i = d 579 i ∧ 97 ≤ d 579 i ∧ d 579 i ≤ 122) := by
  obtain ⟨a, b, c⟩ := h
  have g := c i h0 h1
  unfold v_190 v_91
  rw [v176, show (769 : Int) + 7 = 776 by decide, show (578 : Int) + 1 = 579 by decide, b, if_pos h1]
  by_cases c1 : d 579 i < 97
  · have zz : ¬ (97 ≤ e 776 i ∧ e 776 i ≤ 122) := by omega
    rw [if_pos c1, if_neg zz, if_pos rfl]
    exact ⟨Or.inl rfl, rfl, fun z => absurd z (by decide)⟩
  · rw [if_neg c1]
    by_cases c2 : 122 < d 579 i
    · have zz : ¬ (97 ≤ e 776 i ∧ e 776 i ≤ 122) := by omega
      rw [if_pos c2, if_neg zz, if_pos rfl]
      exact ⟨Or.inl rfl, rfl, fun z => absurd z (by decide)⟩
    · have zz : 97 ≤ e 776 i ∧ e 776 i ≤ 122 := by omega
      rw [if_neg c2, if_pos zz, if_neg (by decide)]
      exact ⟨Or.inr rfl, rfl, fun _ => by omega⟩
-- the whole text as a name
theorem okStep {c l i : Int} (h : (c = 0 ∧ i = 0) ∨ (okN c ∧ 1 ≤ i)) (hb : (i = 0 ∧ c < 1) ∨ (i = 1 ∧ c < 32) ∨ (i = 2 ∧ c < 1024) ∨ (i = 3 ∧ c < 32768) ∨ (i = 4 ∧ c < 1048576) ∨ (i = 5 ∧ c < 33554432)) (hl : 1 ≤ l ∧ l ≤ 26) : okN (32 * c + l) ∧ nm (32 * c + l) = l + 27 * nm c ∧ ((i = 0 ∧ 32 * c + l < 32) ∨ (i = 1 ∧ 32 * c + l < 1024) ∨ (i = 2 ∧ 32 * c + l < 32768) ∨ (i = 3 ∧ 32 * c + l < 1048576) ∨ (i = 4 ∧ 32 * c + l < 33554432) ∨ (i = 5 ∧ 32 * c + l < 1073741824)) := by
  have c0 : 0 ≤ c := by
    rcases h with h | h
    · omega
    · have := h.1.1
      omega
  have e0 : (32 * c + l) % 32 = l := by clear h hb; omega
  have e1 : (32 * c + l) / 32 % 32 = c % 32 := by clear h hb; omega
  have e2 : (32 * c + l) / 1024 % 32 = c / 32 % 32 := by clear h hb; omega
  have e3 : (32 * c + l) / 32768 % 32 = c / 1024 % 32 := by clear h hb; omega
  have e4 : (32 * c + l) / 1048576 % 32 = c / 32768 % 32 := by clear h hb; omega
  have e5 : (32 * c + l) / 33554432 % 32 = c / 1048576 % 32 := by clear h hb; omega
  have hc5 : c < 33554432 := by
    clear h
    rcases hb with z | z | z | z | z | z <;> omega
  have e6 : c / 33554432 % 32 = 0 := by clear h hb; omega
  refine ⟨?_, ?_, by clear e0 e1 e2 e3 e4 e5 e6 h; rcases hb with z | z | z | z | z | z <;> omega⟩
  · unfold okN
    rw [e0, e1, e2, e3, e4, e5]
    rcases h with h | h
    · rw [h.1]
      exact ⟨by omega, by omega, hl, by decide, by decide, by decide, by decide, by decide, fun _ => by decide, fun _ => by decide, fun _ => by decide, fun _ => by decide⟩
    · obtain ⟨o1, o2, o3, o4, o5, o6, o7, o8, o9, o10, o11, o12⟩ := h.1
      exact ⟨by omega, by omega, hl, o3.2, o4, o5, o6, o7, fun z => by omega, o9, o10, o11⟩
  · unfold nm
    rw [e0, e1, e2, e3, e4, e5, e6]
    omega
/-! ===== the content of the text as a name ===== -/
theorem neg210 {e : mD} : ∀ (n : Nat) (x1 x2 : Int), x1 < 0 → e 769 9 - x2 ≤ (n : Int) → lp_210_4 769 n x1 x2 e = (0, mset e 769 9 0) := by
  have fin : ∀ r x1 x2, x1 < 0 → ¬ x2 < e 769 9 → st_210_4 769 r x1 x2 e = (0, mset e 769 9 0) := fun r x1 x2 a b => by
    unfold st_210_4
    rw [if_neg b, if_pos a]
  intro n
  induction n with
  | zero => intro x1 x2 a b; exact fin _ x1 x2 a (by omega)
  | succ n ih =>
    intro x1 x2 a b
    by_cases c : x2 < e 769 9
    · show st_210_4 769 _ x1 x2 e = _
      unfold st_210_4
      rw [if_pos c]
      split
      · exact ih (-1) (x2 + 1) (by decide) (by omega)
      · split
        · exact ih (-1) (x2 + 1) (by decide) (by omega)
        · exact ih (-1) (x2 + 1) (by decide) (by omega)
    · exact fin _ x1 x2 a c
theorem long210 {e : mD} (hl : 6 < e 769 9) : ∀ (n : Nat) (x1 x2 : Int), x2 ≤ 6 → e 769 9 - x2 ≤ (n : Int) → lp_210_4 769 n x1 x2 e = (0, mset e 769 9 0) := by
  intro n
  induction n with
  | zero => intro x1 x2 a b; omega
  | succ n ih =>
    intro x1 x2 a b
    show st_210_4 769 _ x1 x2 e = _
    unfold st_210_4
    rw [if_pos (by omega)]
    split
    · exact neg210 n (-1) (x2 + 1) (by decide) (by omega)
    · by_cases c : x2 < 6
      · rw [if_pos c]
        split
        · exact neg210 n (-1) (x2 + 1) (by decide) (by omega)
        · exact ih _ (x2 + 1) (by omega) (by omega)
      · rw [if_neg c]
        exact neg210 n (-1) (x2 + 1) (by decide) (by omega)
def nmB (i c : Int) : Prop := (i = 0 ∧ c < 1) ∨ (i = 1 ∧ c < 32) ∨ (i = 2 ∧ c < 1024) ∨ (i = 3 ∧ c < 32768) ∨ (i = 4 ∧ c < 1048576) ∨ (i = 5 ∧ c < 33554432) ∨ (i = 6 ∧ c < 1073741824)
theorem nmB.lt {i c : Int} (h : nmB i c) (hi : i < 6) : (i = 0 ∧ c < 1) ∨ (i = 1 ∧ c < 32) ∨ (i = 2 ∧ c < 1024) ∨ (i = 3 ∧ c < 32768) ∨ (i = 4 ∧ c < 1048576) ∨ (i = 5 ∧ c < 33554432) := by
  unfold nmB at h
  rcases h with h | h | h | h | h | h | h <;> omega
theorem nmB.b5 {i c : Int} (h : (i = 0 ∧ c < 1) ∨ (i = 1 ∧ c < 32) ∨ (i = 2 ∧ c < 1024) ∨ (i = 3 ∧ c < 32768) ∨ (i = 4 ∧ c < 1048576) ∨ (i = 5 ∧ c < 33554432)) : c < 33554432 := by
  rcases h with h | h | h | h | h | h <;> omega
theorem nmB.up {i x : Int} (h : (i = 0 ∧ x < 32) ∨ (i = 1 ∧ x < 1024) ∨ (i = 2 ∧ x < 32768) ∨ (i = 3 ∧ x < 1048576) ∨ (i = 4 ∧ x < 33554432) ∨ (i = 5 ∧ x < 1073741824)) : nmB (i + 1) x := by
  unfold nmB
  rcases h with h | h | h | h | h | h <;> omega
theorem mior5 {c l : Int} (h0 : 0 ≤ c) (h1 : c < 33554432) (l1 : 1 ≤ l) (l2 : l ≤ 31) : mior (mishl c 5) l = 32 * c + l := by
  rcases mname_or c l with y | y | y | y | y
  · exact y.2.2.2.2
  all_goals omega
theorem nm_zero : nm 0 = 0 := by decide
theorem loop210 {d e : mD} (h : TextR d e) (h1 : 1 ≤ d 578 1 ∧ d 578 1 ≤ 6) : ∀ (n nr : Nat) (c i : Int), ((c = 0 ∧ i = 0) ∨ (okN c ∧ 1 ≤ i)) → nmB i c → i ≤ d 578 1 → d 578 1 - i ≤ (n : Int) → d 578 1 - i ≤ (nr : Int) → (lp_93_20 578 0 (d 578 1) n c i d = -1 ∧ lp_210_4 769 nr (nm c) i e = (0, mset e 769 9 0)) ∨ (okN (lp_93_20 578 0 (d 578 1) n c i d) ∧ lp_210_4 769 nr (nm c) i e = (nm (lp_93_20 578 0 (d 578 1) n c i d), mset e 769 9 0)) := by
  have e9 : e 769 9 = d 578 1 := h.2.1
  have fin : ∀ (r : Int → Int → mD → Int) (r' : Int → Int → mD → Int × mD) (c i : Int), ((c = 0 ∧ i = 0) ∨ (okN c ∧ 1 ≤ i)) → ¬ i < d 578 1 → i ≤ d 578 1 → (st_93_20 578 0 (d 578 1) r c i d = -1 ∧ st_210_4 769 r' (nm c) i e = (0, mset e 769 9 0)) ∨ (okN (st_93_20 578 0 (d 578 1) r c i d) ∧ st_210_4 769 r' (nm c) i e = (nm (st_93_20 578 0 (d 578 1) r c i d), mset e 769 9 0)) := fun r r' c i hc a b => by
    have ho : okN c := by
      rcases hc with hc | hc
      · omega
      · exact hc.1
    have hp := nm_pos ho
    unfold st_93_20 st_210_4
    rw [if_neg a, e9, if_neg a, if_neg (by omega)]
    exact Or.inr ⟨ho, rfl⟩
  intro n
  induction n with
  | zero =>
    intro nr c i hc hb a b b'
    cases nr with
    | zero => exact fin _ _ c i hc (by omega) a
    | succ nr => exact fin _ _ c i hc (by omega) a
  | succ n ih =>
    intro nr c i hc hb a b b'
    by_cases q : i < d 578 1
    · cases nr with
      | zero => omega
      | succ nr =>
        have i0 : 0 ≤ i := by
          rcases hc with hc | hc <;> omega
        obtain ⟨l1, l2, l3⟩ := h.letter i0 q
        by_cases z : v_91 578 i d = 0
        · have e1 : lp_93_20 578 0 (d 578 1) (n + 1) c i d = -1 := by
            show st_93_20 578 0 (d 578 1) _ c i d = _
            unfold st_93_20
            rw [if_pos q, if_pos z]
          have e2 : lp_210_4 769 (nr + 1) (nm c) i e = lp_210_4 769 nr (-1) (i + 1) e := by
            show st_210_4 769 _ (nm c) i e = _
            unfold st_210_4
            rw [e9, if_pos q, l2, if_pos z]
          exact Or.inl ⟨e1, by rw [e2]; exact neg210 nr (-1) (i + 1) (by decide) (by omega)⟩
        · have z1 : v_91 578 i d = 1 := by omega
          obtain ⟨b1, b2, b3⟩ := l3 z1
          have hb' : (i = 0 ∧ c < 1) ∨ (i = 1 ∧ c < 32) ∨ (i = 2 ∧ c < 1024) ∨ (i = 3 ∧ c < 32768) ∨ (i = 4 ∧ c < 1048576) ∨ (i = 5 ∧ c < 33554432) := by
            exact hb.lt (by omega)
          have hc5 := nmB.b5 hb'
          obtain ⟨o1, o2, o3⟩ := okStep (l := d 579 i - 96) hc hb' (by clear hb hb'; omega)
          clear hb hb'
          have hc0 : 0 ≤ c := by
            rcases hc with hc | hc
            · omega
            · have := hc.1.1
              omega
          have hm : mior (mishl c 5) (d 579 i - 96) = 32 * c + (d 579 i - 96) := by
            exact mior5 hc0 hc5 (by clear o3; omega) (by clear o3; omega)
          have hn : ¬ nm c < 0 := by
            rcases hc with hc | hc
            · rw [hc.1, nm_zero]; decide
            · have := nm_pos hc.1
              omega
          have e1 : lp_93_20 578 0 (d 578 1) (n + 1) c i d = lp_93_20 578 0 (d 578 1) n (32 * c + (d 579 i - 96)) (i + 1) d := by
            show st_93_20 578 0 (d 578 1) _ c i d = _
            unfold st_93_20
            rw [if_pos q, if_neg z, show (578 : Int) + 1 = 579 by decide, hm]
          have e2 : lp_210_4 769 (nr + 1) (nm c) i e = lp_210_4 769 nr (nm (32 * c + (d 579 i - 96))) (i + 1) e := by
            show st_210_4 769 _ (nm c) i e = _
            unfold st_210_4
            rw [e9, if_pos q, l2, if_neg z, if_pos (by omega), if_neg hn, show (769 : Int) + 7 = 776 by decide, b1, o2, show 27 * nm c + d 579 i - 97 + 1 = d 579 i - 96 + 27 * nm c by omega]
          rw [e1, e2]
          exact ih nr _ (i + 1) (Or.inr ⟨o1, by clear o3; omega⟩) (nmB.up o3) (by clear o3; omega) (by clear o3; omega) (by clear o3; omega)
    · cases nr with
      | zero => exact fin _ _ c i hc q a
      | succ nr => exact fin _ _ c i hc q a
theorem content {d e : mD} (h : TextR d e) : ((v_93 578 0 (d 578 1) d = -1 ∧ v_210 769 e = 0) ∨ (okN (v_93 578 0 (d 578 1) d) ∧ v_210 769 e = nm (v_93 578 0 (d 578 1) d))) ∧ g_210 769 e = mset e 769 9 0 := by
  have e9 : e 769 9 = d 578 1 := h.2.1
  have hr := h.1
  have fuel : (((1000 - 0 : Int).toNat : Nat) : Int) = 1000 := by decide
  unfold v_93 v_210 g_210 f_210
  by_cases c : 0 < d 578 1
  · rw [if_pos c]
    by_cases c6 : 6 < d 578 1
    · rw [if_pos (by omega), long210 (by omega) (1000 - 0 : Int).toNat 0 0 (by decide) (by omega)]
      exact ⟨Or.inl ⟨rfl, rfl⟩, rfl⟩
    · rw [if_neg (by omega)]
      have := loop210 h (by omega) (d 578 1 - 0 : Int).toNat (1000 - 0 : Int).toNat 0 0 (Or.inl ⟨rfl, rfl⟩) (Or.inl ⟨rfl, by decide⟩) (by omega) (by omega) (by omega)
      rw [nm_zero] at this
      rcases this with ⟨a, b⟩ | ⟨a, b⟩
      · rw [a, b]
        exact ⟨Or.inl ⟨rfl, rfl⟩, rfl⟩
      · rw [b]
        exact ⟨Or.inr ⟨a, rfl⟩, rfl⟩
  · rw [if_neg c]
    have st : lp_210_4 769 (1000 - 0 : Int).toNat 0 0 e = (0, mset e 769 9 0) := by
      have s : ∀ r, st_210_4 769 r 0 0 e = (0, mset e 769 9 0) := fun r => by
        unfold st_210_4
        rw [if_neg (by omega), if_neg (by decide)]
      exact s _
    rw [st]
    exact ⟨Or.inl ⟨rfl, rfl⟩, rfl⟩
/-! ===== tokens of the text: what the class's reader finds ===== -/
def isBl (x : Int) : Prop := x = 32 ∨ x = 10
def isLe (x : Int) : Prop := 97 ≤ x ∧ x ≤ 122
def isDi (x : Int) : Prop := 48 ≤ x ∧ x ≤ 57
def BL (b : Int → Int) (L i a : Int) : Prop := i ≤ a ∧ a ≤ L ∧ (∀ j, i ≤ j → j < a → isBl (b j)) ∧ (a < L → ¬ isBl (b a))
def RU (P : Int → Prop) (b : Int → Int) (L a z : Int) : Prop := a ≤ z ∧ z ≤ L ∧ (∀ j, a ≤ j → j < z → P (b j)) ∧ (z < L → ¬ P (b z))
def dv (b : Int → Int) (a : Int) : Nat → Int
  | 0 => 0
  | n + 1 => dv b a n * 10 + b (a + n) - 48
def TokAt (b : Int → Int) (L a k z m : Int) : Prop := (a = L ∧ k = 3 ∧ z = a) ∨ (a < L ∧ isLe (b a) ∧ k = 0 ∧ RU isLe b L a z) ∨ (a < L ∧ isDi (b a) ∧ RU isDi b L a z ∧ ((z - a ≤ 5 ∧ k = 1 ∧ m = dv b a (z - a).toNat) ∨ (5 < z - a ∧ k = 4))) ∨ (a < L ∧ b a = 59 ∧ k = 2 ∧ z = a + 1) ∨ (a < L ∧ ¬ isLe (b a) ∧ ¬ isDi (b a) ∧ ¬ b a = 59 ∧ k = 4 ∧ z = a + 1)
theorem BL.uni {b : Int → Int} {L i a a' : Int} (h : BL b L i a) (h' : BL b L i a') : a = a' := by
  obtain ⟨p1, p2, p3, p4⟩ := h
  obtain ⟨q1, q2, q3, q4⟩ := h'
  by_cases x : a < a'
  · exact absurd (q3 a p1 x) (p4 (by omega))
  · by_cases y : a' < a
    · exact absurd (p3 a' q1 y) (q4 (by omega))
    · omega
theorem RU.uni {P : Int → Prop} {b : Int → Int} {L i a a' : Int} (h : RU P b L i a) (h' : RU P b L i a') : a = a' := by
  obtain ⟨p1, p2, p3, p4⟩ := h
  obtain ⟨q1, q2, q3, q4⟩ := h'
  by_cases x : a < a'
  · exact absurd (q3 a p1 x) (p4 (by omega))
  · by_cases y : a' < a
    · exact absurd (p3 a' q1 y) (q4 (by omega))
    · omega
theorem v90_i {i : Int} {d : mD} : (v_90 578 i d = 0 ∧ ¬ isBl (d 579 i)) ∨ (v_90 578 i d = 1 ∧ isBl (d 579 i)) := by
  unfold v_90 isBl
  rw [show (578 : Int) + 1 = 579 by decide]
  split
  · exact Or.inr ⟨rfl, Or.inl (by assumption)⟩
  · split
    · exact Or.inr ⟨rfl, Or.inr (by assumption)⟩
    · exact Or.inl ⟨rfl, by omega⟩
theorem v91_i {i : Int} {d : mD} : (v_91 578 i d = 0 ∧ ¬ isLe (d 579 i)) ∨ (v_91 578 i d = 1 ∧ isLe (d 579 i)) := by
  unfold v_91 isLe
  rw [show (578 : Int) + 1 = 579 by decide]
  split
  · exact Or.inl ⟨rfl, by omega⟩
  · split
    · exact Or.inl ⟨rfl, by omega⟩
    · exact Or.inr ⟨rfl, by omega⟩
theorem v92_i {i : Int} {d : mD} : (v_92 578 i d = 0 ∧ ¬ isDi (d 579 i)) ∨ (v_92 578 i d = 1 ∧ isDi (d 579 i)) := by
  unfold v_92 isDi
  rw [show (578 : Int) + 1 = 579 by decide]
  split
  · exact Or.inl ⟨rfl, by omega⟩
  · split
    · exact Or.inl ⟨rfl, by omega⟩
    · exact Or.inr ⟨rfl, by omega⟩
theorem l53 {L : Int} : ∀ (n : Nat) (d : mD), d 578 1 = L → d 577 3 ≤ L → L - d 577 3 ≤ (n : Int) → ∃ z d', lp_53_0 577 n d = d' ∧ RU isLe (d 579) L (d 577 3) z ∧ (∀ b, ¬ b = 577 → d' b = d b) ∧ (∀ j, ¬ j = 1 → ¬ j = 3 → d' 577 j = d 577 j) ∧ d' 577 3 = z ∧ d' 577 1 = 0 := by
  have stop : ∀ (d : mD), d 577 3 ≤ L → (d 577 3 < L → ¬ isLe (d 579 (d 577 3))) → ∃ z d', mset d 577 1 0 = d' ∧ RU isLe (d 579) L (d 577 3) z ∧ (∀ b, ¬ b = 577 → d' b = d b) ∧ (∀ j, ¬ j = 1 → ¬ j = 3 → d' 577 j = d 577 j) ∧ d' 577 3 = z ∧ d' 577 1 = 0 := fun d hb hc =>
    ⟨d 577 3, _, rfl, ⟨by omega, hb, fun j x y => by omega, hc⟩, fun b hb => by funext j; exact ms_a hb, fun j x _ => ms_i x, ms_i (by decide), ms_e rfl rfl⟩
  intro n
  induction n with
  | zero =>
    intro d hL ha hn
    have e : lp_53_0 577 0 d = mset d 577 1 0 := by
      show st_53_0 577 _ d = _
      unfold st_53_0
      rw [show (577 : Int) + 1 = 578 by decide, hL, if_neg (by omega)]
    rw [e]
    exact stop d ha (fun z => by omega)
  | succ n ih =>
    intro d hL ha hn
    have st : lp_53_0 577 (n + 1) d = if d 577 3 < L then (if v_91 578 (d 577 3) d = 0 then mset d 577 1 0 else lp_53_0 577 n (mset d 577 3 (d 577 3 + 1))) else mset d 577 1 0 := by
      show st_53_0 577 _ d = _
      unfold st_53_0
      rw [show (577 : Int) + 1 = 578 by decide, hL]
    by_cases c : d 577 3 < L
    · rw [if_pos c] at st
      rcases v91_i (i := d 577 3) (d := d) with ⟨v, g⟩ | ⟨v, g⟩
      · rw [if_pos v] at st
        rw [st]
        exact stop d ha (fun _ => g)
      · rw [if_neg (by omega)] at st
        rw [st]
        have e3 : mset d 577 3 (d 577 3 + 1) 577 3 = d 577 3 + 1 := ms_e rfl rfl
        have e9 : mset d 577 3 (d 577 3 + 1) 579 = d 579 := by funext j; exact ms_a (by decide)
        obtain ⟨z, d', q1, q2, q3, q4, q5, q6⟩ := ih (mset d 577 3 (d 577 3 + 1)) (by rw [ms_a (by decide)]; exact hL) (by rw [e3]; omega) (by rw [e3]; omega)
        rw [e3, e9] at q2
        refine ⟨z, d', q1, ⟨by have := q2.1; omega, q2.2.1, fun j x y => ?_, q2.2.2.2⟩, fun b hb => ?_, fun j x y => ?_, q5, q6⟩
        · by_cases y2 : j = d 577 3
          · rw [y2]; exact g
          · exact q2.2.2.1 j (by omega) y
        · rw [q3 b hb]
          funext j
          exact ms_a hb
        · rw [q4 j x y, ms_i y]
    · rw [if_neg c] at st
      rw [st]
      exact stop d ha (fun z => absurd z c)
theorem l54 {L a : Int} : ∀ (n : Nat) (d : mD), d 578 1 = L → d 577 2 = a → a ≤ d 577 3 → d 577 3 ≤ L → L - d 577 3 ≤ (n : Int) → (d 577 3 - a ≤ 5 → d 577 4 = dv (d 579) a (d 577 3 - a).toNat) → ∃ z d', lp_54_5 577 n d = d' ∧ RU isDi (d 579) L (d 577 3) z ∧ (∀ b, ¬ b = 577 → d' b = d b) ∧ d' 577 2 = a ∧ d' 577 3 = z ∧ ((z - a ≤ 5 ∧ d' 577 1 = 1 ∧ d' 577 4 = dv (d 579) a (z - a).toNat) ∨ (5 < z - a ∧ d' 577 1 = 4)) := by
  have stop : ∀ (d : mD), d 577 2 = a → d 577 3 ≤ L → (d 577 3 - a ≤ 5 → d 577 4 = dv (d 579) a (d 577 3 - a).toNat) → (d 577 3 < L → ¬ isDi (d 579 (d 577 3))) → ∃ z d', (if (5 : Int) < d 577 3 - d 577 2 then mset d 577 1 4 else mset d 577 1 1) = d' ∧ RU isDi (d 579) L (d 577 3) z ∧ (∀ b, ¬ b = 577 → d' b = d b) ∧ d' 577 2 = a ∧ d' 577 3 = z ∧ ((z - a ≤ 5 ∧ d' 577 1 = 1 ∧ d' 577 4 = dv (d 579) a (z - a).toNat) ∨ (5 < z - a ∧ d' 577 1 = 4)) := fun d h2 hb hv hc => by
    rw [h2]
    by_cases c5 : 5 < d 577 3 - a
    · rw [if_pos c5]
      exact ⟨d 577 3, _, rfl, ⟨by omega, hb, fun j x y => by omega, hc⟩, fun b hb => by funext j; exact ms_a hb, by rw [ms_i (by decide)]; exact h2, ms_i (by decide), Or.inr ⟨c5, ms_e rfl rfl⟩⟩
    · rw [if_neg c5]
      exact ⟨d 577 3, _, rfl, ⟨by omega, hb, fun j x y => by omega, hc⟩, fun b hb => by funext j; exact ms_a hb, by rw [ms_i (by decide)]; exact h2, ms_i (by decide), Or.inl ⟨by omega, ms_e rfl rfl, by rw [ms_i (by decide)]; exact hv (by omega)⟩⟩
  intro n
  induction n with
  | zero =>
    intro d hL h2 ha hb hn hv
    have e : lp_54_5 577 0 d = if (5 : Int) < d 577 3 - d 577 2 then mset d 577 1 4 else mset d 577 1 1 := by
      show st_54_5 577 _ d = _
      unfold st_54_5
      rw [show (577 : Int) + 1 = 578 by decide, hL, if_neg (by omega)]
    rw [e]
    exact stop d h2 hb hv (fun z => by omega)
  | succ n ih =>
    intro d hL h2 ha hb hn hv
    have st : lp_54_5 577 (n + 1) d = if d 577 3 < L then (if v_92 578 (d 577 3) d = 0 then (if (5 : Int) < d 577 3 - d 577 2 then mset d 577 1 4 else mset d 577 1 1) else if d 577 3 - d 577 2 < 5 then lp_54_5 577 n (mset (mset d 577 4 (d 577 4 * 10 + d 579 (d 577 3) - 48)) 577 3 (d 577 3 + 1)) else lp_54_5 577 n (mset d 577 3 (d 577 3 + 1))) else if (5 : Int) < d 577 3 - d 577 2 then mset d 577 1 4 else mset d 577 1 1 := by
      show st_54_5 577 _ d = _
      unfold st_54_5
      rw [show (577 : Int) + 1 = 578 by decide, hL, show (578 : Int) + 1 = 579 by decide]
    by_cases c : d 577 3 < L
    · rw [if_pos c] at st
      rcases v92_i (i := d 577 3) (d := d) with ⟨v, g⟩ | ⟨v, g⟩
      · rw [if_pos v] at st
        rw [st]
        exact stop d h2 hb hv (fun _ => g)
      · rw [if_neg (by omega)] at st
        have go : ∀ (u : mD), (∀ b, ¬ b = 577 → u b = d b) → u 577 2 = a → u 577 3 = d 577 3 + 1 → (u 577 3 - a ≤ 5 → u 577 4 = dv (d 579) a (u 577 3 - a).toNat) → ∃ z d', lp_54_5 577 n u = d' ∧ RU isDi (d 579) L (d 577 3) z ∧ (∀ b, ¬ b = 577 → d' b = d b) ∧ d' 577 2 = a ∧ d' 577 3 = z ∧ ((z - a ≤ 5 ∧ d' 577 1 = 1 ∧ d' 577 4 = dv (d 579) a (z - a).toNat) ∨ (5 < z - a ∧ d' 577 1 = 4)) := fun u w1 w2 w3 w4 => by
          have u9 : u 579 = d 579 := w1 579 (by decide)
          obtain ⟨z, d', q1, q2, q3, q4, q5, q6⟩ := ih u (by rw [w1 578 (by decide)]; exact hL) w2 (by omega) (by omega) (by omega) (by rw [u9]; exact w4)
          rw [u9, w3] at q2
          rw [u9] at q6
          refine ⟨z, d', q1, ⟨by have := q2.1; omega, q2.2.1, fun j x y => ?_, q2.2.2.2⟩, fun b hb => by rw [q3 b hb, w1 b hb], q4, q5, q6⟩
          by_cases y2 : j = d 577 3
          · rw [y2]; exact g
          · exact q2.2.2.1 j (by omega) y
        by_cases c5 : d 577 3 - d 577 2 < 5
        · rw [if_pos c5] at st
          rw [st]
          refine go _ (fun b hb => by funext j; rw [ms_a hb, ms_a hb]) (by rw [ms_i (by decide), ms_i (by decide)]; exact h2) (ms_e rfl rfl) (fun _ => ?_)
          rw [ms_e rfl rfl, ms_i (by decide), ms_e rfl rfl, hv (by omega), show (d 577 3 + 1 - a).toNat = (d 577 3 - a).toNat + 1 by omega]
          show _ = dv (d 579) a (d 577 3 - a).toNat * 10 + d 579 (a + ((d 577 3 - a).toNat : Nat)) - 48
          rw [show a + ((d 577 3 - a).toNat : Int) = d 577 3 by omega]
        · rw [if_neg c5] at st
          rw [st]
          exact go _ (fun b hb => by funext j; rw [ms_a hb]) (by rw [ms_i (by decide)]; exact h2) (ms_e rfl rfl) (fun z => by rw [ms_e rfl rfl] at z; omega)
    · rw [if_neg c] at st
      rw [st]
      exact stop d h2 hb hv (fun z => absurd z c)
/-! ===== the class's reader goes on ===== -/
theorem l52 {L : Int} (hL2 : L ≤ 1000) : ∀ (n : Nat) (d : mD), d 578 1 = L → 0 ≤ d 577 2 → d 577 2 ≤ L → L - d 577 2 ≤ (n : Int) → ∃ d', lp_52_8 577 n d = d' ∧ (∀ b, ¬ b = 577 → d' b = d b) ∧ BL (d 579) L (d 577 2) (d' 577 2) ∧ TokAt (d 579) L (d' 577 2) (d' 577 1) (d' 577 3) (d' 577 4) := by
  have stop : ∀ (d : mD), d 577 2 = L → ∃ d', mset (mset d 577 3 (d 577 2)) 577 1 3 = d' ∧ (∀ b, ¬ b = 577 → d' b = d b) ∧ BL (d 579) L (d 577 2) (d' 577 2) ∧ TokAt (d 579) L (d' 577 2) (d' 577 1) (d' 577 3) (d' 577 4) := fun d h => by
    have e2 : mset (mset d 577 3 (d 577 2)) 577 1 3 577 2 = d 577 2 := by rw [ms_i (by decide), ms_i (by decide)]
    refine ⟨_, rfl, fun b hb => by funext j; rw [ms_a hb, ms_a hb], ?_, ?_⟩
    · rw [e2]
      exact ⟨by omega, by omega, fun j x y => by omega, fun z => by omega⟩
    · rw [e2]
      exact Or.inl ⟨h, ms_e rfl rfl, by rw [ms_i (by decide), ms_e rfl rfl]⟩
  intro n
  induction n with
  | zero =>
    intro d hL h0 ha hn
    have e : lp_52_8 577 0 d = mset (mset d 577 3 (d 577 2)) 577 1 3 := by
      show st_52_8 577 _ d = _
      unfold st_52_8
      rw [show (577 : Int) + 1 = 578 by decide, hL, if_neg (by omega)]
    rw [e]
    exact stop d (by omega)
  | succ n ih =>
    intro d hL h0 ha hn
    by_cases c : d 577 2 < L
    · rcases v90_i (i := d 577 2) (d := d) with ⟨v, g⟩ | ⟨v, g⟩
      · have bl : BL (d 579) L (d 577 2) (d 577 2) := ⟨by omega, by omega, fun j x y => by omega, fun _ => g⟩
        have hE : ∃ E, mset d 577 3 (d 577 2) = E ∧ (∀ b, ¬ b = 577 → E b = d b) ∧ (∀ j, ¬ j = 3 → E 577 j = d 577 j) ∧ E 577 3 = d 577 2 := ⟨_, rfl, fun b hb => by funext j; exact ms_a hb, fun j hj => ms_i hj, ms_e rfl rfl⟩
        obtain ⟨E, hE, E1, E2, E3⟩ := hE
        have E9 : E 579 = d 579 := E1 579 (by decide)
        have E8 : E 578 = d 578 := E1 578 (by decide)
        have st : lp_52_8 577 (n + 1) d = if v_91 578 (d 577 2) E = 0 then (if v_92 578 (d 577 2) E = 0 then (if d 579 (d 577 2) = 59 then mset (mset E 577 1 2) 577 3 (d 577 2 + 1) else mset (mset E 577 1 4) 577 3 (d 577 2 + 1)) else g_54 577 E) else g_53 577 E := by
          show st_52_8 577 _ d = _
          unfold st_52_8
          rw [show (577 : Int) + 1 = 578 by decide, hL, if_pos c, if_pos v, hE, show (578 : Int) + 1 = 579 by decide]
        rcases v91_i (i := d 577 2) (d := E) with ⟨v1, g1⟩ | ⟨v1, g1⟩
        · rw [if_pos v1] at st
          rw [E9] at g1
          rcases v92_i (i := d 577 2) (d := E) with ⟨v2, g2⟩ | ⟨v2, g2⟩
          · rw [if_pos v2] at st
            rw [E9] at g2
            have fin : ∀ k, ∃ d', mset (mset E 577 1 k) 577 3 (d 577 2 + 1) = d' ∧ (∀ b, ¬ b = 577 → d' b = d b) ∧ d' 577 2 = d 577 2 ∧ d' 577 1 = k ∧ d' 577 3 = d 577 2 + 1 := fun k => ⟨_, rfl, fun b hb => by rw [← E1 b hb]; funext j; rw [ms_a hb, ms_a hb], by rw [ms_i (by decide), ms_i (by decide)]; exact E2 2 (by decide), by rw [ms_i (by decide), ms_e rfl rfl], ms_e rfl rfl⟩
            by_cases q : d 579 (d 577 2) = 59
            · rw [if_pos q] at st
              obtain ⟨d', f1, f2, f3, f4, f5⟩ := fin 2
              rw [st]
              refine ⟨d', f1, f2, by rw [f3]; exact bl, ?_⟩
              rw [f3, f4, f5]
              exact Or.inr (Or.inr (Or.inr (Or.inl ⟨c, q, rfl, rfl⟩)))
            · rw [if_neg q] at st
              obtain ⟨d', f1, f2, f3, f4, f5⟩ := fin 4
              rw [st]
              refine ⟨d', f1, f2, by rw [f3]; exact bl, ?_⟩
              rw [f3, f4, f5]
              exact Or.inr (Or.inr (Or.inr (Or.inr ⟨c, g1, g2, q, rfl, rfl⟩)))
          · rw [if_neg (by omega)] at st
            rw [E9] at g2
            have e3 : mset E 577 4 0 577 3 = d 577 2 := by rw [ms_i (by decide)]; exact E3
            have e9 : mset E 577 4 0 579 = d 579 := by rw [← E9]; funext j; exact ms_a (by decide)
            obtain ⟨z, d', q1, q2, q3, q4, q5, q6⟩ := l54 (L := L) (a := d 577 2) (1000 - (mset E 577 4 0) 577 3 : Int).toNat (mset E 577 4 0) (by rw [ms_a (by decide), E8]; exact hL) (by rw [ms_i (by decide)]; exact E2 2 (by decide)) (by omega) (by omega) (by omega) (fun _ => by
              rw [ms_e rfl rfl, e3, show (d 577 2 - d 577 2).toNat = 0 by omega]
              rfl)
            rw [e3, e9] at q2
            rw [e9] at q6
            have e : g_54 577 E = d' := q1
            rw [st, e]
            refine ⟨d', rfl, fun b hb => ?_, by rw [q4]; exact bl, ?_⟩
            · rw [q3 b hb, ← E1 b hb]
              funext j
              exact ms_a hb
            · rw [q4, q5]
              refine Or.inr (Or.inr (Or.inl ⟨c, g2, q2, ?_⟩))
              exact q6
        · rw [if_neg (by omega)] at st
          rw [E9] at g1
          obtain ⟨z, d', q1, q2, q3, q4, q5, q6⟩ := l53 (L := L) (1000 - E 577 3 : Int).toNat E (by rw [E8]; exact hL) (by omega) (by omega)
          rw [E3, E9] at q2
          have e : g_53 577 E = d' := q1
          have f2 : d' 577 2 = d 577 2 := by rw [q4 2 (by decide) (by decide)]; exact E2 2 (by decide)
          rw [st, e]
          refine ⟨d', rfl, fun b hb => by rw [q3 b hb, E1 b hb], by rw [f2]; exact bl, ?_⟩
          rw [f2, q5, q6]
          exact Or.inr (Or.inl ⟨c, g1, rfl, q2⟩)
      · have st : lp_52_8 577 (n + 1) d = lp_52_8 577 n (mset d 577 2 (d 577 2 + 1)) := by
          show st_52_8 577 _ d = _
          unfold st_52_8
          rw [show (577 : Int) + 1 = 578 by decide, hL, if_pos c, if_neg (by omega)]
        have e2 : mset d 577 2 (d 577 2 + 1) 577 2 = d 577 2 + 1 := ms_e rfl rfl
        have e9 : mset d 577 2 (d 577 2 + 1) 579 = d 579 := by funext j; exact ms_a (by decide)
        obtain ⟨d', q1, q2, q3, q4⟩ := ih (mset d 577 2 (d 577 2 + 1)) (by rw [ms_a (by decide)]; exact hL) (by omega) (by omega) (by omega)
        rw [e2, e9] at q3
        rw [e9] at q4
        rw [st]
        refine ⟨d', q1, fun b hb => ?_, ⟨by have := q3.1; omega, q3.2.1, fun j x y => ?_, q3.2.2.2⟩, q4⟩
        · rw [q2 b hb]
          funext j
          exact ms_a hb
        · by_cases y2 : j = d 577 2
          · rw [y2]; exact g
          · exact q3.2.2.1 j (by omega) y
    · have e : lp_52_8 577 (n + 1) d = mset (mset d 577 3 (d 577 2)) 577 1 3 := by
        show st_52_8 577 _ d = _
        unfold st_52_8
        rw [show (577 : Int) + 1 = 578 by decide, hL, if_neg c]
      rw [e]
      exact stop d (by omega)
theorem adv {L : Int} {d : mD} (hL : d 578 1 = L) (hL2 : L ≤ 1000) (h0 : 0 ≤ d 577 3) (h1 : d 577 3 ≤ L) : (∀ b, ¬ b = 577 → g_52 577 d b = d b) ∧ BL (d 579) L (d 577 3) (g_52 577 d 577 2) ∧ TokAt (d 579) L (g_52 577 d 577 2) (g_52 577 d 577 1) (g_52 577 d 577 3) (g_52 577 d 577 4) := by
  have e2 : mset d 577 2 (d 577 3) 577 2 = d 577 3 := ms_e rfl rfl
  have e9 : mset d 577 2 (d 577 3) 579 = d 579 := by funext j; exact ms_a (by decide)
  obtain ⟨d', q1, q2, q3, q4⟩ := l52 hL2 (1000 - (mset d 577 2 (d 577 3)) 577 2 : Int).toNat (mset d 577 2 (d 577 3)) (by rw [ms_a (by decide)]; exact hL) (by omega) (by omega) (by omega)
  have e : g_52 577 d = d' := q1
  rw [e2, e9] at q3
  rw [e9] at q4
  rw [e]
  refine ⟨fun b hb => ?_, q3, q4⟩
  rw [q2 b hb]
  funext j
  exact ms_a hb
/-! ===== what the reference's reader finds ===== -/
def TX (b : Int → Int) (L : Int) (e : mD) : Prop := (0 ≤ L ∧ L ≤ 1000) ∧ e 769 9 = L ∧ ∀ i, 0 ≤ i → i < L → b i % 256 = e 776 i ∧ -128 ≤ b i ∧ b i ≤ 127
theorem TX.fr {b : Int → Int} {L : Int} {e e' : mD} (h : TX b L e) (h1 : e' 769 9 = e 769 9) (h2 : e' 776 = e 776) : TX b L e' := by
  unfold TX
  rw [h1, h2]
  exact h
theorem TX.le {b : Int → Int} {L i : Int} {e : mD} (h : TX b L e) (h0 : 0 ≤ i) : (v_190 769 i e = 0 ∧ (i < L → ¬ isLe (b i))) ∨ (v_190 769 i e = 1 ∧ i < L ∧ isLe (b i) ∧ e 776 i = b i) := by
  obtain ⟨h1, h2, h3⟩ := h
  unfold v_190
  rw [v176, show (769 : Int) + 7 = 776 by decide, h2]
  by_cases c : i < L
  · have g := h3 i h0 c
    rw [if_pos c]
    by_cases z : 97 ≤ e 776 i ∧ e 776 i ≤ 122
    · rw [if_pos z, if_neg (by decide)]
      exact Or.inr ⟨rfl, c, by unfold isLe; omega, by omega⟩
    · rw [if_neg z, if_pos rfl]
      exact Or.inl ⟨rfl, fun _ y => by unfold isLe at y; omega⟩
  · rw [if_neg c]
    exact Or.inl ⟨rfl, fun z => absurd z c⟩
theorem TX.di {b : Int → Int} {L i : Int} {e : mD} (h : TX b L e) (h0 : 0 ≤ i) : (v_191 769 i e = 0 ∧ (i < L → ¬ isDi (b i))) ∨ (v_191 769 i e = 1 ∧ i < L ∧ isDi (b i) ∧ e 776 i = b i) := by
  obtain ⟨h1, h2, h3⟩ := h
  unfold v_191
  rw [v176, show (769 : Int) + 7 = 776 by decide, h2]
  by_cases c : i < L
  · have g := h3 i h0 c
    rw [if_pos c]
    by_cases z : 48 ≤ e 776 i ∧ e 776 i ≤ 57
    · rw [if_pos z, if_neg (by decide)]
      exact Or.inr ⟨rfl, c, by unfold isDi; omega, by omega⟩
    · rw [if_neg z, if_pos rfl]
      exact Or.inl ⟨rfl, fun _ y => by unfold isDi at y; omega⟩
  · rw [if_neg c]
    exact Or.inl ⟨rfl, fun z => absurd z c⟩
theorem l189 {b : Int → Int} {L : Int} : ∀ (n : Nat) (e : mD), TX b L e → 0 ≤ e 769 10 → e 769 10 ≤ L → L - e 769 10 ≤ (n : Int) → ∃ a e', lp_189_0 769 n e = e' ∧ BL b L (e 769 10) a ∧ (∀ k, ¬ k = 769 → e' k = e k) ∧ (∀ j, ¬ j = 10 → e' 769 j = e 769 j) ∧ e' 769 10 = a := by
  intro n
  induction n with
  | zero =>
    intro e h h0 h1 hn
    have st : lp_189_0 769 0 e = e := by
      show st_189_0 769 _ e = _
      unfold st_189_0
      rw [h.2.1, if_neg (by omega)]
    exact ⟨e 769 10, e, st, ⟨by omega, h1, fun j x y => by omega, fun z => by omega⟩, fun _ _ => rfl, fun _ _ => rfl, rfl⟩
  | succ n ih =>
    intro e h h0 h1 hn
    have st : lp_189_0 769 (n + 1) e = if e 769 10 < L then (if e 776 (e 769 10) = 10 then lp_189_0 769 n (mset e 769 10 (e 769 10 + 1)) else if e 776 (e 769 10) = 32 then lp_189_0 769 n (mset e 769 10 (e 769 10 + 1)) else e) else e := by
      show st_189_0 769 _ e = _
      unfold st_189_0
      rw [h.2.1, show (769 : Int) + 7 = 776 by decide]
    by_cases c : e 769 10 < L
    · have g := h.2.2 _ h0 c
      rw [if_pos c] at st
      by_cases z : isBl (b (e 769 10))
      · have st2 : lp_189_0 769 (n + 1) e = lp_189_0 769 n (mset e 769 10 (e 769 10 + 1)) := by
          rw [st]
          unfold isBl at z
          by_cases y : e 776 (e 769 10) = 10
          · rw [if_pos y]
          · rw [if_neg y, if_pos (by omega)]
        have e10 : mset e 769 10 (e 769 10 + 1) 769 10 = e 769 10 + 1 := ms_e rfl rfl
        obtain ⟨a, e', q1, q2, q3, q4, q5⟩ := ih (mset e 769 10 (e 769 10 + 1)) (h.fr (ms_i (by decide)) (by funext j; exact ms_a (by decide))) (by omega) (by omega) (by omega)
        rw [e10] at q2
        refine ⟨a, e', st2.trans q1, ⟨by have := q2.1; omega, q2.2.1, fun j x y => ?_, q2.2.2.2⟩, fun k hk => ?_, fun j hj => ?_, q5⟩
        · by_cases y2 : j = e 769 10
          · rw [y2]; exact z
          · exact q2.2.2.1 j (by omega) y
        · rw [q3 k hk]
          funext j
          exact ms_a hk
        · rw [q4 j hj, ms_i hj]
      · have st2 : lp_189_0 769 (n + 1) e = e := by
          rw [st]
          unfold isBl at z
          rw [if_neg (by omega), if_neg (by omega)]
        exact ⟨e 769 10, e, st2, ⟨by omega, h1, fun j x y => by omega, fun _ => z⟩, fun _ _ => rfl, fun _ _ => rfl, rfl⟩
    · rw [if_neg c] at st
      exact ⟨e 769 10, e, st, ⟨by omega, h1, fun j x y => by omega, fun z => absurd z c⟩, fun _ _ => rfl, fun _ _ => rfl, rfl⟩
theorem bl189 {b : Int → Int} {L : Int} {e : mD} (h : TX b L e) (h0 : 0 ≤ e 769 10) (h1 : e 769 10 ≤ L) : ∃ a e', g_189 769 e = e' ∧ BL b L (e 769 10) a ∧ (∀ k, ¬ k = 769 → e' k = e k) ∧ (∀ j, ¬ j = 10 → e' 769 j = e 769 j) ∧ e' 769 10 = a := by
  have := h.1
  exact l189 (1000 - e 769 10 : Int).toNat e h h0 h1 (by omega)
def wc (b : Int → Int) (a : Int) : Nat → Int
  | 0 => 0
  | n + 1 => 27 * wc b a n + b (a + n) - 96
theorem l193 {b : Int → Int} {L a lim : Int} (hl : 0 ≤ lim) : ∀ (n : Nat) (x4 x2 : Int) (e : mD), TX b L e → 0 ≤ x4 → 0 ≤ a → e 769 10 = a + x4 → e 769 10 ≤ L → L - e 769 10 ≤ (n : Int) → (x4 ≤ lim → x2 = wc b a x4.toNat) → (lim < x4 → x2 = -1) → ∃ z e', lp_193_17 769 lim n x2 x4 e = (if z - a ≤ lim then wc b a (z - a).toNat else -1, e') ∧ RU isLe b L (a + x4) z ∧ (∀ k, ¬ k = 769 → e' k = e k) ∧ (∀ j, ¬ j = 10 → e' 769 j = e 769 j) ∧ e' 769 10 = z := by
  have stop : ∀ (x4 x2 : Int) (e : mD), 0 ≤ x4 → e 769 10 = a + x4 → e 769 10 ≤ L → (x4 ≤ lim → x2 = wc b a x4.toNat) → (lim < x4 → x2 = -1) → (a + x4 < L → ¬ isLe (b (a + x4))) → ∃ z e', (x2, e) = (if z - a ≤ lim then wc b a (z - a).toNat else -1, e') ∧ RU isLe b L (a + x4) z ∧ (∀ k, ¬ k = 769 → e' k = e k) ∧ (∀ j, ¬ j = 10 → e' 769 j = e 769 j) ∧ e' 769 10 = z := fun x4 x2 e h0 ha h1 hv hw hs => by
    refine ⟨a + x4, e, ?_, ⟨by omega, by omega, fun j x y => by omega, hs⟩, fun _ _ => rfl, fun _ _ => rfl, ha⟩
    rw [show a + x4 - a = x4 by omega]
    by_cases c : x4 ≤ lim
    · rw [if_pos c, hv c]
    · rw [if_neg c, hw (by omega)]
  intro n
  induction n with
  | zero =>
    intro x4 x2 e h h0 a0 ha h1 hn hv hw
    rcases h.le (i := e 769 10) (by omega) with ⟨v, g⟩ | ⟨v, g, -⟩
    · have st : lp_193_17 769 lim 0 x2 x4 e = (x2, e) := by
        show st_193_17 769 lim _ x2 x4 e = _
        unfold st_193_17
        rw [if_pos v]
      rw [st]
      exact stop x4 x2 e h0 ha h1 hv hw (by rw [← ha]; exact g)
    · omega
  | succ n ih =>
    intro x4 x2 e h h0 a0 ha h1 hn hv hw
    rcases h.le (i := e 769 10) (by omega) with ⟨v, g⟩ | ⟨v, g1, g2, g3⟩
    · have st : lp_193_17 769 lim (n + 1) x2 x4 e = (x2, e) := by
        show st_193_17 769 lim _ x2 x4 e = _
        unfold st_193_17
        rw [if_pos v]
      rw [st]
      exact stop x4 x2 e h0 ha h1 hv hw (by rw [← ha]; exact g)
    · have st : lp_193_17 769 lim (n + 1) x2 x4 e = if x4 < lim then lp_193_17 769 lim n (27 * x2 + e 776 (e 769 10) - 97 + 1) (x4 + 1) (mset e 769 10 (e 769 10 + 1)) else lp_193_17 769 lim n (-1) (x4 + 1) (mset e 769 10 (e 769 10 + 1)) := by
        show st_193_17 769 lim _ x2 x4 e = _
        unfold st_193_17
        rw [if_neg (by omega), show (769 : Int) + 7 = 776 by decide]
      have e10 : mset e 769 10 (e 769 10 + 1) 769 10 = e 769 10 + 1 := ms_e rfl rfl
      have go : ∀ x, (x4 + 1 ≤ lim → x = wc b a (x4 + 1).toNat) → (lim < x4 + 1 → x = -1) → ∃ z e', lp_193_17 769 lim n x (x4 + 1) (mset e 769 10 (e 769 10 + 1)) = (if z - a ≤ lim then wc b a (z - a).toNat else -1, e') ∧ RU isLe b L (a + x4) z ∧ (∀ k, ¬ k = 769 → e' k = e k) ∧ (∀ j, ¬ j = 10 → e' 769 j = e 769 j) ∧ e' 769 10 = z := fun x hx1 hx2 => by
        obtain ⟨z, e', q1, q2, q3, q4, q5⟩ := ih (x4 + 1) x (mset e 769 10 (e 769 10 + 1)) (h.fr (ms_i (by decide)) (by funext j; exact ms_a (by decide))) (by omega) a0 (by omega) (by omega) (by omega) hx1 hx2
        refine ⟨z, e', q1, ⟨by have := q2.1; omega, q2.2.1, fun j u v => ?_, q2.2.2.2⟩, fun k hk => ?_, fun j hj => ?_, q5⟩
        · by_cases y2 : j = a + x4
          · rw [y2, ← ha]; exact g2
          · exact q2.2.2.1 j (by omega) v
        · rw [q3 k hk]
          funext j
          exact ms_a hk
        · rw [q4 j hj, ms_i hj]
      by_cases c : x4 < lim
      · rw [if_pos c] at st
        rw [st]
        refine go _ (fun _ => ?_) (fun z => by omega)
        rw [show (x4 + 1).toNat = x4.toNat + 1 by omega, hv (by omega), g3]
        show _ = 27 * wc b a x4.toNat + b (a + (x4.toNat : Int)) - 96
        rw [show a + (x4.toNat : Int) = e 769 10 by omega]
        omega
      · rw [if_neg c] at st
        rw [st]
        exact go _ (fun z => by omega) (fun _ => rfl)
theorem w193 {b : Int → Int} {L lim : Int} {e : mD} (hl : 0 ≤ lim) (h : TX b L e) (h0 : 0 ≤ e 769 10) (h1 : e 769 10 ≤ L) : ∃ a z e', BL b L (e 769 10) a ∧ RU isLe b L a z ∧ f_193 769 lim e = (if z - a ≤ lim then wc b a (z - a).toNat else -1, e') ∧ (∀ k, ¬ k = 769 → e' k = e k) ∧ (∀ j, ¬ j = 10 → ¬ j = 16 → e' 769 j = e 769 j) ∧ e' 769 10 = z ∧ e' 769 16 = a := by
  obtain ⟨a, e1, p1, p2, p3, p4, p5⟩ := bl189 h h0 h1
  have h1' : TX b L (mset e1 769 16 a) := h.fr (by rw [ms_i (by decide)]; exact p4 9 (by decide)) (by rw [← p3 776 (by decide)]; funext j; exact ms_a (by decide))
  have e10 : mset e1 769 16 a 769 10 = a := by rw [ms_i (by decide)]; exact p5
  have hr := h.1
  have ha := p2.1
  have hb := p2.2.1
  obtain ⟨z, e', q1, q2, q3, q4, q5⟩ := l193 (a := a) hl (1000 - mset e1 769 16 a 769 10 : Int).toNat 0 0 (mset e1 769 16 a) h1' (by omega) (by omega) (by omega) (by omega) (by omega) (fun _ => rfl) (fun z => by omega)
  rw [show a + 0 = a by omega] at q2
  refine ⟨a, z, e', p2, q2, ?_, fun k hk => ?_, fun j x y => ?_, q5, ?_⟩
  · unfold f_193
    rw [p1, p5]
    exact q1
  · rw [q3 k hk, ← p3 k hk]
    funext j
    exact ms_a hk
  · rw [q4 j x, ms_i y, p4 j x]
  · rw [q4 16 (by decide), ms_e rfl rfl]
/-! ===== the reference's numbers ===== -/
def FrR (e e' : mD) : Prop := (∀ k, ¬ k = 769 → e' k = e k) ∧ ∀ j, j < 10 ∨ 16 < j → e' 769 j = e 769 j
theorem FrR.refl {e : mD} : FrR e e := ⟨fun _ _ => rfl, fun _ _ => rfl⟩
theorem FrR.trans {a b c : mD} (h : FrR a b) (g : FrR b c) : FrR a c := ⟨fun k hk => (g.1 k hk).trans (h.1 k hk), fun j hj => (g.2 j hj).trans (h.2 j hj)⟩
theorem FrR.set {e : mD} {j v : Int} (hj : 10 ≤ j ∧ j ≤ 16) : FrR e (mset e 769 j v) := ⟨fun k hk => by funext i; exact ms_a hk, fun i hi => ms_i (by omega)⟩
-- it is bad: with this code at this place
def BadR (c p : Int) (e : mD) : Prop := e 769 13 = 1 ∧ e 769 11 = c ∧ e 769 12 = p
theorem flt188 {c p : Int} {e : mD} (h : e 769 13 = 0) : BadR c p (g_188 769 c p e) ∧ FrR e (g_188 769 c p e) := by
  unfold g_188
  rw [if_pos h]
  refine ⟨⟨?_, ?_, ?_⟩, ((FrR.set (by decide)).trans (FrR.set (by decide))).trans (FrR.set (by decide))⟩
  · rw [ms_i (by decide), ms_i (by decide), ms_e rfl rfl]
  · rw [ms_i (by decide), ms_e rfl rfl]
  · exact ms_e rfl rfl
def NumR (b : Int → Int) (L lo hi a z : Int) (e : mD) (r : Int × mD) : Prop := FrR e r.2 ∧ ((z = a ∧ r.1 = 0 ∧ BadR 1 a r.2) ∨ (5 < z - a ∧ r.1 = 0 ∧ BadR 1 a r.2) ∨ (a < z ∧ z - a ≤ 5 ∧ ¬ (lo ≤ dv b a (z - a).toNat ∧ dv b a (z - a).toNat ≤ hi) ∧ r.1 = 0 ∧ BadR 2 a r.2) ∨ (a < z ∧ z - a ≤ 5 ∧ (lo ≤ dv b a (z - a).toNat ∧ dv b a (z - a).toNat ≤ hi) ∧ r.1 = dv b a (z - a).toNat ∧ r.2 769 13 = 0 ∧ r.2 769 10 = z))
theorem l197 {b : Int → Int} {L a lo hi : Int} : ∀ (n : Nat) (x : Int) (e : mD), TX b L e → 0 ≤ x → 0 ≤ a → e 769 10 = a + x → e 769 10 ≤ L → L - e 769 10 ≤ (n : Int) → e 769 13 = 0 → e 769 15 = a → (x ≤ 5 → e 769 14 = dv b a x.toNat) → ∃ z, RU isDi b L (a + x) z ∧ NumR b L lo hi a z e (lp_197_28 769 lo hi n x e) := by
  have stop : ∀ (x : Int) (e : mD) (r : Int → mD → Int × mD), 0 ≤ x → e 769 10 = a + x → e 769 10 ≤ L → e 769 13 = 0 → e 769 15 = a → (x ≤ 5 → e 769 14 = dv b a x.toNat) → v_191 769 (e 769 10) e = 0 → (a + x < L → ¬ isDi (b (a + x))) → ∃ z, RU isDi b L (a + x) z ∧ NumR b L lo hi a z e (st_197_28 769 lo hi r x e) := fun x e r h0 ha h1 h13 h15 hv v hs => by
    refine ⟨a + x, ⟨by omega, by omega, fun j x y => by omega, hs⟩, ?_⟩
    obtain ⟨f1, f2⟩ := flt188 (c := 1) (p := a) h13
    obtain ⟨f3, f4⟩ := flt188 (c := 2) (p := a) h13
    unfold st_197_28
    rw [if_pos v, h15]
    have n1 : ¬ g_188 769 1 a e 769 13 = 0 := by rw [f1.1]; decide
    have n2 : ¬ g_188 769 2 a e 769 13 = 0 := by rw [f3.1]; decide
    by_cases c0 : x = 0
    · rw [if_pos c0, if_neg n1]
      exact ⟨f2, Or.inl ⟨by omega, rfl, f1⟩⟩
    · rw [if_neg c0]
      by_cases c5 : 5 < x
      · rw [if_pos c5, if_neg n1]
        exact ⟨f2, Or.inr (Or.inl ⟨by omega, rfl, f1⟩)⟩
      · rw [if_neg c5, v176, hv (by omega)]
        have ex : (a + x - a).toNat = x.toNat := by rw [show a + x - a = x by omega]
        by_cases q : lo ≤ dv b a x.toNat ∧ dv b a x.toNat ≤ hi
        · rw [if_pos q, if_neg (by decide), if_pos h13]
          exact ⟨FrR.refl, Or.inr (Or.inr (Or.inr ⟨by omega, by omega, by rw [ex]; exact q, by rw [ex], h13, ha⟩))⟩
        · rw [if_neg q, if_pos rfl, if_neg n2]
          exact ⟨f4, Or.inr (Or.inr (Or.inl ⟨by omega, by omega, by rw [ex]; exact q, rfl, f3⟩))⟩
  intro n
  induction n with
  | zero =>
    intro x e h h0 a0 ha h1 hn h13 h15 hv
    rcases h.di (i := e 769 10) (by omega) with ⟨v, g⟩ | ⟨v, g, -⟩
    · exact stop x e _ h0 ha h1 h13 h15 hv v (by rw [← ha]; exact g)
    · omega
  | succ n ih =>
    intro x e h h0 a0 ha h1 hn h13 h15 hv
    rcases h.di (i := e 769 10) (by omega) with ⟨v, g⟩ | ⟨v, g1, g2, g3⟩
    · exact stop x e _ h0 ha h1 h13 h15 hv v (by rw [← ha]; exact g)
    · have st : lp_197_28 769 lo hi (n + 1) x e = if x < 5 then lp_197_28 769 lo hi n (x + 1) (mset (mset e 769 14 (10 * e 769 14 + e 776 (e 769 10) - 48)) 769 10 (e 769 10 + 1)) else lp_197_28 769 lo hi n (x + 1) (mset (mset e 769 14 (e 769 14)) 769 10 (e 769 10 + 1)) := by
        show st_197_28 769 lo hi _ x e = _
        unfold st_197_28
        rw [if_neg (by omega), show (769 : Int) + 7 = 776 by decide]
      have go : ∀ v, (x + 1 ≤ 5 → v = dv b a (x + 1).toNat) → ∃ z, RU isDi b L (a + x) z ∧ NumR b L lo hi a z e (lp_197_28 769 lo hi n (x + 1) (mset (mset e 769 14 v) 769 10 (e 769 10 + 1))) := fun v hv' => by
        have e10 : mset (mset e 769 14 v) 769 10 (e 769 10 + 1) 769 10 = e 769 10 + 1 := ms_e rfl rfl
        obtain ⟨z, q1, q2, q3⟩ := ih (x + 1) (mset (mset e 769 14 v) 769 10 (e 769 10 + 1)) (h.fr (by rw [ms_i (by decide), ms_i (by decide)]) (by funext j; rw [ms_a (by decide), ms_a (by decide)])) (by omega) a0 (by omega) (by omega) (by omega) (by rw [ms_i (by decide), ms_i (by decide)]; exact h13) (by rw [ms_i (by decide), ms_i (by decide)]; exact h15) (fun y => by rw [ms_i (by decide), ms_e rfl rfl]; exact hv' y)
        refine ⟨z, ⟨by have := q1.1; omega, q1.2.1, fun j u y => ?_, q1.2.2.2⟩, ((FrR.set (by decide)).trans (FrR.set (by decide))).trans q2, q3⟩
        by_cases y2 : j = a + x
        · rw [y2, ← ha]; exact g2
        · exact q1.2.2.1 j (by omega) y
      by_cases c : x < 5
      · rw [if_pos c] at st
        rw [st]
        refine go _ (fun _ => ?_)
        rw [show (x + 1).toNat = x.toNat + 1 by omega, hv (by omega), g3]
        show _ = dv b a x.toNat * 10 + b (a + (x.toNat : Int)) - 48
        rw [show a + (x.toNat : Int) = e 769 10 by omega]
        omega
      · rw [if_neg c] at st
        rw [st]
        exact go _ (fun z => by omega)
theorem n197 {b : Int → Int} {L lo hi : Int} {e : mD} (h : TX b L e) (h0 : 0 ≤ e 769 10) (h1 : e 769 10 ≤ L) (h13 : e 769 13 = 0) : ∃ a z, BL b L (e 769 10) a ∧ RU isDi b L a z ∧ NumR b L lo hi a z e (v_197 769 lo hi e, g_197 769 lo hi e) := by
  obtain ⟨a, e1, p1, p2, p3, p4, p5⟩ := bl189 h h0 h1
  have hr := h.1
  have ha := p2.1
  have hb := p2.2.1
  have ef : f_197 769 lo hi e = lp_197_28 769 lo hi (1000 - mset (mset e1 769 15 a) 769 14 0 769 10 : Int).toNat 0 (mset (mset e1 769 15 a) 769 14 0) := by
    unfold f_197
    rw [if_pos h13, p1, p5]
  have e10 : mset (mset e1 769 15 a) 769 14 0 769 10 = a := by rw [ms_i (by decide), ms_i (by decide)]; exact p5
  obtain ⟨z, q1, q2, q3⟩ := l197 (lo := lo) (hi := hi) (a := a) (1000 - mset (mset e1 769 15 a) 769 14 0 769 10 : Int).toNat 0 (mset (mset e1 769 15 a) 769 14 0) (h.fr (by rw [ms_i (by decide), ms_i (by decide)]; exact p4 9 (by decide)) (by rw [← p3 776 (by decide)]; funext j; rw [ms_a (by decide), ms_a (by decide)])) (by omega) (by omega) (by omega) (by omega) (by omega) (by rw [ms_i (by decide), ms_i (by decide), p4 13 (by decide)]; exact h13) (by rw [ms_i (by decide), ms_e rfl rfl]) (fun _ => by rw [ms_e rfl rfl]; rfl)
  rw [show a + 0 = a by omega] at q1
  have f1 : FrR e e1 := ⟨p3, fun j hj => p4 j (by omega)⟩
  refine ⟨a, z, p2, q1, ?_⟩
  unfold v_197 g_197
  rw [ef]
  exact ⟨(f1.trans ((FrR.set (by decide)).trans (FrR.set (by decide)))).trans q2, q3⟩
/-! ===== both readers side by side: numbers and semicolons ===== -/
def Syn (d e : mD) : Prop := TX (d 579) (d 578 1) e ∧ e 769 13 = 0 ∧ (0 ≤ e 769 10 ∧ e 769 10 ≤ d 578 1) ∧ BL (d 579) (d 578 1) (e 769 10) (d 577 2) ∧ TokAt (d 579) (d 578 1) (d 577 2) (d 577 1) (d 577 3) (d 577 4)
def FrC (d d' : mD) : Prop := ∀ b, ¬ b = 576 → ¬ b = 577 → d' b = d b
def Fail (d' e' : mD) : Prop := ∃ c p, d' 576 2 = c ∧ d' 576 3 = p ∧ BadR c p e'
theorem TokAt.z {b : Int → Int} {L a k z m : Int} (h : TokAt b L a k z m) (h1 : a ≤ L) : a ≤ z ∧ z ≤ L := by
  rcases h with ⟨a1, a2, a3⟩ | ⟨a1, a2, a3, a4⟩ | ⟨a1, a2, a3, a4⟩ | ⟨a1, a2, a3, a4⟩ | ⟨a1, a2, a3, a4, a5, a6⟩
  · omega
  · exact ⟨a4.1, a4.2.1⟩
  · exact ⟨a3.1, a3.2.1⟩
  · omega
  · omega
theorem Syn.next {d d0 e e' : mD} (h : Syn d e) (h0 : FrC d d0) (h3 : d0 577 3 = d 577 3) (hf : FrR e e') (h13 : e' 769 13 = 0) (h10 : e' 769 10 = d 577 3) : Syn (g_52 577 d0) e' ∧ FrC d (g_52 577 d0) := by
  obtain ⟨tx, b13, bt, bl, tk⟩ := h
  have hz := tk.z bl.2.1
  have q1 : d0 579 = d 579 := h0 579 (by decide) (by decide)
  have q2 : d0 578 = d 578 := h0 578 (by decide) (by decide)
  have := bl.1
  obtain ⟨a1, a2, a3⟩ := adv (L := d 578 1) (d := d0) (by rw [q2]) tx.1.2 (by omega) (by omega)
  rw [q1, h3] at a2
  rw [q1] at a3
  have e9 : g_52 577 d0 579 = d 579 := by rw [a1 579 (by decide), q1]
  have e8 : g_52 577 d0 578 = d 578 := by rw [a1 578 (by decide), q2]
  refine ⟨⟨?_, h13, ?_, ?_, ?_⟩, fun b x y => by rw [a1 b y, h0 b x y]⟩
  · rw [e9, e8]
    exact tx.fr (hf.2 9 (by decide)) (hf.1 776 (by decide))
  · rw [e8, h10]
    omega
  · rw [e9, e8, h10]
    exact a2
  · rw [e9, e8]
    exact a3
theorem fail32 {c : Int} {d : mD} : g_32 576 c d 576 2 = c ∧ g_32 576 c d 576 3 = d 577 2 ∧ FrC d (g_32 576 c d) := by
  unfold g_32
  exact ⟨by rw [ms_i (by decide), ms_e rfl rfl], by rw [ms_e rfl rfl]; rfl, fun b x y => by funext j; rw [ms_a x, ms_a x]⟩
theorem RU.nil {P : Int → Prop} {b : Int → Int} {L a z : Int} (h : RU P b L a z) (hn : a < L → ¬ P (b a)) : z = a := by
  obtain ⟨p1, p2, p3, p4⟩ := h
  by_cases c : a < z
  · exact absurd (p3 a (by omega) c) (hn (by omega))
  · omega
theorem takeNum {d e : mD} {lo hi : Int} (h : Syn d e) : FrC d (g_25 576 lo hi d) ∧ FrR e (g_197 769 lo hi e) ∧ ((v_25 576 lo hi d = 1 ∧ Syn (g_25 576 lo hi d) (g_197 769 lo hi e) ∧ g_25 576 lo hi d 576 4 = v_197 769 lo hi e ∧ lo ≤ v_197 769 lo hi e ∧ v_197 769 lo hi e ≤ hi) ∨ (v_25 576 lo hi d = 0 ∧ Fail (g_25 576 lo hi d) (g_197 769 lo hi e) ∧ v_197 769 lo hi e = 0)) := by
  obtain ⟨tx, b13, bt, bl, tk⟩ := id h
  obtain ⟨a, z, n1, n2, nf, nr⟩ := n197 (lo := lo) (hi := hi) tx bt.1 bt.2 b13
  have ea : a = d 577 2 := n1.uni bl
  rw [ea] at n2 nr
  generalize hv : v_197 769 lo hi e = v at *
  generalize hw : g_197 769 lo hi e = e' at *
  have nf : FrR e e' := nf
  have bad : ∀ c, BadR c (d 577 2) e' → v = 0 → v_25 576 lo hi d = 0 → g_25 576 lo hi d = g_32 576 c d → FrC d (g_25 576 lo hi d) ∧ FrR e e' ∧ ((v_25 576 lo hi d = 1 ∧ Syn (g_25 576 lo hi d) e' ∧ g_25 576 lo hi d 576 4 = v ∧ lo ≤ v ∧ v ≤ hi) ∨ (v_25 576 lo hi d = 0 ∧ Fail (g_25 576 lo hi d) e' ∧ v = 0)) := fun c hb hv0 hvc hgc => by
    rw [hgc]
    obtain ⟨f1, f2, f3⟩ := fail32 (c := c) (d := d)
    exact ⟨f3, nf, Or.inr ⟨hvc, ⟨c, d 577 2, f1, f2, hb⟩, hv0⟩⟩
  by_cases k1 : d 577 1 = 1
  · have tk3 : d 577 2 < d 578 1 ∧ isDi (d 579 (d 577 2)) ∧ RU isDi (d 579) (d 578 1) (d 577 2) (d 577 3) ∧ d 577 3 - d 577 2 ≤ 5 ∧ d 577 4 = dv (d 579) (d 577 2) (d 577 3 - d 577 2).toNat := by
      rcases tk with ⟨a1, a2, a3⟩ | ⟨a1, a2, a3, a4⟩ | ⟨a1, a2, a3, a4⟩ | ⟨a1, a2, a3, a4⟩ | ⟨a1, a2, a3, a4, a5, a6⟩
      · omega
      · omega
      · rcases a4 with a4 | a4
        · exact ⟨a1, a2, a3, a4.1, a4.2.2⟩
        · omega
      · omega
      · omega
    obtain ⟨t1, t2, t3, t4, t5⟩ := tk3
    have ez : z = d 577 3 := n2.uni t3
    rw [ez] at nr
    rw [← t5] at nr
    have hz : d 577 2 < d 577 3 := by
      by_cases c : d 577 2 < d 577 3
      · exact c
      · have e3 : d 577 3 = d 577 2 := by have := t3.1; omega
        have := t3.2.2.2
        rw [e3] at this
        exact absurd t2 (this t1)
    have ev : v_25 576 lo hi d = if d 577 4 < lo then 0 else if hi < d 577 4 then 0 else 1 := by
      unfold v_25
      rw [show (576 : Int) + 1 = 577 by decide, if_pos k1]
      rfl
    have eg : g_25 576 lo hi d = if d 577 4 < lo then g_32 576 2 d else if hi < d 577 4 then g_32 576 2 d else g_52 577 (mset d 576 4 (d 577 4)) := by
      unfold g_25
      rw [show (576 : Int) + 1 = 577 by decide, if_pos k1]
    rcases nr with nr | nr | nr | nr
    · omega
    · omega
    · obtain ⟨r1, r2, r3, r4, r5⟩ := nr
      have r4 : v = 0 := r4
      by_cases c1 : d 577 4 < lo
      · rw [if_pos c1] at ev eg
        exact bad 2 r5 r4 ev eg
      · have c2 : hi < d 577 4 := by omega
        rw [if_neg c1, if_pos c2] at ev eg
        exact bad 2 r5 r4 ev eg
    · obtain ⟨r1, r2, r3, r4, r5, r6⟩ := nr
      have r4 : v = d 577 4 := r4
      rw [if_neg (by omega), if_neg (by omega)] at ev eg
      obtain ⟨s1, s2⟩ := h.next (d0 := mset d 576 4 (d 577 4)) (fun b x y => by funext j; exact ms_a x) (ms_a (by decide)) nf r5 r6
      rw [eg, ev]
      refine ⟨s2, nf, Or.inl ⟨rfl, s1, ?_, by omega, by omega⟩⟩
      have := (adv (L := d 578 1) (d := mset d 576 4 (d 577 4)) (by rw [ms_a (by decide)]) tx.1.2 (by rw [ms_a (by decide)]; have := bl.1; omega) (by rw [ms_a (by decide)]; exact t3.2.1)).1 576 (by decide)
      rw [this, ms_e rfl rfl, r4]
  · have ev : v_25 576 lo hi d = 0 := by
      unfold v_25
      rw [show (576 : Int) + 1 = 577 by decide, if_neg k1]
      rfl
    have eg : g_25 576 lo hi d = g_32 576 1 d := by
      unfold g_25
      rw [show (576 : Int) + 1 = 577 by decide, if_neg k1]
    have hz : z = d 577 2 ∨ 5 < z - d 577 2 := by
      rcases tk with ⟨a1, a2, a3⟩ | ⟨a1, a2, a3, a4⟩ | ⟨a1, a2, a3, a4⟩ | ⟨a1, a2, a3, a4⟩ | ⟨a1, a2, a3, a4, a5, a6⟩
      · exact Or.inl (n2.nil (fun y => by omega))
      · exact Or.inl (n2.nil (fun _ y => by unfold isLe at a2; unfold isDi at y; omega))
      · rcases a4 with a4 | a4
        · exact absurd a4.2.1 k1
        · have ez : z = d 577 3 := n2.uni a3
          right
          omega
      · exact Or.inl (n2.nil (fun _ y => by unfold isDi at y; omega))
      · exact Or.inl (n2.nil (fun _ y => a3 y))
    rcases nr with nr | nr | nr | nr
    · exact bad 1 nr.2.2 nr.2.1 ev eg
    · exact bad 1 nr.2.2 nr.2.1 ev eg
    · omega
    · omega
-- a semicolon
theorem takeSemi {d e : mD} (h : Syn d e) : (v_30 576 d = 0 ∨ v_30 576 d = 1) ∧ (v_31 576 d = 0 ∨ v_31 576 d = 1) ∧ FrC d (g_31 576 d) ∧ FrR e (g_195 769 e) ∧ ((v_31 576 d = 1 ∧ Syn (g_31 576 d) (g_195 769 e)) ∨ (v_31 576 d = 0 ∧ Fail (g_31 576 d) (g_195 769 e))) ∧ v_31 576 d = v_30 576 d ∧ (v_30 576 d = 1 → g_30 576 d = d) ∧ (v_30 576 d = 0 → g_31 576 d = g_30 576 d) := by
  obtain ⟨tx, b13, bt, bl, tk⟩ := id h
  obtain ⟨a, e1, p1, p2, p3, p4, p5⟩ := bl189 tx bt.1 bt.2
  have ea : a = d 577 2 := p2.uni bl
  rw [ea] at p5
  have f1 : FrR e e1 := ⟨p3, fun j hj => p4 j (by omega)⟩
  have e13 : e1 769 13 = 0 := by rw [p4 13 (by decide)]; exact b13
  have vr : v_192 769 59 e = if d 577 2 < d 578 1 then (if e 776 (d 577 2) = 59 then 1 else 0) else 0 := by
    unfold v_192
    rw [p1, p5, tx.2.1, show (769 : Int) + 7 = 776 by decide]
  have gr : g_192 769 59 e = e1 := p1
  have er : g_195 769 e = if v_192 769 59 e = 0 then g_188 769 1 (d 577 2) e1 else mset e1 769 10 (d 577 2 + 1) := by
    unfold g_195
    rw [if_pos b13, gr, p5]
  have hb0 := bl.1
  by_cases k2 : d 577 1 = 2
  · have t : d 577 2 < d 578 1 ∧ d 579 (d 577 2) = 59 ∧ d 577 3 = d 577 2 + 1 := by
      rcases tk with ⟨a1, a2, a3⟩ | ⟨a1, a2, a3, a4⟩ | ⟨a1, a2, a3, a4⟩ | ⟨a1, a2, a3, a4⟩ | ⟨a1, a2, a3, a4, a5, a6⟩
      · omega
      · omega
      · omega
      · exact ⟨a1, a2, a4⟩
      · omega
    obtain ⟨t1, t2, t3⟩ := t
    have g := tx.2.2 (d 577 2) (by omega) t1
    rw [if_pos t1, if_pos (by omega)] at vr
    rw [vr, if_neg (by decide)] at er
    have ev : v_30 576 d = 1 := by
      unfold v_30
      rw [show (576 : Int) + 1 = 577 by decide, if_pos k2]
    have eg : g_30 576 d = d := by
      unfold g_30
      rw [show (576 : Int) + 1 = 577 by decide, if_pos k2]
    have ev1 : v_31 576 d = 1 := by
      unfold v_31
      rw [ev, if_neg (by decide)]
    have eg1 : g_31 576 d = g_52 577 d := by
      unfold g_31
      rw [ev, if_neg (by decide), eg]
      rfl
    have fr := f1.trans (FrR.set (e := e1) (j := 10) (v := d 577 2 + 1) (by decide))
    obtain ⟨s1, s2⟩ := h.next (d0 := d) (fun _ _ _ => rfl) rfl fr (by rw [ms_i (by decide)]; exact e13) (by rw [ms_e rfl rfl, t3])
    rw [er, ev, ev1, eg, eg1]
    exact ⟨Or.inr rfl, Or.inr rfl, s2, fr, Or.inl ⟨rfl, s1⟩, rfl, fun _ => rfl, fun z => absurd z (by decide)⟩
  · have t : d 577 2 < d 578 1 → ¬ d 579 (d 577 2) = 59 := by
      rcases tk with ⟨a1, a2, a3⟩ | ⟨a1, a2, a3, a4⟩ | ⟨a1, a2, a3, a4⟩ | ⟨a1, a2, a3, a4⟩ | ⟨a1, a2, a3, a4, a5, a6⟩
      · intro z; omega
      · intro _ z; unfold isLe at a2; omega
      · intro _ z; unfold isDi at a2; omega
      · exact absurd a3 k2
      · intro _; exact a4
    have vr0 : v_192 769 59 e = 0 := by
      rw [vr]
      by_cases c : d 577 2 < d 578 1
      · have g := tx.2.2 (d 577 2) (by omega) c
        have := t c
        rw [if_pos c, if_neg (by omega)]
      · rw [if_neg c]
    rw [if_pos vr0] at er
    have ev : v_30 576 d = 0 := by
      unfold v_30
      rw [show (576 : Int) + 1 = 577 by decide, if_neg k2]
      rfl
    have eg : g_30 576 d = g_32 576 1 d := by
      unfold g_30
      rw [show (576 : Int) + 1 = 577 by decide, if_neg k2]
    have ev1 : v_31 576 d = 0 := by
      unfold v_31
      rw [ev, if_pos rfl]
    have eg1 : g_31 576 d = g_32 576 1 d := by
      unfold g_31
      rw [ev, if_pos rfl, eg]
    obtain ⟨b1, b2⟩ := flt188 (c := 1) (p := d 577 2) e13
    obtain ⟨c1, c2, c3⟩ := fail32 (c := 1) (d := d)
    rw [er, ev, ev1, eg, eg1]
    exact ⟨Or.inl rfl, Or.inl rfl, c3, f1.trans b2, Or.inr ⟨rfl, 1, d 577 2, c1, c2, b1⟩, rfl, fun z => absurd z (by decide), fun _ => rfl⟩
/-! ===== both readers side by side: names ===== -/
theorem nameC {d : mD} {a z : Int} (hz : z - a ≤ 6) (hl : ∀ j, a ≤ j → j < z → isLe (d 579 j)) : ∀ (n : Nat) (c i : Int), ((c = 0 ∧ i = 0) ∨ (okN c ∧ 1 ≤ i)) → nmB i c → nm c = wc (d 579) a i.toNat → a + i ≤ z → a < z → z - (a + i) ≤ (n : Int) → okN (lp_93_20 578 a z n c (a + i) d) ∧ nm (lp_93_20 578 a z n c (a + i) d) = wc (d 579) a (z - a).toNat := by
  have fin : ∀ (r : Int → Int → mD → Int) (c i : Int), ((c = 0 ∧ i = 0) ∨ (okN c ∧ 1 ≤ i)) → nm c = wc (d 579) a i.toNat → a < z → a + i = z → okN (st_93_20 578 a z r c (a + i) d) ∧ nm (st_93_20 578 a z r c (a + i) d) = wc (d 579) a (z - a).toNat := fun r c i hc hw h0 h1 => by
    unfold st_93_20
    rw [if_neg (by omega), show (z - a).toNat = i.toNat by omega]
    refine ⟨?_, hw⟩
    rcases hc with hc | hc
    · omega
    · exact hc.1
  intro n
  induction n with
  | zero =>
    intro c i hc hb hw h1 h0 hn
    exact fin _ c i hc hw h0 (by omega)
  | succ n ih =>
    intro c i hc hb hw h1 h0 hn
    by_cases q : a + i < z
    · have i0 : 0 ≤ i := by
        rcases hc with hc | hc <;> omega
      have le := hl (a + i) (by omega) q
      have hv : ¬ v_91 578 (a + i) d = 0 := by
        rcases v91_i (i := a + i) (d := d) with ⟨v, g⟩ | ⟨v, g⟩
        · exact absurd le g
        · omega
      have hb' : (i = 0 ∧ c < 1) ∨ (i = 1 ∧ c < 32) ∨ (i = 2 ∧ c < 1024) ∨ (i = 3 ∧ c < 32768) ∨ (i = 4 ∧ c < 1048576) ∨ (i = 5 ∧ c < 33554432) := by
        exact hb.lt (by omega)
      unfold isLe at le
      have hc5 := nmB.b5 hb'
      obtain ⟨o1, o2, o3⟩ := okStep (l := d 579 (a + i) - 96) hc hb' (by clear hb hb'; omega)
      clear hb hb'
      have hc0 : 0 ≤ c := by
        rcases hc with hc | hc
        · omega
        · have := hc.1.1
          omega
      have hm : mior (mishl c 5) (d 579 (a + i) - 96) = 32 * c + (d 579 (a + i) - 96) := by
        exact mior5 hc0 hc5 (by clear o3; omega) (by clear o3; omega)
      have e1 : lp_93_20 578 a z (n + 1) c (a + i) d = lp_93_20 578 a z n (32 * c + (d 579 (a + i) - 96)) (a + (i + 1)) d := by
        show st_93_20 578 a z _ c (a + i) d = _
        unfold st_93_20
        rw [if_pos q, if_neg hv, show (578 : Int) + 1 = 579 by decide, hm, show a + i + 1 = a + (i + 1) by omega]
      rw [e1]
      refine ih _ (i + 1) (Or.inr ⟨o1, by clear o3; omega⟩) (nmB.up o3) ?_ (by clear o3; omega) h0 (by clear o3; omega)
      rw [o2, hw, show (i + 1).toNat = i.toNat + 1 by omega]
      show _ = 27 * wc (d 579) a i.toNat + d 579 (a + (i.toNat : Int)) - 96
      rw [show a + (i.toNat : Int) = a + i by omega]
      omega
    · exact fin _ c i hc hw h0 (by omega)
theorem mc0 {x : Int} : 0 < mcmp x 0 ↔ 0 < x := by
  unfold mcmp
  split
  · omega
  · split <;> omega
theorem takeName {d e : mD} (h : Syn d e) : FrC d (g_26 576 d) ∧ FrR e (g_198 769 e) ∧ g_198 769 e 769 16 = d 577 2 ∧ ((okN (v_56 577 d) ∧ v_26 576 d = 1 ∧ Syn (g_26 576 d) (g_198 769 e) ∧ g_26 576 d 576 5 = v_56 577 d ∧ v_198 769 e = nm (v_56 577 d)) ∨ (v_56 577 d = -1 ∧ v_26 576 d = 0 ∧ Fail (g_26 576 d) (g_198 769 e) ∧ v_198 769 e = 0)) := by
  obtain ⟨tx, b13, bt, bl, tk⟩ := id h
  obtain ⟨a, z, e1, p1, p2, p3, p4, p5, p6, p7⟩ := w193 (lim := 6) (by decide) tx bt.1 bt.2
  have ea : a = d 577 2 := p1.uni bl
  rw [ea] at p2 p3 p7
  have f1 : FrR e e1 := ⟨p4, fun j hj => p5 j (by omega) (by omega)⟩
  have e13 : e1 769 13 = 0 := by rw [p5 13 (by decide) (by decide)]; exact b13
  have v3 : v_193 769 6 e = if z - d 577 2 ≤ 6 then wc (d 579) (d 577 2) (z - d 577 2).toNat else -1 := by
    unfold v_193
    rw [p3]
  have g3 : g_193 769 6 e = e1 := by
    unfold g_193
    rw [p3]
  have vr : v_198 769 e = if 0 < v_193 769 6 e then v_193 769 6 e else 0 := by
    unfold v_198
    rw [if_pos b13, g3, p7]
    obtain ⟨b1, -⟩ := flt188 (c := 1) (p := d 577 2) e13
    by_cases c : 0 < v_193 769 6 e
    · rw [if_pos (mc0.2 c), if_pos c, if_pos e13]
    · rw [if_neg (fun y => c (mc0.1 y)), if_neg c, if_neg (by rw [b1.1]; decide)]
  have gr : g_198 769 e = if 0 < v_193 769 6 e then e1 else g_188 769 1 (d 577 2) e1 := by
    unfold g_198
    rw [if_pos b13, g3, p7]
    by_cases c : 0 < v_193 769 6 e
    · rw [if_pos (mc0.2 c), if_pos c]
    · rw [if_neg (fun y => c (mc0.1 y)), if_neg c]
  have b16 : g_188 769 1 (d 577 2) e1 769 16 = d 577 2 := by
    unfold g_188
    rw [if_pos e13, ms_i (by decide), ms_i (by decide), ms_i (by decide), p7]
  have bad : v_56 577 d = -1 → ¬ 0 < v_193 769 6 e → FrC d (g_26 576 d) ∧ FrR e (g_198 769 e) ∧ g_198 769 e 769 16 = d 577 2 ∧ ((okN (v_56 577 d) ∧ v_26 576 d = 1 ∧ Syn (g_26 576 d) (g_198 769 e) ∧ g_26 576 d 576 5 = v_56 577 d ∧ v_198 769 e = nm (v_56 577 d)) ∨ (v_56 577 d = -1 ∧ v_26 576 d = 0 ∧ Fail (g_26 576 d) (g_198 769 e) ∧ v_198 769 e = 0)) := fun hv hn => by
    rw [if_neg hn] at vr gr
    have eg : g_26 576 d = g_32 576 1 (mset d 576 5 (-1)) := by
      unfold g_26
      rw [show (576 : Int) + 1 = 577 by decide, hv, if_pos rfl]
    have ev : v_26 576 d = 0 := by
      unfold v_26
      rw [show (576 : Int) + 1 = 577 by decide, hv, if_pos rfl]
      rfl
    obtain ⟨c1, c2, c3⟩ := fail32 (c := 1) (d := mset d 576 5 (-1))
    rw [ms_a (by decide)] at c2
    obtain ⟨b1, b2⟩ := flt188 (c := 1) (p := d 577 2) e13
    rw [eg, gr]
    exact ⟨fun b x y => by rw [c3 b x y]; funext j; exact ms_a x, f1.trans b2, b16, Or.inr ⟨hv, ev, ⟨1, d 577 2, c1, c2, b1⟩, vr⟩⟩
  by_cases k0 : d 577 1 = 0
  · have t : d 577 2 < d 578 1 ∧ isLe (d 579 (d 577 2)) ∧ RU isLe (d 579) (d 578 1) (d 577 2) (d 577 3) := by
      rcases tk with ⟨a1, a2, a3⟩ | ⟨a1, a2, a3, a4⟩ | ⟨a1, a2, a3, a4⟩ | ⟨a1, a2, a3, a4⟩ | ⟨a1, a2, a3, a4, a5, a6⟩
      · omega
      · exact ⟨a1, a2, a4⟩
      · omega
      · omega
      · omega
    obtain ⟨t1, t2, t3⟩ := t
    have ez : z = d 577 3 := p2.uni t3
    rw [ez] at v3 p6
    have hz : d 577 2 < d 577 3 := by
      by_cases c : d 577 2 < d 577 3
      · exact c
      · have e3 : d 577 3 = d 577 2 := by have := t3.1; omega
        have := t3.2.2.2
        rw [e3] at this
        exact absurd t2 (this t1)
    have v56 : v_56 577 d = if 6 < d 577 3 - d 577 2 then -1 else lp_93_20 578 (d 577 2) (d 577 3) (d 577 3 - d 577 2 : Int).toNat 0 (d 577 2) d := by
      unfold v_56 v_93
      rw [if_pos k0, if_pos hz]
      rfl
    by_cases c6 : 6 < d 577 3 - d 577 2
    · rw [if_pos c6] at v56
      exact bad v56 (by rw [v3, if_neg (by omega)]; decide)
    · rw [if_neg c6] at v56
      rw [if_pos (by omega)] at v3
      obtain ⟨n1, n2⟩ := nameC (d := d) (a := d 577 2) (z := d 577 3) (by omega) t3.2.2.1 (d 577 3 - d 577 2 : Int).toNat 0 0 (Or.inl ⟨rfl, rfl⟩) (Or.inl ⟨rfl, by decide⟩) (by rw [nm_zero]; rfl) (by omega) hz (by omega)
      rw [show d 577 2 + 0 = d 577 2 by omega, ← v56] at n1 n2
      have np := nm_pos n1
      rw [← n2] at v3
      rw [v3, if_pos np] at vr gr
      have c0 := n1.1
      have hne : ¬ v_56 577 d = -1 := by omega
      have eg : g_26 576 d = g_52 577 (mset d 576 5 (v_56 577 d)) := by
        unfold g_26
        rw [show (576 : Int) + 1 = 577 by decide, if_neg hne]
      have ev : v_26 576 d = 1 := by
        unfold v_26
        rw [show (576 : Int) + 1 = 577 by decide, if_neg hne]
      obtain ⟨s1, s2⟩ := h.next (d0 := mset d 576 5 (v_56 577 d)) (fun b x y => by funext j; exact ms_a x) (ms_a (by decide)) f1 e13 p6
      have e5 := (adv (L := d 578 1) (d := mset d 576 5 (v_56 577 d)) (by rw [ms_a (by decide)]) tx.1.2 (by rw [ms_a (by decide)]; have := bl.1; omega) (by rw [ms_a (by decide)]; exact t3.2.1)).1 576 (by decide)
      rw [eg, gr]
      exact ⟨s2, f1, p7, Or.inl ⟨n1, ev, s1, by rw [e5, ms_e rfl rfl], vr⟩⟩
  · have v56 : v_56 577 d = -1 := by
      unfold v_56
      rw [if_neg k0]
    have ez : z = d 577 2 := by
      rcases tk with ⟨a1, a2, a3⟩ | ⟨a1, a2, a3, a4⟩ | ⟨a1, a2, a3, a4⟩ | ⟨a1, a2, a3, a4⟩ | ⟨a1, a2, a3, a4, a5, a6⟩
      · exact p2.nil (fun y => by omega)
      · exact absurd a3 k0
      · exact p2.nil (fun _ y => by unfold isLe at y; unfold isDi at a2; omega)
      · exact p2.nil (fun _ y => by unfold isLe at y; omega)
      · exact p2.nil (fun _ y => a2 y)
    refine bad v56 ?_
    rw [v3, ez, if_pos (by omega), show (d 577 2 - d 577 2).toNat = 0 by omega]
    show ¬ (0 : Int) < 0
    decide
/-! ===== both readers side by side: words ===== -/
theorem wc_nn {b : Int → Int} {a : Int} : ∀ n : Nat, (∀ i : Int, 0 ≤ i → i < (n : Int) → isLe (b (a + i))) → 0 ≤ wc b a n ∧ (0 < n → 0 < wc b a n) := by
  intro n
  induction n with
  | zero => intro _; exact ⟨by show (0 : Int) ≤ 0; decide, fun z => absurd z (by omega)⟩
  | succ n ih =>
    intro h
    have h1 := (ih (fun i x y => h i x (by omega))).1
    have h2 := h n (by omega) (by omega)
    unfold isLe at h2
    have e : wc b a (n + 1) = 27 * wc b a n + b (a + n) - 96 := rfl
    rw [e]
    exact ⟨by omega, fun _ => by omega⟩
theorem wc_inj {f g : Int → Int} {a c : Int} : ∀ n m : Nat, (∀ i : Int, 0 ≤ i → i < (n : Int) → isLe (f (a + i))) → (∀ i : Int, 0 ≤ i → i < (m : Int) → isLe (g (c + i))) → wc f a n = wc g c m → n = m ∧ ∀ i : Int, 0 ≤ i → i < (n : Int) → f (a + i) = g (c + i) := by
  intro n
  induction n with
  | zero =>
    intro m hf hg h
    have h : 0 = wc g c m := h
    have := (wc_nn m hg).2
    exact ⟨by omega, fun i x y => by omega⟩
  | succ n ih =>
    intro m hf hg h
    cases m with
    | zero =>
      have := (wc_nn (n + 1) hf).2 (by omega)
      have h : wc f a (n + 1) = 0 := h
      omega
    | succ m =>
      have h1 := hf n (by omega) (by omega)
      have h2 := hg m (by omega) (by omega)
      unfold isLe at h1 h2
      have h : 27 * wc f a n + f (a + n) - 96 = 27 * wc g c m + g (c + m) - 96 := h
      obtain ⟨q1, q2⟩ := ih m (fun i x y => hf i x (by omega)) (fun i x y => hg i x (by omega)) (by omega)
      refine ⟨by omega, fun i x y => ?_⟩
      by_cases z : i = n
      · rw [z]
        subst q1
        omega
      · exact q2 i x (by omega)
def wordOK (w code : Int) : Prop := wc (fun i => tsc w i) 0 (tsl w).toNat = code ∧ (1 ≤ tsl w ∧ tsl w ≤ 8) ∧ ∀ i : Int, 0 ≤ i → i < tsl w → isLe (tsc w i)
theorem mcz {x y : Int} : mcmp x y = 0 ↔ x = y := by
  unfold mcmp
  split
  · omega
  · split <;> omega
theorem BL.self {b : Int → Int} {L i a : Int} (h : BL b L i a) : BL b L a a := ⟨by omega, h.2.1, fun j x y => by omega, h.2.2.2⟩
theorem isWord {d e : mD} {w code : Int} (h : Syn d e) (hw : wordOK w code) : FrR e (g_194 769 code e) ∧ ((v_55 577 w d = 1 ∧ v_194 769 code e = 1 ∧ Syn (g_52 577 d) (g_194 769 code e) ∧ FrC d (g_52 577 d)) ∨ (v_55 577 w d = 0 ∧ v_194 769 code e = 0 ∧ Syn d (g_194 769 code e))) := by
  obtain ⟨tx, b13, bt, bl, tk⟩ := id h
  obtain ⟨hw1, hw2, hw3⟩ := hw
  obtain ⟨a0, e0, o1, o2, o3, o4, o5⟩ := bl189 tx bt.1 bt.2
  have ea0 : a0 = d 577 2 := o2.uni bl
  rw [ea0] at o5
  have f0 : FrR e e0 := ⟨o3, fun j hj => o4 j (by omega)⟩
  have e013 : e0 769 13 = 0 := by rw [o4 13 (by decide)]; exact b13
  have tx0 : TX (d 579) (d 578 1) e0 := tx.fr (o4 9 (by decide)) (o3 776 (by decide))
  have b0 := bl.1
  obtain ⟨a, z, e1, p1, p2, p3, p4, p5, p6, p7⟩ := w193 (lim := 8) (by decide) tx0 (by omega) (by have := bl.2.1; omega)
  rw [o5] at p1
  have ea : a = d 577 2 := p1.uni bl.self
  rw [ea] at p2 p3
  have f1 : FrR e0 e1 := ⟨p4, fun j hj => p5 j (by omega) (by omega)⟩
  have e13 : e1 769 13 = 0 := by rw [p5 13 (by decide) (by decide)]; exact e013
  have v3 : v_193 769 8 e0 = if z - d 577 2 ≤ 8 then wc (d 579) (d 577 2) (z - d 577 2).toNat else -1 := by
    unfold v_193
    rw [p3]
  have g3 : g_193 769 8 e0 = e1 := by
    unfold g_193
    rw [p3]
  have vr : v_194 769 code e = if v_193 769 8 e0 = code then 1 else 0 := by
    unfold v_194
    rw [o1, if_pos e013]
    by_cases c : v_193 769 8 e0 = code
    · rw [if_pos (mcz.2 c), if_pos c]
    · rw [if_neg (fun y => c (mcz.1 y)), if_neg c]
  have gr : g_194 769 code e = if v_193 769 8 e0 = code then e1 else mset e1 769 10 (d 577 2) := by
    unfold g_194
    rw [o1, if_pos e013, g3, o5]
    by_cases c : v_193 769 8 e0 = code
    · rw [if_pos (mcz.2 c), if_pos c]
    · rw [if_neg (fun y => c (mcz.1 y)), if_neg c]
  have lw : ∀ i : Int, 0 ≤ i → i < ((tsl w).toNat : Int) → isLe ((fun i => tsc w i) (0 + i)) := fun i x y => by
    show isLe (tsc w (0 + i))
    rw [Int.zero_add]
    exact hw3 i x (by omega)
  have cpos : 0 < code := by
    rw [← hw1]
    exact (wc_nn _ lw).2 (by omega)
  have ls : ∀ i : Int, 0 ≤ i → i < ((z - d 577 2).toNat : Int) → isLe (d 579 (d 577 2 + i)) := fun i x y => p2.2.2.1 _ (by omega) (by omega)
  have hm : v_193 769 8 e0 = code ↔ (z - d 577 2 = tsl w ∧ ∀ i, 0 ≤ i → i < tsl w → d 579 (d 577 2 + i) = tsc w i) := by
    rw [v3]
    constructor
    · intro y
      by_cases c : z - d 577 2 ≤ 8
      · rw [if_pos c, ← hw1] at y
        obtain ⟨q1, q2⟩ := wc_inj (z - d 577 2).toNat (tsl w).toNat ls lw y
        have := p2.1
        refine ⟨by omega, fun i x u => ?_⟩
        have := q2 i x (by omega)
        rw [Int.zero_add] at this
        exact this
      · rw [if_neg c] at y
        omega
    · rintro ⟨y1, y2⟩
      rw [if_pos (by omega), ← hw1, y1]
      have ext : ∀ n : Nat, (n : Int) ≤ tsl w → wc (d 579) (d 577 2) n = wc (fun i => tsc w i) 0 n := by
        intro n
        induction n with
        | zero => intro _; rfl
        | succ n ih =>
          intro hn
          show 27 * wc (d 579) (d 577 2) n + d 579 (d 577 2 + n) - 96 = 27 * wc (fun i => tsc w i) 0 n + tsc w (0 + n) - 96
          rw [ih (by omega), y2 n (by omega) (by omega), Int.zero_add]
      exact ext _ (by omega)
  by_cases c : v_193 769 8 e0 = code
  · obtain ⟨m1, m2⟩ := hm.1 c
    rw [if_pos c] at vr gr
    have k : d 577 1 = 0 ∧ RU isLe (d 579) (d 578 1) (d 577 2) (d 577 3) := by
      have l0 := m2 0 (by decide) (by omega)
      have ll := p2.2.2.1 (d 577 2) (by omega) (by omega)
      have zz := p2.2.1
      rcases tk with ⟨a1, a2, a3⟩ | ⟨a1, a2, a3, a4⟩ | ⟨a1, a2, a3, a4⟩ | ⟨a1, a2, a3, a4⟩ | ⟨a1, a2, a3, a4, a5, a6⟩
      · omega
      · exact ⟨a3, a4⟩
      · unfold isLe at ll
        unfold isDi at a2
        omega
      · unfold isLe at ll
        omega
      · exact absurd ll a2
    have ez : z = d 577 3 := p2.uni k.2
    have v5 : v_55 577 w d = 1 := by
      unfold v_55
      rw [if_pos k.1, if_pos (by omega), if_pos]
      rw [List.all_eq_true]
      intro i hi
      rw [List.mem_range] at hi
      exact decide_eq_true (m2 i (by omega) (by omega))
    obtain ⟨s1, s2⟩ := h.next (d0 := d) (fun _ _ _ => rfl) rfl (f0.trans f1) e13 (by rw [p6, ez])
    rw [gr]
    exact ⟨f0.trans f1, Or.inl ⟨v5, vr, s1, s2⟩⟩
  · rw [if_neg c] at vr gr
    have v5 : v_55 577 w d = 0 := by
      unfold v_55
      by_cases k : d 577 1 = 0
      · rw [if_pos k]
        by_cases k3 : d 577 3 - d 577 2 = tsl w
        · rw [if_pos k3, if_neg]
          intro y
          rw [List.all_eq_true] at y
          refine c (hm.2 ?_)
          have ru : RU isLe (d 579) (d 578 1) (d 577 2) (d 577 3) := by
            rcases tk with ⟨a1, a2, a3⟩ | ⟨a1, a2, a3, a4⟩ | ⟨a1, a2, a3, a4⟩ | ⟨a1, a2, a3, a4⟩ | ⟨a1, a2, a3, a4, a5, a6⟩
            · omega
            · exact a4
            · omega
            · omega
            · omega
          have ez : z = d 577 3 := p2.uni ru
          refine ⟨by omega, fun i x u => ?_⟩
          have := of_decide_eq_true (y i.toNat (List.mem_range.2 (by omega)))
          rw [show ((i.toNat : Nat) : Int) = i by omega] at this
          exact this
        · rw [if_neg k3]
      · rw [if_neg k]
    have fr := (f0.trans f1).trans (FrR.set (e := e1) (j := 10) (v := d 577 2) (by decide))
    rw [gr]
    refine ⟨fr, Or.inr ⟨v5, vr, tx.fr (fr.2 9 (by decide)) (fr.1 776 (by decide)), by rw [ms_i (by decide)]; exact e13, ?_, ?_, tk⟩⟩
    · rw [ms_e rfl rfl]
      exact ⟨by omega, bl.2.1⟩
    · rw [ms_e rfl rfl]
      exact bl.self
/-! ===== both readers side by side: who is meant ===== -/
theorem wordK {w code k : Int} (hk : tsl w = k) (hk2 : 4 ≤ k ∧ k ≤ 7) (hc : wc (fun i => tsc w i) 0 (tsl w).toNat = code) (h0 : 97 ≤ tsc w 0 ∧ tsc w 0 ≤ 122) (h1 : 97 ≤ tsc w 1 ∧ tsc w 1 ≤ 122) (h2 : 97 ≤ tsc w 2 ∧ tsc w 2 ≤ 122) (h3 : 97 ≤ tsc w 3 ∧ tsc w 3 ≤ 122) (h4 : 4 < k → 97 ≤ tsc w 4 ∧ tsc w 4 ≤ 122) (h5 : 5 < k → 97 ≤ tsc w 5 ∧ tsc w 5 ≤ 122) (h6 : 6 < k → 97 ≤ tsc w 6 ∧ tsc w 6 ≤ 122) : wordOK w code := by
  refine ⟨hc, by omega, fun i x y => ?_⟩
  rw [hk] at y
  have : i = 0 ∨ i = 1 ∨ i = 2 ∨ i = 3 ∨ i = 4 ∨ i = 5 ∨ i = 6 := by omega
  rcases this with z | z | z | z | z | z | z
  · rw [z]; exact h0
  · rw [z]; exact h1
  · rw [z]; exact h2
  · rw [z]; exact h3
  · rw [z]; exact h4 (by omega)
  · rw [z]; exact h5 (by omega)
  · rw [z]; exact h6 (by omega)
theorem word0 : wordOK 0 40216062 := wordK (k := 6) (by decide) (by decide) (by decide) (by decide) (by decide) (by decide) (by decide) (fun _ => by decide) (fun _ => by decide) (fun z => absurd z (by decide))
theorem word1 : wordOK 1 218546996 := wordK (k := 6) (by decide) (by decide) (by decide) (by decide) (by decide) (by decide) (by decide) (fun _ => by decide) (fun _ => by decide) (fun z => absurd z (by decide))
theorem word2 : wordOK 2 232608281 := wordK (k := 6) (by decide) (by decide) (by decide) (by decide) (by decide) (by decide) (by decide) (fun _ => by decide) (fun _ => by decide) (fun z => absurd z (by decide))
theorem word3 : wordOK 3 208022 := wordK (k := 4) (by decide) (by decide) (by decide) (by decide) (by decide) (by decide) (by decide) (fun z => absurd z (by decide)) (fun z => absurd z (by decide)) (fun z => absurd z (by decide))
theorem word4 : wordOK 4 316189 := wordK (k := 4) (by decide) (by decide) (by decide) (by decide) (by decide) (by decide) (by decide) (fun z => absurd z (by decide)) (fun z => absurd z (by decide)) (fun z => absurd z (by decide))
theorem word5 : wordOK 5 1831504 := wordK (k := 5) (by decide) (by decide) (by decide) (by decide) (by decide) (by decide) (by decide) (fun _ => by decide) (fun z => absurd z (by decide)) (fun z => absurd z (by decide))
theorem word6 : wordOK 6 9050719969 := wordK (k := 7) (by decide) (by decide) (by decide) (by decide) (by decide) (by decide) (by decide) (fun _ => by decide) (fun _ => by decide) (fun _ => by decide)
theorem Syn.c {d d' e : mD} (h : Syn d e) (e7 : d' 577 = d 577) (e8 : d' 578 = d 578) (e9 : d' 579 = d 579) : Syn d' e := by
  unfold Syn
  rw [e7, e8, e9]
  exact h
theorem g26_6 {d e : mD} (h : Syn d e) (hv : ¬ v_56 577 d = -1) : g_26 576 d 576 6 = d 576 6 := by
  obtain ⟨tx, b13, bt, bl, tk⟩ := h
  have hz := tk.z bl.2.1
  have := bl.1
  unfold g_26
  rw [show (576 : Int) + 1 = 577 by decide, if_neg hv, (adv (L := d 578 1) (d := mset d 576 5 (v_56 577 d)) (by rw [ms_a (by decide)]) tx.1.2 (by rw [ms_a (by decide)]; omega) (by rw [ms_a (by decide)]; exact hz.2)).1 576 (by decide), ms_i (by decide)]
theorem v56_c {d : mD} {v : Int} : v_56 577 (mset d 576 6 v) = v_56 577 d := by
  have st : ∀ (r r' : Int → Int → mD → Int) (a b x y : Int), (∀ x y, r x y (mset d 576 6 v) = r' x y d) → st_93_20 578 a b r x y (mset d 576 6 v) = st_93_20 578 a b r' x y d := fun r r' a b x y hr => by
    unfold st_93_20 v_91
    rw [ms_a (by decide : ¬ (578 : Int) + 1 = 576), hr]
  have lp : ∀ (a b : Int) (n : Nat) (x y : Int), lp_93_20 578 a b n x y (mset d 576 6 v) = lp_93_20 578 a b n x y d := by
    intro a b n
    induction n with
    | zero => intro x y; exact st _ _ a b x y (fun _ _ => rfl)
    | succ n ih => intro x y; exact st _ _ a b x y ih
  unfold v_56 v_93
  rw [ms_a (by decide : ¬ (577 : Int) = 576), ms_a (by decide : ¬ (577 : Int) = 576), ms_a (by decide : ¬ (577 : Int) = 576), show (577 : Int) + 1 = 578 by decide, lp]
-- a person by his name
theorem takePer {d e : mD} {w : Row} (h : Syn d e) (hr : RelP 580 d w) (hw : e 770 = w) (h8 : 0 ≤ w 8 ∧ w 8 ≤ 16) : FrC d (g_27 576 d) ∧ FrR e (g_199 769 0 e) ∧ ((v_27 576 d = 1 ∧ Syn (g_27 576 d) (g_199 769 0 e) ∧ g_27 576 d 576 6 = v_199 769 0 e ∧ 0 ≤ v_199 769 0 e ∧ v_199 769 0 e < w 8) ∨ (v_27 576 d = 0 ∧ Fail (g_27 576 d) (g_199 769 0 e))) := by
  generalize hf : v_48 590 (v_56 577 d) d = f
  have ev : v_27 576 d = if v_56 577 d = -1 then v_26 576 (mset d 576 6 f) else if f = -1 then 0 else v_26 576 (mset d 576 6 f) := by
    unfold v_27
    rw [show (576 : Int) + 1 = 577 by decide, show (576 : Int) + 4 + 10 = 590 by decide, hf, v56_c]
    rfl
  have eg : g_27 576 d = if v_56 577 d = -1 then g_26 576 (mset d 576 6 f) else if f = -1 then g_32 576 4 (mset d 576 6 f) else g_26 576 (mset d 576 6 f) := by
    unfold g_27
    rw [show (576 : Int) + 1 = 577 by decide, show (576 : Int) + 4 + 10 = 590 by decide, hf, v56_c]
  have h6 : Syn (mset d 576 6 f) e := h.c (by funext j; exact ms_a (by decide)) (by funext j; exact ms_a (by decide)) (by funext j; exact ms_a (by decide))
  have c6 : FrC d (mset d 576 6 f) := fun b x y => by funext j; exact ms_a x
  obtain ⟨n1, n2, n3, n4⟩ := takeName h6
  rw [v56_c] at n4
  have s2 : mset d 576 6 f 577 2 = d 577 2 := ms_a (by decide)
  rw [s2] at n3
  have w1 : g_198 769 e 770 = w := by rw [n2.1 770 (by decide)]; exact hw
  have er : v_183 769 (v_198 769 e) (g_198 769 e) = V_183 (v_198 769 e) w := by rw [m_v_183, w1]
  have gr : g_199 769 0 e = if V_183 (v_198 769 e) w = -1 then g_188 769 4 (d 577 2) (g_198 769 e) else g_198 769 e := by
    unfold g_199
    rw [er, n3, if_pos rfl]
  rcases n4 with ⟨o1, o2, o3, o4, o5⟩ | ⟨o1, o2, o3, o4⟩
  · have hne : ¬ v_56 577 d = -1 := by
      have := o1.1
      omega
    have ff : f = V_183 (v_198 769 e) w := by
      rw [← hf, o5]
      exact findP (s := 580) hr o1
    rw [if_neg hne] at ev eg
    by_cases c : f = -1
    · rw [if_pos c] at ev eg
      rw [if_pos (by rw [← ff]; exact c)] at gr
      obtain ⟨b1, b2⟩ := flt188 (c := 4) (p := d 577 2) o3.2.1
      obtain ⟨c1, c2, c3⟩ := fail32 (c := 4) (d := mset d 576 6 f)
      rw [s2] at c2
      rw [eg, gr]
      exact ⟨fun b x y => by rw [c3 b x y, c6 b x y], n2.trans b2, Or.inr ⟨ev, 4, d 577 2, c1, c2, b1⟩⟩
    · rw [if_neg c] at ev eg
      rw [if_neg (by rw [← ff]; exact c)] at gr
      have vr : v_199 769 0 e = f := by
        unfold v_199
        rw [er, ← ff, if_neg c, if_pos rfl, if_pos o3.2.1]
      have rg := V183_rng (m := v_198 769 e) (w := w) h8
      rw [← ff] at rg
      rw [eg, gr, vr]
      exact ⟨fun b x y => by rw [n1 b x y, c6 b x y], n2, Or.inl ⟨by rw [ev]; exact o2, o3, by rw [g26_6 h6 (by rw [v56_c]; exact hne), ms_e rfl rfl], by omega, by omega⟩⟩
  · rw [if_pos o1] at ev eg
    obtain ⟨c, p, q1, q2, q3⟩ := o3
    have stay : ∀ x, g_188 769 4 x (g_198 769 e) = g_198 769 e := fun x => by
      unfold g_188
      rw [if_neg (by rw [q3.1]; decide)]
    have gr2 : g_199 769 0 e = g_198 769 e := by
      rw [gr, stay]
      split <;> rfl
    rw [eg, gr2]
    exact ⟨fun b x y => by rw [n1 b x y, c6 b x y], n2, Or.inr ⟨by rw [ev]; exact o2, c, p, q1, q2, q3⟩⟩
/-! ===== both readers side by side: an office by its name, the latest ticket of a person ===== -/
theorem takeOff {d e : mD} {w : Row} (h : Syn d e) (hr : RelO 580 d w) (hw : e 770 = w) (h7 : 0 ≤ w 7 ∧ w 7 ≤ 6) : FrC d (g_28 576 d) ∧ FrR e (g_200 769 e) ∧ ((v_28 576 d = 1 ∧ Syn (g_28 576 d) (g_200 769 e) ∧ g_28 576 d 576 6 = v_200 769 e ∧ 0 ≤ v_200 769 e ∧ v_200 769 e < w 7) ∨ (v_28 576 d = 0 ∧ Fail (g_28 576 d) (g_200 769 e))) := by
  generalize hf : v_36 582 (v_56 577 d) d = f
  have ev : v_28 576 d = if v_56 577 d = -1 then v_26 576 (mset d 576 6 f) else if f = -1 then 0 else v_26 576 (mset d 576 6 f) := by
    unfold v_28
    rw [show (576 : Int) + 1 = 577 by decide, show (576 : Int) + 4 + 2 = 582 by decide, hf, v56_c]
    rfl
  have eg : g_28 576 d = if v_56 577 d = -1 then g_26 576 (mset d 576 6 f) else if f = -1 then g_32 576 4 (mset d 576 6 f) else g_26 576 (mset d 576 6 f) := by
    unfold g_28
    rw [show (576 : Int) + 1 = 577 by decide, show (576 : Int) + 4 + 2 = 582 by decide, hf, v56_c]
  have h6 : Syn (mset d 576 6 f) e := h.c (by funext j; exact ms_a (by decide)) (by funext j; exact ms_a (by decide)) (by funext j; exact ms_a (by decide))
  have c6 : FrC d (mset d 576 6 f) := fun b x y => by funext j; exact ms_a x
  obtain ⟨n1, n2, n3, n4⟩ := takeName h6
  rw [v56_c] at n4
  have s2 : mset d 576 6 f 577 2 = d 577 2 := ms_a (by decide)
  rw [s2] at n3
  have w1 : g_198 769 e 770 = w := by rw [n2.1 770 (by decide)]; exact hw
  have er : v_184 769 (v_198 769 e) (g_198 769 e) = V_184 (v_198 769 e) w := by rw [m_v_184, w1]
  have gr : g_200 769 e = if V_184 (v_198 769 e) w = -1 then g_188 769 4 (d 577 2) (g_198 769 e) else g_198 769 e := by
    unfold g_200
    rw [er, n3]
  rcases n4 with ⟨o1, o2, o3, o4, o5⟩ | ⟨o1, o2, o3, o4⟩
  · have hne : ¬ v_56 577 d = -1 := by
      have := o1.1
      omega
    have ff : f = V_184 (v_198 769 e) w := by
      rw [← hf, o5]
      exact findO (s := 580) hr o1
    rw [if_neg hne] at ev eg
    by_cases c : f = -1
    · rw [if_pos c] at ev eg
      rw [if_pos (by rw [← ff]; exact c)] at gr
      obtain ⟨b1, b2⟩ := flt188 (c := 4) (p := d 577 2) o3.2.1
      obtain ⟨c1, c2, c3⟩ := fail32 (c := 4) (d := mset d 576 6 f)
      rw [s2] at c2
      rw [eg, gr]
      exact ⟨fun b x y => by rw [c3 b x y, c6 b x y], n2.trans b2, Or.inr ⟨ev, 4, d 577 2, c1, c2, b1⟩⟩
    · rw [if_neg c] at ev eg
      rw [if_neg (by rw [← ff]; exact c)] at gr
      have vr : v_200 769 e = f := by
        unfold v_200
        rw [er, ← ff, if_neg c, if_pos o3.2.1]
      have rg := V184_rng (m := v_198 769 e) (w := w) h7
      rw [← ff] at rg
      rw [eg, gr, vr]
      exact ⟨fun b x y => by rw [n1 b x y, c6 b x y], n2, Or.inl ⟨by rw [ev]; exact o2, o3, by rw [g26_6 h6 (by rw [v56_c]; exact hne), ms_e rfl rfl], by omega, by omega⟩⟩
  · rw [if_pos o1] at ev eg
    obtain ⟨c, p, q1, q2, q3⟩ := o3
    have stay : ∀ x, g_188 769 4 x (g_198 769 e) = g_198 769 e := fun x => by
      unfold g_188
      rw [if_neg (by rw [q3.1]; decide)]
    have gr2 : g_200 769 e = g_198 769 e := by
      rw [gr, stay]
      split <;> rfl
    rw [eg, gr2]
    exact ⟨fun b x y => by rw [n1 b x y, c6 b x y], n2, Or.inr ⟨by rw [ev]; exact o2, c, p, q1, q2, q3⟩⟩
-- the latest ticket
theorem lp100 {s p : Int} {d : mD} {w : Row} (hr : RelT s d w) : ∀ (n : Nat) (x : Int), x < w 9 → lp_100_7 (s + 49) p n x d = LP_201_10 p n x w := by
  have st : ∀ (r : Int → mD → Int) (R : Int → Row → Int) (x : Int), x < w 9 → (0 ≤ x → r (x + -1) d = R (x + -1) w) → st_100_7 (s + 49) p r x d = ST_201_10 p R x w := fun r R x a hr2 => by
    unfold st_100_7 ST_201_10
    by_cases c : x < 0
    · rw [if_pos c, if_pos c]
    · rw [if_neg c, if_neg c, show s + 49 + 1 = s + 50 by omega, (hr.2 x (by omega) a).1]
      by_cases z : w (452 + 24 * x + 0) = p
      · rw [if_pos z, if_pos z]
      · rw [if_neg z, if_neg z]
        exact hr2 (by omega)
  intro n
  induction n with
  | zero => intro x a; exact st _ _ x a (fun _ => rfl)
  | succ n ih => intro x a; exact st _ _ x a (fun _ => ih (x + -1) (by omega))
theorem latest {s p : Int} {d : mD} {w : Row} (hr : RelT s d w) : v_100 (s + 49) p d = V_201 p w := by
  unfold v_100 V_201
  rw [hr.1]
  exact lp100 hr _ _ (by omega)
theorem V201_rng {p : Int} {w : Row} : V_201 p w = -1 ∨ (0 ≤ V_201 p w ∧ V_201 p w < w 9 ∧ w (452 + 24 * V_201 p w + 0) = p) := by
  have st : ∀ (n : Nat) (x : Int), x < w 9 → x + 1 ≤ (n : Int) → LP_201_10 p n x w = -1 ∨ (0 ≤ LP_201_10 p n x w ∧ LP_201_10 p n x w < w 9 ∧ w (452 + 24 * LP_201_10 p n x w + 0) = p) := by
    intro n
    induction n with
    | zero =>
      intro x a b
      have e : LP_201_10 p 0 x w = -1 := by
        show ST_201_10 p _ x w = _
        unfold ST_201_10
        rw [if_pos (by omega)]
      exact Or.inl e
    | succ n ih =>
      intro x a b
      have e : LP_201_10 p (n + 1) x w = if x < 0 then -1 else if w (452 + 24 * x + 0) = p then x else LP_201_10 p n (x + -1) w := rfl
      by_cases c : x < 0
      · rw [if_pos c] at e
        exact Or.inl e
      · rw [if_neg c] at e
        by_cases z : w (452 + 24 * x + 0) = p
        · rw [if_pos z] at e
          rw [e]
          exact Or.inr ⟨by omega, a, z⟩
        · rw [if_neg z] at e
          rw [e]
          exact ih (x + -1) (by omega) (by omega)
  unfold V_201
  by_cases c : 0 ≤ w 9
  · exact st _ _ (by omega) (by omega)
  · have e : ∀ n, LP_201_10 p n (w 9 - 1) w = -1 := fun n => by
      have s : ∀ R, ST_201_10 p R (w 9 - 1) w = -1 := fun R => by
        unfold ST_201_10
        rw [if_pos (by omega)]
      cases n with
      | zero => exact s _
      | succ n => exact s _
    exact Or.inl (e _)
theorem takeTick {d e : mD} {w : Row} (h : Syn d e) (hr : RelP 580 d w) (ht : RelT 580 d w) (hw : e 770 = w) (h8 : 0 ≤ w 8 ∧ w 8 ≤ 16) : FrC d (g_29 576 d) ∧ FrR e (g_199 769 1 e) ∧ ((v_29 576 d = 1 ∧ Syn (g_29 576 d) (g_199 769 1 e) ∧ g_29 576 d 576 6 = V_201 (v_199 769 1 e) w ∧ (0 ≤ v_199 769 1 e ∧ v_199 769 1 e < w 8) ∧ 0 ≤ V_201 (v_199 769 1 e) w ∧ V_201 (v_199 769 1 e) w < w 9) ∨ (v_29 576 d = 0 ∧ Fail (g_29 576 d) (g_199 769 1 e))) := by
  generalize hp : v_48 590 (v_56 577 d) d = p
  generalize hf : (if p = -1 then -1 else v_100 629 p d) = f
  have ev : v_29 576 d = if v_56 577 d = -1 then v_26 576 (mset d 576 6 f) else if f = -1 then 0 else v_26 576 (mset d 576 6 f) := by
    unfold v_29
    rw [show (576 : Int) + 1 = 577 by decide, show (576 : Int) + 4 + 10 = 590 by decide, show (576 : Int) + 4 + 49 = 629 by decide, hp, v56_c, v56_c]
    by_cases c : p = -1
    · rw [if_pos c] at hf
      rw [if_pos c, ← hf]
      rfl
    · rw [if_neg c] at hf
      rw [if_neg c, hf]
      rfl
  have eg : g_29 576 d = if v_56 577 d = -1 then g_26 576 (mset d 576 6 f) else if f = -1 then g_32 576 4 (mset d 576 6 f) else g_26 576 (mset d 576 6 f) := by
    unfold g_29
    rw [show (576 : Int) + 1 = 577 by decide, show (576 : Int) + 4 + 10 = 590 by decide, show (576 : Int) + 4 + 49 = 629 by decide, hp, v56_c, v56_c]
    by_cases c : p = -1
    · rw [if_pos c] at hf
      rw [if_pos c, ← hf]
      rfl
    · rw [if_neg c] at hf
      rw [if_neg c, hf]
  have h6 : Syn (mset d 576 6 f) e := h.c (by funext j; exact ms_a (by decide)) (by funext j; exact ms_a (by decide)) (by funext j; exact ms_a (by decide))
  have c6 : FrC d (mset d 576 6 f) := fun b x y => by funext j; exact ms_a x
  obtain ⟨n1, n2, n3, n4⟩ := takeName h6
  rw [v56_c] at n4
  have s2 : mset d 576 6 f 577 2 = d 577 2 := ms_a (by decide)
  rw [s2] at n3
  have w1 : g_198 769 e 770 = w := by rw [n2.1 770 (by decide)]; exact hw
  have er : v_183 769 (v_198 769 e) (g_198 769 e) = V_183 (v_198 769 e) w := by rw [m_v_183, w1]
  have el : ∀ x, v_201 769 x (g_198 769 e) = V_201 x w := fun x => by rw [m_v_201, w1]
  have gr : g_199 769 1 e = if V_183 (v_198 769 e) w = -1 then g_188 769 4 (d 577 2) (g_198 769 e) else if V_201 (V_183 (v_198 769 e) w) w = -1 then g_188 769 4 (d 577 2) (g_198 769 e) else g_198 769 e := by
    unfold g_199
    rw [er, n3, if_neg (by decide : ¬ (1 : Int) = 0), el]
  rcases n4 with ⟨o1, o2, o3, o4, o5⟩ | ⟨o1, o2, o3, o4⟩
  · have hne : ¬ v_56 577 d = -1 := by
      have := o1.1
      omega
    have pp : p = V_183 (v_198 769 e) w := by
      rw [← hp, o5]
      exact findP (s := 580) hr o1
    have lt : v_100 629 p d = V_201 p w := latest (s := 580) ht
    rw [← pp] at gr
    rw [if_neg hne] at ev eg
    have gr2 : g_199 769 1 e = if f = -1 then g_188 769 4 (d 577 2) (g_198 769 e) else g_198 769 e := by
      rw [gr, ← hf, lt]
      by_cases c : p = -1
      · rw [if_pos c, if_pos c, if_pos rfl]
      · rw [if_neg c, if_neg c]
    by_cases c : f = -1
    · rw [if_pos c] at ev eg gr2
      obtain ⟨b1, b2⟩ := flt188 (c := 4) (p := d 577 2) o3.2.1
      obtain ⟨c1, c2, c3⟩ := fail32 (c := 4) (d := mset d 576 6 f)
      rw [s2] at c2
      rw [eg, gr2]
      exact ⟨fun b x y => by rw [c3 b x y, c6 b x y], n2.trans b2, Or.inr ⟨ev, 4, d 577 2, c1, c2, b1⟩⟩
    · rw [if_neg c] at ev eg gr2
      have pne : ¬ p = -1 := fun y => c (by rw [← hf, if_pos y])
      rw [if_neg pne, lt] at hf
      have vr : v_199 769 1 e = p := by
        unfold v_199
        rw [er, ← pp, if_neg pne, if_neg (by decide : ¬ (1 : Int) = 0), el, hf, if_neg c, if_pos o3.2.1]
      have rg := V183_rng (m := v_198 769 e) (w := w) h8
      rw [← pp] at rg
      have rl := V201_rng (p := p) (w := w)
      rw [hf] at rl
      rw [eg, gr2, vr, hf]
      exact ⟨fun b x y => by rw [n1 b x y, c6 b x y], n2, Or.inl ⟨by rw [ev]; exact o2, o3, by rw [g26_6 h6 (by rw [v56_c]; exact hne), ms_e rfl rfl], by omega, by omega, by omega⟩⟩
  · rw [if_pos o1] at ev eg
    obtain ⟨c, p2, q1, q2, q3⟩ := o3
    have stay : ∀ x, g_188 769 4 x (g_198 769 e) = g_198 769 e := fun x => by
      unfold g_188
      rw [if_neg (by rw [q3.1]; decide)]
    have gr2 : g_199 769 1 e = g_198 769 e := by
      rw [gr, stay]
      split
      · rfl
      · split <;> rfl
    rw [eg, gr2]
    exact ⟨fun b x y => by rw [n1 b x y, c6 b x y], n2, Or.inr ⟨by rw [ev]; exact o2, c, p2, q1, q2, q3⟩⟩
/-! ===== both readers side by side: the rest of an office, the rest of a person ===== -/
theorem bad197 {lo hi : Int} {e : mD} (h : ¬ e 769 13 = 0) : g_197 769 lo hi e = e := by
  unfold g_197 f_197
  rw [if_neg h]
theorem bad195 {e : mD} (h : ¬ e 769 13 = 0) : g_195 769 e = e := by
  unfold g_195
  rw [if_neg h]
theorem BadR.ne {c p : Int} {e : mD} (h : BadR c p e) : ¬ e 769 13 = 0 := by
  rw [h.1]
  decide
theorem Fail.ne {d e : mD} (h : Fail d e) : ¬ e 769 13 = 0 := by
  obtain ⟨c, p, -, -, h⟩ := h
  exact h.ne
theorem FrC.refl {d : mD} : FrC d d := fun _ _ _ => rfl
theorem FrC.trans {a b c : mD} (h : FrC a b) (g : FrC b c) : FrC a c := fun k x y => (g k x y).trans (h k x y)
theorem v2501 {lo hi : Int} {d : mD} : v_25 576 lo hi d = 0 ∨ v_25 576 lo hi d = 1 := by
  unfold v_25
  split
  · split
    · exact Or.inl rfl
    · split
      · exact Or.inl rfl
      · exact Or.inr rfl
  · exact Or.inl rfl
theorem officeTail {d e : mD} (h : Syn d e) (X : mD) : ∃ F, (if v_25 576 1 4 d = 0 then g_25 576 1 4 d else if v_25 576 1 6 (g_25 576 1 4 d) = 0 then g_25 576 1 6 (g_25 576 1 4 d) else if v_25 576 1 20 (g_25 576 1 6 (g_25 576 1 4 d)) = 0 then g_25 576 1 20 (g_25 576 1 6 (g_25 576 1 4 d)) else if v_31 576 (g_25 576 1 20 (g_25 576 1 6 (g_25 576 1 4 d))) = 0 then g_31 576 (g_25 576 1 20 (g_25 576 1 6 (g_25 576 1 4 d))) else X) = F ∧ FrR e (g_195 769 (g_197 769 1 20 (g_197 769 1 6 (g_197 769 1 4 e)))) ∧
    ((F = X ∧ (if v_25 576 1 4 d = 0 then 0 else if v_25 576 1 6 (g_25 576 1 4 d) = 0 then 0 else if v_25 576 1 20 (g_25 576 1 6 (g_25 576 1 4 d)) = 0 then 0 else if v_31 576 (g_25 576 1 20 (g_25 576 1 6 (g_25 576 1 4 d))) = 0 then 0 else 1) = (1 : Int) ∧ Syn (g_31 576 (g_25 576 1 20 (g_25 576 1 6 (g_25 576 1 4 d)))) (g_195 769 (g_197 769 1 20 (g_197 769 1 6 (g_197 769 1 4 e)))) ∧ FrC d (g_31 576 (g_25 576 1 20 (g_25 576 1 6 (g_25 576 1 4 d)))) ∧ (g_25 576 1 4 d 576 4 = v_197 769 1 4 e ∧ 1 ≤ v_197 769 1 4 e ∧ v_197 769 1 4 e ≤ 4) ∧ (g_25 576 1 6 (g_25 576 1 4 d) 576 4 = v_197 769 1 6 (g_197 769 1 4 e) ∧ 1 ≤ v_197 769 1 6 (g_197 769 1 4 e) ∧ v_197 769 1 6 (g_197 769 1 4 e) ≤ 6) ∧ (g_25 576 1 20 (g_25 576 1 6 (g_25 576 1 4 d)) 576 4 = v_197 769 1 20 (g_197 769 1 6 (g_197 769 1 4 e)) ∧ 1 ≤ v_197 769 1 20 (g_197 769 1 6 (g_197 769 1 4 e)) ∧ v_197 769 1 20 (g_197 769 1 6 (g_197 769 1 4 e)) ≤ 20))
    ∨ ((if v_25 576 1 4 d = 0 then 0 else if v_25 576 1 6 (g_25 576 1 4 d) = 0 then 0 else if v_25 576 1 20 (g_25 576 1 6 (g_25 576 1 4 d)) = 0 then 0 else if v_31 576 (g_25 576 1 20 (g_25 576 1 6 (g_25 576 1 4 d))) = 0 then 0 else 1) = (0 : Int) ∧ FrC d F ∧ Fail F (g_195 769 (g_197 769 1 20 (g_197 769 1 6 (g_197 769 1 4 e)))))) := by
  refine ⟨_, rfl, ?_⟩
  obtain ⟨c1, r1, o1⟩ := takeNum (lo := 1) (hi := 4) h
  rcases o1 with ⟨v1, s1, m1, l1, u1⟩ | ⟨v1, f1, -⟩
  · obtain ⟨c2, r2, o2⟩ := takeNum (lo := 1) (hi := 6) s1
    rcases o2 with ⟨v2, s2, m2, l2, u2⟩ | ⟨v2, f2, -⟩
    · obtain ⟨c3, r3, o3⟩ := takeNum (lo := 1) (hi := 20) s2
      rcases o3 with ⟨v3, s3, m3, l3, u3⟩ | ⟨v3, f3, -⟩
      · obtain ⟨-, -, c4, r4, o4, -⟩ := takeSemi s3
        have fr := ((r1.trans r2).trans r3).trans r4
        have fc := ((c1.trans c2).trans c3).trans c4
        rcases o4 with ⟨v4, s4⟩ | ⟨v4, f4⟩
        · simp only [v1, v2, v3, v4, if_neg (by decide : ¬ (1 : Int) = 0)]
          exact ⟨fr, Or.inl ⟨trivial, trivial, s4, fc, ⟨m1, l1, u1⟩, ⟨m2, l2, u2⟩, m3, l3, u3⟩⟩
        · simp only [v1, v2, v3, v4, if_neg (by decide : ¬ (1 : Int) = 0), if_true]
          exact ⟨fr, Or.inr ⟨trivial, fc, f4⟩⟩
      · have b := bad195 f3.ne
        rw [b]
        simp only [v1, v2, v3, if_neg (by decide : ¬ (1 : Int) = 0), if_true]
        exact ⟨(r1.trans r2).trans r3, Or.inr ⟨trivial, (c1.trans c2).trans c3, f3⟩⟩
    · have b := bad197 (lo := 1) (hi := 20) f2.ne
      rw [b, bad195 f2.ne]
      simp only [v1, v2, if_neg (by decide : ¬ (1 : Int) = 0), if_true]
      exact ⟨r1.trans r2, Or.inr ⟨trivial, c1.trans c2, f2⟩⟩
  · rw [bad197 (lo := 1) (hi := 6) f1.ne, bad197 (lo := 1) (hi := 20) f1.ne, bad195 f1.ne]
    simp only [v1, if_true]
    exact ⟨r1, Or.inr ⟨trivial, c1, f1⟩⟩
/-! ===== an office is read ===== -/
theorem f35 {c x y z : Int} {d : mD} : ∀ b, ¬ (582 ≤ b ∧ b ≤ 588) → g_35 582 c x y z d b = d b := fun b hb => by
  unfold g_35
  split
  · funext j
    simp (disch := omega) only [ms_a]
  · rfl
theorem Syn.r {d e e' : mD} (h : Syn d e) (e1 : e' 769 = e 769) (e2 : e' 776 = e 776) : Syn d e' := by
  unfold Syn TX
  rw [e1, e2]
  exact h
theorem OKR.frc {d d' : mD} {w : Row} (h : OKR 580 d w) (hc : FrC d d') : OKR 580 d' w := h.fr (fun b x y => hc b (by omega) (by omega))
def LdFr (d0 d e0 e : mD) : Prop := (∀ b, (b < 576 ∨ 642 < b ∨ b = 578 ∨ b = 579) → d b = d0 b) ∧ (∀ k, ¬ k = 769 → ¬ k = 770 → e k = e0 k) ∧ ∀ j, j < 10 ∨ 16 < j → e 769 j = e0 769 j
theorem LdFr.of {d0 d e0 e : mD} (h : FrC d0 d) (g : FrR e0 e) : LdFr d0 d e0 e := ⟨fun b hb => h b (by omega) (by omega), fun k x _ => g.1 k x, g.2⟩
theorem readOff {d0 e : mD} (h : Syn (g_52 577 d0) e) (hc : FrC d0 (g_52 577 d0)) (hk : OKR 580 d0 (e 770)) (hz : GZ (e 770)) (h9 : e 770 9 = 0) (h10 : e 770 10 = 0) (h7 : e 770 7 < 6) : LdFr d0 (g_16 576 d0) e (g_202 769 e) ∧ ((v_16 576 d0 = 1 ∧ Syn (g_16 576 d0) (g_202 769 e) ∧ OKR 580 (g_16 576 d0) (g_202 769 e 770) ∧ GZ (g_202 769 e 770) ∧ g_202 769 e 770 7 = e 770 7 + 1 ∧ g_202 769 e 770 8 = e 770 8 ∧ g_202 769 e 770 9 = 0 ∧ g_202 769 e 770 10 = 0) ∨ (v_16 576 d0 = 0 ∧ Fail (g_16 576 d0) (g_202 769 e))) := by
  have o7 : d0 582 0 = e 770 7 := hk.2.2.2.2.2.1.1
  have hk1 := hk.frc hc
  have rO := hk1.2.2.2.2.2.1
  generalize hw : e 770 = w at *
  unfold v_16 g_16
  rw [show (576 : Int) + 1 = 577 by decide, show (576 : Int) + 4 + 2 = 582 by decide, o7, if_pos h7, if_pos h7]
  generalize g_52 577 d0 = d at *
  obtain ⟨n1, n2, n3, n4⟩ := takeName h
  have w1 : g_198 769 e 770 = w := by rw [n2.1 770 (by decide)]; exact hw
  have er : v_184 769 (v_198 769 e) (g_198 769 e) = V_184 (v_198 769 e) w := by rw [m_v_184, w1]
  rcases n4 with ⟨o1, o2, o3, o4, o5⟩ | ⟨o1, o2, o3, o4⟩
  · have hne : ¬ v_56 577 d = -1 := by
      have := o1.1
      omega
    have ff : v_36 582 (v_56 577 d) d = V_184 (v_198 769 e) w := by
      rw [o5]
      exact findO (s := 580) rO o1
    have n26 : ¬ v_26 576 d = 0 := by rw [o2]; decide
    rw [if_neg hne, if_neg hne, ff]
    by_cases c : V_184 (v_198 769 e) w = -1
    · rw [if_pos c, if_pos c, if_neg n26, if_neg n26]
      obtain ⟨F, t1, t2, t3⟩ := officeTail o3 (g_35 582 (g_26 576 d 576 5) (g_25 576 1 4 (g_26 576 d) 576 4) (g_25 576 1 6 (g_25 576 1 4 (g_26 576 d)) 576 4) (g_25 576 1 20 (g_25 576 1 6 (g_25 576 1 4 (g_26 576 d))) 576 4) (g_31 576 (g_25 576 1 20 (g_25 576 1 6 (g_25 576 1 4 (g_26 576 d))))))
      rw [t1]
      have gr : g_202 769 e = if g_195 769 (g_197 769 1 20 (g_197 769 1 6 (g_197 769 1 4 (g_198 769 e)))) 769 13 = 0 then g_181 769 (v_198 769 e) (v_197 769 1 4 (g_198 769 e)) (v_197 769 1 6 (g_197 769 1 4 (g_198 769 e))) (v_197 769 1 20 (g_197 769 1 6 (g_197 769 1 4 (g_198 769 e)))) (g_195 769 (g_197 769 1 20 (g_197 769 1 6 (g_197 769 1 4 (g_198 769 e))))) else g_195 769 (g_197 769 1 20 (g_197 769 1 6 (g_197 769 1 4 (g_198 769 e)))) := by
        unfold g_202
        rw [if_pos o3.2.1, er, if_pos c]
      rw [gr]
      rcases t3 with ⟨f1, f2, f3, f4, ⟨m1, m2, m3⟩, ⟨m4, m5, m6⟩, m7, m8, m9⟩ | ⟨f1, f2, f3⟩
      · rw [if_pos f3.2.1, f2, f1, m1, m4, m7, o4]
        generalize v_197 769 1 4 (g_198 769 e) = x1 at *
        generalize v_197 769 1 6 (g_197 769 1 4 (g_198 769 e)) = x2 at *
        generalize v_197 769 1 20 (g_197 769 1 6 (g_197 769 1 4 (g_198 769 e))) = x3 at *
        generalize g_195 769 (g_197 769 1 20 (g_197 769 1 6 (g_197 769 1 4 (g_198 769 e)))) = E at *
        generalize g_31 576 (g_25 576 1 20 (g_25 576 1 6 (g_25 576 1 4 (g_26 576 d)))) = D at *
        have hD := (hk1.frc n1).frc f4
        have wE : E 770 = w := by rw [t2.1 770 (by decide)]; exact w1
        obtain ⟨a1, a2, a3, a4, a5⟩ := addO (c := v_56 577 d) (a1 := x1) (a2 := x2) (a3 := x3) hD.1 hz hD.2.2.2.2 h7 h9 h10 o1 ⟨m2, m3⟩ ⟨m5, m6⟩ ⟨m8, m9⟩
        have xr := addOX hD.1 a5
        obtain ⟨x4, x5⟩ := xr.1 hD.2.1 hD.2.2.1
        rw [m_g_181, wE, o5]
        have r7 : ∀ u, rset E u 770 = u := fun u => by unfold rset; simp
        have rn : ∀ u b, ¬ b = 770 → rset E u b = E b := fun u b hb => by unfold rset; simp [hb]
        refine ⟨⟨fun b hb => ?_, fun k x y => ?_, fun j hj => ?_⟩, Or.inl ⟨rfl, ?_, ?_, ?_, ?_, ?_, ?_, ?_⟩⟩
        · rw [f35 b (by omega), f4 b (by omega) (by omega), n1 b (by omega) (by omega), hc b (by omega) (by omega)]
        · rw [rn _ k y, t2.1 k x, n2.1 k x]
        · rw [rn _ 769 (by decide), t2.2 j hj, n2.2 j hj]
        · exact (f3.c (f35 577 (by decide)) (f35 578 (by decide)) (f35 579 (by decide))).r (rn _ 769 (by decide)) (rn _ 776 (by decide))
        · rw [r7]
          exact ⟨a1, x4, x5, by rw [xr.2]; exact hD.2.2.2.1, a3⟩
        · rw [r7]; exact a2
        · rw [r7]; exact a4
        · rw [r7]; exact a5 8 (by decide) (by decide)
        · rw [r7, a5 9 (by decide) (by decide)]; exact h9
        · rw [r7, a5 10 (by decide) (by decide)]; exact h10
      · rw [if_neg f3.ne, f1]
        exact ⟨LdFr.of ((hc.trans n1).trans f2) (n2.trans t2), Or.inr ⟨rfl, f3⟩⟩
    · rw [if_neg c, if_neg c]
      obtain ⟨b1, b2⟩ := flt188 (c := 3) (p := d 577 2) o3.2.1
      obtain ⟨c1, c2, c3⟩ := fail32 (c := 3) (d := d)
      have gr : g_202 769 e = g_188 769 3 (d 577 2) (g_198 769 e) := by
        unfold g_202
        rw [if_pos o3.2.1, er, if_neg c, n3, bad197 b1.ne, bad197 b1.ne, bad197 b1.ne, bad195 b1.ne, if_neg b1.ne]
      rw [gr]
      exact ⟨LdFr.of (hc.trans c3) (n2.trans b2), Or.inr ⟨rfl, 3, d 577 2, c1, c2, b1⟩⟩
  · rw [if_pos o1, if_pos o1, if_pos o2, if_pos o2]
    have gr : g_202 769 e = g_198 769 e := by
      unfold g_202
      rw [if_neg o3.ne, bad197 o3.ne, bad197 o3.ne, bad197 o3.ne, bad195 o3.ne, if_neg o3.ne]
    rw [gr]
    exact ⟨LdFr.of (hc.trans n1) n2, Or.inr ⟨rfl, o3⟩⟩
/-! ===== a person is read ===== -/
theorem f47 {c : Int} {d : mD} (h0 : 0 ≤ d 590 0) : ∀ b, (b < 590 ∨ 642 < b) → g_47 590 c d b = d b := fun b hb => by
  unfold g_47
  split
  · have eh : g_8 (590 + 6 + (1 + 2 * d 590 0)) = fun e => mfl e (598 + 2 * d 590 0) 0 16 := by
      funext e
      unfold g_8 g_300
      rw [show 590 + 6 + (1 + 2 * d 590 0) + 1 = 598 + 2 * d 590 0 by omega]
    rw [eh]
    funext j
    simp (disch := omega) only [ms_a, fl_n]
  · rfl
theorem personTail {d e : mD} (h : Syn d e) : FrR e (g_195 769 e) ∧ ((v_31 576 d = 1 ∧ Syn (g_31 576 d) (g_195 769 e) ∧ FrC d (g_31 576 d)) ∨ (v_31 576 d = 0 ∧ FrC d (g_31 576 d) ∧ Fail (g_31 576 d) (g_195 769 e))) := by
  obtain ⟨-, -, c4, r4, o4, -⟩ := takeSemi h
  rcases o4 with ⟨v4, s4⟩ | ⟨v4, f4⟩
  · exact ⟨r4, Or.inl ⟨v4, s4, c4⟩⟩
  · exact ⟨r4, Or.inr ⟨v4, c4, f4⟩⟩
theorem readPer {d0 e : mD} (h : Syn (g_52 577 d0) e) (hc : FrC d0 (g_52 577 d0)) (hk : OKR 580 d0 (e 770)) (h8 : e 770 8 < 16) : LdFr d0 (g_18 576 d0) e (g_203 769 e) ∧ ((v_18 576 d0 = 1 ∧ Syn (g_18 576 d0) (g_203 769 e) ∧ OKR 580 (g_18 576 d0) (g_203 769 e 770) ∧ g_203 769 e 770 8 = e 770 8 + 1 ∧ ∀ i, ¬ i = 8 → ¬ (420 ≤ i ∧ i < 452) → g_203 769 e 770 i = e 770 i) ∨ (v_18 576 d0 = 0 ∧ Fail (g_18 576 d0) (g_203 769 e))) := by
  have o8 : d0 590 0 = e 770 8 := hk.2.2.2.2.2.2.2.1.1
  have hk1 := hk.frc hc
  have rP := hk1.2.2.2.2.2.2.2.1
  have n8 := hk.1.1.2.1
  generalize hw : e 770 = w at *
  unfold v_18 g_18
  rw [show (576 : Int) + 1 = 577 by decide, show (576 : Int) + 4 + 10 = 590 by decide, o8, if_pos h8, if_pos h8]
  generalize g_52 577 d0 = d at *
  obtain ⟨n1, n2, n3, n4⟩ := takeName h
  have w1 : g_198 769 e 770 = w := by rw [n2.1 770 (by decide)]; exact hw
  have er : v_183 769 (v_198 769 e) (g_198 769 e) = V_183 (v_198 769 e) w := by rw [m_v_183, w1]
  rcases n4 with ⟨o1, o2, o3, o4, o5⟩ | ⟨o1, o2, o3, o4⟩
  · have hne : ¬ v_56 577 d = -1 := by
      have := o1.1
      omega
    have ff : v_48 590 (v_56 577 d) d = V_183 (v_198 769 e) w := by
      rw [o5]
      exact findP (s := 580) rP o1
    have n26 : ¬ v_26 576 d = 0 := by rw [o2]; decide
    rw [if_neg hne, if_neg hne, ff]
    by_cases c : V_183 (v_198 769 e) w = -1
    · rw [if_pos c, if_pos c, if_neg n26, if_neg n26]
      obtain ⟨t2, t3⟩ := personTail o3
      have gr : g_203 769 e = if g_195 769 (g_198 769 e) 769 13 = 0 then g_182 769 (v_198 769 e) (g_195 769 (g_198 769 e)) else g_195 769 (g_198 769 e) := by
        unfold g_203
        rw [if_pos o3.2.1, er, if_pos c]
      rw [gr]
      rcases t3 with ⟨f1, f3, f4⟩ | ⟨f1, f4, f3⟩
      · have n31 : ¬ v_31 576 (g_26 576 d) = 0 := by rw [f1]; decide
        rw [if_pos f3.2.1, if_neg n31, if_neg n31, o4]
        generalize g_195 769 (g_198 769 e) = E at *
        generalize g_31 576 (g_26 576 d) = D at *
        have hD := (hk1.frc n1).frc f4
        have wE : E 770 = w := by rw [t2.1 770 (by decide)]; exact w1
        have D0 : D 590 0 = w 8 := hD.2.2.2.2.2.2.2.1.1
        obtain ⟨a1, a2, a3, a4, a5⟩ := addP (c := v_56 577 d) hD.1 hD.2.1 hD.2.2.2.2 h8 o1
        have gp := addPX (c := nm (v_56 577 d)) hD.1 h8 hD.2.2.1
        have fr := f47 (c := v_56 577 d) (d := D) (by omega)
        rw [m_g_182, wE, o5]
        have r7 : ∀ u, rset E u 770 = u := fun u => rset_at E u
        have rn : ∀ u b, ¬ b = 770 → rset E u b = E b := fun u b hb => rset_ne hb
        refine ⟨⟨fun b hb => ?_, fun k x y => ?_, fun j hj => ?_⟩, Or.inl ⟨rfl, ?_, ?_, ?_, ?_⟩⟩
        · rw [fr b (by omega), f4 b (by omega) (by omega), n1 b (by omega) (by omega), hc b (by omega) (by omega)]
        · rw [rn _ k y, t2.1 k x, n2.1 k x]
        · rw [rn _ 769 (by decide), t2.2 j hj, n2.2 j hj]
        · exact (f3.c (fr 577 (by decide)) (fr 578 (by decide)) (fr 579 (by decide))).r (rn _ 769 (by decide)) (rn _ 776 (by decide))
        · rw [r7]
          exact ⟨a1, a2, gp, by rw [a5 0 (by decide) (by decide)]; exact hD.2.2.2.1, a3⟩
        · rw [r7]; exact a4
        · intro i x y
          rw [r7]
          exact a5 i x y
      · rw [if_neg f3.ne, if_pos f1, if_pos f1]
        exact ⟨LdFr.of ((hc.trans n1).trans f4) (n2.trans t2), Or.inr ⟨rfl, f3⟩⟩
    · rw [if_neg c, if_neg c]
      obtain ⟨b1, b2⟩ := flt188 (c := 3) (p := d 577 2) o3.2.1
      obtain ⟨c1, c2, c3⟩ := fail32 (c := 3) (d := d)
      have gr : g_203 769 e = g_188 769 3 (d 577 2) (g_198 769 e) := by
        unfold g_203
        rw [if_pos o3.2.1, er, if_neg c, n3, bad195 b1.ne, if_neg b1.ne]
      rw [gr]
      exact ⟨LdFr.of (hc.trans c3) (n2.trans b2), Or.inr ⟨rfl, 3, d 577 2, c1, c2, b1⟩⟩
  · rw [if_pos o1, if_pos o1, if_pos o2, if_pos o2]
    have gr : g_203 769 e = g_198 769 e := by
      unfold g_203
      rw [if_neg o3.ne, bad195 o3.ne, if_neg o3.ne]
    rw [gr]
    exact ⟨LdFr.of (hc.trans n1) n2, Or.inr ⟨rfl, o3⟩⟩
/-! ===== both readers side by side: the end of a deed ===== -/
theorem Syn.bl {d e : mD} (h : Syn d e) : Syn d (g_189 769 e) ∧ FrR e (g_189 769 e) ∧ g_189 769 e 769 10 = d 577 2 := by
  obtain ⟨tx, b13, bt, bl, tk⟩ := h
  obtain ⟨a, e1, p1, p2, p3, p4, p5⟩ := bl189 tx bt.1 bt.2
  have ea : a = d 577 2 := p2.uni bl
  rw [ea] at p5
  have f1 : FrR e e1 := ⟨p3, fun j hj => p4 j (by omega)⟩
  have b0 := bl.1
  rw [p1]
  refine ⟨⟨tx.fr (p4 9 (by decide)) (p3 776 (by decide)), by rw [p4 13 (by decide)]; exact b13, ?_, ?_, tk⟩, f1, p5⟩
  · rw [p5]
    exact ⟨by omega, bl.2.1⟩
  · rw [p5]
    exact bl.self
theorem semi192 {d e : mD} (h : Syn d e) : v_192 769 59 e = v_30 576 d := by
  obtain ⟨tx, b13, bt, bl, tk⟩ := id h
  obtain ⟨-, f1, f2⟩ := h.bl
  have b0 := bl.1
  have vr : v_192 769 59 e = if d 577 2 < d 578 1 then (if e 776 (d 577 2) = 59 then 1 else 0) else 0 := by
    unfold v_192
    rw [f2, tx.2.1, show (769 : Int) + 7 = 776 by decide]
  have ev : v_30 576 d = if d 577 1 = 2 then 1 else 0 := by
    unfold v_30 v_32
    rw [show (576 : Int) + 1 = 577 by decide, if_pos rfl]
  rw [vr, ev]
  rcases tk with ⟨a1, a2, a3⟩ | ⟨a1, a2, a3, a4⟩ | ⟨a1, a2, a3, a4⟩ | ⟨a1, a2, a3, a4⟩ | ⟨a1, a2, a3, a4, a5, a6⟩
  · rw [if_neg (by omega), if_neg (by omega)]
  · have g := tx.2.2 (d 577 2) (by omega) a1
    unfold isLe at a2
    rw [if_pos a1, if_neg (by omega), if_neg (by omega)]
  · have g := tx.2.2 (d 577 2) (by omega) a1
    unfold isDi at a2
    rw [if_pos a1, if_neg (by omega), if_neg (by omega)]
  · have g := tx.2.2 (d 577 2) (by omega) a1
    rw [if_pos a1, if_pos (by omega), if_pos a3]
  · have g := tx.2.2 (d 577 2) (by omega) a1
    rw [if_pos a1, if_neg (by omega), if_neg (by omega)]
theorem deedEnd {d e : mD} {x : Int} (h : Syn d e) : FrR e (g_196 769 x e) ∧ ((v_30 576 d = 0 ∧ v_196 769 x e = 0 ∧ FrC d (g_30 576 d) ∧ Fail (g_30 576 d) (g_196 769 x e)) ∨ (v_30 576 d = 1 ∧ g_30 576 d = d ∧ x = 0 ∧ v_196 769 x e = 0 ∧ FrC d (g_32 576 6 d) ∧ Fail (g_32 576 6 d) (g_196 769 x e)) ∨ (v_30 576 d = 1 ∧ g_30 576 d = d ∧ ¬ x = 0 ∧ v_196 769 x e = 1 ∧ g_196 769 x e = g_195 769 (g_189 769 e) ∧ Syn d (g_189 769 e) ∧ (g_195 769 (g_189 769 e)) 769 13 = 0)) := by
  obtain ⟨s1, s2, s3⟩ := h.bl
  obtain ⟨z1, -, z3, z4, z5, z6, z7, z8⟩ := takeSemi s1
  have h13 := h.2.1
  have e192 : g_192 769 59 e = g_189 769 e := rfl
  have vs := semi192 h
  have gr : g_196 769 x e = if v_30 576 d = 0 then g_195 769 (g_189 769 e) else if x = 0 then g_195 769 (g_188 769 6 (d 577 2) (g_189 769 e)) else g_195 769 (g_189 769 e) := by
    unfold g_196
    rw [if_pos h13, vs, e192, s3]
  have vr : v_196 769 x e = if v_30 576 d = 0 then (if g_195 769 (g_189 769 e) 769 13 = 0 then 1 else 0) else if x = 0 then (if g_195 769 (g_188 769 6 (d 577 2) (g_189 769 e)) 769 13 = 0 then 1 else 0) else if g_195 769 (g_189 769 e) 769 13 = 0 then 1 else 0 := by
    unfold v_196
    rw [if_pos h13, vs, e192, s3]
  rcases z1 with c | c
  · rw [if_pos c] at gr vr
    rcases z5 with ⟨y1, -⟩ | ⟨y1, y2⟩
    · omega
    · rw [if_neg y2.ne] at vr
      rw [gr]
      refine ⟨s2.trans z4, Or.inl ⟨c, vr, ?_, ?_⟩⟩
      · rw [← z8 c]; exact z3
      · rw [← z8 c]; exact y2
  · have c1 : ¬ v_30 576 d = 0 := by omega
    rw [if_neg c1] at gr vr
    by_cases q : x = 0
    · rw [if_pos q] at gr vr
      obtain ⟨b1, b2⟩ := flt188 (c := 6) (p := d 577 2) s1.2.1
      obtain ⟨k1, k2, k3⟩ := fail32 (c := 6) (d := d)
      rw [bad195 b1.ne] at gr vr
      rw [if_neg b1.ne] at vr
      rw [gr]
      exact ⟨s2.trans b2, Or.inr (Or.inl ⟨c, z7 c, q, vr, k3, 6, d 577 2, k1, k2, b1⟩)⟩
    · rw [if_neg q] at gr vr
      rcases z5 with ⟨y1, y2⟩ | ⟨y1, -⟩
      · rw [if_pos y2.2.1] at vr
        rw [gr]
        exact ⟨s2.trans z4, Or.inr (Or.inr ⟨c, z7 c, q, vr, rfl, s1, y2.2.1⟩)⟩
      · omega
/-! ===== a join is read ===== -/
theorem f61 {p o : Int} {d : mD} : ∀ b, (b < 580 ∨ 642 < b) → g_61 580 p o d b = d b := fun b hb => by
  have f96 : ∀ b, (b < 580 ∨ 642 < b) → g_96 629 p o (d 580 2) d b = d b := fun b hb => by
    unfold g_96
    split
    · funext j
      simp (disch := omega) only [ms_a]
    · rfl
  have e588 : g_96 629 p o (d 580 2) d 588 o = d 588 o := by
    unfold g_96
    split
    · simp (disch := omega) only [ms_a]
    · rfl
  unfold g_61
  rw [show (580 : Int) + 49 = 629 by decide, show (580 : Int) + 2 = 582 by decide, show (582 : Int) + 6 = 588 by decide, ← f96 b hb]
  unfold g_40
  rw [show (582 : Int) + 6 = 588 by decide, e588]
  split
  · rfl
  · split
    · rfl
    · split
      · exact (lp40 (x0 := 582) (o := o) (p := d 588 o) (t := d 629 0) (d 588 o).toNat (d 588 o) (g_96 629 p o (d 580 2) d) (by omega) (by omega)).1 b (by omega) (by omega)
      · rfl
def rJoinX (e : mD) : Int := if g_200 769 (g_199 769 0 e) 769 13 = 0 then (if v_225 769 (v_199 769 0 e) (v_200 769 (g_199 769 0 e)) (g_200 769 (g_199 769 0 e)) = 0 then 0 else 1) else 0
def rJoin (e : mD) : mD := if v_196 769 (rJoinX e) (g_200 769 (g_199 769 0 e)) = 0 then g_196 769 (rJoinX e) (g_200 769 (g_199 769 0 e)) else g_226 769 (v_199 769 0 e) (v_200 769 (g_199 769 0 e)) (g_196 769 (rJoinX e) (g_200 769 (g_199 769 0 e)))
theorem bad198 {e : mD} (h : ¬ e 769 13 = 0) : g_198 769 e = e := by
  unfold g_198
  rw [if_neg h]
theorem bad188 {c p : Int} {e : mD} (h : ¬ e 769 13 = 0) : g_188 769 c p e = e := by
  unfold g_188
  rw [if_neg h]
theorem bad200 {e : mD} (h : ¬ e 769 13 = 0) : g_200 769 e = e := by
  unfold g_200
  rw [bad198 h, bad188 h]
  split <;> rfl
theorem bad199 {x : Int} {e : mD} (h : ¬ e 769 13 = 0) : g_199 769 x e = e := by
  unfold g_199
  rw [bad198 h, bad188 h]
  split
  · rfl
  · split
    · rfl
    · split <;> rfl
theorem bad196 {x : Int} {e : mD} (h : ¬ e 769 13 = 0) : g_196 769 x e = e ∧ v_196 769 x e = 0 := by
  unfold g_196 v_196
  rw [if_neg h, if_neg h, bad195 h, if_neg h]
  exact ⟨rfl, rfl⟩
theorem readJoin {d0 e : mD} (h : Syn (g_52 577 d0) e) (hc : FrC d0 (g_52 577 d0)) (hk : OKR 580 d0 (e 770)) : LdFr d0 (g_20 576 d0) e (rJoin e) ∧ ((v_20 576 d0 = 1 ∧ Syn (g_20 576 d0) (rJoin e) ∧ OKR 580 (g_20 576 d0) (rJoin e 770)) ∨ (v_20 576 d0 = 0 ∧ Fail (g_20 576 d0) (rJoin e))) := by
  have hk1 := hk.frc hc
  have hG := hk.1
  generalize hw : e 770 = w at *
  unfold v_20 g_20 rJoin
  rw [show (576 : Int) + 1 = 577 by decide, show (576 : Int) + 4 = 580 by decide]
  generalize g_52 577 d0 = d at *
  obtain ⟨a1, a2, a3⟩ := takePer h hk1.2.2.2.2.2.2.2.1 hw hG.1.2.1
  rcases a3 with ⟨v1, s1, m1, l1, u1⟩ | ⟨v1, f1⟩
  · have hk2 := hk1.frc a1
    have w1 : g_199 769 0 e 770 = w := by rw [a2.1 770 (by decide)]; exact hw
    obtain ⟨b1, b2, b3⟩ := takeOff s1 hk2.2.2.2.2.2.1 w1 hG.1.1
    have n1 : ¬ v_27 576 d = 0 := by rw [v1]; decide
    rw [if_neg n1, if_neg n1]
    rcases b3 with ⟨v2, s2, m2, l2, u2⟩ | ⟨v2, f2⟩
    · have hk3 := hk2.frc b1
      have w2 : g_200 769 (g_199 769 0 e) 770 = w := by rw [b2.1 770 (by decide)]; exact w1
      have n2 : ¬ v_28 576 (g_27 576 d) = 0 := by rw [v2]; decide
      rw [if_neg n2, if_neg n2, m1, m2]
      have hx : rJoinX e = if V_225 (v_199 769 0 e) (v_200 769 (g_199 769 0 e)) w = 0 then 0 else 1 := by
        unfold rJoinX
        rw [if_pos s2.2.1, m_v_225, w2]
      obtain ⟨q1, q2, q3⟩ := canQ (p := v_199 769 0 e) (o := v_200 769 (g_199 769 0 e)) hG hk3.2.2.2.2 ⟨l2, u2⟩
      obtain ⟨r1, r2⟩ := deedEnd (x := rJoinX e) s2
      generalize rJoinX e = x at *
      generalize v_199 769 0 e = p at *
      generalize v_200 769 (g_199 769 0 e) = o at *
      generalize g_200 769 (g_199 769 0 e) = E at *
      have fcD := (hc.trans a1).trans b1
      generalize g_28 576 (g_27 576 d) = D at *
      have frE := a2.trans b2
      rcases r2 with ⟨y1, y2, y3, y4⟩ | ⟨y1, y2, y3, y4, y5, y6⟩ | ⟨y1, y2, y3, y4, y5, y6, y7⟩
      · rw [if_pos y1, if_pos y1, if_pos y2]
        exact ⟨LdFr.of (fcD.trans y3) (frE.trans r1), Or.inr ⟨rfl, y4⟩⟩
      · have ny : ¬ v_30 576 D = 0 := by omega
        have vz : v_60 580 p o D = 0 := by
          rw [q1]
          by_cases z : V_225 p o w = 0
          · exact z
          · rw [if_neg z] at hx
            omega
        rw [if_neg ny, if_neg ny, y2, if_pos vz, if_pos vz, if_pos y4]
        exact ⟨LdFr.of (fcD.trans y5) (frE.trans r1), Or.inr ⟨rfl, y6⟩⟩
      · have ny : ¬ v_30 576 D = 0 := by omega
        have vz : ¬ V_225 p o w = 0 := fun z => by
          rw [if_pos z] at hx
          exact y3 hx
        have vn : ¬ v_60 580 p o D = 0 := by rw [q1]; exact vz
        have nx : ¬ v_196 769 x E = 0 := by omega
        rw [if_neg ny, if_neg ny, y2, if_neg vn, if_neg vn, if_neg nx]
        have cj := q3.1 (by omega)
        obtain ⟨-, j1, j2⟩ := join hG hk3.2.2.2.2 ⟨l2, u2⟩ ⟨l1, u1⟩ cj
        have xr := joinX (p := p) hG ⟨l2, u2⟩ cj.1
        obtain ⟨x1, x2⟩ := xr.1 hk3.2.1 hk3.2.2.1
        have fr := f61 (p := p) (o := o) (d := D)
        have sD : Syn (g_61 580 p o D) (g_189 769 E) := y6.c (fr 577 (by decide)) (fr 578 (by decide)) (fr 579 (by decide))
        obtain ⟨-, -, t1, t2, t3, -⟩ := takeSemi sD
        rw [← y5] at t2 t3 y7
        have wE : g_196 769 x E 770 = w := by rw [r1.1 770 (by decide)]; exact w2
        rcases t3 with ⟨t4, t5⟩ | ⟨-, t5⟩
        · rw [m_g_226, wE]
          have rn : ∀ u b, ¬ b = 770 → rset (g_196 769 x E) u b = g_196 769 x E b := fun u b hb => rset_ne hb
          refine ⟨⟨fun b hb => ?_, fun k y z => ?_, fun j hj => ?_⟩, Or.inl ⟨t4, ?_, ?_⟩⟩
          · rw [t1 b (by omega) (by omega), fr b (by omega), fcD b (by omega) (by omega)]
          · rw [rn _ k z, r1.1 k y, frE.1 k y]
          · rw [rn _ 769 (by decide), r1.2 j hj, frE.2 j hj]
          · exact t5.r (rn _ 769 (by decide)) (rn _ 776 (by decide))
          · rw [rset_at]
            exact OKR.frc ⟨j1, x1, x2, by rw [xr.2]; exact hk3.2.2.2.1, j2⟩ t1
        · exact absurd y7 t5.ne
    · rw [if_pos v2, if_pos v2]
      have nx : rJoinX e = 0 := by
        unfold rJoinX
        rw [if_neg f2.ne]
      obtain ⟨z1, z2⟩ := bad196 (x := rJoinX e) f2.ne
      rw [z1, if_pos z2]
      exact ⟨LdFr.of ((hc.trans a1).trans b1) (a2.trans b2), Or.inr ⟨rfl, f2⟩⟩
  · rw [if_pos v1, if_pos v1, bad200 f1.ne]
    obtain ⟨z1, z2⟩ := bad196 (x := rJoinX e) f1.ne
    rw [z1, if_pos z2]
    exact ⟨LdFr.of (hc.trans a1) a2, Or.inr ⟨rfl, f1⟩⟩
/-! ===== a pass is read ===== -/
def rPassX (e : mD) : Int := if (999 : Int) < g_197 769 1 99 e 770 0 + v_197 769 1 99 e then 0 else 1
def rPass (e : mD) : mD := if v_196 769 (rPassX e) (g_197 769 1 99 e) = 0 then g_196 769 (rPassX e) (g_197 769 1 99 e) else rset (g_196 769 (rPassX e) (g_197 769 1 99 e)) (hoursW (v_197 769 1 99 e).toNat (g_196 769 (rPassX e) (g_197 769 1 99 e) 770))
theorem readPass {d0 e : mD} (h : Syn (g_52 577 d0) e) (hc : FrC d0 (g_52 577 d0)) (hk : OKR 580 d0 (e 770)) (hF : v_25 576 1 99 (g_52 577 d0) = 1 → ∀ b, (b < 580 ∨ 642 < b) → g_68 580 (g_25 576 1 99 (g_52 577 d0) 576 4) (g_25 576 1 99 (g_52 577 d0)) b = g_25 576 1 99 (g_52 577 d0) b) : LdFr d0 (g_21 576 d0) e (rPass e) ∧ ((v_21 576 d0 = 1 ∧ Syn (g_21 576 d0) (rPass e) ∧ OKR 580 (g_21 576 d0) (rPass e 770)) ∨ (v_21 576 d0 = 0 ∧ Fail (g_21 576 d0) (rPass e))) := by
  have hk1 := hk.frc hc
  have hG := hk.1
  generalize hw : e 770 = w at *
  unfold v_21 g_21 rPass
  rw [show (576 : Int) + 1 = 577 by decide, show (576 : Int) + 4 = 580 by decide]
  generalize g_52 577 d0 = d at *
  obtain ⟨a1, a2, a3⟩ := takeNum (lo := 1) (hi := 99) h
  rcases a3 with ⟨v1, s1, m1, l1, u1⟩ | ⟨v1, f1, -⟩
  · have hk2 := hk1.frc a1
    have w1 : g_197 769 1 99 e 770 = w := by rw [a2.1 770 (by decide)]; exact hw
    have n1 : ¬ v_25 576 1 99 d = 0 := by rw [v1]; decide
    have hF := hF v1
    rw [if_neg n1, if_neg n1]
    rw [m1] at hF ⊢
    have hx : rPassX e = if (999 : Int) < w 0 + v_197 769 1 99 e then 0 else 1 := by
      unfold rPassX
      rw [w1]
    obtain ⟨r1, r2⟩ := deedEnd (x := rPassX e) s1
    generalize rPassX e = x at *
    generalize v_197 769 1 99 e = n at *
    generalize g_197 769 1 99 e = E at *
    have fcD := hc.trans a1
    generalize g_25 576 1 99 d = D at *
    have t0 : D 580 2 = w 0 := hk2.2.2.2.2.1.2.1
    have vc : v_67 580 n D = if (999 : Int) < w 0 + n then 0 else 1 := by
      unfold v_67
      rw [t0]
    rcases r2 with ⟨y1, y2, y3, y4⟩ | ⟨y1, y2, y3, y4, y5, y6⟩ | ⟨y1, y2, y3, y4, y5, y6, y7⟩
    · rw [if_pos y1, if_pos y1, if_pos y2]
      exact ⟨LdFr.of (fcD.trans y3) (a2.trans r1), Or.inr ⟨rfl, y4⟩⟩
    · have ny : ¬ v_30 576 D = 0 := by omega
      have vz : v_67 580 n D = 0 := by
        rw [vc, ← hx]
        exact y3
      rw [if_neg ny, if_neg ny, y2, if_pos vz, if_pos vz, if_pos y4]
      exact ⟨LdFr.of (fcD.trans y5) (a2.trans r1), Or.inr ⟨rfl, y6⟩⟩
    · have ny : ¬ v_30 576 D = 0 := by omega
      have vn : ¬ v_67 580 n D = 0 := by rw [vc, ← hx]; exact y3
      have tl : w 0 + n ≤ 999 := by
        by_cases z : (999 : Int) < w 0 + n
        · rw [if_pos z] at hx
          exact absurd hx y3
        · omega
      have nx : ¬ v_196 769 x E = 0 := by omega
      rw [if_neg ny, if_neg ny, y2, if_neg vn, if_neg vn, if_neg nx]
      obtain ⟨-, j1, j2, j3, -, j5⟩ := passHours (s := 580) (N := n) (d := D) (by omega) hG hk2.2.2.2.2 (by omega)
      obtain ⟨x1, x2⟩ := j5 hk2.2.1 hk2.2.2.1
      have sD : Syn (g_68 580 n D) (g_189 769 E) := y6.c (hF 577 (by decide)) (hF 578 (by decide)) (hF 579 (by decide))
      obtain ⟨-, -, t1, t2, t3, -⟩ := takeSemi sD
      rw [← y5] at t2 t3 y7
      have wE : g_196 769 x E 770 = w := by rw [r1.1 770 (by decide)]; exact w1
      rcases t3 with ⟨t4, t5⟩ | ⟨-, t5⟩
      · rw [wE]
        have rn : ∀ u b, ¬ b = 770 → rset (g_196 769 x E) u b = g_196 769 x E b := fun u b hb => rset_ne hb
        refine ⟨⟨fun b hb => ?_, fun k y z => ?_, fun j hj => ?_⟩, Or.inl ⟨t4, ?_, ?_⟩⟩
        · rw [t1 b (by omega) (by omega), hF b (by omega), fcD b (by omega) (by omega)]
        · rw [rn _ k z, r1.1 k y, a2.1 k y]
        · rw [rn _ 769 (by decide), r1.2 j hj, a2.2 j hj]
        · exact t5.r (rn _ 769 (by decide)) (rn _ 776 (by decide))
        · rw [rset_at]
          exact OKR.frc ⟨j1, x1, x2, by rw [j3]; exact tl, j2⟩ t1
      · exact absurd y7 t5.ne
  · rw [if_pos v1, if_pos v1]
    obtain ⟨z1, z2⟩ := bad196 (x := rPassX e) f1.ne
    rw [z1, if_pos z2]
    exact ⟨LdFr.of (hc.trans a1) a2, Or.inr ⟨rfl, f1⟩⟩
/-! ===== a claim, a witness are read ===== -/
def rClaimX (e : mD) : Int := if g_199 769 1 e 769 13 = 0 then (if v_227 769 (v_201 769 (v_199 769 1 e) (g_199 769 1 e)) (g_199 769 1 e) = 0 then 0 else 1) else 0
def rClaim (e : mD) : mD := if v_196 769 (rClaimX e) (g_199 769 1 e) = 0 then g_196 769 (rClaimX e) (g_199 769 1 e) else g_228 769 (v_201 769 (v_199 769 1 e) (g_199 769 1 e)) (g_196 769 (rClaimX e) (g_199 769 1 e))
theorem readClaim {d0 e : mD} (h : Syn (g_52 577 d0) e) (hc : FrC d0 (g_52 577 d0)) (hk : OKR 580 d0 (e 770)) (hF : v_29 576 (g_52 577 d0) = 1 → ∀ b, (b < 580 ∨ 642 < b) → g_74 580 (g_29 576 (g_52 577 d0) 576 6) (g_29 576 (g_52 577 d0)) b = g_29 576 (g_52 577 d0) b) : LdFr d0 (g_22 576 d0) e (rClaim e) ∧ ((v_22 576 d0 = 1 ∧ Syn (g_22 576 d0) (rClaim e) ∧ OKR 580 (g_22 576 d0) (rClaim e 770)) ∨ (v_22 576 d0 = 0 ∧ Fail (g_22 576 d0) (rClaim e))) := by
  have hk1 := hk.frc hc
  have hG := hk.1
  generalize hw : e 770 = w at *
  unfold v_22 g_22 rClaim
  rw [show (576 : Int) + 1 = 577 by decide, show (576 : Int) + 4 = 580 by decide]
  generalize g_52 577 d0 = d at *
  obtain ⟨a1, a2, a3⟩ := takeTick h hk1.2.2.2.2.2.2.2.1 hk1.2.2.2.2.2.2.2.2.1 hw hG.1.2.1
  rcases a3 with ⟨v1, s1, m1, l0, l1, u1⟩ | ⟨v1, f1⟩
  · have hk2 := hk1.frc a1
    have w1 : g_199 769 1 e 770 = w := by rw [a2.1 770 (by decide)]; exact hw
    have n1 : ¬ v_29 576 d = 0 := by rw [v1]; decide
    have hF := hF v1
    have el : v_201 769 (v_199 769 1 e) (g_199 769 1 e) = V_201 (v_199 769 1 e) w := by rw [m_v_201, w1]
    have hx : rClaimX e = if V_227 (V_201 (v_199 769 1 e) w) w = 0 then 0 else 1 := by
      unfold rClaimX
      rw [if_pos s1.2.1, el, m_v_227, w1]
    rw [if_neg n1, if_neg n1, el]
    rw [m1] at hF ⊢
    obtain ⟨r1, r2⟩ := deedEnd (x := rClaimX e) s1
    generalize rClaimX e = x at *
    generalize V_201 (v_199 769 1 e) w = n at *
    generalize g_199 769 1 e = E at *
    have fcD := hc.trans a1
    generalize g_29 576 d = D at *
    obtain ⟨q1, q2, q3⟩ := canClaim hG hk2.2.2.2.2 ⟨l1, u1⟩
    rcases r2 with ⟨y1, y2, y3, y4⟩ | ⟨y1, y2, y3, y4, y5, y6⟩ | ⟨y1, y2, y3, y4, y5, y6, y7⟩
    · rw [if_pos y1, if_pos y1, if_pos y2]
      exact ⟨LdFr.of (fcD.trans y3) (a2.trans r1), Or.inr ⟨rfl, y4⟩⟩
    · have ny : ¬ v_30 576 D = 0 := by omega
      have vz : v_73 580 n D = 0 := by
        rw [q1]
        by_cases z : V_227 n w = 0
        · exact z
        · rw [if_neg z] at hx
          omega
      rw [if_neg ny, if_neg ny, y2, if_pos vz, if_pos vz, if_pos y4]
      exact ⟨LdFr.of (fcD.trans y5) (a2.trans r1), Or.inr ⟨rfl, y6⟩⟩
    · have ny : ¬ v_30 576 D = 0 := by omega
      have vz : ¬ V_227 n w = 0 := fun z => by
        rw [if_pos z] at hx
        exact y3 hx
      have vn : ¬ v_73 580 n D = 0 := by rw [q1]; exact vz
      have nx : ¬ v_196 769 x E = 0 := by omega
      rw [if_neg ny, if_neg ny, y2, if_neg vn, if_neg vn, if_neg nx]
      have cj := q3.1 (by omega)
      obtain ⟨-, j1, j2, -⟩ := claim hG hk2.2.2.2.2 ⟨l1, u1⟩ cj.1 cj.2 hk2.2.2.2.1
      have xr := claimX hG ⟨l1, u1⟩
      obtain ⟨x1, x2⟩ := xr.1 hk2.2.1 hk2.2.2.1
      have sD : Syn (g_74 580 n D) (g_189 769 E) := y6.c (hF 577 (by decide)) (hF 578 (by decide)) (hF 579 (by decide))
      obtain ⟨-, -, t1, t2, t3, -⟩ := takeSemi sD
      rw [← y5] at t2 t3 y7
      have wE : g_196 769 x E 770 = w := by rw [r1.1 770 (by decide)]; exact w1
      rcases t3 with ⟨t4, t5⟩ | ⟨-, t5⟩
      · rw [m_g_228, wE]
        have rn : ∀ u b, ¬ b = 770 → rset (g_196 769 x E) u b = g_196 769 x E b := fun u b hb => rset_ne hb
        refine ⟨⟨fun b hb => ?_, fun k y z => ?_, fun j hj => ?_⟩, Or.inl ⟨t4, ?_, ?_⟩⟩
        · rw [t1 b (by omega) (by omega), hF b (by omega), fcD b (by omega) (by omega)]
        · rw [rn _ k z, r1.1 k y, a2.1 k y]
        · rw [rn _ 769 (by decide), r1.2 j hj, a2.2 j hj]
        · exact t5.r (rn _ 769 (by decide)) (rn _ 776 (by decide))
        · rw [rset_at]
          exact OKR.frc ⟨j1, x1, x2, by rw [xr.2]; exact hk2.2.2.2.1, j2⟩ t1
      · exact absurd y7 t5.ne
  · rw [if_pos v1, if_pos v1]
    obtain ⟨z1, z2⟩ := bad196 (x := rClaimX e) f1.ne
    rw [z1, if_pos z2]
    exact ⟨LdFr.of (hc.trans a1) a2, Or.inr ⟨rfl, f1⟩⟩
def rWitE (e : mD) : mD := g_199 769 1 (g_199 769 0 e)
def rWitX (e : mD) : Int := if rWitE e 769 13 = 0 then (if v_234 769 (v_201 769 (v_199 769 1 (g_199 769 0 e)) (rWitE e)) (v_199 769 0 e) (rWitE e) = 0 then 1 else 0) else 0
def rWit (e : mD) : mD := if v_196 769 (rWitX e) (rWitE e) = 0 then g_196 769 (rWitX e) (rWitE e) else g_235 769 (v_201 769 (v_199 769 1 (g_199 769 0 e)) (rWitE e)) (v_199 769 0 e) (g_196 769 (rWitX e) (rWitE e))
theorem readWit {d0 e : mD} (h : Syn (g_52 577 d0) e) (hc : FrC d0 (g_52 577 d0)) (hk : OKR 580 d0 (e 770)) (hF : v_27 576 (g_52 577 d0) = 1 → v_29 576 (g_27 576 (g_52 577 d0)) = 1 → v_77 580 (g_29 576 (g_27 576 (g_52 577 d0)) 576 6) (g_27 576 (g_52 577 d0) 576 6) (g_29 576 (g_27 576 (g_52 577 d0))) = 0 → ∀ b, (b < 580 ∨ 642 < b) → g_75 580 (g_29 576 (g_27 576 (g_52 577 d0)) 576 6) (g_27 576 (g_52 577 d0) 576 6) (g_29 576 (g_27 576 (g_52 577 d0))) b = g_29 576 (g_27 576 (g_52 577 d0)) b) : LdFr d0 (g_23 576 d0) e (rWit e) ∧ ((v_23 576 d0 = 1 ∧ Syn (g_23 576 d0) (rWit e) ∧ OKR 580 (g_23 576 d0) (rWit e 770)) ∨ (v_23 576 d0 = 0 ∧ Fail (g_23 576 d0) (rWit e))) := by
  have hk1 := hk.frc hc
  have hG := hk.1
  generalize hw : e 770 = w at *
  unfold v_23 g_23 rWit
  rw [show (576 : Int) + 1 = 577 by decide, show (576 : Int) + 4 = 580 by decide]
  generalize g_52 577 d0 = d at *
  obtain ⟨b1, b2, b3⟩ := takePer h hk1.2.2.2.2.2.2.2.1 hw hG.1.2.1
  rcases b3 with ⟨v0, s0, m0, l0, u0⟩ | ⟨v0, f0⟩
  · have hk1' := hk1.frc b1
    have w0 : g_199 769 0 e 770 = w := by rw [b2.1 770 (by decide)]; exact hw
    obtain ⟨a1, a2, a3⟩ := takeTick s0 hk1'.2.2.2.2.2.2.2.1 hk1'.2.2.2.2.2.2.2.2.1 w0 hG.1.2.1
    have n0 : ¬ v_27 576 d = 0 := by rw [v0]; decide
    have hF := hF v0
    rw [if_neg n0, if_neg n0]
    rw [m0] at hF ⊢
    rcases a3 with ⟨v1, s1, m1, -, l1, u1⟩ | ⟨v1, f1⟩
    · have hk2 := hk1'.frc a1
      have w1 : rWitE e 770 = w := by
        show g_199 769 1 (g_199 769 0 e) 770 = w
        rw [a2.1 770 (by decide)]; exact w0
      have n1 : ¬ v_29 576 (g_27 576 d) = 0 := by rw [v1]; decide
      have hF := hF v1
      have el : v_201 769 (v_199 769 1 (g_199 769 0 e)) (rWitE e) = V_201 (v_199 769 1 (g_199 769 0 e)) w := by rw [m_v_201, w1]
      have s1 : Syn (g_29 576 (g_27 576 d)) (rWitE e) := s1
      have a2 : FrR (g_199 769 0 e) (rWitE e) := a2
      have hx : rWitX e = if V_234 (V_201 (v_199 769 1 (g_199 769 0 e)) w) (v_199 769 0 e) w = 0 then 1 else 0 := by
        unfold rWitX
        rw [if_pos s1.2.1, el, m_v_234, w1]
      rw [if_neg n1, if_neg n1, el]
      rw [m1] at hF ⊢
      obtain ⟨r1, r2⟩ := deedEnd (x := rWitX e) s1
      generalize rWitX e = x at *
      generalize V_201 (v_199 769 1 (g_199 769 0 e)) w = n at *
      generalize rWitE e = E at *
      generalize v_199 769 0 e = p at *
      have frE := b2.trans a2
      have fcD := (hc.trans b1).trans a1
      generalize g_29 576 (g_27 576 d) = D at *
      obtain ⟨q1, q2⟩ := hinder hG hk2.2.2.2.2 ⟨l1, u1⟩ ⟨l0, u0⟩
      rcases r2 with ⟨y1, y2, y3, y4⟩ | ⟨y1, y2, y3, y4, y5, y6⟩ | ⟨y1, y2, y3, y4, y5, y6, y7⟩
      · rw [if_pos y1, if_pos y1, if_pos y2]
        exact ⟨LdFr.of (fcD.trans y3) (frE.trans r1), Or.inr ⟨rfl, y4⟩⟩
      · have ny : ¬ v_30 576 D = 0 := by omega
        have vz : ¬ v_77 580 n p D = 0 := by
          rw [q1]
          intro z
          rw [if_pos z] at hx
          omega
        rw [if_neg ny, if_neg ny, y2, if_neg vz, if_neg vz, if_pos y4]
        exact ⟨LdFr.of (fcD.trans y5) (frE.trans r1), Or.inr ⟨rfl, y6⟩⟩
      · have ny : ¬ v_30 576 D = 0 := by omega
        have vz : V_234 n p w = 0 := by
          by_cases z : V_234 n p w = 0
          · exact z
          · rw [if_neg z] at hx
            exact absurd hx y3
        have vn : v_77 580 n p D = 0 := by rw [q1]; exact vz
        have hF := hF vn
        have nx : ¬ v_196 769 x E = 0 := by omega
        rw [if_neg ny, if_neg ny, y2, if_pos vn, if_pos vn, if_neg nx]
        obtain ⟨-, j1, j2, -⟩ := attest hG hk2.2.2.2.2 ⟨l1, u1⟩ ⟨l0, u0⟩ vz hk2.2.2.2.1
        have xr := attestX (p := p) hG ⟨l1, u1⟩ ⟨l0, u0⟩
        obtain ⟨x1, x2⟩ := xr.1 hk2.2.1 hk2.2.2.1
        have sD : Syn (g_75 580 n p D) (g_189 769 E) := y6.c (hF 577 (by decide)) (hF 578 (by decide)) (hF 579 (by decide))
        obtain ⟨-, -, t1, t2, t3, -⟩ := takeSemi sD
        rw [← y5] at t2 t3 y7
        have wE : g_196 769 x E 770 = w := by rw [r1.1 770 (by decide)]; exact w1
        rcases t3 with ⟨t4, t5⟩ | ⟨-, t5⟩
        · rw [m_g_235, wE]
          have rn : ∀ u b, ¬ b = 770 → rset (g_196 769 x E) u b = g_196 769 x E b := fun u b hb => rset_ne hb
          refine ⟨⟨fun b hb => ?_, fun k y z => ?_, fun j hj => ?_⟩, Or.inl ⟨t4, ?_, ?_⟩⟩
          · rw [t1 b (by omega) (by omega), hF b (by omega), fcD b (by omega) (by omega)]
          · rw [rn _ k z, r1.1 k y, frE.1 k y]
          · rw [rn _ 769 (by decide), r1.2 j hj, frE.2 j hj]
          · exact t5.r (rn _ 769 (by decide)) (rn _ 776 (by decide))
          · rw [rset_at]
            exact OKR.frc ⟨j1, x1, x2, by rw [xr.2]; exact hk2.2.2.2.1, j2⟩ t1
        · exact absurd y7 t5.ne
    · have f1 : Fail (g_29 576 (g_27 576 d)) (rWitE e) := f1
      rw [if_pos v1, if_pos v1]
      obtain ⟨z1, z2⟩ := bad196 (x := rWitX e) f1.ne
      rw [z1, if_pos z2]
      exact ⟨LdFr.of ((hc.trans b1).trans a1) (b2.trans a2), Or.inr ⟨rfl, f1⟩⟩
  · have eE : rWitE e = g_199 769 0 e := bad199 f0.ne
    rw [if_pos v0, if_pos v0, eE]
    obtain ⟨z1, z2⟩ := bad196 (x := rWitX e) f0.ne
    rw [z1, if_pos z2]
    exact ⟨LdFr.of (hc.trans b1) b2, Or.inr ⟨rfl, f0⟩⟩
/-! ===== the class's reader never goes back ===== -/
def CT (d : mD) : Prop := (0 ≤ d 577 2 ∧ d 577 2 ≤ d 578 1 ∧ d 578 1 ≤ 1000) ∧ TokAt (d 579) (d 578 1) (d 577 2) (d 577 1) (d 577 3) (d 577 4)
def PG (d d' : mD) : Prop := CT d → CT d' ∧ d 577 2 ≤ d' 577 2 ∧ FrC d d'
theorem Syn.ct {d e : mD} (h : Syn d e) : CT d := by
  obtain ⟨tx, b13, bt, bl, tk⟩ := h
  exact ⟨⟨by have := bl.1; omega, bl.2.1, tx.1.2⟩, tk⟩
def PW (d d' : mD) : Prop := CT d → CT d' ∧ d 577 2 ≤ d' 577 2
theorem PG.w {d d' : mD} (h : PG d d') : PW d d' := fun z => ⟨(h z).1, (h z).2.1⟩
theorem PW.fr {d d' : mD} (h7 : d' 577 = d 577) (h8 : d' 578 = d 578) (h9 : d' 579 = d 579) : PW d d' := fun h => by
  unfold CT at h ⊢
  rw [h7, h8, h9]
  exact ⟨h, Int.le_refl _⟩
theorem PW.trans {a b c : mD} (h : PW a b) (g : PW b c) : PW a c := fun z => by
  obtain ⟨q1, q2⟩ := h z
  obtain ⟨q3, q4⟩ := g q1
  exact ⟨q3, by omega⟩
theorem PG.trans {a b c : mD} (h : PG a b) (g : PG b c) : PG a c := fun z => by
  obtain ⟨q1, q2, q5⟩ := h z
  obtain ⟨q3, q4, q6⟩ := g q1
  exact ⟨q3, by omega, q5.trans q6⟩
theorem PG.refl {d : mD} : PG d d := fun z => ⟨z, Int.le_refl _, FrC.refl⟩
theorem PG.s6 {d : mD} {j v : Int} : PG d (mset d 576 j v) := fun z => by
  obtain ⟨q1, q2⟩ := PW.fr (d := d) (d' := mset d 576 j v) (by funext i; exact ms_a (by decide)) (by funext i; exact ms_a (by decide)) (by funext i; exact ms_a (by decide)) z
  exact ⟨q1, q2, fun b x _ => by funext i; exact ms_a x⟩
theorem pg52' {d : mD} (h : CT d) : CT (g_52 577 d) ∧ d 577 3 ≤ g_52 577 d 577 2 ∧ FrC d (g_52 577 d) := by
  obtain ⟨⟨h0, h1, h2⟩, tk⟩ := h
  have hz := tk.z h1
  obtain ⟨a1, a2, a3⟩ := adv (L := d 578 1) (d := d) rfl h2 (by omega) hz.2
  have e8 : g_52 577 d 578 = d 578 := a1 578 (by decide)
  have e9 : g_52 577 d 579 = d 579 := a1 579 (by decide)
  have := a2.1
  refine ⟨⟨⟨by omega, ?_, ?_⟩, ?_⟩, a2.1, fun b _ y => a1 b y⟩
  · rw [e8]; exact a2.2.1
  · rw [e8]; exact h2
  · rw [e8, e9]; exact a3
theorem pg52 {d : mD} : PG d (g_52 577 d) := fun h => by
  obtain ⟨q1, q2, q3⟩ := pg52' h
  have := (h.2.z h.1.2.1).1
  exact ⟨q1, by omega, q3⟩
theorem pg52s {d : mD} (h : CT d) (k : d 577 1 = 0) : CT (g_52 577 d) ∧ d 577 2 < g_52 577 d 577 2 := by
  obtain ⟨q1, q2, -⟩ := pg52' h
  obtain ⟨⟨h0, h1, h2⟩, tk⟩ := h
  refine ⟨q1, ?_⟩
  rcases tk with ⟨a1, a2, a3⟩ | ⟨a1, a2, a3, a4⟩ | ⟨a1, a2, a3, a4⟩ | ⟨a1, a2, a3, a4⟩ | ⟨a1, a2, a3, a4, a5, a6⟩
  · omega
  · by_cases c : d 577 2 < d 577 3
    · omega
    · have e3 : d 577 3 = d 577 2 := by have := a4.1; omega
      have := a4.2.2.2
      rw [e3] at this
      exact absurd a2 (this a1)
  · omega
  · omega
  · omega
theorem pg32 {c : Int} {d : mD} : PG d (g_32 576 c d) := PG.s6.trans PG.s6
theorem pg25 {lo hi : Int} {d : mD} : PG d (g_25 576 lo hi d) := by
  unfold g_25
  rw [show (576 : Int) + 1 = 577 by decide]
  repeat' split
  · exact pg32
  · exact pg32
  · exact PG.s6.trans pg52
  · exact pg32
theorem pg26 {d : mD} : PG d (g_26 576 d) := by
  unfold g_26
  rw [show (576 : Int) + 1 = 577 by decide]
  repeat' split
  · exact PG.s6.trans pg32
  · exact PG.s6.trans pg52
theorem pg27 {d : mD} : PG d (g_27 576 d) := by
  unfold g_27
  repeat' split
  · exact PG.s6.trans pg26
  · exact PG.s6.trans pg32
  · exact PG.s6.trans pg26
theorem pg28 {d : mD} : PG d (g_28 576 d) := by
  unfold g_28
  repeat' split
  · exact PG.s6.trans pg26
  · exact PG.s6.trans pg32
  · exact PG.s6.trans pg26
theorem pg29 {d : mD} : PG d (g_29 576 d) := by
  unfold g_29
  repeat' split
  · exact PG.s6.trans pg26
  · exact PG.s6.trans pg32
  · exact PG.s6.trans pg26
  · exact PG.s6.trans pg32
  · exact PG.s6.trans pg26
theorem pg30 {d : mD} : PG d (g_30 576 d) := by
  unfold g_30
  split
  · exact PG.refl
  · exact pg32
theorem pg31 {d : mD} : PG d (g_31 576 d) := by
  unfold g_31
  rw [show (576 : Int) + 1 = 577 by decide]
  split
  · exact pg30
  · exact pg30.trans pg52
-- behind a word: strictly on
def SPG (d d' : mD) : Prop := CT d → d 577 1 = 0 → d 577 2 < d' 577 2
theorem SPG.of {d d' : mD} (h : PW (g_52 577 d) d') : SPG d d' := fun c k => by
  obtain ⟨q1, q2⟩ := pg52s c k
  have := (h q1).2
  omega
theorem pg16 {d : mD} (h6 : d 582 0 < 6) : SPG d (g_16 576 d) := by
  refine SPG.of ?_
  have f : ∀ c x y z D, PW D (g_35 582 c x y z D) := fun c x y z D => PW.fr (f35 577 (by decide)) (f35 578 (by decide)) (f35 579 (by decide))
  have t : ∀ c x y z (D : mD), PW D (g_35 582 c x y z (g_31 576 (g_25 576 1 20 (g_25 576 1 6 (g_25 576 1 4 (g_26 576 D)))))) := fun c x y z D => ((((pg26.trans pg25).trans pg25).trans pg25).trans pg31).w.trans (f c x y z _)
  unfold g_16
  rw [show (576 : Int) + 1 = 577 by decide, show (576 : Int) + 4 + 2 = 582 by decide, if_pos h6]
  repeat' split
  all_goals first
    | exact t _ _ _ _ _
    | exact ((((pg26.trans pg25).trans pg25).trans pg25).trans pg31).w
    | exact (((pg26.trans pg25).trans pg25).trans pg25).w
    | exact ((pg26.trans pg25).trans pg25).w
    | exact (pg26.trans pg25).w
    | exact pg26.w
    | exact pg32.w
theorem pg18 {d : mD} (h6 : d 590 0 < 16) (h0 : 0 ≤ d 590 0) : SPG d (g_18 576 d) := by
  intro c k
  have e1 : g_52 577 d 590 = d 590 := (pg52 c).2.2 590 (by decide) (by decide)
  refine SPG.of (fun z => ?_) c k
  have f : ∀ c, PW (g_52 577 d) (g_47 590 c (g_31 576 (g_26 576 (g_52 577 d)))) := fun c z => by
    obtain ⟨q1, q2, q3⟩ := (pg26.trans pg31) z
    have hD : 0 ≤ g_31 576 (g_26 576 (g_52 577 d)) 590 0 := by rw [q3 590 (by decide) (by decide), e1]; exact h0
    obtain ⟨q4, q5⟩ := PW.fr (f47 (c := c) hD 577 (by decide)) (f47 (c := c) hD 578 (by decide)) (f47 (c := c) hD 579 (by decide)) q1
    exact ⟨q4, by omega⟩
  unfold g_18
  rw [show (576 : Int) + 1 = 577 by decide, show (576 : Int) + 4 + 10 = 590 by decide, if_pos h6]
  repeat' split
  all_goals first
    | exact f _ z
    | exact (pg26.trans pg31).w z
    | exact pg26.w z
    | exact pg32.w z
theorem pg20 {d : mD} : SPG d (g_20 576 d) := by
  refine SPG.of ?_
  have f : ∀ p o (D : mD), PW D (g_61 580 p o D) := fun p o D => PW.fr (f61 577 (by decide)) (f61 578 (by decide)) (f61 579 (by decide))
  have t : ∀ p o (D : mD), PW D (g_31 576 (g_61 580 p o (g_30 576 (g_28 576 (g_27 576 D))))) := fun p o D => (((pg27.trans pg28).trans pg30).w.trans (f p o _)).trans pg31.w
  unfold g_20
  rw [show (576 : Int) + 1 = 577 by decide, show (576 : Int) + 4 = 580 by decide]
  repeat' split
  all_goals first
    | exact t _ _ _
    | exact (((pg27.trans pg28).trans pg30).trans pg32).w
    | exact ((pg27.trans pg28).trans pg30).w
    | exact (pg27.trans pg28).w
    | exact pg27.w
theorem PW.fs {d d' : mD} (h : ∀ b, (b < 580 ∨ 642 < b) → d' b = d b) : PW d d' := PW.fr (h 577 (by decide)) (h 578 (by decide)) (h 579 (by decide))
theorem pg30e {d : mD} (h : ¬ v_30 576 d = 0) : g_30 576 d = d := by
  unfold v_30 at h
  unfold g_30
  split
  · rfl
  · rename_i c
    rw [if_neg c] at h
    exact absurd rfl h
theorem v25_1 {lo hi : Int} {d : mD} (h : ¬ v_25 576 lo hi d = 0) : v_25 576 lo hi d = 1 := by
  have : v_25 576 lo hi d = 0 ∨ v_25 576 lo hi d = 1 := by
    unfold v_25 v_32
    repeat' split
    all_goals first
      | exact Or.inl rfl
      | exact Or.inr rfl
  omega
theorem v29_1 {d : mD} (h : ¬ v_29 576 d = 0) : v_29 576 d = 1 := by
  have : v_29 576 d = 0 ∨ v_29 576 d = 1 := by
    unfold v_29 v_26 v_32
    repeat' split
    all_goals first
      | exact Or.inl rfl
      | exact Or.inr rfl
  omega
theorem v27_1 {d : mD} (h : ¬ v_27 576 d = 0) : v_27 576 d = 1 := by
  have : v_27 576 d = 0 ∨ v_27 576 d = 1 := by
    unfold v_27 v_26 v_32
    repeat' split
    all_goals first
      | exact Or.inl rfl
      | exact Or.inr rfl
  omega
theorem pg21 {d : mD} (hF : v_25 576 1 99 (g_52 577 d) = 1 → ∀ b, (b < 580 ∨ 642 < b) → g_68 580 (g_25 576 1 99 (g_52 577 d) 576 4) (g_25 576 1 99 (g_52 577 d)) b = g_25 576 1 99 (g_52 577 d) b) : SPG d (g_21 576 d) := by
  refine SPG.of ?_
  unfold g_21
  rw [show (576 : Int) + 1 = 577 by decide, show (576 : Int) + 4 = 580 by decide]
  by_cases c1 : v_25 576 1 99 (g_52 577 d) = 0
  · rw [if_pos c1]
    exact pg25.w
  · rw [if_neg c1]
    have v1 : v_25 576 1 99 (g_52 577 d) = 1 := v25_1 c1
    by_cases c2 : v_30 576 (g_25 576 1 99 (g_52 577 d)) = 0
    · rw [if_pos c2]
      exact (pg25.trans pg30).w
    · rw [if_neg c2]
      by_cases c3 : v_67 580 (g_25 576 1 99 (g_52 577 d) 576 4) (g_30 576 (g_25 576 1 99 (g_52 577 d))) = 0
      · rw [if_pos c3]
        exact ((pg25.trans pg30).trans pg32).w
      · rw [if_neg c3, pg30e c2]
        exact (pg25.w.trans (PW.fs (hF v1))).trans pg31.w
theorem pg22 {d : mD} (hF : v_29 576 (g_52 577 d) = 1 → ∀ b, (b < 580 ∨ 642 < b) → g_74 580 (g_29 576 (g_52 577 d) 576 6) (g_29 576 (g_52 577 d)) b = g_29 576 (g_52 577 d) b) : SPG d (g_22 576 d) := by
  refine SPG.of ?_
  unfold g_22
  rw [show (576 : Int) + 1 = 577 by decide, show (576 : Int) + 4 = 580 by decide]
  by_cases c1 : v_29 576 (g_52 577 d) = 0
  · rw [if_pos c1]
    exact pg29.w
  · rw [if_neg c1]
    by_cases c2 : v_30 576 (g_29 576 (g_52 577 d)) = 0
    · rw [if_pos c2]
      exact (pg29.trans pg30).w
    · rw [if_neg c2]
      by_cases c3 : v_73 580 (g_29 576 (g_52 577 d) 576 6) (g_30 576 (g_29 576 (g_52 577 d))) = 0
      · rw [if_pos c3]
        exact ((pg29.trans pg30).trans pg32).w
      · rw [if_neg c3, pg30e c2]
        exact (pg29.w.trans (PW.fs (hF (v29_1 c1)))).trans pg31.w
theorem pg23 {d : mD} (hF : v_27 576 (g_52 577 d) = 1 → v_29 576 (g_27 576 (g_52 577 d)) = 1 → v_77 580 (g_29 576 (g_27 576 (g_52 577 d)) 576 6) (g_27 576 (g_52 577 d) 576 6) (g_29 576 (g_27 576 (g_52 577 d))) = 0 → ∀ b, (b < 580 ∨ 642 < b) → g_75 580 (g_29 576 (g_27 576 (g_52 577 d)) 576 6) (g_27 576 (g_52 577 d) 576 6) (g_29 576 (g_27 576 (g_52 577 d))) b = g_29 576 (g_27 576 (g_52 577 d)) b) : SPG d (g_23 576 d) := by
  refine SPG.of ?_
  unfold g_23
  rw [show (576 : Int) + 1 = 577 by decide, show (576 : Int) + 4 = 580 by decide]
  by_cases c0 : v_27 576 (g_52 577 d) = 0
  · rw [if_pos c0]
    exact pg27.w
  · rw [if_neg c0]
    by_cases c1 : v_29 576 (g_27 576 (g_52 577 d)) = 0
    · rw [if_pos c1]
      exact (pg27.trans pg29).w
    · rw [if_neg c1]
      by_cases c2 : v_30 576 (g_29 576 (g_27 576 (g_52 577 d))) = 0
      · rw [if_pos c2]
        exact ((pg27.trans pg29).trans pg30).w
      · rw [if_neg c2]
        by_cases c3 : v_77 580 (g_29 576 (g_27 576 (g_52 577 d)) 576 6) (g_27 576 (g_52 577 d) 576 6) (g_30 576 (g_29 576 (g_27 576 (g_52 577 d)))) = 0
        · rw [if_pos c3, pg30e c2]
          rw [pg30e c2] at c3
          exact ((pg27.trans pg29).w.trans (PW.fs (hF (v27_1 c0) (v29_1 c1) c3))).trans pg31.w
        · rw [if_neg c3]
          exact (((pg27.trans pg29).trans pg30).trans pg32).w
theorem v55k {w : Int} {d : mD} (h : ¬ v_55 577 w d = 0) : d 577 1 = 0 := by
  unfold v_55 at h
  by_cases c : d 577 1 = 0
  · exact c
  · rw [if_neg c] at h
    exact absurd rfl h
/-! ===== offices and persons are read ===== -/
theorem LdFr.trans {a b c e f g : mD} (h : LdFr a b e f) (k : LdFr b c f g) : LdFr a c e g := ⟨fun x y => (k.1 x y).trans (h.1 x y), fun x y z => (k.2.1 x y z).trans (h.2.1 x y z), fun x y => (k.2.2 x y).trans (h.2.2 x y)⟩
theorem LdFr.refl {a e : mD} : LdFr a a e e := LdFr.of FrC.refl FrR.refl
theorem r204 (x1 : Int) (m : Nat) : ∃ r, lp_204_13 769 x1 m = st_204_13 769 x1 r ∧ (∀ e, r 0 e = e) ∧ ∀ m', m = m' + 1 → r = lp_204_13 769 x1 m' := by
  cases m with
  | zero => exact ⟨fun _ d => d, rfl, fun _ => rfl, fun m' h => absurd h (by omega)⟩
  | succ m =>
    refine ⟨lp_204_13 769 x1 m, rfl, fun e => ?_, fun m' h => by rw [show m = m' by omega]⟩
    cases m with
    | zero =>
      show st_204_13 769 x1 _ 0 e = e
      unfold st_204_13
      rw [if_pos rfl]
    | succ m =>
      show st_204_13 769 x1 _ 0 e = e
      unfold st_204_13
      rw [if_pos rfl]
theorem ma11 : miand 1 1 = 1 := by decide
theorem ma10 : miand 1 0 = 0 := by decide
theorem ma01 : miand 0 1 = 0 := by decide
theorem ma00 : miand 0 0 = 0 := by decide
def LO (d e : mD) (x : Int) : Prop := Syn d e ∧ OKR 580 d (e 770) ∧ GZ (e 770) ∧ e 770 9 = 0 ∧ e 770 10 = 0 ∧ e 770 7 = x ∧ e 770 8 = 0
theorem loopO : ∀ (n m : Nat) (x : Int) (d e : mD), LO d e x → 0 ≤ x → x ≤ 6 → 7 - x ≤ (n : Int) → d 578 1 - d 577 2 + 1 ≤ (m : Int) → (x = 0 → ¬ v_55 577 1 d = 0) → LdFr d (lp_15_20 576 n x d).2 e (lp_204_13 769 1 m 1 e) ∧ (((lp_15_20 576 n x d).1 = 1 ∧ Syn (lp_15_20 576 n x d).2 (lp_204_13 769 1 m 1 e) ∧ OKR 580 (lp_15_20 576 n x d).2 (lp_204_13 769 1 m 1 e 770) ∧ lp_204_13 769 1 m 1 e 770 8 = 0) ∨ ((lp_15_20 576 n x d).1 = 0 ∧ Fail (lp_15_20 576 n x d).2 (lp_204_13 769 1 m 1 e))) := by
  intro n
  induction n with
  | zero => intro m x d e h h0 h1 hn; omega
  | succ n ih =>
    intro m x d e ⟨hs, hk, hz, h9, h10, h7, h8⟩ h0 h1 hn hm hf
    obtain ⟨r, er, rz, rs⟩ := r204 1 m
    have st : lp_15_20 576 (n + 1) x d = if v_55 577 1 d = 0 then (1, d) else if v_16 576 d = 0 then (0, g_16 576 d) else lp_15_20 576 n (x + 1) (g_16 576 d) := by
      show st_15_20 576 _ x d = _
      unfold st_15_20
      rw [if_neg (by omega), show (576 : Int) + 1 = 577 by decide]
    obtain ⟨s1, s2, s3⟩ := hs.bl
    obtain ⟨i1, i2⟩ := isWord (w := 1) (code := 218546996) s1 word1
    have rt : lp_204_13 769 1 m 1 e = st_204_13 769 1 r 1 e := by rw [er]
    unfold st_204_13 at rt
    have z1 : ¬ (1 : Int) = 0 := by decide
    rw [if_neg z1, if_neg z1, show (769 : Int) + 1 = 770 by decide, h7, s3] at rt
    have f0 := s2.trans i1
    have w0 : g_194 769 218546996 (g_189 769 e) 770 = e 770 := f0.1 770 (by decide)
    rcases i2 with ⟨v1, v2, v3, v4⟩ | ⟨v1, v2, v3⟩
    · have n1 : ¬ v_55 577 1 d = 0 := by omega
      have n2 : ¬ v_194 769 218546996 (g_189 769 e) = 0 := by omega
      rw [if_neg n1] at st
      rw [if_neg n2] at rt
      rw [v2] at rt
      generalize g_194 769 218546996 (g_189 769 e) = H at *
      by_cases c : x = 6
      · obtain ⟨b1, b2⟩ := flt188 (c := 5) (p := d 577 2) v3.2.1
        obtain ⟨c1, c2, c3⟩ := fail32 (c := 5) (d := d)
        have o7 : d 582 0 = e 770 7 := hk.2.2.2.2.2.1.1
        have ev : v_16 576 d = 0 ∧ g_16 576 d = g_32 576 5 d := by
          unfold v_16 g_16
          rw [show (576 : Int) + 4 + 2 = 582 by decide, if_neg (by omega), if_neg (by omega)]
          exact ⟨rfl, rfl⟩
        rw [if_pos ev.1, ev.2] at st
        rw [if_pos c, if_neg b1.ne, ma10, rz] at rt
        rw [st, rt]
        exact ⟨LdFr.of c3 (f0.trans b2), Or.inr ⟨rfl, 5, d 577 2, c1, c2, b1⟩⟩
      · rw [if_neg c] at rt
        have o7 : d 582 0 = e 770 7 := hk.2.2.2.2.2.1.1
        have pg := pg16 (d := d) (by omega) hs.ct (v55k n1)
        obtain ⟨j1, j2⟩ := readOff v3 v4 (by rw [w0]; exact hk) (by rw [w0]; exact hz) (by rw [w0]; exact h9) (by rw [w0]; exact h10) (by rw [w0]; omega)
        have j1 : LdFr d (g_16 576 d) e (g_202 769 H) := (LdFr.of FrC.refl f0).trans j1
        rcases j2 with ⟨u1, u2, u3, u4, u5, u6, u7, u8⟩ | ⟨u1, u2⟩
        · rw [if_neg (by omega)] at st
          have ct := hs.ct.1
          rw [if_pos u2.2.1, ma11, rs (m - 1) (by omega)] at rt
          have e8 : g_16 576 d 578 = d 578 := j1.1 578 (Or.inr (Or.inr (Or.inl rfl)))
          obtain ⟨k1, k2⟩ := ih (m - 1) (x + 1) (g_16 576 d) (g_202 769 H) ⟨u2, u3, u4, u7, u8, by rw [u5, w0]; omega, by rw [u6, w0]; exact h8⟩ (by omega) (by omega) (by omega) (by rw [e8]; omega) (by omega)
          rw [st, rt]
          exact ⟨j1.trans k1, k2⟩
        · rw [if_pos u1] at st
          rw [if_neg u2.ne, ma10, rz] at rt
          rw [st, rt]
          exact ⟨j1, Or.inr ⟨rfl, u2⟩⟩
    · have x0 : ¬ x = 0 := fun z => hf z v1
      rw [if_pos v1] at st
      rw [if_pos v2, if_neg x0, if_pos v3.2.1, v2, ma01, rz] at rt
      rw [st, rt]
      exact ⟨LdFr.of FrC.refl f0, Or.inl ⟨rfl, v3, by rw [w0]; exact hk, by rw [w0]; exact h8⟩⟩
theorem loadO {d e : mD} (h : LO d e 0) : LdFr d (g_15 576 d) e (g_204 769 1 e) ∧ ((v_15 576 d = 1 ∧ Syn (g_15 576 d) (g_204 769 1 e) ∧ OKR 580 (g_15 576 d) (g_204 769 1 e 770) ∧ g_204 769 1 e 770 8 = 0) ∨ (v_15 576 d = 0 ∧ Fail (g_15 576 d) (g_204 769 1 e))) := by
  obtain ⟨hs, hk, hz, h9, h10, h7, h8⟩ := id h
  have ct := hs.ct.1
  have b1 := hs.2.2.1
  have b2 := hs.2.2.2.1.1
  have rt : g_204 769 1 e = lp_204_13 769 1 (1000 - e 769 10 + 1 : Int).toNat 1 e := by
    unfold g_204
    rw [if_pos hs.2.1]
  unfold v_15 g_15 f_15
  rw [show (576 : Int) + 1 = 577 by decide]
  by_cases c : v_55 577 1 d = 0
  · rw [if_pos c]
    generalize (1000 - e 769 10 + 1 : Int).toNat = m at rt
    obtain ⟨r, er, rz, rs⟩ := r204 1 m
    obtain ⟨s1, s2, s3⟩ := hs.bl
    obtain ⟨i1, i2⟩ := isWord (w := 1) (code := 218546996) s1 word1
    rw [er] at rt
    unfold st_204_13 at rt
    have z1 : ¬ (1 : Int) = 0 := by decide
    rw [if_neg z1, if_neg z1, show (769 : Int) + 1 = 770 by decide, h7, s3] at rt
    rcases i2 with ⟨v1, v2, v3, v4⟩ | ⟨v1, v2, v3⟩
    · omega
    · obtain ⟨b1, b2⟩ := flt188 (c := 1) (p := d 577 2) v3.2.1
      obtain ⟨c1, c2, c3⟩ := fail32 (c := 1) (d := d)
      rw [if_pos v2, if_pos rfl, if_neg b1.ne, v2, ma00, rz] at rt
      rw [rt]
      exact ⟨LdFr.of c3 ((s2.trans i1).trans b2), Or.inr ⟨rfl, 1, d 577 2, c1, c2, b1⟩⟩
  · rw [if_neg c, rt]
    exact loopO _ _ 0 d e h (by decide) (by decide) (by omega) (by omega) (fun _ => c)
theorem loopP : ∀ (n m : Nat) (x : Int) (d e : mD), Syn d e → OKR 580 d (e 770) → e 770 8 = x → 0 ≤ x → x ≤ 16 → 17 - x ≤ (n : Int) → d 578 1 - d 577 2 + 1 ≤ (m : Int) → LdFr d (lp_17_2 576 n x d).2 e (lp_204_13 769 0 m 1 e) ∧ (((lp_17_2 576 n x d).1 = 1 ∧ Syn (lp_17_2 576 n x d).2 (lp_204_13 769 0 m 1 e) ∧ OKR 580 (lp_17_2 576 n x d).2 (lp_204_13 769 0 m 1 e 770)) ∨ ((lp_17_2 576 n x d).1 = 0 ∧ Fail (lp_17_2 576 n x d).2 (lp_204_13 769 0 m 1 e))) := by
  intro n
  induction n with
  | zero => intro m x d e hs hk h8 h0 h1 hn; omega
  | succ n ih =>
    intro m x d e hs hk h8 h0 h1 hn hm
    obtain ⟨r, er, rz, rs⟩ := r204 0 m
    have st : lp_17_2 576 (n + 1) x d = if v_55 577 2 d = 0 then (1, d) else if v_18 576 d = 0 then (0, g_18 576 d) else lp_17_2 576 n (x + 1) (g_18 576 d) := by
      show st_17_2 576 _ x d = _
      unfold st_17_2
      rw [if_neg (by omega), show (576 : Int) + 1 = 577 by decide]
    obtain ⟨s1, s2, s3⟩ := hs.bl
    obtain ⟨i1, i2⟩ := isWord (w := 2) (code := 232608281) s1 word2
    have rt : lp_204_13 769 0 m 1 e = st_204_13 769 0 r 1 e := by rw [er]
    unfold st_204_13 at rt
    have z1 : ¬ (1 : Int) = 0 := by decide
    rw [if_neg z1, if_pos rfl, show (769 : Int) + 1 = 770 by decide, h8, s3] at rt
    have f0 := s2.trans i1
    have w0 : g_194 769 232608281 (g_189 769 e) 770 = e 770 := f0.1 770 (by decide)
    have o8 : d 590 0 = e 770 8 := hk.2.2.2.2.2.2.2.1.1
    rcases i2 with ⟨v1, v2, v3, v4⟩ | ⟨v1, v2, v3⟩
    · have n1 : ¬ v_55 577 2 d = 0 := by omega
      have n2 : ¬ v_194 769 232608281 (g_189 769 e) = 0 := by omega
      rw [if_neg n1] at st
      rw [if_neg n2] at rt
      rw [v2] at rt
      generalize g_194 769 232608281 (g_189 769 e) = H at *
      by_cases c : x = 16
      · obtain ⟨b1, b2⟩ := flt188 (c := 5) (p := d 577 2) v3.2.1
        obtain ⟨c1, c2, c3⟩ := fail32 (c := 5) (d := d)
        have ev : v_18 576 d = 0 ∧ g_18 576 d = g_32 576 5 d := by
          unfold v_18 g_18
          rw [show (576 : Int) + 4 + 10 = 590 by decide, if_neg (by omega), if_neg (by omega)]
          exact ⟨rfl, rfl⟩
        rw [if_pos ev.1, ev.2] at st
        rw [if_pos c, if_neg b1.ne, ma10, rz] at rt
        rw [st, rt]
        exact ⟨LdFr.of c3 (f0.trans b2), Or.inr ⟨rfl, 5, d 577 2, c1, c2, b1⟩⟩
      · rw [if_neg c] at rt
        have pg := pg18 (d := d) (by omega) (by omega) hs.ct (v55k n1)
        obtain ⟨j1, j2⟩ := readPer v3 v4 (by rw [w0]; exact hk) (by rw [w0]; omega)
        have j1 : LdFr d (g_18 576 d) e (g_203 769 H) := (LdFr.of FrC.refl f0).trans j1
        rcases j2 with ⟨u1, u2, u3, u4, u5⟩ | ⟨u1, u2⟩
        · rw [if_neg (by omega)] at st
          have ct := hs.ct.1
          rw [if_pos u2.2.1, ma11, rs (m - 1) (by omega)] at rt
          have e8 : g_18 576 d 578 = d 578 := j1.1 578 (Or.inr (Or.inr (Or.inl rfl)))
          obtain ⟨k1, k2⟩ := ih (m - 1) (x + 1) (g_18 576 d) (g_203 769 H) u2 u3 (by rw [u4, w0]; omega) (by omega) (by omega) (by omega) (by rw [e8]; omega)
          rw [st, rt]
          exact ⟨j1.trans k1, k2⟩
        · rw [if_pos u1] at st
          rw [if_neg u2.ne, ma10, rz] at rt
          rw [st, rt]
          exact ⟨j1, Or.inr ⟨rfl, u2⟩⟩
    · rw [if_pos v1] at st
      rw [if_pos v2, if_pos v3.2.1, v2, ma01, rz] at rt
      rw [st, rt]
      exact ⟨LdFr.of FrC.refl f0, Or.inl ⟨rfl, v3, by rw [w0]; exact hk⟩⟩
theorem loadP {d e : mD} (hs : Syn d e) (hk : OKR 580 d (e 770)) (h8 : e 770 8 = 0) : LdFr d (g_17 576 d) e (g_204 769 0 e) ∧ ((v_17 576 d = 1 ∧ Syn (g_17 576 d) (g_204 769 0 e) ∧ OKR 580 (g_17 576 d) (g_204 769 0 e 770)) ∨ (v_17 576 d = 0 ∧ Fail (g_17 576 d) (g_204 769 0 e))) := by
  have ct := hs.ct.1
  have b1 := hs.2.2.1
  have b2 := hs.2.2.2.1.1
  have rt : g_204 769 0 e = lp_204_13 769 0 (1000 - e 769 10 + 1 : Int).toNat 1 e := by
    unfold g_204
    rw [if_pos hs.2.1]
  unfold v_17 g_17 f_17
  rw [rt]
  exact loopP _ _ 0 d e hs hk h8 (by decide) (by decide) (by omega) (by omega)
/-! ===== a deed of the reference's text ===== -/
def nx (r : Int → mD → mD) (x : Int) (E : mD) : mD := if E 769 13 = 0 then r (miand x 1) E else r (miand x 0) E
theorem nxI {P : Prop} [Decidable P] {r : Int → mD → mD} {x : Int} {E F : mD} (h : F 769 13 = E 769 13) : (if P then (if E 769 13 = 0 then r (miand x 1) E else r (miand x 0) E) else if E 769 13 = 0 then r (miand x 1) F else r (miand x 0) F) = nx r x (if P then E else F) := by
  unfold nx
  by_cases c : P
  · rw [if_pos c, if_pos c]
  · rw [if_neg c, if_neg c, h]
theorem nxH {P : Prop} [Decidable P] {r : Int → mD → mD} {x : Int} {E F G : mD} (h : G = nx r x F) : (if P then (if E 769 13 = 0 then r (miand x 1) E else r (miand x 0) E) else G) = nx r x (if P then E else F) := by
  rw [h]
  by_cases c : P
  · rw [if_pos c, if_pos c]
    rfl
  · rw [if_neg c, if_neg c]
theorem lp205h {r : Int → mD → mD} {x N : Int} : ∀ (n : Nat) (k : Int) (E : mD), 0 ≤ N - k → N - k ≤ (n : Int) → lp_205_123 769 r n x N k E = nx r x (rset E (hoursW (N - k).toNat (E 770))) := by
  have stop : ∀ (k : Int) (E : mD), N - k = 0 → nx r x E = nx r x (rset E (hoursW (N - k).toNat (E 770))) := fun k E h => by
    rw [show (N - k).toNat = 0 by omega]
    show _ = nx r x (rset E (E 770))
    rw [rset_self]
  intro n
  induction n with
  | zero =>
    intro k E h0 h1
    rw [← stop k E (by omega)]
    show st_205_123 769 r _ x N k E = _
    unfold st_205_123
    rw [if_neg (by omega)]
    rfl
  | succ n ih =>
    intro k E h0 h1
    by_cases c : k < N
    · have e : lp_205_123 769 r (n + 1) x N k E = lp_205_123 769 r n x N (k + 1) (g_223 769 E) := by
        show st_205_123 769 r _ x N k E = _
        unfold st_205_123
        rw [if_pos c]
      rw [e, ih (k + 1) _ (by omega) (by omega), m_g_223, rset_rset, rset_at, show (N - k).toNat = (N - (k + 1)).toNat + 1 by omega]
      rfl
    · rw [← stop k E (by omega)]
      show st_205_123 769 r _ x N k E = _
      unfold st_205_123
      rw [if_neg c]
      rfl
theorem k13 {E : mD} {u : Row} : rset E u 769 13 = E 769 13 := by rw [rset_ne (by decide)]
theorem st205j {r : Int → mD → mD} {x : Int} {d : mD} (hx : ¬ x = 0) (h3 : ¬ v_194 769 208022 d = 0) : st_205_13 769 r x d = nx r x (rJoin (g_194 769 208022 d)) := by
  unfold st_205_13
  rw [if_neg hx, if_neg h3]
  generalize g_194 769 208022 d = A
  have k : ∀ p o (E : mD), g_226 769 p o E 769 13 = E 769 13 := fun p o E => by rw [m_g_226, k13]
  unfold rJoin rJoinX
  by_cases c1 : g_200 769 (g_199 769 0 A) 769 13 = 0
  · simp only [if_pos c1]
    by_cases c2 : v_225 769 (v_199 769 0 A) (v_200 769 (g_199 769 0 A)) (g_200 769 (g_199 769 0 A)) = 0
    · simp only [if_pos c2]
      exact nxI (k _ _ _)
    · simp only [if_neg c2]
      exact nxI (k _ _ _)
  · simp only [if_neg c1]
    exact nxI (k _ _ _)
theorem st205p {r : Int → mD → mD} {x : Int} {d B : mD} (hx : ¬ x = 0) (h3 : v_194 769 208022 d = 0) (h4 : ¬ v_194 769 316189 (g_194 769 208022 d) = 0) (hB : g_194 769 316189 (g_194 769 208022 d) = B) (hp : g_197 769 1 99 B 770 0 = d 770 0) (hv : 0 ≤ v_197 769 1 99 B) : st_205_13 769 r x d = nx r x (rPass B) := by
  unfold st_205_13
  rw [if_neg hx, if_pos h3, if_neg h4, hB, show (769 : Int) + 1 = 770 by decide, ← hp]
  unfold rPass rPassX
  have k : ∀ (D : mD), lp_205_123 769 r (v_197 769 1 99 B - 0 : Int).toNat x (v_197 769 1 99 B) 0 D = nx r x (rset D (hoursW (v_197 769 1 99 B).toNat (D 770))) := fun D => by
    rw [lp205h _ _ _ (by omega) (by omega), show v_197 769 1 99 B - 0 = v_197 769 1 99 B by omega]
  by_cases c1 : (999 : Int) < g_197 769 1 99 B 770 0 + v_197 769 1 99 B
  · simp only [if_pos c1]
    exact nxH (k _)
  · simp only [if_neg c1]
    exact nxH (k _)
theorem st205c {r : Int → mD → mD} {x : Int} {d C : mD} (hx : ¬ x = 0) (h3 : v_194 769 208022 d = 0) (h4 : v_194 769 316189 (g_194 769 208022 d) = 0) (h5 : ¬ v_194 769 1831504 (g_194 769 316189 (g_194 769 208022 d)) = 0) (hC : g_194 769 1831504 (g_194 769 316189 (g_194 769 208022 d)) = C) : st_205_13 769 r x d = nx r x (rClaim C) := by
  unfold st_205_13
  rw [if_neg hx, if_pos h3, if_pos h4, if_neg h5, hC]
  have k : ∀ p (E : mD), g_228 769 p E 769 13 = E 769 13 := fun p E => by rw [m_g_228, k13]
  unfold rClaim rClaimX
  by_cases c1 : g_199 769 1 C 769 13 = 0
  · simp only [if_pos c1]
    by_cases c2 : v_227 769 (v_201 769 (v_199 769 1 C) (g_199 769 1 C)) (g_199 769 1 C) = 0
    · simp only [if_pos c2]
      exact nxI (k _ _)
    · simp only [if_neg c2]
      exact nxI (k _ _)
  · simp only [if_neg c1]
    exact nxI (k _ _)
theorem st205w {r : Int → mD → mD} {x : Int} {d D : mD} (hx : ¬ x = 0) (h3 : v_194 769 208022 d = 0) (h4 : v_194 769 316189 (g_194 769 208022 d) = 0) (h5 : v_194 769 1831504 (g_194 769 316189 (g_194 769 208022 d)) = 0) (h6 : ¬ v_194 769 9050719969 (g_194 769 1831504 (g_194 769 316189 (g_194 769 208022 d))) = 0) (hD : g_194 769 9050719969 (g_194 769 1831504 (g_194 769 316189 (g_194 769 208022 d))) = D) : st_205_13 769 r x d = nx r x (rWit D) := by
  unfold st_205_13
  rw [if_neg hx, if_pos h3, if_pos h4, if_pos h5, if_neg h6, hD]
  have k : ∀ p q (E : mD), g_235 769 p q E 769 13 = E 769 13 := fun p q E => by rw [m_g_235, k13]
  unfold rWit rWitX rWitE
  by_cases c1 : g_199 769 1 (g_199 769 0 D) 769 13 = 0
  · simp only [if_pos c1]
    by_cases c2 : v_234 769 (v_201 769 (v_199 769 1 (g_199 769 0 D)) (g_199 769 1 (g_199 769 0 D))) (v_199 769 0 D) (g_199 769 1 (g_199 769 0 D)) = 0
    · simp only [if_pos c2]
      exact nxI (k _ _ _)
    · simp only [if_neg c2]
      exact nxI (k _ _ _)
  · simp only [if_neg c1]
    exact nxI (k _ _ _)
theorem st205u {r : Int → mD → mD} {x : Int} {d D : mD} (hx : ¬ x = 0) (h3 : v_194 769 208022 d = 0) (h4 : v_194 769 316189 (g_194 769 208022 d) = 0) (h5 : v_194 769 1831504 (g_194 769 316189 (g_194 769 208022 d)) = 0) (h6 : v_194 769 9050719969 (g_194 769 1831504 (g_194 769 316189 (g_194 769 208022 d))) = 0) (hD : g_194 769 9050719969 (g_194 769 1831504 (g_194 769 316189 (g_194 769 208022 d))) = D) : st_205_13 769 r x d = r 0 D := by
  unfold st_205_13
  rw [if_neg hx, if_pos h3, if_pos h4, if_pos h5, if_pos h6, hD, ma01, ma00]
  split <;> rfl
/-! ===== the loop of the deeds ===== -/
def TKE (E : mO × tW) : Prop := W55 E ∧ tokV E.2 (.inr (2, 576)) ∧ tokV E.2 (.inr (5, 577)) ∧ tokV E.2 (.inr (6, 580))
def LSt (E : mO × tW) (d : mD) : Prop := Safe d ∧ tSh E.2 d ∧ d 580 2 ≤ 999
theorem e580 : (576 : Int) + 4 = 580 := by decide
theorem st580 : stB 580 := Or.inr (Or.inr (Or.inl rfl))
theorem LSt.w {E : mO × tW} {d : mD} (hT : TKE E) (h : LSt E d) : LSt E (g_52 577 d) := by
  obtain ⟨q1, q2, q3⟩ := p_52 (E := E) (x0 := 577) h.1 rfl ⟨hT.2.2.1, trivial⟩ h.2.1
  exact ⟨q3, q1, by rw [q2 580 (by decide)]; exact h.2.2⟩
theorem LSt.F68 {E : mO × tW} {d : mD} (hT : TKE E) (h0 : LSt E d) (hv : v_25 576 1 99 (g_52 577 d) = 1) : ∀ b, (b < 580 ∨ 642 < b) → g_68 580 (g_25 576 1 99 (g_52 577 d) 576 4) (g_25 576 1 99 (g_52 577 d)) b = g_25 576 1 99 (g_52 577 d) b := fun b hb => by
  have h := h0.w hT
  generalize g_52 577 d = u at *
  obtain ⟨q1, q2, q3, q4, q5, q6, q7, q8⟩ := p_25 (E := E) (x0 := 576) (x1 := 1) (x2 := 99) h.1 rfl (by decide) (by decide) ⟨hT.2.1, trivial, trivial, trivial⟩ h.2.1
  have ht : g_25 576 1 99 u 580 2 ≤ 999 := by rw [q3 580 (by decide)]; exact h.2.2
  rcases q7 with q7 | q7
  · omega
  · exact (p_68 (E := E) (x0 := 580) (x1 := g_25 576 1 99 u 576 4) q8 st580 ⟨by omega, by omega⟩ (by omega) (Or.inl rfl) ⟨hT.2.2.2, trivial, trivial⟩ q1).2.2.1 b (by omega)
theorem LSt.F74 {E : mO × tW} {d : mD} (hT : TKE E) (h0 : LSt E d) (hv : v_29 576 (g_52 577 d) = 1) : ∀ b, (b < 580 ∨ 642 < b) → g_74 580 (g_29 576 (g_52 577 d) 576 6) (g_29 576 (g_52 577 d)) b = g_29 576 (g_52 577 d) b := fun b hb => by
  have h := h0.w hT
  generalize g_52 577 d = u at *
  obtain ⟨q1, q2, q3, q4, q5, q6, q7⟩ := p_29 (E := E) (x0 := 576) h.1 rfl ⟨hT.2.1, trivial⟩ h.2.1
  rcases q6 with q6 | q6
  · omega
  · exact (p_74 (E := E) (x0 := 580) (x1 := g_29 576 u 576 6) q7 st580 q6 ⟨hT.2.2.2, trivial, trivial⟩ q1).2.2.1 b (by omega)
theorem LSt.F75 {E : mO × tW} {d : mD} (hT : TKE E) (h0 : LSt E d) (hv : v_27 576 (g_52 577 d) = 1) (hv2 : v_29 576 (g_27 576 (g_52 577 d)) = 1) (hv3 : v_77 580 (g_29 576 (g_27 576 (g_52 577 d)) 576 6) (g_27 576 (g_52 577 d) 576 6) (g_29 576 (g_27 576 (g_52 577 d))) = 0) : ∀ b, (b < 580 ∨ 642 < b) → g_75 580 (g_29 576 (g_27 576 (g_52 577 d)) 576 6) (g_27 576 (g_52 577 d) 576 6) (g_29 576 (g_27 576 (g_52 577 d))) b = g_29 576 (g_27 576 (g_52 577 d)) b := fun b hb => by
  have h := h0.w hT
  generalize g_52 577 d = u at *
  obtain ⟨r1, r2, r3, r4, r5, r6, r7⟩ := p_27 (E := E) (x0 := 576) h.1 rfl ⟨hT.2.1, trivial⟩ h.2.1
  obtain ⟨q1, q2, q3, q4, q5, q6, q7⟩ := p_29 (E := E) (d := g_27 576 u) (x0 := 576) r7 rfl ⟨hT.2.1, trivial⟩ r1
  rcases q6 with q6 | q6
  · omega
  · rcases r6 with r6 | r6
    · omega
    · have w := (p_77 (E := E) (x0 := 580) (x1 := g_29 576 (g_27 576 u) 576 6) (x2 := g_27 576 u 576 6) q7 st580 q6 r6 ⟨hT.2.2.2, trivial, trivial, trivial⟩ q1).2.2
      have w : g_29 576 (g_27 576 u) (580 + 10 + 4) (g_27 576 u 576 6) ≤ 2 := by
        rcases w with w | w
        · exact absurd hv3 w
        · exact w
      exact (p_75 (E := E) (x0 := 580) (x1 := g_29 576 (g_27 576 u) 576 6) (x2 := g_27 576 u 576 6) q7 st580 q6 r6 w ⟨hT.2.2.2, trivial, trivial, trivial⟩ q1).2.2.1 b (by omega)
theorem LSt.g20 {E : mO × tW} {d : mD} (hT : TKE E) (h : LSt E d) : LSt E (g_20 576 d) := by
  obtain ⟨q1, q2, q3, q4, q5⟩ := p_20 (E := E) (x0 := 576) h.1 rfl (by rw [e580]; exact h.2.2) ⟨hT.2.1, trivial⟩ h.2.1
  exact ⟨q5, q1, by rw [e580] at q4; exact q4⟩
theorem LSt.g21 {E : mO × tW} {d : mD} (hT : TKE E) (h : LSt E d) : LSt E (g_21 576 d) := by
  obtain ⟨q1, q2, q3, q4, q5⟩ := p_21 (E := E) (x0 := 576) h.1 rfl (by rw [e580]; exact h.2.2) ⟨hT.2.1, trivial⟩ h.2.1
  exact ⟨q5, q1, by rw [e580] at q4; exact q4⟩
theorem LSt.g22 {E : mO × tW} {d : mD} (hT : TKE E) (h : LSt E d) : LSt E (g_22 576 d) := by
  obtain ⟨q1, q2, q3, q4, q5⟩ := p_22 (E := E) (x0 := 576) h.1 rfl (by rw [e580]; exact h.2.2) ⟨hT.2.1, trivial⟩ h.2.1
  exact ⟨q5, q1, by rw [e580] at q4; exact q4⟩
theorem LSt.g23 {E : mO × tW} {d : mD} (hT : TKE E) (h : LSt E d) : LSt E (g_23 576 d) := by
  obtain ⟨q1, q2, q3, q4, q5⟩ := p_23 (E := E) (x0 := 576) h.1 rfl (by rw [e580]; exact h.2.2) ⟨hT.2.1, trivial⟩ h.2.1
  exact ⟨q5, q1, by rw [e580] at q4; exact q4⟩
theorem r19 (n : Nat) : ∃ r, lp_19_4 576 n = st_19_4 576 r ∧ (∀ k d, r 0 k d = (0, d)) ∧ ∀ n', n = n' + 1 → r = lp_19_4 576 n' := by
  have z : ∀ (r : Int → Int → mD → Int × mD) k d, st_19_4 576 r 0 k d = (0, d) := fun r k d => by
    unfold st_19_4
    by_cases c : k < 1000
    · rw [if_pos c, if_pos rfl]
    · rw [if_neg c]
  cases n with
  | zero => exact ⟨fun _ _ d => (0, d), rfl, fun _ _ => rfl, fun n' h => absurd h (by omega)⟩
  | succ n =>
    refine ⟨lp_19_4 576 n, rfl, fun k d => ?_, fun n' h => by rw [show n = n' by omega]⟩
    cases n with
    | zero => exact z _ k d
    | succ n => exact z _ k d
theorem r205 (m : Nat) : ∃ r, lp_205_13 769 m = st_205_13 769 r ∧ (∀ e, r 0 e = e) ∧ ∀ m', m = m' + 1 → r = lp_205_13 769 m' := by
  have z : ∀ (r : Int → mD → mD) d, st_205_13 769 r 0 d = d := fun r d => by
    unfold st_205_13
    rw [if_pos rfl]
  cases m with
  | zero => exact ⟨fun _ d => d, rfl, fun _ => rfl, fun m' h => absurd h (by omega)⟩
  | succ m =>
    refine ⟨lp_205_13 769 m, rfl, fun e => ?_, fun m' h => by rw [show m = m' by omega]⟩
    cases m with
    | zero => exact z _ e
    | succ m => exact z _ e
def DE (d e d' e' : mD) (c : Int) : Prop := LdFr d d' e e' ∧ ((c = 1 ∧ Syn d' e' ∧ d' 577 1 = 3 ∧ OKR 580 d' (e' 770)) ∨ (c = 0 ∧ Fail d' e') ∨ (c = 0 ∧ ∃ D, Syn D e' ∧ ¬ D 577 1 = 3 ∧ d' = g_32 576 1 D))
theorem stepD {E : mO × tW} (hT : TKE E) {r : Int → Int → mD → Int × mD} {r' : Int → mD → mD} (z1 : ∀ k d, r 0 k d = (0, d)) (z2 : ∀ e, r' 0 e = e) {k : Int} {d e : mD} (hs : Syn d e) (hk : OKR 580 d (e 770)) (hl : LSt E d) (k1 : k ≤ d 577 2) (hn : k < 1000 → d 577 2 < d 578 1 → ∀ D rd, Syn D rd → OKR 580 D (rd 770) → LSt E D → d 577 2 < D 577 2 → LdFr d D e rd → DE D rd (r 1 (k + 1) D).2 (r' 1 rd) (r 1 (k + 1) D).1) : DE d e (st_19_4 576 r 1 k d).2 (st_205_13 769 r' 1 e) (st_19_4 576 r 1 k d).1 := by
  have x1 : ¬ (1 : Int) = 0 := by decide
  have ct := hs.ct
  obtain ⟨a1, a2⟩ := isWord (w := 3) (code := 208022) hs word3
  generalize hA : g_194 769 208022 e = A at *
  by_cases c3 : d 577 1 = 3
  · have ec : st_19_4 576 r 1 k d = (1, d) := by
      unfold st_19_4
      rw [if_neg x1, show (576 : Int) + 1 = 577 by decide, if_pos c3]
      split <;> rfl
    have nv : ∀ w, ¬ v_55 577 w d = 1 := fun w hw => by
      have := v55k (w := w) (d := d) (by omega)
      omega
    rcases a2 with ⟨v, -, -, -⟩ | ⟨-, w3, sA⟩
    · exact absurd v (nv _)
    · obtain ⟨b1, b2⟩ := isWord (w := 4) (code := 316189) sA word4
      rcases b2 with ⟨v, -, -, -⟩ | ⟨-, w4, sB⟩
      · exact absurd v (nv _)
      · obtain ⟨e1, e2⟩ := isWord (w := 5) (code := 1831504) sB word5
        rcases e2 with ⟨v, -, -, -⟩ | ⟨-, w5, sC⟩
        · exact absurd v (nv _)
        · obtain ⟨f1, f2⟩ := isWord (w := 6) (code := 9050719969) sC word6
          rcases f2 with ⟨v, -, -, -⟩ | ⟨-, w6, sD⟩
          · exact absurd v (nv _)
          · rw [← hA] at w4 w5 w6 a1 b1 e1 f1 sD
            rw [ec, st205u x1 w3 w4 w5 w6 rfl, z2]
            have fr := ((a1.trans b1).trans e1).trans f1
            exact ⟨LdFr.of FrC.refl fr, Or.inl ⟨rfl, sD, c3, by rw [fr.1 770 (by decide)]; exact hk⟩⟩
  · have tl : d 577 2 < d 578 1 := by
      have tk := ct.2
      rcases tk with ⟨a1, a2, a3⟩ | ⟨a1, a2, a3, a4⟩ | ⟨a1, a2, a3, a4⟩ | ⟨a1, a2, a3, a4⟩ | ⟨a1, a2, a3, a4, a5, a6⟩
      · exact absurd a2 c3
      · exact a1
      · exact a1
      · exact a1
      · exact a1
    have ck : k < 1000 := by
      have := ct.1
      omega
    have go : ∀ (D rd : mD) (v : Int), LdFr d D e rd → ((v = 1 ∧ Syn D rd ∧ OKR 580 D (rd 770)) ∨ (v = 0 ∧ Fail D rd)) → LSt E D → d 577 2 < D 577 2 → DE d e (r v (k + 1) D).2 (nx r' 1 rd) (r v (k + 1) D).1 := fun D rd v f1 f2 f3 f4 => by
      unfold nx
      rcases f2 with ⟨g1, g2, g3⟩ | ⟨g1, g2⟩
      · obtain ⟨h1, h2⟩ := hn ck tl D rd g2 g3 f3 f4 f1
        rw [if_pos g2.2.1, ma11, g1]
        exact ⟨f1.trans h1, h2⟩
      · rw [if_neg g2.ne, ma10, g1, z1, z2]
        exact ⟨f1, Or.inr (Or.inl ⟨rfl, g2⟩)⟩
    rcases a2 with ⟨v, w3, sA, fA⟩ | ⟨v3, w3, sA⟩
    · have n0 : ¬ v_55 577 3 d = 0 := by omega
      have wA : A 770 = e 770 := a1.1 770 (by decide)
      obtain ⟨j1, j2⟩ := readJoin sA fA (by rw [wA]; exact hk)
      have ec : st_19_4 576 r 1 k d = r (v_20 576 d) (k + 1) (g_20 576 d) := by
        unfold st_19_4
        rw [if_pos ck, if_neg x1, show (576 : Int) + 1 = 577 by decide, if_neg c3, if_neg n0]
      rw [ec, st205j x1 (by omega), hA]
      exact go _ _ _ ((LdFr.of FrC.refl a1).trans j1) j2 (hl.g20 hT) (pg20 ct (v55k n0))
    · obtain ⟨b1, b2⟩ := isWord (w := 4) (code := 316189) sA word4
      have b1 := a1.trans b1
      generalize hB : g_194 769 316189 A = B at *
      rcases b2 with ⟨v, w4, sB, fB⟩ | ⟨v4, w4, sB⟩
      · have n0 : ¬ v_55 577 4 d = 0 := by omega
        have wB : B 770 = e 770 := b1.1 770 (by decide)
        have hF := hl.F68 hT
        obtain ⟨j1, j2⟩ := readPass sB fB (by rw [wB]; exact hk) hF
        have ec : st_19_4 576 r 1 k d = r (v_21 576 d) (k + 1) (g_21 576 d) := by
          unfold st_19_4
          rw [if_pos ck, if_neg x1, show (576 : Int) + 1 = 577 by decide, if_neg c3, if_pos v3, if_neg n0]
        obtain ⟨-, t2, t3⟩ := takeNum (lo := 1) (hi := 99) sB
        rw [ec, st205p (B := B) x1 (by omega) (by rw [hA]; omega) (by rw [hA]; exact hB) (by rw [t2.1 770 (by decide), wB]) (by
          rcases t3 with t3 | t3
          · omega
          · omega)]
        exact go _ _ _ ((LdFr.of FrC.refl b1).trans j1) j2 (hl.g21 hT) (pg21 hF ct (v55k n0))
      · obtain ⟨e1, e2⟩ := isWord (w := 5) (code := 1831504) sB word5
        have e1 := b1.trans e1
        generalize hC : g_194 769 1831504 B = C at *
        rcases e2 with ⟨v, w5, sC, fC⟩ | ⟨v5, w5, sC⟩
        · have n0 : ¬ v_55 577 5 d = 0 := by omega
          have wC : C 770 = e 770 := e1.1 770 (by decide)
          have hF := hl.F74 hT
          obtain ⟨j1, j2⟩ := readClaim sC fC (by rw [wC]; exact hk) hF
          have ec : st_19_4 576 r 1 k d = r (v_22 576 d) (k + 1) (g_22 576 d) := by
            unfold st_19_4
            rw [if_pos ck, if_neg x1, show (576 : Int) + 1 = 577 by decide, if_neg c3, if_pos v3, if_pos v4, if_neg n0]
          rw [ec, st205c (C := C) x1 (by omega) (by rw [hA]; omega) (by rw [hA, hB]; omega) (by rw [hA, hB]; exact hC)]
          exact go _ _ _ ((LdFr.of FrC.refl e1).trans j1) j2 (hl.g22 hT) (pg22 hF ct (v55k n0))
        · obtain ⟨f1, f2⟩ := isWord (w := 6) (code := 9050719969) sC word6
          have f1 := e1.trans f1
          generalize hD : g_194 769 9050719969 C = D at *
          rcases f2 with ⟨v, w6, sD, fD⟩ | ⟨v6, w6, sD⟩
          · have n0 : ¬ v_55 577 6 d = 0 := by omega
            have wD : D 770 = e 770 := f1.1 770 (by decide)
            have hF := hl.F75 hT
            obtain ⟨j1, j2⟩ := readWit sD fD (by rw [wD]; exact hk) hF
            have ec : st_19_4 576 r 1 k d = r (v_23 576 d) (k + 1) (g_23 576 d) := by
              unfold st_19_4
              rw [if_pos ck, if_neg x1, show (576 : Int) + 1 = 577 by decide, if_neg c3, if_pos v3, if_pos v4, if_pos v5, if_neg n0]
            rw [ec, st205w (D := D) x1 (by omega) (by rw [hA]; omega) (by rw [hA, hB]; omega) (by rw [hA, hB, hC]; omega) (by rw [hA, hB, hC]; exact hD)]
            exact go _ _ _ ((LdFr.of FrC.refl f1).trans j1) j2 (hl.g23 hT) (pg23 hF ct (v55k n0))
          · have ec : st_19_4 576 r 1 k d = (0, g_32 576 1 d) := by
              unfold st_19_4
              rw [if_pos ck, if_neg x1, show (576 : Int) + 1 = 577 by decide, if_neg c3, if_pos v3, if_pos v4, if_pos v5, if_pos v6]
              exact z1 _ _
            rw [ec, st205u (D := D) x1 (by omega) (by rw [hA]; omega) (by rw [hA, hB]; omega) (by rw [hA, hB, hC]; omega) (by rw [hA, hB, hC]; exact hD), z2]
            exact ⟨LdFr.of (fail32 (c := 1) (d := d)).2.2 f1, Or.inr (Or.inr ⟨rfl, d, sD, c3, rfl⟩)⟩
theorem loopD {E : mO × tW} (hT : TKE E) : ∀ (n m : Nat) (k : Int) (d e : mD), Syn d e → OKR 580 d (e 770) → LSt E d → k ≤ d 577 2 → 1000 - k ≤ (n : Int) → d 578 1 - d 577 2 + 1 ≤ (m : Int) → DE d e (lp_19_4 576 n 1 k d).2 (lp_205_13 769 m 1 e) (lp_19_4 576 n 1 k d).1 := by
  intro n
  induction n with
  | zero =>
    intro m k d e hs hk hl k1 hn hm
    obtain ⟨r, er, rz, rs⟩ := r19 0
    obtain ⟨r', er', rz', rs'⟩ := r205 m
    rw [er, er']
    exact stepD hT rz rz' hs hk hl k1 (fun x => by omega)
  | succ n ih =>
    intro m k d e hs hk hl k1 hn hm
    obtain ⟨r, er, rz, rs⟩ := r19 (n + 1)
    obtain ⟨r', er', rz', rs'⟩ := r205 m
    rw [er, er']
    refine stepD hT rz rz' hs hk hl k1 (fun x y D rd u1 u2 u3 u4 u5 => ?_)
    have e8 : D 578 = d 578 := u5.1 578 (Or.inr (Or.inr (Or.inl rfl)))
    rw [rs n rfl, rs' (m - 1) (by omega)]
    exact ih (m - 1) (k + 1) D rd u1 u2 u3 (by omega) (by omega) (by rw [e8]; omega)
theorem loadD {E : mO × tW} (hT : TKE E) {d e : mD} (hs : Syn d e) (hk : OKR 580 d (e 770)) (hl : LSt E d) : DE d e (g_19 576 d) (g_205 769 e) (v_19 576 d) := by
  have ct := hs.ct.1
  have b1 := hs.2.2.1
  have b2 := hs.2.2.2.1.1
  have rt : g_205 769 e = lp_205_13 769 (1000 - e 769 10 + 1 : Int).toNat 1 e := by
    unfold g_205
    rw [if_pos hs.2.1]
  unfold v_19 g_19 f_19
  rw [rt]
  exact loopD hT _ _ 0 d e hs hk hl (by omega) (by omega) (by omega)
/-! ===== the head of a text ===== -/
theorem OKR.empty {s : Int} {d : mD} {w : Row} (h0 : w 0 = 0) (h1 : 0 ≤ w 1 ∧ w 1 ≤ 99999) (h2 : 0 ≤ w 2 ∧ w 2 ≤ 9) (h3 : 0 ≤ w 3 ∧ w 3 ≤ 3) (h4 : 1 ≤ w 4 ∧ w 4 ≤ 9) (h5 : 1 ≤ w 5 ∧ w 5 ≤ 20) (h6 : 1 ≤ w 6 ∧ w 6 ≤ 99) (h7 : w 7 = 0) (h8 : w 8 = 0) (h9 : w 9 = 0) (h10 : w 10 = 0) (h11 : w 11 = 0) (hA : RelA s d w) (z2 : d (s + 2) 0 = 0) (z10 : d (s + 10) 0 = 0) (z49 : d (s + 49) 0 = 0) (z57 : d (s + 57) 0 = 0) (z5 : d (s + 57) 5 = 0) : OKR s d w := by
  refine ⟨⟨⟨by omega, by omega, by omega, by omega, by omega, by omega, by omega, by omega, by omega, by omega, by omega, by omega⟩, fun o a b => by omega, fun o a b => by omega, fun o a b => by omega, fun o a b => by omega, fun o a b => by omega, ?_, fun k a b => by omega⟩, fun t a b => by omega, fun p a b => by omega, by omega, hA, ⟨by omega, fun o a b => by omega⟩, fun o a b => by omega, ⟨by omega, fun o a b => by omega⟩, ⟨by omega, fun o a b => by omega⟩, fun o a b => by omega, ⟨by omega, fun o a b => by omega⟩, ⟨by omega, fun o a b => by omega⟩, fun o a b => by omega, fun o a b => by omega⟩
  rw [h10, h11]
  rfl
def rEnd (L : Int) (X : mD) : mD := if X 769 13 = 0 then (if g_189 769 X 769 10 < L then g_188 769 1 (g_189 769 X 769 10) (g_189 769 X) else g_189 769 X) else X
def rBody (X : mD) : mD := g_205 769 (g_204 769 0 (g_204 769 1 X))
theorem bad204 {x : Int} {e : mD} (h : ¬ e 769 13 = 0) : g_204 769 x e = e := by
  unfold g_204
  rw [if_neg h]
  obtain ⟨r, er, -, -⟩ := r204 x (1000 - e 769 10 + 0 : Int).toNat
  rw [er]
  unfold st_204_13
  rw [if_pos rfl]
theorem bad205 {e : mD} (h : ¬ e 769 13 = 0) : g_205 769 e = e := by
  unfold g_205
  rw [if_neg h]
  obtain ⟨r, er, -, -⟩ := r205 (1000 - e 769 10 + 0 : Int).toNat
  rw [er]
  unfold st_205_13
  rw [if_pos rfl]
theorem badBody {e : mD} (h : ¬ e 769 13 = 0) : rBody e = e := by
  unfold rBody
  rw [bad204 h, bad204 h, bad205 h]
theorem badEnd {L : Int} {e : mD} (h : ¬ e 769 13 = 0) : rEnd L e = e := by
  unfold rEnd
  rw [if_neg h]
def rLast (e : mD) : mD := g_195 769 (mset (g_197 769 0 99999 e) 770 1 (v_197 769 0 99999 e))
theorem st206l {r : Int → mD → mD} {x : Int} {e : mD} (hx : ¬ x < 5) : st_206_53 769 r x e = rEnd (e 769 9) (rBody (rLast e)) := by
  unfold st_206_53 rEnd rBody rLast
  rw [if_neg hx, show (769 : Int) + 1 = 770 by decide]
theorem badHead : ∀ (n : Nat) (x : Int) (e : mD), ¬ e 769 13 = 0 → ∀ b, ¬ b = 770 → lp_206_53 769 n x e b = e b := by
  have last : ∀ (r : Int → mD → mD) (x : Int) (e : mD), ¬ x < 5 → ¬ e 769 13 = 0 → ∀ b, ¬ b = 770 → st_206_53 769 r x e b = e b := fun r x e hx h b hb => by
    have h1 : ∀ v, ¬ mset e 770 1 v 769 13 = 0 := fun v => by rw [ms_a (by decide)]; exact h
    rw [st206l hx]
    unfold rLast
    rw [bad197 h, bad195 (h1 _), badBody (h1 _), badEnd (h1 _)]
    funext j
    exact ms_a hb
  intro n
  induction n with
  | zero =>
    intro x e h b hb
    show st_206_53 769 _ x e b = e b
    by_cases c : x < 5
    · unfold st_206_53
      rw [if_pos c, bad197 h]
      funext j
      exact ms_a hb
    · exact last _ x e c h b hb
  | succ n ih =>
    intro x e h b hb
    show st_206_53 769 _ x e b = e b
    by_cases c : x < 5
    · unfold st_206_53
      rw [if_pos c, bad197 h, ih _ _ (by rw [ms_a (by decide)]; exact h) b hb]
      funext j
      exact ms_a hb
    · exact last _ x e c h b hb
theorem old0 {x : Int} {e : mD} (h : 0 ≤ x ∧ x < 5) : v_291 x e = olds 0 x := by
  have : x = 0 ∨ x = 1 ∨ x = 2 ∨ x = 3 ∨ x = 4 := by omega
  rcases this with h | h | h | h | h <;> subst h <;> rfl
theorem old1 {x : Int} {e : mD} (h : 0 ≤ x ∧ x < 5) : v_292 x e = olds 1 x := by
  have : x = 0 ∨ x = 1 ∨ x = 2 ∨ x = 3 ∨ x = 4 := by omega
  rcases this with h | h | h | h | h <;> subst h <;> rfl
def HD (x : Int) (d e : mD) : Prop := (∀ j, 0 ≤ j → j < x → d 581 j = e 770 (2 + j) ∧ olds 0 j ≤ e 770 (2 + j) ∧ e 770 (2 + j) ≤ olds 1 j) ∧ (∀ j, j = 0 ∨ (7 ≤ j ∧ j < 3116) → e 770 j = 0) ∧ d 580 2 = 0 ∧ d 582 0 = 0 ∧ d 590 0 = 0 ∧ d 629 0 = 0 ∧ d 637 0 = 0 ∧ d 637 5 = 0
theorem loopN : ∀ (n : Nat) (x : Int) (d e : mD), Syn d e → 0 ≤ x → x ≤ 5 → 5 - x ≤ (n : Int) → HD x d e → ((lp_14_13 576 n x d).1 = 1 ∧ ∃ X, LdFr d (lp_14_13 576 n x d).2 e X ∧ lp_206_53 769 n x e = rEnd (e 769 9) (rBody X) ∧ LO (lp_14_13 576 n x d).2 X 0) ∨ ((lp_14_13 576 n x d).1 = 0 ∧ LdFr d (lp_14_13 576 n x d).2 e (lp_206_53 769 n x e) ∧ Fail (lp_14_13 576 n x d).2 (lp_206_53 769 n x e)) := by
  have f8 : ∀ (d : mD) (a i v : Int), (a = 580 ∨ a = 581) → ∀ b, (b < 580 ∨ 581 < b) → mset d a i v b = d b := fun d a i v ha b hb => by
    funext j
    exact ms_a (by omega)
  have last : ∀ (r : Int → mD → Int × mD) (r' : Int → mD → mD) (x : Int) (d e : mD), Syn d e → x = 5 → HD x d e → ((st_14_13 576 r x d).1 = 1 ∧ ∃ X, LdFr d (st_14_13 576 r x d).2 e X ∧ st_206_53 769 r' x e = rEnd (e 769 9) (rBody X) ∧ LO (st_14_13 576 r x d).2 X 0) ∨ ((st_14_13 576 r x d).1 = 0 ∧ LdFr d (st_14_13 576 r x d).2 e (st_206_53 769 r' x e) ∧ Fail (st_14_13 576 r x d).2 (st_206_53 769 r' x e)) := fun r r' x d e hs hx ⟨h1, h2, h3, h4, h5, h6, h7, h8⟩ => by
    rw [st206l (by omega)]
    have ec : st_14_13 576 r x d = if v_25 576 0 99999 d = 0 then (0, g_25 576 0 99999 d) else (v_31 576 (mset (g_25 576 0 99999 d) 580 1 (g_25 576 0 99999 d 576 4)), g_31 576 (mset (g_25 576 0 99999 d) 580 1 (g_25 576 0 99999 d 576 4))) := by
      unfold st_14_13
      rw [if_neg (by omega), e580]
    rw [ec]
    obtain ⟨a1, a2, a3⟩ := takeNum (lo := 0) (hi := 99999) hs
    have fm : ∀ u : mD, ∀ b, ¬ b = 770 → mset u 770 1 (v_197 769 0 99999 e) b = u b := fun u b hb => by
      funext j
      exact ms_a hb
    rcases a3 with ⟨q1, q2, q3, q4, q5⟩ | ⟨q1, q2, q3⟩
    · rw [if_neg (by omega)]
      unfold rLast
      rw [q3]
      generalize hv : v_197 769 0 99999 e = v at *
      generalize g_197 769 0 99999 e = E1 at *
      generalize g_25 576 0 99999 d = D1 at *
      have fd : ∀ b, (b < 580 ∨ 581 < b) → mset D1 580 1 v b = D1 b := f8 D1 580 1 v (Or.inl rfl)
      have s2 : Syn (mset D1 580 1 v) (mset E1 770 1 v) := (q2.c (fd 577 (by decide)) (fd 578 (by decide)) (fd 579 (by decide))).r (fm _ 769 (by decide)) (fm _ 776 (by decide))
      obtain ⟨-, -, t1, t2, t3, -⟩ := takeSemi s2
      have fr : LdFr d (g_31 576 (mset D1 580 1 v)) e (g_195 769 (mset E1 770 1 v)) := ⟨fun b hb => by rw [t1 b (by omega) (by omega), fd b (by omega), a1 b (by omega) (by omega)], fun k y z => by rw [t2.1 k y, fm _ k z, a2.1 k y], fun j hj => by rw [t2.2 j hj, fm _ 769 (by decide), a2.2 j hj]⟩
      rcases t3 with ⟨t4, t5⟩ | ⟨t4, t5⟩
      · refine Or.inl ⟨t4, _, fr, rfl, t5, ?_⟩
        have wX : ∀ j, ¬ j = 1 → g_195 769 (mset E1 770 1 v) 770 j = e 770 j := fun j hj => by rw [t2.1 770 (by decide), ms_i hj, a2.1 770 (by decide)]
        have wX1 : g_195 769 (mset E1 770 1 v) 770 1 = v := by rw [t2.1 770 (by decide), ms_e rfl rfl]
        have dX : ∀ b, 581 < b → g_31 576 (mset D1 580 1 v) b = d b := fun b hb => by rw [t1 b (by omega) (by omega), fd b (by omega), a1 b (by omega) (by omega)]
        have d81 : g_31 576 (mset D1 580 1 v) 581 = d 581 := by
          rw [t1 581 (by decide) (by decide), ← a1 581 (by decide) (by decide)]
          funext j
          exact ms_a (by decide)
        have d802 : g_31 576 (mset D1 580 1 v) 580 2 = 0 := by rw [t1 580 (by decide) (by decide), ms_i (by decide), a1 580 (by decide) (by decide)]; exact h3
        have d801 : g_31 576 (mset D1 580 1 v) 580 1 = v := by rw [t1 580 (by decide) (by decide), ms_e rfl rfl]
        have wj : ∀ j, 0 ≤ j → j < 5 → olds 0 j ≤ g_195 769 (mset E1 770 1 v) 770 (2 + j) ∧ g_195 769 (mset E1 770 1 v) 770 (2 + j) ≤ olds 1 j := fun j u1 u2 => by
          rw [wX _ (by omega)]
          exact (h1 j u1 (by omega)).2
        have z : ∀ j, j = 0 ∨ (7 ≤ j ∧ j < 3116) → g_195 769 (mset E1 770 1 v) 770 j = 0 := fun j hj => by
          rw [wX _ (by omega)]
          exact h2 j hj
        show OKR 580 (g_31 576 (mset D1 580 1 v)) (g_195 769 (mset E1 770 1 v) 770) ∧ GZ (g_195 769 (mset E1 770 1 v) 770) ∧ g_195 769 (mset E1 770 1 v) 770 9 = 0 ∧ g_195 769 (mset E1 770 1 v) 770 10 = 0 ∧ g_195 769 (mset E1 770 1 v) 770 7 = 0 ∧ g_195 769 (mset E1 770 1 v) 770 8 = 0
        refine ⟨OKR.empty (z 0 (by decide)) (by rw [wX1]; omega) (wj 0 (by decide) (by decide)) (wj 1 (by decide) (by decide)) (wj 2 (by decide) (by decide)) (wj 3 (by decide) (by decide)) (wj 4 (by decide) (by decide)) (z 7 (by decide)) (z 8 (by decide)) (z 9 (by decide)) (z 10 (by decide)) (z 11 (by decide)) ⟨by rw [d801, wX1], by rw [d802, z 0 (by decide)], fun k u1 u2 => ?_⟩ ?_ ?_ ?_ ?_ ?_, fun o u1 u2 => by
          have := z 7 (by decide)
          exact ⟨z _ (by omega), z _ (by omega)⟩, z 9 (by decide), z 10 (by decide), z 7 (by decide), z 8 (by decide)⟩
        · rw [show (580 : Int) + 1 = 581 by decide, d81, wX _ (by omega)]
          exact (h1 k u1 (by omega)).1
        · rw [show (580 : Int) + 2 = 582 by decide, dX 582 (by decide)]; exact h4
        · rw [show (580 : Int) + 10 = 590 by decide, dX 590 (by decide)]; exact h5
        · rw [show (580 : Int) + 49 = 629 by decide, dX 629 (by decide)]; exact h6
        · rw [show (580 : Int) + 57 = 637 by decide, dX 637 (by decide)]; exact h7
        · rw [show (580 : Int) + 57 = 637 by decide, dX 637 (by decide)]; exact h8
      · rw [badBody t5.ne, badEnd t5.ne]
        exact Or.inr ⟨t4, fr, t5⟩
    · rw [if_pos q1]
      have n1 : ¬ mset (g_197 769 0 99999 e) 770 1 (v_197 769 0 99999 e) 769 13 = 0 := by rw [fm _ 769 (by decide)]; exact q2.ne
      unfold rLast
      rw [bad195 n1, badBody n1, badEnd n1]
      refine Or.inr ⟨rfl, ⟨fun b hb => a1 b (by omega) (by omega), fun k y z => by rw [fm _ k z, a2.1 k y], fun j hj => by rw [fm _ 769 (by decide), a2.2 j hj]⟩, ?_⟩
      obtain ⟨c, p, k1, k2, k3⟩ := q2
      refine ⟨c, p, k1, k2, ?_⟩
      unfold BadR
      rw [fm _ 769 (by decide)]
      exact k3
  intro n
  induction n with
  | zero =>
    intro x d e hs h0 h1 hn hh
    exact last _ _ x d e hs (by omega) hh
  | succ n ih =>
    intro x d e hs h0 h1 hn hh
    by_cases c : x < 5
    · have ec : lp_14_13 576 (n + 1) x d = if v_25 576 (olds 0 x) (olds 1 x) d = 0 then (0, g_25 576 (olds 0 x) (olds 1 x) d) else lp_14_13 576 n (x + 1) (mset (g_25 576 (olds 0 x) (olds 1 x) d) 581 x (g_25 576 (olds 0 x) (olds 1 x) d 576 4)) := by
        show st_14_13 576 _ x d = _
        unfold st_14_13
        rw [if_pos c, show (576 : Int) + 4 + 1 = 581 by decide]
      have er : lp_206_53 769 (n + 1) x e = lp_206_53 769 n (x + 1) (mset (g_197 769 (olds 0 x) (olds 1 x) e) 770 (2 + x) (v_197 769 (olds 0 x) (olds 1 x) e)) := by
        show st_206_53 769 _ x e = _
        unfold st_206_53
        rw [if_pos c, show (769 : Int) + 1 = 770 by decide, old0 ⟨h0, c⟩, old1 ⟨h0, c⟩]
      rw [ec, er]
      obtain ⟨a1, a2, a3⟩ := takeNum (lo := olds 0 x) (hi := olds 1 x) hs
      have fm : ∀ u : mD, ∀ b, ¬ b = 770 → mset u 770 (2 + x) (v_197 769 (olds 0 x) (olds 1 x) e) b = u b := fun u b hb => by
        funext j
        exact ms_a hb
      rcases a3 with ⟨q1, q2, q3, q4, q5⟩ | ⟨q1, q2, q3⟩
      · rw [if_neg (by omega), q3]
        generalize hv : v_197 769 (olds 0 x) (olds 1 x) e = v at *
        generalize g_197 769 (olds 0 x) (olds 1 x) e = E1 at *
        generalize g_25 576 (olds 0 x) (olds 1 x) d = D1 at *
        have fd : ∀ b, (b < 580 ∨ 581 < b) → mset D1 581 x v b = D1 b := f8 D1 581 x v (Or.inr rfl)
        have s2 : Syn (mset D1 581 x v) (mset E1 770 (2 + x) v) := (q2.c (fd 577 (by decide)) (fd 578 (by decide)) (fd 579 (by decide))).r (fm _ 769 (by decide)) (fm _ 776 (by decide))
        have fr : LdFr d (mset D1 581 x v) e (mset E1 770 (2 + x) v) := ⟨fun b hb => by rw [fd b (by omega), a1 b (by omega) (by omega)], fun k y z => by rw [fm _ k z, a2.1 k y], fun j hj => by rw [fm _ 769 (by decide), a2.2 j hj]⟩
        obtain ⟨g1, g2, g3, g4, g5, g6, g7, g8⟩ := hh
        have dX : ∀ b, 581 < b → mset D1 581 x v b = d b := fun b hb => by rw [fd b (by omega), a1 b (by omega) (by omega)]
        have hd : HD (x + 1) (mset D1 581 x v) (mset E1 770 (2 + x) v) := by
          refine ⟨fun j u1 u2 => ?_, fun j hj => ?_, ?_, by rw [dX 582 (by decide)]; exact g4, by rw [dX 590 (by decide)]; exact g5, by rw [dX 629 (by decide)]; exact g6, by rw [dX 637 (by decide)]; exact g7, by rw [dX 637 (by decide)]; exact g8⟩
          · by_cases y : j = x
            · subst y
              rw [ms_e rfl rfl, ms_e rfl rfl]
              exact ⟨rfl, q4, q5⟩
            · rw [ms_i y, ms_i (by omega), a1 581 (by decide) (by decide), a2.1 770 (by decide)]
              exact g1 j u1 (by omega)
          · rw [ms_i (by omega), a2.1 770 (by decide)]
            exact g2 j hj
          · rw [ms_a (by decide), a1 580 (by decide) (by decide)]
            exact g3
        have e9 : mset E1 770 (2 + x) v 769 9 = e 769 9 := fr.2.2 9 (by decide)
        rcases ih (x + 1) (mset D1 581 x v) (mset E1 770 (2 + x) v) s2 (by omega) (by omega) (by omega) hd with ⟨k1, X, k2, k3, k4⟩ | ⟨k1, k2, k3⟩
        · rw [e9] at k3
          exact Or.inl ⟨k1, X, fr.trans k2, k3, k4⟩
        · exact Or.inr ⟨k1, fr.trans k2, k3⟩
      · rw [if_pos q1]
        have n1 : ¬ mset (g_197 769 (olds 0 x) (olds 1 x) e) 770 (2 + x) (v_197 769 (olds 0 x) (olds 1 x) e) 769 13 = 0 := by rw [fm _ 769 (by decide)]; exact q2.ne
        have bh := badHead n (x + 1) _ n1
        refine Or.inr ⟨rfl, ⟨fun b hb => a1 b (by omega) (by omega), fun k y z => by rw [bh k z, fm _ k z, a2.1 k y], fun j hj => by rw [bh 769 (by decide), fm _ 769 (by decide), a2.2 j hj]⟩, ?_⟩
        obtain ⟨c, p, k1, k2, k3⟩ := q2
        refine ⟨c, p, k1, k2, ?_⟩
        unfold BadR
        rw [bh 769 (by decide), fm _ 769 (by decide)]
        exact k3
    · exact last _ _ x d e hs (by omega) hh
/-! ===== a text is read: class and reference ===== -/
theorem zrow : ∀ (n : Nat) (x : Int) (e : mD), 0 ≤ x → x ≤ 3116 → 3116 - x ≤ (n : Int) → ∃ e1, lp_206_12 769 n x e = (if v_194 769 40216062 e1 = 0 then lp_206_53 769 5 0 (g_188 769 1 (g_194 769 40216062 e1 769 10) (g_194 769 40216062 e1)) else lp_206_53 769 5 0 (g_194 769 40216062 e1)) ∧ (∀ b, ¬ b = 770 → e1 b = e b) ∧ (∀ j, x ≤ j → j < 3116 → e1 770 j = 0) ∧ ∀ j, j < x → e1 770 j = e 770 j := by
  intro n
  induction n with
  | zero =>
    intro x e h0 h1 hn
    refine ⟨e, ?_, fun _ _ => rfl, fun j a b => by omega, fun _ _ => rfl⟩
    show st_206_12 769 _ x e = _
    unfold st_206_12
    rw [if_neg (by omega)]
    rfl
  | succ n ih =>
    intro x e h0 h1 hn
    by_cases c : x < 3116
    · obtain ⟨e1, q1, q2, q3, q4⟩ := ih (x + 1) (mset e 770 x 0) (by omega) (by omega) (by omega)
      refine ⟨e1, ?_, fun b hb => ?_, fun j a b => ?_, fun j a => ?_⟩
      · rw [← q1]
        show st_206_12 769 _ x e = _
        unfold st_206_12
        rw [if_pos c, show (769 : Int) + 1 = 770 by decide]
      · rw [q2 b hb]
        funext j
        exact ms_a hb
      · by_cases z : j = x
        · rw [q4 j (by omega), ms_e rfl z]
        · exact q3 j (by omega) b
      · rw [q4 j (by omega), ms_i (by omega)]
    · refine ⟨e, ?_, fun _ _ => rfl, fun j a b => by omega, fun _ _ => rfl⟩
      show st_206_12 769 _ x e = _
      unfold st_206_12
      rw [if_neg c]
      rfl
theorem at194 {c : Int} {e : mD} (h : v_194 769 c e = 0) : g_194 769 c e 769 10 = g_189 769 e 769 10 := by
  unfold v_194 at h
  unfold g_194
  by_cases c1 : g_189 769 e 769 13 = 0
  · rw [if_pos c1] at h ⊢
    by_cases c2 : mcmp (v_193 769 8 (g_189 769 e)) c = 0
    · rw [if_pos c2] at h
      omega
    · rw [if_neg c2]
      exact ms_e rfl rfl
  · rw [if_neg c1]
    exact ms_e rfl rfl
theorem loadHead {d e : mD} (ht : TextR d e) : (v_14 576 (g_13 576 d) = 1 ∧ ∃ X, LdFr d (g_14 576 (g_13 576 d)) e X ∧ g_206 769 e = rEnd (e 769 9) (rBody X) ∧ LO (g_14 576 (g_13 576 d)) X 0) ∨ (v_14 576 (g_13 576 d) = 0 ∧ LdFr d (g_14 576 (g_13 576 d)) e (g_206 769 e) ∧ Fail (g_14 576 (g_13 576 d)) (g_206 769 e)) := by
  obtain ⟨t1, t2, t3⟩ := ht
  obtain ⟨e1, p1, p2, p3, -⟩ := zrow 3116 0 (mset (mset e 769 10 0) 769 13 0) (by decide) (by decide) (by decide)
  have er : g_206 769 e = if v_194 769 40216062 e1 = 0 then lp_206_53 769 5 0 (g_188 769 1 (g_194 769 40216062 e1 769 10) (g_194 769 40216062 e1)) else lp_206_53 769 5 0 (g_194 769 40216062 e1) := by
    rw [← p1]
    rfl
  have q9 : e1 769 = mset (mset e 769 10 0) 769 13 0 769 := p2 769 (by decide)
  have q10 : e1 769 10 = 0 := by rw [q9, ms_i (by decide), ms_e rfl rfl]
  have q13 : e1 769 13 = 0 := by rw [q9, ms_e rfl rfl]
  have qj : ∀ j, j < 10 ∨ 16 < j → e1 769 j = e 769 j := fun j hj => by rw [q9, ms_i (by omega), ms_i (by omega)]
  have qk : ∀ k, ¬ k = 769 → ¬ k = 770 → e1 k = e k := fun k a b => by
    rw [p2 k b]
    funext j
    rw [ms_a a, ms_a a]
  generalize hD : mset (g_58 580 (mset (mset d 576 2 0) 576 3 (-1))) 577 3 0 = D
  have eg : g_13 576 d = g_52 577 D := by
    rw [← hD]
    rfl
  have D3 : D 577 3 = 0 := by rw [← hD]; exact ms_e rfl rfl
  have Df : ∀ b, (b < 576 ∨ 642 < b ∨ b = 578 ∨ b = 579) → D b = d b := fun b hb => by
    rw [← hD]
    unfold g_58
    funext j
    simp (disch := omega) only [ms_a]
  have D0 : D 580 2 = 0 ∧ D 582 0 = 0 ∧ D 590 0 = 0 ∧ D 629 0 = 0 ∧ D 637 0 = 0 ∧ D 637 5 = 0 := by
    rw [← hD]
    unfold g_58
    refine ⟨?_, ?_, ?_, ?_, ?_, ?_⟩ <;> simp (disch := omega) only [ms_a, ms_i, ms_e]
  clear hD
  have D8 : D 578 = d 578 := Df 578 (by decide)
  have D9 : D 579 = d 579 := Df 579 (by decide)
  obtain ⟨a1, a2, a3⟩ := adv (L := d 578 1) (d := D) (by rw [D8]) t1.2 (by omega) (by omega)
  rw [← eg] at a1 a2 a3
  rw [D3, D9] at a2
  rw [D9] at a3
  generalize g_13 576 d = d1 at *
  have d8 : d1 578 = d 578 := by rw [a1 578 (by decide), D8]
  have d9 : d1 579 = d 579 := by rw [a1 579 (by decide), D9]
  have hs : Syn d1 e1 := by
    refine ⟨?_, q13, ?_, ?_, ?_⟩
    · rw [d8, d9]
      refine ⟨t1, by rw [qj 9 (by decide)]; exact t2, fun i x y => ?_⟩
      rw [qk 776 (by decide) (by decide)]
      exact t3 i x y
    · rw [q10, d8]
      omega
    · rw [d8, d9, q10]
      exact a2
    · rw [d8, d9]
      exact a3
  have hd : HD 0 d1 e1 := ⟨fun j a b => by omega, fun j hj => p3 j (by omega) (by omega), by rw [a1 580 (by decide)]; exact D0.1, by rw [a1 582 (by decide)]; exact D0.2.1, by rw [a1 590 (by decide)]; exact D0.2.2.1, by rw [a1 629 (by decide)]; exact D0.2.2.2.1, by rw [a1 637 (by decide)]; exact D0.2.2.2.2.1, by rw [a1 637 (by decide)]; exact D0.2.2.2.2.2⟩
  have f0 : LdFr d d1 e e1 := ⟨fun b hb => by
    by_cases z : b = 577
    · omega
    · rw [a1 b z, Df b hb], qk, qj⟩
  have ec : ∀ v g, v_24 576 0 d1 = v → g_24 576 0 d1 = g → f_14 576 d1 = if v = 0 then (0, g) else lp_14_13 576 5 0 g := fun v g hv hg => by
    unfold f_14
    rw [hv, hg]
    rfl
  obtain ⟨i1, i2⟩ := isWord (w := 0) (code := 40216062) hs word0
  rw [er]
  unfold v_14 g_14
  rcases i2 with ⟨w1, w2, w3, w4⟩ | ⟨w1, w2, w3⟩
  · rw [ec 1 (g_52 577 d1) (by unfold v_24; rw [show (576 : Int) + 1 = 577 by decide, if_neg (by omega)]) (by unfold g_24; rw [show (576 : Int) + 1 = 577 by decide, if_neg (by omega)]), if_neg (by decide), if_neg (by omega)]
    generalize g_194 769 40216062 e1 = H at *
    have f1 : LdFr d (g_52 577 d1) e H := f0.trans (LdFr.of w4 i1)
    have hd2 : HD 0 (g_52 577 d1) H := by
      obtain ⟨h1, h2, h3, h4, h5, h6, h7, h8⟩ := hd
      exact ⟨fun j a b => by omega, fun j hj => by rw [i1.1 770 (by decide)]; exact h2 j hj, by rw [w4 580 (by decide) (by decide)]; exact h3, by rw [w4 582 (by decide) (by decide)]; exact h4, by rw [w4 590 (by decide) (by decide)]; exact h5, by rw [w4 629 (by decide) (by decide)]; exact h6, by rw [w4 637 (by decide) (by decide)]; exact h7, by rw [w4 637 (by decide) (by decide)]; exact h8⟩
    have e9 : H 769 9 = e 769 9 := f1.2.2 9 (by decide)
    rcases loopN 5 0 (g_52 577 d1) H w3 (by decide) (by decide) (by decide) hd2 with ⟨k1, X, k2, k3, k4⟩ | ⟨k1, k2, k3⟩
    · rw [e9] at k3
      exact Or.inl ⟨k1, X, f1.trans k2, k3, k4⟩
    · exact Or.inr ⟨k1, f1.trans k2, k3⟩
  · rw [ec 0 (g_32 576 1 d1) (by unfold v_24; rw [show (576 : Int) + 1 = 577 by decide, if_pos w1]; rfl) (by unfold g_24; rw [show (576 : Int) + 1 = 577 by decide, if_pos w1]), if_pos rfl, if_pos w2, at194 w2, hs.bl.2.2]
    obtain ⟨b1, b2⟩ := flt188 (c := 1) (p := d1 577 2) w3.2.1
    obtain ⟨c1, c2, c3⟩ := fail32 (c := 1) (d := d1)
    have bh := badHead 5 0 _ b1.ne
    have i1 := i1.trans b2
    generalize g_188 769 1 (d1 577 2) (g_194 769 40216062 e1) = H at *
    refine Or.inr ⟨rfl, f0.trans ⟨fun b hb => c3 b (by omega) (by omega), fun k y z => by rw [bh k z, i1.1 k y], fun j hj => by rw [bh 769 (by decide), i1.2 j hj]⟩, 1, d1 577 2, c1, c2, ?_⟩
    unfold BadR
    rw [bh 769 (by decide)]
    exact b1
theorem LdFr.end {d d' e e' : mD} {L : Int} (h : LdFr d d' e e') (hs : Syn d' e') (h3 : d' 577 1 = 3) (hL : L = d' 578 1) : LdFr d d' e (rEnd L e') ∧ rEnd L e' 769 13 = 0 ∧ rEnd L e' 770 = e' 770 := by
  obtain ⟨s1, s2, s3⟩ := hs.bl
  have tk := hs.2.2.2.2
  have hl := hs.2.2.2.1.2.1
  have hT : d' 577 2 = d' 578 1 := by
    rcases tk with ⟨a1, a2, a3⟩ | ⟨a1, a2, a3, a4⟩ | ⟨a1, a2, a3, a4⟩ | ⟨a1, a2, a3, a4⟩ | ⟨a1, a2, a3, a4, a5, a6⟩
    · exact a1
    · omega
    · omega
    · omega
    · omega
  have er : rEnd L e' = g_189 769 e' := by
    unfold rEnd
    rw [if_pos hs.2.1, s3, if_neg (by omega)]
  rw [er]
  exact ⟨h.trans (LdFr.of FrC.refl s2), s1.2.1, s2.1 770 (by decide)⟩
theorem endFail {D e' : mD} {L : Int} (hs : Syn D e') (h3 : ¬ D 577 1 = 3) (hL : L = D 578 1) : FrR e' (rEnd L e') ∧ Fail (g_32 576 1 D) (rEnd L e') := by
  obtain ⟨s1, s2, s3⟩ := hs.bl
  have tk := hs.2.2.2.2
  have hT : D 577 2 < D 578 1 := by
    rcases tk with ⟨a1, a2, a3⟩ | ⟨a1, a2, a3, a4⟩ | ⟨a1, a2, a3, a4⟩ | ⟨a1, a2, a3, a4⟩ | ⟨a1, a2, a3, a4, a5, a6⟩
    · exact absurd a2 h3
    · exact a1
    · exact a1
    · exact a1
    · exact a1
  have er : rEnd L e' = g_188 769 1 (D 577 2) (g_189 769 e') := by
    unfold rEnd
    rw [if_pos hs.2.1, s3, if_pos (by omega)]
  obtain ⟨b1, b2⟩ := flt188 (c := 1) (p := D 577 2) s1.2.1
  obtain ⟨c1, c2, c3⟩ := fail32 (c := 1) (d := D)
  rw [er]
  exact ⟨s2.trans b2, 1, D 577 2, c1, c2, b1⟩
/-! ===== the reference's error stays where nothing was found wrong ===== -/
def EF (e X : mD) : Prop := X 769 13 = 0 → e 769 13 = 0 ∧ X 769 11 = e 769 11 ∧ X 769 12 = e 769 12
theorem EF.refl {e : mD} : EF e e := fun h => ⟨h, rfl, rfl⟩
theorem EF.trans {a b c : mD} (h : EF a b) (g : EF b c) : EF a c := fun z => by
  obtain ⟨q1, q2, q3⟩ := g z
  obtain ⟨q4, q5, q6⟩ := h q1
  exact ⟨q4, q2.trans q5, q3.trans q6⟩
theorem efI {P : Prop} [Decidable P] {e a b : mD} (h : EF e a) (g : EF e b) : EF e (if P then a else b) := by
  by_cases c : P
  · rw [if_pos c]; exact h
  · rw [if_neg c]; exact g
theorem efM {e X : mD} {b j v : Int} (hb : ¬ b = 769) (h : EF e X) : EF e (mset X b j v) := h.trans (fun z => by
  have f : ∀ i, mset X b j v 769 i = X 769 i := fun i => ms_a (fun y => hb y.symm)
  rw [f] at z
  exact ⟨z, f 11, f 12⟩)
theorem efJ {e X : mD} {j v : Int} (hj : ¬ j = 11 ∧ ¬ j = 12 ∧ ¬ j = 13) (h : EF e X) : EF e (mset X 769 j v) := h.trans (fun z => by
  rw [ms_i (by omega)] at z
  exact ⟨z, ms_i (by omega), ms_i (by omega)⟩)
theorem efR {e X : mD} {W : Row} (h : EF e X) : EF e (rset X W) := h.trans (fun z => by
  rw [rset_ne (by decide)] at z ⊢
  exact ⟨z, rfl, rfl⟩)
-- the same of a pair's second
def EP (e : mD) (r : Int × mD) : Prop := EF e r.2
theorem epI {P : Prop} [Decidable P] {e : mD} {a b : Int × mD} (h : EP e a) (g : EP e b) : EP e (if P then a else b) := by
  by_cases c : P
  · rw [if_pos c]; exact h
  · rw [if_neg c]; exact g
theorem epM {e X : mD} {v : Int} (h : EF e X) : EP e (v, X) := h
theorem ef188 {e X : mD} {c p : Int} (h : EF e X) : EF e (g_188 769 c p X) := h.trans (by
  unfold g_188
  refine efI (fun z => ?_) EF.refl
  rw [ms_i (by decide), ms_i (by decide), ms_e rfl rfl] at z
  exact absurd z (by decide))
theorem ef189l {e : mD} : ∀ (n : Nat) (X : mD), EF e X → EF e (lp_189_0 769 n X) := by
  have st : ∀ (r : mD → mD) (X : mD), (∀ Y, EF e Y → EF e (r Y)) → EF e X → EF e (st_189_0 769 r X) := fun r X hr h => by
    unfold st_189_0
    repeat' with_reducible first | exact h | apply efI | apply hr | apply efJ (by decide)
  intro n
  induction n with
  | zero => exact fun X h => st _ X (fun _ z => z) h
  | succ n ih => exact fun X h => st _ X ih h
theorem ef189 {e X : mD} (h : EF e X) : EF e (g_189 769 X) := ef189l _ _ h
theorem ef192 {e X : mD} {c : Int} (h : EF e X) : EF e (g_192 769 c X) := ef189 h
theorem ef193l {e : mD} {c : Int} : ∀ (n : Nat) (x y : Int) (X : mD), EF e X → EP e (lp_193_17 769 c n x y X) := by
  have st : ∀ (r : Int → Int → mD → Int × mD) (x y : Int) (X : mD), (∀ x y Y, EF e Y → EP e (r x y Y)) → EF e X → EP e (st_193_17 769 c r x y X) := fun r x y X hr h => by
    unfold st_193_17
    repeat' with_reducible first | exact h | apply epI | apply hr | apply epM | apply efJ (by decide)
  intro n
  induction n with
  | zero => exact fun x y X h => st _ x y X (fun _ _ _ z => z) h
  | succ n ih => exact fun x y X h => st _ x y X ih h
theorem ef193 {e X : mD} {c : Int} (h : EF e X) : EF e (g_193 769 c X) := ef193l _ _ _ _ (efJ (by decide) (ef189 h))
theorem ef194 {e X : mD} {c : Int} (h : EF e X) : EF e (g_194 769 c X) := by
  unfold g_194
  repeat' with_reducible first | exact h | apply efI | apply efJ (by decide) | apply ef193 | apply ef189
theorem ef195 {e X : mD} (h : EF e X) : EF e (g_195 769 X) := by
  unfold g_195
  repeat' with_reducible first | exact h | apply efI | apply efJ (by decide) | apply ef188 | apply ef192
theorem ef196 {e X : mD} {c : Int} (h : EF e X) : EF e (g_196 769 c X) := by
  unfold g_196
  repeat' with_reducible first | exact h | apply efI | apply ef195 | apply ef188 | apply ef192
theorem ef197l {e : mD} {c p : Int} : ∀ (n : Nat) (x : Int) (X : mD), EF e X → EP e (lp_197_28 769 c p n x X) := by
  have st : ∀ (r : Int → mD → Int × mD) (x : Int) (X : mD), (∀ x Y, EF e Y → EP e (r x Y)) → EF e X → EP e (st_197_28 769 c p r x X) := fun r x X hr h => by
    unfold st_197_28
    repeat' with_reducible first | exact h | apply epI | apply hr | apply epM | apply efJ (by decide) | apply ef188
  intro n
  induction n with
  | zero => exact fun x X h => st _ x X (fun _ _ z => z) h
  | succ n ih => exact fun x X h => st _ x X ih h
theorem ef197 {e X : mD} {c p : Int} (h : EF e X) : EF e (g_197 769 c p X) := by
  unfold g_197
  refine epI (e := e) (ef197l _ _ _ (efJ (by decide) (efJ (by decide) (ef189 h)))) (epM h)
theorem ef198 {e X : mD} (h : EF e X) : EF e (g_198 769 X) := by
  unfold g_198
  repeat' with_reducible first | exact h | apply efI | apply ef188 | apply ef193
theorem ef199 {e X : mD} {c : Int} (h : EF e X) : EF e (g_199 769 c X) := by
  unfold g_199
  repeat' with_reducible first | exact h | apply efI | apply ef188 | apply ef198
theorem ef200 {e X : mD} (h : EF e X) : EF e (g_200 769 X) := by
  unfold g_200
  repeat' with_reducible first | exact h | apply efI | apply ef188 | apply ef198
theorem ef181 {e X : mD} {a b c d : Int} (h : EF e X) : EF e (g_181 769 a b c d X) := by
  unfold g_181
  repeat' with_reducible first | exact h | apply efM (by decide)
theorem ef182 {e X : mD} {a : Int} (h : EF e X) : EF e (g_182 769 a X) := by
  unfold g_182
  repeat' with_reducible first | exact h | apply efM (by decide)
theorem ef202 {e X : mD} (h : EF e X) : EF e (g_202 769 X) := by
  unfold g_202
  repeat' with_reducible first | exact h | apply efI | apply ef181 | apply ef195 | apply ef197 | apply ef188 | apply ef198
theorem ef203 {e X : mD} (h : EF e X) : EF e (g_203 769 X) := by
  unfold g_203
  repeat' with_reducible first | exact h | apply efI | apply ef182 | apply ef195 | apply ef188 | apply ef198
theorem ef204l {e : mD} {c : Int} : ∀ (n : Nat) (x : Int) (X : mD), EF e X → EF e (lp_204_13 769 c n x X) := by
  have st : ∀ (r : Int → mD → mD) (x : Int) (X : mD), (∀ x Y, EF e Y → EF e (r x Y)) → EF e X → EF e (st_204_13 769 c r x X) := fun r x X hr h => by
    unfold st_204_13
    repeat' with_reducible first | exact h | apply efI | apply hr | apply ef203 | apply ef202 | apply ef188 | apply ef194 | apply ef189
  intro n
  induction n with
  | zero => exact fun x X h => st _ x X (fun _ _ z => z) h
  | succ n ih => exact fun x X h => st _ x X ih h
theorem ef204 {e X : mD} {c : Int} (h : EF e X) : EF e (g_204 769 c X) := by
  unfold g_204
  exact efI (ef204l _ _ _ h) (ef204l _ _ _ h)
theorem ef223 {e X : mD} (h : EF e X) : EF e (g_223 769 X) := by
  rw [m_g_223]
  exact efR h
theorem ef226 {e X : mD} {a b : Int} (h : EF e X) : EF e (g_226 769 a b X) := by
  rw [m_g_226]
  exact efR h
theorem ef228 {e X : mD} {a : Int} (h : EF e X) : EF e (g_228 769 a X) := by
  rw [m_g_228]
  exact efR h
theorem ef235 {e X : mD} {a b : Int} (h : EF e X) : EF e (g_235 769 a b X) := by
  rw [m_g_235]
  exact efR h
theorem ef205h {e : mD} {q : Int → mD → mD} (hq : ∀ x Y, EF e Y → EF e (q x Y)) : ∀ (n : Nat) (x y z : Int) (X : mD), EF e X → EF e (lp_205_123 769 q n x y z X) := by
  have st : ∀ (r : Int → Int → Int → mD → mD) (x y z : Int) (X : mD), (∀ x y z Y, EF e Y → EF e (r x y z Y)) → EF e X → EF e (st_205_123 769 q r x y z X) := fun r x y z X hr h => by
    unfold st_205_123
    repeat' with_reducible first | exact h | apply efI | apply hr | apply hq | apply ef223
  intro n
  induction n with
  | zero => exact fun x y z X h => st _ x y z X (fun _ _ _ _ z => z) h
  | succ n ih => exact fun x y z X h => st _ x y z X ih h
set_option maxRecDepth 4000 in
theorem ef205l {e : mD} : ∀ (n : Nat) (x : Int) (X : mD), EF e X → EF e (lp_205_13 769 n x X) := by
  have st : ∀ (r : Int → mD → mD) (x : Int) (X : mD), (∀ x Y, EF e Y → EF e (r x Y)) → EF e X → EF e (st_205_13 769 r x X) := fun r x X hr h => by
    unfold st_205_13
    repeat' with_reducible first | exact h | apply efI | apply hr | apply ef205h hr | apply ef196 | apply ef199 | apply ef200 | apply ef197 | apply ef226 | apply ef228 | apply ef235 | apply ef194
  intro n
  induction n with
  | zero => exact fun x X h => st _ x X (fun _ _ z => z) h
  | succ n ih => exact fun x X h => st _ x X ih h
theorem ef205 {e X : mD} (h : EF e X) : EF e (g_205 769 X) := by
  unfold g_205
  exact efI (ef205l _ _ _ h) (ef205l _ _ _ h)
theorem ef206l {e : mD} : ∀ (n : Nat) (x : Int) (X : mD), EF e X → EF e (lp_206_53 769 n x X) := by
  have st : ∀ (r : Int → mD → mD) (x : Int) (X : mD), (∀ x Y, EF e Y → EF e (r x Y)) → EF e X → EF e (st_206_53 769 r x X) := fun r x X hr h => by
    unfold st_206_53
    repeat' with_reducible first | exact h | apply efI | apply hr | apply ef188 | apply ef189 | apply ef205 | apply ef204 | apply ef195 | apply efM (by decide) | apply ef197
  intro n
  induction n with
  | zero => exact fun x X h => st _ x X (fun _ _ z => z) h
  | succ n ih => exact fun x X h => st _ x X ih h
theorem ef206z {e : mD} : ∀ (n : Nat) (x : Int) (X : mD), EF e X → EF e (lp_206_12 769 n x X) := by
  have st : ∀ (r : Int → mD → mD) (x : Int) (X : mD), (∀ x Y, EF e Y → EF e (r x Y)) → EF e X → EF e (st_206_12 769 r x X) := fun r x X hr h => by
    unfold st_206_12
    repeat' with_reducible first | exact h | apply efI | apply hr | apply ef206l | apply ef188 | apply efM (by decide) | apply ef194
  intro n
  induction n with
  | zero => exact fun x X h => st _ x X (fun _ _ z => z) h
  | succ n ih => exact fun x X h => st _ x X ih h
theorem err206 {e : mD} (h : g_206 769 e 769 13 = 0) : g_206 769 e 769 11 = e 769 11 ∧ g_206 769 e 769 12 = e 769 12 := by
  obtain ⟨-, q1, q2⟩ := ef206z (e := mset (mset e 769 10 0) 769 13 0) (3116 - 0 : Int).toNat 0 _ EF.refl h
  refine ⟨Eq.trans q1 ?_, Eq.trans q2 ?_⟩
  · rw [ms_i (by decide), ms_i (by decide)]
  · rw [ms_i (by decide), ms_i (by decide)]
/-! ===== the class's error stays where nothing was found wrong ===== -/
def K2 (d X : mD) : Prop := X 576 2 = d 576 2 ∧ X 576 3 = d 576 3
theorem K2.refl {d : mD} : K2 d d := ⟨rfl, rfl⟩
theorem K2.trans {a b c : mD} (h : K2 a b) (g : K2 b c) : K2 a c := ⟨g.1.trans h.1, g.2.trans h.2⟩
theorem kI {P : Prop} [Decidable P] {e a b : mD} (h : K2 e a) (g : K2 e b) : K2 e (if P then a else b) := by
  by_cases c : P
  · rw [if_pos c]; exact h
  · rw [if_neg c]; exact g
theorem kM {e X : mD} {b j v : Int} (hb : ¬ b = 576) (h : K2 e X) : K2 e (mset X b j v) := h.trans ⟨ms_a (fun y => hb y.symm), ms_a (fun y => hb y.symm)⟩
theorem kJ {e X : mD} {j v : Int} (hj : ¬ j = 2 ∧ ¬ j = 3) (h : K2 e X) : K2 e (mset X 576 j v) := h.trans ⟨ms_i (by omega), ms_i (by omega)⟩
theorem kF {e X Y : mD} (f : Y 576 = X 576) (h : K2 e X) : K2 e Y := h.trans ⟨by rw [f], by rw [f]⟩
-- how many persons are read: never below none
def P9 (X : mD) : Prop := 0 ≤ X 590 0
theorem y9I {P : Prop} [Decidable P] {a b : mD} (h : P9 a) (g : P9 b) : P9 (if P then a else b) := by
  by_cases c : P
  · rw [if_pos c]; exact h
  · rw [if_neg c]; exact g
theorem y9M {X : mD} {b j v : Int} (hb : ¬ b = 590) (h : P9 X) : P9 (mset X b j v) := by
  unfold P9
  rw [ms_a (fun y => hb y.symm)]
  exact h
theorem k53l {e : mD} : ∀ (n : Nat) (X : mD), K2 e X → K2 e (lp_53_0 577 n X) := by
  have st : ∀ (r : mD → mD) (X : mD), (∀ Y, K2 e Y → K2 e (r Y)) → K2 e X → K2 e (st_53_0 577 r X) := fun r X hr h => by
    unfold st_53_0
    repeat' with_reducible first | exact h | apply kI | apply hr | apply kM (by decide)
  intro n
  induction n with
  | zero => exact fun X h => st _ X (fun _ z => z) h
  | succ n ih => exact fun X h => st _ X ih h
theorem k53 {e X : mD} (h : K2 e X) : K2 e (g_53 577 X) := k53l _ _ h
theorem k54l {e : mD} : ∀ (n : Nat) (X : mD), K2 e X → K2 e (lp_54_5 577 n X) := by
  have st : ∀ (r : mD → mD) (X : mD), (∀ Y, K2 e Y → K2 e (r Y)) → K2 e X → K2 e (st_54_5 577 r X) := fun r X hr h => by
    unfold st_54_5
    repeat' with_reducible first | exact h | apply kI | apply hr | apply kM (by decide)
  intro n
  induction n with
  | zero => exact fun X h => st _ X (fun _ z => z) h
  | succ n ih => exact fun X h => st _ X ih h
theorem k54 {e X : mD} (h : K2 e X) : K2 e (g_54 577 X) := k54l _ _ (kM (by decide) h)
theorem k52l {e : mD} : ∀ (n : Nat) (X : mD), K2 e X → K2 e (lp_52_8 577 n X) := by
  have st : ∀ (r : mD → mD) (X : mD), (∀ Y, K2 e Y → K2 e (r Y)) → K2 e X → K2 e (st_52_8 577 r X) := fun r X hr h => by
    unfold st_52_8
    repeat' with_reducible first | exact h | apply kI | apply hr | apply k54 | apply k53 | apply kM (by decide)
  intro n
  induction n with
  | zero => exact fun X h => st _ X (fun _ z => z) h
  | succ n ih => exact fun X h => st _ X ih h
theorem k52 {e X : mD} (h : K2 e X) : K2 e (g_52 577 X) := k52l _ _ (kM (by decide) h)
theorem y953l : ∀ (n : Nat) (X : mD), P9 X → P9 (lp_53_0 577 n X) := by
  have st : ∀ (r : mD → mD) (X : mD), (∀ Y, P9 Y → P9 (r Y)) → P9 X → P9 (st_53_0 577 r X) := fun r X hr h => by
    unfold st_53_0
    repeat' with_reducible first | exact h | apply y9I | apply hr | apply y9M (by decide)
  intro n
  induction n with
  | zero => exact fun X h => st _ X (fun _ z => z) h
  | succ n ih => exact fun X h => st _ X ih h
theorem y953 {X : mD} (h : P9 X) : P9 (g_53 577 X) := y953l _ _ h
theorem y954l : ∀ (n : Nat) (X : mD), P9 X → P9 (lp_54_5 577 n X) := by
  have st : ∀ (r : mD → mD) (X : mD), (∀ Y, P9 Y → P9 (r Y)) → P9 X → P9 (st_54_5 577 r X) := fun r X hr h => by
    unfold st_54_5
    repeat' with_reducible first | exact h | apply y9I | apply hr | apply y9M (by decide)
  intro n
  induction n with
  | zero => exact fun X h => st _ X (fun _ z => z) h
  | succ n ih => exact fun X h => st _ X ih h
theorem y954 {X : mD} (h : P9 X) : P9 (g_54 577 X) := y954l _ _ (y9M (by decide) h)
theorem y952l : ∀ (n : Nat) (X : mD), P9 X → P9 (lp_52_8 577 n X) := by
  have st : ∀ (r : mD → mD) (X : mD), (∀ Y, P9 Y → P9 (r Y)) → P9 X → P9 (st_52_8 577 r X) := fun r X hr h => by
    unfold st_52_8
    repeat' with_reducible first | exact h | apply y9I | apply hr | apply y954 | apply y953 | apply y9M (by decide)
  intro n
  induction n with
  | zero => exact fun X h => st _ X (fun _ z => z) h
  | succ n ih => exact fun X h => st _ X ih h
theorem y952 {X : mD} (h : P9 X) : P9 (g_52 577 X) := y952l _ _ (y9M (by decide) h)
-- a step that may fail
def EG (d : mD) (v : Int) (X : mD) : Prop := ¬ v = 0 → K2 d X
theorem eI {P : Prop} [Decidable P] {d a b : mD} {v w : Int} (h : P → EG d v a) (g : ¬ P → EG d w b) : EG d (if P then v else w) (if P then a else b) := by
  by_cases c : P
  · rw [if_pos c, if_pos c]; exact h c
  · rw [if_neg c, if_neg c]; exact g c
theorem e0 {d X : mD} : EG d 0 X := fun h => absurd rfl h
theorem e1 {d X : mD} {v : Int} (h : K2 d X) : EG d v X := fun _ => h
theorem e32 {d X Y : mD} {c : Int} : EG d (v_32 576 c Y) X := fun h => absurd rfl h
theorem y932 {X : mD} {c : Int} (h : P9 X) : P9 (g_32 576 c X) := by
  unfold g_32
  exact y9M (by decide) (y9M (by decide) h)
theorem e577 : (576 : Int) + 1 = 577 := by decide
theorem e25 {d X : mD} {lo hi : Int} (h : K2 d X) : EG d (v_25 576 lo hi X) (g_25 576 lo hi X) := by
  unfold v_25 g_25
  rw [e577]
  repeat' with_reducible first | exact e32 | refine eI (fun _ => ?_) (fun _ => ?_) | exact h | apply e1 | apply k52 | apply kJ (by decide)
theorem e26 {d X : mD} (h : K2 d X) : EG d (v_26 576 X) (g_26 576 X) := by
  unfold v_26 g_26
  rw [e577]
  repeat' with_reducible first | exact e32 | refine eI (fun _ => ?_) (fun _ => ?_) | exact h | apply e1 | apply k52 | apply kJ (by decide)
theorem e27 {d X : mD} (h : K2 d X) : EG d (v_27 576 X) (g_27 576 X) := by
  unfold v_27 g_27
  repeat' with_reducible first | exact e32 | refine eI (fun _ => ?_) (fun _ => ?_) | exact h | apply e26 | apply kJ (by decide)
theorem e28 {d X : mD} (h : K2 d X) : EG d (v_28 576 X) (g_28 576 X) := by
  unfold v_28 g_28
  repeat' with_reducible first | exact e32 | refine eI (fun _ => ?_) (fun _ => ?_) | exact h | apply e26 | apply kJ (by decide)
theorem e29 {d X : mD} (h : K2 d X) : EG d (v_29 576 X) (g_29 576 X) := by
  unfold v_29 g_29
  repeat' with_reducible first | exact e32 | refine eI (fun _ => ?_) (fun _ => ?_) | exact h | apply e26 | apply kJ (by decide)
theorem e30 {d X : mD} (h : K2 d X) : EG d (v_30 576 X) (g_30 576 X) := by
  unfold v_30 g_30
  refine eI (fun _ => e1 h) (fun _ => ?_)
  rw [if_pos (show v_32 576 1 X = 0 from rfl)]
  exact e0
theorem e31 {d X : mD} (h : K2 d X) : EG d (v_31 576 X) (g_31 576 X) := by
  unfold v_31 g_31
  rw [e577]
  exact eI (fun _ => e0) (fun c => e1 (k52 (e30 h c)))
theorem e24 {d X : mD} {c : Int} (h : K2 d X) : EG d (v_24 576 c X) (g_24 576 c X) := by
  unfold v_24 g_24
  rw [e577]
  exact eI (fun _ => e32) (fun c => e1 (k52 h))
theorem y926 {X : mD} (h : P9 X) : P9 (g_26 576 X) := by
  unfold g_26
  rw [e577]
  repeat' with_reducible first | exact h | apply y9I | apply y952 | apply y932 | apply y9M (by decide)
theorem y930 {X : mD} (h : P9 X) : P9 (g_30 576 X) := by
  unfold g_30
  exact y9I h (y932 h)
theorem y931 {X : mD} (h : P9 X) : P9 (g_31 576 X) := by
  unfold g_31
  rw [e577]
  exact y9I (y930 h) (y952 (y930 h))
theorem k35 {d X : mD} {a b c e : Int} (h : K2 d X) : K2 d (g_35 582 a b c e X) := kF (f35 576 (by decide)) h
theorem k47 {d X : mD} {a : Int} (hn : P9 X) (h : K2 d X) : K2 d (g_47 590 a X) := kF (f47 hn 576 (by decide)) h
theorem y947 {X : mD} {a : Int} (h : P9 X) : P9 (g_47 590 a X) := by
  unfold g_47
  refine y9I ?_ h
  unfold P9
  rw [ms_e rfl rfl]
  exact Int.add_nonneg h (by decide)
theorem k25 {d X : mD} {lo hi : Int} (c : ¬ v_25 576 lo hi X = 0) (h : K2 d X) : K2 d (g_25 576 lo hi X) := e25 h c
theorem k26 {d X : mD} (c : ¬ v_26 576 X = 0) (h : K2 d X) : K2 d (g_26 576 X) := e26 h c
theorem k27 {d X : mD} (c : ¬ v_27 576 X = 0) (h : K2 d X) : K2 d (g_27 576 X) := e27 h c
theorem k28 {d X : mD} (c : ¬ v_28 576 X = 0) (h : K2 d X) : K2 d (g_28 576 X) := e28 h c
theorem k29 {d X : mD} (c : ¬ v_29 576 X = 0) (h : K2 d X) : K2 d (g_29 576 X) := e29 h c
theorem k30 {d X : mD} (c : ¬ v_30 576 X = 0) (h : K2 d X) : K2 d (g_30 576 X) := e30 h c
theorem k31 {d X : mD} (c : ¬ v_31 576 X = 0) (h : K2 d X) : K2 d (g_31 576 X) := e31 h c
theorem e16 {d X : mD} (h : K2 d X) : EG d (v_16 576 X) (g_16 576 X) := by
  unfold v_16 g_16
  rw [e577, show (576 : Int) + 4 + 2 = 582 by decide]
  repeat' with_reducible first | exact e32 | exact e0 | refine eI (fun _ => ?_) (fun _ => ?_) | exact h | apply e1 | apply k35 | apply k31 (by assumption) | apply k25 (by assumption) | apply k26 (by assumption) | apply k52
theorem e18 {d X : mD} (hn : P9 X) (h : K2 d X) : EG d (v_18 576 X) (g_18 576 X) := by
  unfold v_18 g_18
  rw [e577, show (576 : Int) + 4 + 10 = 590 by decide]
  repeat' with_reducible first | exact e32 | exact e0 | refine eI (fun _ => ?_) (fun _ => ?_) | exact h | apply e1 | exact k47 (y931 (y926 (y952 hn))) (k31 (by assumption) (k26 (by assumption) (k52 h)))
theorem y918 {X : mD} (h : P9 X) : P9 (g_18 576 X) := by
  unfold g_18
  rw [e577, show (576 : Int) + 4 + 10 = 590 by decide]
  repeat' with_reducible first | exact h | apply y9I | apply y947 | apply y931 | apply y926 | apply y952 | apply y932
def EQ2 (d : mD) (r : Int × mD) : Prop := EG d r.1 r.2
theorem qI {P : Prop} [Decidable P] {e : mD} {a b : Int × mD} (h : P → EQ2 e a) (g : ¬ P → EQ2 e b) : EQ2 e (if P then a else b) := by
  by_cases c : P
  · rw [if_pos c]; exact h c
  · rw [if_neg c]; exact g c
theorem qP {e X : mD} {v : Int} (h : EG e v X) : EQ2 e (v, X) := h
theorem e14l {d : mD} : ∀ (n : Nat) (x : Int) (X : mD), K2 d X → EQ2 d (lp_14_13 576 n x X) := by
  have st : ∀ (r : Int → mD → Int × mD) (x : Int) (X : mD), (∀ x Y, K2 d Y → EQ2 d (r x Y)) → K2 d X → EQ2 d (st_14_13 576 r x X) := fun r x X hr h => by
    unfold st_14_13
    rw [show (576 : Int) + 4 = 580 by decide, show (580 : Int) + 1 = 581 by decide]
    repeat' with_reducible first | refine qI (fun _ => ?_) (fun _ => ?_) | apply hr | apply qP | exact e0 | apply e31 | exact h | apply kM (by decide) | apply k25 (by assumption)
  intro n
  induction n with
  | zero => exact fun x X h => st _ x X (fun _ _ _ => e0) h
  | succ n ih => exact fun x X h => st _ x X ih h
theorem e14 {d X : mD} (h : K2 d X) : EG d (v_14 576 X) (g_14 576 X) := by
  show EQ2 d (f_14 576 X)
  unfold f_14
  exact qI (fun _ => e0) (fun c => e14l _ _ _ (e24 h c))
theorem e15l {d : mD} : ∀ (n : Nat) (x : Int) (X : mD), K2 d X → EQ2 d (lp_15_20 576 n x X) := by
  have st : ∀ (r : Int → mD → Int × mD) (x : Int) (X : mD), (∀ x Y, K2 d Y → EQ2 d (r x Y)) → K2 d X → EQ2 d (st_15_20 576 r x X) := fun r x X hr h => by
    unfold st_15_20
    exact qI (fun _ => e1 h) (fun _ => qI (fun _ => e1 h) (fun _ => qI (fun _ => e0) (fun c => hr _ _ (e16 h c))))
  intro n
  induction n with
  | zero => exact fun x X h => st _ x X (fun _ _ _ => e0) h
  | succ n ih => exact fun x X h => st _ x X ih h
theorem e15 {d X : mD} (h : K2 d X) : EG d (v_15 576 X) (g_15 576 X) := by
  show EQ2 d (f_15 576 X)
  unfold f_15
  exact qI (fun _ => fun y => absurd rfl y) (fun c => e15l _ _ _ h)
theorem e17l {d : mD} : ∀ (n : Nat) (x : Int) (X : mD), P9 X → K2 d X → EQ2 d (lp_17_2 576 n x X) := by
  have st : ∀ (r : Int → mD → Int × mD) (x : Int) (X : mD), (∀ x Y, P9 Y → K2 d Y → EQ2 d (r x Y)) → P9 X → K2 d X → EQ2 d (st_17_2 576 r x X) := fun r x X hr hn h => by
    unfold st_17_2
    exact qI (fun _ => e1 h) (fun _ => qI (fun _ => e1 h) (fun _ => qI (fun _ => e0) (fun c => hr _ _ (y918 hn) (e18 hn h c))))
  intro n
  induction n with
  | zero => exact fun x X hn h => st _ x X (fun _ _ _ _ => e0) hn h
  | succ n ih => exact fun x X hn h => st _ x X ih hn h
theorem e17 {d X : mD} (hn : P9 X) (h : K2 d X) : EG d (v_17 576 X) (g_17 576 X) := e17l _ _ _ hn h
theorem e20 {d X : mD} (h : K2 d X) : EG d (v_20 576 X) (g_20 576 X) := by
  unfold v_20 g_20
  rw [e577, show (576 : Int) + 4 = 580 by decide]
  refine eI (fun _ => e0) (fun c1 => eI (fun _ => e0) (fun c2 => eI (fun _ => e0) (fun c3 => eI (fun _ => e32) (fun _ => e31 (kF (f61 576 (by decide)) (k30 c3 (k28 c2 (k27 c1 (k52 h)))))))))
theorem e21 {E : mO × tW} {d X : mD} (hT : TKE E) (hl : LSt E X) (h : K2 d X) : EG d (v_21 576 X) (g_21 576 X) := by
  unfold v_21 g_21
  rw [e577, show (576 : Int) + 4 = 580 by decide]
  refine eI (fun _ => e0) (fun c1 => eI (fun _ => e0) (fun c2 => eI (fun _ => e32) (fun _ => e31 ?_)))
  rw [pg30e c2]
  exact kF (hl.F68 hT (v25_1 c1) 576 (by decide)) (k25 c1 (k52 h))
theorem e22 {E : mO × tW} {d X : mD} (hT : TKE E) (hl : LSt E X) (h : K2 d X) : EG d (v_22 576 X) (g_22 576 X) := by
  unfold v_22 g_22
  rw [e577, show (576 : Int) + 4 = 580 by decide]
  refine eI (fun _ => e0) (fun c1 => eI (fun _ => e0) (fun c2 => eI (fun _ => e32) (fun _ => e31 ?_)))
  rw [pg30e c2]
  exact kF (hl.F74 hT (v29_1 c1) 576 (by decide)) (k29 c1 (k52 h))
theorem e23 {E : mO × tW} {d X : mD} (hT : TKE E) (hl : LSt E X) (h : K2 d X) : EG d (v_23 576 X) (g_23 576 X) := by
  unfold v_23 g_23
  rw [e577, show (576 : Int) + 4 = 580 by decide]
  refine eI (fun _ => e0) (fun c0 => eI (fun _ => e0) (fun c1 => eI (fun _ => e0) (fun c2 => eI (fun c3 => e31 ?_) (fun _ => e32))))
  rw [pg30e c2]
  rw [pg30e c2] at c3
  exact kF (hl.F75 hT (v27_1 c0) (v29_1 c1) c3 576 (by decide)) (k29 c1 (k27 c0 (k52 h)))
theorem e19l {E : mO × tW} {d : mD} (hT : TKE E) : ∀ (n : Nat) (x k : Int) (X : mD), (¬ x = 0 → LSt E X ∧ K2 d X) → EQ2 d (lp_19_4 576 n x k X) := by
  have st : ∀ (r : Int → Int → mD → Int × mD) (x k : Int) (X : mD), (∀ x k Y, (¬ x = 0 → LSt E Y ∧ K2 d Y) → EQ2 d (r x k Y)) → (¬ x = 0 → LSt E X ∧ K2 d X) → EQ2 d (st_19_4 576 r x k X) := fun r x k X hr h => by
    unfold st_19_4
    have hh : EQ2 d (x, X) := fun c => (h c).2
    refine qI (fun _ => qI (fun _ => hh) (fun c => qI (fun _ => hh) (fun _ => qI (fun _ => qI (fun _ => qI (fun _ => qI (fun _ => ?_) (fun _ => ?_)) (fun _ => ?_)) (fun _ => ?_)) (fun _ => ?_)))) (fun _ => hh)
    · exact hr _ _ _ (fun y => absurd rfl y)
    · exact hr _ _ _ (fun y => ⟨(h c).1.g23 hT, e23 hT (h c).1 (h c).2 y⟩)
    · exact hr _ _ _ (fun y => ⟨(h c).1.g22 hT, e22 hT (h c).1 (h c).2 y⟩)
    · exact hr _ _ _ (fun y => ⟨(h c).1.g21 hT, e21 hT (h c).1 (h c).2 y⟩)
    · exact hr _ _ _ (fun y => ⟨(h c).1.g20 hT, e20 (h c).2 y⟩)
  intro n
  induction n with
  | zero => exact fun x k X h => st _ x k X (fun _ _ _ _ => e0) h
  | succ n ih => exact fun x k X h => st _ x k X ih h
theorem e19 {E : mO × tW} {d X : mD} (hT : TKE E) (hl : LSt E X) (h : K2 d X) : EG d (v_19 576 X) (g_19 576 X) := e19l hT _ _ _ _ (fun _ => ⟨hl, h⟩)
theorem errAll {E : mO × tW} {d : mD} (hT : TKE E) (h15 : Safe (g_15 576 (g_14 576 (g_13 576 d)))) (hl : LSt E (g_17 576 (g_15 576 (g_14 576 (g_13 576 d))))) (n1 : ¬ v_14 576 (g_13 576 d) = 0) (n2 : ¬ v_15 576 (g_14 576 (g_13 576 d)) = 0) (n3 : ¬ v_17 576 (g_15 576 (g_14 576 (g_13 576 d))) = 0) (n4 : ¬ v_19 576 (g_17 576 (g_15 576 (g_14 576 (g_13 576 d)))) = 0) : g_19 576 (g_17 576 (g_15 576 (g_14 576 (g_13 576 d)))) 576 2 = 0 ∧ g_19 576 (g_17 576 (g_15 576 (g_14 576 (g_13 576 d)))) 576 3 = -1 := by
  have k0 : K2 (mset (mset d 576 2 0) 576 3 (-1)) (g_13 576 d) := by
    unfold g_13 g_51 g_58
    rw [e577, show (576 : Int) + 4 = 580 by decide]
    repeat' with_reducible first | exact K2.refl | apply k52 | apply kM (by decide)
  have k := k0.trans (e19 hT hl (e17 (r_4_f0 (x := 590) h15 (show stB 580 from st580)).1 (e15 (e14 K2.refl n1) n2) n3) n4)
  exact ⟨k.1.trans (by rw [ms_i (by decide), ms_e rfl rfl]), k.2.trans (ms_e rfl rfl)⟩
def ER (d : mD) : Prop := d 576 2 = d 769 11 ∧ d 576 3 = d 769 12
/-! ===== load: the class against the reference ===== -/
theorem loadAll {E : mO × tW} (hE : EOK E) (hT : TKE E) {d e : mD} {y : Int} (ht : TextR d e) (hS : Safe d) (hh : tSh E.2 d) : ∃ D', LdFr d D' e (g_206 769 e) ∧ ((v_303 0 y d = 0 ∧ g_206 769 e 769 13 = 0 ∧ OKR 580 D' (g_206 769 e 770) ∧ (D' 576 2 = 0 ∧ D' 576 3 = -1) ∧ g_303 0 y d = mset (lp_120_95 0 2 1 0 (g_4 64 (g_59 1 580 (mset D' 578 1 0)))).2 y 0 (lp_120_95 0 2 1 0 (g_4 64 (g_59 1 580 (mset D' 578 1 0)))).1) ∨ (v_303 0 y d = 1 ∧ Fail D' (g_206 769 e) ∧ g_303 0 y d = mset D' 578 1 0)) := by
  obtain ⟨p1, p2, p3, p4⟩ := p_13 (E := E) (x0 := 576) hS rfl ⟨hT.2.1, trivial⟩ hh
  obtain ⟨q1, q2, q3, q4, q5⟩ := p_14 (E := E) (x0 := 576) hE hT.1 p4 rfl (by rw [p3]; decide) ⟨hT.2.1, trivial⟩ p1
  obtain ⟨r1, r2, r3, r4, r5⟩ := p_15 (E := E) (x0 := 576) hT.1 q5 rfl q4 ⟨hT.2.1, trivial⟩ q1
  obtain ⟨s1, s2, s3, s4, s5⟩ := p_17 (E := E) (x0 := 576) hT.1 r5 rfl r4 ⟨hT.2.1, trivial⟩ r1
  rw [e580] at s4
  have hl : LSt E (g_17 576 (g_15 576 (g_14 576 (g_13 576 d)))) := ⟨s5, s1, s4⟩
  have er := errAll hT r5 hl
  clear p1 p2 p3 p4 q1 q2 q3 q4 q5 r1 r2 r3 r4 r5 s1 s2 s3 s4 s5
  have t2 := ht.2.1
  have ev : v_303 0 y d = if v_14 576 (g_13 576 d) = 0 then 1 else if v_15 576 (g_14 576 (g_13 576 d)) = 0 then 1 else if v_17 576 (g_15 576 (g_14 576 (g_13 576 d))) = 0 then 1 else if v_19 576 (g_17 576 (g_15 576 (g_14 576 (g_13 576 d)))) = 0 then 1 else 0 := by
    unfold v_303
    rw [show (0 : Int) + 576 = 576 by decide]
  have eg : g_303 0 y d = if v_14 576 (g_13 576 d) = 0 then mset (g_14 576 (g_13 576 d)) 578 1 0 else if v_15 576 (g_14 576 (g_13 576 d)) = 0 then mset (g_15 576 (g_14 576 (g_13 576 d))) 578 1 0 else if v_17 576 (g_15 576 (g_14 576 (g_13 576 d))) = 0 then mset (g_17 576 (g_15 576 (g_14 576 (g_13 576 d)))) 578 1 0 else if v_19 576 (g_17 576 (g_15 576 (g_14 576 (g_13 576 d)))) = 0 then mset (g_19 576 (g_17 576 (g_15 576 (g_14 576 (g_13 576 d))))) 578 1 0 else mset (lp_120_95 0 2 1 0 (g_4 64 (g_59 1 580 (mset (g_19 576 (g_17 576 (g_15 576 (g_14 576 (g_13 576 d))))) 578 1 0)))).2 y 0 (lp_120_95 0 2 1 0 (g_4 64 (g_59 1 580 (mset (g_19 576 (g_17 576 (g_15 576 (g_14 576 (g_13 576 d))))) 578 1 0)))).1 := by
    unfold g_303
    rw [show (0 : Int) + 576 = 576 by decide, show (0 : Int) + 578 = 578 by decide, show (0 : Int) + 64 = 64 by decide, show (0 : Int) + 1 = 1 by decide, show (0 : Int) + 580 = 580 by decide]
    rfl
  rw [ev, eg]
  rcases loadHead ht with ⟨v1, X, f1, r1, lo⟩ | ⟨v1, f1, x1⟩
  · have n1 : ¬ v_14 576 (g_13 576 d) = 0 := by omega
    rw [if_neg n1, if_neg n1, r1]
    unfold rBody
    generalize g_14 576 (g_13 576 d) = D1 at *
    obtain ⟨f2, o2⟩ := loadO lo
    have f2 := f1.trans f2
    rcases o2 with ⟨v2, sy2, k2, h8⟩ | ⟨v2, x2⟩
    · have n2 : ¬ v_15 576 D1 = 0 := by omega
      rw [if_neg n2, if_neg n2]
      generalize g_15 576 D1 = D2 at *
      generalize g_204 769 1 X = X2 at *
      obtain ⟨f3, o3⟩ := loadP sy2 k2 h8
      have f3 := f2.trans f3
      rcases o3 with ⟨v3, sy3, k3⟩ | ⟨v3, x3⟩
      · have n3 : ¬ v_17 576 D2 = 0 := by omega
        rw [if_neg n3, if_neg n3]
        generalize g_17 576 D2 = D3 at *
        generalize g_204 769 0 X2 = X3 at *
        obtain ⟨f4, o4⟩ := loadD hT sy3 k3 hl
        have f4 := f3.trans f4
        generalize v_19 576 D3 = c at *
        generalize g_19 576 D3 = D4 at *
        generalize g_205 769 X3 = X4 at *
        have e8 : ∀ D, LdFr d D e X4 → e 769 9 = D 578 1 := fun D h => by
          rw [h.1 578 (by decide)]
          exact t2
        rcases o4 with ⟨w1, w2, w3, w4⟩ | ⟨w1, w2⟩ | ⟨w1, D, w2, w3, w4⟩
        · obtain ⟨z1, z2, z3⟩ := f4.end w2 w3 (e8 D4 f4)
          have n4 : ¬ c = 0 := by omega
          rw [if_neg n4, if_neg n4]
          exact ⟨D4, z1, Or.inl ⟨rfl, z2, by rw [z3]; exact w4, er n1 n2 n3 n4, rfl⟩⟩
        · rw [if_pos w1, if_pos w1, badEnd w2.ne]
          exact ⟨D4, f4, Or.inr ⟨rfl, w2, rfl⟩⟩
        · have e9 : e 769 9 = D 578 1 := by
            rw [t2, ← f4.1 578 (by decide), w4]
            unfold g_32
            rw [ms_a (by decide), ms_a (by decide)]
          obtain ⟨z1, z2⟩ := endFail w2 w3 e9
          rw [if_pos w1, if_pos w1]
          exact ⟨D4, f4.trans (LdFr.of FrC.refl z1), Or.inr ⟨rfl, by rw [w4]; exact z2, rfl⟩⟩
      · rw [if_pos v3, if_pos v3, bad205 x3.ne, badEnd x3.ne]
        exact ⟨_, f3, Or.inr ⟨rfl, x3, rfl⟩⟩
    · rw [if_pos v2, if_pos v2, bad204 x2.ne, bad205 x2.ne, badEnd x2.ne]
      exact ⟨_, f2, Or.inr ⟨rfl, x2, rfl⟩⟩
  · rw [if_pos v1, if_pos v1]
    exact ⟨_, f1, Or.inr ⟨rfl, x1, rfl⟩⟩
theorem f207 {d : mD} : ∃ e2, (∀ b, ¬ b = 769 → ¬ b = 774 → e2 b = d b) ∧ (∀ j, ¬ j = 11 → ¬ j = 12 → e2 769 j = d 769 j) ∧ (e2 769 11 = 0 ∧ e2 769 12 = -1) ∧ (∀ i, 0 ≤ i → i < 3116 → e2 774 i = d 770 i) ∧ (∀ i, 3116 ≤ i → e2 774 i = d 774 i) ∧ f_207 769 d = (if g_206 769 e2 769 13 = 0 then (g_206 769 e2 770 8, mset (mset (mset (mset (mset (g_206 769 e2) 769 9 0) 769 0 0) 769 7 0) 775 0 0) 775 1 0) else lp_207_71 769 (3116 - 0 : Int).toNat 0 (mset (mset (g_206 769 e2) 769 9 0) 769 0 1)) := by
  obtain ⟨e2, q1, q2, q3, q4⟩ := copyLoop (α := Int × mD) (L := lp_207_12 769) (F := fun d => if g_206 769 d 769 13 = 0 then (g_206 769 d 770 8, mset (mset (mset (mset (mset (g_206 769 d) 769 9 0) 769 0 0) 769 7 0) 775 0 0) 775 1 0) else lp_207_71 769 (3116 - 0 : Int).toNat 0 (mset (mset (g_206 769 d) 769 9 0) 769 0 1)) (I := fun _ => True) (A := 774) (B := 0) (C := 770) (D := 0) (N := 3116) (by decide) (fun _ _ _ _ => trivial) (fun n x d _ hx => by
    cases n with
    | zero =>
      show st_207_12 769 _ x d = _
      unfold st_207_12
      rw [if_neg (by omega)]
      rfl
    | succ n =>
      show st_207_12 769 _ x d = _
      unfold st_207_12
      rw [if_neg (by omega)]
      rfl) (fun n x d _ hx => by
    show st_207_12 769 _ x d = _
    unfold st_207_12
    rw [if_pos hx, Int.zero_add]
    rfl) (3116 - 0 : Int).toNat 0 (mset (mset d 769 11 0) 769 12 (-1)) trivial (by decide) (by decide)
  have e9 : e2 769 = mset (mset d 769 11 0) 769 12 (-1) 769 := q2 769 (by decide)
  refine ⟨e2, fun b x y => ?_, fun j x y => ?_, ⟨?_, ?_⟩, fun i x y => ?_, fun i x => ?_, q1⟩
  · rw [q2 b y]
    funext j
    rw [ms_a x, ms_a x]
  · rw [e9, ms_i y, ms_i x]
  · rw [e9, ms_i (by decide), ms_e rfl rfl]
  · rw [e9, ms_e rfl rfl]
  · have := q3 i x y
    rw [Int.zero_add] at this
    rw [this, ms_a (by decide), ms_a (by decide)]
  · rw [q4 i (by omega), ms_a (by decide), ms_a (by decide)]
theorem back207 {d : mD} : ∃ d', lp_207_71 769 (3116 - 0 : Int).toNat 0 d = (0, d') ∧ (∀ b, ¬ b = 770 → d' b = d b) ∧ ∀ i, 0 ≤ i → i < 3116 → d' 770 i = d 774 i := by
  obtain ⟨d', q1, q2, q3, q4⟩ := copyLoop (α := Int × mD) (L := lp_207_71 769) (F := fun d => (0, d)) (I := fun _ => True) (A := 770) (B := 0) (C := 774) (D := 0) (N := 3116) (by decide) (fun _ _ _ _ => trivial) (fun n x d _ hx => by
    cases n with
    | zero =>
      show st_207_71 769 _ x d = _
      unfold st_207_71
      rw [if_neg (by omega)]
    | succ n =>
      show st_207_71 769 _ x d = _
      unfold st_207_71
      rw [if_neg (by omega)]) (fun n x d _ hx => by
    show st_207_71 769 _ x d = _
    unfold st_207_71
    rw [if_pos hx, Int.zero_add]
    rfl) (3116 - 0 : Int).toNat 0 d trivial (by decide) (by decide)
  refine ⟨d', q1, q2, fun i x y => ?_⟩
  have := q3 i x y
  rw [Int.zero_add] at this
  exact this
-- what class and reference have in common between two calls
def CI (d : mD) : Prop := OKR 1 d (d 770) ∧ HistRel d ∧ SaveRel d ∧ TextR d d
theorem lp120 {u : mD} : (lp_120_95 0 2 1 0 u).1 = u 11 0 ∧ (∀ b, ¬ b = 571 → ¬ b = 572 → (lp_120_95 0 2 1 0 u).2 b = u b) ∧ (lp_120_95 0 2 1 0 u).2 571 0 = 0 ∧ (lp_120_95 0 2 1 0 u).2 571 1 = 0 := by
  have e : lp_120_95 0 2 1 0 u = (mset (mset u 571 0 0) 571 1 0 11 0, mset (mset (mset u 571 0 0) 571 1 0) 572 1 0) := by
    show st_120_95 0 _ 1 0 u = _
    unfold st_120_95
    rw [if_pos (by decide)]
    show st_120_95 0 _ 1 1 (mset u 571 0 0) = _
    unfold st_120_95
    rw [if_pos (by decide)]
    show st_120_95 0 _ 1 2 (mset (mset u 571 0 0) 571 1 0) = _
    unfold st_120_95
    rw [if_neg (by decide)]
    rfl
  rw [e]
  dsimp only
  refine ⟨?_, fun b x y => ?_, ?_, ?_⟩
  · rw [ms_a (by decide), ms_a (by decide)]
  · funext j
    rw [ms_a y, ms_a x, ms_a x]
  · rw [ms_a (by decide), ms_i (by decide), ms_e rfl rfl]
  · rw [ms_a (by decide), ms_e rfl rfl]
theorem load303 {E : mO × tW} (hE : EOK E) (hT : TKE E) {d : mD} (hi : CI d) (hS : Safe d) (hh : tSh E.2 d) (hf : ∀ b, 642 < b → ¬ b = 778 → g_303 0 778 d b = d b) (h64 : 0 ≤ d 64 1 ∧ d 64 1 < 8) : ((v_303 0 778 d = 0 ∧ v_207 769 (g_303 0 778 d) = g_303 0 778 d 778 0 ∧ g_207 769 (g_303 0 778 d) 769 0 = 0 ∧ 0 ≤ v_207 769 (g_303 0 778 d) ∧ v_207 769 (g_303 0 778 d) ≤ 16) ∨ (v_303 0 778 d = 1 ∧ g_207 769 (g_303 0 778 d) 769 0 = 1)) ∧ CI (g_207 769 (g_303 0 778 d)) ∧ (∀ b, b < 769 → g_207 769 (g_303 0 778 d) b = g_303 0 778 d b) ∧ ER (g_207 769 (g_303 0 778 d)) := by
  obtain ⟨i1, i2, i3, i4⟩ := hi
  obtain ⟨e2, a1, a2, a3, a4, -, a5⟩ := f207 (d := g_303 0 778 d)
  have ht : TextR d e2 := i4.fr rfl rfl (by rw [a2 9 (by decide) (by decide), hf 769 (by decide) (by decide)]) (by rw [a1 776 (by decide) (by decide), hf 776 (by decide) (by decide)])
  obtain ⟨D', l1, l2⟩ := loadAll hE hT (y := 778) ht hS hh
  unfold v_207 g_207
  rw [a5]
  have er6 := err206 (e := e2)
  generalize g_206 769 e2 = R at *
  have R7 : ∀ k, 769 < k → ¬ k = 770 → ¬ k = 774 → ¬ k = 778 → R k = d k := fun k x y z u => by rw [l1.2.1 k (by omega) y, a1 k (by omega) z, hf k (by omega) u]
  have RC : ∀ k, k < 769 → R k = g_303 0 778 d k := fun k x => by rw [l1.2.1 k (by omega) (by omega), a1 k (by omega) (by omega)]
  have R9 : ∀ j, j < 10 ∨ 16 < j → R 769 j = d 769 j := fun j hj => by rw [l1.2.2 j hj, a2 j (by omega) (by omega), hf 769 (by decide) (by decide)]
  have G9 : ∀ k, 769 ≤ k → ¬ k = 778 → g_303 0 778 d k = d k := fun k x y => hf k (by omega) y
  rcases l2 with ⟨v1, v2, v3, v5, v4⟩ | ⟨v1, v2, v3⟩
  · rw [if_pos v2]
    dsimp only
    have M1 : OKR 580 (mset D' 578 1 0) (R 770) := v3.fr (fun b x y => by funext j; exact ms_a (by omega))
    have cp := M1.copy (a := 1) (s := 580) (by decide)
    generalize hU : g_4 64 (g_59 1 580 (mset D' 578 1 0)) = U at *
    have U4 : ∀ b, ¬ b = 64 → U b = g_59 1 580 (mset D' 578 1 0) b := fun b hb => by
      rw [← hU]
      unfold g_4
      funext j
      exact ms_a hb
    have okU : OKR 1 U (R 770) := cp.1.fr (fun b x y => U4 b (by omega))
    have Uf : ∀ b, (b < 1 ∨ 63 < b) → ¬ b = 64 → U b = mset D' 578 1 0 b := fun b x y => by rw [U4 b y, cp.2 b (by omega)]
    obtain ⟨c1, c2, c3, c4⟩ := lp120 (u := U)
    have u11 : U 11 0 = R 770 8 := okU.2.2.2.2.2.2.2.1.1
    generalize hP : lp_120_95 0 2 1 0 U = P at *
    have D1 : ∀ b, ¬ b = 778 → ¬ b = 571 → ¬ b = 572 → g_303 0 778 d b = U b := fun b x y z => by
      rw [v4, ← c2 b y z]
      funext j
      exact ms_a x
    have D571 : ∀ j, g_303 0 778 d 571 j = P.2 571 j := fun j => by
      rw [v4]
      exact ms_a (by decide)
    have fin : ∀ b, b < 769 → (mset (mset (mset (mset (mset R 769 9 0) 769 0 0) 769 7 0) 775 0 0) 775 1 0) b = g_303 0 778 d b := fun b hb => by
      rw [← RC b hb]
      funext j
      rw [ms_a (by omega), ms_a (by omega), ms_a (by omega), ms_a (by omega), ms_a (by omega)]
    generalize hZ : mset (mset (mset (mset (mset R 769 9 0) 769 0 0) 769 7 0) 775 0 0) 775 1 0 = Z at *
    have Z9 : ∀ j, Z 769 j = if j = 7 then 0 else if j = 0 then 0 else if j = 9 then 0 else R 769 j := fun j => by
      rw [← hZ, ms_a (by decide), ms_a (by decide)]
      by_cases h7 : j = 7
      · rw [if_pos h7, ms_e rfl h7]
      · rw [if_neg h7, ms_i h7]
        by_cases h0 : j = 0
        · rw [if_pos h0, ms_e rfl h0]
        · rw [if_neg h0, ms_i h0]
          by_cases h9 : j = 9
          · rw [if_pos h9, ms_e rfl h9]
          · rw [if_neg h9, ms_i h9]
    have Z70 : Z 770 = R 770 := by
      rw [← hZ]
      funext j
      rw [ms_a (by decide), ms_a (by decide), ms_a (by decide), ms_a (by decide), ms_a (by decide)]
    have Z75 : Z 775 0 = 0 ∧ Z 775 1 = 0 := by
      rw [← hZ]
      exact ⟨by rw [ms_i (by decide), ms_e rfl rfl], ms_e rfl rfl⟩
    have erz : ER Z := by
      have z6 : ∀ j, Z 576 j = D' 576 j := fun j => by
        rw [fin 576 (by decide), D1 576 (by decide) (by decide) (by decide), Uf 576 (by decide) (by decide)]
        exact ms_a (by decide)
      obtain ⟨q1, q2⟩ := er6 v2
      have z11 : Z 769 11 = 0 := by rw [Z9, if_neg (by decide), if_neg (by decide), if_neg (by decide), q1, a3.1]
      have z12 : Z 769 12 = -1 := by rw [Z9, if_neg (by decide), if_neg (by decide), if_neg (by decide), q2, a3.2]
      exact ⟨by rw [z6, z11]; exact v5.1, by rw [z6, z12]; exact v5.2⟩
    refine ⟨Or.inl ⟨v1, ?_, ?_, v3.1.1.2.1⟩, ⟨?_, ?_, ?_, ?_⟩, fin, erz⟩
    · show R 770 8 = _
      rw [v4, ms_e rfl rfl, c1, u11]
    · show Z 769 0 = 0
      rw [Z9]
      rfl
    · show OKR 1 Z (Z 770)
      rw [Z70]
      exact okU.fr (fun b x y => by rw [fin b (by omega), D1 b (by omega) (by omega) (by omega)])
    · have z64 : ∀ j, Z 64 j = U 64 j := fun j => by rw [fin 64 (by decide), D1 64 (by decide) (by decide) (by decide)]
      have u1 : U 64 1 = d 64 1 := by
        rw [← hU]
        unfold g_4
        rw [ms_i (by decide), cp.2 64 (by decide), ms_a (by decide), l1.1 64 (by decide)]
      have u2 : U 64 2 = 0 := by
        rw [← hU]
        unfold g_4
        exact ms_e rfl rfl
      exact noneH (by rw [z64, u1]; exact h64) (by rw [z64, u2]) (by rw [Z9]; rfl)
    · intro j hj
      have e1 : Z 571 j = 0 := by
        rw [fin 571 (by decide), D571]
        rcases hj with hj | hj
        · rw [hj]; exact c3
        · rw [hj]; exact c4
      have e2 : Z 775 j = 0 := by
        rcases hj with hj | hj
        · rw [hj]; exact Z75.1
        · rw [hj]; exact Z75.2
      exact ⟨by rw [e1, e2], fun h => absurd e2 h⟩
    · have z1 : Z 578 1 = 0 := by
        rw [fin 578 (by decide), D1 578 (by decide) (by decide) (by decide), Uf 578 (by decide) (by decide)]
        exact ms_e rfl rfl
      exact ⟨by omega, by rw [Z9, z1]; rfl, fun i x y => by omega⟩
  · rw [if_neg v2.ne]
    obtain ⟨Z, b1, b2, b3⟩ := back207 (d := mset (mset R 769 9 0) 769 0 1)
    rw [b1]
    dsimp only
    have ZF : ∀ b, ¬ b = 769 → ¬ b = 770 → Z b = R b := fun b x y => by
      rw [b2 b y]
      funext j
      rw [ms_a x, ms_a x]
    have Z9 : ∀ j, ¬ j = 0 → ¬ j = 9 → Z 769 j = R 769 j := fun j x y => by rw [b2 769 (by decide), ms_i x, ms_i y]
    have G : ∀ b, b < 769 → (b < 576 ∨ 642 < b ∨ b = 579) → g_303 0 778 d b = d b := fun b x y => by
      rw [v3, ← l1.1 b (by omega)]
      funext j
      exact ms_a (by omega)
    have G8 : g_303 0 778 d 578 1 = 0 := by
      rw [v3]
      exact ms_e rfl rfl
    have ZC : ∀ b, b < 769 → Z b = g_303 0 778 d b := fun b x => by rw [ZF b (by omega) (by omega), RC b x]
    have erz : ER Z := by
      have z6 : ∀ j, Z 576 j = D' 576 j := fun j => by
        rw [ZC 576 (by decide), v3]
        exact ms_a (by decide)
      obtain ⟨c, p, y1, y2, y3, y4, y5⟩ := v2
      exact ⟨by rw [z6, Z9 11 (by decide) (by decide), y1, y4], by rw [z6, Z9 12 (by decide) (by decide), y2, y5]⟩
    refine ⟨Or.inr ⟨v1, ?_⟩, ⟨?_, ?_, ?_, ?_⟩, ZC, erz⟩
    · show Z 769 0 = 1
      rw [b2 769 (by decide), ms_e rfl rfl]
    · show OKR 1 Z (Z 770)
      have rw' : REq (d 770) (Z 770) := fun i x y => by
        rw [b3 i x y, ms_a (by decide), ms_a (by decide), l1.2.1 774 (by decide) (by decide), a4 i x y, G9 770 (by decide) (by decide)]
      exact (i1.row rw').fr (fun b x y => by rw [ZC b (by omega), G b (by omega) (by omega)])
    · exact i2.fr (fun b x y => by rw [ZC b (by omega), G b (by omega) (by omega)]) (by rw [Z9 7 (by decide) (by decide), R9 7 (by decide)]) (fun j x y => by rw [ZF 771 (by decide) (by decide), R7 771 (by decide) (by decide) (by decide) (by decide)])
    · exact i3.fr (fun b hb => by
        rcases hb with hb | hb | hb | hb
        · rw [ZC b (by omega), G b (by omega) (by omega)]
        · rw [ZC b (by omega), G b (by omega) (by omega)]
        · rw [ZF b (by omega) (by omega), R7 b (by omega) (by omega) (by omega) (by omega)]
        · rw [ZF b (by omega) (by omega), R7 b (by omega) (by omega) (by omega) (by omega)])
    · have z1 : Z 578 1 = 0 := by rw [ZC 578 (by decide), G8]
      have z9 : Z 769 9 = 0 := by rw [b2 769 (by decide), ms_i (by decide), ms_e rfl rfl]
      exact ⟨by omega, by rw [z9, z1], fun i x y => by omega⟩
/-! ===== what the reference's queries leave alone: printed by a program of mine ===== -/
def QF (d d' : mD) : Prop := (∀ b, ¬ b = 769 → ¬ b = 777 → d' b = d b) ∧ ∀ j, ¬ j = 0 → ¬ j = 18 → d' 769 j = d 769 j
theorem QF.refl {d : mD} : QF d d := ⟨fun _ _ _ => rfl, fun _ _ _ => rfl⟩
theorem QF.trans {a b c : mD} (h : QF a b) (g : QF b c) : QF a c := ⟨fun k x y => (g.1 k x y).trans (h.1 k x y), fun k x y => (g.2 k x y).trans (h.2 k x y)⟩
theorem QF.s0 {d : mD} {v : Int} : QF d (mset d 769 0 v) := ⟨fun b x _ => by funext j; exact ms_a x, fun j x _ => ms_i x⟩
theorem QF.ite {d : mD} {c : Prop} [Decidable c] {a b : Int × mD} (h1 : QF d a.2) (h2 : QF d b.2) : QF d (if c then a else b).2 := by split <;> assumption
theorem QF.ite1 {d : mD} {c : Prop} [Decidable c] {a b : mD} (h1 : QF d a) (h2 : QF d b) : QF d (if c then a else b) := by split <;> assumption
theorem QF.s18 {d : mD} {v : Int} : QF d (mset d 769 18 v) := ⟨fun b x _ => by funext j; exact ms_a x, fun j _ x => ms_i x⟩
theorem QF.s77 {d : mD} {i v : Int} : QF d (mset d 777 i v) := ⟨fun b _ x => by funext j; exact ms_a x, fun j _ _ => ms_a (by decide)⟩
theorem ql_239_139 {x1 : Int} : ∀ (n : Nat) (a0 a1 a2 a3 a4 : Int) (d : mD), QF d (lp_239_139 769 x1  n a0 a1 a2 a3 a4 d).2 := by
  intro n
  induction n with
  | zero =>
    intro a0 a1 a2 a3 a4 d
    show QF d (st_239_139 769 x1  _ a0 a1 a2 a3 a4 d).2
    unfold st_239_139
    repeat' apply QF.ite
    all_goals first
      | exact QF.refl
      | exact QF.s0
  | succ n ih =>
    intro a0 a1 a2 a3 a4 d
    show QF d (st_239_139 769 x1  _ a0 a1 a2 a3 a4 d).2
    unfold st_239_139
    repeat' apply QF.ite
    all_goals first
      | exact ih _ _ _ _ _ _
      | exact QF.refl
      | exact QF.s0
theorem ql_239_40 {x1 : Int} : ∀ (n : Nat) (a0 a1 a2 a3 : Int) (d : mD), QF d (lp_239_40 769 x1  n a0 a1 a2 a3 d).2 := by
  intro n
  induction n with
  | zero =>
    intro a0 a1 a2 a3 d
    show QF d (st_239_40 769 x1  _ a0 a1 a2 a3 d).2
    unfold st_239_40
    repeat' split
    all_goals first
      | exact QF.refl
      | exact QF.s0
      | exact ql_239_139 _ _ _ _ _ _ _
  | succ n ih =>
    intro a0 a1 a2 a3 d
    show QF d (st_239_40 769 x1  _ a0 a1 a2 a3 d).2
    unfold st_239_40
    repeat' split
    all_goals first
      | exact ih _ _ _ _ _
      | exact QF.refl
      | exact QF.s0
      | exact ql_239_139 _ _ _ _ _ _ _
theorem q_239 {x1 : Int} {d : mD} : QF d (g_239 769 x1 d) := by
  unfold g_239 f_239
  repeat' split
  all_goals first
    | exact QF.refl
    | exact QF.s0
    | exact QF.s0.trans (ql_239_40 _ _ _ _ _ _)
theorem ql_246_140 {x1 : Int} {x2 : Int} : ∀ (n : Nat) (a0 a1 a2 a3 : Int) (d : mD), QF d (lp_246_140 769 x1 x2  n a0 a1 a2 a3 d).2 := by
  intro n
  induction n with
  | zero =>
    intro a0 a1 a2 a3 d
    show QF d (st_246_140 769 x1 x2  _ a0 a1 a2 a3 d).2
    unfold st_246_140
    repeat' apply QF.ite
    all_goals first
      | exact QF.refl
      | exact QF.s0
  | succ n ih =>
    intro a0 a1 a2 a3 d
    show QF d (st_246_140 769 x1 x2  _ a0 a1 a2 a3 d).2
    unfold st_246_140
    repeat' apply QF.ite
    all_goals first
      | exact ih _ _ _ _ _
      | exact QF.refl
      | exact QF.s0
theorem ql_246_50 {x1 : Int} {x2 : Int} : ∀ (n : Nat) (a0 a1 a2 : Int) (d : mD), QF d (lp_246_50 769 x1 x2  n a0 a1 a2 d).2 := by
  intro n
  induction n with
  | zero =>
    intro a0 a1 a2 d
    show QF d (st_246_50 769 x1 x2  _ a0 a1 a2 d).2
    unfold st_246_50
    repeat' split
    all_goals first
      | exact QF.refl
      | exact QF.s0
      | exact ql_246_140 _ _ _ _ _ _
  | succ n ih =>
    intro a0 a1 a2 d
    show QF d (st_246_50 769 x1 x2  _ a0 a1 a2 d).2
    unfold st_246_50
    repeat' split
    all_goals first
      | exact ih _ _ _ _
      | exact QF.refl
      | exact QF.s0
      | exact ql_246_140 _ _ _ _ _ _
theorem q_246 {x1 : Int} {x2 : Int} {d : mD} : QF d (g_246 769 x1 x2 d) := by
  unfold g_246 f_246
  repeat' split
  all_goals first
    | exact QF.refl
    | exact QF.s0
    | exact QF.s0.trans (ql_246_50 _ _ _ _ _)
theorem ql_247_65 {x1 : Int} {x2 : Int} : ∀ (n : Nat) (a0 a1 : Int) (d : mD), QF d (lp_247_65 769 x1 x2  n a0 a1 d).2 := by
  intro n
  induction n with
  | zero =>
    intro a0 a1 d
    show QF d (st_247_65 769 x1 x2  _ a0 a1 d).2
    unfold st_247_65
    repeat' apply QF.ite
    all_goals first
      | exact QF.refl
      | exact QF.s0
  | succ n ih =>
    intro a0 a1 d
    show QF d (st_247_65 769 x1 x2  _ a0 a1 d).2
    unfold st_247_65
    repeat' apply QF.ite
    all_goals first
      | exact ih _ _ _
      | exact QF.refl
      | exact QF.s0
theorem q_247 {x1 : Int} {x2 : Int} {d : mD} : QF d (g_247 769 x1 x2 d) := by
  unfold g_247 f_247
  repeat' split
  all_goals first
    | exact QF.refl
    | exact QF.s0
    | exact QF.s0.trans (ql_247_65 _ _ _ _)
theorem ql_248_75 {x1 : Int} {x2 : Int} : ∀ (n : Nat) (a0 a1 : Int) (d : mD), QF d (lp_248_75 769 x1 x2  n a0 a1 d).2 := by
  intro n
  induction n with
  | zero =>
    intro a0 a1 d
    show QF d (st_248_75 769 x1 x2  _ a0 a1 d).2
    unfold st_248_75
    repeat' apply QF.ite
    all_goals first
      | exact QF.refl
      | exact QF.s0
  | succ n ih =>
    intro a0 a1 d
    show QF d (st_248_75 769 x1 x2  _ a0 a1 d).2
    unfold st_248_75
    repeat' apply QF.ite
    all_goals first
      | exact ih _ _ _
      | exact QF.refl
      | exact QF.s0
theorem q_248 {x1 : Int} {x2 : Int} {d : mD} : QF d (g_248 769 x1 x2 d) := by
  unfold g_248 f_248
  repeat' split
  all_goals first
    | exact QF.refl
    | exact QF.s0
    | exact QF.s0.trans (ql_248_75 _ _ _ _)
theorem ql_253_31 {x1 : Int} {x2 : Int} : ∀ (n : Nat) (a0 a1 : Int) (d : mD), QF d (lp_253_31 769 x1 x2  n a0 a1 d).2 := by
  intro n
  induction n with
  | zero =>
    intro a0 a1 d
    show QF d (st_253_31 769 x1 x2  _ a0 a1 d).2
    unfold st_253_31
    repeat' apply QF.ite
    all_goals first
      | exact QF.refl
      | exact QF.s0
  | succ n ih =>
    intro a0 a1 d
    show QF d (st_253_31 769 x1 x2  _ a0 a1 d).2
    unfold st_253_31
    repeat' apply QF.ite
    all_goals first
      | exact ih _ _ _
      | exact QF.refl
      | exact QF.s0
theorem q_253 {x1 : Int} {x2 : Int} {d : mD} : QF d (g_253 769 x1 x2 d) := by
  unfold g_253 f_253
  repeat' split
  all_goals first
    | exact QF.refl
    | exact QF.s0
    | exact QF.s0.trans (ql_253_31 _ _ _ _)
theorem ql_258_9 : ∀ (n : Nat) (a0 a1 : Int) (d : mD), QF d (lp_258_9 769   n a0 a1 d).2 := by
  intro n
  induction n with
  | zero =>
    intro a0 a1 d
    show QF d (st_258_9 769   _ a0 a1 d).2
    unfold st_258_9
    repeat' apply QF.ite
    all_goals first
      | exact QF.refl
      | exact QF.s0
  | succ n ih =>
    intro a0 a1 d
    show QF d (st_258_9 769   _ a0 a1 d).2
    unfold st_258_9
    repeat' apply QF.ite
    all_goals first
      | exact ih _ _ _
      | exact QF.refl
      | exact QF.s0
theorem q_258 {d : mD} : QF d (g_258 769 d) := by
  unfold g_258 f_258
  repeat' split
  all_goals first
    | exact QF.refl
    | exact QF.s0
    | exact QF.s0.trans (ql_258_9 _ _ _ _)
theorem ql_259_11 : ∀ (n : Nat) (a0 a1 a2 : Int) (d : mD), QF d (lp_259_11 769   n a0 a1 a2 d).2 := by
  intro n
  induction n with
  | zero =>
    intro a0 a1 a2 d
    show QF d (st_259_11 769   _ a0 a1 a2 d).2
    unfold st_259_11
    repeat' apply QF.ite
    all_goals first
      | exact QF.refl
      | exact QF.s0
  | succ n ih =>
    intro a0 a1 a2 d
    show QF d (st_259_11 769   _ a0 a1 a2 d).2
    unfold st_259_11
    repeat' apply QF.ite
    all_goals first
      | exact ih _ _ _ _
      | exact QF.refl
      | exact QF.s0
theorem q_259 {d : mD} : QF d (g_259 769 d) := by
  unfold g_259 f_259
  repeat' split
  all_goals first
    | exact QF.refl
    | exact QF.s0
    | exact QF.s0.trans (ql_259_11 _ _ _ _ _)
theorem ql_260_9 : ∀ (n : Nat) (a0 a1 : Int) (d : mD), QF d (lp_260_9 769   n a0 a1 d).2 := by
  intro n
  induction n with
  | zero =>
    intro a0 a1 d
    show QF d (st_260_9 769   _ a0 a1 d).2
    unfold st_260_9
    repeat' apply QF.ite
    all_goals first
      | exact QF.refl
      | exact QF.s0
  | succ n ih =>
    intro a0 a1 d
    show QF d (st_260_9 769   _ a0 a1 d).2
    unfold st_260_9
    repeat' apply QF.ite
    all_goals first
      | exact ih _ _ _
      | exact QF.refl
      | exact QF.s0
theorem q_260 {d : mD} : QF d (g_260 769 d) := by
  unfold g_260 f_260
  repeat' split
  all_goals first
    | exact QF.refl
    | exact QF.s0
    | exact QF.s0.trans (ql_260_9 _ _ _ _)
theorem ql_261_11 : ∀ (n : Nat) (a0 a1 a2 : Int) (d : mD), QF d (lp_261_11 769   n a0 a1 a2 d).2 := by
  intro n
  induction n with
  | zero =>
    intro a0 a1 a2 d
    show QF d (st_261_11 769   _ a0 a1 a2 d).2
    unfold st_261_11
    repeat' apply QF.ite
    all_goals first
      | exact QF.refl
      | exact QF.s0
  | succ n ih =>
    intro a0 a1 a2 d
    show QF d (st_261_11 769   _ a0 a1 a2 d).2
    unfold st_261_11
    repeat' apply QF.ite
    all_goals first
      | exact ih _ _ _ _
      | exact QF.refl
      | exact QF.s0
theorem q_261 {d : mD} : QF d (g_261 769 d) := by
  unfold g_261 f_261
  repeat' split
  all_goals first
    | exact QF.refl
    | exact QF.s0
    | exact QF.s0.trans (ql_261_11 _ _ _ _ _)
theorem ql_262_58 {r15 : Int → Int → mD → Int × mD} (hr15 : ∀ (b0 b1 : Int) (d : mD), QF d (r15 b0 b1 d).2) : ∀ (n : Nat) (a0 a1 a2 : Int) (d : mD), QF d (lp_262_58 769  r15 n a0 a1 a2 d).2 := by
  intro n
  induction n with
  | zero =>
    intro a0 a1 a2 d
    show QF d (st_262_58 769  r15 _ a0 a1 a2 d).2
    unfold st_262_58
    repeat' apply QF.ite
    all_goals first
      | exact QF.refl
      | exact QF.s0
      | exact hr15 _ _ _
  | succ n ih =>
    intro a0 a1 a2 d
    show QF d (st_262_58 769  r15 _ a0 a1 a2 d).2
    unfold st_262_58
    repeat' apply QF.ite
    all_goals first
      | exact ih _ _ _ _
      | exact QF.refl
      | exact QF.s0
      | exact hr15 _ _ _
theorem ql_262_15 : ∀ (n : Nat) (a0 a1 : Int) (d : mD), QF d (lp_262_15 769   n a0 a1 d).2 := by
  intro n
  induction n with
  | zero =>
    intro a0 a1 d
    show QF d (st_262_15 769   _ a0 a1 d).2
    unfold st_262_15
    repeat' apply QF.ite
    all_goals first
      | exact QF.refl
      | exact QF.s0
      | exact ql_262_58 (fun _ _ _ => QF.refl) _ _ _ _ _
  | succ n ih =>
    intro a0 a1 d
    show QF d (st_262_15 769   _ a0 a1 d).2
    unfold st_262_15
    repeat' apply QF.ite
    all_goals first
      | exact ih _ _ _
      | exact QF.refl
      | exact QF.s0
      | exact ql_262_58 ih _ _ _ _ _
theorem q_262 {d : mD} : QF d (g_262 769 d) := by
  unfold g_262 f_262
  repeat' split
  all_goals first
    | exact QF.refl
    | exact QF.s0
    | exact QF.s0.trans (ql_262_15 _ _ _ _)
theorem q_208 {d : mD} : QF d (g_208 769 d) := by
  unfold g_208
  repeat' split
  all_goals first
    | exact QF.refl
    | exact QF.s0
theorem q_209 {d : mD} : QF d (g_209 769 d) := by
  unfold g_209
  repeat' split
  all_goals first
    | exact QF.refl
    | exact QF.s0
theorem q_240 {x1 : Int} {d : mD} : QF d (g_240 769 x1 d) := by
  unfold g_240
  repeat' split
  all_goals first
    | exact QF.refl
    | exact QF.s0
theorem q_241 {x1 : Int} {x2 : Int} {d : mD} : QF d (g_241 769 x1 x2 d) := by
  unfold g_241
  repeat' split
  all_goals first
    | exact QF.refl
    | exact QF.s0
theorem q_242 {x1 : Int} {x2 : Int} {d : mD} : QF d (g_242 769 x1 x2 d) := by
  unfold g_242
  repeat' split
  all_goals first
    | exact QF.refl
    | exact QF.s0
theorem q_249 {x1 : Int} {x2 : Int} {d : mD} : QF d (g_249 769 x1 x2 d) := by
  unfold g_249
  repeat' split
  all_goals first
    | exact QF.refl
    | exact QF.s0
theorem q_277 {x1 : Int} {d : mD} : QF d (g_277 769 x1 d) := by
  unfold g_277
  repeat' split
  all_goals first
    | exact QF.refl
    | exact QF.s0
theorem q_250 {x1 : Int} {x2 : Int} {d : mD} : QF d (g_250 769 x1 x2 d) := by
  unfold g_250
  repeat' split
  all_goals first
    | exact QF.refl
    | exact QF.s0
theorem q_251 {x1 x2 : Int} {d : mD} : QF d (g_251 769 x1 x2 d) := q_250
theorem q_252 {x1 x2 : Int} {d : mD} : QF d (g_252 769 x1 x2 d) := q_250
theorem q_254 {x1 x2 : Int} {d : mD} : QF d (g_254 769 x1 x2 d) := q_250
theorem q_273 {x1 : Int} {d : mD} : QF d (g_273 769 x1 d) := by
  unfold g_273
  rw [show (769 : Int) + 8 = 777 by decide]
  exact QF.s77.trans QF.s18
theorem ql_274_18 {x1 : Int} : ∀ (n : Nat) (a0 : Int) (d : mD), QF d (lp_274_18 769 x1  n a0 d) := by
  intro n
  induction n with
  | zero =>
    intro a0 d
    show QF d (st_274_18 769 x1  _ a0 d)
    unfold st_274_18
    repeat' apply QF.ite1
    all_goals first
      | exact QF.refl
      | exact QF.s0
      | exact (q_273 (d := d)).trans QF.refl
  | succ n ih =>
    intro a0 d
    show QF d (st_274_18 769 x1  _ a0 d)
    unfold st_274_18
    repeat' apply QF.ite1
    all_goals first
      | exact ih _ _
      | exact QF.refl
      | exact QF.s0
      | exact (q_273 (d := d)).trans (ih _ _)
theorem ql_274_2 {x1 : Int} : ∀ (n : Nat) (a0 : Int) (d : mD), QF d (lp_274_2 769 x1  n a0 d) := by
  intro n
  induction n with
  | zero =>
    intro a0 d
    show QF d (st_274_2 769 x1  _ a0 d)
    unfold st_274_2
    repeat' apply QF.ite1
    all_goals first
      | exact QF.refl
      | exact QF.s0
      | exact ql_274_18 _ _ _
  | succ n ih =>
    intro a0 d
    show QF d (st_274_2 769 x1  _ a0 d)
    unfold st_274_2
    repeat' apply QF.ite1
    all_goals first
      | exact ih _ _
      | exact QF.refl
      | exact QF.s0
      | exact ql_274_18 _ _ _
theorem q_274 {x1 : Int} {d : mD} : QF d (g_274 769 x1 d) := by
  unfold g_274
  repeat' split
  all_goals first
    | exact QF.refl
    | exact QF.s0
    | exact ql_274_2 _ _ _
theorem ql_275_18 {x1 : Int} : ∀ (n : Nat) (a0 : Int) (d : mD), QF d (lp_275_18 769 x1  n a0 d) := by
  intro n
  induction n with
  | zero =>
    intro a0 d
    show QF d (st_275_18 769 x1  _ a0 d)
    unfold st_275_18
    repeat' apply QF.ite1
    all_goals first
      | exact QF.refl
      | exact QF.s0
      | exact (q_273 (d := d)).trans QF.refl
  | succ n ih =>
    intro a0 d
    show QF d (st_275_18 769 x1  _ a0 d)
    unfold st_275_18
    repeat' apply QF.ite1
    all_goals first
      | exact ih _ _
      | exact QF.refl
      | exact QF.s0
      | exact (q_273 (d := d)).trans (ih _ _)
theorem ql_275_2 {x1 : Int} : ∀ (n : Nat) (a0 : Int) (d : mD), QF d (lp_275_2 769 x1  n a0 d) := by
  intro n
  induction n with
  | zero =>
    intro a0 d
    show QF d (st_275_2 769 x1  _ a0 d)
    unfold st_275_2
    repeat' apply QF.ite1
    all_goals first
      | exact QF.refl
      | exact QF.s0
      | exact ql_275_18 _ _ _
  | succ n ih =>
    intro a0 d
    show QF d (st_275_2 769 x1  _ a0 d)
    unfold st_275_2
    repeat' apply QF.ite1
    all_goals first
      | exact ih _ _
      | exact QF.refl
      | exact QF.s0
      | exact ql_275_18 _ _ _
theorem q_275 {x1 : Int} {d : mD} : QF d (g_275 769 x1 d) := by
  unfold g_275
  repeat' split
  all_goals first
    | exact QF.refl
    | exact QF.s0
    | exact ql_275_2 _ _ _
theorem st276q {x1 x2 x3 : Int} {r : Int → Int → mD → Int × mD} {d : mD} (hr : ∀ a b D, QF D (r a b D).2) : QF d (st_276_38 769 x1 r x2 x3 d).2 := by
  unfold st_276_38
  apply QF.ite
  · apply QF.ite
    · exact (((q_273 (x1 := 32)).trans q_275).trans (q_273.trans q_274)).trans (hr _ _ _)
    · exact (q_275.trans (q_273.trans q_274)).trans (hr _ _ _)
  · apply QF.ite
    · exact q_273
    · exact QF.refl
theorem ql_276_38 {x1 : Int} : ∀ (n : Nat) (a0 a1 : Int) (d : mD), QF d (lp_276_38 769 x1 n a0 a1 d).2 := by
  intro n
  induction n with
  | zero =>
    intro a0 a1 d
    exact st276q (r := fun _ _ d => (0, d)) (fun _ _ _ => QF.refl)
  | succ n ih =>
    intro a0 a1 d
    exact st276q (r := lp_276_38 769 x1 n) ih
theorem q_276 {x1 : Int} {d : mD} : QF d (g_276 769 x1 d) := by
  unfold g_276 f_276
  repeat' split
  all_goals first
    | exact QF.refl
    | exact QF.s0
    | exact (QF.s0.trans QF.s18).trans (ql_276_38 _ _ _ _)
