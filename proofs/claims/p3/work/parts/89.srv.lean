/-! ===== queues: a ticket is taken out; the first one is served ===== -/
theorem lp220 {x1 x2 b : Int} : ∀ (n : Nat) (x : Int) (w : Row), 0 ≤ x → w (b + 5) - x ≤ (n : Int) → (∀ k, x ≤ k → k < w (b + 5) → LP_220_20 x1 x2 n b x w (b + 7 + k) = w (b + 7 + k + 1)) ∧ ∀ i, ¬ (b + 7 + x ≤ i ∧ i < b + 7 + w (b + 5)) → LP_220_20 x1 x2 n b x w i = w i := by
  intro n
  induction n with
  | zero =>
    intro x w h0 hn
    have e : LP_220_20 x1 x2 0 b x w = w := by
      show ST_220_20 x1 x2 _ b x w = _
      unfold ST_220_20
      rw [if_neg (by omega)]
    rw [e]
    exact ⟨fun k a c => by omega, fun _ _ => rfl⟩
  | succ n ih =>
    intro x w h0 hn
    by_cases hc : x < w (b + 5)
    · have e : LP_220_20 x1 x2 (n + 1) b x w = LP_220_20 x1 x2 n b (x + 1) (ws w (b + 7 + x) (w (b + 7 + x + 1))) := by
        show ST_220_20 x1 x2 _ b x w = _
        unfold ST_220_20
        rw [if_pos hc]
      have e5 : ws w (b + 7 + x) (w (b + 7 + x + 1)) (b + 5) = w (b + 5) := wsn (by omega)
      rw [e]
      obtain ⟨i1, i2⟩ := ih (x + 1) (ws w (b + 7 + x) (w (b + 7 + x + 1))) (by omega) (by rw [e5]; omega)
      rw [e5] at i1 i2
      refine ⟨fun k a c => ?_, fun i hi => ?_⟩
      · by_cases hk : k = x
        · rw [i2 _ (by omega), wse (by omega), hk]
        · rw [i1 k (by omega) c, wsn (by omega)]
      · rw [i2 i (by omega), wsn (by omega)]
    · have e : LP_220_20 x1 x2 (n + 1) b x w = w := by
        show ST_220_20 x1 x2 _ b x w = _
        unfold ST_220_20
        rw [if_neg hc]
      rw [e]
      exact ⟨fun k a c => by omega, fun _ _ => rfl⟩
def TakeW (o p : Int) (w w' : Row) : Prop := w' (12 + 68 * o + 5) = w (12 + 68 * o + 5) - 1 ∧ (∀ k, p ≤ k → k < w (12 + 68 * o + 5) - 1 → w' (12 + 68 * o + 7 + k) = w (12 + 68 * o + 7 + k + 1)) ∧ ∀ i, ¬ i = 12 + 68 * o + 5 → ¬ (12 + 68 * o + 7 + p ≤ i ∧ i < 12 + 68 * o + 7 + (w (12 + 68 * o + 5) - 1)) → w' i = w i
theorem take220 {o p : Int} {w : Row} (hp : 0 ≤ p) (hl : w (12 + 68 * o + 5) ≤ 62) (hp2 : p ≤ 61) : TakeW o p w (W_220 o p w) := by
  unfold W_220
  have e5 : ws w (12 + 68 * o + 5) (w (12 + 68 * o + 5) - 1) (12 + 68 * o + 5) = w (12 + 68 * o + 5) - 1 := wse rfl
  obtain ⟨i1, i2⟩ := lp220 (x1 := o) (x2 := p) (b := 12 + 68 * o) (61 - p : Int).toNat p (ws w (12 + 68 * o + 5) (w (12 + 68 * o + 5) - 1)) hp (by rw [e5]; omega)
  rw [e5] at i1 i2
  refine ⟨by rw [i2 _ (by omega), e5], fun k a b => by rw [i1 k a b, wsn (by omega)], fun i h1 h2 => by rw [i2 i h2, wsn h1]⟩
theorem lp41 {x0 o p : Int} : ∀ (n : Nat) (x : Int) (d : mD), 1 ≤ x → d (x0 + 6) o - x ≤ (n : Int) → (∀ b, ¬ b = x0 + 6 → ¬ b = x0 + 7 → lp_41_25 x0 o p n (o * 16) x d b = d b) ∧ (∀ j, ¬ j = o → lp_41_25 x0 o p n (o * 16) x d (x0 + 6) j = d (x0 + 6) j) ∧ lp_41_25 x0 o p n (o * 16) x d (x0 + 6) o = d (x0 + 6) o - 1 ∧ (∀ k, x - 1 ≤ k → k < d (x0 + 6) o - 1 → lp_41_25 x0 o p n (o * 16) x d (x0 + 7) (o * 16 + k) = d (x0 + 7) (o * 16 + k + 1)) ∧ ∀ j, ¬ (o * 16 + (x - 1) ≤ j ∧ j < o * 16 + (d (x0 + 6) o - 1)) → lp_41_25 x0 o p n (o * 16) x d (x0 + 7) j = d (x0 + 7) j := by
  intro n
  induction n with
  | zero =>
    intro x d h0 hn
    have e : lp_41_25 x0 o p 0 (o * 16) x d = mset d (x0 + 6) o (d (x0 + 6) o - 1) := by
      show st_41_25 x0 o p _ (o * 16) x d = _
      unfold st_41_25
      rw [if_neg (by omega)]
    rw [e]
    exact ⟨fun b h1 h2 => by funext j; exact ms_a h1, fun j hj => ms_i hj, ms_e rfl rfl, fun k a b => by omega, fun j hj => ms_a (by omega)⟩
  | succ n ih =>
    intro x d h0 hn
    by_cases hc : x < d (x0 + 6) o
    · have e : lp_41_25 x0 o p (n + 1) (o * 16) x d = lp_41_25 x0 o p n (o * 16) (x + 1) (mset d (x0 + 7) (o * 16 + x - 1) (d (x0 + 7) (o * 16 + x))) := by
        show st_41_25 x0 o p _ (o * 16) x d = _
        unfold st_41_25
        rw [if_pos hc]
      have e5 : ∀ j, mset d (x0 + 7) (o * 16 + x - 1) (d (x0 + 7) (o * 16 + x)) (x0 + 6) j = d (x0 + 6) j := fun j => ms_a (by omega)
      rw [e]
      obtain ⟨i1, i2, i3, i4, i5⟩ := ih (x + 1) (mset d (x0 + 7) (o * 16 + x - 1) (d (x0 + 7) (o * 16 + x))) (by omega) (by rw [e5]; omega)
      rw [e5] at i3 i4 i5
      refine ⟨fun b h1 h2 => by rw [i1 b h1 h2]; funext j; exact ms_a h2, fun j hj => by rw [i2 j hj, e5], i3, fun k a b => ?_, fun j hj => by rw [i5 j (by omega), ms_i (by omega)]⟩
      by_cases hk : k = x - 1
      · rw [i5 _ (by omega), ms_e rfl (by omega), hk]
        congr 1
        omega
      · rw [i4 k (by omega) b, ms_i (by omega)]
    · have e : lp_41_25 x0 o p (n + 1) (o * 16) x d = mset d (x0 + 6) o (d (x0 + 6) o - 1) := by
        show st_41_25 x0 o p _ (o * 16) x d = _
        unfold st_41_25
        rw [if_neg hc]
      rw [e]
      exact ⟨fun b h1 h2 => by funext j; exact ms_a h1, fun j hj => ms_i hj, ms_e rfl rfl, fun k a b => by omega, fun j hj => ms_a (by omega)⟩
def TakeD (s o p : Int) (d d' : mD) : Prop := (∀ b, ¬ b = s + 8 → ¬ b = s + 9 → d' b = d b) ∧ (∀ j, ¬ j = o → d' (s + 8) j = d (s + 8) j) ∧ d' (s + 8) o = d (s + 8) o - 1 ∧ (∀ k, p ≤ k → k < d (s + 8) o - 1 → d' (s + 9) (o * 16 + k) = d (s + 9) (o * 16 + k + 1)) ∧ ∀ j, ¬ (o * 16 + p ≤ j ∧ j < o * 16 + (d (s + 8) o - 1)) → d' (s + 9) j = d (s + 9) j
theorem take41 {s o p : Int} {d : mD} (hp : 0 ≤ p) (hl : p < d (s + 8) o) (hl2 : d (s + 8) o ≤ 16) : TakeD s o p d (g_41 (s + 2) o p d) := by
  unfold g_41
  have e8 : s + 2 + 6 = s + 8 := by omega
  have e9 : s + 2 + 7 = s + 9 := by omega
  rw [if_neg (by omega), if_pos (by rw [e8]; exact hl)]
  obtain ⟨i1, i2, i3, i4, i5⟩ := lp41 (x0 := s + 2) (o := o) (p := p) (16 - (p + 1) : Int).toNat (p + 1) d (by omega) (by rw [e8]; omega)
  rw [e8] at i1 i2 i3 i4 i5
  rw [e9] at i1 i4 i5
  rw [show p + 1 - 1 = p by omega] at i4 i5
  exact ⟨i1, i2, i3, i4, i5⟩
-- the first ticket of an office's queue is served
def RelN (s : Int) (d : mD) (w : Row) : Prop := RelA s d w ∧ RelO s d w ∧ RelQ s d w ∧ RelP s d w ∧ RelT s d w ∧ RelC s d w ∧ RelK s d w ∧ RelR s d w ∧ RelH s d w
theorem Rel.n {s : Int} {d : mD} {w : Row} (h : Rel s d w) : RelN s d w ∧ RelB s d w := by
  obtain ⟨a, b, c, e, f, g, i, j, k, l⟩ := h
  exact ⟨⟨a, b, c, e, f, g, i, j, l⟩, k⟩
theorem RelN.r {s : Int} {d : mD} {w : Row} (h : RelN s d w) (hB : RelB s d w) : Rel s d w := by
  obtain ⟨a, b, c, e, f, g, i, j, l⟩ := h
  exact ⟨a, b, c, e, f, g, i, j, hB, l⟩
def StepV (o : Int) (w w' : Row) : Prop := w' (12 + 68 * o + 5) = w (12 + 68 * o + 5) - 1 ∧ w' (12 + 68 * o + 6) = w (12 + 68 * o + 6) + 1 ∧ w' (452 + 24 * w (12 + 68 * o + 7) + 4) = 1 ∧ w' (452 + 24 * w (12 + 68 * o + 7) + 3) = w 0 ∧ (∀ k, 0 ≤ k → k < w (12 + 68 * o + 5) - 1 → w' (12 + 68 * o + 7 + k) = w (12 + 68 * o + 7 + k + 1))
  ∧ ∀ i, ¬ i = 12 + 68 * o + 5 → ¬ i = 12 + 68 * o + 6 → ¬ i = 452 + 24 * w (12 + 68 * o + 7) + 4 → ¬ i = 452 + 24 * w (12 + 68 * o + 7) + 3 → ¬ (12 + 68 * o + 7 ≤ i ∧ i < 12 + 68 * o + 7 + (w (12 + 68 * o + 5) - 1)) → w' i = w i
theorem stepV {o : Int} {w : Row} (ho : 0 ≤ o ∧ o ≤ 5) (hl : w (12 + 68 * o + 5) ≤ 61) (ht : 0 ≤ w (12 + 68 * o + 7) ∧ w (12 + 68 * o + 7) ≤ 60) : StepV o w (W_220 o 0 (ws (ws (ws w ((452 + (24 * (w ((12 + (68 * o)) + 7)))) + 4) 1) ((452 + (24 * (w ((12 + (68 * o)) + 7)))) + 3) (w 0)) ((12 + (68 * o)) + 6) ((w ((12 + (68 * o)) + 6)) + 1))) := by
  generalize hu : (ws (ws (ws w ((452 + (24 * (w ((12 + (68 * o)) + 7)))) + 4) 1) ((452 + (24 * (w ((12 + (68 * o)) + 7)))) + 3) (w 0)) ((12 + (68 * o)) + 6) ((w ((12 + (68 * o)) + 6)) + 1)) = u
  have u5 : u (12 + 68 * o + 5) = w (12 + 68 * o + 5) := by
    rw [← hu]
    simp (disch := omega) only [wsn]
  have h := take220 (o := o) (p := 0) (w := u) (by omega) (by rw [u5]; omega) (by omega)
  obtain ⟨t1, t2, t3⟩ := h
  rw [u5] at t1 t2 t3
  refine ⟨t1, ?_, ?_, ?_, fun k a b => ?_, fun i h1 h2 h3 h4 h5 => ?_⟩
  · rw [t3 _ (by omega) (by omega), ← hu]
    simp (disch := omega) only [wse]
  · rw [t3 _ (by omega) (by omega), ← hu]
    simp (disch := omega) only [wse, wsn]
  · rw [t3 _ (by omega) (by omega), ← hu]
    simp (disch := omega) only [wse, wsn]
  · rw [t2 k a b, ← hu]
    simp (disch := omega) only [wsn]
  · rw [t3 i h1 (by omega), ← hu]
    simp (disch := omega) only [wsn]
-- how many tickets were served
def srvN (w : Row) : Int := csum (fun t => if w (452 + 24 * t + 4) = 1 then 1 else 0) (w 9).toNat
theorem serve1n {o : Int} {w w' : Row} (hg : GG w) (ho : 0 ≤ o ∧ o < w 7) (hq : 0 < w (12 + 68 * o + 5)) (hS : StepV o w w') : srvN w' = srvN w + 1 := by
  obtain ⟨hN, hO, hQ, -⟩ := hg
  obtain ⟨n7, n8, n9, n10, n11, n0, n1, n2, n3, n4, n5, n6⟩ := id hN
  obtain ⟨s1, s2, s3, s4, s5, s6⟩ := hS
  have go := hO o ho.1 ho.2
  have gq := hQ o ho.1 ho.2 0 (by omega) hq
  simp only [Int.add_zero] at gq
  unfold srvN
  rw [s6 9 (by omega) (by omega) (by omega) (by omega) (by omega)]
  have hs := csum_upd (f := fun t => if w' (452 + 24 * t + 4) = 1 then 1 else 0) (g := fun t => if w (452 + 24 * t + 4) = 1 then 1 else 0) (n := (w 9).toNat) (k := w (12 + 68 * o + 7)) gq.1.1 (by omega) (fun i a b c => by
    show (if w' (452 + 24 * i + 4) = 1 then (1 : Int) else 0) = if w (452 + 24 * i + 4) = 1 then 1 else 0
    rw [s6 (452 + 24 * i + 4) (by omega) (by omega) (by omega) (by omega) (by omega)])
  rw [s3, gq.2.2.1] at hs
  rw [hs]
  simp
theorem serve1 {s o : Int} {d : mD} {w w' : Row} {X : Prop} (hg : GG w) (h : RelN s d w) (hX : X → RelB s d w) (ho : 0 ≤ o ∧ o < w 7) (hq : 0 < w (12 + 68 * o + 5)) (hS : StepV o w w') :
    GG w' ∧ RelN s (g_41 (s + 2) o 0 (g_97 (s + 49) (v_38 (s + 2) o 0 d) 1 (d s 2) d)) w' ∧ (X → RelB s (g_41 (s + 2) o 0 (g_97 (s + 49) (v_38 (s + 2) o 0 d) 1 (d s 2) d)) w') := by
  obtain ⟨hN, hO, hQ, hT, hC, hK, hR⟩ := hg
  obtain ⟨n7, n8, n9, n10, n11, n0, n1, n2, n3, n4, n5, n6⟩ := id hN
  obtain ⟨⟨a1, a2, a3⟩, ⟨o1, o2⟩, rQ, rP, ⟨t1, t2⟩, rC, rK, rR, rH⟩ := h
  obtain ⟨s1, s2, s3, s4, s5, s6⟩ := hS
  have go := hO o ho.1 ho.2
  have gq := hQ o ho.1 ho.2 0 (by omega) hq
  simp only [Int.add_zero] at gq
  have et : v_38 (s + 2) o 0 d = w (12 + 68 * o + 7) := by
    have := rQ o ho.1 ho.2 0 (by omega) hq
    simp only [Int.add_zero] at this
    unfold v_38
    rw [show s + 2 + 7 = s + 9 by omega, Int.add_zero]
    exact this
  have e8 : d (s + 8) o = w (12 + 68 * o + 5) := (o2 o ho.1 ho.2).2.2.2.2.2
  rw [et]
  have e1 : g_97 (s + 49) (w (12 + 68 * o + 7)) 1 (d s 2) d = mset (mset d (s + 54) (w (12 + 68 * o + 7)) 1) (s + 53) (w (12 + 68 * o + 7)) (w 0) := by
    unfold g_97
    simp only [Int.add_assoc, Int.reduceAdd, a2]
  rw [e1]
  generalize hd1 : mset (mset d (s + 54) (w (12 + 68 * o + 7)) 1) (s + 53) (w (12 + 68 * o + 7)) (w 0) = d1
  have f1 : ∀ b, ¬ b = s + 54 → ¬ b = s + 53 → d1 b = d b := fun b x y => by
    rw [← hd1]
    funext j
    simp (disch := omega) only [ms_a]
  obtain ⟨q1, q2, q3, q4, q5⟩ := take41 (s := s) (o := o) (p := 0) (d := d1) (by omega) (by rw [f1 _ (by omega) (by omega), e8]; exact hq) (by rw [f1 _ (by omega) (by omega), e8]; omega)
  generalize g_41 (s + 2) o 0 d1 = d' at *
  rw [f1 (s + 8) (by omega) (by omega), e8] at q3 q4 q5
  have fd : ∀ b, ¬ b = s + 54 → ¬ b = s + 53 → ¬ b = s + 8 → ¬ b = s + 9 → d' b = d b := fun b x y z u => by rw [q1 b z u, f1 b x y]
  -- the ticket is in no other place
  have other : ∀ o', 0 ≤ o' → o' < w 7 → ∀ k, 0 ≤ k → k < w (12 + 68 * o' + 5) → ¬ (o' = o ∧ k = 0) → ¬ w (12 + 68 * o' + 7 + k) = w (12 + 68 * o + 7) := by
    intro o' x y k u v hn e
    have g := hQ o' x y k u v
    rw [e] at g
    by_cases hoo : o' = o
    · subst hoo
      have g2 := g.2.2.2 0 (by omega) (by omega)
      simp only [Int.add_zero] at g2
      exact g2.2 trivial
    · omega
  have cl := hC _ gq.1.1 gq.1.2
  refine ⟨⟨?_, ?_, ?_, ?_, ?_, ?_, hR.k (fun i hi => s6 i (by omega) (by omega) (by omega) (by omega) (by omega)) hN⟩, ⟨?_, ?_, ?_, rP.k (fun b x y => fd b (by omega) (by omega) (by omega) (by omega)) (fun i hi => s6 i (by omega) (by omega) (by omega) (by omega) (by omega)) n8, ?_, rC.k (fun b x => fd b (by omega) (by omega) (by omega) (by omega)) (fun i hi => s6 i (by omega) (by omega) (by omega) (by omega) (by omega)) n9, rK.k (by rw [fd _ (by omega) (by omega) (by omega) (by omega)]) (fun b x y => fd b (by omega) (by omega) (by omega) (by omega)) (fun i hi => s6 i (by omega) (by omega) (by omega) (by omega) (by omega)) n10, rR.k (by rw [fd _ (by omega) (by omega) (by omega) (by omega)]) (fd _ (by omega) (by omega) (by omega) (by omega)) (fun i hi => s6 i (by omega) (by omega) (by omega) (by omega) (by omega)) n11, rH.k (fun b x y => fd b (by omega) (by omega) (by omega) (by omega)) (fun i hi => s6 i (by omega) (by omega) (by omega) (by omega) (by omega)) n8 n9 n10 hK.of⟩, fun hx => (hX hx).k (fun b x y => fd b (by omega) (by omega) (by omega) (by omega)) (fun i hi => s6 i (by omega) (by omega) (by omega) (by omega) (by omega)) n8 n9 n10 hK.of⟩
  · exact hN.k (fun i hi => s6 i (by omega) (by omega) (by omega) (by omega) (by omega))
  · -- offices
    intro o' x y
    rw [s6 7 (by omega) (by omega) (by omega) (by omega) (by omega)] at y
    have g := hO o' x y
    rw [s6 (12 + 68 * o' + 1) (by omega) (by omega) (by omega) (by omega) (by omega), s6 (12 + 68 * o' + 2) (by omega) (by omega) (by omega) (by omega) (by omega), s6 (12 + 68 * o' + 3) (by omega) (by omega) (by omega) (by omega) (by omega), s6 (12 + 68 * o' + 4) (by omega) (by omega) (by omega) (by omega) (by omega), s6 9 (by omega) (by omega) (by omega) (by omega) (by omega)]
    have hs := csum_upd (f := fun t => if w' (452 + 24 * t + 4) = 1 ∧ w' (452 + 24 * t + 1) = o' then 1 else 0) (g := fun t => if w (452 + 24 * t + 4) = 1 ∧ w (452 + 24 * t + 1) = o' then 1 else 0) (n := (w 9).toNat) (k := w (12 + 68 * o + 7)) gq.1.1 (by omega) (fun i a b c => by
      show (if w' (452 + 24 * i + 4) = 1 ∧ w' (452 + 24 * i + 1) = o' then (1 : Int) else 0) = if w (452 + 24 * i + 4) = 1 ∧ w (452 + 24 * i + 1) = o' then 1 else 0
      rw [s6 (452 + 24 * i + 4) (by omega) (by omega) (by omega) (by omega) (by omega), s6 (452 + 24 * i + 1) (by omega) (by omega) (by omega) (by omega) (by omega)])
    rw [s3, s6 (452 + 24 * w (12 + 68 * o + 7) + 1) (by omega) (by omega) (by omega) (by omega) (by omega), gq.2.1, gq.2.2.1] at hs
    rw [hs]
    by_cases hoo : o' = o
    · subst hoo
      rw [s1, s2, g.2.2.2.2.2.2]
      simp
      omega
    · rw [s6 (12 + 68 * o' + 5) (by omega) (by omega) (by omega) (by omega) (by omega), s6 (12 + 68 * o' + 6) (by omega) (by omega) (by omega) (by omega) (by omega), g.2.2.2.2.2.2]
      rw [if_neg (fun z => hoo z.2.symm), if_neg (fun z => hoo z.2.symm)]
      simp
      omega
  · -- queues
    intro o' x y k u v
    rw [s6 7 (by omega) (by omega) (by omega) (by omega) (by omega)] at y
    by_cases hoo : o' = o
    · subst hoo
      rw [s1] at v
      have g := hQ o' x y (k + 1) (by omega) (by omega)
      rw [show 12 + 68 * o' + 7 + (k + 1) = 12 + 68 * o' + 7 + k + 1 by omega] at g
      have ne := other o' x y (k + 1) (by omega) (by omega) (by omega)
      rw [show 12 + 68 * o' + 7 + (k + 1) = 12 + 68 * o' + 7 + k + 1 by omega] at ne
      rw [s5 k u v, s6 9 (by omega) (by omega) (by omega) (by omega) (by omega), s6 (452 + 24 * w (12 + 68 * o' + 7 + k + 1) + 1) (by omega) (by omega) (by omega) (by omega) (by omega), s6 (452 + 24 * w (12 + 68 * o' + 7 + k + 1) + 4) (by omega) (by omega) (by omega) (by omega) (by omega)]
      refine ⟨g.1, g.2.1, g.2.2.1, fun i a b => ?_⟩
      have g2 := g.2.2.2 (i + 1) (by omega) (by omega)
      rw [show 12 + 68 * o' + 7 + (i + 1) = 12 + 68 * o' + 7 + i + 1 by omega] at g2
      have gi := hQ o' x y (i + 1) (by omega) (by omega)
      rw [show 12 + 68 * o' + 7 + (i + 1) = 12 + 68 * o' + 7 + i + 1 by omega] at gi
      rw [s5 i a (by omega), s6 (452 + 24 * w (12 + 68 * o' + 7 + k + 1) + 2) (by omega) (by omega) (by omega) (by omega) (by omega), s6 (452 + 24 * w (12 + 68 * o' + 7 + k + 1) + 0) (by omega) (by omega) (by omega) (by omega) (by omega), s6 (452 + 24 * w (12 + 68 * o' + 7 + i + 1) + 2) (by omega) (by omega) (by omega) (by omega) (by omega), s6 (452 + 24 * w (12 + 68 * o' + 7 + i + 1) + 0) (by omega) (by omega) (by omega) (by omega) (by omega)]
      exact g2
    · have go' := hO o' x y
      rw [s6 (12 + 68 * o' + 5) (by omega) (by omega) (by omega) (by omega) (by omega)] at v
      have g := hQ o' x y k u v
      have ne := other o' x y k u v (by omega)
      rw [s6 (12 + 68 * o' + 7 + k) (by omega) (by omega) (by omega) (by omega) (by omega), s6 9 (by omega) (by omega) (by omega) (by omega) (by omega), s6 (452 + 24 * w (12 + 68 * o' + 7 + k) + 1) (by omega) (by omega) (by omega) (by omega) (by omega), s6 (452 + 24 * w (12 + 68 * o' + 7 + k) + 4) (by omega) (by omega) (by omega) (by omega) (by omega)]
      refine ⟨g.1, g.2.1, g.2.2.1, fun i a b => ?_⟩
      have gi := hQ o' x y i a (by omega)
      rw [s6 (12 + 68 * o' + 7 + i) (by omega) (by omega) (by omega) (by omega) (by omega), s6 (452 + 24 * w (12 + 68 * o' + 7 + k) + 2) (by omega) (by omega) (by omega) (by omega) (by omega), s6 (452 + 24 * w (12 + 68 * o' + 7 + k) + 0) (by omega) (by omega) (by omega) (by omega) (by omega), s6 (452 + 24 * w (12 + 68 * o' + 7 + i) + 2) (by omega) (by omega) (by omega) (by omega) (by omega), s6 (452 + 24 * w (12 + 68 * o' + 7 + i) + 0) (by omega) (by omega) (by omega) (by omega) (by omega)]
      exact g.2.2.2 i a b
  · -- tickets
    intro t x y
    rw [s6 9 (by omega) (by omega) (by omega) (by omega) (by omega)] at y
    have g := hT t x y
    rw [s6 (452 + 24 * t + 0) (by omega) (by omega) (by omega) (by omega) (by omega), s6 (452 + 24 * t + 1) (by omega) (by omega) (by omega) (by omega) (by omega), s6 (452 + 24 * t + 2) (by omega) (by omega) (by omega) (by omega) (by omega), s6 0 (by omega) (by omega) (by omega) (by omega) (by omega), s6 7 (by omega) (by omega) (by omega) (by omega) (by omega), s6 8 (by omega) (by omega) (by omega) (by omega) (by omega)]
    by_cases ht : t = w (12 + 68 * o + 7)
    · rw [ht, s3, s4]
      rw [ht] at g
      exact ⟨g.1, g.2.1, g.2.2.1, by omega, fun z => by omega, fun _ => by omega⟩
    · rw [s6 (452 + 24 * t + 3) (by omega) (by omega) (by omega) (by omega) (by omega), s6 (452 + 24 * t + 4) (by omega) (by omega) (by omega) (by omega) (by omega)]
      refine ⟨g.1, g.2.1, g.2.2.1, g.2.2.2.1, fun z => ?_, g.2.2.2.2.2⟩
      obtain ⟨z1, k, z2, z3, z4⟩ := g.2.2.2.2.1 z
      refine ⟨z1, ?_⟩
      have go' := hO _ g.2.1.1 g.2.1.2
      by_cases hoo : w (452 + 24 * t + 1) = o
      · rw [hoo] at z3 z4 ⊢
        have hk : ¬ k = 0 := by
          intro hk
          rw [hk, Int.add_zero] at z4
          exact ht z4.symm
        refine ⟨k - 1, by omega, by rw [s1]; omega, ?_⟩
        rw [s5 (k - 1) (by omega) (by omega), show 12 + 68 * o + 7 + (k - 1) + 1 = 12 + 68 * o + 7 + k by omega]
        exact z4
      · exact ⟨k, z2, by rw [s6 _ (by omega) (by omega) (by omega) (by omega) (by omega)]; exact z3, by rw [s6 _ (by omega) (by omega) (by omega) (by omega) (by omega)]; exact z4⟩
  · -- claims
    intro t x y
    rw [s6 9 (by omega) (by omega) (by omega) (by omega) (by omega)] at y
    have g := hC t x y
    rw [s6 (452 + 24 * t + 5) (by omega) (by omega) (by omega) (by omega) (by omega), s6 (452 + 24 * t + 6) (by omega) (by omega) (by omega) (by omega) (by omega), s6 0 (by omega) (by omega) (by omega) (by omega) (by omega)]
    have gp : ∀ p, 0 ≤ p → p < 16 → 0 ≤ w' (452 + 24 * t + 8 + p) ∧ w' (452 + 24 * t + 8 + p) ≤ w 0 + 1 := fun p a b => by
      rw [s6 _ (by omega) (by omega) (by omega) (by omega) (by omega)]
      exact g.2.2.2.2 p a b
    by_cases ht : t = w (12 + 68 * o + 7)
    · rw [ht] at g gp ⊢
      rw [s3, s4]
      refine ⟨g.1, g.2.1, fun z => ?_, fun _ => rfl, gp⟩
      have := g.2.2.2.1 (g.2.2.1 z).1
      omega
    · rw [s6 (452 + 24 * t + 3) (by omega) (by omega) (by omega) (by omega) (by omega), s6 (452 + 24 * t + 4) (by omega) (by omega) (by omega) (by omega) (by omega)]
      exact ⟨g.1, g.2.1, g.2.2.1, g.2.2.2.1, gp⟩
  · exact hK.k (fun i hi => s6 i (by omega) (by omega) (by omega) (by omega) (by omega)) hN
  · refine ⟨?_, ?_, fun k x y => ?_⟩
    · rw [fd _ (by omega) (by omega) (by omega) (by omega), s6 1 (by omega) (by omega) (by omega) (by omega) (by omega)]; exact a1
    · rw [fd _ (by omega) (by omega) (by omega) (by omega), s6 0 (by omega) (by omega) (by omega) (by omega) (by omega)]; exact a2
    · rw [fd _ (by omega) (by omega) (by omega) (by omega), s6 _ (by omega) (by omega) (by omega) (by omega) (by omega)]; exact a3 k x y
  · refine ⟨?_, fun o' x y => ?_⟩
    · rw [fd _ (by omega) (by omega) (by omega) (by omega), s6 7 (by omega) (by omega) (by omega) (by omega) (by omega)]; exact o1
    · rw [s6 7 (by omega) (by omega) (by omega) (by omega) (by omega)] at y
      have g := o2 o' x y
      rw [fd (s + 3) (by omega) (by omega) (by omega) (by omega), fd (s + 4) (by omega) (by omega) (by omega) (by omega), fd (s + 5) (by omega) (by omega) (by omega) (by omega), fd (s + 6) (by omega) (by omega) (by omega) (by omega), fd (s + 7) (by omega) (by omega) (by omega) (by omega), s6 (12 + 68 * o' + 0) (by omega) (by omega) (by omega) (by omega) (by omega), s6 (12 + 68 * o' + 1) (by omega) (by omega) (by omega) (by omega) (by omega), s6 (12 + 68 * o' + 2) (by omega) (by omega) (by omega) (by omega) (by omega), s6 (12 + 68 * o' + 3) (by omega) (by omega) (by omega) (by omega) (by omega), s6 (12 + 68 * o' + 4) (by omega) (by omega) (by omega) (by omega) (by omega)]
      refine ⟨g.1, g.2.1, g.2.2.1, g.2.2.2.1, g.2.2.2.2.1, ?_⟩
      by_cases hoo : o' = o
      · rw [hoo, q3, s1]
      · rw [q2 o' hoo, f1 _ (by omega) (by omega), s6 (12 + 68 * o' + 5) (by omega) (by omega) (by omega) (by omega) (by omega)]
        exact g.2.2.2.2.2
  · intro o' x y k u v
    rw [s6 7 (by omega) (by omega) (by omega) (by omega) (by omega)] at y
    have go' := hO o' x y
    by_cases hoo : o' = o
    · subst hoo
      rw [s1] at v
      rw [q4 k u (by omega), f1 _ (by omega) (by omega), s5 k u v]
      have := rQ o' x y (k + 1) (by omega) (by omega)
      rw [show o' * 16 + (k + 1) = o' * 16 + k + 1 by omega, show 12 + 68 * o' + 7 + (k + 1) = 12 + 68 * o' + 7 + k + 1 by omega] at this
      exact this
    · rw [s6 (12 + 68 * o' + 5) (by omega) (by omega) (by omega) (by omega) (by omega)] at v
      rw [q5 _ (by omega), f1 _ (by omega) (by omega), s6 _ (by omega) (by omega) (by omega) (by omega) (by omega)]
      exact rQ o' x y k u v
  · refine ⟨?_, fun t x y => ?_⟩
    · rw [fd _ (by omega) (by omega) (by omega) (by omega), s6 9 (by omega) (by omega) (by omega) (by omega) (by omega)]; exact t1
    · rw [s6 9 (by omega) (by omega) (by omega) (by omega) (by omega)] at y
      have g := t2 t x y
      rw [fd (s + 50) (by omega) (by omega) (by omega) (by omega), fd (s + 51) (by omega) (by omega) (by omega) (by omega), fd (s + 52) (by omega) (by omega) (by omega) (by omega), s6 (452 + 24 * t + 0) (by omega) (by omega) (by omega) (by omega) (by omega), s6 (452 + 24 * t + 1) (by omega) (by omega) (by omega) (by omega) (by omega), s6 (452 + 24 * t + 2) (by omega) (by omega) (by omega) (by omega) (by omega), q1 (s + 53) (by omega) (by omega), q1 (s + 54) (by omega) (by omega), ← hd1]
      by_cases ht : t = w (12 + 68 * o + 7)
      · rw [ht] at g ⊢
        rw [s3, s4]
        simp (disch := omega) only [ms_a, ms_e]
        exact ⟨g.1, g.2.1, g.2.2.1, trivial, trivial⟩
      · rw [s6 (452 + 24 * t + 3) (by omega) (by omega) (by omega) (by omega) (by omega), s6 (452 + 24 * t + 4) (by omega) (by omega) (by omega) (by omega) (by omega)]
        simp (disch := omega) only [ms_a, ms_i]
        exact g
