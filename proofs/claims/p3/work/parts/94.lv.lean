/-! ===== a ticket leaves its queue ===== -/
def sg (p k : Int) : Int := if k < p then k else k + 1
theorem sg_r (p k : Int) : (sg p k = k ∧ k < p) ∨ (sg p k = k + 1 ∧ p ≤ k) := by
  unfold sg
  split <;> omega
def StepL (o p t : Int) (w w' : Row) : Prop := w' (12 + 68 * o + 5) = w (12 + 68 * o + 5) - 1 ∧ w' (452 + 24 * t + 4) = 2 ∧ w' (452 + 24 * t + 3) = w 0 ∧ (∀ k, 0 ≤ k → k < w (12 + 68 * o + 5) - 1 → w' (12 + 68 * o + 7 + k) = w (12 + 68 * o + 7 + sg p k))
  ∧ ∀ i, ¬ i = 12 + 68 * o + 5 → ¬ i = 452 + 24 * t + 4 → ¬ i = 452 + 24 * t + 3 → ¬ (12 + 68 * o + 7 ≤ i ∧ i < 12 + 68 * o + 7 + (w (12 + 68 * o + 5) - 1)) → w' i = w i
theorem leave1 {s o p t : Int} {d d1 d' : mD} {w w' : Row} (hg : GG w) (h : Rel s d w) (ho : 0 ≤ o ∧ o < w 7) (hp : 0 ≤ p ∧ p < w (12 + 68 * o + 5)) (et : w (12 + 68 * o + 7 + p) = t) (hS : StepL o p t w w') (hd1 : TakeD s o p d d1) (hd : d' = mset (mset d1 (s + 54) t 2) (s + 53) t (w 0)) : GG w' ∧ Rel s d' w' := by
  obtain ⟨hN, hO, hQ, hT, hC, hK, hR⟩ := hg
  obtain ⟨n7, n8, n9, n10, n11, n0, n1, n2, n3, n4, n5, n6⟩ := id hN
  obtain ⟨⟨a1, a2, a3⟩, ⟨o1, o2⟩, rQ, rP, ⟨t1, t2⟩, rC, rK, rR, rB, rH⟩ := h
  obtain ⟨s1, s3, s4, s5, s6⟩ := hS
  obtain ⟨q1, q2, q3, q4, q5⟩ := hd1
  have go := hO o ho.1 ho.2
  have gq := hQ o ho.1 ho.2 p hp.1 hp.2
  rw [et] at gq
  have e8 : d (s + 8) o = w (12 + 68 * o + 5) := (o2 o ho.1 ho.2).2.2.2.2.2
  rw [e8] at q3 q4 q5
  have fd : ∀ b, ¬ b = s + 54 → ¬ b = s + 53 → ¬ b = s + 8 → ¬ b = s + 9 → d' b = d b := fun b x y z u => by
    rw [hd, ← q1 b z u]
    funext j
    simp (disch := omega) only [ms_a]
  have f1 : ∀ b, ¬ b = s + 54 → ¬ b = s + 53 → d' b = d1 b := fun b x y => by
    rw [hd]
    funext j
    simp (disch := omega) only [ms_a]
  -- the ticket is in no other place
  have other : ∀ o', 0 ≤ o' → o' < w 7 → ∀ k, 0 ≤ k → k < w (12 + 68 * o' + 5) → ¬ (o' = o ∧ k = p) → ¬ w (12 + 68 * o' + 7 + k) = t := by
    intro o' x y k u v hn e
    have g := hQ o' x y k u v
    rw [e] at g
    by_cases hoo : o' = o
    · subst hoo
      rcases Int.lt_trichotomy k p with hk | hk | hk
      · have g2 := (hQ o' x y p hp.1 hp.2).2.2.2 k u hk
        rw [e, et] at g2
        exact g2.2 rfl
      · exact hn ⟨rfl, hk⟩
      · have g2 := g.2.2.2 p hp.1 hk
        rw [et] at g2
        exact g2.2 rfl
    · omega
  have cl := hC _ gq.1.1 gq.1.2
  refine ⟨⟨hN.k (fun i hi => s6 i (by omega) (by omega) (by omega) (by omega)), ?_, ?_, ?_, ?_, hK.k (fun i hi => s6 i (by omega) (by omega) (by omega) (by omega)) hN, hR.k (fun i hi => s6 i (by omega) (by omega) (by omega) (by omega)) hN⟩, ⟨?_, ?_, ?_, rP.k (fun b x y => fd b (by omega) (by omega) (by omega) (by omega)) (fun i hi => s6 i (by omega) (by omega) (by omega) (by omega)) n8, ?_, rC.k (fun b x => fd b (by omega) (by omega) (by omega) (by omega)) (fun i hi => s6 i (by omega) (by omega) (by omega) (by omega)) n9, rK.k (by rw [fd _ (by omega) (by omega) (by omega) (by omega)]) (fun b x y => fd b (by omega) (by omega) (by omega) (by omega)) (fun i hi => s6 i (by omega) (by omega) (by omega) (by omega)) n10, rR.k (by rw [fd _ (by omega) (by omega) (by omega) (by omega)]) (fd _ (by omega) (by omega) (by omega) (by omega)) (fun i hi => s6 i (by omega) (by omega) (by omega) (by omega)) n11, rB.k (fun b x y => fd b (by omega) (by omega) (by omega) (by omega)) (fun i hi => s6 i (by omega) (by omega) (by omega) (by omega)) n8 n9 n10 hK.of, rH.k (fun b x y => fd b (by omega) (by omega) (by omega) (by omega)) (fun i hi => s6 i (by omega) (by omega) (by omega) (by omega)) n8 n9 n10 hK.of⟩⟩
  · -- offices
    intro o' x y
    rw [s6 7 (by omega) (by omega) (by omega) (by omega)] at y
    have g := hO o' x y
    rw [s6 (12 + 68 * o' + 1) (by omega) (by omega) (by omega) (by omega), s6 (12 + 68 * o' + 2) (by omega) (by omega) (by omega) (by omega), s6 (12 + 68 * o' + 3) (by omega) (by omega) (by omega) (by omega), s6 (12 + 68 * o' + 4) (by omega) (by omega) (by omega) (by omega), s6 (12 + 68 * o' + 6) (by omega) (by omega) (by omega) (by omega), s6 9 (by omega) (by omega) (by omega) (by omega)]
    have hs := csum_upd (f := fun t => if w' (452 + 24 * t + 4) = 1 ∧ w' (452 + 24 * t + 1) = o' then 1 else 0) (g := fun t => if w (452 + 24 * t + 4) = 1 ∧ w (452 + 24 * t + 1) = o' then 1 else 0) (n := (w 9).toNat) (k := t) gq.1.1 (by omega) (fun i a b c => by
      show (if w' (452 + 24 * i + 4) = 1 ∧ w' (452 + 24 * i + 1) = o' then (1 : Int) else 0) = if w (452 + 24 * i + 4) = 1 ∧ w (452 + 24 * i + 1) = o' then 1 else 0
      rw [s6 (452 + 24 * i + 4) (by omega) (by omega) (by omega) (by omega), s6 (452 + 24 * i + 1) (by omega) (by omega) (by omega) (by omega)])
    rw [s3, gq.2.2.1, if_neg (fun z => absurd z.1 (by decide)), if_neg (fun z => absurd z.1 (by decide))] at hs
    rw [hs]
    by_cases hoo : o' = o
    · subst hoo
      rw [s1]
      refine ⟨g.1, g.2.1, g.2.2.1, g.2.2.2.1, by omega, fun z => by have := g.2.2.2.2.2.1 z; omega, by rw [g.2.2.2.2.2.2]; omega⟩
    · rw [s6 (12 + 68 * o' + 5) (by omega) (by omega) (by omega) (by omega)]
      refine ⟨g.1, g.2.1, g.2.2.1, g.2.2.2.1, g.2.2.2.2.1, g.2.2.2.2.2.1, by rw [g.2.2.2.2.2.2]; omega⟩
  · -- queues
    intro o' x y k u v
    rw [s6 7 (by omega) (by omega) (by omega) (by omega)] at y
    by_cases hoo : o' = o
    · subst hoo
      rw [s1] at v
      have hk := sg_r p k
      have g := hQ o' x y (sg p k) (by omega) (by omega)
      have ne := other o' x y (sg p k) (by omega) (by omega) (by omega)
      rw [s5 k u v, s6 9 (by omega) (by omega) (by omega) (by omega), s6 (452 + 24 * w (12 + 68 * o' + 7 + sg p k) + 1) (by omega) (by omega) (by omega) (by omega), s6 (452 + 24 * w (12 + 68 * o' + 7 + sg p k) + 4) (by omega) (by omega) (by omega) (by omega)]
      refine ⟨g.1, g.2.1, g.2.2.1, fun i a b => ?_⟩
      have hi := sg_r p i
      have g2 := g.2.2.2 (sg p i) (by omega) (by omega)
      have gi := hQ o' x y (sg p i) (by omega) (by omega)
      rw [s5 i a (by omega), s6 (452 + 24 * w (12 + 68 * o' + 7 + sg p k) + 2) (by omega) (by omega) (by omega) (by omega), s6 (452 + 24 * w (12 + 68 * o' + 7 + sg p k) + 0) (by omega) (by omega) (by omega) (by omega), s6 (452 + 24 * w (12 + 68 * o' + 7 + sg p i) + 2) (by omega) (by omega) (by omega) (by omega), s6 (452 + 24 * w (12 + 68 * o' + 7 + sg p i) + 0) (by omega) (by omega) (by omega) (by omega)]
      exact g2
    · have go' := hO o' x y
      rw [s6 (12 + 68 * o' + 5) (by omega) (by omega) (by omega) (by omega)] at v
      have g := hQ o' x y k u v
      have ne := other o' x y k u v (by omega)
      rw [s6 (12 + 68 * o' + 7 + k) (by omega) (by omega) (by omega) (by omega), s6 9 (by omega) (by omega) (by omega) (by omega), s6 (452 + 24 * w (12 + 68 * o' + 7 + k) + 1) (by omega) (by omega) (by omega) (by omega), s6 (452 + 24 * w (12 + 68 * o' + 7 + k) + 4) (by omega) (by omega) (by omega) (by omega)]
      refine ⟨g.1, g.2.1, g.2.2.1, fun i a b => ?_⟩
      have gi := hQ o' x y i a (by omega)
      rw [s6 (12 + 68 * o' + 7 + i) (by omega) (by omega) (by omega) (by omega), s6 (452 + 24 * w (12 + 68 * o' + 7 + k) + 2) (by omega) (by omega) (by omega) (by omega), s6 (452 + 24 * w (12 + 68 * o' + 7 + k) + 0) (by omega) (by omega) (by omega) (by omega), s6 (452 + 24 * w (12 + 68 * o' + 7 + i) + 2) (by omega) (by omega) (by omega) (by omega), s6 (452 + 24 * w (12 + 68 * o' + 7 + i) + 0) (by omega) (by omega) (by omega) (by omega)]
      exact g.2.2.2 i a b
  · -- tickets
    intro t' x y
    rw [s6 9 (by omega) (by omega) (by omega) (by omega)] at y
    have g := hT t' x y
    rw [s6 (452 + 24 * t' + 0) (by omega) (by omega) (by omega) (by omega), s6 (452 + 24 * t' + 1) (by omega) (by omega) (by omega) (by omega), s6 (452 + 24 * t' + 2) (by omega) (by omega) (by omega) (by omega), s6 0 (by omega) (by omega) (by omega) (by omega), s6 7 (by omega) (by omega) (by omega) (by omega), s6 8 (by omega) (by omega) (by omega) (by omega)]
    by_cases ht : t' = t
    · rw [ht, s3, s4]
      rw [ht] at g
      exact ⟨g.1, g.2.1, g.2.2.1, by omega, fun z => by omega, fun _ => by omega⟩
    · rw [s6 (452 + 24 * t' + 3) (by omega) (by omega) (by omega) (by omega), s6 (452 + 24 * t' + 4) (by omega) (by omega) (by omega) (by omega)]
      refine ⟨g.1, g.2.1, g.2.2.1, g.2.2.2.1, fun z => ?_, g.2.2.2.2.2⟩
      obtain ⟨z1, k, z2, z3, z4⟩ := g.2.2.2.2.1 z
      refine ⟨z1, ?_⟩
      have go' := hO _ g.2.1.1 g.2.1.2
      by_cases hoo : w (452 + 24 * t' + 1) = o
      · rw [hoo] at z3 z4 ⊢
        have hk : ¬ k = p := by
          intro hk
          rw [hk, et] at z4
          exact ht z4.symm
        by_cases hk2 : k < p
        · refine ⟨k, z2, by rw [s1]; omega, ?_⟩
          rw [s5 k z2 (by omega), show sg p k = k by have := sg_r p k; omega]
          exact z4
        · refine ⟨k - 1, by omega, by rw [s1]; omega, ?_⟩
          rw [s5 (k - 1) (by omega) (by omega), show sg p (k - 1) = k by have := sg_r p (k - 1); omega]
          exact z4
      · exact ⟨k, z2, by rw [s6 _ (by omega) (by omega) (by omega) (by omega)]; exact z3, by rw [s6 _ (by omega) (by omega) (by omega) (by omega)]; exact z4⟩
  · -- claims
    intro t' x y
    rw [s6 9 (by omega) (by omega) (by omega) (by omega)] at y
    have g := hC t' x y
    rw [s6 (452 + 24 * t' + 5) (by omega) (by omega) (by omega) (by omega), s6 (452 + 24 * t' + 6) (by omega) (by omega) (by omega) (by omega), s6 0 (by omega) (by omega) (by omega) (by omega)]
    have gp : ∀ p, 0 ≤ p → p < 16 → 0 ≤ w' (452 + 24 * t' + 8 + p) ∧ w' (452 + 24 * t' + 8 + p) ≤ w 0 + 1 := fun p a b => by
      rw [s6 _ (by omega) (by omega) (by omega) (by omega)]
      exact g.2.2.2.2 p a b
    by_cases ht : t' = t
    · rw [ht] at g gp ⊢
      rw [s3, s4]
      have h5 : ¬ w (452 + 24 * t + 5) = 1 := fun z => by
        have := g.2.2.2.1 z
        omega
      exact ⟨g.1, g.2.1, fun z => absurd (g.2.2.1 z).1 h5, fun z => absurd z h5, gp⟩
    · rw [s6 (452 + 24 * t' + 3) (by omega) (by omega) (by omega) (by omega), s6 (452 + 24 * t' + 4) (by omega) (by omega) (by omega) (by omega)]
      exact ⟨g.1, g.2.1, g.2.2.1, g.2.2.2.1, gp⟩
  · refine ⟨?_, ?_, fun k x y => ?_⟩
    · rw [fd _ (by omega) (by omega) (by omega) (by omega), s6 1 (by omega) (by omega) (by omega) (by omega)]; exact a1
    · rw [fd _ (by omega) (by omega) (by omega) (by omega), s6 0 (by omega) (by omega) (by omega) (by omega)]; exact a2
    · rw [fd _ (by omega) (by omega) (by omega) (by omega), s6 _ (by omega) (by omega) (by omega) (by omega)]; exact a3 k x y
  · refine ⟨?_, fun o' x y => ?_⟩
    · rw [fd _ (by omega) (by omega) (by omega) (by omega), s6 7 (by omega) (by omega) (by omega) (by omega)]; exact o1
    · rw [s6 7 (by omega) (by omega) (by omega) (by omega)] at y
      have g := o2 o' x y
      rw [fd (s + 3) (by omega) (by omega) (by omega) (by omega), fd (s + 4) (by omega) (by omega) (by omega) (by omega), fd (s + 5) (by omega) (by omega) (by omega) (by omega), fd (s + 6) (by omega) (by omega) (by omega) (by omega), fd (s + 7) (by omega) (by omega) (by omega) (by omega), s6 (12 + 68 * o' + 0) (by omega) (by omega) (by omega) (by omega), s6 (12 + 68 * o' + 1) (by omega) (by omega) (by omega) (by omega), s6 (12 + 68 * o' + 2) (by omega) (by omega) (by omega) (by omega), s6 (12 + 68 * o' + 3) (by omega) (by omega) (by omega) (by omega), s6 (12 + 68 * o' + 4) (by omega) (by omega) (by omega) (by omega), f1 (s + 8) (by omega) (by omega)]
      refine ⟨g.1, g.2.1, g.2.2.1, g.2.2.2.1, g.2.2.2.2.1, ?_⟩
      by_cases hoo : o' = o
      · rw [hoo, q3, s1]
      · rw [q2 o' hoo, s6 (12 + 68 * o' + 5) (by omega) (by omega) (by omega) (by omega)]
        exact g.2.2.2.2.2
  · intro o' x y k u v
    rw [s6 7 (by omega) (by omega) (by omega) (by omega)] at y
    have go' := hO o' x y
    rw [f1 (s + 9) (by omega) (by omega)]
    by_cases hoo : o' = o
    · subst hoo
      rw [s1] at v
      rw [s5 k u v]
      rcases sg_r p k with hk | hk
      · rw [hk.1, q5 _ (by omega)]
        exact rQ o' x y k u (by omega)
      · rw [hk.1, q4 k hk.2 v]
        have := rQ o' x y (k + 1) (by omega) (by omega)
        rw [show o' * 16 + (k + 1) = o' * 16 + k + 1 by omega] at this
        exact this
    · rw [s6 (12 + 68 * o' + 5) (by omega) (by omega) (by omega) (by omega)] at v
      rw [q5 _ (by omega), s6 _ (by omega) (by omega) (by omega) (by omega)]
      exact rQ o' x y k u v
  · refine ⟨?_, fun t' x y => ?_⟩
    · rw [fd _ (by omega) (by omega) (by omega) (by omega), s6 9 (by omega) (by omega) (by omega) (by omega)]; exact t1
    · rw [s6 9 (by omega) (by omega) (by omega) (by omega)] at y
      have g := t2 t' x y
      rw [fd (s + 50) (by omega) (by omega) (by omega) (by omega), fd (s + 51) (by omega) (by omega) (by omega) (by omega), fd (s + 52) (by omega) (by omega) (by omega) (by omega), s6 (452 + 24 * t' + 0) (by omega) (by omega) (by omega) (by omega), s6 (452 + 24 * t' + 1) (by omega) (by omega) (by omega) (by omega), s6 (452 + 24 * t' + 2) (by omega) (by omega) (by omega) (by omega), hd]
      by_cases ht : t' = t
      · rw [ht] at g ⊢
        rw [s3, s4]
        simp (disch := omega) only [ms_a, ms_e]
        exact ⟨g.1, g.2.1, g.2.2.1, trivial, trivial⟩
      · rw [s6 (452 + 24 * t' + 3) (by omega) (by omega) (by omega) (by omega), s6 (452 + 24 * t' + 4) (by omega) (by omega) (by omega) (by omega)]
        simp (disch := omega) only [ms_a, ms_i]
        rw [q1 (s + 53) (by omega) (by omega), q1 (s + 54) (by omega) (by omega)]
        exact g
-- where a ticket stands
theorem lp221 {t b : Int} : ∀ (n : Nat) (x : Int) (w : Row), 0 ≤ x → w (b + 5) - x ≤ (n : Int) → (LP_221_17 t n b x w = -1 ∧ ∀ k, x ≤ k → k < w (b + 5) → ¬ w (b + 7 + k) = t) ∨ (x ≤ LP_221_17 t n b x w ∧ LP_221_17 t n b x w < w (b + 5) ∧ w (b + 7 + LP_221_17 t n b x w) = t ∧ ∀ k, x ≤ k → k < LP_221_17 t n b x w → ¬ w (b + 7 + k) = t) := by
  intro n
  induction n with
  | zero =>
    intro x w h0 hn
    have e : LP_221_17 t 0 b x w = -1 := by
      show ST_221_17 t _ b x w = -1
      unfold ST_221_17
      rw [if_neg (by omega)]
    rw [e]
    exact Or.inl ⟨rfl, fun k a c => by omega⟩
  | succ n ih =>
    intro x w h0 hn
    by_cases c : x < w (b + 5)
    · by_cases c2 : w (b + 7 + x) = t
      · have e : LP_221_17 t (n + 1) b x w = x := by
          show ST_221_17 t _ b x w = x
          unfold ST_221_17
          rw [if_pos c, if_pos c2]
        rw [e]
        exact Or.inr ⟨by omega, c, c2, fun k a b => by omega⟩
      · have e : LP_221_17 t (n + 1) b x w = LP_221_17 t n b (x + 1) w := by
          show ST_221_17 t _ b x w = _
          unfold ST_221_17
          rw [if_pos c, if_neg c2]
        rw [e]
        rcases ih (x + 1) w (by omega) (by omega) with ⟨i1, i2⟩ | ⟨i1, i2, i3, i4⟩
        · refine Or.inl ⟨i1, fun k a b => ?_⟩
          by_cases hk : k = x
          · rw [hk]; exact c2
          · exact i2 k (by omega) b
        · refine Or.inr ⟨by omega, i2, i3, fun k a b => ?_⟩
          by_cases hk : k = x
          · rw [hk]; exact c2
          · exact i4 k (by omega) b
    · have e : LP_221_17 t (n + 1) b x w = -1 := by
        show ST_221_17 t _ b x w = -1
        unfold ST_221_17
        rw [if_neg c]
      rw [e]
      exact Or.inl ⟨rfl, fun k a c => by omega⟩
theorem lp39 {s o t : Int} : ∀ (n : Nat) (x : Int) (d : mD), 0 ≤ x → d (s + 8) o - x ≤ (n : Int) → (lp_39_2 (s + 2) o t n x d = -1 ∧ ∀ k, x ≤ k → k < d (s + 8) o → ¬ d (s + 9) (o * 16 + k) = t) ∨ (x ≤ lp_39_2 (s + 2) o t n x d ∧ lp_39_2 (s + 2) o t n x d < d (s + 8) o ∧ d (s + 9) (o * 16 + lp_39_2 (s + 2) o t n x d) = t ∧ ∀ k, x ≤ k → k < lp_39_2 (s + 2) o t n x d → ¬ d (s + 9) (o * 16 + k) = t) := by
  intro n
  induction n with
  | zero =>
    intro x d h0 hn
    have e : lp_39_2 (s + 2) o t 0 x d = -1 := by
      show st_39_2 (s + 2) o t _ x d = -1
      unfold st_39_2
      rw [if_neg (by rw [show s + 2 + 6 = s + 8 by omega]; omega)]
    rw [e]
    exact Or.inl ⟨rfl, fun k a c => by omega⟩
  | succ n ih =>
    intro x d h0 hn
    by_cases c : x < d (s + 8) o
    · by_cases c2 : d (s + 9) (o * 16 + x) = t
      · have e : lp_39_2 (s + 2) o t (n + 1) x d = x := by
          show st_39_2 (s + 2) o t _ x d = x
          unfold st_39_2 v_38
          rw [show s + 2 + 6 = s + 8 by omega, show s + 2 + 7 = s + 9 by omega, if_pos c, if_pos c2]
        rw [e]
        exact Or.inr ⟨by omega, c, c2, fun k a b => by omega⟩
      · have e : lp_39_2 (s + 2) o t (n + 1) x d = lp_39_2 (s + 2) o t n (x + 1) d := by
          show st_39_2 (s + 2) o t _ x d = _
          unfold st_39_2 v_38
          rw [show s + 2 + 6 = s + 8 by omega, show s + 2 + 7 = s + 9 by omega, if_pos c, if_neg c2]
        rw [e]
        rcases ih (x + 1) d (by omega) (by omega) with ⟨i1, i2⟩ | ⟨i1, i2, i3, i4⟩
        · refine Or.inl ⟨i1, fun k a b => ?_⟩
          by_cases hk : k = x
          · rw [hk]; exact c2
          · exact i2 k (by omega) b
        · refine Or.inr ⟨by omega, i2, i3, fun k a b => ?_⟩
          by_cases hk : k = x
          · rw [hk]; exact c2
          · exact i4 k (by omega) b
    · have e : lp_39_2 (s + 2) o t (n + 1) x d = -1 := by
        show st_39_2 (s + 2) o t _ x d = -1
        unfold st_39_2
        rw [if_neg (by rw [show s + 2 + 6 = s + 8 by omega]; omega)]
      rw [e]
      exact Or.inl ⟨rfl, fun k a c => by omega⟩
theorem placeEq {s t : Int} {d : mD} {w : Row} (hg : GG w) (h : Rel s d w) (ht : 0 ≤ t ∧ t < w 9) : v_39 (s + 2) (w (452 + 24 * t + 1)) t d = V_221 t w ∧ ((V_221 t w = -1 ∧ ∀ k, 0 ≤ k → k < w (12 + 68 * w (452 + 24 * t + 1) + 5) → ¬ w (12 + 68 * w (452 + 24 * t + 1) + 7 + k) = t) ∨ (0 ≤ V_221 t w ∧ V_221 t w < w (12 + 68 * w (452 + 24 * t + 1) + 5) ∧ w (12 + 68 * w (452 + 24 * t + 1) + 7 + V_221 t w) = t)) := by
  have gt := hg.2.2.2.1 t ht.1 ht.2
  unfold V_221 v_39
  generalize w (452 + 24 * t + 1) = o at *
  have go := hg.2.1 o gt.2.1.1 gt.2.1.2
  obtain ⟨-, ⟨o1, o2⟩, rQ, -, rT, -⟩ := h
  have gc := o2 o gt.2.1.1 gt.2.1.2
  have a := lp221 (t := t) (b := 12 + 68 * o) (61 - 0 : Int).toNat 0 w (by omega) (by rw [show (((61 - 0 : Int).toNat : Nat) : Int) = 61 by decide]; omega)
  have b := lp39 (s := s) (o := o) (t := t) (16 - 0 : Int).toNat 0 d (by omega) (by rw [show (((16 - 0 : Int).toNat : Nat) : Int) = 16 by decide]; omega)
  rw [gc.2.2.2.2.2] at b
  have eq := rQ o gt.2.1.1 gt.2.1.2
  rcases a with ⟨a1, a2⟩ | ⟨a1, a2, a3, a4⟩
  · refine ⟨?_, Or.inl ⟨a1, a2⟩⟩
    rcases b with ⟨b1, b2⟩ | ⟨b1, b2, b3, b4⟩
    · rw [a1, b1]
    · rw [eq _ b1 b2] at b3
      exact absurd b3 (a2 _ b1 b2)
  · refine ⟨?_, Or.inr ⟨a1, a2, a3⟩⟩
    rcases b with ⟨b1, b2⟩ | ⟨b1, b2, b3, b4⟩
    · exact absurd (by rw [eq _ a1 a2]; exact a3) (b2 _ a1 a2)
    · rcases Int.lt_trichotomy (lp_39_2 (s + 2) o t (16 - 0 : Int).toNat 0 d) (LP_221_17 t (61 - 0 : Int).toNat (12 + 68 * o) 0 w) with z | z | z
      · rw [eq _ b1 b2] at b3
        exact absurd b3 (a4 _ b1 z)
      · exact z
      · exact absurd (by rw [eq _ a1 a2]; exact a3) (b4 _ a1 z)
-- a waiting ticket stands in its office's queue
theorem placeIn {s t : Int} {d : mD} {w : Row} (hg : GG w) (h : Rel s d w) (ht : 0 ≤ t ∧ t < w 9) (hw : w (452 + 24 * t + 4) = 0) : v_39 (s + 2) (w (452 + 24 * t + 1)) t d = V_221 t w ∧ 0 ≤ V_221 t w ∧ V_221 t w < w (12 + 68 * w (452 + 24 * t + 1) + 5) ∧ w (12 + 68 * w (452 + 24 * t + 1) + 7 + V_221 t w) = t := by
  obtain ⟨e, a⟩ := placeEq hg h ht
  refine ⟨e, ?_⟩
  rcases a with ⟨a1, a2⟩ | a
  · obtain ⟨-, k, k1, k2, k3⟩ := (hg.2.2.2.1 t ht.1 ht.2).2.2.2.2.1 hw
    exact absurd k3 (a2 k k1 k2)
  · exact a
theorem leave {s t : Int} {d : mD} {w : Row} (hg : GG w) (h : Rel s d w) (ht : 0 ≤ t ∧ t < w 9) (hw : w (452 + 24 * t + 4) = 0) :
    GG (ws (ws (W_220 (w (452 + 24 * t + 1)) (V_221 t w) w) (452 + 24 * t + 4) 2) (452 + 24 * t + 3) (w 0)) ∧ Rel s (mset (mset (g_41 (s + 2) (w (452 + 24 * t + 1)) (V_221 t w) d) (s + 54) t 2) (s + 53) t (w 0)) (ws (ws (W_220 (w (452 + 24 * t + 1)) (V_221 t w) w) (452 + 24 * t + 4) 2) (452 + 24 * t + 3) (w 0)) := by
  obtain ⟨-, p1, p2, p3⟩ := placeIn hg h ht hw
  have gt := hg.2.2.2.1 t ht.1 ht.2
  have n7 := hg.1.1
  have n9 := hg.1.2.2.1
  generalize w (452 + 24 * t + 1) = o at *
  have go := hg.2.1 o gt.2.1.1 gt.2.1.2
  have gc := h.2.1.2 o gt.2.1.1 gt.2.1.2
  have hT := take41 (s := s) (o := o) (p := V_221 t w) (d := d) p1 (by rw [gc.2.2.2.2.2]; exact p2) (by rw [gc.2.2.2.2.2]; omega)
  obtain ⟨u1, u2, u3⟩ := take220 (o := o) (p := V_221 t w) (w := w) p1 (by omega) (by omega)
  refine leave1 hg h gt.2.1 ⟨p1, p2⟩ p3 ⟨?_, ?_, ?_, fun k a b => ?_, fun i e1 e2 e3 e4 => ?_⟩ hT rfl
  · rw [wsn (by omega), wsn (by omega)]; exact u1
  · rw [wsn (by omega), wse rfl]
  · rw [wse rfl]
  · rw [wsn (by omega), wsn (by omega)]
    rcases sg_r (V_221 t w) k with q | q
    · rw [q.1, u3 _ (by omega) (by omega)]
    · rw [q.1, u2 k q.2 b, show 12 + 68 * o + 7 + (k + 1) = 12 + 68 * o + 7 + k + 1 by omega]
  · rw [wsn e3, wsn e2, u3 i e1 (by omega)]
