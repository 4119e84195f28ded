/-! ===== names: looking them up, and a new office ===== -/
theorem find36 {s c m : Int} {d : mD} {w : Row} (h0 : d (s + 2) 0 = w 7) (h : ∀ o, 0 ≤ o → o < w 7 → (d (s + 3) o = c ↔ w (12 + 68 * o + 0) = m)) : ∀ (n : Nat) (x : Int), 0 ≤ x → lp_36_2 (s + 2) c n x d = LP_184_2 m n x w := by
  have st : ∀ (r : Int → mD → Int) (R : Int → Row → Int) (x : Int), 0 ≤ x → (x < w 7 → r (x + 1) d = R (x + 1) w) → st_36_2 (s + 2) c r x d = ST_184_2 m R x w := fun r R x a hr => by
    unfold st_36_2 ST_184_2
    rw [h0, show s + 2 + 1 = s + 3 by omega]
    by_cases q : x < w 7
    · rw [if_pos q, if_pos q]
      by_cases z : d (s + 3) x = c
      · rw [if_pos z, if_pos ((h x a q).1 z)]
      · rw [if_neg z, if_neg (fun y => z ((h x a q).2 y))]; exact hr q
    · rw [if_neg q, if_neg q]
  intro n
  induction n with
  | zero => intro x a; exact st _ _ x a (fun _ => rfl)
  | succ n ih => intro x a; exact st _ _ x a (fun _ => ih (x + 1) (by omega))
theorem find48 {s c m : Int} {d : mD} {w : Row} (h0 : d (s + 10) 0 = w 8) (h : ∀ p, 0 ≤ p → p < w 8 → (d (s + 11) p = c ↔ w (420 + 2 * p + 0) = m)) : ∀ (n : Nat) (x : Int), 0 ≤ x → lp_48_2 (s + 10) c n x d = LP_183_2 m n x w := by
  have st : ∀ (r : Int → mD → Int) (R : Int → Row → Int) (x : Int), 0 ≤ x → (x < w 8 → r (x + 1) d = R (x + 1) w) → st_48_2 (s + 10) c r x d = ST_183_2 m R x w := fun r R x a hr => by
    unfold st_48_2 ST_183_2
    rw [h0, show s + 10 + 1 = s + 11 by omega]
    by_cases q : x < w 8
    · rw [if_pos q, if_pos q]
      by_cases z : d (s + 11) x = c
      · rw [if_pos z, if_pos ((h x a q).1 z)]
      · rw [if_neg z, if_neg (fun y => z ((h x a q).2 y))]; exact hr q
    · rw [if_neg q, if_neg q]
  intro n
  induction n with
  | zero => intro x a; exact st _ _ x a (fun _ => rfl)
  | succ n ih => intro x a; exact st _ _ x a (fun _ => ih (x + 1) (by omega))
theorem findO {s c : Int} {d : mD} {w : Row} (h : RelO s d w) (hc : okN c) : v_36 (s + 2) c d = V_184 (nm c) w := by
  unfold v_36 V_184
  refine find36 h.1 (fun o x y => ?_) _ 0 (by omega)
  have g := (h.2 o x y).1
  exact ⟨fun z => by rw [← g.2, z], fun z => nm_inj g.1 hc (by rw [g.2, z])⟩
theorem findP {s c : Int} {d : mD} {w : Row} (h : RelP s d w) (hc : okN c) : v_48 (s + 10) c d = V_183 (nm c) w := by
  unfold v_48 V_183
  refine find48 h.1 (fun o x y => ?_) _ 0 (by omega)
  have g := (h.2 o x y).1
  exact ⟨fun z => by rw [← g.2, z], fun z => nm_inj g.1 hc (by rw [g.2, z])⟩
theorem noO {s c m : Int} {d : mD} {w : Row} (h : RelO s d w) (hc : c ≤ 0) (hm : m ≤ 0) : v_36 (s + 2) c d = V_184 m w := by
  unfold v_36 V_184
  refine find36 h.1 (fun o x y => ?_) _ 0 (by omega)
  have g := (h.2 o x y).1
  have g1 := nm_pos g.1
  have g2 := g.1.1
  exact ⟨fun z => by omega, fun z => by omega⟩
theorem noP {s c m : Int} {d : mD} {w : Row} (h : RelP s d w) (hc : c ≤ 0) (hm : m ≤ 0) : v_48 (s + 10) c d = V_183 m w := by
  unfold v_48 V_183
  refine find48 h.1 (fun o x y => ?_) _ 0 (by omega)
  have g := (h.2 o x y).1
  have g1 := nm_pos g.1
  have g2 := g.1.1
  exact ⟨fun z => by omega, fun z => by omega⟩
-- the answers' ranges
theorem V184_lo {m : Int} {w : Row} : ∀ (n : Nat) (x : Int), 0 ≤ x → w 7 ≤ x + n → -1 ≤ LP_184_2 m n x w ∧ LP_184_2 m n x w < w 7 ∨ w 7 ≤ x ∧ LP_184_2 m n x w = -1 := by
  intro n
  induction n with
  | zero =>
    intro x a b
    refine Or.inr ⟨by omega, ?_⟩
    show ST_184_2 m _ x w = -1
    unfold ST_184_2
    rw [if_neg (by omega)]
  | succ n ih =>
    intro x a b
    show (-1 ≤ ST_184_2 m (LP_184_2 m n) x w ∧ ST_184_2 m (LP_184_2 m n) x w < w 7) ∨ _ ∧ ST_184_2 m (LP_184_2 m n) x w = -1
    unfold ST_184_2
    by_cases q : x < w 7
    · rw [if_pos q]
      by_cases z : w (12 + 68 * x + 0) = m
      · rw [if_pos z]; exact Or.inl ⟨by omega, q⟩
      · rw [if_neg z]
        have := ih (x + 1) (by omega) (by omega)
        omega
    · rw [if_neg q]; exact Or.inr ⟨by omega, rfl⟩
theorem V183_lo {m : Int} {w : Row} : ∀ (n : Nat) (x : Int), 0 ≤ x → w 8 ≤ x + n → -1 ≤ LP_183_2 m n x w ∧ LP_183_2 m n x w < w 8 ∨ w 8 ≤ x ∧ LP_183_2 m n x w = -1 := by
  intro n
  induction n with
  | zero =>
    intro x a b
    refine Or.inr ⟨by omega, ?_⟩
    show ST_183_2 m _ x w = -1
    unfold ST_183_2
    rw [if_neg (by omega)]
  | succ n ih =>
    intro x a b
    show (-1 ≤ ST_183_2 m (LP_183_2 m n) x w ∧ ST_183_2 m (LP_183_2 m n) x w < w 8) ∨ _ ∧ ST_183_2 m (LP_183_2 m n) x w = -1
    unfold ST_183_2
    by_cases q : x < w 8
    · rw [if_pos q]
      by_cases z : w (420 + 2 * x + 0) = m
      · rw [if_pos z]; exact Or.inl ⟨by omega, q⟩
      · rw [if_neg z]
        have := ih (x + 1) (by omega) (by omega)
        omega
    · rw [if_neg q]; exact Or.inr ⟨by omega, rfl⟩
theorem V184_rng {m : Int} {w : Row} (h : 0 ≤ w 7 ∧ w 7 ≤ 6) : V_184 m w = -1 ∨ (0 ≤ V_184 m w ∧ V_184 m w < w 7) := by
  have := V184_lo (m := m) (w := w) (6 - 0 : Int).toNat 0 (by omega) (by omega)
  unfold V_184
  omega
theorem V183_rng {m : Int} {w : Row} (h : 0 ≤ w 8 ∧ w 8 ≤ 16) : V_183 m w = -1 ∨ (0 ≤ V_183 m w ∧ V_183 m w < w 8) := by
  have := V183_lo (m := m) (w := w) (16 - 0 : Int).toNat 0 (by omega) (by omega)
  unfold V_183
  omega
-- a new office, while nobody has a ticket
def GZ (w : Row) : Prop := ∀ o, w 7 ≤ o → o < 6 → w (12 + 68 * o + 5) = 0 ∧ w (12 + 68 * o + 6) = 0
theorem addO {s c a1 a2 a3 : Int} {d : mD} {w : Row} (hg : GG w) (hz : GZ w) (h : Rel s d w) (h7 : w 7 < 6) (h9 : w 9 = 0) (h10 : w 10 = 0) (hc : okN c) (b1 : 1 ≤ a1 ∧ a1 ≤ 4) (b2 : 1 ≤ a2 ∧ a2 ≤ 6) (b3 : 1 ≤ a3 ∧ a3 ≤ 20) : GG (W_181 (nm c) a1 a2 a3 w) ∧ GZ (W_181 (nm c) a1 a2 a3 w) ∧ Rel s (g_35 (s + 2) c a1 a2 a3 d) (W_181 (nm c) a1 a2 a3 w) ∧ W_181 (nm c) a1 a2 a3 w 7 = w 7 + 1 ∧ ∀ i, ¬ i = 7 → ¬ (12 ≤ i ∧ i < 420) → W_181 (nm c) a1 a2 a3 w i = w i := by
  obtain ⟨hN, hO, hQ, hT, hC, hK, hR⟩ := id hg
  obtain ⟨n7, n8, n9, n10, n11, n0, n1, n2, n3, n4, n5, n6⟩ := id hN
  obtain ⟨rA, ⟨o1, o2⟩, rQ, rP, rT, rC, rK, rR, rB, rH⟩ := h
  have h11 : w 11 = 0 := by
    have := hR.1
    rw [h10] at this
    exact this
  generalize hw' : W_181 (nm c) a1 a2 a3 w = w'
  have e7 : w' 7 = w 7 + 1 := by
    rw [← hw']
    unfold W_181
    simp (disch := omega) only [wse, wsn]
  have p0 : w' (12 + 68 * w 7 + 0) = nm c := by
    rw [← hw']
    unfold W_181
    simp (disch := omega) only [wse, wsn]
  have p1 : w' (12 + 68 * w 7 + 1) = a1 := by
    rw [← hw']
    unfold W_181
    simp (disch := omega) only [wse, wsn]
  have p2 : w' (12 + 68 * w 7 + 2) = a2 := by
    rw [← hw']
    unfold W_181
    simp (disch := omega) only [wse, wsn]
  have p3 : w' (12 + 68 * w 7 + 3) = a3 := by
    rw [← hw']
    unfold W_181
    simp (disch := omega) only [wse, wsn]
  have p4 : w' (12 + 68 * w 7 + 4) = 1 := by
    rw [← hw']
    unfold W_181
    simp (disch := omega) only [wse, wsn]
  have e : ∀ i, ¬ i = 7 → ¬ (12 + 68 * w 7 + 0 ≤ i ∧ i ≤ 12 + 68 * w 7 + 4) → w' i = w i := fun i x y => by
    rw [← hw']
    unfold W_181
    simp (disch := omega) only [wsn]
  have z5 : w' (12 + 68 * w 7 + 5) = 0 := by rw [e _ (by omega) (by omega)]; exact (hz (w 7) (by omega) h7).1
  have z6 : w' (12 + 68 * w 7 + 6) = 0 := by rw [e _ (by omega) (by omega)]; exact (hz (w 7) (by omega) h7).2
  generalize hd : g_35 (s + 2) c a1 a2 a3 d = d'
  have ed : d' = mset (mset (mset (mset (mset (mset (mset d (s + 3) (w 7) c) (s + 4) (w 7) a1) (s + 5) (w 7) a2) (s + 6) (w 7) a3) (s + 7) (w 7) 1) (s + 8) (w 7) 0) (s + 2) 0 (w 7 + 1) := by
    rw [← hd]
    unfold g_35
    rw [o1, if_pos h7]
    simp only [show s + 2 + 1 = s + 3 by omega, show s + 2 + 2 = s + 4 by omega, show s + 2 + 3 = s + 5 by omega, show s + 2 + 4 = s + 6 by omega, show s + 2 + 5 = s + 7 by omega, show s + 2 + 6 = s + 8 by omega]
  have fd : ∀ b, ¬ (s + 2 ≤ b ∧ b ≤ s + 8) → d' b = d b := fun b x => by
    rw [ed]
    funext j
    simp (disch := omega) only [ms_a]
  have fe : ∀ b j, s + 3 ≤ b → b ≤ s + 8 → ¬ j = w 7 → d' b j = d b j := fun b j x y z => by
    rw [ed]
    simp (disch := omega) only [ms_a, ms_i]
  have h9' : w' 9 = 0 := by rw [e 9 (by omega) (by omega)]; exact h9
  have h10' : w' 10 = 0 := by rw [e 10 (by omega) (by omega)]; exact h10
  have h11' : w' 11 = 0 := by rw [e 11 (by omega) (by omega)]; exact h11
  refine ⟨⟨?_, fun o x y => ?_, fun o x y k u v => ?_, fun t x y => absurd y (by omega), fun t x y => absurd y (by omega), fun k x y => absurd y (by omega), ?_, fun k x y => absurd y (by omega)⟩, fun o x y => ?_, ⟨rA.k (fun b x => fd b (by omega)) (fun i hi => e i (by omega) (by omega)), ⟨?_, fun o x y => ?_⟩, fun o x y k u v => ?_, rP.k (fun b x y => fd b (by omega)) (fun i hi => e i (by omega) (by omega)) n8, rT.k (fun b x y => fd b (by omega)) (fun i hi => e i (by omega) (by omega)) n9, rC.k (fun b x => fd b (by omega)) (fun i hi => e i (by omega) (by omega)) n9, rK.k (by rw [fd _ (by omega)]) (fun b x y => fd b (by omega)) (fun i hi => e i (by omega) (by omega)) n10, rR.k (by rw [fd _ (by omega)]) (fd _ (by omega)) (fun i hi => e i (by omega) (by omega)) n11, rB.k (fun b x y => fd b (by omega)) (fun i hi => e i (by omega) (by omega)) n8 n9 n10 hK.of, rH.k (fun b x y => fd b (by omega)) (fun i hi => e i (by omega) (by omega)) n8 n9 n10 hK.of⟩, e7, fun i x y => e i x (by omega)⟩
  · unfold GN
    rw [e7, e 0 (by omega) (by omega), e 1 (by omega) (by omega), e 2 (by omega) (by omega), e 3 (by omega) (by omega), e 4 (by omega) (by omega), e 5 (by omega) (by omega), e 6 (by omega) (by omega), e 8 (by omega) (by omega), h9', h10', h11']
    omega
  · rw [h9']
    rw [e7] at y
    by_cases q : o = w 7
    · rw [q, p1, p2, p3, p4, z5, z6]
      exact ⟨b1, b2, b3, Or.inr rfl, by omega, fun _ => rfl, rfl⟩
    · have g := hO o x (by omega)
      rw [h9] at g
      rw [e (12 + 68 * o + 1) (by omega) (by omega), e (12 + 68 * o + 2) (by omega) (by omega), e (12 + 68 * o + 3) (by omega) (by omega), e (12 + 68 * o + 4) (by omega) (by omega), e (12 + 68 * o + 5) (by omega) (by omega), e (12 + 68 * o + 6) (by omega) (by omega)]
      exact g
  · rw [e7] at y
    by_cases q : o = w 7
    · rw [q, z5] at v; omega
    · rw [e _ (by omega) (by omega)] at v
      have := (hQ o x (by omega) k u v).1
      omega
  · rw [h11', h10']; rfl
  · rw [e7] at x
    rw [e _ (by omega) (by omega), e _ (by omega) (by omega)]
    exact hz o (by omega) y
  · rw [ed, e7, ms_e rfl rfl]
  · rw [e7] at y
    by_cases q : o = w 7
    · rw [q, p0, p1, p2, p3, p4, z5, ed]
      simp (disch := omega) only [ms_a, ms_e]
      exact ⟨⟨hc, trivial⟩, trivial, trivial, trivial, trivial, trivial⟩
    · rw [e (12 + 68 * o + 0) (by omega) (by omega), e (12 + 68 * o + 1) (by omega) (by omega), e (12 + 68 * o + 2) (by omega) (by omega), e (12 + 68 * o + 3) (by omega) (by omega), e (12 + 68 * o + 4) (by omega) (by omega), e (12 + 68 * o + 5) (by omega) (by omega), fe (s + 3) o (by omega) (by omega) q, fe (s + 4) o (by omega) (by omega) q, fe (s + 5) o (by omega) (by omega) q, fe (s + 6) o (by omega) (by omega) q, fe (s + 7) o (by omega) (by omega) q, fe (s + 8) o (by omega) (by omega) q]
      exact o2 o x (by omega)
  · rw [e7] at y
    by_cases q : o = w 7
    · rw [q, z5] at v; omega
    · rw [e _ (by omega) (by omega)] at v
      have := (hQ o x (by omega) k u v).1
      omega
