/-! ===== a person is a witness ===== -/
theorem madeR_k' {w w' : Row} {p : Int} (h10 : w' 10 = w 10) (h : ∀ k, 0 ≤ k → k < w 10 → perO w' k = perO w k ∧ w' (1916 + 5 * k + 4) = w (1916 + 5 * k + 4) ∧ w' 0 = w 0) : madeR w' p = madeR w p := by
  unfold madeR
  rw [h10]
  refine csum_congr (fun k a b => ?_)
  obtain ⟨x, y, z⟩ := h k a (by omega)
  rw [x, y, z]
theorem witStep {s t p : Int} {d : mD} {w w' : Row} (hg : GG w) (h : Rel s d w) (ht : 0 ≤ t ∧ t < w 9) (hp : 0 ≤ p ∧ p < w 8) (hz : w (452 + 24 * t + 8 + p) = 0) (e8 : w' (452 + 24 * t + 8 + p) = w 0 + 1) (e7 : w' (452 + 24 * t + 7) = w (452 + 24 * t + 7) + 1) (e : ∀ i, ¬ i = 452 + 24 * t + 8 + p → ¬ i = 452 + 24 * t + 7 → w' i = w i) :
    GG w' ∧ Rel s (mset (mset (mset d (s + 56) t (mior (d (s + 56) t) (mishl 1 p))) (s + 14) p (d (s + 14) p + 1)) (s + 15) p (mior (d (s + 15) p) (mishl 1 (d (s + 50) t)))) w' := by
  obtain ⟨hN, hO, hQ, hT, hC, hK, hR⟩ := id hg
  obtain ⟨n7, n8, n9, n10, n11, n0, n1, n2, n3, n4, n5, n6⟩ := id hN
  obtain ⟨rA, rO, rQ, rP, ⟨t1, t2⟩, rC, rK, rR, rB, rH⟩ := h
  have gt := hT t ht.1 ht.2
  have ew := (t2 t ht.1 ht.2).1
  rw [ew]
  generalize hd : (mset (mset (mset d (s + 56) t (mior (d (s + 56) t) (mishl 1 p))) (s + 14) p (d (s + 14) p + 1)) (s + 15) p (mior (d (s + 15) p) (mishl 1 (w (452 + 24 * t + 0))))) = d'
  have fd : ∀ b, ¬ b = s + 56 → ¬ b = s + 14 → ¬ b = s + 15 → d' b = d b := fun b x y z => by
    rw [← hd]
    funext j
    simp (disch := omega) only [ms_a]
  have e0 : w' 0 = w 0 := e 0 (by omega) (by omega)
  have e9 : w' 9 = w 9 := e 9 (by omega) (by omega)
  have ei : ∀ i, i < 452 + 24 * t + 7 ∨ 452 + 24 * t + 24 ≤ i → w' i = w i := fun i hi => e i (by omega) (by omega)
  have ef : ∀ t' f, 0 ≤ f → f ≤ 6 → w' (452 + 24 * t' + f) = w (452 + 24 * t' + f) := fun t' f a b => e _ (by omega) (by omega)
  have eq8 : ∀ t' q, 0 ≤ q → q < 16 → ¬ (t' = t ∧ q = p) → w' (452 + 24 * t' + 8 + q) = w (452 + 24 * t' + 8 + q) := fun t' q a b c => by
    have h1 : ¬ 452 + 24 * t' + 8 + q = 452 + 24 * t + 8 + p := fun z => by
      have : t' = t := by omega
      subst this
      exact c ⟨rfl, by omega⟩
    exact e _ h1 (by omega)
  have at0 : ∀ t' q, 0 ≤ q → q < 16 → (attd w' t' q ↔ attd w t' q ∨ (t' = t ∧ q = p)) := fun t' q a b => by
    unfold attd
    rw [e0]
    by_cases c : t' = t ∧ q = p
    · obtain ⟨rfl, rfl⟩ := c
      rw [e8, hz]
      constructor
      · intro _; exact Or.inr ⟨rfl, rfl⟩
      · intro _
        refine ⟨by omega, by rw [show w 0 + 1 - 1 = w 0 by omega]⟩
    · rw [eq8 t' q a b c]
      exact ⟨fun z => Or.inl z, fun z => z.elim id (fun z => absurd z c)⟩
  have needC : ∀ i, (i = 0 ∨ i = 9 ∨ (452 ≤ i ∧ i < 1916 ∧ 3 ≤ (i - 452) % 24 ∧ (i - 452) % 24 ≤ 6)) → w' i = w i := fun i hi => e i (by omega) (by omega)
  refine ⟨⟨hN.k (fun i hi => e i (by omega) (by omega)), hO.k (fun i hi => e i (by omega) (by omega)) hN, hQ.k (fun i hi => e i (by omega) (by omega)) hN hO, hT.k (fun i hi => e i (by omega) (by omega)) hN hO, ?_, hK.k (fun i hi => e i (by omega) (by omega)) hN, hR.k (fun i hi => e i (by omega) (by omega)) hN⟩, rA.k (fun b x => fd b (by omega) (by omega) (by omega)) (fun i hi => e i (by omega) (by omega)), rO.k (fun b x y => fd b (by omega) (by omega) (by omega)) (fun i hi => e i (by omega) (by omega)) n7, rQ.k (fd _ (by omega) (by omega) (by omega)) (fun i hi => e i (by omega) (by omega)) n7 hO, rP.k (fun b x y => fd b (by omega) (by omega) (by omega)) (fun i hi => e i (by omega) (by omega)) n8, RelT.k (fun b x y => fd b (by omega) (by omega) (by omega)) (fun i hi => e i (by omega) (by omega)) n9 ⟨t1, t2⟩, ?_, rK.k (by rw [fd _ (by omega) (by omega) (by omega)]) (fun b x y => fd b (by omega) (by omega) (by omega)) (fun i hi => e i (by omega) (by omega)) n10, rR.k (by rw [fd _ (by omega) (by omega) (by omega)]) (fd _ (by omega) (by omega) (by omega)) (fun i hi => e i (by omega) (by omega)) n11, ?_, rH.k (fun b x y => fd b (by omega) (by omega) (by omega)) (fun i hi => e i (by omega) (by omega)) n8 n9 n10 hK.of⟩
  · intro t' x y
    rw [e9] at y
    have g := hC t' x y
    rw [ef t' 3 (by decide) (by decide), ef t' 4 (by decide) (by decide), ef t' 5 (by decide) (by decide), ef t' 6 (by decide) (by decide), e0]
    refine ⟨g.1, g.2.1, g.2.2.1, g.2.2.2.1, fun q a b => ?_⟩
    by_cases c : t' = t ∧ q = p
    · obtain ⟨rfl, rfl⟩ := c
      rw [e8]
      omega
    · rw [eq8 t' q a b c]
      exact g.2.2.2.2 q a b
  · intro t' x y
    rw [e9] at y
    obtain ⟨g1, g2, g3, g4, g5⟩ := rC t' x y
    rw [fd (s + 55) (by omega) (by omega) (by omega), ef t' 5 (by decide) (by decide), ef t' 6 (by decide) (by decide)]
    by_cases c : t' = t
    · subst c
      have hm : d' (s + 56) t' = mior (d (s + 56) t') (mishl 1 p) := by
        rw [← hd]
        simp (disch := omega) only [ms_a, ms_e]
      have hr := mior_rng g4 g5 hp.1 (by omega : p < 16)
      rw [hm, e7]
      refine ⟨g1, ?_, fun q a b => ?_, hr.1, hr.2⟩
      · have hs := csum_upd (f := fun q => if w' (452 + 24 * t' + 8 + q) = 0 then 0 else 1) (g := fun q => if w (452 + 24 * t' + 8 + q) = 0 then 0 else 1) (n := 16) (k := p) hp.1 (by omega) (fun i a b c => by
          show (if w' (452 + 24 * t' + 8 + i) = 0 then (0 : Int) else 1) = if w (452 + 24 * t' + 8 + i) = 0 then 0 else 1
          rw [eq8 t' i a (by omega) (fun z => c z.2)])
        rw [e8, hz, if_neg (by omega), if_pos rfl] at hs
        rw [hs, g2]
        omega
      · have hb := iset (d (s + 56) t') p.toNat q.toNat (by omega) (by omega)
        rw [show ((p.toNat : Nat) : Int) = p by omega] at hb
        rw [hb]
        by_cases c : q = p
        · subst c
          rw [if_pos rfl, e8]
          exact ⟨fun _ => by omega, fun _ => rfl⟩
        · rw [if_neg (by omega), eq8 t' q a b (fun z => c z.2)]
          exact g3 q a b
    · have hm : d' (s + 56) t' = d (s + 56) t' := by
        rw [← hd]
        simp (disch := omega) only [ms_a, ms_i]
      rw [hm, e (452 + 24 * t' + 7) (by omega) (by omega)]
      refine ⟨g1, ?_, fun q a b => ?_, g4, g5⟩
      · rw [g2]
        exact csum_congr (fun q a b => by rw [eq8 t' q a (by omega) (fun z => c z.1)])
      · rw [eq8 t' q a b (fun z => c z.1)]
        exact g3 q a b
  · intro q x y
    rw [e 8 (by omega) (by omega)] at y
    obtain ⟨g1, g2, g3⟩ := rB q x y
    rw [fd (s + 13) (by omega) (by omega) (by omega)]
    have hat : attR w' q = attR w q + (if q = p then 1 else 0) := by
      unfold attR
      rw [e9, e0]
      by_cases c : q = p
      · subst c
        have hs := csum_upd (f := fun t => if 0 < w' (452 + 24 * t + 8 + q) ∧ (w' (452 + 24 * t + 8 + q) - 1) / 20 = w 0 / 20 then 1 else 0) (g := fun t => if 0 < w (452 + 24 * t + 8 + q) ∧ (w (452 + 24 * t + 8 + q) - 1) / 20 = w 0 / 20 then 1 else 0) (n := (w 9).toNat) (k := t) ht.1 (by omega) (fun i a b c => by
          show (if 0 < w' (452 + 24 * i + 8 + q) ∧ (w' (452 + 24 * i + 8 + q) - 1) / 20 = w 0 / 20 then (1 : Int) else 0) = if 0 < w (452 + 24 * i + 8 + q) ∧ (w (452 + 24 * i + 8 + q) - 1) / 20 = w 0 / 20 then 1 else 0
          rw [eq8 i q x (by omega) (fun z => c z.1)])
        rw [e8, hz, if_pos ⟨by omega, by rw [show w 0 + 1 - 1 = w 0 by omega]⟩, if_neg (fun z => absurd z.1 (by decide))] at hs
        rw [hs, if_pos rfl]
        omega
      · rw [if_neg c, Int.add_zero]
        exact csum_congr (fun t' a b => by rw [eq8 t' q x (by omega) (fun z => c z.2)])
    refine ⟨?_, ?_, fun r a b => ?_⟩
    · rw [g1]
      refine (madeR_k' ?_ ?_).symm
      · exact e 10 (by omega) (by omega)
      · intro k a b
        have gk := hK k a b
        refine ⟨?_, e _ (by omega) (by omega), e0⟩
        unfold perO
        rw [e (1916 + 5 * k + 1) (by omega) (by omega), ef _ 0 (by decide) (by decide)]
    · rw [hat, ← g2, ← hd]
      by_cases c : q = p
      · rw [if_pos c, c]
        simp (disch := omega) only [ms_a, ms_e]
      · rw [if_neg c]
        simp (disch := omega) only [ms_a, ms_i]
        omega
    · have hx : ib (d' (s + 15) q) r.toNat = true ↔ ib (d (s + 15) q) r.toNat = true ∨ (q = p ∧ r = w (452 + 24 * t + 0)) := by
        by_cases c : q = p
        · subst c
          have hm : d' (s + 15) q = mior (d (s + 15) q) (mishl 1 (w (452 + 24 * t + 0))) := by
            rw [← hd]
            simp (disch := omega) only [ms_e]
          have hb := iset (d (s + 15) q) (w (452 + 24 * t + 0)).toNat r.toNat (by omega) (by omega)
          rw [show (((w (452 + 24 * t + 0)).toNat : Nat) : Int) = w (452 + 24 * t + 0) by omega] at hb
          rw [hm, hb]
          by_cases c2 : r = w (452 + 24 * t + 0)
          · rw [if_pos (by omega)]
            exact ⟨fun _ => Or.inr ⟨rfl, c2⟩, fun _ => rfl⟩
          · rw [if_neg (by omega)]
            exact ⟨fun z => Or.inl z, fun z => z.elim id (fun z => absurd z.2 c2)⟩
        · have hm : d' (s + 15) q = d (s + 15) q := by
            rw [← hd]
            simp (disch := omega) only [ms_a, ms_i]
          rw [hm]
          exact ⟨fun z => Or.inl z, fun z => z.elim id (fun z => absurd z.1 c)⟩
      rw [hx, g3 r a b, e9]
      constructor
      · rintro (⟨t', z1, z2, z3, z4⟩ | ⟨z1, z2⟩)
        · exact ⟨t', z1, z2, by rw [ef t' 0 (by decide) (by decide)]; exact z3, (at0 t' q x (by omega)).mpr (Or.inl z4)⟩
        · exact ⟨t, ht.1, ht.2, by rw [ef t 0 (by decide) (by decide), z2], (at0 t q x (by omega)).mpr (Or.inr ⟨rfl, z1⟩)⟩
      · rintro ⟨t', z1, z2, z3, z4⟩
        rw [ef t' 0 (by decide) (by decide)] at z3
        rcases (at0 t' q x (by omega)).mp z4 with z | ⟨z, z'⟩
        · exact Or.inl ⟨t', z1, z2, z3, z⟩
        · rw [z] at z3
          exact Or.inr ⟨z', z3.symm⟩
theorem witCount {s t : Int} {d d2 : mD} {w : Row} (h : Rel s d w) (ht : 0 ≤ t ∧ t < w 9) : v_298 (d (s + 56) t) d2 = w (452 + 24 * t + 7) := by
  obtain ⟨g1, g2, g3, g4, g5⟩ := h.2.2.2.2.2.1 t ht.1 ht.2
  rw [v298_bits g4 g5, g2]
  refine csum_congr (fun p a b => ?_)
  have k := g3 p a (by omega)
  by_cases z : ib (d (s + 56) t) p.toNat = true
  · rw [if_pos z, if_neg (k.mp z)]
  · rw [if_neg z]
    by_cases z2 : w (452 + 24 * t + 8 + p) = 0
    · rw [if_pos z2]
    · exact absurd (k.mpr z2) z
theorem attest {s t p : Int} {d : mD} {w : Row} (hg : GG w) (h : Rel s d w) (ht : 0 ≤ t ∧ t < w 9) (hp : 0 ≤ p ∧ p < w 8) (hv : V_234 t p w = 0) (h9 : w 0 ≤ 999) : v_75 s t p d = V_235 t p w ∧ GG (W_235 t p w) ∧ Rel s (g_75 s t p d) (W_235 t p w) ∧ ∀ i, i ≤ 9 → W_235 t p w i = w i := by
  have n9 := hg.1.2.2.1
  have n8 := hg.1.2.1
  obtain ⟨c5, c6, c0, c8⟩ := (hinder hg h ht hp).2 hv
  have gt := hg.2.2.2.1 t ht.1 ht.2
  have gC := hg.2.2.2.2.1 t ht.1 ht.2
  have c4 := gC.2.2.2.1 c5
  have hen : w (452 + 24 * t + 3) ≤ 999 := by
    have := gt.2.2.2.2.2 (by omega)
    omega
  have e3 : d (s + 1) 1 = w 3 := h.1.2.2 1 (by omega) (by omega)
  have h8 : ¬ 452 + 24 * t + 8 + p = 452 + 24 * t + 7 := by omega
  generalize hw1 : ws (ws w (((452 + (24 * t)) + 8) + p) ((w 0) + 1)) ((452 + (24 * t)) + 7) ((w ((452 + (24 * t)) + 7)) + 1) = w1
  have f8 : w1 (452 + 24 * t + 8 + p) = w 0 + 1 := by rw [← hw1, wsn h8, wse rfl]
  have f7 : w1 (452 + 24 * t + 7) = w (452 + 24 * t + 7) + 1 := by rw [← hw1, wse rfl]
  have fi : ∀ i, ¬ i = 452 + 24 * t + 8 + p → ¬ i = 452 + 24 * t + 7 → w1 i = w i := fun i a b => by rw [← hw1, wsn b, wsn a]
  obtain ⟨g1, r1⟩ := witStep hg h ht hp c8 f8 f7 fi
  have t9 : w1 9 = w 9 := fi 9 (by omega) (by omega)
  generalize hd1 : (mset (mset (mset d (s + 56) t (mior (d (s + 56) t) (mishl 1 p))) (s + 14) p (d (s + 14) p + 1)) (s + 15) p (mior (d (s + 15) p) (mishl 1 (d (s + 50) t)))) = d1 at r1
  have hcnt := witCount (d2 := d1) r1 (t := t) (by rw [t9]; exact ht)
  have hm : d1 (s + 56) t = mior (d (s + 56) t) (mishl 1 p) := by
    rw [← hd1]
    simp (disch := omega) only [ms_a, ms_e]
  rw [hm, f7] at hcnt
  unfold v_75 g_75 V_235 W_235
  rw [show s + 49 + 7 = s + 56 by omega, show s + 10 + 4 = s + 14 by omega, show s + 10 + 5 = s + 15 by omega, show s + 49 + 1 = s + 50 by omega, hd1, hcnt, e3, hw1]
  by_cases c : w (452 + 24 * t + 7) + 1 < w 3
  · simp only [if_pos c]
    exact ⟨trivial, g1, r1, fun i hi => fi i (by omega) (by omega)⟩
  · simp only [if_neg c]
    obtain ⟨g2, r2⟩ := setC (s := s) (t := t) (c := 1) (v := 1) (w' := ws w1 (452 + 24 * t + 6) 1) g1 r1 (by rw [t9]; exact ht) (Or.inr rfl) (Or.inr rfl) (fun _ => ⟨rfl, by rw [fi _ (by omega) (by omega)]; exact hen⟩) (fun _ => by rw [fi _ (by omega) (by omega)]; exact c4) (by rw [wsn (by omega), fi _ (by omega) (by omega)]; exact c5) (wse rfl) (fun i a b => wsn b)
    rw [show (1 : Int) + 1 = 2 by decide] at r2
    obtain ⟨m1, m2, m3, m4⟩ := makes (t := t) g2 r2 (by rw [wsn (by omega), t9]; exact ht) (by rw [wsn (by omega), fi _ (by omega) (by omega)]; exact c4) (by rw [wsn (by omega), fi _ (by omega) (by omega)]; exact hen)
    unfold v_76 g_76
    rw [show s + 49 + 6 = s + 55 by omega]
    exact ⟨m1, m2, m3, fun i hi => by rw [m4 i (by omega) (by omega), wsn (by omega), fi i (by omega) (by omega)]⟩
