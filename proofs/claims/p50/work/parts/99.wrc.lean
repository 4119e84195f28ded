/-! ===== World.out, a served ticket, World.join ===== -/
def OutV (o p t how : Int) (w w' : Row) : Prop := w' (12 + 68 * o + 5) = w (12 + 68 * o + 5) - 1 ∧ w' (452 + 24 * t + 4) = how ∧ w' (452 + 24 * t + 3) = w 0 ∧ (∀ k, p ≤ k → k < w (12 + 68 * o + 5) - 1 → w' (12 + 68 * o + 7 + k) = w (12 + 68 * o + 7 + k + 1))
  ∧ ∀ i, (¬ i = 12 + 68 * o + 5 ∧ ¬ i = 452 + 24 * t + 4 ∧ ¬ i = 452 + 24 * t + 3 ∧ ¬ (12 + 68 * o + 7 + p ≤ i ∧ i < 12 + 68 * o + 7 + (w (12 + 68 * o + 5) - 1))) → w' i = w i
theorem outW {b o p t how : Int} {d : mD} {w w' : Row} (hg : GG w) (h : WR b d w) (ho : 0 ≤ o ∧ o < w 7) (hp : 0 ≤ p ∧ p < w (12 + 68 * o + 5)) (et : w (12 + 68 * o + 7 + p) = t) (hh : how = 1 ∨ how = 2) (hS : OutV o p t how w w') : WR b (g_352 b t how p d) w' ∧ WF b d (g_352 b t how p d) := by
  obtain ⟨hN, hO, hQ, hT, hC, hK, hR⟩ := hg
  obtain ⟨n7, n8, n9, n10, n11, n0, n1, n2, n3, n4, n5, n6⟩ := id hN
  obtain ⟨rB, ⟨a0, a1, a2, a3, a4, a5, a6⟩, rO, rQ, rP, r1, r2, rK, rS, rH, rD⟩ := h
  obtain ⟨s1, s2, s3, s4, S6⟩ := hS
  have gq := hQ o ho.1 ho.2 p hp.1 hp.2
  rw [et] at gq
  have gl := (hO o ho.1 ho.2).2.2.2.2.1
  have e11 : d (b + 11) t = o := by rw [(r1 t gq.1.1 gq.1.2).2.1]; exact gq.2.1
  have e5 : d (b + 5) o = w (12 + 68 * o + 5) := (rO o ho.1 ho.2).2.2.2.2.1
  unfold g_352
  rw [e11, e5, a0]
  generalize hl : w (12 + 68 * o + 5) = l at *
  have hB : WB b (mset (mset (mcopy (mset d (b + 5) o (l - 1)) (b + 9) (61 * o + p + 1) (b + 9) (61 * o + p) (l - 1 - p)) (b + 14) t how) (b + 13) t (w 0)) :=
    ((((rB.st (by omega) (by omega) (by omega) (by omega)).cp (by omega) (by omega) (by omega) (by omega)).st (by omega) (by omega) (by omega) (by omega)).st (by omega) (by omega) (by omega) (by omega))
  have hF : WF b d (mset (mset (mcopy (mset d (b + 5) o (l - 1)) (b + 9) (61 * o + p + 1) (b + 9) (61 * o + p) (l - 1 - p)) (b + 14) t how) (b + 13) t (w 0)) :=
    (((WF.refl.st (by omega) (by omega) (by omega)).cp (by omega) (by omega)).st (by omega) (by omega) (by omega)).st (by omega) (by omega) (by omega)
  have fd : ∀ c, ¬ c = b + 5 → ¬ c = b + 9 → ¬ c = b + 13 → ¬ c = b + 14 → mset (mset (mcopy (mset d (b + 5) o (l - 1)) (b + 9) (61 * o + p + 1) (b + 9) (61 * o + p) (l - 1 - p)) (b + 14) t how) (b + 13) t (w 0) c = d c := fun c x y z u => by
    funext j
    rw [ms_a z, ms_a u, mc_n y, ms_a x]
  have f5 : ∀ j, ¬ j = o → mset (mset (mcopy (mset d (b + 5) o (l - 1)) (b + 9) (61 * o + p + 1) (b + 9) (61 * o + p) (l - 1 - p)) (b + 14) t how) (b + 13) t (w 0) (b + 5) j = d (b + 5) j := fun j x => by rw [ms_a (by omega), ms_a (by omega), mc_n (by omega), ms_i x]
  have v5 : mset (mset (mcopy (mset d (b + 5) o (l - 1)) (b + 9) (61 * o + p + 1) (b + 9) (61 * o + p) (l - 1 - p)) (b + 14) t how) (b + 13) t (w 0) (b + 5) o = l - 1 := by rw [ms_a (by omega), ms_a (by omega), mc_n (by omega), ms_e rfl rfl]
  have f9 : ∀ j, (j < 61 * o + p ∨ 61 * o + l - 1 ≤ j) → mset (mset (mcopy (mset d (b + 5) o (l - 1)) (b + 9) (61 * o + p + 1) (b + 9) (61 * o + p) (l - 1 - p)) (b + 14) t how) (b + 13) t (w 0) (b + 9) j = d (b + 9) j := fun j x => by
    rw [ms_a (by omega), ms_a (by omega)]
    unfold mcopy
    rw [if_neg (by omega), ms_a (by omega)]
  have v9 : ∀ j, 61 * o + p ≤ j → j < 61 * o + l - 1 → mset (mset (mcopy (mset d (b + 5) o (l - 1)) (b + 9) (61 * o + p + 1) (b + 9) (61 * o + p) (l - 1 - p)) (b + 14) t how) (b + 13) t (w 0) (b + 9) j = d (b + 9) (j + 1) := fun j x y => by
    rw [ms_a (by omega), ms_a (by omega)]
    unfold mcopy
    rw [if_pos ⟨rfl, x, by omega⟩, ms_a (by omega)]
    congr 1
    omega
  have f14 : ∀ j, ¬ j = t → mset (mset (mcopy (mset d (b + 5) o (l - 1)) (b + 9) (61 * o + p + 1) (b + 9) (61 * o + p) (l - 1 - p)) (b + 14) t how) (b + 13) t (w 0) (b + 14) j = d (b + 14) j := fun j x => by rw [ms_a (by omega), ms_i x, mc_n (by omega), ms_a (by omega)]
  have v14 : mset (mset (mcopy (mset d (b + 5) o (l - 1)) (b + 9) (61 * o + p + 1) (b + 9) (61 * o + p) (l - 1 - p)) (b + 14) t how) (b + 13) t (w 0) (b + 14) t = how := by rw [ms_a (by omega), ms_e rfl rfl]
  have f13 : ∀ j, ¬ j = t → mset (mset (mcopy (mset d (b + 5) o (l - 1)) (b + 9) (61 * o + p + 1) (b + 9) (61 * o + p) (l - 1 - p)) (b + 14) t how) (b + 13) t (w 0) (b + 13) j = d (b + 13) j := fun j x => by rw [ms_i x, ms_a (by omega), mc_n (by omega), ms_a (by omega)]
  have v13 : mset (mset (mcopy (mset d (b + 5) o (l - 1)) (b + 9) (61 * o + p + 1) (b + 9) (61 * o + p) (l - 1 - p)) (b + 14) t how) (b + 13) t (w 0) (b + 13) t = w 0 := ms_e rfl rfl
  generalize mset (mset (mcopy (mset d (b + 5) o (l - 1)) (b + 9) (61 * o + p + 1) (b + 9) (61 * o + p) (l - 1 - p)) (b + 14) t how) (b + 13) t (w 0) = d' at *
  refine ⟨⟨hB, ⟨?_, ?_, ?_, ?_, ?_, ?_, fun k x y => ?_⟩, fun o' x y => ?_, fun o' x y k u v => ?_, rP.k (fd _ (by omega) (by omega) (by omega) (by omega)) (fun i hi => S6 i (by omega)), fun t' x y => ?_, r2.k (fun c x y => fd c (by omega) (by omega) (by omega) (by omega)) (fun i hi => S6 i (by omega)) n9, rK.k (fun c x y => fd c (by omega) (by omega) (by omega) (by omega)) (fun i hi => S6 i (by omega)) n10, rS.k (by rw [fd _ (by omega) (by omega) (by omega) (by omega)]) (fd _ (by omega) (by omega) (by omega) (by omega)) (fun i hi => S6 i (by omega)) n11, rH.k (fd _ (by omega) (by omega) (by omega) (by omega)) (fun i hi => S6 i (by omega)) n9 n10 hK.of, rD.k (by rw [fd _ (by omega) (by omega) (by omega) (by omega)]) (fun c x y => fd c (by omega) (by omega) (by omega) (by omega)) (fun i hi => S6 i (by omega)) n9⟩, hF⟩
  · rw [fd b (by omega) (by omega) (by omega) (by omega), S6 0 (by omega)]; exact a0
  · rw [fd b (by omega) (by omega) (by omega) (by omega), S6 1 (by omega)]; exact a1
  · rw [fd b (by omega) (by omega) (by omega) (by omega), S6 7 (by omega)]; exact a2
  · rw [fd b (by omega) (by omega) (by omega) (by omega), S6 8 (by omega)]; exact a3
  · rw [fd b (by omega) (by omega) (by omega) (by omega), S6 9 (by omega)]; exact a4
  · rw [fd b (by omega) (by omega) (by omega) (by omega), S6 10 (by omega)]; exact a5
  · rw [fd (b + 1) (by omega) (by omega) (by omega) (by omega), S6 (2 + k) (by omega)]; exact a6 k x y
  · rw [S6 7 (by omega)] at y
    obtain ⟨g1, g2, g3, g4, g5, g6⟩ := rO o' x y
    rw [fd (b + 2) (by omega) (by omega) (by omega) (by omega), fd (b + 3) (by omega) (by omega) (by omega) (by omega), fd (b + 4) (by omega) (by omega) (by omega) (by omega), fd (b + 8) (by omega) (by omega) (by omega) (by omega), fd (b + 6) (by omega) (by omega) (by omega) (by omega), S6 (12 + 68 * o' + 1) (by omega), S6 (12 + 68 * o' + 2) (by omega), S6 (12 + 68 * o' + 3) (by omega), S6 (12 + 68 * o' + 4) (by omega), S6 (12 + 68 * o' + 6) (by omega)]
    refine ⟨g1, g2, g3, g4, ?_, g6⟩
    by_cases q : o' = o
    · rw [q, v5, s1]
    · rw [f5 o' q, S6 (12 + 68 * o' + 5) (by omega)]
      exact g5
  · rw [S6 7 (by omega)] at y
    have gl' := (hO o' x y).2.2.2.2.1
    by_cases q : o' = o
    · subst q
      rw [s1] at v
      by_cases z : k < p
      · rw [f9 _ (by omega), S6 (12 + 68 * o' + 7 + k) (by omega)]
        exact rQ o' x y k u (by omega)
      · rw [v9 _ (by omega) (by omega), s4 k (by omega) v, show 61 * o' + k + 1 = 61 * o' + (k + 1) by omega, rQ o' x y (k + 1) (by omega) (by omega), show 12 + 68 * o' + 7 + (k + 1) = 12 + 68 * o' + 7 + k + 1 by omega]
    · rw [S6 (12 + 68 * o' + 5) (by omega)] at v
      rw [f9 _ (by omega), S6 (12 + 68 * o' + 7 + k) (by omega)]
      exact rQ o' x y k u v
  · rw [S6 9 (by omega)] at y
    obtain ⟨g1, g2, g3, g4, g5⟩ := r1 t' x y
    rw [fd (b + 10) (by omega) (by omega) (by omega) (by omega), fd (b + 11) (by omega) (by omega) (by omega) (by omega), fd (b + 12) (by omega) (by omega) (by omega) (by omega), S6 (452 + 24 * t' + 0) (by omega), S6 (452 + 24 * t' + 1) (by omega), S6 (452 + 24 * t' + 2) (by omega)]
    refine ⟨g1, g2, g3, ?_, ?_⟩
    · by_cases q : t' = t
      · rw [q, v13, s3]
      · rw [f13 t' q, S6 (452 + 24 * t' + 3) (by omega)]
        exact g4
    · by_cases q : t' = t
      · rw [q, v14, s2]
      · rw [f14 t' q, S6 (452 + 24 * t' + 4) (by omega)]
        exact g5
theorem GO.srv {w : Row} (hN : GN w) (hO : GO w) {o : Int} (ho : 0 ≤ o ∧ o < w 7) : 0 ≤ w (12 + 68 * o + 6) ∧ w (12 + 68 * o + 6) ≤ 60 := by
  have g := (hO o ho.1 ho.2).2.2.2.2.2.2
  have c : 0 ≤ csum (fun t => if w (452 + 24 * t + 4) = 1 ∧ w (452 + 24 * t + 1) = o then 1 else 0) (w 9).toNat ∧ csum (fun t => if w (452 + 24 * t + 4) = 1 ∧ w (452 + 24 * t + 1) = o then 1 else 0) (w 9).toNat ≤ ((w 9).toNat : Int) * 1 := csum_rng (fun i _ _ => by
    show 0 ≤ (if w (452 + 24 * i + 4) = 1 ∧ w (452 + 24 * i + 1) = o then (1 : Int) else 0) ∧ (if w (452 + 24 * i + 4) = 1 ∧ w (452 + 24 * i + 1) = o then (1 : Int) else 0) ≤ 1
    split <;> omega)
  have n := hN.2.2.1
  omega
-- serving the first of a queue
theorem srvW {b o : Int} {d : mD} {w w' : Row} (hg : GG w) (h : WR b d w) (ho : 0 ≤ o ∧ o < w 7) (hq : 0 < w (12 + 68 * o + 5)) (hS : StepV o w w') :
    WR b (mset (g_352 b (w (12 + 68 * o + 7)) 1 0 d) (b + 6) o (g_352 b (w (12 + 68 * o + 7)) 1 0 d (b + 6) o + 1)) w' ∧ WF b d (mset (g_352 b (w (12 + 68 * o + 7)) 1 0 d) (b + 6) o (g_352 b (w (12 + 68 * o + 7)) 1 0 d (b + 6) o + 1)) := by
  obtain ⟨s1, s2, s3, s4, s5, s6⟩ := hS
  have n7 := hg.1.1
  have gq := hg.2.2.1 o ho.1 ho.2 0 (by omega) hq
  simp only [Int.add_zero] at gq
  have n9 := hg.1.2.2.1
  have gl := (hg.2.1 o ho.1 ho.2).2.2.2.2.1
  have hu : OutV o 0 (w (12 + 68 * o + 7)) 1 w (ws w' (12 + 68 * o + 6) (w (12 + 68 * o + 6))) := by
    refine ⟨by rw [wsn (by omega)]; exact s1, by rw [wsn (by omega)]; exact s3, by rw [wsn (by omega)]; exact s4, fun k x y => by rw [wsn (by omega)]; exact s5 k x y, fun i hi => ?_⟩
    by_cases q : i = 12 + 68 * o + 6
    · rw [q]
      exact wse rfl
    · rw [wsn q]
      exact s6 i hi.1 q hi.2.1 hi.2.2.1 (by omega)
  obtain ⟨q1, q2⟩ := outW hg h ho (p := 0) ⟨by decide, hq⟩ (by rw [Int.add_zero]) (Or.inl rfl) hu
  -- what stands of the row behind it
  have hN' : GN (ws w' (12 + 68 * o + 6) (w (12 + 68 * o + 6))) := hg.1.k (fun i hi => by rw [wsn (by omega)]; exact s6 i (by omega) (by omega) (by omega) (by omega) (by omega))
  have z : ∀ i, 0 ≤ i → i ≤ 11 → ws w' (12 + 68 * o + 6) (w (12 + 68 * o + 6)) i = w i := fun i x y => by
    rw [wsn (by omega)]
    exact s6 i (by omega) (by omega) (by omega) (by omega) (by omega)
  refine ⟨?_, q2.st (by omega) (by omega) (by omega)⟩
  obtain ⟨rB, rA, rO, rQ, rP, r1, r2, rK, rS, rH, rD⟩ := q1
  have sv := GO.srv hg.1 hg.2.1 ho
  have fd : ∀ c, ¬ c = b + 6 → mset (g_352 b (w (12 + 68 * o + 7)) 1 0 d) (b + 6) o (g_352 b (w (12 + 68 * o + 7)) 1 0 d (b + 6) o + 1) c = g_352 b (w (12 + 68 * o + 7)) 1 0 d c := fun c x => by
    funext j
    exact ms_a x
  have S : ∀ i, ¬ i = 12 + 68 * o + 6 → w' i = ws w' (12 + 68 * o + 6) (w (12 + 68 * o + 6)) i := fun i hi => (wsn hi).symm
  have e6 : g_352 b (w (12 + 68 * o + 7)) 1 0 d (b + 6) o = w (12 + 68 * o + 6) := by
    have := (rO o ho.1 (by rw [z 7 (by decide) (by decide)]; exact ho.2)).2.2.2.2.2
    rw [this]
    exact wse rfl
  refine ⟨rB.st (by omega) (by omega) (by omega) (by omega), rA.k (fun j x y => by rw [fd _ (by omega)]) (fd _ (by omega)) (fun i hi => S i (by omega)), fun o' x y => ?_, fun o' x y k u v => ?_, rP.k (fd _ (by omega)) (fun i hi => S i (by omega)), r1.k (fun c x y => fd c (by omega)) (fun i hi => S i (by omega)) hN'.2.2.1, r2.k (fun c x y => fd c (by omega)) (fun i hi => S i (by omega)) hN'.2.2.1, rK.k (fun c x y => fd c (by omega)) (fun i hi => S i (by omega)) hN'.2.2.2.1, rS.k (by rw [fd _ (by omega)]) (fd _ (by omega)) (fun i hi => S i (by omega)) hN'.2.2.2.2.1, fun p h0 x y u v => ?_, rD.k (by rw [fd _ (by omega)]) (fun c x y => fd c (by omega)) (fun i hi => S i (by omega)) hN'.2.2.1⟩
  · rw [S 7 (by omega)] at y
    have y7 : o' < w 7 := by rw [← z 7 (by decide) (by decide)]; exact y
    obtain ⟨g1, g2, g3, g4, g5, g6⟩ := rO o' x y
    rw [fd (b + 2) (by omega), fd (b + 3) (by omega), fd (b + 4) (by omega), fd (b + 8) (by omega), fd (b + 5) (by omega), S (12 + 68 * o' + 1) (by omega), S (12 + 68 * o' + 2) (by omega), S (12 + 68 * o' + 3) (by omega), S (12 + 68 * o' + 4) (by omega), S (12 + 68 * o' + 5) (by omega)]
    refine ⟨g1, g2, g3, g4, g5, ?_⟩
    by_cases q : o' = o
    · rw [q, ms_e rfl rfl, s2, e6]
    · rw [ms_i q, S (12 + 68 * o' + 6) (by omega)]
      exact g6
  · rw [S 7 (by omega)] at y
    rw [S (12 + 68 * o' + 5) (by omega)] at v
    have gl' : ws w' (12 + 68 * o + 6) (w (12 + 68 * o + 6)) (12 + 68 * o' + 5) ≤ 16 := by
      have y7 : o' < w 7 := by rw [← z 7 (by decide) (by decide)]; exact y
      have g' := (hg.2.1 o' x y7).2.2.2.2.1
      by_cases q : o' = o
      · rw [q, wsn (by omega), s1]
        omega
      · rw [wsn (by omega), s6 _ (by omega) (by omega) (by omega) (by omega) (by omega)]
        omega
    have y7 : o' < w 7 := by rw [← z 7 (by decide) (by decide)]; exact y
    rw [fd (b + 9) (by omega), S (12 + 68 * o' + 7 + k) (by omega)]
    exact rQ o' x y k u v
  · rw [fd (b + 18) (by omega)]
    obtain ⟨g1, g2⟩ := rH p h0 x y u v
    refine ⟨g1, g2.trans ⟨fun ⟨k, k0, k1, k2, k3⟩ => ⟨k, k0, by rw [S 10 (by omega)]; exact k1, ?_, ?_⟩, fun ⟨k, k0, k1, k2, k3⟩ => ?_⟩⟩
    · rw [z 10 (by decide) (by decide)] at k1
      have := hg.1.2.2.2.1
      rw [S _ (by omega)]
      exact k2
    · rw [z 10 (by decide) (by decide)] at k1
      have n10 := hg.1.2.2.2.1
      have gk := hg.2.2.2.2.2.1.of k k0 k1
      have ek : w' (1916 + 5 * k + 1) = w (1916 + 5 * k + 1) := s6 _ (by omega) (by omega) (by omega) (by omega) (by omega)
      unfold perO at k3 ⊢
      rw [wsn (show ¬ 1916 + 5 * k + 1 = 12 + 68 * o + 6 by omega), ek] at k3
      rw [ek]
      rwa [wsn (by omega)] at k3
    · rw [S 10 (by omega)] at k1
      have k1' := k1
      rw [z 10 (by decide) (by decide)] at k1'
      have n10 := hg.1.2.2.2.1
      have gk := hg.2.2.2.2.2.1.of k k0 k1'
      have ek : w' (1916 + 5 * k + 1) = w (1916 + 5 * k + 1) := s6 _ (by omega) (by omega) (by omega) (by omega) (by omega)
      refine ⟨k, k0, k1, by rw [← S _ (by omega)]; exact k2, ?_⟩
      unfold perO at k3 ⊢
      rw [wsn (show ¬ 1916 + 5 * k + 1 = 12 + 68 * o + 6 by omega), ek]
      rw [ek] at k3
      rwa [wsn (by omega)]
theorem joinW {b p o : Int} {d : mD} {w w' : Row} (hg : GG w) (h : WR b d w) (ho : 0 ≤ o ∧ o < w 7) (hp : 0 ≤ p ∧ p < w 8) (h9 : w 9 < 60) (hS : NewW p o w w') : WR b (g_354 b p o d) w' ∧ WF b d (g_354 b p o d) := by
  obtain ⟨hN, hO, hQ, hT, hC, hK, hR⟩ := hg
  obtain ⟨n7, n8, n9, n10, n11, n0, n1, n2, n3, n4, n5, n6⟩ := id hN
  obtain ⟨rB, ⟨a0, a1, a2, a3, a4, a5, a6⟩, rO, rQ, rP, r1, r2, rK, rS, rH, rD⟩ := h
  obtain ⟨⟨t0, t1, t2, t3, t4⟩, q1, q2, q3, q4⟩ := hS
  have gl := (hO o ho.1 ho.2).2.2.2.2.1
  have S6 : ∀ i, (¬ (452 + 24 * w 9 ≤ i ∧ i < 452 + 24 * w 9 + 24) ∧ ¬ i = 12 + 68 * o + 7 + w (12 + 68 * o + 5) ∧ ¬ i = 12 + 68 * o + 5 ∧ ¬ i = 9) → w' i = w i := fun i h => q4 i h.1 h.2.1 h.2.2.1 h.2.2.2
  have e5 : d (b + 5) o = w (12 + 68 * o + 5) := (rO o ho.1 ho.2).2.2.2.2.1
  unfold g_354
  rw [a4, a0, e5]
  generalize hl : w (12 + 68 * o + 5) = l at *
  have hB : WB b (mset (mset (mset (mset (mset (mset (mset (mset (mset (mset (mset d b 4 (w 9 + 1)) (b + 10) (w 9) p) (b + 11) (w 9) o) (b + 12) (w 9) (w 0)) (b + 13) (w 9) (-1)) (b + 14) (w 9) 0) (b + 15) (w 9) 0) (b + 16) (w 9) 0) (b + 17) (w 9) 0) (b + 9) (61 * o + l) (w 9)) (b + 5) o (l + 1)) :=
    ((((((((((rB.st (by omega) (by omega) (by omega) (by omega)).st (by omega) (by omega) (by omega) (by omega)).st (by omega) (by omega) (by omega) (by omega)).st (by omega) (by omega) (by omega) (by omega)).st (by decide) (by omega) (by omega) (by omega)).st (by decide) (by omega) (by omega) (by omega)).st (by decide) (by omega) (by omega) (by omega)).st8 (Or.inl rfl) (Or.inr (Or.inl rfl))).st8 (Or.inl rfl) (Or.inr (Or.inr rfl))).st (by omega) (by omega) (by omega) (by omega)).st (by omega) (by omega) (by omega) (by omega)
  have hF : WF b d (mset (mset (mset (mset (mset (mset (mset (mset (mset (mset (mset d b 4 (w 9 + 1)) (b + 10) (w 9) p) (b + 11) (w 9) o) (b + 12) (w 9) (w 0)) (b + 13) (w 9) (-1)) (b + 14) (w 9) 0) (b + 15) (w 9) 0) (b + 16) (w 9) 0) (b + 17) (w 9) 0) (b + 9) (61 * o + l) (w 9)) (b + 5) o (l + 1)) := by
    refine ⟨fun c hc => ?_, ?_⟩
    · funext j
      simp (disch := omega) only [ms_a]
    · simp (disch := omega) only [ms_a, ms_i]
  generalize hd : mset (mset (mset (mset (mset (mset (mset (mset (mset (mset (mset d b 4 (w 9 + 1)) (b + 10) (w 9) p) (b + 11) (w 9) o) (b + 12) (w 9) (w 0)) (b + 13) (w 9) (-1)) (b + 14) (w 9) 0) (b + 15) (w 9) 0) (b + 16) (w 9) 0) (b + 17) (w 9) 0) (b + 9) (61 * o + l) (w 9)) (b + 5) o (l + 1) = d' at *
  have fd : ∀ c, ¬ c = b → ¬ (b + 9 ≤ c ∧ c ≤ b + 17) → ¬ c = b + 5 → d' c = d c := fun c x y z => by
    rw [← hd]
    funext j
    simp (disch := omega) only [ms_a]
  have fb : ∀ j, ¬ j = 4 → d' b j = d b j := fun j x => by
    rw [← hd]
    simp (disch := omega) only [ms_a, ms_i]
  have v4 : d' b 4 = w 9 + 1 := by
    rw [← hd]
    simp (disch := omega) only [ms_a, ms_e]
  have f5 : ∀ j, ¬ j = o → d' (b + 5) j = d (b + 5) j := fun j x => by
    rw [← hd]
    simp (disch := omega) only [ms_a, ms_i]
  have v5 : d' (b + 5) o = l + 1 := by
    rw [← hd]
    exact ms_e rfl rfl
  have f9 : ∀ j, ¬ j = 61 * o + l → d' (b + 9) j = d (b + 9) j := fun j x => by
    rw [← hd]
    simp (disch := omega) only [ms_a, ms_i]
  have v9 : d' (b + 9) (61 * o + l) = w 9 := by
    rw [← hd]
    simp (disch := omega) only [ms_a, ms_e]
  have col : ∀ c, 10 ≤ c → c ≤ 17 → ∀ j, ¬ j = w 9 → d' (b + c) j = d (b + c) j := fun c x y j z => by
    rw [← hd, ms_a (show ¬ b + c = b + 5 by omega), ms_a (show ¬ b + c = b + 9 by omega), ms_i z, ms_i z, ms_i z, ms_i z, ms_i z, ms_i z, ms_i z, ms_i z, ms_a (show ¬ b + c = b by omega)]
  have v10 : d' (b + 10) (w 9) = p := by
    rw [← hd]
    simp (disch := omega) only [ms_a, ms_e]
  have v11 : d' (b + 11) (w 9) = o := by
    rw [← hd]
    simp (disch := omega) only [ms_a, ms_e]
  have v12 : d' (b + 12) (w 9) = w 0 := by
    rw [← hd]
    simp (disch := omega) only [ms_a, ms_e]
  have v13 : d' (b + 13) (w 9) = -1 := by
    rw [← hd]
    simp (disch := omega) only [ms_a, ms_e]
  have v14 : d' (b + 14) (w 9) = 0 := by
    rw [← hd]
    simp (disch := omega) only [ms_a, ms_e]
  have v15 : d' (b + 15) (w 9) = 0 := by
    rw [← hd]
    simp (disch := omega) only [ms_a, ms_e]
  have v16 : d' (b + 16) (w 9) = 0 := by
    rw [← hd]
    simp (disch := omega) only [ms_a, ms_e]
  have v17 : d' (b + 17) (w 9) = 0 := by
    rw [← hd]
    simp (disch := omega) only [ms_a, ms_e]
  clear hd
  refine ⟨⟨hB, ⟨?_, ?_, ?_, ?_, ?_, ?_, fun k x y => ?_⟩, fun o' x y => ?_, fun o' x y k u v => ?_, rP.k (fd _ (by omega) (by omega) (by omega)) (fun i hi => S6 i (by omega)), fun t x y => ?_, fun t x y => ?_, rK.k (fun c x y => fd c (by omega) (by omega) (by omega)) (fun i hi => S6 i (by omega)) n10, rS.k (fb 6 (by decide)) (fd _ (by omega) (by omega) (by omega)) (fun i hi => S6 i (by omega)) n11, fun p' h' x y u v => ?_, ?_⟩, hF⟩
  · rw [fb 0 (by decide), S6 0 (by omega)]; exact a0
  · rw [fb 1 (by decide), S6 1 (by omega)]; exact a1
  · rw [fb 2 (by decide), S6 7 (by omega)]; exact a2
  · rw [fb 3 (by decide), S6 8 (by omega)]; exact a3
  · rw [v4, q3]
  · rw [fb 5 (by decide), S6 10 (by omega)]; exact a5
  · rw [fd (b + 1) (by omega) (by omega) (by omega), S6 (2 + k) (by omega)]; exact a6 k x y
  · rw [S6 7 (by omega)] at y
    obtain ⟨g1, g2, g3, g4, g5, g6⟩ := rO o' x y
    rw [fd (b + 2) (by omega) (by omega) (by omega), fd (b + 3) (by omega) (by omega) (by omega), fd (b + 4) (by omega) (by omega) (by omega), fd (b + 8) (by omega) (by omega) (by omega), fd (b + 6) (by omega) (by omega) (by omega), S6 (12 + 68 * o' + 1) (by omega), S6 (12 + 68 * o' + 2) (by omega), S6 (12 + 68 * o' + 3) (by omega), S6 (12 + 68 * o' + 4) (by omega), S6 (12 + 68 * o' + 6) (by omega)]
    refine ⟨g1, g2, g3, g4, ?_, g6⟩
    by_cases q : o' = o
    · rw [q, v5, q2]
    · rw [f5 o' q, S6 (12 + 68 * o' + 5) (by omega)]
      exact g5
  · rw [S6 7 (by omega)] at y
    have gl' := (hO o' x y).2.2.2.2.1
    by_cases q : o' = o
    · subst q
      rw [q2] at v
      by_cases z : k = l
      · rw [z, v9, q1]
      · rw [f9 _ (by omega), S6 (12 + 68 * o' + 7 + k) (by omega)]
        exact rQ o' x y k u (by omega)
    · rw [S6 (12 + 68 * o' + 5) (by omega)] at v
      rw [f9 _ (by omega), S6 (12 + 68 * o' + 7 + k) (by omega)]
      exact rQ o' x y k u v
  · rw [q3] at y
    by_cases q : t = w 9
    · rw [q, v10, v11, v12, v13, v14, t0, t1, t2, t3, t4 4 (by decide) (by decide)]
      exact ⟨rfl, rfl, rfl, rfl, rfl⟩
    · rw [col 10 (by decide) (by decide) t q, col 11 (by decide) (by decide) t q, col 12 (by decide) (by decide) t q, col 13 (by decide) (by decide) t q, col 14 (by decide) (by decide) t q, S6 (452 + 24 * t + 0) (by omega), S6 (452 + 24 * t + 1) (by omega), S6 (452 + 24 * t + 2) (by omega), S6 (452 + 24 * t + 3) (by omega), S6 (452 + 24 * t + 4) (by omega)]
      exact r1 t x (by omega)
  · rw [q3] at y
    by_cases q : t = w 9
    · rw [q, v16, v17, v15, t4 5 (by decide) (by decide), t4 6 (by decide) (by decide), t4 7 (by decide) (by decide)]
      exact ⟨rfl, rfl, rfl⟩
    · rw [col 16 (by decide) (by decide) t q, col 17 (by decide) (by decide) t q, col 15 (by decide) (by decide) t q, S6 (452 + 24 * t + 5) (by omega), S6 (452 + 24 * t + 6) (by omega), S6 (452 + 24 * t + 7) (by omega)]
      exact r2 t x (by omega)
  · have ek : ∀ k, 0 ≤ k → k < w 10 → w' (1916 + 5 * k + 2) = w (1916 + 5 * k + 2) ∧ perO w' k = perO w k := fun k k0 k1 => by
      have gk := hK.of k k0 k1
      refine ⟨S6 _ (by omega), ?_⟩
      unfold perO
      rw [S6 (1916 + 5 * k + 1) (by omega), S6 _ (by omega)]
    obtain ⟨g1, g2⟩ := rH p' h' x y u v
    rw [fd (b + 18) (by omega) (by omega) (by omega), S6 10 (by omega)]
    refine ⟨g1, g2.trans ⟨fun ⟨k, k0, k1, k2, k3⟩ => ⟨k, k0, k1, (ek k k0 k1).1.trans k2, (ek k k0 k1).2.trans k3⟩, fun ⟨k, k0, k1, k2, k3⟩ => ⟨k, k0, k1, (ek k k0 k1).1.symm.trans k2, (ek k k0 k1).2.symm.trans k3⟩⟩⟩
  · obtain ⟨d1, d2, d3⟩ := rD
    refine ⟨by rw [fb 7 (by decide)]; exact d1, fun k x y => ?_, fun t p' x y u v z => ?_⟩
    · rw [fb 7 (by decide)] at y
      obtain ⟨g1, g2, g3, g4, g5⟩ := d2 k x y
      rw [fd (b + 25) (by omega) (by omega) (by omega), fd (b + 26) (by omega) (by omega) (by omega), fd (b + 27) (by omega) (by omega) (by omega), q3, S6 (452 + 24 * d (b + 25) k + 8 + d (b + 26) k) (by omega)]
      exact ⟨⟨g1.1, by omega⟩, g2, g3, g4, g5⟩
    · rw [q3] at y
      rw [fb 7 (by decide), fd (b + 25) (by omega) (by omega) (by omega), fd (b + 26) (by omega) (by omega) (by omega)]
      by_cases q : t = w 9
      · rw [q, show 452 + 24 * w 9 + 8 + p' = 452 + 24 * w 9 + (8 + p') by omega] at z
        exact absurd (t4 (8 + p') (by omega) (by omega)) z
      · rw [S6 (452 + 24 * t + 8 + p') (by omega)] at z
        exact d3 t p' x (by omega) u v z
