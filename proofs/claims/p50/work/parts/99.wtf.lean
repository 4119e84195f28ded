/-! ===== single changes of World beside the row ===== -/
theorem WR.eq {b : Int} {d : mD} {w : Row} (h : WR b d w) : d b 0 = w 0 ∧ d b 1 = w 1 ∧ d b 2 = w 7 ∧ d b 3 = w 8 ∧ d b 4 = w 9 ∧ d b 5 = w 10 ∧ d b 6 = w 11 := by
  obtain ⟨rB, ⟨a0, a1, a2, a3, a4, a5, a6⟩, rO, rQ, rP, r1, r2, rK, ⟨s1, s2⟩, rH, rD⟩ := h
  exact ⟨a0, a1, a2, a3, a4, a5, by rw [s1]; omega⟩
theorem giveW {b k o : Int} {d : mD} {w : Row} (hg : GG w) (h : WR b d w) (hk : 0 ≤ k ∧ k < w 10) (ho : 0 ≤ o ∧ o < w 8) : WR b (mset d (b + 19) k o) (ws w (1916 + 5 * k + 0) o) := by
  obtain ⟨hN, hO', hQ', hT, hC, hK', hR⟩ := hg
  obtain ⟨n7, n8, n9, n10, n11, n0, n1, n2, n3, n4, n5, n6⟩ := id hN
  obtain ⟨rB, rA, rO, rQ, rP, r1, r2, rK, rS, rH, rD⟩ := h
  have fd : ∀ c, ¬ c = b + 19 → mset d (b + 19) k o c = d c := fun c x => by
    funext j
    exact ms_a x
  have S : ∀ i, ¬ i = 1916 + 5 * k + 0 → ws w (1916 + 5 * k + 0) o i = w i := fun i x => wsn x
  refine ⟨rB.st (by omega) (by omega) (by omega) (by omega), rA.k (fun j x y => by rw [fd b (by omega)]) (fd _ (by omega)) (fun i hi => S i (by omega)), rO.k (fun c x y z => fd c (by omega)) (fun i hi => S i (by omega)) n7, rQ.k (fd _ (by omega)) (fun i hi => S i (by omega)) n7 hO', rP.k (fd _ (by omega)) (fun i hi => S i (by omega)), r1.k (fun c x y => fd c (by omega)) (fun i hi => S i (by omega)) n9, r2.k (fun c x y => fd c (by omega)) (fun i hi => S i (by omega)) n9, fun q x y => ?_, rS.k (by rw [fd b (by omega)]) (fd _ (by omega)) (fun i hi => S i (by omega)) n11, rH.k (fd _ (by omega)) (fun i hi => S i (by omega)) n9 n10 hK'.of, rD.k (by rw [fd b (by omega)]) (fun c x y => fd c (by omega)) (fun i hi => S i (by omega)) n9⟩
  rw [S 10 (by omega)] at y
  obtain ⟨g1, g2, g3, g4, g5⟩ := rK q x y
  rw [fd (b + 20) (by omega), fd (b + 21) (by omega), fd (b + 22) (by omega), fd (b + 23) (by omega), S (1916 + 5 * q + 1) (by omega), S (1916 + 5 * q + 2) (by omega), S (1916 + 5 * q + 3) (by omega), S (1916 + 5 * q + 4) (by omega)]
  refine ⟨?_, g2, g3, g4, g5⟩
  by_cases z : q = k
  · rw [z, ms_e rfl rfl, wse rfl]
  · rw [ms_i z, S (1916 + 5 * q + 0) (by omega)]
    exact g1
theorem offW {b k : Int} {d : mD} {w : Row} (hg : GG w) (h : WR b d w) (hk : 0 ≤ k ∧ k < w 10) (h11 : w 11 < 200) : WR b (mset (mset (mset d (b + 22) k 1) (b + 24) (w 11) k) b 6 (w 11 + 1)) (ws (ws (ws w ((1916 + (5 * k)) + 3) 1) (2916 + (w 11)) k) 11 ((w 11) + 1)) := by
  obtain ⟨hN, hO', hQ', hT, hC, hK', hR⟩ := hg
  obtain ⟨n7, n8, n9, n10, n11, n0, n1, n2, n3, n4, n5, n6⟩ := id hN
  obtain ⟨rB, ⟨a0, a1, a2, a3, a4, a5, a6⟩, rO, rQ, rP, r1, r2, rK, ⟨s1, s2⟩, rH, rD⟩ := h
  have hB : WB b (mset (mset (mset d (b + 22) k 1) (b + 24) (w 11) k) b 6 (w 11 + 1)) := ((rB.st (by omega) (by omega) (by omega) (by omega)).st (by omega) (by omega) (by omega) (by omega)).st (by omega) (by omega) (by omega) (by omega)
  have fd : ∀ c, ¬ c = b + 22 → ¬ c = b + 24 → ¬ c = b → mset (mset (mset d (b + 22) k 1) (b + 24) (w 11) k) b 6 (w 11 + 1) c = d c := fun c x y z => by
    funext j
    rw [ms_a z, ms_a y, ms_a x]
  have fb : ∀ j, ¬ j = 6 → mset (mset (mset d (b + 22) k 1) (b + 24) (w 11) k) b 6 (w 11 + 1) b j = d b j := fun j x => by rw [ms_i x, ms_a (by omega), ms_a (by omega)]
  have e6 : mset (mset (mset d (b + 22) k 1) (b + 24) (w 11) k) b 6 (w 11 + 1) b 6 = w 11 + 1 := ms_e rfl rfl
  have e22 : ∀ q, mset (mset (mset d (b + 22) k 1) (b + 24) (w 11) k) b 6 (w 11 + 1) (b + 22) q = if q = k then 1 else d (b + 22) q := fun q => by
    rw [ms_a (by omega), ms_a (by omega)]
    by_cases z : q = k
    · rw [if_pos z, ms_e rfl z]
    · rw [if_neg z, ms_i z]
  have e24 : ∀ q, mset (mset (mset d (b + 22) k 1) (b + 24) (w 11) k) b 6 (w 11 + 1) (b + 24) q = if q = w 11 then k else d (b + 24) q := fun q => by
    rw [ms_a (by omega)]
    by_cases z : q = w 11
    · rw [if_pos z, ms_e rfl z]
    · rw [if_neg z, ms_i z, ms_a (by omega)]
  have S : ∀ i, ¬ i = 1916 + 5 * k + 3 → ¬ i = 2916 + w 11 → ¬ i = 11 → ws (ws (ws w ((1916 + (5 * k)) + 3) 1) (2916 + (w 11)) k) 11 ((w 11) + 1) i = w i := fun i x y z => by rw [wsn z, wsn y, wsn x]
  have S3 : ws (ws (ws w ((1916 + (5 * k)) + 3) 1) (2916 + (w 11)) k) 11 ((w 11) + 1) (1916 + 5 * k + 3) = 1 := by rw [wsn (by omega), wsn (by omega), wse rfl]
  have S11 : ws (ws (ws w ((1916 + (5 * k)) + 3) 1) (2916 + (w 11)) k) 11 ((w 11) + 1) 11 = w 11 + 1 := wse rfl
  have SR : ws (ws (ws w ((1916 + (5 * k)) + 3) 1) (2916 + (w 11)) k) 11 ((w 11) + 1) (2916 + w 11) = k := by rw [wsn (by omega), wse rfl]
  generalize mset (mset (mset d (b + 22) k 1) (b + 24) (w 11) k) b 6 (w 11 + 1) = d' at *
  generalize ws (ws (ws w ((1916 + (5 * k)) + 3) 1) (2916 + (w 11)) k) 11 ((w 11) + 1) = w' at *
  refine ⟨hB, ⟨?_, ?_, ?_, ?_, ?_, ?_, fun q x y => ?_⟩, rO.k (fun c x y z => fd c (by omega) (by omega) (by omega)) (fun i hi => S i (by omega) (by omega) (by omega)) n7, rQ.k (fd _ (by omega) (by omega) (by omega)) (fun i hi => S i (by omega) (by omega) (by omega)) n7 hO', rP.k (fd _ (by omega) (by omega) (by omega)) (fun i hi => S i (by omega) (by omega) (by omega)), r1.k (fun c x y => fd c (by omega) (by omega) (by omega)) (fun i hi => S i (by omega) (by omega) (by omega)) n9, r2.k (fun c x y => fd c (by omega) (by omega) (by omega)) (fun i hi => S i (by omega) (by omega) (by omega)) n9, fun q x y => ?_, ⟨?_, fun q x y => ?_⟩, rH.k (fd _ (by omega) (by omega) (by omega)) (fun i hi => S i (by omega) (by omega) (by omega)) n9 n10 hK'.of, rD.k (fb 7 (by decide)) (fun c x y => fd c (by omega) (by omega) (by omega)) (fun i hi => S i (by omega) (by omega) (by omega)) n9⟩
  · rw [fb 0 (by decide), S 0 (by omega) (by omega) (by omega)]; exact a0
  · rw [fb 1 (by decide), S 1 (by omega) (by omega) (by omega)]; exact a1
  · rw [fb 2 (by decide), S 7 (by omega) (by omega) (by omega)]; exact a2
  · rw [fb 3 (by decide), S 8 (by omega) (by omega) (by omega)]; exact a3
  · rw [fb 4 (by decide), S 9 (by omega) (by omega) (by omega)]; exact a4
  · rw [fb 5 (by decide), S 10 (by omega) (by omega) (by omega)]; exact a5
  · rw [fd (b + 1) (by omega) (by omega) (by omega), S (2 + q) (by omega) (by omega) (by omega)]; exact a6 q x y
  · rw [S 10 (by omega) (by omega) (by omega)] at y
    obtain ⟨g1, g2, g3, g4, g5⟩ := rK q x y
    rw [fd (b + 19) (by omega) (by omega) (by omega), fd (b + 20) (by omega) (by omega) (by omega), fd (b + 21) (by omega) (by omega) (by omega), fd (b + 23) (by omega) (by omega) (by omega), S (1916 + 5 * q + 0) (by omega) (by omega) (by omega), S (1916 + 5 * q + 1) (by omega) (by omega) (by omega), S (1916 + 5 * q + 2) (by omega) (by omega) (by omega), S (1916 + 5 * q + 4) (by omega) (by omega) (by omega), e22]
    refine ⟨g1, g2, g3, ?_, g5⟩
    by_cases z : q = k
    · rw [if_pos z, z, S3]
    · rw [if_neg z, S (1916 + 5 * q + 3) (by omega) (by omega) (by omega)]
      exact g4
  · rw [e6, S11]
    omega
  · rw [S11] at y
    rw [e24]
    by_cases z : q = w 11
    · rw [if_pos (by omega), z, SR]
    · rw [if_neg (by omega), s2 q x (by omega), S (2916 + q) (by omega) (by omega) (by omega)]
theorem fundW {b v : Int} {d : mD} {w : Row} (hg : GG w) (h : WR b d w) (hv : -1000000 ≤ v ∧ v ≤ 1000000) : WR b (mset d b 1 v) (ws w 1 v) := by
  obtain ⟨hN, hO', hQ', hT, hC, hK', hR⟩ := hg
  obtain ⟨n7, n8, n9, n10, n11, n0, n1, n2, n3, n4, n5, n6⟩ := id hN
  obtain ⟨rB, ⟨a0, a1, a2, a3, a4, a5, a6⟩, rO, rQ, rP, r1, r2, rK, rS, rH, rD⟩ := h
  have fd : ∀ c, ¬ c = b → mset d b 1 v c = d c := fun c x => by
    funext j
    exact ms_a x
  have fb : ∀ j, ¬ j = 1 → mset d b 1 v b j = d b j := fun j x => ms_i x
  have S : ∀ i, ¬ i = 1 → ws w 1 v i = w i := fun i x => wsn x
  refine ⟨rB.st hv (by omega) (by omega) (by omega), ⟨?_, ?_, ?_, ?_, ?_, ?_, fun q x y => ?_⟩, rO.k (fun c x y z => fd c (by omega)) (fun i hi => S i (by omega)) n7, rQ.k (fd _ (by omega)) (fun i hi => S i (by omega)) n7 hO', rP.k (fd _ (by omega)) (fun i hi => S i (by omega)), r1.k (fun c x y => fd c (by omega)) (fun i hi => S i (by omega)) n9, r2.k (fun c x y => fd c (by omega)) (fun i hi => S i (by omega)) n9, rK.k (fun c x y => fd c (by omega)) (fun i hi => S i (by omega)) n10, rS.k (fb 6 (by decide)) (fd _ (by omega)) (fun i hi => S i (by omega)) n11, rH.k (fd _ (by omega)) (fun i hi => S i (by omega)) n9 n10 hK'.of, rD.k (fb 7 (by decide)) (fun c x y => fd c (by omega)) (fun i hi => S i (by omega)) n9⟩
  · rw [fb 0 (by decide), S 0 (by decide)]; exact a0
  · rw [ms_e rfl rfl, wse rfl]
  · rw [fb 2 (by decide), S 7 (by decide)]; exact a2
  · rw [fb 3 (by decide), S 8 (by decide)]; exact a3
  · rw [fb 4 (by decide), S 9 (by decide)]; exact a4
  · rw [fb 5 (by decide), S 10 (by decide)]; exact a5
  · rw [fd (b + 1) (by omega), S (2 + q) (by omega)]; exact a6 q x y
theorem openW {b o : Int} {d : mD} {w : Row} (hg : GG w) (h : WR b d w) (ho : 0 ≤ o ∧ o < w 7) : WR b (mset d (b + 8) o 1) (ws w (12 + 68 * o + 4) 1) := by
  obtain ⟨hN, hO', hQ', hT, hC, hK', hR⟩ := hg
  obtain ⟨n7, n8, n9, n10, n11, n0, n1, n2, n3, n4, n5, n6⟩ := id hN
  obtain ⟨rB, rA, rO, rQ, rP, r1, r2, rK, rS, rH, rD⟩ := h
  have fd : ∀ c, ¬ c = b + 8 → mset d (b + 8) o 1 c = d c := fun c x => by
    funext j
    exact ms_a x
  have S : ∀ i, ¬ i = 12 + 68 * o + 4 → ws w (12 + 68 * o + 4) 1 i = w i := fun i x => wsn x
  refine ⟨rB.st8 (Or.inr rfl) (Or.inl rfl), rA.k (fun j x y => by rw [fd b (by omega)]) (fd _ (by omega)) (fun i hi => S i (by omega)), fun q x y => ?_, rQ.k (fd _ (by omega)) (fun i hi => S i (by omega)) n7 hO', rP.k (fd _ (by omega)) (fun i hi => S i (by omega)), r1.k (fun c x y => fd c (by omega)) (fun i hi => S i (by omega)) n9, r2.k (fun c x y => fd c (by omega)) (fun i hi => S i (by omega)) n9, rK.k (fun c x y => fd c (by omega)) (fun i hi => S i (by omega)) n10, rS.k (by rw [fd b (by omega)]) (fd _ (by omega)) (fun i hi => S i (by omega)) n11, rH.k (fd _ (by omega)) (fun i hi => S i (by omega)) n9 n10 hK'.of, rD.k (by rw [fd b (by omega)]) (fun c x y => fd c (by omega)) (fun i hi => S i (by omega)) n9⟩
  rw [S 7 (by omega)] at y
  obtain ⟨g1, g2, g3, g4, g5, g6⟩ := rO q x y
  rw [fd (b + 2) (by omega), fd (b + 3) (by omega), fd (b + 4) (by omega), fd (b + 5) (by omega), fd (b + 6) (by omega), S (12 + 68 * q + 1) (by omega), S (12 + 68 * q + 2) (by omega), S (12 + 68 * q + 3) (by omega), S (12 + 68 * q + 5) (by omega), S (12 + 68 * q + 6) (by omega)]
  refine ⟨g1, g2, g3, ?_, g5, g6⟩
  by_cases z : q = o
  · rw [z, ms_e rfl rfl, wse rfl]
  · rw [ms_i z, S (12 + 68 * q + 4) (by omega)]
    exact g4
theorem perW {b c : Int} {d : mD} {w : Row} (hg : GG w) (h : WR b d w) (h8 : w 8 < 16) : WR b (mset d b 3 (w 8 + 1)) (W_182 c w) := by
  obtain ⟨hN, hO', hQ', hT, hC, hK', hR⟩ := hg
  obtain ⟨n7, n8, n9, n10, n11, n0, n1, n2, n3, n4, n5, n6⟩ := id hN
  obtain ⟨rB, ⟨a0, a1, a2, a3, a4, a5, a6⟩, rO, rQ, rP, r1, r2, rK, rS, rH, rD⟩ := h
  have fd : ∀ c, ¬ c = b → mset d b 3 (w 8 + 1) c = d c := fun c x => by
    funext j
    exact ms_a x
  have fb : ∀ j, ¬ j = 3 → mset d b 3 (w 8 + 1) b j = d b j := fun j x => ms_i x
  have S : ∀ i, ¬ i = 420 + 2 * w 8 + 0 → ¬ i = 420 + 2 * w 8 + 1 → ¬ i = 8 → W_182 c w i = w i := fun i x y z => by
    unfold W_182
    rw [wsn z, wsn y, wsn x]
  have S1 : W_182 c w (420 + 2 * w 8 + 1) = 0 := by
    unfold W_182
    rw [wsn (by omega), wse rfl]
  have S8 : W_182 c w 8 = w 8 + 1 := by
    unfold W_182
    exact wse rfl
  generalize W_182 c w = w' at *
  refine ⟨rB.st (by omega) (by omega) (by omega) (by omega), ⟨?_, ?_, ?_, ?_, ?_, ?_, fun q x y => ?_⟩, rO.k (fun c x y z => fd c (by omega)) (fun i hi => S i (by omega) (by omega) (by omega)) n7, rQ.k (fd _ (by omega)) (fun i hi => S i (by omega) (by omega) (by omega)) n7 hO', fun p x y => ?_, r1.k (fun c x y => fd c (by omega)) (fun i hi => S i (by omega) (by omega) (by omega)) n9, r2.k (fun c x y => fd c (by omega)) (fun i hi => S i (by omega) (by omega) (by omega)) n9, rK.k (fun c x y => fd c (by omega)) (fun i hi => S i (by omega) (by omega) (by omega)) n10, rS.k (fb 6 (by decide)) (fd _ (by omega)) (fun i hi => S i (by omega) (by omega) (by omega)) n11, rH.k (fd _ (by omega)) (fun i hi => S i (by omega) (by omega) (by omega)) n9 n10 hK'.of, rD.k (fb 7 (by decide)) (fun c x y => fd c (by omega)) (fun i hi => S i (by omega) (by omega) (by omega)) n9⟩
  · rw [fb 0 (by decide), S 0 (by omega) (by omega) (by omega)]; exact a0
  · rw [fb 1 (by decide), S 1 (by omega) (by omega) (by omega)]; exact a1
  · rw [fb 2 (by decide), S 7 (by omega) (by omega) (by omega)]; exact a2
  · rw [ms_e rfl rfl, S8]
  · rw [fb 4 (by decide), S 9 (by omega) (by omega) (by omega)]; exact a4
  · rw [fb 5 (by decide), S 10 (by omega) (by omega) (by omega)]; exact a5
  · rw [fd (b + 1) (by omega), S (2 + q) (by omega) (by omega) (by omega)]; exact a6 q x y
  · have g := rP p x y
    rw [fd (b + 7) (by omega), S8, g]
    by_cases z : p < w 8
    · rw [if_pos z, if_pos (by omega), S (420 + 2 * p + 1) (by omega) (by omega) (by omega)]
    · rw [if_neg z]
      by_cases z2 : p = w 8
      · rw [if_pos (by omega), z2, S1]
      · rw [if_neg (by omega)]
theorem setW {b k v : Int} {d : mD} {w : Row} (hg : GG w) (h : WR b d w) (hk : 0 ≤ k ∧ k < 5) (hv : -1000000 ≤ v ∧ v ≤ 1000000) : WR b (mset d (b + 1) k v) (ws w (2 + k) v) := by
  obtain ⟨hN, hO', hQ', hT, hC, hK', hR⟩ := hg
  obtain ⟨n7, n8, n9, n10, n11, n0, n1, n2, n3, n4, n5, n6⟩ := id hN
  obtain ⟨rB, ⟨a0, a1, a2, a3, a4, a5, a6⟩, rO, rQ, rP, r1, r2, rK, rS, rH, rD⟩ := h
  have fd : ∀ c, ¬ c = b + 1 → mset d (b + 1) k v c = d c := fun c x => by
    funext j
    exact ms_a x
  have S : ∀ i, ¬ i = 2 + k → ws w (2 + k) v i = w i := fun i x => wsn x
  refine ⟨rB.st hv (by omega) (by omega) (by omega), ⟨?_, ?_, ?_, ?_, ?_, ?_, fun q x y => ?_⟩, rO.k (fun c x y z => fd c (by omega)) (fun i hi => S i (by omega)) n7, rQ.k (fd _ (by omega)) (fun i hi => S i (by omega)) n7 hO', rP.k (fd _ (by omega)) (fun i hi => S i (by omega)), r1.k (fun c x y => fd c (by omega)) (fun i hi => S i (by omega)) n9, r2.k (fun c x y => fd c (by omega)) (fun i hi => S i (by omega)) n9, rK.k (fun c x y => fd c (by omega)) (fun i hi => S i (by omega)) n10, rS.k (by rw [fd b (by omega)]) (fd _ (by omega)) (fun i hi => S i (by omega)) n11, rH.k (fd _ (by omega)) (fun i hi => S i (by omega)) n9 n10 hK'.of, rD.k (by rw [fd b (by omega)]) (fun c x y => fd c (by omega)) (fun i hi => S i (by omega)) n9⟩
  · rw [fd b (by omega), S 0 (by omega)]; exact a0
  · rw [fd b (by omega), S 1 (by omega)]; exact a1
  · rw [fd b (by omega), S 7 (by omega)]; exact a2
  · rw [fd b (by omega), S 8 (by omega)]; exact a3
  · rw [fd b (by omega), S 9 (by omega)]; exact a4
  · rw [fd b (by omega), S 10 (by omega)]; exact a5
  · by_cases z : q = k
    · rw [z, ms_e rfl rfl, wse rfl]
    · rw [ms_i z, S (2 + q) (by omega)]
      exact a6 q x y
