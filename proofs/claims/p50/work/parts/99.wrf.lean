/-! ===== World.claim, World.witness ===== -/
theorem clW {b t v : Int} {d : mD} {w w' : Row} (hg : GG w) (hW : WR b d w) (ht : 0 ≤ t ∧ t < w 9) (hv : v = 0 ∨ v = 1) (e5 : w' (452 + 24 * t + 5) = 1) (e6 : w' (452 + 24 * t + 6) = v) (S : ∀ i, (¬ i = 452 + 24 * t + 5 ∧ ¬ i = 452 + 24 * t + 6) → w' i = w i) : WR b (mset (mset d (b + 16) t 1) (b + 17) t v) w' := by
  obtain ⟨hN, hO, hQ, hT, hC, hK, hR⟩ := hg
  obtain ⟨n7, n8, n9, n10, n11, n0, n1, n2, n3, n4, n5, n6⟩ := id hN
  obtain ⟨rB, rA, rO, rQ, rP, r1, r2, rK, rS, rH, rD⟩ := hW
  have fd : ∀ c, ¬ c = b + 16 → ¬ c = b + 17 → mset (mset d (b + 16) t 1) (b + 17) t v c = d c := fun c x y => by
    funext j
    rw [ms_a y, ms_a x]
  have v16 : mset (mset d (b + 16) t 1) (b + 17) t v (b + 16) t = 1 := by rw [ms_a (by omega), ms_e rfl rfl]
  have v17 : mset (mset d (b + 16) t 1) (b + 17) t v (b + 17) t = v := ms_e rfl rfl
  have f16 : ∀ j, ¬ j = t → mset (mset d (b + 16) t 1) (b + 17) t v (b + 16) j = d (b + 16) j := fun j x => by rw [ms_a (by omega), ms_i x]
  have f17 : ∀ j, ¬ j = t → mset (mset d (b + 16) t 1) (b + 17) t v (b + 17) j = d (b + 17) j := fun j x => by rw [ms_i x, ms_a (by omega)]
  have hB : WB b (mset (mset d (b + 16) t 1) (b + 17) t v) := (rB.st8 (Or.inr rfl) (Or.inr (Or.inl rfl))).st8 hv (Or.inr (Or.inr rfl))
  generalize mset (mset d (b + 16) t 1) (b + 17) t v = d' at *
  refine ⟨hB, rA.k (fun j x y => by rw [fd _ (by omega) (by omega)]) (fd _ (by omega) (by omega)) (fun i hi => S i (by omega)), rO.k (fun c x y z => fd c (by omega) (by omega)) (fun i hi => S i (by omega)) n7, rQ.k (fd _ (by omega) (by omega)) (fun i hi => S i (by omega)) n7 hO, rP.k (fd _ (by omega) (by omega)) (fun i hi => S i (by omega)), r1.k (fun c x y => fd c (by omega) (by omega)) (fun i hi => S i (by omega)) n9, fun t' x y => ?_, rK.k (fun c x y => fd c (by omega) (by omega)) (fun i hi => S i (by omega)) n10, rS.k (by rw [fd _ (by omega) (by omega)]) (fd _ (by omega) (by omega)) (fun i hi => S i (by omega)) n11, rH.k (fd _ (by omega) (by omega)) (fun i hi => S i (by omega)) n9 n10 hK.of, rD.k (by rw [fd _ (by omega) (by omega)]) (fun c x y => fd c (by omega) (by omega)) (fun i hi => S i (by omega)) n9⟩
  rw [S 9 (by omega)] at y
  obtain ⟨g1, g2, g3⟩ := r2 t' x y
  rw [fd (b + 15) (by omega) (by omega), S (452 + 24 * t' + 7) (by omega)]
  by_cases q : t' = t
  · rw [q, v16, v17, e5, e6, ← q]
    exact ⟨rfl, rfl, g3⟩
  · rw [f16 t' q, f17 t' q, S (452 + 24 * t' + 5) (by omega), S (452 + 24 * t' + 6) (by omega)]
    exact ⟨g1, g2, g3⟩
theorem w_356 {E : mO × tW} {K : tK} {b t : Int} {d : mD} {w : Row} (hW : WR b d w) (hC : CB w) (ht : 0 ≤ t ∧ t < w 9) (hs : w (452 + 24 * t + 4) = 1) (hc : w (452 + 24 * t + 5) = 0) (h9 : w 0 ≤ 999) (k : ∀ d', WR b d' (W_228 t w) → WF b d d' → K (.inl (some (0, V_228 t w))) d') : tCall E 356 [.inr (41, b), .inl (0, t)] d K := by
  obtain ⟨hg, s, d0, r⟩ := hC
  obtain ⟨n7, n8, n9, n10, n11, n0, n1, n2, n3, n4, n5, n6⟩ := id hg.1
  have gt := hg.2.2.2.1 t ht.1 ht.2
  have g := hg.2.2.2.2.1 t ht.1 ht.2
  have h6 : w (452 + 24 * t + 6) = 0 := by
    rcases g.2.1 with z | z
    · exact z
    · have := (g.2.2.1 z).1
      omega
  have hen : w (452 + 24 * t + 3) ≤ 999 := by
    have := gt.2.2.2.2.2 (by omega)
    omega
  have e3 : d (b + 1) 1 = w 3 := hW.2.1.2.2.2.2.2.2 1 (by decide) (by decide)
  have i61 : 0 ≤ t ∧ t < 61 := ⟨ht.1, by omega⟩
  refine t_356_0 ?_
  simp (disch := omega) only [mz_e, mz_i, mz_a]
  rw [e3]
  by_cases c : 0 < w 3
  · have hz : ¬ w 3 = 0 := by omega
    have q := clW (v := 0) (w' := ws w (452 + 24 * t + 5) 1) hg hW ht (Or.inl rfl) (wse rfl) (by rw [wsn (by omega)]; exact h6) (fun i hi => wsn hi.1)
    have k1 := k _ (by unfold W_228; rw [if_pos c]; exact q) ((WF.refl.st (by omega) (by omega) (by omega)).st (by omega) (by omega) (by omega))
    unfold V_228 at k1
    rw [if_pos c] at k1
    refine ⟨⟨Or.inr trivial, i61⟩, by decide, m_inR (by omega) (by omega), fun _ => ⟨⟨Or.inl trivial, i61⟩, i61, m_inR (by decide) (by decide), fun _ => k1, fun z => absurd trivial z⟩, fun z => absurd z hz⟩
  · have hz : w 3 = 0 := by omega
    have q := clW (v := 1) (w' := ws (ws w (452 + 24 * t + 5) 1) (452 + 24 * t + 6) 1) hg hW ht (Or.inr rfl) (by rw [wsn (by omega), wse rfl]) (wse rfl) (fun i hi => by rw [wsn hi.2, wsn hi.1])
    obtain ⟨g1, r1⟩ := setC (c := 1) (v := 0) (w' := ws w (452 + 24 * t + 5) 1) hg r ht (Or.inr rfl) (Or.inl rfl) (fun z => absurd z (by decide)) (fun _ => hs) (wse rfl) (by rw [wsn (by omega)]; exact h6) (fun i a b => wsn a)
    obtain ⟨g2, -⟩ := setC (s := s) (t := t) (c := 1) (v := 1) (w' := ws (ws w (452 + 24 * t + 5) 1) (452 + 24 * t + 6) 1) g1 r1 (by rw [wsn (by omega)]; exact ht) (Or.inr rfl) (Or.inr rfl) (fun _ => ⟨rfl, by rw [wsn (by omega)]; exact hen⟩) (fun _ => by rw [wsn (by omega)]; exact hs) (by rw [wsn (by omega), wse rfl]) (wse rfl) (fun i a b => wsn b)
    refine ⟨⟨Or.inr trivial, i61⟩, by decide, m_inR (by omega) (by omega), fun z => absurd hz z, fun _ => ⟨⟨Or.inr trivial, i61⟩, i61, m_inR (by decide) (by decide), fun z => absurd z (by decide), fun _ => ?_⟩⟩
    refine w_349 q g2 (by rw [wsn (by omega), wsn (by omega)]; exact ht) (by rw [wsn (by omega), wsn (by omega)]; exact hen) (fun d' q1 q2 => ?_)
    refine t_356_41 ?_
    have k1 := k d' (by unfold W_228; rw [if_neg c]; exact q1) (((WF.refl.st (by omega) (by omega) (by omega)).st (by omega) (by omega) (by omega)).trans q2)
    unfold V_228 at k1
    rw [if_neg c] at k1
    exact k1
-- one more deed
def wiD (b t p v : Int) (d : mD) : mD := mset (mset (mset (mset (mset (mset d (b + 25) (d b 7) t) (b + 26) (d b 7) p) (b + 27) (d b 7) (d b 0 / 20)) b 7 (d b 7 + 1)) (b + 15) t (d (b + 15) t + 1)) (b + 17) t v
theorem wiW {b t p v : Int} {d : mD} {w w' : Row} (hg : GG w) (hW : WR b d w) (h7 : d b 7 < 190) (h16 : 0 ≤ w (452 + 24 * t + 7) ∧ w (452 + 24 * t + 7) ≤ 16) (ht : 0 ≤ t ∧ t < w 9) (hp : 0 ≤ p ∧ p < 16) (hz : w (452 + 24 * t + 8 + p) = 0) (hv : v = 0 ∨ v = 1) (e6 : w' (452 + 24 * t + 6) = v) (e7 : w' (452 + 24 * t + 7) = w (452 + 24 * t + 7) + 1) (e8 : w' (452 + 24 * t + 8 + p) = w 0 + 1) (S : ∀ i, (¬ i = 452 + 24 * t + 6 ∧ ¬ i = 452 + 24 * t + 7 ∧ ¬ i = 452 + 24 * t + 8 + p) → w' i = w i) : WR b (wiD b t p v d) w' ∧ WF0 b d (wiD b t p v d) ∧ wiD b t p v d b 7 = d b 7 + 1 := by
  obtain ⟨hN, hO, hQ, hT, hC, hK, hR⟩ := hg
  obtain ⟨n7, n8, n9, n10, n11, n0, n1, n2, n3, n4, n5, n6⟩ := id hN
  obtain ⟨rB, ⟨a0, a1, a2, a3, a4, a5, a6⟩, rO, rQ, rP, r1, r2, rK, rS, rH, ⟨d1, d2, d3⟩⟩ := hW
  have e15 : d (b + 15) t = w (452 + 24 * t + 7) := (r2 t ht.1 ht.2).2.2
  unfold wiD
  rw [e15, a0]
  generalize hn : d b 7 = n at *
  have hB : WB b (mset (mset (mset (mset (mset (mset d (b + 25) n t) (b + 26) n p) (b + 27) n (w 0 / 20)) b 7 (n + 1)) (b + 15) t (w (452 + 24 * t + 7) + 1)) (b + 17) t v) :=
    (((((rB.st (by omega) (by omega) (by omega) (by omega)).st (by omega) (by omega) (by omega) (by omega)).st (by omega) (by omega) (by omega) (by omega)).st (by omega) (by omega) (by omega) (by omega)).st (by omega) (by omega) (by omega) (by omega)).st8 hv (Or.inr (Or.inr rfl))
  have hF : WF0 b d (mset (mset (mset (mset (mset (mset d (b + 25) n t) (b + 26) n p) (b + 27) n (w 0 / 20)) b 7 (n + 1)) (b + 15) t (w (452 + 24 * t + 7) + 1)) (b + 17) t v) := by
    intro c hc
    funext j
    simp (disch := omega) only [ms_a]
  generalize hd : mset (mset (mset (mset (mset (mset d (b + 25) n t) (b + 26) n p) (b + 27) n (w 0 / 20)) b 7 (n + 1)) (b + 15) t (w (452 + 24 * t + 7) + 1)) (b + 17) t v = d' at *
  have fd : ∀ c, ¬ c = b → ¬ c = b + 15 → ¬ c = b + 17 → ¬ (b + 25 ≤ c ∧ c ≤ b + 27) → d' c = d c := fun c x y z u => by
    rw [← hd]
    funext j
    simp (disch := omega) only [ms_a]
  have fb : ∀ j, ¬ j = 7 → d' b j = d b j := fun j x => by
    rw [← hd]
    simp (disch := omega) only [ms_a, ms_i]
  have v7 : d' b 7 = n + 1 := by
    rw [← hd]
    simp (disch := omega) only [ms_a, ms_e]
  have f15 : ∀ j, ¬ j = t → d' (b + 15) j = d (b + 15) j := fun j x => by
    rw [← hd]
    simp (disch := omega) only [ms_a, ms_i]
  have v15 : d' (b + 15) t = w (452 + 24 * t + 7) + 1 := by
    rw [← hd]
    simp (disch := omega) only [ms_a, ms_e]
  have f17 : ∀ j, ¬ j = t → d' (b + 17) j = d (b + 17) j := fun j x => by
    rw [← hd]
    simp (disch := omega) only [ms_a, ms_i]
  have v17 : d' (b + 17) t = v := by
    rw [← hd]
    exact ms_e rfl rfl
  have col : ∀ c, 25 ≤ c → c ≤ 27 → ∀ j, ¬ j = n → d' (b + c) j = d (b + c) j := fun c x y j z => by
    rw [← hd, ms_a (show ¬ b + c = b + 17 by omega), ms_a (show ¬ b + c = b + 15 by omega), ms_a (show ¬ b + c = b by omega), ms_i z, ms_i z, ms_i z]
  have v25 : d' (b + 25) n = t := by
    rw [← hd]
    simp (disch := omega) only [ms_a, ms_e]
  have v26 : d' (b + 26) n = p := by
    rw [← hd]
    simp (disch := omega) only [ms_a, ms_e]
  have v27 : d' (b + 27) n = w 0 / 20 := by
    rw [← hd]
    simp (disch := omega) only [ms_a, ms_e]
  clear hd
  -- no deed of these two is there
  have nod : ∀ i, 0 ≤ i → i < n → ¬ (d (b + 25) i = t ∧ d (b + 26) i = p) := fun i x y z => by
    have g := (d2 i x y).2.2.1
    rw [z.1, z.2] at g
    exact g hz
  refine ⟨⟨hB, ⟨?_, ?_, ?_, ?_, ?_, ?_, fun k x y => ?_⟩, rO.k (fun c x y z => fd c (by omega) (by omega) (by omega) (by omega)) (fun i hi => S i (by omega)) n7, rQ.k (fd _ (by omega) (by omega) (by omega) (by omega)) (fun i hi => S i (by omega)) n7 hO, rP.k (fd _ (by omega) (by omega) (by omega) (by omega)) (fun i hi => S i (by omega)), r1.k (fun c x y => fd c (by omega) (by omega) (by omega) (by omega)) (fun i hi => S i (by omega)) n9, fun t' x y => ?_, rK.k (fun c x y => fd c (by omega) (by omega) (by omega) (by omega)) (fun i hi => S i (by omega)) n10, rS.k (fb 6 (by decide)) (fd _ (by omega) (by omega) (by omega) (by omega)) (fun i hi => S i (by omega)) n11, rH.k (fd _ (by omega) (by omega) (by omega) (by omega)) (fun i hi => S i (by omega)) n9 n10 hK.of, ⟨by rw [v7]; omega, fun k x y => ?_, fun t' p' x y u q z => ?_⟩⟩, hF, v7⟩
  · rw [fb 0 (by decide), S 0 (by omega)]; exact a0
  · rw [fb 1 (by decide), S 1 (by omega)]; exact a1
  · rw [fb 2 (by decide), S 7 (by omega)]; exact a2
  · rw [fb 3 (by decide), S 8 (by omega)]; exact a3
  · rw [fb 4 (by decide), S 9 (by omega)]; exact a4
  · rw [fb 5 (by decide), S 10 (by omega)]; exact a5
  · rw [fd (b + 1) (by omega) (by omega) (by omega) (by omega), S (2 + k) (by omega)]; exact a6 k x y
  · rw [S 9 (by omega)] at y
    obtain ⟨g1, g2, g3⟩ := r2 t' x y
    rw [fd (b + 16) (by omega) (by omega) (by omega) (by omega), S (452 + 24 * t' + 5) (by omega)]
    by_cases q : t' = t
    · rw [q, v17, v15, e6, e7, ← q]
      exact ⟨g1, rfl, rfl⟩
    · rw [f17 t' q, f15 t' q, S (452 + 24 * t' + 6) (by omega), S (452 + 24 * t' + 7) (by omega)]
      exact ⟨g1, g2, g3⟩
  · rw [v7] at y
    rw [S 9 (by omega)]
    by_cases q : k = n
    · rw [q, v25, v26, v27, e8]
      refine ⟨ht, hp, by omega, by rw [show w 0 + 1 - 1 = w 0 by omega], fun i u z => ?_⟩
      rw [col 25 (by decide) (by decide) i (by omega), col 26 (by decide) (by decide) i (by omega)]
      exact nod i u z
    · obtain ⟨g1, g2, g3, g4, g5⟩ := d2 k x (by omega)
      have g6 := nod k x (by omega)
      have eq : w' (452 + 24 * d (b + 25) k + 8 + d (b + 26) k) = w (452 + 24 * d (b + 25) k + 8 + d (b + 26) k) := S _ (by omega)
      rw [col 25 (by decide) (by decide) k q, col 26 (by decide) (by decide) k q, col 27 (by decide) (by decide) k q, eq]
      refine ⟨g1, g2, g3, g4, fun i u z => ?_⟩
      rw [col 25 (by decide) (by decide) i (by omega), col 26 (by decide) (by decide) i (by omega)]
      exact g5 i u z
  · rw [S 9 (by omega)] at y
    rw [v7]
    by_cases q1 : t' = t ∧ p' = p
    · exact ⟨n, by omega, by omega, by rw [v25, q1.1], by rw [v26, q1.2]⟩
    · rw [S (452 + 24 * t' + 8 + p') (by omega)] at z
      obtain ⟨k, k0, k1, k2, k3⟩ := d3 t' p' x y u q z
      exact ⟨k, k0, by omega, by rw [col 25 (by decide) (by decide) k (by omega)]; exact k2, by rw [col 26 (by decide) (by decide) k (by omega)]; exact k3⟩
theorem RelC.wit {s t : Int} {d : mD} {w : Row} (h : RelC s d w) (ht : 0 ≤ t ∧ t < w 9) : 0 ≤ w (452 + 24 * t + 7) ∧ w (452 + 24 * t + 7) ≤ 16 := by
  rw [(h t ht.1 ht.2).2.1]
  have c := csum_rng (f := fun p => if w (452 + 24 * t + 8 + p) = 0 then 0 else 1) (n := 16) (B := 1) (fun i _ _ => by
    show 0 ≤ (if w (452 + 24 * t + 8 + i) = 0 then (0 : Int) else 1) ∧ (if w (452 + 24 * t + 8 + i) = 0 then (0 : Int) else 1) ≤ 1
    split <;> omega)
  omega
theorem w_361 {E : mO × tW} {K : tK} {b t p : Int} {d : mD} {w : Row} (hW : WR b d w) (hC : CB w) (h7 : d b 7 < 190) (ht : 0 ≤ t ∧ t < w 9) (hp : 0 ≤ p ∧ p < w 8) (hv : V_234 t p w = 0) (h9 : w 0 ≤ 999) (k : ∀ d', WR b d' (W_235 t p w) → WF0 b d d' → d' b 7 = d b 7 + 1 → K (.inl (some (0, V_235 t p w))) d') : tCall E 361 [.inr (41, b), .inl (0, t), .inl (0, p)] d K := by
  obtain ⟨hg, s, d0, r⟩ := hC
  obtain ⟨n7, n8, n9, n10, n11, n0, n1, n2, n3, n4, n5, n6⟩ := id hg.1
  obtain ⟨c5, c6, c0, c8⟩ := (hinder hg r ht hp).2 hv
  have gt := hg.2.2.2.1 t ht.1 ht.2
  have gC := hg.2.2.2.2.1 t ht.1 ht.2
  have c4 := gC.2.2.2.1 c5
  have hen : w (452 + 24 * t + 3) ≤ 999 := by
    have := gt.2.2.2.2.2 (by omega)
    omega
  have h16 := RelC.wit r.2.2.2.2.2.1 ht
  have e3 : d (b + 1) 1 = w 3 := hW.2.1.2.2.2.2.2.2 1 (by decide) (by decide)
  have a0 : d b 0 = w 0 := hW.2.1.1
  have e15 : d (b + 15) t = w (452 + 24 * t + 7) := (hW.2.2.2.2.2.2.1 t ht.1 ht.2).2.2
  have hd7 : 0 ≤ d b 7 := hW.2.2.2.2.2.2.2.2.2.2.1.1
  have i61 : 0 ≤ t ∧ t < 61 := ⟨ht.1, by omega⟩
  have h8 : ¬ 452 + 24 * t + 8 + p = 452 + 24 * t + 7 := by omega
  generalize hw1 : ws (ws w (((452 + (24 * t)) + 8) + p) ((w 0) + 1)) ((452 + (24 * t)) + 7) ((w ((452 + (24 * t)) + 7)) + 1) = w1
  have f8 : w1 (452 + 24 * t + 8 + p) = w 0 + 1 := by rw [← hw1, wsn h8, wse rfl]
  have f7 : w1 (452 + 24 * t + 7) = w (452 + 24 * t + 7) + 1 := by rw [← hw1, wse rfl]
  have fi : ∀ i, ¬ i = 452 + 24 * t + 8 + p → ¬ i = 452 + 24 * t + 7 → w1 i = w i := fun i a b => by rw [← hw1, wsn b, wsn a]
  obtain ⟨g1, r1⟩ := witStep hg r ht hp c8 f8 f7 fi
  have t9 : w1 9 = w 9 := fi 9 (by omega) (by omega)
  refine t_361_0 ?_
  simp (disch := omega) only [mz_e, mz_i, mz_a]
  rw [e3]
  by_cases c : w (452 + 24 * t + 7) + 1 < w 3
  · obtain ⟨q1, q2, q3⟩ := wiW (v := 0) (w' := w1) hg hW h7 h16 ht ⟨hp.1, by omega⟩ c8 (Or.inl rfl) (by rw [fi _ (by omega) (by omega)]; exact c6) f7 f8 (fun i hi => fi i hi.2.2 hi.2.1)
    have k1 := k _ (by unfold W_235; rw [if_pos c, hw1]; exact q1) q2 q3
    unfold V_235 wiD at k1
    rw [if_pos c] at k1
    repeat' apply And.intro
    all_goals first
      | omega
      | trivial
      | exact m_inR (by omega) (by omega)
      | exact fun z => absurd z (by omega)
      | (intro z
         repeat' apply And.intro
         all_goals first
           | exact Or.inl trivial
           | omega
           | trivial
           | exact m_inR (by decide) (by decide)
           | exact fun _ => k1
           | exact fun z => absurd trivial z
           | exact fun z => absurd rfl z)
  · have q := wiW (v := 1) (w' := ws w1 (452 + 24 * t + 6) 1) hg hW h7 h16 ht ⟨hp.1, by omega⟩ c8 (Or.inr rfl) (wse rfl) (by rw [wsn (by omega)]; exact f7) (by rw [wsn (by omega)]; exact f8) (fun i hi => by rw [wsn hi.1]; exact fi i hi.2.2 hi.2.1)
    obtain ⟨q1, q2, q3⟩ := q
    obtain ⟨g2, -⟩ := setC (s := s) (t := t) (c := 1) (v := 1) (w' := ws w1 (452 + 24 * t + 6) 1) g1 r1 (by rw [t9]; exact ht) (Or.inr rfl) (Or.inr rfl) (fun _ => ⟨rfl, by rw [fi _ (by omega) (by omega)]; exact hen⟩) (fun _ => by rw [fi _ (by omega) (by omega)]; exact c4) (by rw [wsn (by omega), fi _ (by omega) (by omega)]; exact c5) (wse rfl) (fun i a b => wsn b)
    have fin : tCall E 349 [.inr (41, b), .inl (0, t)] (wiD b t p 1 d) (tbk E 361 93 [.inr (41, b), .inl (0, t), .inl (0, p)] [] 0 0 K) := by
      refine w_349 q1 g2 (by rw [wsn (by omega), t9]; exact ht) (by rw [wsn (by omega), fi _ (by omega) (by omega)]; exact hen) (fun d' j1 j2 => ?_)
      refine t_361_96 ?_
      have k1 := k d' (by unfold W_235; rw [if_neg c, hw1]; exact j1) (q2.trans j2.1) (j2.2.trans q3)
      unfold V_235 at k1
      rw [if_neg c, hw1] at k1
      exact k1
    unfold wiD at fin
    repeat' apply And.intro
    all_goals first
      | omega
      | trivial
      | exact m_inR (by omega) (by omega)
      | exact fun z => absurd z (by omega)
      | (intro z
         repeat' apply And.intro
         all_goals first
           | exact Or.inr trivial
           | omega
           | trivial
           | exact m_inR (by decide) (by decide)
           | exact fun z => absurd z (by decide)
           | exact fun _ => fin)
