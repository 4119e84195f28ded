/-! ===== isSo: World and class agree ===== -/
theorem cntR {w : Row} (hg : GG w) : ∀ i, 0 ≤ i → i < 12 → mInR (cntF i w) := fun i i0 i1 => by
  obtain ⟨n7, n8, n9, n10, n11, n0, n1, n2, n3, n4, n5, n6⟩ := id hg.1
  have rA := csum_rng (f := cA w) (n := (w 9).toNat) (B := 1) (fun t x y => by unfold cA; split <;> omega)
  have rB := csum_rng (f := cB w) (n := (w 9).toNat) (B := 1) (fun t x y => by unfold cB; repeat' split <;> omega)
  have rC := csum_rng (f := cC w) (n := (w 9).toNat) (B := 1) (fun t x y => by
    obtain ⟨g1, g2, g3, -⟩ := hg.2.2.2.2.1 t x (by omega)
    unfold cC
    omega)
  have rE := csum_rng (f := cE w) (n := (w 10).toNat) (B := 1) (fun t x y => by unfold cE; split <;> omega)
  unfold cntF
  repeat' split
  all_goals exact m_inR (by omega) (by omega)
theorem is10 {E : mO × tW} {K : tK} {b : Int} {w : Row} {d : mD} {c s : Nat} (hW : WR b d w) (hg : GG w) (k : tRun E 375 (100, [.inr (10, 0), .inr (41, b), .inl (0, csum (cB w) (w 9).toNat), .inl (0, csum (cC w) (w 9).toNat), .inl (0, csum (cA w) (w 9).toNat), .inl (0, 0), .inl (0, 0), .inl (0, 0), tu, tu], [], c, s, d) K) : ∀ (n : Nat) (x2 x3 x4 x5 : Int), w 9 - x5 = (n : Int) → 0 ≤ x5 → x2 = csum (cB w) x5.toNat → x3 = csum (cC w) x5.toNat → x4 = csum (cA w) x5.toNat →
    tRun E 375 (10, [.inr (10, 0), .inr (41, b), .inl (0, x2), .inl (0, x3), .inl (0, x4), .inl (0, x5), tu, tu, tu, tu], [], c, s, d) K := by
  obtain ⟨n7, n8, n9, n10, n11, n0, n1, n2, n3, n4, n5, n6⟩ := id hg.1
  obtain ⟨q0, q1, q2, q3, q4, q5, q6⟩ := hW.eq
  intro n
  induction n with
  | zero =>
    intro x2 x3 x4 x5 hn h0 e2 e3 e4
    have ex : x5 = w 9 := by omega
    refine t_375_10 ⟨⟨m_inR (by omega) (by omega), hW.1.1.m (by omega) (by omega)⟩, fun _ => ?_, fun z => absurd z (by omega)⟩
    rw [e2, e3, e4, ex]
    exact k
  | succ n ih =>
    intro x2 x3 x4 x5 hn h0 e2 e3 e4
    have u5 := (hW.2.2.2.2.2.1 x5 h0 (by omega)).2.2.2.2
    obtain ⟨u6, u7, -⟩ := hW.2.2.2.2.2.2.1 x5 h0 (by omega)
    obtain ⟨g1, g2, g3, -⟩ := hg.2.2.2.2.1 x5 h0 (by omega)
    have m : ∀ c, b ≤ c → c ≤ b + 27 → mInR (d c x5) := fun c x y => hW.1.1.m x y
    have r : 0 ≤ x5 ∧ x5 < 61 := by omega
    have L : ∀ i j l : Int, cB w x5 = i → cC w x5 = j → cA w x5 = l → tRun E 375 (10, [.inr (10, 0), .inr (41, b), .inl (0, x2 + i), .inl (0, x3 + j), .inl (0, x4 + l), .inl (0, x5 + 1), tu, tu, tu, tu], [], c, s, d) K := fun i j l a1 a2 a3 => ih _ _ _ (x5 + 1) (by omega) (by omega) (by rw [csum_s _ h0, e2, a1]) (by rw [csum_s _ h0, e3, a2]) (by rw [csum_s _ h0, e4, a3])
    have m16 := m (b + 16) (by omega) (by omega)
    have m17 := m (b + 17) (by omega) (by omega)
    have m14 := m (b + 14) (by omega) (by omega)
    have L0 : ∀ i j l : Int, (i = if w (452 + 24 * x5 + 5) = 0 then 0 else if w (452 + 24 * x5 + 6) = 0 then 1 else 0) → j = w (452 + 24 * x5 + 6) → (l = if w (452 + 24 * x5 + 4) = 0 then 1 else 0) → tRun E 375 (10, [.inr (10, 0), .inr (41, b), .inl (0, x2 + i), .inl (0, x3 + j), .inl (0, x4 + l), .inl (0, x5 + 1), tu, tu, tu, tu], [], c, s, d) K := fun i j l a1 a2 a3 => L i j l (by unfold cB; exact a1.symm) (by unfold cC; exact a2.symm) (by unfold cA; exact a3.symm)
    rw [← u5, ← u6, ← u7] at L0
    rw [← u7] at g2
    exact t_375_10 ⟨⟨m_inR (by omega) (by omega), hW.1.1.m (by omega) (by omega)⟩, fun z => absurd z (by omega), fun _ => ⟨r, m16, fun z16 => ⟨r, m17, fun z17 => ⟨r, m14, fun z14 => L0 0 0 0 (by rw [if_pos z16]) (by omega) (by rw [if_neg z14]), fun z14 => L0 0 0 1 (by rw [if_pos z16]) (by omega) (by rw [if_pos z14])⟩, fun z17 => ⟨r, m14, fun z14 => L0 0 1 0 (by rw [if_pos z16]) (by omega) (by rw [if_neg z14]), fun z14 => L0 0 1 1 (by rw [if_pos z16]) (by omega) (by rw [if_pos z14])⟩⟩, fun z16 => ⟨r, m17, fun z17 => ⟨r, m17, fun zz => ⟨r, m14, fun _ => absurd zz z17, fun _ => absurd zz z17⟩, fun _ => ⟨r, m14, fun z14 => L0 0 1 0 (by rw [if_neg z16, if_neg z17]) (by omega) (by rw [if_neg z14]), fun z14 => L0 0 1 1 (by rw [if_neg z16, if_neg z17]) (by omega) (by rw [if_pos z14])⟩⟩, fun z17 => ⟨r, m17, fun _ => ⟨r, m14, fun z14 => L0 1 0 0 (by rw [if_neg z16, if_pos z17]) (by omega) (by rw [if_neg z14]), fun z14 => L0 1 0 1 (by rw [if_neg z16, if_pos z17]) (by omega) (by rw [if_pos z14])⟩, fun zz => ⟨r, m14, fun _ => absurd z17 zz, fun _ => absurd z17 zz⟩⟩⟩⟩⟩
theorem is100 {E : mO × tW} {K : tK} {b x2 x3 x4 : Int} {w : Row} {d : mD} {c s : Nat} (hW : WR b d w) (hg : GG w) (k : ∀ x7, tRun E 375 (138, [.inr (10, 0), .inr (41, b), .inl (0, x2), .inl (0, x3), .inl (0, x4), .inl (0, csum (cE w) (w 10).toNat), .inl (0, 0), .inl (0, x7), tu, tu], [.inl (0, 12)], c, s, d) K) : ∀ (n : Nat) (x5 x7 : Int), w 10 - x7 = (n : Int) → 0 ≤ x7 → x5 = csum (cE w) x7.toNat →
    tRun E 375 (100, [.inr (10, 0), .inr (41, b), .inl (0, x2), .inl (0, x3), .inl (0, x4), .inl (0, x5), .inl (0, 0), .inl (0, x7), tu, tu], [], c, s, d) K := by
  obtain ⟨n7, n8, n9, n10, n11, n0, n1, n2, n3, n4, n5, n6⟩ := id hg.1
  obtain ⟨q0, q1, q2, q3, q4, q5, q6⟩ := hW.eq
  intro n
  induction n with
  | zero =>
    intro x5 x7 hn h0 e
    have ex : x7 = w 10 := by omega
    refine t_375_100 ⟨⟨m_inR (by omega) (by omega), hW.1.1.m (by omega) (by omega)⟩, fun _ => ?_, fun z => absurd z (by omega)⟩
    rw [e, ex]
    exact k _
  | succ n ih =>
    intro x5 x7 hn h0 e
    have g4 := (hW.2.2.2.2.2.2.2.1 x7 h0 (by omega)).2.2.2.1
    refine t_375_100 ⟨⟨m_inR (by omega) (by omega), hW.1.1.m (by omega) (by omega)⟩, fun z => absurd z (by omega), fun _ => ⟨⟨h0, by omega⟩, ⟨hW.1.1.m (by omega) (by omega), m_inR (by omega) (by omega)⟩, fun z => ?_, fun z => ?_⟩⟩
    · rw [g4] at z
      refine ih (x5 + 0) (x7 + 1) (by omega) (by omega) ?_
      rw [csum_s _ h0, e]
      unfold cE
      rw [if_neg z]
    · rw [g4] at z
      refine ih (x5 + 1) (x7 + 1) (by omega) (by omega) ?_
      rw [csum_s _ h0, e]
      unfold cE
      rw [if_pos z]
-- the counts
theorem is231 {E E' : mO × tW} {K : tK} {b y x2 x3 x4 x5 : Int} {w : Row} {c s : Nat} (hX : CTX E b) (hT : CLW E') (hy : y < b ∨ b + 27 < y) (y9 : 900 ≤ y) (hc : c ≤ 278) (hs : s ≤ 22483) (hg : GG w) : ∀ (n : Nat) (x8 : Int) (d : mD), 12 - x8 = (n : Int) → 0 ≤ x8 → d 770 = w → Inv2 E' d → WR b d w → (∀ i, 0 ≤ i → i < 12 → d y i = cntF i w) → (∀ d', SQ' d d' → Inv2 E' d' → tRun E 375 (263, [.inr (10, 0), .inr (41, b), .inl (0, x2), .inl (0, x3), .inl (0, x4), .inl (0, x5), .inl (0, 0), .inr (47, y), .inl (0, 0), tu], [], c, s, d') K) →
    tRun E 375 (231, [.inr (10, 0), .inr (41, b), .inl (0, x2), .inl (0, x3), .inl (0, x4), .inl (0, x5), .inl (0, 0), .inr (47, y), .inl (0, x8), tu], [], c, s, d) K := by
  have hm := cntR hg
  intro n
  induction n with
  | zero =>
    intro x8 d hn h0 hw hI hW hv k
    have e : x8 = 12 := by omega
    subst e
    exact t_375_231 ⟨⟨m_inR (by omega) (by omega), m_inR (by omega) (by omega)⟩, fun _ => k d SQ'.refl hI, fun z => absurd z (by omega)⟩
  | succ n ih =>
    intro x8 d hn h0 hw hI hW hv k
    refine t_375_231 ⟨⟨m_inR (by omega) (by omega), m_inR (by omega) (by omega)⟩, fun z => absurd z (by omega), fun _ => tifI (by omega) (by omega) ?_⟩
    refine u_305 hT.1 hI ⟨h0, by omega⟩ (fun M d2 hM h2 s2 => ?_)
    rw [hw]
    refine OG.run hX hM ?_
    have ey : d2 y = d y := s2.2.2.2 y (by omega) (by omega)
    have v5 := hv x8 h0 (by omega)
    refine t_375_244 ⟨⟨h0, by omega⟩, ⟨hm x8 h0 (by omega), by rw [ey, v5]; exact hm x8 h0 (by omega)⟩, fun _ => ?_, fun z => absurd (by rw [ey, v5]) z⟩
    exact ih (x8 + 1) d2 (by omega) (by omega) (s2.1.trans hw) h2 (hW.og hX.2.2.2.2 s2) (fun i a a2 => by rw [ey]; exact hv i a a2) (fun d' s3 h3 => k d' (s2.trans s3) h3)
-- the offices
theorem is353 {E E' : mO × tW} {K : tK} {b y x2 x3 x4 x5 o : Int} {w : Row} {c s : Nat} (hX : CTX E b) (hT : CLW E') (hc : c ≤ 278) (hs : s ≤ 22483) (hg : GG w) (ho : 0 ≤ o ∧ o < w 7) : ∀ (n : Nat) (x9 : Int) (d : mD), w (12 + 68 * o + 5) - x9 = (n : Int) → 0 ≤ x9 → d 770 = w → Inv2 E' d → WR b d w → (∀ x9 d', SQ' d d' → Inv2 E' d' → tRun E 375 (263, [.inr (10, 0), .inr (41, b), .inl (0, x2), .inl (0, x3), .inl (0, x4), .inl (0, x5), .inl (0, 0), .inr (47, y), .inl (0, o + 1), .inl (0, x9)], [], c, s, d') K) →
    tRun E 375 (353, [.inr (10, 0), .inr (41, b), .inl (0, x2), .inl (0, x3), .inl (0, x4), .inl (0, x5), .inl (0, 0), .inr (47, y), .inl (0, o), .inl (0, x9)], [], c, s, d) K := by
  obtain ⟨n7, n8, n9, n10, n11, n0, n1, n2, n3, n4, n5, n6⟩ := id hg.1
  have go := (hg.2.1 o ho.1 ho.2).2.2.2.2.1
  intro n
  induction n with
  | zero =>
    intro x9 d hn h0 hw hI hW k
    have b5 := (hW.2.2.1 o ho.1 ho.2).2.2.2.2.1
    exact t_375_353 ⟨by omega, ⟨m_inR (by omega) (by omega), hW.1.1.m (by omega) (by omega)⟩, fun _ => k x9 d SQ'.refl hI, fun z => absurd z (by omega)⟩
  | succ n ih =>
    intro x9 d hn h0 hw hI hW k
    have b5 := (hW.2.2.1 o ho.1 ho.2).2.2.2.2.1
    refine t_375_353 ⟨by omega, ⟨m_inR (by omega) (by omega), hW.1.1.m (by omega) (by omega)⟩, fun z => absurd z (by omega), fun _ => tifI (by omega) (by omega) ?_⟩
    refine u_308 hT.1 hI (by rw [hw]; exact ho) (by rw [hw]; omega) (fun M d2 hM h2 s2 => ?_)
    rw [hw]
    refine OG.run hX hM ?_
    have hW2 := hW.og hX.2.2.2.2 s2
    have e := hW2.2.2.2.1 o ho.1 ho.2 x9 h0 (by omega)
    refine t_375_373 ⟨by omega, ⟨by rw [← e]; exact hW2.1.1.m (by omega) (by omega), hW2.1.1.m (by omega) (by omega)⟩, fun _ => ?_, fun z => absurd e.symm z⟩
    exact ih (x9 + 1) d2 (by omega) (by omega) (s2.1.trans hw) h2 hW2 (fun x d' s3 h3 => k x d' (s2.trans s3) h3)
theorem is263 {E E' : mO × tW} {K : tK} {b y x2 x3 x4 x5 : Int} {w : Row} {c s : Nat} (hX : CTX E b) (hT : CLW E') (hc : c ≤ 278) (hs : s ≤ 22483) (hg : GG w) : ∀ (n : Nat) (o : Int) (v9 : tV) (d : mD), w 7 - o = (n : Int) → 0 ≤ o → d 770 = w → Inv2 E' d → WR b d w → (∀ d', SQ' d d' → Inv2 E' d' → tRun E 375 (409, [.inr (10, 0), .inr (41, b), .inl (0, x2), .inl (0, x3), .inl (0, x4), .inl (0, x5), .inl (0, 0), .inr (47, y), .inl (0, 0), .inl (0, 0)], [], c, s, d') K) →
    tRun E 375 (263, [.inr (10, 0), .inr (41, b), .inl (0, x2), .inl (0, x3), .inl (0, x4), .inl (0, x5), .inl (0, 0), .inr (47, y), .inl (0, o), v9], [], c, s, d) K := by
  obtain ⟨n7, n8, n9, n10, n11, n0, n1, n2, n3, n4, n5, n6⟩ := id hg.1
  intro n
  induction n with
  | zero =>
    intro o v9 d hn h0 hw hI hW k
    obtain ⟨q0, q1, q2, q3, q4, q5, q6⟩ := hW.eq
    exact t_375_263 ⟨⟨m_inR (by omega) (by omega), hW.1.1.m (by omega) (by omega)⟩, fun _ => k d SQ'.refl hI, fun z => absurd z (by omega)⟩
  | succ n ih =>
    intro o v9 d hn h0 hw hI hW k
    obtain ⟨q0, q1, q2, q3, q4, q5, q6⟩ := hW.eq
    have ho : 0 ≤ o ∧ o < w 7 := by omega
    have ho6 : 0 ≤ o ∧ o < 6 := by omega
    have go := hg.2.1 o ho.1 ho.2
    have b9 := hX.2.2.2.2
    refine t_375_263 ⟨⟨m_inR (by omega) (by omega), hW.1.1.m (by omega) (by omega)⟩, fun z => absurd z (by omega), fun _ => tifI (by omega) (by omega) ?_⟩
    refine u_307 hT.1 hI (by rw [hw]; exact ho) (by decide) (fun M d1 hM h1 s1 => ?_)
    rw [hw, show (12 : Int) + 68 * o + 1 + 0 = 12 + 68 * o + 1 by omega]
    refine OG.run hX hM ?_
    have w1 := s1.1.trans hw
    have hW1 := hW.og b9 s1
    obtain ⟨a1, a2, a3, a4, a5, a6⟩ := hW1.2.2.1 o ho.1 ho.2
    refine t_375_279 ⟨ho6, ⟨by rw [← a1]; exact hW1.1.1.m (by omega) (by omega), hW1.1.1.m (by omega) (by omega)⟩, fun z => absurd a1.symm z, fun _ => tifI (by omega) (by omega) ?_⟩
    refine u_307 hT.1 h1 (by rw [w1]; exact ho) (by decide) (fun M d2 hM h2 s2 => ?_)
    rw [w1, show (12 : Int) + 68 * o + 1 + 3 = 12 + 68 * o + 4 by omega]
    refine OG.run hX hM ?_
    have w2 := s2.1.trans w1
    have hW2 := hW1.og b9 s2
    obtain ⟨b1, b2, b3, b4, b5, b6⟩ := hW2.2.2.1 o ho.1 ho.2
    -- behind what is open
    have rest : tCall E 412 [.inr (10, 0), .inl (0, o), .inl (0, 4)] d2 (tbk E 375 318 [.inr (10, 0), .inr (41, b), .inl (0, x2), .inl (0, x3), .inl (0, x4), .inl (0, x5), .inl (0, 0), .inr (47, y), .inl (0, o), v9] [] c s K) := by
      refine u_307 hT.1 h2 (by rw [w2]; exact ho) (by decide) (fun M d3 hM h3 s3 => ?_)
      rw [w2, show (12 : Int) + 68 * o + 1 + 4 = 12 + 68 * o + 5 by omega]
      refine OG.run hX hM ?_
      have w3 := s3.1.trans w2
      have hW3 := hW2.og b9 s3
      obtain ⟨c1, c2, c3, c4, c5, c6⟩ := hW3.2.2.1 o ho.1 ho.2
      refine t_375_321 ⟨ho6, ⟨by rw [← c5]; exact hW3.1.1.m (by omega) (by omega), hW3.1.1.m (by omega) (by omega)⟩, fun z => absurd c5.symm z, fun _ => tifI (by omega) (by omega) ?_⟩
      refine u_307 hT.1 h3 (by rw [w3]; exact ho) (by decide) (fun M d4 hM h4 s4 => ?_)
      rw [w3, show (12 : Int) + 68 * o + 1 + 5 = 12 + 68 * o + 6 by omega]
      refine OG.run hX hM ?_
      have w4 := s4.1.trans w3
      have hW4 := hW3.og b9 s4
      obtain ⟨e1, e2, e3, e4, e5, e6⟩ := hW4.2.2.1 o ho.1 ho.2
      refine t_375_338 ⟨ho6, ⟨by rw [← e6]; exact hW4.1.1.m (by omega) (by omega), hW4.1.1.m (by omega) (by omega)⟩, fun _ => ?_, fun z => absurd e6.symm z⟩
      refine is353 hX hT (by omega) (by omega) hg ho (w (12 + 68 * o + 5)).toNat 0 d4 (by omega) (by decide) w4 h4 hW4 (fun x9 d5 s5 h5 => ?_)
      exact ih (o + 1) _ d5 (by omega) (by omega) (s5.1.trans w4) h5 (hW4.og b9 s5) (fun d' s6 h6 => k d' ((((s1.trans s2).trans s3).trans s4).trans (s5.trans s6)) h6)
    rw [← b4] at go
    refine t_375_296 ⟨ho6, hW2.1.1.m (by omega) (by omega), fun z => ⟨⟨m_inR (by omega) (by omega), m_inR (by omega) (by omega)⟩, fun y0 => absurd (by omega) y0, fun _ => tifI (by omega) (by omega) rest⟩, fun z => ⟨⟨m_inR (by omega) (by omega), m_inR (by omega) (by omega)⟩, fun y0 => absurd (by omega) y0, fun _ => tifI (by omega) (by omega) rest⟩⟩
-- the persons
theorem ownAll {w : Row} (hg : GG w) : csum (fun p => csum (fun k => if perO w k = p then 1 else 0) (w 10).toNat) (w 8).toNat = w 10 := by
  obtain ⟨n7, n8, n9, n10, -⟩ := id hg.1
  rw [csum_swap (h := fun p k => if perO w k = p then 1 else 0) (w 10).toNat (w 8).toNat]
  have e : csum (fun k => csum (fun p => if perO w k = p then (1 : Int) else 0) (w 8).toNat) (w 10).toNat = csum (fun _ => 1) (w 10).toNat := csum_congr (fun k x y => by
    have gk := (hg.2.2.2.2.2.1 k x (by omega)).2.1
    have gt := (hg.2.2.2.1 _ gk.1 gk.2).1
    exact csum_pt (x := perO w k) gt.1 (by show w (452 + 24 * w (1916 + 5 * k + 1) + 0) < _; omega))
  rw [e, csum_const]
  omega
theorem perL {p : Int} {w : Row} : perF p 0 w = w (420 + 2 * p + 1) ∧ perF p 3 w = V_245 p 0 w ∧ perF p 4 w = V_245 p 1 w ∧ perF p 5 w = V_245 p 2 w ∧ perF p 6 w = csum (fun k => if perO w k = p then 1 else 0) (w 10).toNat ∧ perF p 7 w = V_217 p w ∧ perF p 8 w = V_233 p w ∧ perF p 9 w = V_244 p 1 w := by
  unfold perF
  simp only [Int.reduceEq, if_true, if_false, and_self]
theorem madeRng {p : Int} {w : Row} (hg : GG w) : 0 ≤ madeR w p ∧ madeR w p ≤ 200 := by
  have n10 := hg.1.2.2.2.1
  have := csum_rng (f := fun k => if perO w k = p ∧ w (1916 + 5 * k + 4) / 20 = w 0 / 20 then 1 else 0) (n := (w 10).toNat) (B := 1) (fun i _ _ => by
    show 0 ≤ (if _ then (1 : Int) else 0) ∧ (if _ then (1 : Int) else 0) ≤ 1
    split <;> omega)
  unfold madeR
  omega
theorem attRng {p : Int} {w : Row} (hg : GG w) : 0 ≤ attR w p ∧ attR w p ≤ 60 := by
  have n9 := hg.1.2.2.1
  have := csum_rng (f := fun t => if 0 < w (452 + 24 * t + 8 + p) ∧ (w (452 + 24 * t + 8 + p) - 1) / 20 = w 0 / 20 then 1 else 0) (n := (w 9).toNat) (B := 1) (fun i _ _ => by
    show 0 ≤ (if _ then (1 : Int) else 0) ∧ (if _ then (1 : Int) else 0) ≤ 1
    split <;> omega)
  unfold attR
  omega
theorem v245Rng {p q : Int} {w : Row} (hg : GG w) : 0 ≤ V_245 p q w ∧ V_245 p q w ≤ 200 := by
  have n10 := hg.1.2.2.2.1
  rw [v245 n10]
  have := csum_rng (f := fun k => if w (1916 + 5 * k + 0) = p ∧ w (1916 + 5 * k + 3) = q then 1 else 0) (n := (w 10).toNat) (B := 1) (fun i _ _ => by
    show 0 ≤ (if _ then (1 : Int) else 0) ∧ (if _ then (1 : Int) else 0) ≤ 1
    split <;> omega)
  omega
theorem v244Rng {p q : Int} {w : Row} (hg : GG w) : 0 ≤ V_244 p q w ∧ V_244 p q w ≤ 1200 := by
  have n0 := hg.1.2.2.2.2.2.1
  rw [v244 hg]
  have := csum_rng (f := fL p q w) (n := (w 0).toNat) (B := 1) (fun i _ _ => by
    unfold fL
    repeat' split
    all_goals omega)
  omega
theorem is409 {E E' : mO × tW} {K : tK} {b y x2 x3 x4 x5 : Int} {w : Row} (hX : CTX E b) (hT : CLW E') (hg : GG w) : ∀ (n : Nat) (p x8 : Int) (c s : Nat) (d : mD), w 8 - p = (n : Int) → 0 ≤ p → (c : Int) ≤ 1 + p → (s : Int) ≤ 12 + 1300 * p → x8 = csum (fun p => csum (fun k => if perO w k = p then 1 else 0) (w 10).toNat) p.toNat → d 770 = w → Inv2 E' d → WR b d w → (∀ M d2, OG M d2 → Inv2 E' d2 → SX E d d2 → K (.inl (some (0, 1))) M) →
    tRun E 375 (409, [.inr (10, 0), .inr (41, b), .inl (0, x2), .inl (0, x3), .inl (0, x4), .inl (0, x5), .inl (0, 0), .inr (47, y), .inl (0, x8), .inl (0, p)], [], c, s, d) K := by
  obtain ⟨n7, n8, n9, n10, n11, n0, n1, n2, n3, n4, n5, n6⟩ := id hg.1
  have b9 := hX.2.2.2.2
  intro n
  induction n with
  | zero =>
    intro p x8 c s d hn h0 hc hs e hw hI hW hK
    obtain ⟨q0, q1, q2, q3, q4, q5, q6⟩ := hW.eq
    have ep : p = w 8 := by omega
    rw [ep, ownAll hg] at e
    refine t_375_409 ⟨⟨m_inR (by omega) (by omega), hW.1.1.m (by omega) (by omega)⟩, fun _ => ⟨⟨m_inR (by omega) (by omega), hW.1.1.m (by omega) (by omega)⟩, fun z => absurd (e.trans q5.symm) z, fun _ => tifI (by omega) (by omega) ?_⟩, fun z => absurd z (by omega)⟩
    refine k_141 hI.1.1 rfl (fun _ => ?_)
    rw [gap0 hI]
    refine t_375_572 ⟨m_inR (by decide) (by decide), fun z => absurd rfl z, fun _ => tifI (by omega) (by omega) ?_⟩
    refine w_374 hX hT hI (by rw [hw]; exact hW) (fun M d2 hM h2 g => ?_)
    exact t_375_580 ⟨m_inR (by decide) (by decide), fun z => absurd z (by decide), fun _ => ⟨Or.inr rfl, hK M d2 hM h2 g⟩⟩
  | succ n ih =>
    intro p x8 c s d0 hn h0' hc hs e w0 h0 hW0 hK
    obtain ⟨q0, q1, q2, q3, q4, q5, q6⟩ := hW0.eq
    have hp : 0 ≤ p ∧ p < w 8 := by omega
    have hp16 : 0 ≤ p ∧ p < 16 := by omega
    have mp : mInR p := m_inR (by omega) (by omega)
    have vr : ∀ q, mInR (V_245 p q w) := fun q => by
      have := v245Rng (p := p) (q := q) hg
      exact m_inR (by omega) (by omega)
    refine t_375_409 ⟨⟨m_inR (by omega) (by omega), hW0.1.1.m (by omega) (by omega)⟩, fun z => absurd z (by omega), fun _ => tifI (by omega) (by omega) ?_⟩
    refine u_309 hT.1 h0 (by rw [w0]; exact hp) (by omega) (fun M d1 hM h1 s1 => ?_)
    rw [w0, (perL (p := p) (w := w)).1]
    refine OG.run hX hM ?_
    have w1 := s1.1.trans w0
    have hW1 := hW0.og b9 s1
    have e7 := hW1.2.2.2.2.1 p hp16.1 hp16.2
    rw [if_pos hp.2] at e7
    refine t_375_425 ⟨hp16, ⟨by rw [← e7]; exact hW1.1.1.m (by omega) (by omega), hW1.1.1.m (by omega) (by omega)⟩, fun z => absurd e7.symm z, fun _ => tifI (by omega) (by omega) ?_⟩
    refine u_309 hT.1 h1 (by rw [w1]; exact hp) (by omega) (fun M d2 hM h2 s2 => ?_)
    rw [w1, (perL (p := p) (w := w)).2.1]
    refine OG.run hX hM ?_
    have w2 := s2.1.trans w1
    have hW2 := hW1.og b9 s2
    refine t_375_442 (tifI (by omega) (by omega) ?_)
    refine k_362 hW2.1.1 mp (m_inR (by decide) (by decide)) (by have := hW2.eq; omega) ?_
    rw [ownW hW2 hg]
    refine t_375_449 ⟨⟨vr 0, vr 0⟩, fun z => absurd rfl z, fun _ => tifI (by omega) (by omega) ?_⟩
    refine u_309 hT.1 h2 (by rw [w2]; exact hp) (by omega) (fun M d3 hM h3 s3 => ?_)
    rw [w2, (perL (p := p) (w := w)).2.2.1]
    refine OG.run hX hM ?_
    have w3 := s3.1.trans w2
    have hW3 := hW2.og b9 s3
    refine t_375_459 (tifI (by omega) (by omega) ?_)
    refine k_362 hW3.1.1 mp (m_inR (by decide) (by decide)) (by have := hW3.eq; omega) ?_
    rw [ownW hW3 hg]
    refine t_375_466 ⟨⟨vr 1, vr 1⟩, fun z => absurd rfl z, fun _ => tifI (by omega) (by omega) ?_⟩
    refine u_309 hT.1 h3 (by rw [w3]; exact hp) (by omega) (fun M d4 hM h4 s4 => ?_)
    rw [w3, (perL (p := p) (w := w)).2.2.2.1]
    refine OG.run hX hM ?_
    have w4 := s4.1.trans w3
    have hW4 := hW3.og b9 s4
    refine t_375_476 (tifI (by omega) (by omega) ?_)
    refine k_362 hW4.1.1 mp (m_inR (by decide) (by decide)) (by have := hW4.eq; omega) ?_
    rw [ownW hW4 hg]
    refine t_375_483 ⟨⟨vr 2, vr 2⟩, fun z => absurd rfl z, fun _ => tifI (by omega) (by omega) ?_⟩
    refine u_309 hT.1 h4 (by rw [w4]; exact hp) (by omega) (fun M d5 hM h5 s5 => ?_)
    rw [w4, (perL (p := p) (w := w)).2.2.2.2.2.1]
    refine OG.run hX hM ?_
    have w5 := s5.1.trans w4
    have hW5 := hW4.og b9 s5
    have mm := madeRng (p := p) hg
    have ma := attRng (p := p) hg
    have ml := v244Rng (p := p) (q := 1) hg
    rw [v217 n10]
    refine t_375_494 (tifI (by omega) (by omega) ?_)
    refine k_348 hW5.1.1 mp (by have := hW5.eq; omega) (by have := hW5.eq; omega) (fun k x z => ?_) ?_
    · have q5' := hW5.eq.2.2.2.2.2.1
      have g2 := (hW5.2.2.2.2.2.2.2.1 k x (by omega)).2.1
      have gk := (hg.2.2.2.2.2.1 k x (by omega)).2.1
      omega
    rw [madeW ⟨hg.1, hg.2.1, fun k x y => (hg.2.2.2.2.2.1 k x y).2.1⟩ hW5]
    refine t_375_500 ⟨⟨m_inR (by omega) (by omega), m_inR (by omega) (by omega)⟩, fun z => absurd rfl z, fun _ => tifI (by omega) (by omega) ?_⟩
    refine u_309 hT.1 h5 (by rw [w5]; exact hp) (by omega) (fun M d6 hM h6 s6 => ?_)
    rw [w5, (perL (p := p) (w := w)).2.2.2.2.2.2.1]
    refine OG.run hX hM ?_
    have w6 := s6.1.trans w5
    have hW6 := hW5.og b9 s6
    rw [v233 n9]
    refine t_375_511 (tifI (by omega) (by omega) ?_)
    refine k_358 hW6.1.1 mp (by have := hW6.eq; omega) (by have := hW6.2.2.2.2.2.2.2.2.2.2.1; omega) ?_
    rw [oftW hg hW6 hp16]
    refine t_375_517 ⟨⟨m_inR (by omega) (by omega), m_inR (by omega) (by omega)⟩, fun z => absurd rfl z, fun _ => tifI (by omega) (by omega) ?_⟩
    refine u_309 hT.1 h6 (by rw [w6]; exact hp) (by omega) (fun M d7 hM h7 s7 => ?_)
    rw [w6, (perL (p := p) (w := w)).2.2.2.2.2.2.2]
    refine OG.run hX hM ?_
    have w7 := s7.1.trans w6
    have hW7 := hW6.og b9 s7
    refine t_375_528 (tifI (by omega) (by omega) ?_)
    refine w_366 hX.1 hX.2.1 hW7 hg hp16 (fun d8 x8' => ?_)
    have f8 : ∀ a, a < 900 → d8 a = d7 a := fun a ha => x8' a (by
      by_cases c1 : a < 0
      · exact Or.inr (fun z => by unfold mreal at z; omega)
      · by_cases c2 : a ≤ 768
        · exact Or.inl (hX.2.2.2.1 a (by omega) c2)
        · exact Or.inr (fun z => by unfold mreal at z; omega))
    have h8 := h7.out hT f8
    have w8 := (f8 770 (by decide)).trans w7
    have hW8 : WR b d8 w := WM.k (fun a x z => x8' a (Or.inl (hX.2.1 a x z))) hW7
    have sx8 : SX E d7 d8 := ⟨f8 770 (by decide), by rw [f8 769 (by decide)], f8 771 (by decide), fun a _ _ z => x8' a z⟩
    refine t_375_535 ⟨⟨m_inR (by omega) (by omega), m_inR (by omega) (by omega)⟩, fun _ => tifI (by omega) (by omega) ?_, fun z => absurd rfl z⟩
    refine u_309 hT.1 h8 (by rw [w8]; exact hp) (by omega) (fun M d9 hM h9 s9 => ?_)
    rw [w8, (perL (p := p) (w := w)).2.2.2.2.1]
    refine OG.run hX hM ?_
    have w9 := s9.1.trans w8
    have hW9 := hW8.og b9 s9
    refine t_375_550 ?_
    refine ih (p + 1) _ (c + 1) (s + 1300) d9 (by omega) (by omega) (by omega) (by omega) ?_ w9 h9 hW9 (fun M d2 hM h2 g => ?_)
    · rw [csum_s _ h0', e]
    · refine hK M d2 hM h2 ?_
      exact (((((((s1.trans s2).trans s3).trans s4).trans s5).trans s6).trans s7).sx.trans sx8).trans (s9.sx.trans g)
theorem cntL {w : Row} : cntF 0 w = w 7 ∧ cntF 1 w = w 8 ∧ cntF 2 w = w 9 ∧ cntF 3 w = w 0 ∧ cntF 4 w = 20 - w 0 % 20 ∧ cntF 5 w = csum (cA w) (w 9).toNat ∧ cntF 6 w = csum (cB w) (w 9).toNat ∧ cntF 7 w = csum (cC w) (w 9).toNat ∧ cntF 8 w = w 10 ∧ cntF 9 w = w 11 ∧ cntF 10 w = csum (cE w) (w 10).toNat ∧ cntF 11 w = w 1 := by
  unfold cntF
  simp only [Int.reduceEq, if_true, if_false, and_self]
theorem w_375 {E E' : mO × tW} {K : tK} {b : Int} {d : mD} (hX : CTX E b) (hT : CLW E') (hI : Inv2 E' d) (hW : WR b d (d 770)) (hK : ∀ M d2, OG M d2 → Inv2 E' d2 → SX E d d2 → K (.inl (some (0, 1))) M) : tCall E 375 [.inr (10, 0), .inr (41, b)] d K := by
  have hg := hI.GG
  have hw : d 770 = d 770 := rfl
  generalize hww : d 770 = w at *
  obtain ⟨n7, n8, n9, n10, n11, n0, n1, n2, n3, n4, n5, n6⟩ := id hg.1
  obtain ⟨q0, q1, q2, q3, q4, q5, q6⟩ := hW.eq
  obtain ⟨l0, l1, l2, l3, l4, l5, l6, l7, l8, l9, l10, l11⟩ := cntL (w := w)
  refine t_375_0 ?_
  refine is10 hW hg ?_ (w 9).toNat 0 0 0 0 (by omega) (by decide) rfl rfl rfl
  refine is100 hW hg (fun x7 => ?_) (w 10).toNat 0 0 (by omega) (by decide) rfl
  refine tNew (ty := .int) 47 ⟨by decide, by decide, by decide⟩ rfl hX.1 (by decide) (by decide) ⟨by show 0 + 1 ≤ 278; omega, by show 0 + 12 ≤ 22483; omega⟩ (fun y hy hf => ?_)
  obtain ⟨y1, y9⟩ := hX.y hy hf
  have hX1 := hX.row (kd := matyp .int) (n := 12) hy hf (by decide)
  have nb : ¬ b = y := by omega
  have f0 : FLL d (mfill d y 0) y (fun i => cntF i w) 0 := ⟨fun a h => by
    funext j
    exact mf_n h, fun i x z => by omega⟩
  generalize mfill d y 0 = D0 at *
  refine t_375_140 ⟨by decide, ?_⟩
  rw [f0.1 b nb]
  have f1 := f0.step (v := d b 2) (by rw [q2, ← l0])
  generalize mset D0 y 0 (d b 2) = D1 at *
  refine t_375_147 ⟨by decide, ?_⟩
  rw [f1.1 b nb]
  have f2 := f1.step (v := d b 3) (by rw [q3, ← l1])
  generalize mset D1 y 1 (d b 3) = D2 at *
  refine t_375_154 ⟨by decide, ?_⟩
  rw [f2.1 b nb]
  have f3 := f2.step (v := d b 4) (by rw [q4, ← l2])
  generalize mset D2 y 2 (d b 4) = D3 at *
  refine t_375_161 ⟨by decide, ?_⟩
  rw [f3.1 b nb]
  have f4 := f3.step (v := d b 0) (by rw [q0, ← l3])
  generalize mset D3 y 3 (d b 0) = D4 at *
  refine t_375_168 ?_
  rw [f4.1 b nb]
  refine ⟨by omega, by decide, ?_⟩
  have f5 := f4.step (v := 20 - d b 0 % 20) (by rw [q0, ← l4])
  generalize mset D4 y 4 (20 - d b 0 % 20) = D5 at *
  refine t_375_181 ⟨by decide, ?_⟩
  have f6 := f5.step (v := csum (cA w) (w 9).toNat) (by exact l5.symm)
  generalize mset D5 y 5 (csum (cA w) (w 9).toNat) = D6 at *
  refine t_375_186 ⟨by decide, ?_⟩
  have f7 := f6.step (v := csum (cB w) (w 9).toNat) (by exact l6.symm)
  generalize mset D6 y 6 (csum (cB w) (w 9).toNat) = D7 at *
  refine t_375_191 ⟨by decide, ?_⟩
  have f8 := f7.step (v := csum (cC w) (w 9).toNat) (by exact l7.symm)
  generalize mset D7 y 7 (csum (cC w) (w 9).toNat) = D8 at *
  refine t_375_196 ⟨by decide, ?_⟩
  rw [f8.1 b nb]
  have f9 := f8.step (v := d b 5) (by rw [q5, ← l8])
  generalize mset D8 y 8 (d b 5) = D9 at *
  refine t_375_204 ⟨by decide, ?_⟩
  rw [f9.1 b nb]
  have f10 := f9.step (v := d b 6) (by rw [q6, ← l9])
  generalize mset D9 y 9 (d b 6) = D10 at *
  refine t_375_212 ⟨by decide, ?_⟩
  have f11 := f10.step (v := csum (cE w) (w 10).toNat) (by exact l10.symm)
  generalize mset D10 y 10 (csum (cE w) (w 10).toNat) = D11 at *
  refine t_375_218 ⟨by decide, ?_⟩
  rw [f11.1 b nb]
  have f12 := f11.step (v := d b 1) (by rw [q1, ← l11])
  generalize mset D11 y 11 (d b 1) = D12 at *
  refine t_375_226 ?_
  have e12 : ∀ a, a < 900 → D12 a = d a := fun a h => f12.1 a (by omega)
  have w12 : D12 770 = w := (e12 770 (by decide)).trans hww
  have h12 := hI.out hT e12
  have hW12 : WR b D12 w := WM.k (fun c x z => f12.1 c (by omega)) hW
  refine is231 hX1 hT y1 y9 (by decide) (by decide) hg 12 0 D12 (by decide) (by decide) w12 h12 hW12 (fun i x z => f12.2 i x z) (fun d1 s1 h1 => ?_)
  have hW1 := hW12.og hX.2.2.2.2 s1
  refine is263 hX1 hT (by decide) (by decide) hg (w 7).toNat 0 _ d1 (by omega) (by decide) (s1.1.trans w12) h1 hW1 (fun d2 s2 h2 => ?_)
  have hW2 := hW1.og hX.2.2.2.2 s2
  refine is409 (K := Kok K) hX1 hT hg (w 8).toNat 0 0 _ _ d2 (by omega) (by decide) (by decide) (by decide) rfl (s2.1.trans (s1.1.trans w12)) h2 hW2 (fun M d3 hM h3 g => ?_)
  exact hK M d3 hM h3 (SX.row hy hf y9 f12.1 ((s1.trans s2).sx.trans g))
