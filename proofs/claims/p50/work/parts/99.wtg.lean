/-! ===== the law's `does`, act by act ===== -/
theorem w_355 {E : mO × tW} {K : tK} {b a o : Int} {d : mD} {w : Row} (hW : WR b d w) (hC : CB w) (ha : 0 ≤ a ∧ a < w 8) (ho : 0 ≤ o ∧ o < w 7) (k : ∀ r, (r = 1 ∧ CanJ a o w) ∨ (r = 0 ∧ ¬ CanJ a o w) → K (.inl (some (0, r))) d) : tCall E 355 [.inr (41, b), .inl (0, a), .inl (0, o)] d K := by
  obtain ⟨hg, s, dd, hr⟩ := id hC
  obtain ⟨n7, n8, n9, n10, n11, n0, n1, n2, n3, n4, n5, n6⟩ := id hg.1
  obtain ⟨q0, q1, q2, q3, q4, q5, q6⟩ := hW.eq
  obtain ⟨rB, rA, rO, rQ, rP, r1, r2, rK, rS, rH, rD⟩ := id hW
  obtain ⟨b1, b2, b3, b4, b5, b6⟩ := rO o ho.1 ho.2
  refine k_355 rB.1 (m_inR (by omega) (by omega)) (by omega) (by omega) (fun r hr' => k r ?_)
  rw [q4, b4, b5, b3] at hr'
  rcases hr' with ⟨e, m1, m2, m3, m4⟩ | ⟨e, m⟩
  · refine Or.inl ⟨e, m2, m3, m4, fun q x y z => ?_⟩
    obtain ⟨g1, g2, g3, -⟩ := hg.2.2.1 o ho.1 ho.2 q x y
    obtain ⟨c1, c2, -, -, c5⟩ := r1 _ g1.1 g1.2
    exact m1 _ g1.1 g1.2 ⟨c1.trans z, c2.trans g2, c5.trans g3⟩
  · refine Or.inr ⟨e, fun c => ?_⟩
    obtain ⟨c1, c2, c3, c4⟩ := c
    rcases m with ⟨q, x, y, z1, z2, z3⟩ | m | m | m
    · obtain ⟨u1, u2, -, -, u5⟩ := r1 q x y
      obtain ⟨v, v0, v1, v2⟩ := ((hg.2.2.2.1 q x y).2.2.2.2.1 (by omega)).2
      rw [← u2, z2] at v1 v2
      refine c4 v v0 v1 ?_
      rw [v2]
      omega
    · omega
    · exact c2 m
    · omega
theorem d_0 {E : mO × tW} {K : tK} {b x : Int} {d : mD} {w : Row} (hW : WR b d w) (hC : CB w) (e0 : d x 0 = 0) (ha : 0 ≤ d x 1 ∧ d x 1 < w 8) (ho : 0 ≤ d x 2 ∧ d x 2 < w 7)
    (k0 : V_225 (d x 1) (d x 2) w = 0 → K (.inl (some (0, -100000))) d) (k1 : ¬ V_225 (d x 1) (d x 2) w = 0 → ∀ d', WR b d' (W_226 (d x 1) (d x 2) w) → WF b d d' → K (.inl (some (0, V_226 (d x 1) (d x 2) w))) d') : tCall E 372 [.inr (41, b), .inr (46, x)] d K := by
  obtain ⟨hg, s, dd, hr⟩ := id hC
  obtain ⟨n7, n8, n9, n10, n11, n0, n1, n2, n3, n4, n5, n6⟩ := id hg.1
  obtain ⟨q0, q1, q2, q3, q4, q5, q6⟩ := hW.eq
  have b5 := (hW.2.2.1 _ ho.1 ho.2).2.2.2.2.1
  have go := (hg.2.1 _ ho.1 ho.2).2.2.2.2.1
  obtain ⟨v1, v2⟩ := v225 (p := d x 1) (o := d x 2) (w := w) (by omega)
  refine t_372_0 ⟨by decide, m_inR (by omega) (by omega), fun _ => ⟨by decide, by decide, ?_⟩, fun z => absurd (e0.symm.trans z) (by decide), fun z => absurd (e0.symm.trans z) (by decide), fun z => absurd (e0.symm.trans z) (by decide), fun z => absurd (e0.symm.trans z) (by decide), fun z => absurd (e0.symm.trans z) (by decide), fun z => absurd (e0.symm.trans z) (by decide), fun z => absurd (e0.symm.trans z) (by decide), fun z => absurd (e0.symm.trans z) (by decide), fun z => absurd (e0.symm.trans z) (by decide), fun z => absurd (e0.symm.trans z) (by decide), fun z => absurd z (by omega)⟩
  refine w_355 hW hC ha ho (fun r hr => ?_)
  refine t_372_70 ⟨m_inR (by omega) (by omega), fun z => k0 ?_, fun z => ⟨by decide, by decide, ?_⟩⟩
  · rcases hr with ⟨e, -⟩ | ⟨-, e⟩
    · omega
    · rcases v1 with v1 | v1
      · exact v1
      · exact absurd (v2.mp v1) e
  · have c : CanJ (d x 1) (d x 2) w := by
      rcases hr with ⟨-, e⟩ | ⟨e, -⟩
      · exact e
      · omega
    have nz : ¬ V_225 (d x 1) (d x 2) w = 0 := by
      rw [v2.mpr c]
      decide
    obtain ⟨e9, hS⟩ := newW (p := d x 1) (o := d x 2) (w := w) (by omega) (by omega) (by omega)
    obtain ⟨j1, j2⟩ := joinW hg hW ho ha c.1 hS
    refine k_354 (by omega) (by omega) (by omega) ?_
    refine t_372_83 ?_
    have e : V_226 (d x 1) (d x 2) w = d b 4 := by
      rw [q4]
      exact e9
    have kk := k1 nz _ j1 j2
    rw [e] at kk
    exact kk
theorem d_1 {E : mO × tW} {K : tK} {b x : Int} {d : mD} {w : Row} (hx : x < b ∨ b + 27 < x) (hW : WR b d w) (hC : CB w) (e0 : d x 0 = 1) (ht : 0 ≤ d x 1 ∧ d x 1 < w 9)
    (k0 : ¬ w (452 + 24 * d x 1 + 4) = 0 → K (.inl (some (0, -100000))) d) (k1 : w (452 + 24 * d x 1 + 4) = 0 → ∀ d', WR b d' (WLv (d x 1) w) → WF b d d' → K (.inl (some (0, w 0 - w (452 + 24 * d x 1 + 2)))) d') : tCall E 372 [.inr (41, b), .inr (46, x)] d K := by
  obtain ⟨hg, s, dd, hr⟩ := id hC
  obtain ⟨n7, n8, n9, n10, n11, n0, n1, n2, n3, n4, n5, n6⟩ := id hg.1
  obtain ⟨q0, q1, q2, q3, q4, q5, q6⟩ := hW.eq
  obtain ⟨rB, rA, rO, rQ, rP, r1, r2, rK, rS, rH, rD⟩ := id hW
  obtain ⟨u1, u2, u3, u4, u5⟩ := r1 _ ht.1 ht.2
  have gt := hg.2.2.2.1 _ ht.1 ht.2
  have go := (hg.2.1 _ gt.2.1.1 gt.2.1.2).2.2.2.2.1
  obtain ⟨b1, b2, b3, b4, b5, b6⟩ := rO _ gt.2.1.1 gt.2.1.2
  refine t_372_0 ⟨by decide, m_inR (by omega) (by omega), fun z => absurd (e0.symm.trans z) (by decide), fun _ => ⟨by decide, by omega, rB.1.m (by omega) (by omega), fun z => ⟨by decide, ?_⟩, fun z => k0 (by rw [← u5]; exact z)⟩, fun z => absurd (e0.symm.trans z) (by decide), fun z => absurd (e0.symm.trans z) (by decide), fun z => absurd (e0.symm.trans z) (by decide), fun z => absurd (e0.symm.trans z) (by decide), fun z => absurd (e0.symm.trans z) (by decide), fun z => absurd (e0.symm.trans z) (by decide), fun z => absurd (e0.symm.trans z) (by decide), fun z => absurd (e0.symm.trans z) (by decide), fun z => absurd (e0.symm.trans z) (by decide), fun z => absurd z (by omega)⟩
  have z' : w (452 + 24 * d x 1 + 4) = 0 := by rw [← u5]; exact z
  obtain ⟨-, p2, p3, p4⟩ := placeIn hg hr ht z'
  generalize ht' : d x 1 = t at *
  refine k_352 rB.1 (by omega) (by omega) (by rw [u2, b5]; omega) ⟨V_221 t w, p2, by rw [u2, b5]; exact p3, by rw [u2, rQ _ gt.2.1.1 gt.2.1.2 _ p2 p3]; exact p4⟩ (fun r y0 y1 y2 _ => ?_)
  rw [u2, b5] at y1
  rw [u2, rQ _ gt.2.1.1 gt.2.1.2 r y0 y1] at y2
  have er : r = V_221 t w := by
    have A := hg.2.2.1 _ gt.2.1.1 gt.2.1.2
    by_cases c : r < V_221 t w
    · exact absurd (by rw [y2, p4]) ((A _ p2 p3).2.2.2 r y0 c).2
    · by_cases c2 : V_221 t w < r
      · exact absurd (by rw [y2, p4]) ((A _ y0 y1).2.2.2 _ p2 c2).2
      · omega
  obtain ⟨t1, t2, t3⟩ := take220 (o := w (452 + 24 * t + 1)) (p := V_221 t w) (w := w) p2 (by omega) (by omega)
  have hS : OutV (w (452 + 24 * t + 1)) r t 2 w (WLv t w) := by
    unfold WLv
    refine ⟨?_, ?_, ?_, fun q a c => ?_, fun i hi => ?_⟩
    · rw [wsn (by omega), wsn (by omega)]; exact t1
    · rw [wsn (by omega), wse rfl]
    · rw [wse rfl]
    · rw [wsn (by omega), wsn (by omega)]
      exact t2 q (by omega) c
    · rw [wsn (by omega), wsn (by omega)]
      exact t3 i (by omega) (by omega)
  obtain ⟨j1, j2⟩ := outW hg hW gt.2.1 ⟨y0, y1⟩ y2 (Or.inr rfl) hS
  have kk := k1 z' _ j1 j2
  have fx := j2.1 x hx
  have a0 : WLv t w 0 = w 0 := by
    unfold WLv
    rw [wsn (by omega), wsn (by omega)]
    exact t3 0 (by omega) (by omega)
  have a9 : WLv t w 9 = w 9 := by
    unfold WLv
    rw [wsn (by omega), wsn (by omega)]
    exact t3 9 (by omega) (by omega)
  have a2 : WLv t w (452 + 24 * t + 2) = w (452 + 24 * t + 2) := by
    unfold WLv
    rw [wsn (by omega), wsn (by omega)]
    exact t3 _ (by omega) (by omega)
  have f0 := j1.eq.1
  have f2 := (j1.2.2.2.2.2.1 t ht.1 (by rw [a9]; exact ht.2)).2.2.1
  generalize g_352 b t 2 r d = d' at *
  refine t_372_111 ⟨by decide, by rw [fx, ht']; omega, ?_⟩
  rw [fx, ht', f0, f2, a0, a2]
  exact kk
theorem passRun {E : mO × tW} {K : tK} {b x : Int} {A : Int → Int} (hx : x < b ∨ b + 27 < x) : ∀ (n : Nat) (i many : Int) (d : mD) (w : Row), d x = A → WR b d w → CB w → GWt w → GP w → A 1 - i = (n : Int) → 0 ≤ i → A 1 ≤ 1000 → w 0 + (n : Int) ≤ 999 → (∀ d', WR b d' (hoursW n w) → WF b d d' → K (.inl (some (0, many + (srvN (hoursW n w) - srvN w)))) d') →
    tRun E 372 (146, [.inr (41, b), .inr (46, x), .inl (0, many), .inl (0, i)], [], 0, 0, d) K := by
  intro n
  induction n with
  | zero =>
    intro i many d w hA hW hC hG hP hi i0 hb h9 k
    refine t_372_146 ⟨by decide, ⟨m_inR (by omega) (by omega), by rw [hA]; exact m_inR (by omega) (by omega)⟩, fun _ => ?_, fun z => absurd z (by rw [hA]; omega)⟩
    have kk := k d hW WF.refl
    have e : many + (srvN (hoursW 0 w) - srvN w) = many := by
      show many + (srvN w - srvN w) = many
      omega
    rw [e] at kk
    exact kk
  | succ n ih =>
    intro i many d w hA hW hC hG hP hi i0 hb h9 k
    obtain ⟨hg, s, dd, hr⟩ := id hC
    refine t_372_146 ⟨by decide, ⟨m_inR (by omega) (by omega), by rw [hA]; exact m_inR (by omega) (by omega)⟩, fun z => absurd z (by rw [hA]; omega), fun _ => ?_⟩
    refine w_353 hW hC hG hP (by omega) (fun d1 h1 f1 => ?_)
    refine t_372_158 ?_
    obtain ⟨-, j1, j2, j3, -, j5⟩ := passHours (s := s) (N := 1) (by decide) hg hr (by omega)
    have eh : hoursW (1 : Int).toNat w = W_223 w := rfl
    rw [eh] at j1 j2 j3 j5
    obtain ⟨x1, x2⟩ := j5 hG hP
    refine ih (i + 1) _ d1 (W_223 w) ((f1.1 x hx).trans hA) h1 ⟨j1, s, _, j2⟩ x1 x2 (by omega) (by omega) hb (by omega) (fun d' h2 f2 => ?_)
    have kk := k d' h2 (f1.trans f2)
    have e : many + (srvN (hoursW (n + 1) w) - srvN w) = many + (srvN (W_223 w) - srvN w) + (srvN (hoursW n (W_223 w)) - srvN (W_223 w)) := by
      show many + (srvN (hoursW n (W_223 w)) - srvN w) = _
      omega
    rw [e] at kk
    exact kk
theorem d_2 {E : mO × tW} {K : tK} {b x : Int} {d : mD} {w : Row} (hx : x < b ∨ b + 27 < x) (hW : WR b d w) (hC : CB w) (hG : GWt w) (hP : GP w) (e0 : d x 0 = 2) (hn : 1 ≤ d x 1 ∧ d x 1 ≤ 99)
    (k0 : 999 < w 0 + d x 1 → K (.inl (some (0, -100000))) d) (k1 : ¬ 999 < w 0 + d x 1 → ∀ d', WR b d' (hoursW (d x 1).toNat w) → WF b d d' → K (.inl (some (0, srvN (hoursW (d x 1).toNat w) - srvN w))) d') : tCall E 372 [.inr (41, b), .inr (46, x)] d K := by
  obtain ⟨n7, n8, n9, n10, n11, n0, n1, n2, n3, n4, n5, n6⟩ := id hC.1.1
  obtain ⟨q0, q1, q2, q3, q4, q5, q6⟩ := hW.eq
  refine t_372_0 ⟨by decide, m_inR (by omega) (by omega), fun z => absurd (e0.symm.trans z) (by decide), fun z => absurd (e0.symm.trans z) (by decide), fun _ => ⟨by decide, ⟨m_inR (by omega) (by omega), m_inR (by omega) (by omega)⟩, fun z => ?_, fun z => k0 (by omega)⟩, fun z => absurd (e0.symm.trans z) (by decide), fun z => absurd (e0.symm.trans z) (by decide), fun z => absurd (e0.symm.trans z) (by decide), fun z => absurd (e0.symm.trans z) (by decide), fun z => absurd (e0.symm.trans z) (by decide), fun z => absurd (e0.symm.trans z) (by decide), fun z => absurd (e0.symm.trans z) (by decide), fun z => absurd (e0.symm.trans z) (by decide), fun z => absurd z (by omega)⟩
  refine passRun (A := d x) hx (d x 1).toNat 0 0 d w rfl hW hC hG hP (by omega) (by decide) (by omega) (by omega) (fun d' h1 h2 => ?_)
  have kk := k1 (by omega) d' h1 h2
  rw [Int.zero_add]
  exact kk
theorem d_3 {E : mO × tW} {K : tK} {b x : Int} {d : mD} {w : Row} (hW : WR b d w) (hC : CB w) (h9 : w 0 ≤ 999) (e0 : d x 0 = 3) (ht : 0 ≤ d x 1 ∧ d x 1 < w 9)
    (k0 : V_227 (d x 1) w = 0 → K (.inl (some (0, -100000))) d) (k1 : ¬ V_227 (d x 1) w = 0 → ∀ d', WR b d' (W_228 (d x 1) w) → WF b d d' → K (.inl (some (0, V_228 (d x 1) w))) d') : tCall E 372 [.inr (41, b), .inr (46, x)] d K := by
  obtain ⟨hg, s, dd, hr⟩ := id hC
  obtain ⟨n7, n8, n9, n10, n11, n0, n1, n2, n3, n4, n5, n6⟩ := id hg.1
  obtain ⟨rB, rA, rO, rQ, rP, r1, r2, rK, rS, rH, rD⟩ := id hW
  obtain ⟨u1, u2, u3, u4, u5⟩ := r1 _ ht.1 ht.2
  obtain ⟨v1, v2, v3⟩ := r2 _ ht.1 ht.2
  have ev : V_227 (d x 1) w = if w (452 + 24 * d x 1 + 4) = 1 then (if w (452 + 24 * d x 1 + 5) = 0 then 1 else 0) else 0 := rfl
  rw [ev] at k0 k1
  refine t_372_0 ⟨by decide, m_inR (by omega) (by omega), fun z => absurd (e0.symm.trans z) (by decide), fun z => absurd (e0.symm.trans z) (by decide), fun z => absurd (e0.symm.trans z) (by decide), fun _ => ⟨by decide, by omega, ⟨rB.1.m (by omega) (by omega), m_inR (by omega) (by omega)⟩, fun z => k0 ?_, fun z => ⟨by decide, by omega, rB.1.m (by omega) (by omega), fun y => k0 ?_, fun y => ⟨by decide, ?_⟩⟩⟩, fun z => absurd (e0.symm.trans z) (by decide), fun z => absurd (e0.symm.trans z) (by decide), fun z => absurd (e0.symm.trans z) (by decide), fun z => absurd (e0.symm.trans z) (by decide), fun z => absurd (e0.symm.trans z) (by decide), fun z => absurd (e0.symm.trans z) (by decide), fun z => absurd (e0.symm.trans z) (by decide), fun z => absurd z (by omega)⟩
  · rw [if_neg (by rw [← u5]; exact z)]
  · rw [if_pos (by rw [← u5]; exact z), if_neg (by rw [← v1]; exact y)]
  · have z' : w (452 + 24 * d x 1 + 4) = 1 := by rw [← u5]; exact z
    have y' : w (452 + 24 * d x 1 + 5) = 0 := by rw [← v1]; exact y
    refine w_356 hW hC ht z' y' h9 (fun d' h1 h2 => ?_)
    refine t_372_198 ?_
    exact k1 (by rw [if_pos z', if_pos y']; decide) d' h1 h2
theorem d_4 {E : mO × tW} {K : tK} {b x : Int} {d : mD} {w : Row} (hW : WR b d w) (hC : CB w) (h9 : w 0 ≤ 999) (h7 : d b 7 < 190) (e0 : d x 0 = 4) (ht : 0 ≤ d x 1 ∧ d x 1 < w 9) (hp : 0 ≤ d x 2 ∧ d x 2 < w 8) (hv : mInR (V_234 (d x 1) (d x 2) w))
    (k0 : ¬ V_234 (d x 1) (d x 2) w = 0 → K (.inl (some (0, -100000))) d) (k1 : V_234 (d x 1) (d x 2) w = 0 → ∀ d', WR b d' (W_235 (d x 1) (d x 2) w) → WF0 b d d' → d' b 7 = d b 7 + 1 → K (.inl (some (0, V_235 (d x 1) (d x 2) w))) d') : tCall E 372 [.inr (41, b), .inr (46, x)] d K := by
  refine t_372_0 ⟨by decide, m_inR (by omega) (by omega), fun z => absurd (e0.symm.trans z) (by decide), fun z => absurd (e0.symm.trans z) (by decide), fun z => absurd (e0.symm.trans z) (by decide), fun z => absurd (e0.symm.trans z) (by decide), fun _ => ⟨by decide, by decide, ?_⟩, fun z => absurd (e0.symm.trans z) (by decide), fun z => absurd (e0.symm.trans z) (by decide), fun z => absurd (e0.symm.trans z) (by decide), fun z => absurd (e0.symm.trans z) (by decide), fun z => absurd (e0.symm.trans z) (by decide), fun z => absurd (e0.symm.trans z) (by decide), fun z => absurd z (by omega)⟩
  refine w_360 hW hC.1 ht hp ?_
  refine t_372_214 ⟨hv, fun z => k0 z, fun z => ⟨by decide, by decide, ?_⟩⟩
  refine w_361 hW hC h7 ht hp z h9 (fun d' h1 h2 h3 => ?_)
  refine t_372_227 ?_
  exact k1 z d' h1 h2 h3
theorem d_7 {E : mO × tW} {K : tK} {b x : Int} {d : mD} {w : Row} (hx : x < b ∨ b + 27 < x) (hW : WR b d w) (hC : CB w) (hP : GP w) (e0 : d x 0 = 7) (hn : 1 ≤ d x 3 ∧ d x 3 ≤ 200) (hf : w 1 + d x 3 ≤ 99999)
    (k1 : ∀ d', WR b d' (W_219 (ws w 1 (w 1 + d x 3))) → WF b d d' → K (.inl (some (0, W_219 (ws w 1 (w 1 + d x 3)) 1))) d') : tCall E 372 [.inr (41, b), .inr (46, x)] d K := by
  obtain ⟨hg, s, dd, hr⟩ := id hC
  obtain ⟨n7, n8, n9, n10, n11, n0, n1, n2, n3, n4, n5, n6⟩ := id hg.1
  obtain ⟨q0, q1, q2, q3, q4, q5, q6⟩ := hW.eq
  obtain ⟨a1, a2⟩ := setFund (v := w 1 + d x 3) hg hr (by omega)
  have hp : PB 19800 (ws w 1 (w 1 + d x 3)) := fun p y0 y1 => by
    rw [wsn (by omega)] at y1
    rw [wsn (by omega)]
    exact hP.pb hg.1 p y0 y1
  refine t_372_0 ⟨by decide, m_inR (by omega) (by omega), fun z => absurd (e0.symm.trans z) (by decide), fun z => absurd (e0.symm.trans z) (by decide), fun z => absurd (e0.symm.trans z) (by decide), fun z => absurd (e0.symm.trans z) (by decide), fun z => absurd (e0.symm.trans z) (by decide), fun z => absurd (e0.symm.trans z) (by decide), fun z => absurd (e0.symm.trans z) (by decide), fun _ => ⟨by decide, ?_⟩, fun z => absurd (e0.symm.trans z) (by decide), fun z => absurd (e0.symm.trans z) (by decide), fun z => absurd (e0.symm.trans z) (by decide), fun z => absurd z (by omega)⟩
  rw [q1]
  refine w_350 (fundW hg hW (by omega)) ⟨a1, s, _, a2⟩ hp (fun d' h1 h2 => ?_)
  refine t_372_386 ?_
  have h3 : WF b d d' := (WF.set (by omega) (by omega) (by omega)).trans h2
  have kk := k1 d' h1 h3
  rw [← h1.eq.2.1] at kk
  exact kk
theorem d_8 {E : mO × tW} {K : tK} {b x : Int} {d : mD} {w : Row} (hF : ∃ z, mfr E.2 z) (hE : ∀ c, b ≤ c → c ≤ b + 27 → 0 ≤ E.2.1 c) (hx : x < b ∨ b + 27 < x) (hxk : 0 ≤ E.2.1 x) (hW : WR b d w) (hC : CB w) (e0 : d x 0 = 8) (ha : 0 ≤ d x 1 ∧ d x 1 < w 7) (ho : 0 ≤ d x 2 ∧ d x 2 < w 7)
    (k0 : V_270 (d x 1) (d x 2) w = 0 → K (.inl (some (0, -100000))) d) (k1 : ¬ V_270 (d x 1) (d x 2) w = 0 → ∀ d', WR b d' (W_229 (d x 1) (d x 2) w) → WX E b d d' → K (.inl (some (0, W_229 (d x 1) (d x 2) w (12 + 68 * d x 2 + 5)))) d') : tCall E 372 [.inr (41, b), .inr (46, x)] d K := by
  obtain ⟨hg, s, dd, hr⟩ := id hC
  obtain ⟨n7, n8, n9, n10, n11, n0, n1, n2, n3, n4, n5, n6⟩ := id hg.1
  have oa := (hW.2.2.1 _ ha.1 ha.2).2.2.2.1
  have ob := (hW.2.2.1 _ ho.1 ho.2).2.2.2.1
  have ev : V_270 (d x 1) (d x 2) w = if d x 1 = d x 2 then 0 else if w (12 + 68 * d x 1 + 4) = 0 then 0 else if w (12 + 68 * d x 2 + 4) = 0 then 0 else 1 := rfl
  have ec : wCanMerge b (d x 1) (d x 2) d = V_270 (d x 1) (d x 2) w := by
    rw [ev]
    unfold wCanMerge
    rw [oa, ob]
    by_cases c1 : d x 1 = d x 2
    · rw [if_pos (Or.inl c1), if_pos c1]
    · rw [if_neg c1]
      by_cases c2 : w (12 + 68 * d x 1 + 4) = 0
      · rw [if_pos (Or.inr (Or.inl c2)), if_pos c2]
      · rw [if_neg c2]
        by_cases c3 : w (12 + 68 * d x 2 + 4) = 0
        · rw [if_pos (Or.inr (Or.inr c3)), if_pos c3]
        · rw [if_neg c3, if_neg (fun h => h.elim c1 (fun h => h.elim c2 c3))]
  refine t_372_0 ⟨by decide, m_inR (by omega) (by omega), fun z => absurd (e0.symm.trans z) (by decide), fun z => absurd (e0.symm.trans z) (by decide), fun z => absurd (e0.symm.trans z) (by decide), fun z => absurd (e0.symm.trans z) (by decide), fun z => absurd (e0.symm.trans z) (by decide), fun z => absurd (e0.symm.trans z) (by decide), fun z => absurd (e0.symm.trans z) (by decide), fun z => absurd (e0.symm.trans z) (by decide), fun _ => ⟨by decide, by decide, ?_⟩, fun z => absurd (e0.symm.trans z) (by decide), fun z => absurd (e0.symm.trans z) (by decide), fun z => absurd z (by omega)⟩
  refine k_364 hW.1.1 (by omega) (by omega) ?_
  rw [ec]
  refine t_372_402 ⟨?_, fun z => ⟨by decide, by decide, ?_⟩, fun z => k0 z⟩
  · rw [ev]
    repeat' split
    all_goals exact m_inR (by omega) (by omega)
  · have hao : ¬ d x 1 = d x 2 := fun c => z (by rw [ev, if_pos c])
    refine w_365 hF hE hW hg ha ho hao (fun d' h1 h2 => ?_)
    have fx := h2.1 x hx (Or.inl hxk)
    refine t_372_418 ⟨by decide, by rw [fx]; omega, ?_⟩
    rw [fx]
    have kk := k1 z d' h1 h2
    obtain ⟨u, hM⟩ : ∃ u, W_229 (d x 1) (d x 2) w 7 = u := ⟨_, rfl⟩
    have w7 : W_229 (d x 1) (d x 2) w 7 = w 7 := (merge hg hr ha ho hao (by
      rcases (hg.2.1 _ ho.1 ho.2).2.2.2.1 with y | y
      · exact absurd (by rw [ev, if_neg hao, if_pos y]; split <;> rfl) z
      · exact y)).2.2 7 (by decide) (by decide)
    rw [(h1.2.2.1 _ ho.1 (by rw [w7]; exact ho.2)).2.2.2.2.1]
    exact kk
theorem opRun {E : mO × tW} {K : tK} {b x : Int} {d : mD} {w : Row} {y : Int} (hW : WR b d w) (hg : GG w) : ∀ (n : Nat) (i many : Int), 0 ≤ i → i ≤ w 7 → w 7 - i ≤ (n : Int) → 0 ≤ many → K (.inl (some (0, (LP_289_64 y n many i w).1))) d →
    tRun E 372 (454, [.inr (41, b), .inr (46, x), .inl (0, many), .inl (0, i)], [], 0, 0, d) K := by
  obtain ⟨n7, n8, n9, n10, n11, n0, n1, n2, n3, n4, n5, n6⟩ := id hg.1
  obtain ⟨q0, q1, q2, q3, q4, q5, q6⟩ := hW.eq
  have st : ∀ r many i, w 7 ≤ i → ST_289_64 y r many i w = (many, w) := fun r many i h => by
    unfold ST_289_64
    rw [if_neg (by omega)]
  intro n
  induction n with
  | zero =>
    intro i many i0 i1 i2 m0 k
    refine t_372_454 ⟨⟨m_inR (by omega) (by omega), hW.1.1.m (by omega) (by omega)⟩, fun _ => ?_, fun z => absurd z (by omega)⟩
    have e : LP_289_64 y 0 many i w = (many, w) := st _ many i (by omega)
    rw [e] at k
    exact k
  | succ n ih =>
    intro i many i0 i1 i2 m0 k
    refine t_372_454 ⟨⟨m_inR (by omega) (by omega), hW.1.1.m (by omega) (by omega)⟩, fun z => ?_, fun z => ?_⟩
    · have e : LP_289_64 y (n + 1) many i w = (many, w) := st _ many i (by omega)
      rw [e] at k
      exact k
    · have hi : i < w 7 := by omega
      have oa := (hW.2.2.1 i i0 hi).2.2.2.1
      have g4 := (hg.2.1 i i0 hi).2.2.2.1
      have e : LP_289_64 y (n + 1) many i w = LP_289_64 y n (many + w (12 + 68 * i + 4)) (i + 1) w := by
        show ST_289_64 y _ many i w = _
        unfold ST_289_64
        rw [if_pos hi]
      rw [e] at k
      refine ⟨by omega, hW.1.1.m (by omega) (by omega), fun c => ?_, fun c => ?_⟩
      · rw [oa] at c
        rw [c] at k
        exact ih (i + 1) (many + 0) (by omega) (by omega) (by omega) (by omega) k
      · rw [oa] at c
        have c1 : w (12 + 68 * i + 4) = 1 := by omega
        rw [c1] at k
        exact ih (i + 1) (many + 1) (by omega) (by omega) (by omega) (by omega) k
theorem d_9 {E : mO × tW} {K : tK} {b x : Int} {d : mD} {w : Row} (hW : WR b d w) (hC : CB w) (e0 : d x 0 = 9) (ho : 0 ≤ d x 1 ∧ d x 1 < w 7)
    (k0 : ¬ w (12 + 68 * d x 1 + 4) = 0 → K (.inl (some (0, -100000))) d) (k1 : w (12 + 68 * d x 1 + 4) = 0 → ∀ d', WR b d' (LRe (d x 1) w).2 → WF b d d' → K (.inl (some (0, (LRe (d x 1) w).1))) d') : tCall E 372 [.inr (41, b), .inr (46, x)] d K := by
  obtain ⟨hg, s, dd, hr⟩ := id hC
  obtain ⟨n7, n8, n9, n10, n11, n0, n1, n2, n3, n4, n5, n6⟩ := id hg.1
  have oa := (hW.2.2.1 _ ho.1 ho.2).2.2.2.1
  obtain ⟨a1, a2⟩ := setOpen hg hr ho
  have e2 : (LRe (d x 1) w).2 = ws w (12 + 68 * d x 1 + 4) 1 := by
    have gen : ∀ (n : Nat) (m i : Int) (u : Row), (LP_289_64 (d x 1) n m i u).2 = u ∨ n = 0 := by
      intro n
      induction n with
      | zero => exact fun _ _ _ => Or.inr rfl
      | succ n ih =>
        intro m i u
        refine Or.inl ?_
        show (ST_289_64 (d x 1) _ m i u).2 = u
        unfold ST_289_64
        split
        · rcases ih (m + u (12 + 68 * i + 4)) (i + 1) u with h | h
          · exact h
          · subst h
            show (ST_289_64 (d x 1) _ _ _ u).2 = u
            unfold ST_289_64
            split <;> rfl
        · rfl
    have h6 := gen 6 0 0 (ws w (12 + 68 * d x 1 + 4) 1)
    rcases h6 with h | h
    · exact h
    · exact absurd h (by decide)
  rw [e2] at k1
  refine t_372_0 ⟨by decide, m_inR (by omega) (by omega), fun z => absurd (e0.symm.trans z) (by decide), fun z => absurd (e0.symm.trans z) (by decide), fun z => absurd (e0.symm.trans z) (by decide), fun z => absurd (e0.symm.trans z) (by decide), fun z => absurd (e0.symm.trans z) (by decide), fun z => absurd (e0.symm.trans z) (by decide), fun z => absurd (e0.symm.trans z) (by decide), fun z => absurd (e0.symm.trans z) (by decide), fun z => absurd (e0.symm.trans z) (by decide), fun _ => ⟨by decide, by omega, hW.1.1.m (by omega) (by omega), fun z => ⟨by decide, ⟨Or.inr rfl, by omega⟩, ?_⟩, fun z => k0 (by rw [← oa]; exact z)⟩, fun z => absurd (e0.symm.trans z) (by decide), fun z => absurd z (by omega)⟩
  have z' : w (12 + 68 * d x 1 + 4) = 0 := by rw [← oa]; exact z
  have h1 := openW hg hW ho
  refine opRun (y := d x 1) h1 a1 6 0 0 (by decide) (by have := a1.1.1; omega) (by have := a1.1.1; omega) (by decide) ?_
  exact k1 z' _ h1 (WF.set (by omega) (by omega) (by omega))
theorem d_10 {E : mO × tW} {K : tK} {b x : Int} {d : mD} {w : Row} (hW : WR b d w) (hg : GG w) (e0 : d x 0 = 10)
    (k0 : w 8 = 16 → K (.inl (some (0, -100000))) d) (k1 : w 8 < 16 → ∀ d', (∀ c, WR b d' (W_182 c w)) → WF b d d' → K (.inl (some (0, w 8))) d') : tCall E 372 [.inr (41, b), .inr (46, x)] d K := by
  obtain ⟨n7, n8, n9, n10, n11, n0, n1, n2, n3, n4, n5, n6⟩ := id hg.1
  obtain ⟨q0, q1, q2, q3, q4, q5, q6⟩ := hW.eq
  refine t_372_0 ⟨by decide, m_inR (by omega) (by omega), fun z => absurd (e0.symm.trans z) (by decide), fun z => absurd (e0.symm.trans z) (by decide), fun z => absurd (e0.symm.trans z) (by decide), fun z => absurd (e0.symm.trans z) (by decide), fun z => absurd (e0.symm.trans z) (by decide), fun z => absurd (e0.symm.trans z) (by decide), fun z => absurd (e0.symm.trans z) (by decide), fun z => absurd (e0.symm.trans z) (by decide), fun z => absurd (e0.symm.trans z) (by decide), fun z => absurd (e0.symm.trans z) (by decide), fun _ => ⟨⟨hW.1.1.m (by omega) (by omega), m_inR (by omega) (by omega)⟩, fun z => ?_, fun z => k0 (by omega)⟩, fun z => absurd z (by omega)⟩
  have kk := k1 (by omega) _ (fun c => perW hg hW (by omega)) (WF.set (by omega) (by omega) (by omega))
  rw [q3, ms_e rfl rfl, show w 8 + 1 - 1 = w 8 by omega]
  exact kk
theorem d_11 {E : mO × tW} {K : tK} {b x : Int} {d : mD} {w : Row} (hF : ∃ z, mfr E.2 z) (hE : ∀ c, b ≤ c → c ≤ b + 27 → 0 ≤ E.2.1 c) (hx : x < b ∨ b + 27 < x) (hxk : 0 ≤ E.2.1 x) (hW : WR b d w) (hg : GG w) (e0 : d x 0 = 11) (hk : 0 ≤ d x 1 ∧ d x 1 < 5) (hv : 0 ≤ d x 2 ∧ d x 2 < 1000)
    (k0 : ¬ (olds 0 (d x 1) ≤ d x 2 ∧ d x 2 ≤ olds 1 (d x 1)) → ∀ d', WR b d' w → WX E b d d' → K (.inl (some (0, -100001))) d') (k1 : (olds 0 (d x 1) ≤ d x 2 ∧ d x 2 ≤ olds 1 (d x 1)) → ∀ d', WR b d' (ws w (2 + d x 1) (d x 2)) → WX E b d d' → K (.inl (some (0, w (2 + d x 1)))) d') : tCall E 372 [.inr (41, b), .inr (46, x)] d K := by
  obtain ⟨n7, n8, n9, n10, n11, n0, n1, n2, n3, n4, n5, n6⟩ := id hg.1
  refine t_372_0 ⟨by decide, m_inR (by omega) (by omega), fun z => absurd (e0.symm.trans z) (by decide), fun z => absurd (e0.symm.trans z) (by decide), fun z => absurd (e0.symm.trans z) (by decide), fun z => absurd (e0.symm.trans z) (by decide), fun z => absurd (e0.symm.trans z) (by decide), fun z => absurd (e0.symm.trans z) (by decide), fun z => absurd (e0.symm.trans z) (by decide), fun z => absurd (e0.symm.trans z) (by decide), fun z => absurd (e0.symm.trans z) (by decide), fun z => absurd (e0.symm.trans z) (by decide), fun z => absurd (e0.symm.trans z) (by decide), fun _ => ?_⟩
  refine tNew (ty := .int) 14 ⟨by decide, by decide, by decide⟩ rfl hF (by decide) (by decide) (by decide) (fun y hy hfr => ?_)
  have hn := hfr.neg
  have hne : y < b ∨ b + 27 < y := by
    by_cases c : b ≤ y ∧ y ≤ b + 27
    · have := hE y c.1 c.2
      omega
    · omega
  have hxy : ¬ x = y := fun c => by
    rw [c] at hxk
    omega
  refine t_372_519 ⟨by decide, ?_⟩
  refine t_372_524 ⟨by decide, ?_⟩
  refine t_372_528 ⟨by decide, ?_⟩
  refine t_372_533 ⟨by decide, ?_⟩
  refine t_372_538 ⟨by decide, ?_⟩
  have ey : ∀ j, 0 ≤ j ∧ j < 5 → mset (mset (mset (mset (mset (mfill d y 0) y 0 9) y 1 3) y 2 9) y 3 20) y 4 99 y j = olds 1 j := fun j hj => by
    rcases olds_r hj with ⟨z, -, e⟩ | ⟨z, -, e⟩ | ⟨z, -, e⟩ | ⟨z, -, e⟩ | ⟨z, -, e⟩ <;> subst z <;> rw [e]
    · rw [ms_i (by decide), ms_i (by decide), ms_i (by decide), ms_i (by decide), ms_e rfl rfl]
    · rw [ms_i (by decide), ms_i (by decide), ms_i (by decide), ms_e rfl rfl]
    · rw [ms_i (by decide), ms_i (by decide), ms_e rfl rfl]
    · rw [ms_i (by decide), ms_e rfl rfl]
    · rw [ms_e rfl rfl]
  have ed : ∀ c, ¬ c = y → mset (mset (mset (mset (mset (mfill d y 0) y 0 9) y 1 3) y 2 9) y 3 20) y 4 99 c = d c := fun c hc => by
    funext j
    rw [ms_a hc, ms_a hc, ms_a hc, ms_a hc, ms_a hc, mf_n hc]
  generalize mset (mset (mset (mset (mset (mfill d y 0) y 0 9) y 1 3) y 2 9) y 3 20) y 4 99 = D at *
  have fx := ed x hxy
  have hD : WR b D w := WM.k (fun c h1 h2 => ed c (by omega)) hW
  have hX : WX E b d D := ⟨fun c h1 h2 => ed c (fun z => by
    rw [z] at h2
    rcases h2 with h2 | h2
    · omega
    · exact h2 hy), by rw [ed b (by omega)]⟩
  have a6 := hD.2.1.2.2.2.2.2.2 (d x 1) hk.1 hk.2
  have hlo := olds_r hk
  have fin : olds 0 (d x 1) ≤ d x 2 → d x 2 ≤ olds 1 (d x 1) → K (.inl (some (0, D (b + 1) (d x 1)))) (mset D (b + 1) (d x 1) (d x 2)) := fun z1 z2 => by
    have h1 := setW hg hD hk (v := d x 2) (by omega)
    have kk := k1 ⟨z1, z2⟩ _ h1 ⟨fun c q1 q2 => by
      rw [← hX.1 c q1 q2]
      funext j
      exact ms_a (by omega), by
      rw [ms_a (by omega)]
      exact hX.2⟩
    rw [a6]
    exact kk
  refine t_372_543 ?_
  rw [fx, ey _ hk]
  have mm : mInR (olds 1 (d x 1)) := m_inR (by omega) (by omega)
  refine ⟨by decide, by decide, ⟨m_inR (by omega) (by omega), m_inR (by omega) (by omega)⟩, fun c => ⟨⟨m_inR (by omega) (by omega), m_inR (by omega) (by omega)⟩, fun c2 => ?_, fun c2 => ⟨by decide, by decide, hk, ⟨m_inR (by omega) (by omega), mm⟩, fun c3 => ⟨by decide, hk, by decide, by decide, hk, ?_⟩, fun c3 => ?_⟩⟩, fun c => ⟨⟨m_inR (by omega) (by omega), m_inR (by omega) (by omega)⟩, fun c2 => absurd c2 (by omega), fun c2 => ⟨by decide, by decide, hk, ⟨m_inR (by omega) (by omega), mm⟩, fun c3 => ⟨by decide, hk, by decide, by decide, hk, ?_⟩, fun c3 => ?_⟩⟩⟩
  · exact k0 (by omega) D hD hX
  · exact fin (by omega) c3
  · exact k0 (by omega) D hD hX
  · exact fin (by omega) c3
  · exact k0 (by omega) D hD hX
