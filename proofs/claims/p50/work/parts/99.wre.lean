/-! ===== World.hour ===== -/
def FS (w w' : Row) : Prop := ∀ j, (j ≤ 11 ∨ (12 ≤ j ∧ j < 420 ∧ (j - 12) % 68 ≤ 4) ∨ (420 ≤ j ∧ j < 452) ∨ (452 ≤ j ∧ j < 1916 ∧ (5 ≤ (j - 452) % 24 ∨ (j - 452) % 24 ≤ 2)) ∨ 1916 ≤ j) → w' j = w j
theorem FS.refl {w : Row} : FS w w := fun _ _ => rfl
theorem FS.trans {w u v : Row} (h : FS w u) (g : FS u v) : FS w v := fun j hj => (g j hj).trans (h j hj)
theorem FS.of {o : Int} {w w' : Row} (ho : 0 ≤ o ∧ o ≤ 5) (hl : w (12 + 68 * o + 5) ≤ 16) (ht : 0 ≤ w (12 + 68 * o + 7) ∧ w (12 + 68 * o + 7) < 60) (hS : StepV o w w') : FS w w' := by
  intro j hj
  exact hS.2.2.2.2.2 j (by omega) (by omega) (by omega) (by omega) (by omega)
theorem srvRun {E : mO × tW} {K : tK} {X : Prop} {b o : Int} : ∀ (nr : Nat) (k many : Int) (d : mD) (w : Row), 0 ≤ k → k ≤ 4 → WR b d w → CN X w → 0 ≤ o ∧ o < w 7 → ¬ w (12 + 68 * o + 4) = 0 → w 0 % w (12 + 68 * o + 2) = 0 → 4 - k ≤ (nr : Int) →
    (∀ w', LP_222_7 o nr (12 + 68 * o) k w = w' → ∀ d' k', WR b d' w' → CN X w' → FS w w' → WF b d d' → tRun E 353 (14, [.inr (41, b), .inl (0, many + (srvN w' - srvN w)), .inl (0, o + 1), .inl (0, k')], [], 0, 0, d') K) → tRun E 353 (24, [.inr (41, b), .inl (0, many), .inl (0, o), .inl (0, k)], [], 0, 0, d) K := by
  intro nr
  induction nr with
  | zero =>
    intro k many d w k0 k9 hW hC ho hop hpa hr kk
    obtain ⟨rB, ⟨a0, a1, a2, a3, a4, a5, a6⟩, rO, rQ, rP, r1, r2, rK, rS, rH, rD⟩ := id hW
    obtain ⟨n7, n8, n9, n10, n11, n0, n1, n2, n3, n4, n5, n6⟩ := id hC.1.1
    obtain ⟨o1, o2, o3, o4, o5, o6⟩ := rO o ho.1 ho.2
    have go := hC.1.2.1 o ho.1 ho.2
    have e : LP_222_7 o 0 (12 + 68 * o) k w = w := by
      show ST_222_7 o _ (12 + 68 * o) k w = w
      unfold ST_222_7
      rw [if_neg (by omega)]
    have k1 := kk w e d k hW hC FS.refl WF.refl
    rw [Int.sub_self, Int.add_zero] at k1
    have i6 : 0 ≤ o ∧ o < 6 := by omega
    have hM : ∀ c i : Int, 0 ≤ c → c ≤ 27 → mInR (d (b + c) i) := fun c i x y => rB.1.m (by omega) (by omega)
    have hr2 := Int.emod_nonneg (w 0) (show w (12 + 68 * o + 2) ≠ 0 by omega)
    refine t_353_24 ⟨i6, hM 8 o (by decide) (by decide), fun c => absurd (o4.symm.trans c) hop, fun _ => ⟨i6, by omega, by rw [a0, o2, hpa]; exact m_inR (by decide) (by decide), fun c => absurd (by rw [a0, o2]; exact hpa) c, fun _ => ⟨i6, ⟨m_inR (by omega) (by omega), hM 2 o (by decide) (by decide)⟩, fun _ => k1, fun c => absurd c (by omega)⟩⟩⟩
  | succ nr ih =>
    intro k many d w k0 k9 hW hC ho hop hpa hr kk
    obtain ⟨rB, ⟨a0, a1, a2, a3, a4, a5, a6⟩, rO, rQ, rP, r1, r2, rK, rS, rH, rD⟩ := id hW
    obtain ⟨n7, n8, n9, n10, n11, n0, n1, n2, n3, n4, n5, n6⟩ := id hC.1.1
    obtain ⟨o1, o2, o3, o4, o5, o6⟩ := rO o ho.1 ho.2
    have go := hC.1.2.1 o ho.1 ho.2
    have i6 : 0 ≤ o ∧ o < 6 := by omega
    have hM : ∀ c i : Int, 0 ≤ c → c ≤ 27 → mInR (d (b + c) i) := fun c i x y => rB.1.m (by omega) (by omega)
    have stop : (¬ k < w (12 + 68 * o + 1) ∨ ¬ 0 < w (12 + 68 * o + 5)) → tRun E 353 (14, [.inr (41, b), .inl (0, many), .inl (0, o + 1), .inl (0, k)], [], 0, 0, d) K := fun c => by
      have e : LP_222_7 o (nr + 1) (12 + 68 * o) k w = w := by
        show ST_222_7 o _ (12 + 68 * o) k w = w
        unfold ST_222_7
        by_cases c1 : k < w (12 + 68 * o + 1)
        · rw [if_pos c1, if_neg (c.elim (fun z => absurd c1 z) id)]
        · rw [if_neg c1]
      have k1 := kk w e d k hW hC FS.refl WF.refl
      rw [Int.sub_self, Int.add_zero] at k1
      exact k1
    refine t_353_24 ⟨i6, hM 8 o (by decide) (by decide), fun c => absurd (o4.symm.trans c) hop, fun _ => ⟨i6, by omega, by rw [a0, o2, hpa]; exact m_inR (by decide) (by decide), fun c => absurd (by rw [a0, o2]; exact hpa) c, fun _ => ⟨i6, ⟨m_inR (by omega) (by omega), hM 2 o (by decide) (by decide)⟩, fun c => stop (Or.inl (by omega)), fun c1 => ⟨i6, hM 5 o (by decide) (by decide), fun c => stop (Or.inr (by omega)), fun c2 => ⟨by omega, ?_⟩⟩⟩⟩⟩
    rw [o1] at c1
    rw [o5] at c2
    have gq := hC.1.2.2.1 o ho.1 ho.2 0 (by omega) c2
    simp only [Int.add_zero] at gq
    have et : d (b + 9) (61 * o) = w (12 + 68 * o + 7) := by
      have := rQ o ho.1 ho.2 0 (by omega) c2
      simpa using this
    have e11 : d (b + 11) (w (12 + 68 * o + 7)) = o := by rw [(r1 _ gq.1.1 gq.1.2).2.1]; exact gq.2.1
    rw [et]
    refine k_352 rB.1 ⟨gq.1.1, by omega⟩ (by rw [e11]; exact i6) (by rw [e11, o5]; omega) ⟨0, by decide, by rw [e11, o5]; exact c2, by rw [e11, Int.add_zero]; exact et⟩ (fun r r0 r1' r2' r3 => ?_)
    have er : r = 0 := by
      rcases Int.lt_or_le 0 r with z | z
      · exact absurd (by rw [e11, Int.add_zero]; exact et) (r3 0 (by decide) z)
      · omega
    subst er
    have hS := stepV (o := o) (w := w) (by omega) (by omega) (by omega)
    have e : LP_222_7 o (nr + 1) (12 + 68 * o) k w = LP_222_7 o nr (12 + 68 * o) (k + 1) (W_220 o 0 (ws (ws (ws w ((452 + (24 * (w ((12 + (68 * o)) + 7)))) + 4) 1) ((452 + (24 * (w ((12 + (68 * o)) + 7)))) + 3) (w 0)) ((12 + (68 * o)) + 6) ((w ((12 + (68 * o)) + 6)) + 1))) := by
      show ST_222_7 o _ (12 + 68 * o) k w = _
      unfold ST_222_7
      rw [if_pos c1, if_pos c2]
    rw [e] at kk
    generalize (W_220 o 0 (ws (ws (ws w ((452 + (24 * (w ((12 + (68 * o)) + 7)))) + 4) 1) ((452 + (24 * (w ((12 + (68 * o)) + 7)))) + 3) (w 0)) ((12 + (68 * o)) + 6) ((w ((12 + (68 * o)) + 6)) + 1))) = w1 at *
    obtain ⟨q1, q2⟩ := srvW hC.1 hW ho c2 hS
    have fs := FS.of (by omega) (by omega) (by omega) hS
    have sn := serve1n hC.1 ho c2 hS
    have hC1 := hC.serve ho c2 hS
    have f7 := fs 7 (by omega)
    have f0 := fs 0 (by omega)
    have f4 := fs (12 + 68 * o + 4) (by omega)
    have f2 := fs (12 + 68 * o + 2) (by omega)
    refine t_353_80 ⟨i6, i6, ih (k + 1) (many + 1) _ w1 (by omega) (by omega) q1 hC1 (by rw [f7]; exact ho) (by rw [f4]; exact hop) (by rw [f0, f2]; exact hpa) (by omega) (fun w' e' d' k' g1 g2 g3 g4 => ?_)⟩
    have k1 := kk w' e' d' k' g1 g2 (fs.trans g3) (q2.trans g4)
    rw [show many + 1 + (srvN w' - srvN w1) = many + (srvN w' - srvN w) by omega]
    exact k1
theorem officeRun {E : mO × tW} {K : tK} {X : Prop} {b : Int} : ∀ (nr : Nat) (o many : Int) (v3 : tV) (d : mD) (w : Row), 0 ≤ o → o ≤ 6 → WR b d w → CN X w → w 7 - o ≤ (nr : Int) →
    (∀ d' w' u, LP_223_12 nr o w = LP_223_71 (61 - 0 : Int).toNat 0 w' → WR b d' w' → CN X w' → FS w w' → WF b d d' → tRun E 353 (107, [.inr (41, b), .inl (0, many + (srvN w' - srvN w)), .inl (0, 0), u], [], 0, 0, d') K) → tRun E 353 (14, [.inr (41, b), .inl (0, many), .inl (0, o), v3], [], 0, 0, d) K := by
  intro nr
  induction nr with
  | zero =>
    intro o many v3 d w o0 o9 hW hC hr kk
    have a2 : d b 2 = w 7 := hW.2.1.2.2.1
    have n7 := hC.1.1.1
    have e : LP_223_12 0 o w = LP_223_71 (61 - 0 : Int).toNat 0 w := by
      show ST_223_12 _ o w = _
      unfold ST_223_12
      rw [if_neg (by omega)]
    have k1 := kk d w v3 e hW hC FS.refl WF.refl
    rw [Int.sub_self, Int.add_zero] at k1
    exact t_353_14 ⟨⟨m_inR (by omega) (by omega), hW.1.1.m (by omega) (by omega)⟩, fun _ => k1, fun c => absurd c (by omega)⟩
  | succ nr ih =>
    intro o many v3 d w o0 o9 hW hC hr kk
    obtain ⟨rB, ⟨a0, a1, a2, a3, a4, a5, a6⟩, rO, rQ, rP, r1, r2, rK, rS, rH, rD⟩ := id hW
    obtain ⟨n7, n8, n9, n10, n11, n0, n1, n2, n3, n4, n5, n6⟩ := id hC.1.1
    by_cases c1 : o < w 7
    · obtain ⟨o1, o2, o3, o4, o5, o6⟩ := rO o o0 c1
      have go := hC.1.2.1 o o0 c1
      have i6 : 0 ≤ o ∧ o < 6 := by omega
      have hM : ∀ c i : Int, 0 ≤ c → c ≤ 27 → mInR (d (b + c) i) := fun c i x y => rB.1.m (by omega) (by omega)
      refine t_353_14 ⟨⟨m_inR (by omega) (by omega), rB.1.m (by omega) (by omega)⟩, fun c => absurd c (by omega), fun _ => ?_⟩
      have e2 : LP_223_12 (nr + 1) o w = LP_223_12 nr (o + 1) (hourO o w) := by
        show ST_223_12 _ o w = _
        unfold ST_223_12 hourO
        rw [if_pos c1]
        split
        · rfl
        · split <;> rfl
      rw [e2] at kk
      have idle : hourO o w = w → tRun E 353 (14, [.inr (41, b), .inl (0, many), .inl (0, o + 1), .inl (0, 0)], [], 0, 0, d) K := fun e => by
        rw [e] at kk
        exact ih (o + 1) many _ d w (by omega) (by omega) hW hC (by omega) kk
      by_cases c2 : w (12 + 68 * o + 4) = 0
      · exact t_353_24 ⟨i6, hM 8 o (by decide) (by decide), fun _ => idle (by unfold hourO; rw [if_pos c2]), fun c => absurd (o4.trans c2) c⟩
      · have hp0 := Int.emod_nonneg (w 0) (show w (12 + 68 * o + 2) ≠ 0 by omega)
        have hp1 := Int.emod_lt_of_pos (w 0) (show 0 < w (12 + 68 * o + 2) by omega)
        by_cases c3 : w 0 % w (12 + 68 * o + 2) = 0
        · have e3 : hourO o w = LP_222_7 o (4 - 0 : Int).toNat (12 + 68 * o) 0 w := by
            unfold hourO
            rw [if_neg c2, if_pos c3]
            rfl
          rw [e3] at kk
          refine srvRun (4 - 0 : Int).toNat 0 many d w (by decide) (by decide) hW hC ⟨o0, c1⟩ c2 c3 (by decide) (fun w' e' d' k' g1 g2 g3 g4 => ?_)
          rw [e'] at kk
          have f7 := g3 7 (by omega)
          refine ih (o + 1) (many + (srvN w' - srvN w)) _ d' w' (by omega) (by omega) g1 g2 (by omega) (fun d2 w2 u j1 j2 j3 j4 j5 => ?_)
          have k1 := kk d2 w2 u j1 j2 j3 (g3.trans j4) (g4.trans j5)
          rw [show many + (srvN w' - srvN w) + (srvN w2 - srvN w') = many + (srvN w2 - srvN w) by omega]
          exact k1
        · exact t_353_24 ⟨i6, hM 8 o (by decide) (by decide), fun c => absurd (o4.symm.trans c) c2, fun _ => ⟨i6, by omega, by rw [a0, o2]; exact m_inR (by omega) (by omega), fun _ => idle (by unfold hourO; rw [if_neg c2, if_neg c3]), fun c => absurd (by rw [a0, o2] at c; exact c) c3⟩⟩
    · have e : LP_223_12 (nr + 1) o w = LP_223_71 (61 - 0 : Int).toNat 0 w := by
        show ST_223_12 _ o w = _
        unfold ST_223_12
        rw [if_neg c1]
      have k1 := kk d w v3 e hW hC FS.refl WF.refl
      rw [Int.sub_self, Int.add_zero] at k1
      exact t_353_14 ⟨⟨m_inR (by omega) (by omega), rB.1.m (by omega) (by omega)⟩, fun _ => k1, fun c => absurd c (by omega)⟩
theorem CB.make {t : Int} {w : Row} (h : CB w) (ht : 0 ≤ t ∧ t < w 9) (hs : w (452 + 24 * t + 4) = 1) (h9 : w (452 + 24 * t + 3) ≤ 999) : CB (W_218 t w) ∧ ∀ i, ¬ i = 10 → ¬ (1916 ≤ i ∧ i < 2916) → W_218 t w i = w i := by
  obtain ⟨g, s, d, r⟩ := h
  obtain ⟨-, g', r', f⟩ := makes g r ht hs h9
  exact ⟨⟨g', s, _, r'⟩, f⟩
theorem weekRun {E : mO × tW} {K : tK} {b many : Int} : ∀ (nr : Nat) (t : Int) (v3 : tV) (d : mD) (w : Row), 0 ≤ t → t ≤ 60 → WR b d w → CB w → GWt w → GP w → w 9 - t ≤ (nr : Int) →
    (∀ d', WR b d' (LP_223_71 nr t w) → WF b d d' → K (.inl (some (0, many))) d') → tRun E 353 (107, [.inr (41, b), .inl (0, many), .inl (0, t), v3], [], 0, 0, d) K := by
  have stl : ∀ (t : Int) (v3 : tV) (d : mD) (w : Row), WR b d w → CB w → GP w → (∀ d', WR b d' (W_219 w) → WF b d d' → K (.inl (some (0, many))) d') → tCall E 350 [.inr (41, b)] d (tbk E 353 151 [.inr (41, b), .inl (0, many), .inl (0, t), v3] [] 0 0 K) := fun t v3 d w hW hC hP kk => by
    refine w_350 hW hC (hP.pb hC.1.1) (fun d' q1 q2 => ?_)
    refine t_353_154 ?_
    exact kk d' q1 q2
  intro nr
  induction nr with
  | zero =>
    intro t v3 d w t0 t9 hW hC hG hP hr kk
    obtain ⟨rB, ⟨a0, a1, a2, a3, a4, a5, a6⟩, -⟩ := id hW
    obtain ⟨n7, n8, n9, n10, n11, n0, n1, n2, n3, n4, n5, n6⟩ := id hC.1.1
    have e : LP_223_71 0 t w = W_219 w := by
      show ST_223_71 _ t w = _
      unfold ST_223_71
      rw [if_neg (by omega)]
    rw [e] at kk
    refine t_353_107 ⟨⟨by omega, by omega, by decide, by decide⟩, m_inR (by omega) (by omega), fun _ => stl t v3 d w hW hC hP kk, fun _ => ⟨⟨m_inR (by omega) (by omega), rB.1.m (by omega) (by omega)⟩, fun _ => stl t v3 d w hW hC hP kk, fun c => absurd c (by omega)⟩⟩
  | succ nr ih =>
    intro t v3 d w t0 t9 hW hC hG hP hr kk
    obtain ⟨rB, ⟨a0, a1, a2, a3, a4, a5, a6⟩, rO, rQ, rP, r1, r2, rK, rS, rH, rD⟩ := id hW
    obtain ⟨n7, n8, n9, n10, n11, n0, n1, n2, n3, n4, n5, n6⟩ := id hC.1.1
    have e : LP_223_71 (nr + 1) t w = if t < w 9 then (if (w 0) % 20 = 0 then (if w ((452 + (24 * t)) + 6) = 0 then LP_223_71 nr (t + 1) w else LP_223_71 nr (t + 1) (W_218 t w)) else W_219 w) else W_219 w := by
      show ST_223_71 _ t w = _
      unfold ST_223_71
      rfl
    refine t_353_107 ⟨⟨by omega, by omega, by decide, by decide⟩, m_inR (by omega) (by omega), fun c => ?_, fun c => ⟨⟨m_inR (by omega) (by omega), rB.1.m (by omega) (by omega)⟩, fun c2 => ?_, fun c2 => ⟨by omega, rB.1.m (by omega) (by omega), fun c3 => ?_, fun c3 => ?_⟩⟩⟩
    · have e1 : LP_223_71 (nr + 1) t w = W_219 w := by
        rw [e]
        split
        · rw [if_neg (by rw [← a0]; exact c)]
        · rfl
      rw [e1] at kk
      exact stl t v3 d w hW hC hP kk
    · have e1 : LP_223_71 (nr + 1) t w = W_219 w := by
        rw [e, if_neg (by omega)]
      rw [e1] at kk
      exact stl t v3 d w hW hC hP kk
    · rw [a4] at c2
      have g6 := (r2 t t0 c2).2.1
      rw [e, if_pos c2, if_pos (by rw [← a0]; exact c), if_pos (by rw [← g6]; exact c3)] at kk
      exact ih (t + 1) _ d w (by omega) (by omega) hW hC hG hP (by omega) kk
    · rw [a4] at c2
      have g6 := (r2 t t0 c2).2.1
      have gc := hC.1.2.2.2.2.1 t t0 c2
      have p6 : w (452 + 24 * t + 6) = 1 := by
        rcases gc.2.1 with z | z
        · exact absurd (g6.trans z) c3
        · exact z
      rw [e, if_pos c2, if_pos (by rw [← a0]; exact c), if_neg (by rw [← g6]; exact c3)] at kk
      have gl := gc.2.2.1 p6
      obtain ⟨cb, fr⟩ := hC.make ⟨t0, c2⟩ (gc.2.2.2.1 gl.1) gl.2
      obtain ⟨x1, x2⟩ := (makesX (t := t) n8 n9 n10).1 hG hP
      refine w_349 hW hC.1 ⟨t0, c2⟩ gl.2 (fun d' q1 q2 => ?_)
      refine t_353_139 ?_
      have f9 := fr 9 (by omega) (by omega)
      exact ih (t + 1) _ d' _ (by omega) (by omega) q1 cb x1 x2 (by omega) (fun d2 j1 j2 => kk d2 j1 (q2.trans j2))
theorem tickW {b : Int} {d : mD} {w : Row} (hg : GG w) (hW : WR b d w) : WR b (mset d b 0 (d b 0 + 1)) (ws w 0 (w 0 + 1)) := by
  obtain ⟨hN, hO, hQ, hT, hC, hK, hR⟩ := hg
  obtain ⟨n7, n8, n9, n10, n11, n0, n1, n2, n3, n4, n5, n6⟩ := id hN
  obtain ⟨rB, ⟨a0, a1, a2, a3, a4, a5, a6⟩, rO, rQ, rP, r1, r2, rK, rS, rH, rD⟩ := hW
  have fd : ∀ c, ¬ c = b → mset d b 0 (d b 0 + 1) c = d c := fun c x => by
    funext j
    exact ms_a x
  have fb : ∀ j, ¬ j = 0 → mset d b 0 (d b 0 + 1) b j = d b j := fun j x => ms_i x
  have S : ∀ i, ¬ i = 0 → ws w 0 (w 0 + 1) i = w i := fun i x => wsn x
  refine ⟨rB.st (by omega) (by omega) (by omega) (by omega), ⟨by rw [ms_e rfl rfl, wse rfl, a0], by rw [fb 1 (by decide), S 1 (by decide)]; exact a1, by rw [fb 2 (by decide), S 7 (by decide)]; exact a2, by rw [fb 3 (by decide), S 8 (by decide)]; exact a3, by rw [fb 4 (by decide), S 9 (by decide)]; exact a4, by rw [fb 5 (by decide), S 10 (by decide)]; exact a5, fun k x y => by rw [fd _ (by omega), S _ (by omega)]; exact a6 k x y⟩, rO.k (fun c x y z => fd c (by omega)) (fun i hi => S i (by omega)) n7, rQ.k (fd _ (by omega)) (fun i hi => S i (by omega)) n7 hO, rP.k (fd _ (by omega)) (fun i hi => S i (by omega)), r1.k (fun c x y => fd c (by omega)) (fun i hi => S i (by omega)) n9, r2.k (fun c x y => fd c (by omega)) (fun i hi => S i (by omega)) n9, rK.k (fun c x y => fd c (by omega)) (fun i hi => S i (by omega)) n10, rS.k (fb 6 (by decide)) (fd _ (by omega)) (fun i hi => S i (by omega)) n11, rH.k (fd _ (by omega)) (fun i hi => S i (by omega)) n9 n10 hK.of, rD.k (fb 7 (by decide)) (fun c x y => fd c (by omega)) (fun i hi => S i (by omega)) n9⟩
theorem w_353 {E : mO × tW} {K : tK} {b : Int} {d : mD} {w : Row} (hW : WR b d w) (hC : CB w) (hG : GWt w) (hP : GP w) (h0 : w 0 ≤ 1198) (k : ∀ d', WR b d' (W_223 w) → WF b d d' → K (.inl (some (0, srvN (W_223 w) - srvN w))) d') : tCall E 353 [.inr (41, b)] d K := by
  obtain ⟨hg, s, d0, r⟩ := id hC
  obtain ⟨n7, n8, n9, n10, n11, n0, n1, n2, n3, n4, n5, n6⟩ := id hg.1
  obtain ⟨g1, tr, tb⟩ := tick hg r h0
  have e0 : ws w 0 (w 0 + 1) 0 = w 0 + 1 := wse rfl
  have ew : ∀ i, ¬ i = 0 → ws w 0 (w 0 + 1) i = w i := fun i hi => wsn hi
  have hn : CN (¬ (w 0 + 1) % 20 = 0) (ws w 0 (w 0 + 1)) := ⟨g1, s, _, tr, tb⟩
  have sN : srvN (ws w 0 (w 0 + 1)) = srvN w := srvN_of n9 (fun i hi => ew i (by omega))
  refine t_353_0 ?_
  refine officeRun (6 - 0 : Int).toNat 0 0 tu _ (ws w 0 (w 0 + 1)) (by decide) (by decide) (tickW hg hW) hn (by rw [ew 7 (by decide), show (((6 - 0 : Int).toNat : Nat) : Int) = 6 by decide]; omega) (fun d1 w1 u e j1 j2 j3 j4 => ?_)
  have f0 : w1 0 = w 0 + 1 := by rw [j3 0 (by omega), e0]
  have fw : ∀ j, ¬ j = 0 → (j ≤ 11 ∨ (12 ≤ j ∧ j < 420 ∧ (j - 12) % 68 ≤ 4) ∨ (420 ≤ j ∧ j < 452) ∨ (452 ≤ j ∧ j < 1916 ∧ (5 ≤ (j - 452) % 24 ∨ (j - 452) % 24 ≤ 2)) ∨ 1916 ≤ j) → w1 j = w j := fun j a c => by rw [j3 j c, ew j a]
  have eW : W_223 w = LP_223_71 (61 - 0 : Int).toNat 0 w1 := e
  have hG1 : GWt w1 := hG.of (fw 8 (by omega) (by omega)) (fw 9 (by omega) (by omega)) (fun t q a c x y => fw _ (by omega) (by omega)) n8.1
  have c2 : C2 w1 = C2 w := C2_of (fw 10 (by omega) (by omega)) (fun k a c => by rw [fw (1916 + 5 * k + 3) (by omega) (by omega)])
  have hP1 : GP w1 := fun p x y => by
    rw [fw 8 (by omega) (by omega)] at y
    rw [fw (420 + 2 * p + 1) (by omega) (by omega), c2]
    exact hP p x y
  have f9 : w1 9 = w 9 := fw 9 (by omega) (by omega)
  have go : ∀ (many : Int), CB w1 → (many = srvN w1 - srvN w) → srvN (W_223 w) = srvN w1 → tRun E 353 (107, [.inr (41, b), .inl (0, many), .inl (0, 0), u], [], 0, 0, d1) K := fun many cb em es => by
    refine weekRun (61 - 0 : Int).toNat 0 u d1 w1 (by decide) (by decide) j1 cb hG1 hP1 (by rw [f9, show (((61 - 0 : Int).toNat : Nat) : Int) = 61 by decide]; omega) (fun d' q1 q2 => ?_)
    rw [← eW] at q1
    have k1 := k d' q1 ((WF.set (by omega) (by omega) (by omega)).trans (j4.trans q2))
    rw [em, ← es]
    exact k1
  -- what is served behind the offices' hour is not changed any more
  have es : CB w1 → srvN (W_223 w) = srvN w1 := fun cb => by
    obtain ⟨gg, s2, d2, rr⟩ := cb
    rw [eW]
    by_cases c : (w 0 + 1) % 20 = 0
    · obtain ⟨w2, p1, p2, p3, p4, -⟩ := weekLoop (s := s2) (60 - 0 : Int).toNat (61 - 0 : Int).toNat 0 d2 w1 (by omega) gg rr (by rw [f0]; exact c) (by rw [f9, show (((60 - 0 : Int).toNat : Nat) : Int) = 60 by decide]; omega) (by rw [f9, show (((61 - 0 : Int).toNat : Nat) : Int) = 61 by decide]; omega)
      obtain ⟨-, -, -, p5⟩ := settle p2 p3
      rw [p1, srvN_of (w := w2) (w' := W_219 w2) p2.1.2.2.1 (fun i hi => p5 i (by omega) (by omega) (by omega) (by omega))]
      exact srvN_of gg.1.2.2.1 (fun i hi => p4 i (by omega) (by omega))
    · have z : LP_223_71 (61 - 0 : Int).toNat 0 w1 = W_219 w1 := by
        have : ∀ n : Nat, 0 < n → LP_223_71 n 0 w1 = W_219 w1 := fun n hn => by
          cases n with
          | zero => omega
          | succ n =>
            show ST_223_71 _ 0 w1 = _
            unfold ST_223_71
            split
            · rw [if_neg (by rw [f0]; exact c)]
            · rfl
        exact this _ (by decide)
      obtain ⟨-, -, -, p5⟩ := settle gg rr
      rw [z]
      exact srvN_of gg.1.2.2.1 (fun i hi => p5 i (by omega) (by omega) (by omega) (by omega))
  have cb : CB w1 := by
    by_cases c : (w 0 + 1) % 20 = 0
    · obtain ⟨gg, s2, d2, rn, -⟩ := j2
      exact ⟨gg, s2, _, newWeek gg rn (fun k a c => by
        rw [fw 10 (by omega) (by omega)] at c
        have := hg.2.2.2.2.2.1 k a c
        rw [fw _ (by omega) (by omega), f0]
        omega) (fun t p a c x y => by
        rw [f9] at c
        have := (hg.2.2.2.2.1 t a c).2.2.2.2 p x y
        rw [fw (452 + 24 * t + 8 + p) (by omega) (by omega), f0]
        omega) (by rw [f0]; exact c)⟩
    · exact j2.b c
  have k1 := go (0 + (srvN w1 - srvN (ws w 0 (w 0 + 1)))) cb (by rw [sN]; omega) (es cb)
  exact k1
