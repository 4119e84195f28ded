/-! ===== a text is read: class and reference ===== -/
theorem zrow : ∀ (n : Nat) (x : Int) (e : mD), 0 ≤ x → x ≤ 3116 → 3116 - x ≤ (n : Int) → ∃ e1, lp_206_12 769 n x e = (if v_194 769 40216062 e1 = 0 then lp_206_53 769 5 0 (g_188 769 1 (g_194 769 40216062 e1 769 10) (g_194 769 40216062 e1)) else lp_206_53 769 5 0 (g_194 769 40216062 e1)) ∧ (∀ b, ¬ b = 770 → e1 b = e b) ∧ (∀ j, x ≤ j → j < 3116 → e1 770 j = 0) ∧ ∀ j, j < x → e1 770 j = e 770 j := by
  intro n
  induction n with
  | zero =>
    intro x e h0 h1 hn
    refine ⟨e, ?_, fun _ _ => rfl, fun j a b => by omega, fun _ _ => rfl⟩
    show st_206_12 769 _ x e = _
    unfold st_206_12
    rw [if_neg (by omega)]
    rfl
  | succ n ih =>
    intro x e h0 h1 hn
    by_cases c : x < 3116
    · obtain ⟨e1, q1, q2, q3, q4⟩ := ih (x + 1) (mset e 770 x 0) (by omega) (by omega) (by omega)
      refine ⟨e1, ?_, fun b hb => ?_, fun j a b => ?_, fun j a => ?_⟩
      · rw [← q1]
        show st_206_12 769 _ x e = _
        unfold st_206_12
        rw [if_pos c, show (769 : Int) + 1 = 770 by decide]
      · rw [q2 b hb]
        funext j
        exact ms_a hb
      · by_cases z : j = x
        · rw [q4 j (by omega), ms_e rfl z]
        · exact q3 j (by omega) b
      · rw [q4 j (by omega), ms_i (by omega)]
    · refine ⟨e, ?_, fun _ _ => rfl, fun j a b => by omega, fun _ _ => rfl⟩
      show st_206_12 769 _ x e = _
      unfold st_206_12
      rw [if_neg c]
      rfl
theorem at194 {c : Int} {e : mD} (h : v_194 769 c e = 0) : g_194 769 c e 769 10 = g_189 769 e 769 10 := by
  unfold v_194 at h
  unfold g_194
  by_cases c1 : g_189 769 e 769 13 = 0
  · rw [if_pos c1] at h ⊢
    by_cases c2 : mcmp (v_193 769 8 (g_189 769 e)) c = 0
    · rw [if_pos c2] at h
      omega
    · rw [if_neg c2]
      exact ms_e rfl rfl
  · rw [if_neg c1]
    exact ms_e rfl rfl
theorem loadHead {d e : mD} (ht : TextR d e) : (v_14 576 (g_13 576 d) = 1 ∧ ∃ X, LdFr d (g_14 576 (g_13 576 d)) e X ∧ g_206 769 e = rEnd (e 769 9) (rBody X) ∧ LO (g_14 576 (g_13 576 d)) X 0) ∨ (v_14 576 (g_13 576 d) = 0 ∧ LdFr d (g_14 576 (g_13 576 d)) e (g_206 769 e) ∧ Fail (g_14 576 (g_13 576 d)) (g_206 769 e)) := by
  obtain ⟨t1, t2, t3⟩ := ht
  obtain ⟨e1, p1, p2, p3, -⟩ := zrow 3116 0 (mset (mset e 769 10 0) 769 13 0) (by decide) (by decide) (by decide)
  have er : g_206 769 e = if v_194 769 40216062 e1 = 0 then lp_206_53 769 5 0 (g_188 769 1 (g_194 769 40216062 e1 769 10) (g_194 769 40216062 e1)) else lp_206_53 769 5 0 (g_194 769 40216062 e1) := by
    rw [← p1]
    rfl
  have q9 : e1 769 = mset (mset e 769 10 0) 769 13 0 769 := p2 769 (by decide)
  have q10 : e1 769 10 = 0 := by rw [q9, ms_i (by decide), ms_e rfl rfl]
  have q13 : e1 769 13 = 0 := by rw [q9, ms_e rfl rfl]
  have qj : ∀ j, j < 10 ∨ 16 < j → e1 769 j = e 769 j := fun j hj => by rw [q9, ms_i (by omega), ms_i (by omega)]
  have qk : ∀ k, ¬ k = 769 → ¬ k = 770 → e1 k = e k := fun k a b => by
    rw [p2 k b]
    funext j
    rw [ms_a a, ms_a a]
  generalize hD : mset (g_58 580 (mset (mset d 576 2 0) 576 3 (-1))) 577 3 0 = D
  have eg : g_13 576 d = g_52 577 D := by
    rw [← hD]
    rfl
  have D3 : D 577 3 = 0 := by rw [← hD]; exact ms_e rfl rfl
  have Df : ∀ b, (b < 576 ∨ 642 < b ∨ b = 578 ∨ b = 579) → D b = d b := fun b hb => by
    rw [← hD]
    unfold g_58
    funext j
    simp (disch := omega) only [ms_a]
  have D0 : D 580 2 = 0 ∧ D 582 0 = 0 ∧ D 590 0 = 0 ∧ D 629 0 = 0 ∧ D 637 0 = 0 ∧ D 637 5 = 0 := by
    rw [← hD]
    unfold g_58
    refine ⟨?_, ?_, ?_, ?_, ?_, ?_⟩ <;> simp (disch := omega) only [ms_a, ms_i, ms_e]
  clear hD
  have D8 : D 578 = d 578 := Df 578 (by decide)
  have D9 : D 579 = d 579 := Df 579 (by decide)
  obtain ⟨a1, a2, a3⟩ := adv (L := d 578 1) (d := D) (by rw [D8]) t1.2 (by omega) (by omega)
  rw [← eg] at a1 a2 a3
  rw [D3, D9] at a2
  rw [D9] at a3
  generalize g_13 576 d = d1 at *
  have d8 : d1 578 = d 578 := by rw [a1 578 (by decide), D8]
  have d9 : d1 579 = d 579 := by rw [a1 579 (by decide), D9]
  have hs : Syn d1 e1 := by
    refine ⟨?_, q13, ?_, ?_, ?_⟩
    · rw [d8, d9]
      refine ⟨t1, by rw [qj 9 (by decide)]; exact t2, fun i x y => ?_⟩
      rw [qk 776 (by decide) (by decide)]
      exact t3 i x y
    · rw [q10, d8]
      omega
    · rw [d8, d9, q10]
      exact a2
    · rw [d8, d9]
      exact a3
  have hd : HD 0 d1 e1 := ⟨fun j a b => by omega, fun j hj => p3 j (by omega) (by omega), by rw [a1 580 (by decide)]; exact D0.1, by rw [a1 582 (by decide)]; exact D0.2.1, by rw [a1 590 (by decide)]; exact D0.2.2.1, by rw [a1 629 (by decide)]; exact D0.2.2.2.1, by rw [a1 637 (by decide)]; exact D0.2.2.2.2.1, by rw [a1 637 (by decide)]; exact D0.2.2.2.2.2⟩
  have f0 : LdFr d d1 e e1 := ⟨fun b hb => by
    by_cases z : b = 577
    · omega
    · rw [a1 b z, Df b hb], qk, qj⟩
  have ec : ∀ v g, v_24 576 0 d1 = v → g_24 576 0 d1 = g → f_14 576 d1 = if v = 0 then (0, g) else lp_14_13 576 5 0 g := fun v g hv hg => by
    unfold f_14
    rw [hv, hg]
    rfl
  obtain ⟨i1, i2⟩ := isWord (w := 0) (code := 40216062) hs word0
  rw [er]
  unfold v_14 g_14
  rcases i2 with ⟨w1, w2, w3, w4⟩ | ⟨w1, w2, w3⟩
  · rw [ec 1 (g_52 577 d1) (by unfold v_24; rw [show (576 : Int) + 1 = 577 by decide, if_neg (by omega)]) (by unfold g_24; rw [show (576 : Int) + 1 = 577 by decide, if_neg (by omega)]), if_neg (by decide), if_neg (by omega)]
    generalize g_194 769 40216062 e1 = H at *
    have f1 : LdFr d (g_52 577 d1) e H := f0.trans (LdFr.of w4 i1)
    have hd2 : HD 0 (g_52 577 d1) H := by
      obtain ⟨h1, h2, h3, h4, h5, h6, h7, h8⟩ := hd
      exact ⟨fun j a b => by omega, fun j hj => by rw [i1.1 770 (by decide)]; exact h2 j hj, by rw [w4 580 (by decide) (by decide)]; exact h3, by rw [w4 582 (by decide) (by decide)]; exact h4, by rw [w4 590 (by decide) (by decide)]; exact h5, by rw [w4 629 (by decide) (by decide)]; exact h6, by rw [w4 637 (by decide) (by decide)]; exact h7, by rw [w4 637 (by decide) (by decide)]; exact h8⟩
    have e9 : H 769 9 = e 769 9 := f1.2.2 9 (by decide)
    rcases loopN 5 0 (g_52 577 d1) H w3 (by decide) (by decide) (by decide) hd2 with ⟨k1, X, k2, k3, k4⟩ | ⟨k1, k2, k3⟩
    · rw [e9] at k3
      exact Or.inl ⟨k1, X, f1.trans k2, k3, k4⟩
    · exact Or.inr ⟨k1, f1.trans k2, k3⟩
  · rw [ec 0 (g_32 576 1 d1) (by unfold v_24; rw [show (576 : Int) + 1 = 577 by decide, if_pos w1]; rfl) (by unfold g_24; rw [show (576 : Int) + 1 = 577 by decide, if_pos w1]), if_pos rfl, if_pos w2, at194 w2, hs.bl.2.2]
    obtain ⟨b1, b2⟩ := flt188 (c := 1) (p := d1 577 2) w3.2.1
    obtain ⟨c1, c2, c3⟩ := fail32 (c := 1) (d := d1)
    have bh := badHead 5 0 _ b1.ne
    have i1 := i1.trans b2
    generalize g_188 769 1 (d1 577 2) (g_194 769 40216062 e1) = H at *
    refine Or.inr ⟨rfl, f0.trans ⟨fun b hb => c3 b (by omega) (by omega), fun k y z => by rw [bh k z, i1.1 k y], fun j hj => by rw [bh 769 (by decide), i1.2 j hj]⟩, 1, d1 577 2, c1, c2, ?_⟩
    unfold BadR
    rw [bh 769 (by decide)]
    exact b1
theorem LdFr.end {d d' e e' : mD} {L : Int} (h : LdFr d d' e e') (hs : Syn d' e') (h3 : d' 577 1 = 3) (hL : L = d' 578 1) : LdFr d d' e (rEnd L e') ∧ rEnd L e' 769 13 = 0 ∧ rEnd L e' 770 = e' 770 := by
  obtain ⟨s1, s2, s3⟩ := hs.bl
  have tk := hs.2.2.2.2
  have hl := hs.2.2.2.1.2.1
  have hT : d' 577 2 = d' 578 1 := by
    rcases tk with ⟨a1, a2, a3⟩ | ⟨a1, a2, a3, a4⟩ | ⟨a1, a2, a3, a4⟩ | ⟨a1, a2, a3, a4⟩ | ⟨a1, a2, a3, a4, a5, a6⟩
    · exact a1
    · omega
    · omega
    · omega
    · omega
  have er : rEnd L e' = g_189 769 e' := by
    unfold rEnd
    rw [if_pos hs.2.1, s3, if_neg (by omega)]
  rw [er]
  exact ⟨h.trans (LdFr.of FrC.refl s2), s1.2.1, s2.1 770 (by decide)⟩
theorem endFail {D e' : mD} {L : Int} (hs : Syn D e') (h3 : ¬ D 577 1 = 3) (hL : L = D 578 1) : FrR e' (rEnd L e') ∧ Fail (g_32 576 1 D) (rEnd L e') := by
  obtain ⟨s1, s2, s3⟩ := hs.bl
  have tk := hs.2.2.2.2
  have hT : D 577 2 < D 578 1 := by
    rcases tk with ⟨a1, a2, a3⟩ | ⟨a1, a2, a3, a4⟩ | ⟨a1, a2, a3, a4⟩ | ⟨a1, a2, a3, a4⟩ | ⟨a1, a2, a3, a4, a5, a6⟩
    · exact absurd a2 h3
    · exact a1
    · exact a1
    · exact a1
    · exact a1
  have er : rEnd L e' = g_188 769 1 (D 577 2) (g_189 769 e') := by
    unfold rEnd
    rw [if_pos hs.2.1, s3, if_pos (by omega)]
  obtain ⟨b1, b2⟩ := flt188 (c := 1) (p := D 577 2) s1.2.1
  obtain ⟨c1, c2, c3⟩ := fail32 (c := 1) (d := D)
  rw [er]
  exact ⟨s2.trans b2, 1, D 577 2, c1, c2, b1⟩
