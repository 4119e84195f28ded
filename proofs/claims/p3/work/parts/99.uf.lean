/-! ===== the loop of the deeds ===== -/
def TKE (E : mO × tW) : Prop := W55 E ∧ tokV E.2 (.inr (2, 576)) ∧ tokV E.2 (.inr (5, 577)) ∧ tokV E.2 (.inr (6, 580))
def LSt (E : mO × tW) (d : mD) : Prop := Safe d ∧ tSh E.2 d ∧ d 580 2 ≤ 999
theorem e580 : (576 : Int) + 4 = 580 := by decide
theorem st580 : stB 580 := Or.inr (Or.inr (Or.inl rfl))
theorem LSt.w {E : mO × tW} {d : mD} (hT : TKE E) (h : LSt E d) : LSt E (g_52 577 d) := by
  obtain ⟨q1, q2, q3⟩ := p_52 (E := E) (x0 := 577) h.1 rfl ⟨hT.2.2.1, trivial⟩ h.2.1
  exact ⟨q3, q1, by rw [q2 580 (by decide)]; exact h.2.2⟩
theorem LSt.F68 {E : mO × tW} {d : mD} (hT : TKE E) (h0 : LSt E d) (hv : v_25 576 1 99 (g_52 577 d) = 1) : ∀ b, (b < 580 ∨ 642 < b) → g_68 580 (g_25 576 1 99 (g_52 577 d) 576 4) (g_25 576 1 99 (g_52 577 d)) b = g_25 576 1 99 (g_52 577 d) b := fun b hb => by
  have h := h0.w hT
  generalize g_52 577 d = u at *
  obtain ⟨q1, q2, q3, q4, q5, q6, q7, q8⟩ := p_25 (E := E) (x0 := 576) (x1 := 1) (x2 := 99) h.1 rfl (by decide) (by decide) ⟨hT.2.1, trivial, trivial, trivial⟩ h.2.1
  have ht : g_25 576 1 99 u 580 2 ≤ 999 := by rw [q3 580 (by decide)]; exact h.2.2
  rcases q7 with q7 | q7
  · omega
  · exact (p_68 (E := E) (x0 := 580) (x1 := g_25 576 1 99 u 576 4) q8 st580 ⟨by omega, by omega⟩ (by omega) (Or.inl rfl) ⟨hT.2.2.2, trivial, trivial⟩ q1).2.2.1 b (by omega)
theorem LSt.F74 {E : mO × tW} {d : mD} (hT : TKE E) (h0 : LSt E d) (hv : v_29 576 (g_52 577 d) = 1) : ∀ b, (b < 580 ∨ 642 < b) → g_74 580 (g_29 576 (g_52 577 d) 576 6) (g_29 576 (g_52 577 d)) b = g_29 576 (g_52 577 d) b := fun b hb => by
  have h := h0.w hT
  generalize g_52 577 d = u at *
  obtain ⟨q1, q2, q3, q4, q5, q6, q7⟩ := p_29 (E := E) (x0 := 576) h.1 rfl ⟨hT.2.1, trivial⟩ h.2.1
  rcases q6 with q6 | q6
  · omega
  · exact (p_74 (E := E) (x0 := 580) (x1 := g_29 576 u 576 6) q7 st580 q6 ⟨hT.2.2.2, trivial, trivial⟩ q1).2.2.1 b (by omega)
theorem LSt.F75 {E : mO × tW} {d : mD} (hT : TKE E) (h0 : LSt E d) (hv : v_27 576 (g_52 577 d) = 1) (hv2 : v_29 576 (g_27 576 (g_52 577 d)) = 1) (hv3 : v_77 580 (g_29 576 (g_27 576 (g_52 577 d)) 576 6) (g_27 576 (g_52 577 d) 576 6) (g_29 576 (g_27 576 (g_52 577 d))) = 0) : ∀ b, (b < 580 ∨ 642 < b) → g_75 580 (g_29 576 (g_27 576 (g_52 577 d)) 576 6) (g_27 576 (g_52 577 d) 576 6) (g_29 576 (g_27 576 (g_52 577 d))) b = g_29 576 (g_27 576 (g_52 577 d)) b := fun b hb => by
  have h := h0.w hT
  generalize g_52 577 d = u at *
  obtain ⟨r1, r2, r3, r4, r5, r6, r7⟩ := p_27 (E := E) (x0 := 576) h.1 rfl ⟨hT.2.1, trivial⟩ h.2.1
  obtain ⟨q1, q2, q3, q4, q5, q6, q7⟩ := p_29 (E := E) (d := g_27 576 u) (x0 := 576) r7 rfl ⟨hT.2.1, trivial⟩ r1
  rcases q6 with q6 | q6
  · omega
  · rcases r6 with r6 | r6
    · omega
    · have w := (p_77 (E := E) (x0 := 580) (x1 := g_29 576 (g_27 576 u) 576 6) (x2 := g_27 576 u 576 6) q7 st580 q6 r6 ⟨hT.2.2.2, trivial, trivial, trivial⟩ q1).2.2
      have w : g_29 576 (g_27 576 u) (580 + 10 + 4) (g_27 576 u 576 6) ≤ 2 := by
        rcases w with w | w
        · exact absurd hv3 w
        · exact w
      exact (p_75 (E := E) (x0 := 580) (x1 := g_29 576 (g_27 576 u) 576 6) (x2 := g_27 576 u 576 6) q7 st580 q6 r6 w ⟨hT.2.2.2, trivial, trivial, trivial⟩ q1).2.2.1 b (by omega)
theorem LSt.g20 {E : mO × tW} {d : mD} (hT : TKE E) (h : LSt E d) : LSt E (g_20 576 d) := by
  obtain ⟨q1, q2, q3, q4, q5⟩ := p_20 (E := E) (x0 := 576) h.1 rfl (by rw [e580]; exact h.2.2) ⟨hT.2.1, trivial⟩ h.2.1
  exact ⟨q5, q1, by rw [e580] at q4; exact q4⟩
theorem LSt.g21 {E : mO × tW} {d : mD} (hT : TKE E) (h : LSt E d) : LSt E (g_21 576 d) := by
  obtain ⟨q1, q2, q3, q4, q5⟩ := p_21 (E := E) (x0 := 576) h.1 rfl (by rw [e580]; exact h.2.2) ⟨hT.2.1, trivial⟩ h.2.1
  exact ⟨q5, q1, by rw [e580] at q4; exact q4⟩
theorem LSt.g22 {E : mO × tW} {d : mD} (hT : TKE E) (h : LSt E d) : LSt E (g_22 576 d) := by
  obtain ⟨q1, q2, q3, q4, q5⟩ := p_22 (E := E) (x0 := 576) h.1 rfl (by rw [e580]; exact h.2.2) ⟨hT.2.1, trivial⟩ h.2.1
  exact ⟨q5, q1, by rw [e580] at q4; exact q4⟩
theorem LSt.g23 {E : mO × tW} {d : mD} (hT : TKE E) (h : LSt E d) : LSt E (g_23 576 d) := by
  obtain ⟨q1, q2, q3, q4, q5⟩ := p_23 (E := E) (x0 := 576) h.1 rfl (by rw [e580]; exact h.2.2) ⟨hT.2.1, trivial⟩ h.2.1
  exact ⟨q5, q1, by rw [e580] at q4; exact q4⟩
theorem r19 (n : Nat) : ∃ r, lp_19_4 576 n = st_19_4 576 r ∧ (∀ k d, r 0 k d = (0, d)) ∧ ∀ n', n = n' + 1 → r = lp_19_4 576 n' := by
  have z : ∀ (r : Int → Int → mD → Int × mD) k d, st_19_4 576 r 0 k d = (0, d) := fun r k d => by
    unfold st_19_4
    by_cases c : k < 1000
    · rw [if_pos c, if_pos rfl]
    · rw [if_neg c]
  cases n with
  | zero => exact ⟨fun _ _ d => (0, d), rfl, fun _ _ => rfl, fun n' h => absurd h (by omega)⟩
  | succ n =>
    refine ⟨lp_19_4 576 n, rfl, fun k d => ?_, fun n' h => by rw [show n = n' by omega]⟩
    cases n with
    | zero => exact z _ k d
    | succ n => exact z _ k d
theorem r205 (m : Nat) : ∃ r, lp_205_13 769 m = st_205_13 769 r ∧ (∀ e, r 0 e = e) ∧ ∀ m', m = m' + 1 → r = lp_205_13 769 m' := by
  have z : ∀ (r : Int → mD → mD) d, st_205_13 769 r 0 d = d := fun r d => by
    unfold st_205_13
    rw [if_pos rfl]
  cases m with
  | zero => exact ⟨fun _ d => d, rfl, fun _ => rfl, fun m' h => absurd h (by omega)⟩
  | succ m =>
    refine ⟨lp_205_13 769 m, rfl, fun e => ?_, fun m' h => by rw [show m = m' by omega]⟩
    cases m with
    | zero => exact z _ e
    | succ m => exact z _ e
def DE (d e d' e' : mD) (c : Int) : Prop := LdFr d d' e e' ∧ ((c = 1 ∧ Syn d' e' ∧ d' 577 1 = 3 ∧ OKR 580 d' (e' 770)) ∨ (c = 0 ∧ Fail d' e') ∨ (c = 0 ∧ ∃ D, Syn D e' ∧ ¬ D 577 1 = 3 ∧ d' = g_32 576 1 D))
theorem stepD {E : mO × tW} (hT : TKE E) {r : Int → Int → mD → Int × mD} {r' : Int → mD → mD} (z1 : ∀ k d, r 0 k d = (0, d)) (z2 : ∀ e, r' 0 e = e) {k : Int} {d e : mD} (hs : Syn d e) (hk : OKR 580 d (e 770)) (hl : LSt E d) (k1 : k ≤ d 577 2) (hn : k < 1000 → d 577 2 < d 578 1 → ∀ D rd, Syn D rd → OKR 580 D (rd 770) → LSt E D → d 577 2 < D 577 2 → LdFr d D e rd → DE D rd (r 1 (k + 1) D).2 (r' 1 rd) (r 1 (k + 1) D).1) : DE d e (st_19_4 576 r 1 k d).2 (st_205_13 769 r' 1 e) (st_19_4 576 r 1 k d).1 := by
  have x1 : ¬ (1 : Int) = 0 := by decide
  have ct := hs.ct
  obtain ⟨a1, a2⟩ := isWord (w := 3) (code := 208022) hs word3
  generalize hA : g_194 769 208022 e = A at *
  by_cases c3 : d 577 1 = 3
  · have ec : st_19_4 576 r 1 k d = (1, d) := by
      unfold st_19_4
      rw [if_neg x1, show (576 : Int) + 1 = 577 by decide, if_pos c3]
      split <;> rfl
    have nv : ∀ w, ¬ v_55 577 w d = 1 := fun w hw => by
      have := v55k (w := w) (d := d) (by omega)
      omega
    rcases a2 with ⟨v, -, -, -⟩ | ⟨-, w3, sA⟩
    · exact absurd v (nv _)
    · obtain ⟨b1, b2⟩ := isWord (w := 4) (code := 316189) sA word4
      rcases b2 with ⟨v, -, -, -⟩ | ⟨-, w4, sB⟩
      · exact absurd v (nv _)
      · obtain ⟨e1, e2⟩ := isWord (w := 5) (code := 1831504) sB word5
        rcases e2 with ⟨v, -, -, -⟩ | ⟨-, w5, sC⟩
        · exact absurd v (nv _)
        · obtain ⟨f1, f2⟩ := isWord (w := 6) (code := 9050719969) sC word6
          rcases f2 with ⟨v, -, -, -⟩ | ⟨-, w6, sD⟩
          · exact absurd v (nv _)
          · rw [← hA] at w4 w5 w6 a1 b1 e1 f1 sD
            rw [ec, st205u x1 w3 w4 w5 w6 rfl, z2]
            have fr := ((a1.trans b1).trans e1).trans f1
            exact ⟨LdFr.of FrC.refl fr, Or.inl ⟨rfl, sD, c3, by rw [fr.1 770 (by decide)]; exact hk⟩⟩
  · have tl : d 577 2 < d 578 1 := by
      have tk := ct.2
      rcases tk with ⟨a1, a2, a3⟩ | ⟨a1, a2, a3, a4⟩ | ⟨a1, a2, a3, a4⟩ | ⟨a1, a2, a3, a4⟩ | ⟨a1, a2, a3, a4, a5, a6⟩
      · exact absurd a2 c3
      · exact a1
      · exact a1
      · exact a1
      · exact a1
    have ck : k < 1000 := by
      have := ct.1
      omega
    have go : ∀ (D rd : mD) (v : Int), LdFr d D e rd → ((v = 1 ∧ Syn D rd ∧ OKR 580 D (rd 770)) ∨ (v = 0 ∧ Fail D rd)) → LSt E D → d 577 2 < D 577 2 → DE d e (r v (k + 1) D).2 (nx r' 1 rd) (r v (k + 1) D).1 := fun D rd v f1 f2 f3 f4 => by
      unfold nx
      rcases f2 with ⟨g1, g2, g3⟩ | ⟨g1, g2⟩
      · obtain ⟨h1, h2⟩ := hn ck tl D rd g2 g3 f3 f4 f1
        rw [if_pos g2.2.1, ma11, g1]
        exact ⟨f1.trans h1, h2⟩
      · rw [if_neg g2.ne, ma10, g1, z1, z2]
        exact ⟨f1, Or.inr (Or.inl ⟨rfl, g2⟩)⟩
    rcases a2 with ⟨v, w3, sA, fA⟩ | ⟨v3, w3, sA⟩
    · have n0 : ¬ v_55 577 3 d = 0 := by omega
      have wA : A 770 = e 770 := a1.1 770 (by decide)
      obtain ⟨j1, j2⟩ := readJoin sA fA (by rw [wA]; exact hk)
      have ec : st_19_4 576 r 1 k d = r (v_20 576 d) (k + 1) (g_20 576 d) := by
        unfold st_19_4
        rw [if_pos ck, if_neg x1, show (576 : Int) + 1 = 577 by decide, if_neg c3, if_neg n0]
      rw [ec, st205j x1 (by omega), hA]
      exact go _ _ _ ((LdFr.of FrC.refl a1).trans j1) j2 (hl.g20 hT) (pg20 ct (v55k n0))
    · obtain ⟨b1, b2⟩ := isWord (w := 4) (code := 316189) sA word4
      have b1 := a1.trans b1
      generalize hB : g_194 769 316189 A = B at *
      rcases b2 with ⟨v, w4, sB, fB⟩ | ⟨v4, w4, sB⟩
      · have n0 : ¬ v_55 577 4 d = 0 := by omega
        have wB : B 770 = e 770 := b1.1 770 (by decide)
        have hF := hl.F68 hT
        obtain ⟨j1, j2⟩ := readPass sB fB (by rw [wB]; exact hk) hF
        have ec : st_19_4 576 r 1 k d = r (v_21 576 d) (k + 1) (g_21 576 d) := by
          unfold st_19_4
          rw [if_pos ck, if_neg x1, show (576 : Int) + 1 = 577 by decide, if_neg c3, if_pos v3, if_neg n0]
        obtain ⟨-, t2, t3⟩ := takeNum (lo := 1) (hi := 99) sB
        rw [ec, st205p (B := B) x1 (by omega) (by rw [hA]; omega) (by rw [hA]; exact hB) (by rw [t2.1 770 (by decide), wB]) (by
          rcases t3 with t3 | t3
          · omega
          · omega)]
        exact go _ _ _ ((LdFr.of FrC.refl b1).trans j1) j2 (hl.g21 hT) (pg21 hF ct (v55k n0))
      · obtain ⟨e1, e2⟩ := isWord (w := 5) (code := 1831504) sB word5
        have e1 := b1.trans e1
        generalize hC : g_194 769 1831504 B = C at *
        rcases e2 with ⟨v, w5, sC, fC⟩ | ⟨v5, w5, sC⟩
        · have n0 : ¬ v_55 577 5 d = 0 := by omega
          have wC : C 770 = e 770 := e1.1 770 (by decide)
          have hF := hl.F74 hT
          obtain ⟨j1, j2⟩ := readClaim sC fC (by rw [wC]; exact hk) hF
          have ec : st_19_4 576 r 1 k d = r (v_22 576 d) (k + 1) (g_22 576 d) := by
            unfold st_19_4
            rw [if_pos ck, if_neg x1, show (576 : Int) + 1 = 577 by decide, if_neg c3, if_pos v3, if_pos v4, if_neg n0]
          rw [ec, st205c (C := C) x1 (by omega) (by rw [hA]; omega) (by rw [hA, hB]; omega) (by rw [hA, hB]; exact hC)]
          exact go _ _ _ ((LdFr.of FrC.refl e1).trans j1) j2 (hl.g22 hT) (pg22 hF ct (v55k n0))
        · obtain ⟨f1, f2⟩ := isWord (w := 6) (code := 9050719969) sC word6
          have f1 := e1.trans f1
          generalize hD : g_194 769 9050719969 C = D at *
          rcases f2 with ⟨v, w6, sD, fD⟩ | ⟨v6, w6, sD⟩
          · have n0 : ¬ v_55 577 6 d = 0 := by omega
            have wD : D 770 = e 770 := f1.1 770 (by decide)
            have hF := hl.F75 hT
            obtain ⟨j1, j2⟩ := readWit sD fD (by rw [wD]; exact hk) hF
            have ec : st_19_4 576 r 1 k d = r (v_23 576 d) (k + 1) (g_23 576 d) := by
              unfold st_19_4
              rw [if_pos ck, if_neg x1, show (576 : Int) + 1 = 577 by decide, if_neg c3, if_pos v3, if_pos v4, if_pos v5, if_neg n0]
            rw [ec, st205w (D := D) x1 (by omega) (by rw [hA]; omega) (by rw [hA, hB]; omega) (by rw [hA, hB, hC]; omega) (by rw [hA, hB, hC]; exact hD)]
            exact go _ _ _ ((LdFr.of FrC.refl f1).trans j1) j2 (hl.g23 hT) (pg23 hF ct (v55k n0))
          · have ec : st_19_4 576 r 1 k d = (0, g_32 576 1 d) := by
              unfold st_19_4
              rw [if_pos ck, if_neg x1, show (576 : Int) + 1 = 577 by decide, if_neg c3, if_pos v3, if_pos v4, if_pos v5, if_pos v6]
              exact z1 _ _
            rw [ec, st205u (D := D) x1 (by omega) (by rw [hA]; omega) (by rw [hA, hB]; omega) (by rw [hA, hB, hC]; omega) (by rw [hA, hB, hC]; exact hD), z2]
            exact ⟨LdFr.of (fail32 (c := 1) (d := d)).2.2 f1, Or.inr (Or.inr ⟨rfl, d, sD, c3, rfl⟩)⟩
theorem loopD {E : mO × tW} (hT : TKE E) : ∀ (n m : Nat) (k : Int) (d e : mD), Syn d e → OKR 580 d (e 770) → LSt E d → k ≤ d 577 2 → 1000 - k ≤ (n : Int) → d 578 1 - d 577 2 + 1 ≤ (m : Int) → DE d e (lp_19_4 576 n 1 k d).2 (lp_205_13 769 m 1 e) (lp_19_4 576 n 1 k d).1 := by
  intro n
  induction n with
  | zero =>
    intro m k d e hs hk hl k1 hn hm
    obtain ⟨r, er, rz, rs⟩ := r19 0
    obtain ⟨r', er', rz', rs'⟩ := r205 m
    rw [er, er']
    exact stepD hT rz rz' hs hk hl k1 (fun x => by omega)
  | succ n ih =>
    intro m k d e hs hk hl k1 hn hm
    obtain ⟨r, er, rz, rs⟩ := r19 (n + 1)
    obtain ⟨r', er', rz', rs'⟩ := r205 m
    rw [er, er']
    refine stepD hT rz rz' hs hk hl k1 (fun x y D rd u1 u2 u3 u4 u5 => ?_)
    have e8 : D 578 = d 578 := u5.1 578 (Or.inr (Or.inr (Or.inl rfl)))
    rw [rs n rfl, rs' (m - 1) (by omega)]
    exact ih (m - 1) (k + 1) D rd u1 u2 u3 (by omega) (by omega) (by rw [e8]; omega)
theorem loadD {E : mO × tW} (hT : TKE E) {d e : mD} (hs : Syn d e) (hk : OKR 580 d (e 770)) (hl : LSt E d) : DE d e (g_19 576 d) (g_205 769 e) (v_19 576 d) := by
  have ct := hs.ct.1
  have b1 := hs.2.2.1
  have b2 := hs.2.2.2.1.1
  have rt : g_205 769 e = lp_205_13 769 (1000 - e 769 10 + 1 : Int).toNat 1 e := by
    unfold g_205
    rw [if_pos hs.2.1]
  unfold v_19 g_19 f_19
  rw [rt]
  exact loopD hT _ _ 0 d e hs hk hl (by omega) (by omega) (by omega)
