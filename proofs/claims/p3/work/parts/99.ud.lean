/-! ===== offices and persons are read ===== -/
theorem LdFr.trans {a b c e f g : mD} (h : LdFr a b e f) (k : LdFr b c f g) : LdFr a c e g := ⟨fun x y => (k.1 x y).trans (h.1 x y), fun x y z => (k.2.1 x y z).trans (h.2.1 x y z), fun x y => (k.2.2 x y).trans (h.2.2 x y)⟩
theorem LdFr.refl {a e : mD} : LdFr a a e e := LdFr.of FrC.refl FrR.refl
theorem r204 (x1 : Int) (m : Nat) : ∃ r, lp_204_13 769 x1 m = st_204_13 769 x1 r ∧ (∀ e, r 0 e = e) ∧ ∀ m', m = m' + 1 → r = lp_204_13 769 x1 m' := by
  cases m with
  | zero => exact ⟨fun _ d => d, rfl, fun _ => rfl, fun m' h => absurd h (by omega)⟩
  | succ m =>
    refine ⟨lp_204_13 769 x1 m, rfl, fun e => ?_, fun m' h => by rw [show m = m' by omega]⟩
    cases m with
    | zero =>
      show st_204_13 769 x1 _ 0 e = e
      unfold st_204_13
      rw [if_pos rfl]
    | succ m =>
      show st_204_13 769 x1 _ 0 e = e
      unfold st_204_13
      rw [if_pos rfl]
theorem ma11 : miand 1 1 = 1 := by decide
theorem ma10 : miand 1 0 = 0 := by decide
theorem ma01 : miand 0 1 = 0 := by decide
theorem ma00 : miand 0 0 = 0 := by decide
def LO (d e : mD) (x : Int) : Prop := Syn d e ∧ OKR 580 d (e 770) ∧ GZ (e 770) ∧ e 770 9 = 0 ∧ e 770 10 = 0 ∧ e 770 7 = x ∧ e 770 8 = 0
theorem loopO : ∀ (n m : Nat) (x : Int) (d e : mD), LO d e x → 0 ≤ x → x ≤ 6 → 7 - x ≤ (n : Int) → d 578 1 - d 577 2 + 1 ≤ (m : Int) → (x = 0 → ¬ v_55 577 1 d = 0) → LdFr d (lp_15_20 576 n x d).2 e (lp_204_13 769 1 m 1 e) ∧ (((lp_15_20 576 n x d).1 = 1 ∧ Syn (lp_15_20 576 n x d).2 (lp_204_13 769 1 m 1 e) ∧ OKR 580 (lp_15_20 576 n x d).2 (lp_204_13 769 1 m 1 e 770) ∧ lp_204_13 769 1 m 1 e 770 8 = 0) ∨ ((lp_15_20 576 n x d).1 = 0 ∧ Fail (lp_15_20 576 n x d).2 (lp_204_13 769 1 m 1 e))) := by
  intro n
  induction n with
  | zero => intro m x d e h h0 h1 hn; omega
  | succ n ih =>
    intro m x d e ⟨hs, hk, hz, h9, h10, h7, h8⟩ h0 h1 hn hm hf
    obtain ⟨r, er, rz, rs⟩ := r204 1 m
    have st : lp_15_20 576 (n + 1) x d = if v_55 577 1 d = 0 then (1, d) else if v_16 576 d = 0 then (0, g_16 576 d) else lp_15_20 576 n (x + 1) (g_16 576 d) := by
      show st_15_20 576 _ x d = _
      unfold st_15_20
      rw [if_neg (by omega), show (576 : Int) + 1 = 577 by decide]
    obtain ⟨s1, s2, s3⟩ := hs.bl
    obtain ⟨i1, i2⟩ := isWord (w := 1) (code := 218546996) s1 word1
    have rt : lp_204_13 769 1 m 1 e = st_204_13 769 1 r 1 e := by rw [er]
    unfold st_204_13 at rt
    have z1 : ¬ (1 : Int) = 0 := by decide
    rw [if_neg z1, if_neg z1, show (769 : Int) + 1 = 770 by decide, h7, s3] at rt
    have f0 := s2.trans i1
    have w0 : g_194 769 218546996 (g_189 769 e) 770 = e 770 := f0.1 770 (by decide)
    rcases i2 with ⟨v1, v2, v3, v4⟩ | ⟨v1, v2, v3⟩
    · have n1 : ¬ v_55 577 1 d = 0 := by omega
      have n2 : ¬ v_194 769 218546996 (g_189 769 e) = 0 := by omega
      rw [if_neg n1] at st
      rw [if_neg n2] at rt
      rw [v2] at rt
      generalize g_194 769 218546996 (g_189 769 e) = H at *
      by_cases c : x = 6
      · obtain ⟨b1, b2⟩ := flt188 (c := 5) (p := d 577 2) v3.2.1
        obtain ⟨c1, c2, c3⟩ := fail32 (c := 5) (d := d)
        have o7 : d 582 0 = e 770 7 := hk.2.2.2.2.2.1.1
        have ev : v_16 576 d = 0 ∧ g_16 576 d = g_32 576 5 d := by
          unfold v_16 g_16
          rw [show (576 : Int) + 4 + 2 = 582 by decide, if_neg (by omega), if_neg (by omega)]
          exact ⟨rfl, rfl⟩
        rw [if_pos ev.1, ev.2] at st
        rw [if_pos c, if_neg b1.ne, ma10, rz] at rt
        rw [st, rt]
        exact ⟨LdFr.of c3 (f0.trans b2), Or.inr ⟨rfl, 5, d 577 2, c1, c2, b1⟩⟩
      · rw [if_neg c] at rt
        have o7 : d 582 0 = e 770 7 := hk.2.2.2.2.2.1.1
        have pg := pg16 (d := d) (by omega) hs.ct (v55k n1)
        obtain ⟨j1, j2⟩ := readOff v3 v4 (by rw [w0]; exact hk) (by rw [w0]; exact hz) (by rw [w0]; exact h9) (by rw [w0]; exact h10) (by rw [w0]; omega)
        have j1 : LdFr d (g_16 576 d) e (g_202 769 H) := (LdFr.of FrC.refl f0).trans j1
        rcases j2 with ⟨u1, u2, u3, u4, u5, u6, u7, u8⟩ | ⟨u1, u2⟩
        · rw [if_neg (by omega)] at st
          have ct := hs.ct.1
          rw [if_pos u2.2.1, ma11, rs (m - 1) (by omega)] at rt
          have e8 : g_16 576 d 578 = d 578 := j1.1 578 (Or.inr (Or.inr (Or.inl rfl)))
          obtain ⟨k1, k2⟩ := ih (m - 1) (x + 1) (g_16 576 d) (g_202 769 H) ⟨u2, u3, u4, u7, u8, by rw [u5, w0]; omega, by rw [u6, w0]; exact h8⟩ (by omega) (by omega) (by omega) (by rw [e8]; omega) (by omega)
          rw [st, rt]
          exact ⟨j1.trans k1, k2⟩
        · rw [if_pos u1] at st
          rw [if_neg u2.ne, ma10, rz] at rt
          rw [st, rt]
          exact ⟨j1, Or.inr ⟨rfl, u2⟩⟩
    · have x0 : ¬ x = 0 := fun z => hf z v1
      rw [if_pos v1] at st
      rw [if_pos v2, if_neg x0, if_pos v3.2.1, v2, ma01, rz] at rt
      rw [st, rt]
      exact ⟨LdFr.of FrC.refl f0, Or.inl ⟨rfl, v3, by rw [w0]; exact hk, by rw [w0]; exact h8⟩⟩
theorem loadO {d e : mD} (h : LO d e 0) : LdFr d (g_15 576 d) e (g_204 769 1 e) ∧ ((v_15 576 d = 1 ∧ Syn (g_15 576 d) (g_204 769 1 e) ∧ OKR 580 (g_15 576 d) (g_204 769 1 e 770) ∧ g_204 769 1 e 770 8 = 0) ∨ (v_15 576 d = 0 ∧ Fail (g_15 576 d) (g_204 769 1 e))) := by
  obtain ⟨hs, hk, hz, h9, h10, h7, h8⟩ := id h
  have ct := hs.ct.1
  have b1 := hs.2.2.1
  have b2 := hs.2.2.2.1.1
  have rt : g_204 769 1 e = lp_204_13 769 1 (1000 - e 769 10 + 1 : Int).toNat 1 e := by
    unfold g_204
    rw [if_pos hs.2.1]
  unfold v_15 g_15 f_15
  rw [show (576 : Int) + 1 = 577 by decide]
  by_cases c : v_55 577 1 d = 0
  · rw [if_pos c]
    generalize (1000 - e 769 10 + 1 : Int).toNat = m at rt
    obtain ⟨r, er, rz, rs⟩ := r204 1 m
    obtain ⟨s1, s2, s3⟩ := hs.bl
    obtain ⟨i1, i2⟩ := isWord (w := 1) (code := 218546996) s1 word1
    rw [er] at rt
    unfold st_204_13 at rt
    have z1 : ¬ (1 : Int) = 0 := by decide
    rw [if_neg z1, if_neg z1, show (769 : Int) + 1 = 770 by decide, h7, s3] at rt
    rcases i2 with ⟨v1, v2, v3, v4⟩ | ⟨v1, v2, v3⟩
    · omega
    · obtain ⟨b1, b2⟩ := flt188 (c := 1) (p := d 577 2) v3.2.1
      obtain ⟨c1, c2, c3⟩ := fail32 (c := 1) (d := d)
      rw [if_pos v2, if_pos rfl, if_neg b1.ne, v2, ma00, rz] at rt
      rw [rt]
      exact ⟨LdFr.of c3 ((s2.trans i1).trans b2), Or.inr ⟨rfl, 1, d 577 2, c1, c2, b1⟩⟩
  · rw [if_neg c, rt]
    exact loopO _ _ 0 d e h (by decide) (by decide) (by omega) (by omega) (fun _ => c)
theorem loopP : ∀ (n m : Nat) (x : Int) (d e : mD), Syn d e → OKR 580 d (e 770) → e 770 8 = x → 0 ≤ x → x ≤ 16 → 17 - x ≤ (n : Int) → d 578 1 - d 577 2 + 1 ≤ (m : Int) → LdFr d (lp_17_2 576 n x d).2 e (lp_204_13 769 0 m 1 e) ∧ (((lp_17_2 576 n x d).1 = 1 ∧ Syn (lp_17_2 576 n x d).2 (lp_204_13 769 0 m 1 e) ∧ OKR 580 (lp_17_2 576 n x d).2 (lp_204_13 769 0 m 1 e 770)) ∨ ((lp_17_2 576 n x d).1 = 0 ∧ Fail (lp_17_2 576 n x d).2 (lp_204_13 769 0 m 1 e))) := by
  intro n
  induction n with
  | zero => intro m x d e hs hk h8 h0 h1 hn; omega
  | succ n ih =>
    intro m x d e hs hk h8 h0 h1 hn hm
    obtain ⟨r, er, rz, rs⟩ := r204 0 m
    have st : lp_17_2 576 (n + 1) x d = if v_55 577 2 d = 0 then (1, d) else if v_18 576 d = 0 then (0, g_18 576 d) else lp_17_2 576 n (x + 1) (g_18 576 d) := by
      show st_17_2 576 _ x d = _
      unfold st_17_2
      rw [if_neg (by omega), show (576 : Int) + 1 = 577 by decide]
    obtain ⟨s1, s2, s3⟩ := hs.bl
    obtain ⟨i1, i2⟩ := isWord (w := 2) (code := 232608281) s1 word2
    have rt : lp_204_13 769 0 m 1 e = st_204_13 769 0 r 1 e := by rw [er]
    unfold st_204_13 at rt
    have z1 : ¬ (1 : Int) = 0 := by decide
    rw [if_neg z1, if_pos rfl, show (769 : Int) + 1 = 770 by decide, h8, s3] at rt
    have f0 := s2.trans i1
    have w0 : g_194 769 232608281 (g_189 769 e) 770 = e 770 := f0.1 770 (by decide)
    have o8 : d 590 0 = e 770 8 := hk.2.2.2.2.2.2.2.1.1
    rcases i2 with ⟨v1, v2, v3, v4⟩ | ⟨v1, v2, v3⟩
    · have n1 : ¬ v_55 577 2 d = 0 := by omega
      have n2 : ¬ v_194 769 232608281 (g_189 769 e) = 0 := by omega
      rw [if_neg n1] at st
      rw [if_neg n2] at rt
      rw [v2] at rt
      generalize g_194 769 232608281 (g_189 769 e) = H at *
      by_cases c : x = 16
      · obtain ⟨b1, b2⟩ := flt188 (c := 5) (p := d 577 2) v3.2.1
        obtain ⟨c1, c2, c3⟩ := fail32 (c := 5) (d := d)
        have ev : v_18 576 d = 0 ∧ g_18 576 d = g_32 576 5 d := by
          unfold v_18 g_18
          rw [show (576 : Int) + 4 + 10 = 590 by decide, if_neg (by omega), if_neg (by omega)]
          exact ⟨rfl, rfl⟩
        rw [if_pos ev.1, ev.2] at st
        rw [if_pos c, if_neg b1.ne, ma10, rz] at rt
        rw [st, rt]
        exact ⟨LdFr.of c3 (f0.trans b2), Or.inr ⟨rfl, 5, d 577 2, c1, c2, b1⟩⟩
      · rw [if_neg c] at rt
        have pg := pg18 (d := d) (by omega) (by omega) hs.ct (v55k n1)
        obtain ⟨j1, j2⟩ := readPer v3 v4 (by rw [w0]; exact hk) (by rw [w0]; omega)
        have j1 : LdFr d (g_18 576 d) e (g_203 769 H) := (LdFr.of FrC.refl f0).trans j1
        rcases j2 with ⟨u1, u2, u3, u4, u5⟩ | ⟨u1, u2⟩
        · rw [if_neg (by omega)] at st
          have ct := hs.ct.1
          rw [if_pos u2.2.1, ma11, rs (m - 1) (by omega)] at rt
          have e8 : g_18 576 d 578 = d 578 := j1.1 578 (Or.inr (Or.inr (Or.inl rfl)))
          obtain ⟨k1, k2⟩ := ih (m - 1) (x + 1) (g_18 576 d) (g_203 769 H) u2 u3 (by rw [u4, w0]; omega) (by omega) (by omega) (by omega) (by rw [e8]; omega)
          rw [st, rt]
          exact ⟨j1.trans k1, k2⟩
        · rw [if_pos u1] at st
          rw [if_neg u2.ne, ma10, rz] at rt
          rw [st, rt]
          exact ⟨j1, Or.inr ⟨rfl, u2⟩⟩
    · rw [if_pos v1] at st
      rw [if_pos v2, if_pos v3.2.1, v2, ma01, rz] at rt
      rw [st, rt]
      exact ⟨LdFr.of FrC.refl f0, Or.inl ⟨rfl, v3, by rw [w0]; exact hk⟩⟩
theorem loadP {d e : mD} (hs : Syn d e) (hk : OKR 580 d (e 770)) (h8 : e 770 8 = 0) : LdFr d (g_17 576 d) e (g_204 769 0 e) ∧ ((v_17 576 d = 1 ∧ Syn (g_17 576 d) (g_204 769 0 e) ∧ OKR 580 (g_17 576 d) (g_204 769 0 e 770)) ∨ (v_17 576 d = 0 ∧ Fail (g_17 576 d) (g_204 769 0 e))) := by
  have ct := hs.ct.1
  have b1 := hs.2.2.1
  have b2 := hs.2.2.2.1.1
  have rt : g_204 769 0 e = lp_204_13 769 0 (1000 - e 769 10 + 1 : Int).toNat 1 e := by
    unfold g_204
    rw [if_pos hs.2.1]
  unfold v_17 g_17 f_17
  rw [rt]
  exact loopP _ _ 0 d e hs hk h8 (by decide) (by decide) (by omega) (by omega)
