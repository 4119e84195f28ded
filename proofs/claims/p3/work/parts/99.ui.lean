/-! ===== load: the class against the reference ===== -/
theorem loadAll {E : mO × tW} (hE : EOK E) (hT : TKE E) {d e : mD} {y : Int} (ht : TextR d e) (hS : Safe d) (hh : tSh E.2 d) : ∃ D', LdFr d D' e (g_206 769 e) ∧ ((v_303 0 y d = 0 ∧ g_206 769 e 769 13 = 0 ∧ OKR 580 D' (g_206 769 e 770) ∧ g_303 0 y d = mset (lp_120_95 0 2 1 0 (g_4 64 (g_59 1 580 (mset D' 578 1 0)))).2 y 0 (lp_120_95 0 2 1 0 (g_4 64 (g_59 1 580 (mset D' 578 1 0)))).1) ∨ (v_303 0 y d = 1 ∧ Fail D' (g_206 769 e) ∧ g_303 0 y d = mset D' 578 1 0)) := by
  obtain ⟨p1, p2, p3, p4⟩ := p_13 (E := E) (x0 := 576) hS rfl ⟨hT.2.1, trivial⟩ hh
  obtain ⟨q1, q2, q3, q4, q5⟩ := p_14 (E := E) (x0 := 576) hE hT.1 p4 rfl (by rw [p3]; decide) ⟨hT.2.1, trivial⟩ p1
  obtain ⟨r1, r2, r3, r4, r5⟩ := p_15 (E := E) (x0 := 576) hT.1 q5 rfl q4 ⟨hT.2.1, trivial⟩ q1
  obtain ⟨s1, s2, s3, s4, s5⟩ := p_17 (E := E) (x0 := 576) hT.1 r5 rfl r4 ⟨hT.2.1, trivial⟩ r1
  rw [e580] at s4
  have hl : LSt E (g_17 576 (g_15 576 (g_14 576 (g_13 576 d)))) := ⟨s5, s1, s4⟩
  clear p1 p2 p3 p4 q1 q2 q3 q4 q5 r1 r2 r3 r4 r5 s1 s2 s3 s4 s5
  have t2 := ht.2.1
  have ev : v_303 0 y d = if v_14 576 (g_13 576 d) = 0 then 1 else if v_15 576 (g_14 576 (g_13 576 d)) = 0 then 1 else if v_17 576 (g_15 576 (g_14 576 (g_13 576 d))) = 0 then 1 else if v_19 576 (g_17 576 (g_15 576 (g_14 576 (g_13 576 d)))) = 0 then 1 else 0 := by
    unfold v_303
    rw [show (0 : Int) + 576 = 576 by decide]
  have eg : g_303 0 y d = if v_14 576 (g_13 576 d) = 0 then mset (g_14 576 (g_13 576 d)) 578 1 0 else if v_15 576 (g_14 576 (g_13 576 d)) = 0 then mset (g_15 576 (g_14 576 (g_13 576 d))) 578 1 0 else if v_17 576 (g_15 576 (g_14 576 (g_13 576 d))) = 0 then mset (g_17 576 (g_15 576 (g_14 576 (g_13 576 d)))) 578 1 0 else if v_19 576 (g_17 576 (g_15 576 (g_14 576 (g_13 576 d)))) = 0 then mset (g_19 576 (g_17 576 (g_15 576 (g_14 576 (g_13 576 d))))) 578 1 0 else mset (lp_120_95 0 2 1 0 (g_4 64 (g_59 1 580 (mset (g_19 576 (g_17 576 (g_15 576 (g_14 576 (g_13 576 d))))) 578 1 0)))).2 y 0 (lp_120_95 0 2 1 0 (g_4 64 (g_59 1 580 (mset (g_19 576 (g_17 576 (g_15 576 (g_14 576 (g_13 576 d))))) 578 1 0)))).1 := by
    unfold g_303
    rw [show (0 : Int) + 576 = 576 by decide, show (0 : Int) + 578 = 578 by decide, show (0 : Int) + 64 = 64 by decide, show (0 : Int) + 1 = 1 by decide, show (0 : Int) + 580 = 580 by decide]
    rfl
  rw [ev, eg]
  rcases loadHead ht with ⟨v1, X, f1, r1, lo⟩ | ⟨v1, f1, x1⟩
  · have n1 : ¬ v_14 576 (g_13 576 d) = 0 := by omega
    rw [if_neg n1, if_neg n1, r1]
    unfold rBody
    generalize g_14 576 (g_13 576 d) = D1 at *
    obtain ⟨f2, o2⟩ := loadO lo
    have f2 := f1.trans f2
    rcases o2 with ⟨v2, sy2, k2, h8⟩ | ⟨v2, x2⟩
    · have n2 : ¬ v_15 576 D1 = 0 := by omega
      rw [if_neg n2, if_neg n2]
      generalize g_15 576 D1 = D2 at *
      generalize g_204 769 1 X = X2 at *
      obtain ⟨f3, o3⟩ := loadP sy2 k2 h8
      have f3 := f2.trans f3
      rcases o3 with ⟨v3, sy3, k3⟩ | ⟨v3, x3⟩
      · have n3 : ¬ v_17 576 D2 = 0 := by omega
        rw [if_neg n3, if_neg n3]
        generalize g_17 576 D2 = D3 at *
        generalize g_204 769 0 X2 = X3 at *
        obtain ⟨f4, o4⟩ := loadD hT sy3 k3 hl
        have f4 := f3.trans f4
        generalize v_19 576 D3 = c at *
        generalize g_19 576 D3 = D4 at *
        generalize g_205 769 X3 = X4 at *
        have e8 : ∀ D, LdFr d D e X4 → e 769 9 = D 578 1 := fun D h => by
          rw [h.1 578 (by decide)]
          exact t2
        rcases o4 with ⟨w1, w2, w3, w4⟩ | ⟨w1, w2⟩ | ⟨w1, D, w2, w3, w4⟩
        · obtain ⟨z1, z2, z3⟩ := f4.end w2 w3 (e8 D4 f4)
          have n4 : ¬ c = 0 := by omega
          rw [if_neg n4, if_neg n4]
          exact ⟨D4, z1, Or.inl ⟨rfl, z2, by rw [z3]; exact w4, rfl⟩⟩
        · rw [if_pos w1, if_pos w1, badEnd w2.ne]
          exact ⟨D4, f4, Or.inr ⟨rfl, w2, rfl⟩⟩
        · have e9 : e 769 9 = D 578 1 := by
            rw [t2, ← f4.1 578 (by decide), w4]
            unfold g_32
            rw [ms_a (by decide), ms_a (by decide)]
          obtain ⟨z1, z2⟩ := endFail w2 w3 e9
          rw [if_pos w1, if_pos w1]
          exact ⟨D4, f4.trans (LdFr.of FrC.refl z1), Or.inr ⟨rfl, by rw [w4]; exact z2, rfl⟩⟩
      · rw [if_pos v3, if_pos v3, bad205 x3.ne, badEnd x3.ne]
        exact ⟨_, f3, Or.inr ⟨rfl, x3, rfl⟩⟩
    · rw [if_pos v2, if_pos v2, bad204 x2.ne, bad205 x2.ne, badEnd x2.ne]
      exact ⟨_, f2, Or.inr ⟨rfl, x2, rfl⟩⟩
  · rw [if_pos v1, if_pos v1]
    exact ⟨_, f1, Or.inr ⟨rfl, x1, rfl⟩⟩
theorem f207 {d : mD} : ∃ e2, (∀ b, ¬ b = 769 → ¬ b = 774 → e2 b = d b) ∧ (∀ j, ¬ j = 11 → ¬ j = 12 → e2 769 j = d 769 j) ∧ (e2 769 11 = 0 ∧ e2 769 12 = -1) ∧ (∀ i, 0 ≤ i → i < 3116 → e2 774 i = d 770 i) ∧ (∀ i, 3116 ≤ i → e2 774 i = d 774 i) ∧ f_207 769 d = (if g_206 769 e2 769 13 = 0 then (g_206 769 e2 770 8, mset (mset (mset (mset (mset (g_206 769 e2) 769 9 0) 769 0 0) 769 7 0) 775 0 0) 775 1 0) else lp_207_71 769 (3116 - 0 : Int).toNat 0 (mset (mset (g_206 769 e2) 769 9 0) 769 0 1)) := by
  obtain ⟨e2, q1, q2, q3, q4⟩ := copyLoop (α := Int × mD) (L := lp_207_12 769) (F := fun d => if g_206 769 d 769 13 = 0 then (g_206 769 d 770 8, mset (mset (mset (mset (mset (g_206 769 d) 769 9 0) 769 0 0) 769 7 0) 775 0 0) 775 1 0) else lp_207_71 769 (3116 - 0 : Int).toNat 0 (mset (mset (g_206 769 d) 769 9 0) 769 0 1)) (I := fun _ => True) (A := 774) (B := 0) (C := 770) (D := 0) (N := 3116) (by decide) (fun _ _ _ _ => trivial) (fun n x d _ hx => by
    cases n with
    | zero =>
      show st_207_12 769 _ x d = _
      unfold st_207_12
      rw [if_neg (by omega)]
      rfl
    | succ n =>
      show st_207_12 769 _ x d = _
      unfold st_207_12
      rw [if_neg (by omega)]
      rfl) (fun n x d _ hx => by
    show st_207_12 769 _ x d = _
    unfold st_207_12
    rw [if_pos hx, Int.zero_add]
    rfl) (3116 - 0 : Int).toNat 0 (mset (mset d 769 11 0) 769 12 (-1)) trivial (by decide) (by decide)
  have e9 : e2 769 = mset (mset d 769 11 0) 769 12 (-1) 769 := q2 769 (by decide)
  refine ⟨e2, fun b x y => ?_, fun j x y => ?_, ⟨?_, ?_⟩, fun i x y => ?_, fun i x => ?_, q1⟩
  · rw [q2 b y]
    funext j
    rw [ms_a x, ms_a x]
  · rw [e9, ms_i y, ms_i x]
  · rw [e9, ms_i (by decide), ms_e rfl rfl]
  · rw [e9, ms_e rfl rfl]
  · have := q3 i x y
    rw [Int.zero_add] at this
    rw [this, ms_a (by decide), ms_a (by decide)]
  · rw [q4 i (by omega), ms_a (by decide), ms_a (by decide)]
theorem back207 {d : mD} : ∃ d', lp_207_71 769 (3116 - 0 : Int).toNat 0 d = (0, d') ∧ (∀ b, ¬ b = 770 → d' b = d b) ∧ ∀ i, 0 ≤ i → i < 3116 → d' 770 i = d 774 i := by
  obtain ⟨d', q1, q2, q3, q4⟩ := copyLoop (α := Int × mD) (L := lp_207_71 769) (F := fun d => (0, d)) (I := fun _ => True) (A := 770) (B := 0) (C := 774) (D := 0) (N := 3116) (by decide) (fun _ _ _ _ => trivial) (fun n x d _ hx => by
    cases n with
    | zero =>
      show st_207_71 769 _ x d = _
      unfold st_207_71
      rw [if_neg (by omega)]
    | succ n =>
      show st_207_71 769 _ x d = _
      unfold st_207_71
      rw [if_neg (by omega)]) (fun n x d _ hx => by
    show st_207_71 769 _ x d = _
    unfold st_207_71
    rw [if_pos hx, Int.zero_add]
    rfl) (3116 - 0 : Int).toNat 0 d trivial (by decide) (by decide)
  refine ⟨d', q1, q2, fun i x y => ?_⟩
  have := q3 i x y
  rw [Int.zero_add] at this
  exact this
-- what class and reference have in common between two calls
def CI (d : mD) : Prop := OKR 1 d (d 770) ∧ HistRel d ∧ SaveRel d ∧ TextR d d
theorem lp120 {u : mD} : (lp_120_95 0 2 1 0 u).1 = u 11 0 ∧ (∀ b, ¬ b = 571 → ¬ b = 572 → (lp_120_95 0 2 1 0 u).2 b = u b) ∧ (lp_120_95 0 2 1 0 u).2 571 0 = 0 ∧ (lp_120_95 0 2 1 0 u).2 571 1 = 0 := by
  have e : lp_120_95 0 2 1 0 u = (mset (mset u 571 0 0) 571 1 0 11 0, mset (mset (mset u 571 0 0) 571 1 0) 572 1 0) := by
    show st_120_95 0 _ 1 0 u = _
    unfold st_120_95
    rw [if_pos (by decide)]
    show st_120_95 0 _ 1 1 (mset u 571 0 0) = _
    unfold st_120_95
    rw [if_pos (by decide)]
    show st_120_95 0 _ 1 2 (mset (mset u 571 0 0) 571 1 0) = _
    unfold st_120_95
    rw [if_neg (by decide)]
    rfl
  rw [e]
  dsimp only
  refine ⟨?_, fun b x y => ?_, ?_, ?_⟩
  · rw [ms_a (by decide), ms_a (by decide)]
  · funext j
    rw [ms_a y, ms_a x, ms_a x]
  · rw [ms_a (by decide), ms_i (by decide), ms_e rfl rfl]
  · rw [ms_a (by decide), ms_e rfl rfl]
theorem load303 {E : mO × tW} (hE : EOK E) (hT : TKE E) {d : mD} (hi : CI d) (hS : Safe d) (hh : tSh E.2 d) (hf : ∀ b, 642 < b → ¬ b = 778 → g_303 0 778 d b = d b) (h64 : 0 ≤ d 64 1 ∧ d 64 1 < 8) : ((v_303 0 778 d = 0 ∧ v_207 769 (g_303 0 778 d) = g_303 0 778 d 778 0 ∧ g_207 769 (g_303 0 778 d) 769 0 = 0 ∧ 0 ≤ v_207 769 (g_303 0 778 d) ∧ v_207 769 (g_303 0 778 d) ≤ 16) ∨ (v_303 0 778 d = 1 ∧ g_207 769 (g_303 0 778 d) 769 0 = 1)) ∧ CI (g_207 769 (g_303 0 778 d)) ∧ ∀ b, b < 769 → g_207 769 (g_303 0 778 d) b = g_303 0 778 d b := by
  obtain ⟨i1, i2, i3, i4⟩ := hi
  obtain ⟨e2, a1, a2, a3, a4, -, a5⟩ := f207 (d := g_303 0 778 d)
  have ht : TextR d e2 := i4.fr rfl rfl (by rw [a2 9 (by decide) (by decide), hf 769 (by decide) (by decide)]) (by rw [a1 776 (by decide) (by decide), hf 776 (by decide) (by decide)])
  obtain ⟨D', l1, l2⟩ := loadAll hE hT (y := 778) ht hS hh
  unfold v_207 g_207
  rw [a5]
  generalize g_206 769 e2 = R at *
  have R7 : ∀ k, 769 < k → ¬ k = 770 → ¬ k = 774 → ¬ k = 778 → R k = d k := fun k x y z u => by rw [l1.2.1 k (by omega) y, a1 k (by omega) z, hf k (by omega) u]
  have RC : ∀ k, k < 769 → R k = g_303 0 778 d k := fun k x => by rw [l1.2.1 k (by omega) (by omega), a1 k (by omega) (by omega)]
  have R9 : ∀ j, j < 10 ∨ 16 < j → R 769 j = d 769 j := fun j hj => by rw [l1.2.2 j hj, a2 j (by omega) (by omega), hf 769 (by decide) (by decide)]
  have G9 : ∀ k, 769 ≤ k → ¬ k = 778 → g_303 0 778 d k = d k := fun k x y => hf k (by omega) y
  rcases l2 with ⟨v1, v2, v3, v4⟩ | ⟨v1, v2, v3⟩
  · rw [if_pos v2]
    dsimp only
    have M1 : OKR 580 (mset D' 578 1 0) (R 770) := v3.fr (fun b x y => by funext j; exact ms_a (by omega))
    have cp := M1.copy (a := 1) (s := 580) (by decide)
    generalize hU : g_4 64 (g_59 1 580 (mset D' 578 1 0)) = U at *
    have U4 : ∀ b, ¬ b = 64 → U b = g_59 1 580 (mset D' 578 1 0) b := fun b hb => by
      rw [← hU]
      unfold g_4
      funext j
      exact ms_a hb
    have okU : OKR 1 U (R 770) := cp.1.fr (fun b x y => U4 b (by omega))
    have Uf : ∀ b, (b < 1 ∨ 63 < b) → ¬ b = 64 → U b = mset D' 578 1 0 b := fun b x y => by rw [U4 b y, cp.2 b (by omega)]
    obtain ⟨c1, c2, c3, c4⟩ := lp120 (u := U)
    have u11 : U 11 0 = R 770 8 := okU.2.2.2.2.2.2.2.1.1
    generalize hP : lp_120_95 0 2 1 0 U = P at *
    have D1 : ∀ b, ¬ b = 778 → ¬ b = 571 → ¬ b = 572 → g_303 0 778 d b = U b := fun b x y z => by
      rw [v4, ← c2 b y z]
      funext j
      exact ms_a x
    have D571 : ∀ j, g_303 0 778 d 571 j = P.2 571 j := fun j => by
      rw [v4]
      exact ms_a (by decide)
    have fin : ∀ b, b < 769 → (mset (mset (mset (mset (mset R 769 9 0) 769 0 0) 769 7 0) 775 0 0) 775 1 0) b = g_303 0 778 d b := fun b hb => by
      rw [← RC b hb]
      funext j
      rw [ms_a (by omega), ms_a (by omega), ms_a (by omega), ms_a (by omega), ms_a (by omega)]
    generalize hZ : mset (mset (mset (mset (mset R 769 9 0) 769 0 0) 769 7 0) 775 0 0) 775 1 0 = Z at *
    have Z9 : ∀ j, Z 769 j = if j = 7 then 0 else if j = 0 then 0 else if j = 9 then 0 else R 769 j := fun j => by
      rw [← hZ, ms_a (by decide), ms_a (by decide)]
      by_cases h7 : j = 7
      · rw [if_pos h7, ms_e rfl h7]
      · rw [if_neg h7, ms_i h7]
        by_cases h0 : j = 0
        · rw [if_pos h0, ms_e rfl h0]
        · rw [if_neg h0, ms_i h0]
          by_cases h9 : j = 9
          · rw [if_pos h9, ms_e rfl h9]
          · rw [if_neg h9, ms_i h9]
    have Z70 : Z 770 = R 770 := by
      rw [← hZ]
      funext j
      rw [ms_a (by decide), ms_a (by decide), ms_a (by decide), ms_a (by decide), ms_a (by decide)]
    have Z75 : Z 775 0 = 0 ∧ Z 775 1 = 0 := by
      rw [← hZ]
      exact ⟨by rw [ms_i (by decide), ms_e rfl rfl], ms_e rfl rfl⟩
    refine ⟨Or.inl ⟨v1, ?_, ?_, v3.1.1.2.1⟩, ⟨?_, ?_, ?_, ?_⟩, fin⟩
    · show R 770 8 = _
      rw [v4, ms_e rfl rfl, c1, u11]
    · show Z 769 0 = 0
      rw [Z9]
      rfl
    · show OKR 1 Z (Z 770)
      rw [Z70]
      exact okU.fr (fun b x y => by rw [fin b (by omega), D1 b (by omega) (by omega) (by omega)])
    · have z64 : ∀ j, Z 64 j = U 64 j := fun j => by rw [fin 64 (by decide), D1 64 (by decide) (by decide) (by decide)]
      have u1 : U 64 1 = d 64 1 := by
        rw [← hU]
        unfold g_4
        rw [ms_i (by decide), cp.2 64 (by decide), ms_a (by decide), l1.1 64 (by decide)]
      have u2 : U 64 2 = 0 := by
        rw [← hU]
        unfold g_4
        exact ms_e rfl rfl
      exact noneH (by rw [z64, u1]; exact h64) (by rw [z64, u2]) (by rw [Z9]; rfl)
    · intro j hj
      have e1 : Z 571 j = 0 := by
        rw [fin 571 (by decide), D571]
        rcases hj with hj | hj
        · rw [hj]; exact c3
        · rw [hj]; exact c4
      have e2 : Z 775 j = 0 := by
        rcases hj with hj | hj
        · rw [hj]; exact Z75.1
        · rw [hj]; exact Z75.2
      exact ⟨by rw [e1, e2], fun h => absurd e2 h⟩
    · have z1 : Z 578 1 = 0 := by
        rw [fin 578 (by decide), D1 578 (by decide) (by decide) (by decide), Uf 578 (by decide) (by decide)]
        exact ms_e rfl rfl
      exact ⟨by omega, by rw [Z9, z1]; rfl, fun i x y => by omega⟩
  · rw [if_neg v2.ne]
    obtain ⟨Z, b1, b2, b3⟩ := back207 (d := mset (mset R 769 9 0) 769 0 1)
    rw [b1]
    dsimp only
    have ZF : ∀ b, ¬ b = 769 → ¬ b = 770 → Z b = R b := fun b x y => by
      rw [b2 b y]
      funext j
      rw [ms_a x, ms_a x]
    have Z9 : ∀ j, ¬ j = 0 → ¬ j = 9 → Z 769 j = R 769 j := fun j x y => by rw [b2 769 (by decide), ms_i x, ms_i y]
    have G : ∀ b, b < 769 → (b < 576 ∨ 642 < b ∨ b = 579) → g_303 0 778 d b = d b := fun b x y => by
      rw [v3, ← l1.1 b (by omega)]
      funext j
      exact ms_a (by omega)
    have G8 : g_303 0 778 d 578 1 = 0 := by
      rw [v3]
      exact ms_e rfl rfl
    have ZC : ∀ b, b < 769 → Z b = g_303 0 778 d b := fun b x => by rw [ZF b (by omega) (by omega), RC b x]
    refine ⟨Or.inr ⟨v1, ?_⟩, ⟨?_, ?_, ?_, ?_⟩, ZC⟩
    · show Z 769 0 = 1
      rw [b2 769 (by decide), ms_e rfl rfl]
    · show OKR 1 Z (Z 770)
      have rw' : REq (d 770) (Z 770) := fun i x y => by
        rw [b3 i x y, ms_a (by decide), ms_a (by decide), l1.2.1 774 (by decide) (by decide), a4 i x y, G9 770 (by decide) (by decide)]
      exact (i1.row rw').fr (fun b x y => by rw [ZC b (by omega), G b (by omega) (by omega)])
    · exact i2.fr (fun b x y => by rw [ZC b (by omega), G b (by omega) (by omega)]) (by rw [Z9 7 (by decide) (by decide), R9 7 (by decide)]) (fun j x y => by rw [ZF 771 (by decide) (by decide), R7 771 (by decide) (by decide) (by decide) (by decide)])
    · exact i3.fr (fun b hb => by
        rcases hb with hb | hb | hb | hb
        · rw [ZC b (by omega), G b (by omega) (by omega)]
        · rw [ZC b (by omega), G b (by omega) (by omega)]
        · rw [ZF b (by omega) (by omega), R7 b (by omega) (by omega) (by omega) (by omega)]
        · rw [ZF b (by omega) (by omega), R7 b (by omega) (by omega) (by omega) (by omega)])
    · have z1 : Z 578 1 = 0 := by rw [ZC 578 (by decide), G8]
      have z9 : Z 769 9 = 0 := by rw [b2 769 (by decide), ms_i (by decide), ms_e rfl rfl]
      exact ⟨by omega, by rw [z9, z1], fun i x y => by omega⟩
