/-! ===== merge: the relation behind it ===== -/
theorem merge {s o1 o2 : Int} {d : mD} {w : Row} (hg : GG w) (h : Rel s d w) (h1 : 0 ≤ o1 ∧ o1 < w 7) (h2 : 0 ≤ o2 ∧ o2 < w 7) (hne : ¬ o1 = o2) (hp2 : w (12 + 68 * o2 + 4) = 1) : GG (W_229 o1 o2 w) ∧ Rel s (g_63 s o1 o2 d) (W_229 o1 o2 w) ∧ ∀ i, ¬ (12 ≤ i ∧ i < 420) → ¬ (452 ≤ i ∧ i < 1892 ∧ ((i - 452) % 24 = 1 ∨ (i - 452) % 24 = 3 ∨ (i - 452) % 24 = 4)) → W_229 o1 o2 w i = w i := by
  obtain ⟨κ, hκ⟩ := exKap hg h1 h2 hne
  obtain ⟨m, w1, w2, w3, w4, w5, w6, w7, w8, w9⟩ := mergeW hg h1 h2 hne hκ
  obtain ⟨mc, d1, ⟨c1, c2, c3, c4, c5, c6, c7, c8, c9⟩, hd⟩ := mergeD hg h h1 h2 hne hκ
  rw [hd]
  have hu : ∀ i, 0 ≤ i → i < w (12 + 68 * o2 + 5) + w (12 + 68 * o1 + 5) → _ := fun i a b => mgU_f hg h1 h2 a b (i := i)
  have hlo : ∀ k, 0 ≤ k → k < w (12 + 68 * o2 + 5) → mgU o1 o2 w k = w (12 + 68 * o2 + 7 + k) := fun k a b => mgU_lo b
  have hhi : ∀ k, 0 ≤ k → k < w (12 + 68 * o1 + 5) → mgU o1 o2 w (w (12 + 68 * o2 + 5) + k) = w (12 + 68 * o1 + 7 + k) := fun k a b => mgU_hi a
  have hκj : ∀ i n, 0 ≤ i → i < w (12 + 68 * o2 + 5) + w (12 + 68 * o1 + 5) → 0 ≤ n → n < w (12 + 68 * o2 + 5) + w (12 + 68 * o1 + 5) → κ (mgU o1 o2 w i) < κ (mgU o1 o2 w n) → w (452 + 24 * mgU o1 o2 w i + 2) ≤ w (452 + 24 * mgU o1 o2 w n + 2) := fun i n i0 i1 n0 n1 z => by
    by_cases q : i < n
    · exact (hκ n i i0 q n1).2.1 z
    · by_cases q2 : n < i
      · have y := hκ i n n0 q2 i1
        by_cases q3 : w (452 + 24 * mgU o1 o2 w n + 2) ≤ w (452 + 24 * mgU o1 o2 w i + 2)
        · have := y.2.2 q3
          omega
        · omega
      · have e : i = n := by omega
        rw [e]
        omega
  generalize W_229 o1 o2 w = w' at *
  generalize hUU : mgU o1 o2 w = U at *
  generalize hN0 : w (12 + 68 * o2 + 5) + w (12 + 68 * o1 + 5) = N at *
  obtain ⟨hN, hO, hQ, hT, hC, hK, hR⟩ := id hg
  obtain ⟨n7, n8, n9, n10, n11, n0, n1, n2, n3, n4, n5, n6⟩ := id hN
  obtain ⟨rA, ⟨ro1, ro2⟩, rQ, rP, ⟨rt1, rt2⟩, rC, rK, rR, rB, rH⟩ := id h
  have a1 := (hO o1 h1.1 h1.2).2.2.2.2.1
  have a2 := (hO o2 h2.1 h2.2).2.2.2.2.1
  have uf : ∀ t, inU U N t → (0 ≤ t ∧ t < w 9) ∧ w (452 + 24 * t + 4) = 0 ∧ (w (452 + 24 * t + 1) = o1 ∨ w (452 + 24 * t + 1) = o2) := by
    rintro t ⟨i, i0, i1, i2⟩
    have y := hu i i0 i1
    rw [i2] at y
    exact ⟨y.1, y.2.1, y.2.2.elim (fun z => Or.inr z.2) (fun z => Or.inl z.2)⟩
  have uj : ∀ x y, inU U N x → inU U N y → κ x < κ y → w (452 + 24 * x + 2) ≤ w (452 + 24 * y + 2) := by
    rintro x y ⟨i, i0, i1, i2⟩ ⟨k, k0, k1, k2⟩ z
    rw [← i2, ← k2] at z ⊢
    exact hκj i k i0 i1 k0 k1 z
  have qb : ∀ k, 0 ≤ k → k < m → bestS κ (fun t => w (452 + 24 * t + 0)) U N (w' (12 + 68 * o2 + 7 + k)) := fun k a b => (w7 _).1 ⟨k, a, b, rfl⟩
  have qp : ∀ k i, 0 ≤ i → i < k → k < m → ¬ w (452 + 24 * w' (12 + 68 * o2 + 7 + i) + 0) = w (452 + 24 * w' (12 + 68 * o2 + 7 + k) + 0) := fun k i a b c => bestS.one (p := fun t => w (452 + 24 * t + 0)) (q := fun k => w' (12 + 68 * o2 + 7 + k)) w6 w7 a b c
  have m16 : m ≤ 16 := pig16 (f := fun k => w (452 + 24 * w' (12 + 68 * o2 + 7 + k) + 0)) (fun k a b => by
    have y := (uf _ (qb k a b).1).1
    have z := (hT _ y.1 y.2).1
    exact ⟨z.1, by omega⟩) qp
  have ext := incS.ext (f := fun k => d1 (s + 9) (o2 * 16 + k)) (g := fun k => w' (12 + 68 * o2 + 7 + k)) c6 w6 (fun t => (c7 t).trans (w7 t).symm) c5 w5
  have e : ∀ i, ¬ (12 ≤ i ∧ i < 420) → ¬ (452 ≤ i ∧ i < 1892 ∧ ((i - 452) % 24 = 1 ∨ (i - 452) % 24 = 3 ∨ (i - 452) % 24 = 4)) → w' i = w i := fun i x y => w1 i (by omega) (by omega) (by omega) (by omega) y
  have eo : ∀ o k, 0 ≤ o → o < w 7 → ¬ o = o1 → ¬ o = o2 → 0 ≤ k → k < 68 → w' (12 + 68 * o + k) = w (12 + 68 * o + k) := fun o k x y z u a b => w1 _ (by omega) (by omega) (by omega) (by omega) (by omega)
  have e7 : w' 7 = w 7 := e 7 (by omega) (by omega)
  have e9 : w' 9 = w 9 := e 9 (by omega) (by omega)
  have e0 : w' 0 = w 0 := e 0 (by omega) (by omega)
  have et : ∀ t k, 0 ≤ t → t < w 9 → (k = 0 ∨ k = 2 ∨ k = 5 ∨ k = 6 ∨ k = 7) → w' (452 + 24 * t + k) = w (452 + 24 * t + k) := fun t k a b c => e _ (by omega) (by omega)
  have no : ∀ t, 0 ≤ t → t < w 9 → ¬ inU U N t → w' (452 + 24 * t + 1) = w (452 + 24 * t + 1) ∧ w' (452 + 24 * t + 3) = w (452 + 24 * t + 3) ∧ w' (452 + 24 * t + 4) = w (452 + 24 * t + 4) := fun t a b c => by
    have y := (w9 t a (by omega)).2 (fun z => c z.1)
    exact ⟨(w8 t a (by omega)).2 c, y.1, y.2⟩
  have wait : ∀ t, 0 ≤ t → t < w 9 → w (452 + 24 * t + 4) = 0 → (w (452 + 24 * t + 1) = o1 ∨ w (452 + 24 * t + 1) = o2) → inU U N t := fun t a b c f => by
    obtain ⟨-, k, k0, k1, k2⟩ := (hT t a b).2.2.2.2.1 c
    rcases f with f | f
    · rw [f] at k1 k2
      exact ⟨w (12 + 68 * o2 + 5) + k, by omega, by omega, by rw [hhi k k0 k1]; exact k2⟩
    · rw [f] at k1 k2
      exact ⟨k, k0, by omega, by rw [hlo k k0 k1]; exact k2⟩
  have cl : ∀ o k, 0 ≤ o → o < w 7 → k = 0 ∨ k = 1 ∨ k = 2 ∨ k = 3 ∨ k = 6 → w' (12 + 68 * o + k) = w (12 + 68 * o + k) := fun o k a b c => w1 _ (by omega) (by omega) (by omega) (by omega) (by omega)
  have op : ∀ o, 0 ≤ o → o < w 7 → ¬ o = o1 → w' (12 + 68 * o + 4) = w (12 + 68 * o + 4) := fun o a b c => w1 _ (by omega) (by omega) (by omega) (by omega) (by omega)
  have fd : ∀ b, ¬ b = s + 7 → ¬ b = s + 8 → ¬ b = s + 9 → ¬ b = s + 51 → ¬ b = s + 53 → ¬ b = s + 54 → mset (mset d1 (s + 8) o1 0) (s + 7) o1 0 b = d b := fun b x1 x2 x3 x4 x5 x6 => by
    rw [← c1 b x2 x3 x4 x5 x6]
    funext k
    simp (disch := omega) only [ms_a]
  have fk : ∀ b, ¬ b = s + 7 → ¬ b = s + 8 → mset (mset d1 (s + 8) o1 0) (s + 7) o1 0 b = d1 b := fun b x1 x2 => by
    funext k
    simp (disch := omega) only [ms_a]
  have hN' : GN w' := hN.k (fun i hi => e i (by omega) (by omega))
  refine ⟨⟨hN', fun o x y => ?_, fun o x y k u v => ?_, fun t x y => ?_, fun t x y => ?_, hK.k (fun i hi => e i (by omega) (by omega)) hN, hR.k (fun i hi => e i (by omega) (by omega)) hN⟩, ⟨rA.k (fun b x => fd b (by omega) (by omega) (by omega) (by omega) (by omega) (by omega)) (fun i hi => e i (by omega) (by omega)), ⟨?_, fun o x y => ?_⟩, fun o x y k u v => ?_, rP.k (fun b x y => fd b (by omega) (by omega) (by omega) (by omega) (by omega) (by omega)) (fun i hi => e i (by omega) (by omega)) n8, ⟨?_, fun t x y => ?_⟩, rC.k (fun b x => fd b (by omega) (by omega) (by omega) (by omega) (by omega) (by omega)) (fun i hi => e i (by omega) (by omega)) n9, rK.k (by rw [fd _ (by omega) (by omega) (by omega) (by omega) (by omega) (by omega)]) (fun b x y => fd b (by omega) (by omega) (by omega) (by omega) (by omega) (by omega)) (fun i hi => e i (by omega) (by omega)) n10, rR.k (by rw [fd _ (by omega) (by omega) (by omega) (by omega) (by omega) (by omega)]) (fd _ (by omega) (by omega) (by omega) (by omega) (by omega) (by omega)) (fun i hi => e i (by omega) (by omega)) n11, rB.k (fun b x y => fd b (by omega) (by omega) (by omega) (by omega) (by omega) (by omega)) (fun i hi => e i (by omega) (by omega)) n8 n9 n10 hK.of, rH.k (fun b x y => fd b (by omega) (by omega) (by omega) (by omega) (by omega) (by omega)) (fun i hi => e i (by omega) (by omega)) n8 n9 n10 hK.of⟩, e⟩
  · rw [e7] at y
    have g := hO o x y
    have cs : csum (fun t => if w' (452 + 24 * t + 4) = 1 ∧ w' (452 + 24 * t + 1) = o then (1 : Int) else 0) (w' 9).toNat = csum (fun t => if w (452 + 24 * t + 4) = 1 ∧ w (452 + 24 * t + 1) = o then 1 else 0) (w 9).toNat := by
      rw [e9]
      refine csum_congr (fun t a b => ?_)
      have tb : t < w 9 := by omega
      by_cases q : inU U N t
      · have z := (uf t q).2.1
        have z4 : ¬ w' (452 + 24 * t + 4) = 1 := by
          by_cases q2 : bestS κ (fun t => w (452 + 24 * t + 0)) U N t
          · have := ((w9 t a (by omega)).2 (fun z => z.2 q2)).2
            omega
          · have := ((w9 t a (by omega)).1 ⟨q, q2⟩).2
            omega
        have z5 : ¬ (w' (452 + 24 * t + 4) = 1 ∧ w' (452 + 24 * t + 1) = o) := fun u => z4 u.1
        have z6 : ¬ (w (452 + 24 * t + 4) = 1 ∧ w (452 + 24 * t + 1) = o) := fun u => by omega
        simp only [if_neg z5, if_neg z6]
      · have z := no t a tb q
        rw [z.1, z.2.2]
    rw [cs, cl o 1 x y (by omega), cl o 2 x y (by omega), cl o 3 x y (by omega), cl o 6 x y (by omega)]
    by_cases q : o = o1
    · rw [q] at g ⊢
      rw [w2, w3]
      exact ⟨g.1, g.2.1, g.2.2.1, Or.inl rfl, by omega, fun _ => rfl, g.2.2.2.2.2.2⟩
    · rw [op o x y q]
      by_cases q2 : o = o2
      · rw [q2] at g ⊢
        rw [w4]
        exact ⟨g.1, g.2.1, g.2.2.1, g.2.2.2.1, by omega, fun z => by omega, g.2.2.2.2.2.2⟩
      · rw [eo o 5 x y q q2 (by omega) (by omega)]
        exact g
  · rw [e7] at y
    rw [e9]
    by_cases q : o = o1
    · rw [q, w3] at v
      omega
    · by_cases q2 : o = o2
      · rw [q2] at v ⊢
        rw [w4] at v
        have b := qb k u v
        have f := uf _ b.1
        refine ⟨f.1, (w8 _ f.1.1 (by omega)).1 b.1, ?_, fun i i0 i1 => ?_⟩
        · rw [((w9 _ f.1.1 (by omega)).2 (fun z => z.2 b)).2]
          exact f.2.1
        · have bi := qb i i0 (by omega)
          have fi := uf _ bi.1
          rw [et _ 2 fi.1.1 fi.1.2 (by omega), et _ 2 f.1.1 f.1.2 (by omega), et _ 0 fi.1.1 fi.1.2 (by omega), et _ 0 f.1.1 f.1.2 (by omega)]
          exact ⟨uj _ _ bi.1 b.1 (w6 i k i0 i1 v), qp k i i0 i1 v⟩
      · rw [eo o 5 x y q q2 (by omega) (by omega)] at v
        have lo := (hO o x y).2.2.2.2.1
        have g := hQ o x y k u v
        have eq : ∀ i, 0 ≤ i → i < w (12 + 68 * o + 5) → w' (12 + 68 * o + 7 + i) = w (12 + 68 * o + 7 + i) := fun i a b => by
          have := eo o (7 + i) x y q q2 (by omega) (by omega)
          rw [show 12 + 68 * o + 7 + i = 12 + 68 * o + (7 + i) by omega]
          exact this
        have nu : ∀ i, 0 ≤ i → i < w (12 + 68 * o + 5) → ¬ inU U N (w (12 + 68 * o + 7 + i)) := fun i a b z => by
          have f := (uf _ z).2.2
          have gi := (hQ o x y i a b).2.1
          omega
        have z := no _ g.1.1 g.1.2 (nu k u v)
        rw [eq k u v, z.1, z.2.2, et _ 2 g.1.1 g.1.2 (by omega), et _ 0 g.1.1 g.1.2 (by omega)]
        refine ⟨g.1, g.2.1, g.2.2.1, fun i i0 i1 => ?_⟩
        have gi := hQ o x y i i0 (by omega)
        rw [eq i i0 (by omega), et _ 2 gi.1.1 gi.1.2 (by omega), et _ 0 gi.1.1 gi.1.2 (by omega)]
        exact g.2.2.2 i i0 i1
  · rw [e9] at y
    have g := hT t x y
    rw [et t 0 x y (by omega), et t 2 x y (by omega), e0, e7, e 8 (by omega) (by omega)]
    by_cases q : inU U N t
    · have f := uf t q
      rw [(w8 t x (by omega)).1 q]
      by_cases q2 : bestS κ (fun t => w (452 + 24 * t + 0)) U N t
      · have z := (w9 t x (by omega)).2 (fun z => z.2 q2)
        rw [z.1, z.2]
        obtain ⟨k, k0, k1, k2⟩ := (w7 t).2 q2
        refine ⟨g.1, h2, g.2.2.1, g.2.2.2.1, fun u => ⟨(g.2.2.2.2.1 u).1, k, k0, by rw [w4]; exact k1, k2⟩, g.2.2.2.2.2⟩
      · have z := (w9 t x (by omega)).1 ⟨q, q2⟩
        rw [z.1, z.2]
        exact ⟨g.1, h2, g.2.2.1, by omega, fun u => by omega, fun _ => by omega⟩
    · have z := no t x y q
      rw [z.1, z.2.1, z.2.2]
      refine ⟨g.1, g.2.1, g.2.2.1, g.2.2.2.1, fun u => ?_, g.2.2.2.2.2⟩
      obtain ⟨g1, k, k0, k1, k2⟩ := g.2.2.2.2.1 u
      have ne1 : ¬ w (452 + 24 * t + 1) = o1 := fun z => q (wait t x y u (Or.inl z))
      have ne2 : ¬ w (452 + 24 * t + 1) = o2 := fun z => q (wait t x y u (Or.inr z))
      have lo := (hO _ g.2.1.1 g.2.1.2).2.2.2.2.1
      refine ⟨g1, k, k0, ?_, ?_⟩
      · rw [eo _ 5 g.2.1.1 g.2.1.2 ne1 ne2 (by omega) (by omega)]
        exact k1
      · rw [show 12 + 68 * w (452 + 24 * t + 1) + 7 + k = 12 + 68 * w (452 + 24 * t + 1) + (7 + k) by omega, eo _ (7 + k) g.2.1.1 g.2.1.2 ne1 ne2 (by omega) (by omega)]
        rw [show 12 + 68 * w (452 + 24 * t + 1) + 7 + k = 12 + 68 * w (452 + 24 * t + 1) + (7 + k) by omega] at k2
        exact k2
  · rw [e9] at y
    have g := hC t x y
    rw [et t 5 x y (by omega), et t 6 x y (by omega), e0]
    have wi : ∀ p, 0 ≤ p → p < 16 → 0 ≤ w' (452 + 24 * t + 8 + p) ∧ w' (452 + 24 * t + 8 + p) ≤ w 0 + 1 := fun p a b => by
      rw [e (452 + 24 * t + 8 + p) (by omega) (by omega)]
      exact g.2.2.2.2 p a b
    by_cases q : inU U N t
    · have f := (uf t q).2.1
      have g5 : ¬ w (452 + 24 * t + 5) = 1 := fun z => by
        have := g.2.2.2.1 z
        omega
      exact ⟨g.1, g.2.1, fun z => absurd (g.2.2.1 z).1 g5, fun z => absurd z g5, wi⟩
    · have z := no t x y q
      rw [z.2.1, z.2.2]
      exact ⟨g.1, g.2.1, g.2.2.1, g.2.2.2.1, wi⟩
  · rw [fd _ (by omega) (by omega) (by omega) (by omega) (by omega) (by omega), e7]
    exact ro1
  · rw [e7] at y
    have g := ro2 o x y
    rw [fd (s + 3) (by omega) (by omega) (by omega) (by omega) (by omega) (by omega), fd (s + 4) (by omega) (by omega) (by omega) (by omega) (by omega) (by omega), fd (s + 5) (by omega) (by omega) (by omega) (by omega) (by omega) (by omega), fd (s + 6) (by omega) (by omega) (by omega) (by omega) (by omega) (by omega), cl o 0 x y (by omega), cl o 1 x y (by omega), cl o 2 x y (by omega), cl o 3 x y (by omega)]
    refine ⟨g.1, g.2.1, g.2.2.1, g.2.2.2.1, ?_, ?_⟩
    · by_cases q : o = o1
      · rw [q, w2, ms_e rfl rfl]
      · rw [ms_i q, ms_a (by omega), op o x y q, c1 _ (by omega) (by omega) (by omega) (by omega) (by omega)]
        exact g.2.2.2.2.1
    · rw [ms_a (by omega)]
      by_cases q : o = o1
      · rw [q, w3, ms_e rfl rfl]
      · rw [ms_i q]
        by_cases q2 : o = o2
        · rw [q2, c3, w4]
          exact ext.1
        · rw [c2 o q2, eo o 5 x y q q2 (by omega) (by omega)]
          exact g.2.2.2.2.2
  · rw [e7] at y
    rw [fk _ (by omega) (by omega)]
    by_cases q : o = o1
    · rw [q, w3] at v
      omega
    · by_cases q2 : o = o2
      · rw [q2] at v ⊢
        rw [w4] at v
        exact ext.2 k u (by omega)
      · rw [eo o 5 x y q q2 (by omega) (by omega)] at v
        have lo := (hO o x y).2.2.2.2.1
        rw [c4 _ (by omega), show 12 + 68 * o + 7 + k = 12 + 68 * o + (7 + k) by omega, eo o (7 + k) x y q q2 (by omega) (by omega), rQ o x y k u v, show 12 + 68 * o + 7 + k = 12 + 68 * o + (7 + k) by omega]
  · rw [fd _ (by omega) (by omega) (by omega) (by omega) (by omega) (by omega), e9]
    exact rt1
  · rw [e9] at y
    have g := rt2 t x y
    rw [fd (s + 50) (by omega) (by omega) (by omega) (by omega) (by omega) (by omega), fd (s + 52) (by omega) (by omega) (by omega) (by omega) (by omega) (by omega), fk (s + 51) (by omega) (by omega), fk (s + 53) (by omega) (by omega), fk (s + 54) (by omega) (by omega), et t 0 x y (by omega), et t 2 x y (by omega)]
    refine ⟨g.1, ?_, g.2.2.1, ?_⟩
    · by_cases q : inU U N t
      · rw [(c8 t).1 q, (w8 t x (by omega)).1 q]
      · rw [(c8 t).2 q, (w8 t x (by omega)).2 q]
        exact g.2.1
    · by_cases q : inU U N t ∧ ¬ bestS κ (fun t => w (452 + 24 * t + 0)) U N t
      · have y1 := (c9 t).1 q
        have y2 := (w9 t x (by omega)).1 q
        rw [y1.1, y1.2, y2.1, y2.2]
        exact ⟨rfl, rfl⟩
      · have y1 := (c9 t).2 q
        have y2 := (w9 t x (by omega)).2 q
        rw [y1.1, y1.2, y2.1, y2.2]
        exact g.2.2.2
