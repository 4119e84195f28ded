/-! ===== merge: the relation behind it ===== -/
theorem merge {s o1 o2 : Int} {d : mD} {w : Row} (hg : GG w) (h : Rel s d w) (h1 : 0 ≤ o1 ∧ o1 < w 7) (h2 : 0 ≤ o2 ∧ o2 < w 7) (hne : ¬ o1 = o2) (hp2 : w (12 + 68 * o2 + 4) = 1) : GG (W_229 o1 o2 w) ∧ Rel s (g_63 s o1 o2 d) (W_229 o1 o2 w) ∧ ∀ i, ¬ (12 ≤ i ∧ i < 420) → ¬ (452 ≤ i ∧ i < 1892 ∧ ((i - 452) % 24 = 1 ∨ (i - 452) % 24 = 3 ∨ (i - 452) % 24 = 4)) → W_229 o1 o2 w i = w i := by
  obtain ⟨κ, hκ⟩ := exKap hg h1 h2 hne
  obtain ⟨m, w1, w2, w3, w4, w5, w6, w7, w8, w9⟩ := mergeW hg h1 h2 hne hκ
  obtain ⟨mc, d1, ⟨c1, c2, c3, c4, c5, c6, c7, c8, c9⟩, hd⟩ := mergeD hg h h1 h2 hne hκ
  rw [hd]
  have hu : ∀ i, 0 ≤ i → i < w (12 + 68 * o2 + 5) + w (12 + 68 * o1 + 5) → _ := fun i a b => mgU_f hg h1 h2 a b (i := i)
  have hlo : ∀ k, 0 ≤ k → k < w (12 + 68 * o2 + 5) → mgU o1 o2 w k = w (12 + 68 * o2 + 7 + k) := fun k a b => mgU_lo b
  have hhi : ∀ k, 0 ≤ k → k < w (12 + 68 * o1 + 5) → mgU o1 o2 w (w (12 + 68 * o2 + 5) + k) = w (12 + 68 * o1 + 7 + k) := fun k a b => mgU_hi a
  have hκj : ∀ i n, 0 ≤ i → i < w (12 + 68 * o2 + 5) + w (12 + 68 * o1 + 5) → 0 ≤ n → n < w (12 + 68 * o2 + 5) + w (12 + 68 * o1 + 5) → κ (mgU o1 o2 w i) < κ (mgU o1 o2 w n) → w (452 + 24 * mgU o1 o2 w i + 2) ≤ w (452 + 24 * mgU o1 o2 w n + 2) := fun i n i0 i1 n0 n1 z => by
    by_cases q : i < n
    · exact (hκ n i i0 q n1).2.1 z
    · by_cases q2 : n < i
      · have y := hκ i n n0 q2 i1
        by_cases q3 : w (452 + 24 * mgU o1 o2 w n + 2) ≤ w (452 + 24 * mgU o1 o2 w i + 2)
        · have := y.2.2 q3
          omega
        · omega
      · have e : i = n := by omega
        rw [e]
        omega
  generalize W_229 o1 o2 w = w' at *
  generalize hUU : mgU o1 o2 w = U at *
  generalize hN0 : w (12 + 68 * o2 + 5) + w (12 + 68 * o1 + 5) = N at *
  obtain ⟨hN, hO, hQ, hT, hC, hK, hR⟩ := id hg
  obtain ⟨n7, n8, n9, n10, n11, n0, n1, n2, n3, n4, n5, n6⟩ := id hN
  obtain ⟨rA, ⟨ro1, ro2⟩, rQ, rP, ⟨rt1, rt2⟩, rC, rK, rR, rB, rH⟩ := id h
  have a1 := (hO o1 h1.1 h1.2).2.2.2.2.1
  have a2 := (hO o2 h2.1 h2.2).2.2.2.2.1
  have uf : ∀ t, inU U N t → (0 ≤ t ∧ t < w 9) ∧ w (452 + 24 * t + 4) = 0 ∧ (w (452 + 24 * t + 1) = o1 ∨ w (452 + 24 * t + 1) = o2) := by
    rintro t ⟨i, i0, i1, i2⟩
    have y := hu i i0 i1
    rw [i2] at y
    exact ⟨y.1, y.2.1, y.2.2.elim (fun z => Or.inr z.2) (fun z => Or.inl z.2)⟩
  have uj : ∀ x y, inU U N x → inU U N y → κ x < κ y → w (452 + 24 * x + 2) ≤ w (452 + 24 * y + 2) := by
    rintro x y ⟨i, i0, i1, i2⟩ ⟨k, k0, k1, k2⟩ z
    rw [← i2, ← k2] at z ⊢
    exact hκj i k i0 i1 k0 k1 z
  have qb : ∀ k, 0 ≤ k → k < m → bestS κ (fun t => w (452 + 24 * t + 0)) U N (w' (12 + 68 * o2 + 7 + k)) := fun k a b => (w7 _).1 ⟨k, a, b, rfl⟩
  have qp : ∀ k i, 0 ≤ i → i < k → k < m → ¬ w (452 + 24 * w' (12 + 68 * o2 + 7 + i) + 0) = w (452 + 24 * w' (12 + 68 * o2 + 7 + k) + 0) := fun k i a b c => bestS.one (p := fun t => w (452 + 24 * t + 0)) (q := fun k => w' (12 + 68 * o2 + 7 + k)) w6 w7 a b c
  have m16 : m ≤ 16 := pig16 (f := fun k => w (452 + 24 * w' (12 + 68 * o2 + 7 + k) + 0)) (fun k a b => by
    have y := (uf _ (qb k a b).1).1
    have z := (hT _ y.1 y.2).1
    exact ⟨z.1, by omega⟩) qp
  have ext := incS.ext (f := fun k => d1 (s + 9) (o2 * 16 + k)) (g := fun k => w' (12 + 68 * o2 + 7 + k)) c6 w6 (fun t => (c7 t).trans (w7 t).symm) c5 w5
  have e : ∀ i, ¬ (12 ≤ i ∧ i < 420) → ¬ (452 ≤ i ∧ i < 1892 ∧ ((i - 452) % 24 = 1 ∨ (i - 452) % 24 = 3 ∨ (i - 452) % 24 = 4)) → w' i = w i := fun i x y => w1 i (by omega) (by omega) (by omega) (by omega) y
  have eo : ∀ o k, 0 ≤ o → o < w 7 → ¬ o = o1 → ¬ o = o2 → 0 ≤ k → k < 68 → w' (12 + 68 * o + k) = w (12 + 68 * o + k) := fun o k x y z u a b => w1 _ (by omega) (by omega) (by omega) (by omega) (by omega)
  have e7 : w' 7 = w 7 := e 7 (by omega) (by omega)
  have e9 : w' 9 = w 9 := e 9 (by omega) (by omega)
  have e0 : w' 0 = w 0 := e 0 (by omega) (by omega)
  have et : ∀ t k, 0 ≤ t → t < w 9 → (k = 0 ∨ k = 2 ∨ k = 5 ∨ k = 6 ∨ k = 7) → w' (452 + 24 * t + k) = w (452 + 24 * t + k) := fun t k a b c => e _ (by omega) (by omega)
  have no : ∀ t, 0 ≤ t → t < w 9 → ¬ inU U N t → w' (452 + 24 * t + 1) = w (452 + 24 * t + 1) ∧ w' (452 + 24 * t + 3) = w (452 + 24 * t + 3) ∧ w' (452 + 24 * t + 4) = w (452 + 24 * t + 4) := fun t a b c => by
    have y := (w9 t a (by omega)).2 (fun z => c z.1)
    exact ⟨(w8 t a (by omega)).2 c, y.1, y.2⟩
  have wait : ∀ t, 0 ≤ t → t < w 9 → w (452 + 24 * t + 4) = 0 → (w (452 + 24 * t + 1) = o1 ∨ w (452 + 24 * t + 1) = o2) → inU U N t := fun t a b c f => by
    obtain ⟨-, k, k0, k1, k2⟩ := (hT t a b).2.2.2.2.1 c
    rcases f with f | f
    · rw [f] at k1 k2
      exact ⟨w (12 + 68 * o2 + 5) + k, by omega, by omega, by rw [hhi k k0 k1]; exact k2⟩
    · rw [f] at k1 k2
      exact ⟨k, k0, by omega, by rw [hlo k k0 k1]; exact k2⟩
  have cl : ∀ o k, 0 ≤ o → o < w 7 → k = 0 ∨ k = 1 ∨ k = 2 ∨ k = 3 ∨ k = 6 → w' (12 + 68 * o + k) = w (12 + 68 * o + k) := fun o k a b c => w1 _ (by omega) (by omega) (by omega) (by omega) (by omega)
  have op : ∀ o, 0 ≤ o → o < w 7 → ¬ o = o1 → w' (12 + 68 * o + 4) = w (12 + 68 * o + 4) := fun o a b c => w1 _ (by omega) (by omega) (by omega) (by omega) (by omega)
  have fd : ∀ b, ¬ b = s + 7 → ¬ b = s + 8 → ¬ b = s + 9 → ¬ b = s + 51 → ¬ b = s + 53 → ¬ b = s + 54 → mset (mset d1 (s + 8) o1 0) (s + 7) o1 0 b = d b := fun b x1 x2 x3 x4 x5 x6 => by
    rw [← c1 b x2 x3 x4 x5 x6]
    funext k
    simp (disch := omega) only [ms_a]
  have fk : ∀ b, ¬ b = s + 7 → ¬ b = s + 8 → mset (mset d1 (s + 8) o1 0) (s + 7) o1 0 b = d1 b := fun b x1 x2 => by
    funext k
    simp (disch := omega) only [ms_a]
  have hN' : GN w' := hN.k (fun i hi => e i (by omega) (by omega))
  refine ⟨⟨hN', fun o x y => ?_, fun o x y k u v => ?_, fun t x y => ?_, fun t x y => ?_, hK.k (fun i hi => e i (by omega) (by omega)) hN, hR.k (fun i hi => e i (by omega) (by omega)) hN⟩, ⟨rA.k (fun b x => fd b (by omega) (by omega) (by omega) (by omega) (by omega) (by omega)) (fun i hi => e i (by omega) (by omega)), ⟨?_, fun o x y => ?_⟩, fun o x y k u v => ?_, rP.k (fun b x y => fd b (by omega) (by omega) (by omega) (by omega) (by omega) (by omega)) (fun i hi => e i (by omega) (by omega)) n8, ⟨?_, fun t x y => ?_⟩, rC.k (fun b x => fd b (by omega) (by omega) (by omega) (by omega) (by omega) (by omega)) (fun i hi => e i (by omega) (by omega)) n9, rK.k (by rw [fd _ (by omega) (by omega) (by omega) (by omega) (by omega) (by omega)]) (fun b x y => fd b (by omega) (by omega) (by omega) (by omega) (by omega) (by omega)) (fun i hi => e i (by omega) (by omega)) n10, rR.k (by rw [fd _ (by omega) (by omega) (by omega) (by omega) (by omega) (by omega)]) (fd _ (by omega) (by omega) (by omega) (by omega) (by omega) (by omega)) (fun i hi => e i (by omega) (by omega)) n11, rB.k (fun b x y => fd b (by omega) (by omega) (by omega) (by omega) (by omega) (by omega)) (fun i hi => e i (by omega) (by omega)) n8 n9 n10 hK.of, rH.k (fun b x y => fd b (by omega) (by omega) (by omega) (by omega) (by omega) (by omega)) (fun i hi => e i (by omega) (by omega)) n8 n9 n10 hK.of⟩, e⟩
  · rw [e7] at y
    have g := hO o x y
    have cs : csum (fun t => if w' (452 + 24 * t + 4) = 1 ∧ w' (452 + 24 * t + 1) = o then (1 : Int) else 0) (w' 9).toNat = csum (fun t => if w (452 + 24 * t + 4) = 1 ∧ w (452 + 24 * t + 1) = o then 1 else 0) (w 9).toNat := by
      rw [e9]
      refine csum_congr (fun t a b => ?_)
      have tb : t < w 9 := by omega
      by_cases q : inU U N t
      · have z := (uf t q).2.1
        have z4 : ¬ w' (452 + 24 * t + 4) = 1 := by
          by_cases q2 : bestS κ (fun t => w (452 + 24 * t + 0)) U N t
          · have := ((w9 t a (by omega)).2 (fun z => z.2 q2)).2
            omega
          · have := ((w9 t a (by omega)).1 ⟨q, q2⟩).2
            omega
        have z5 : ¬ (w' (452 + 24 * t + 4) = 1 ∧ w' (452 + 24 * t + 1) = o) := fun u => z4 u.1
        have z6 : ¬ (w (452 + 24 * t + 4) = 1 ∧ w (452 + 24 * t + 1) = o) := fun u => by omega
        simp only [if_neg z5, if_neg z6]
      · have z := no t a tb q
        rw [z.1, z.2.2]
    rw [cs, cl o 1 x y (by omega), cl o 2 x y (by omega), cl o 3 x y (by omega), cl o 6 x y (by omega)]
    by_cases q : o = o1
    · rw [q] at g ⊢
      rw [w2, w3]
      exact ⟨g.1, g.2.1, g.2.2.1, Or.inl rfl, by omega, fun _ => rfl, g.2.2.2.2.2.2⟩
    · rw [op o x y q]
      by_cases q2 : o = o2
      · rw [q2] at g ⊢
        rw [w4]
        exact ⟨g.1, g.2.1, g.2.2.1, g.2.2.2.1, by omega, fun z => by omega, g.2.2.2.2.2.2⟩
      · rw [eo o 5 x y q q2 (by omega) (by omega)]
        exact g
  · rw [e7] at y
    rw [e9]
    by_cases q : o = o1
    · rw [q, w3] at v
      omega
    · by_cases q2 : o = o2
      · rw [q2] at v ⊢
        rw [w4] at v
        have b := qb k u v
        have f := uf _ b.1
        refine ⟨f.1, (w8 _ f.1.1 (by omega)).1 b.1, ?_, fun i i0 i1 => ?_⟩
        · rw [((w9 _ f.1.1 (by omega)).2 (fun z => z.2 b)).2]
          exact f.2.1
        · have bi := qb i i0 (by omega)
          have fi := uf _ bi.1
          rw [et _ 2 fi.1.1 fi.1.2 (by omega), et _ 2 f.1.1 f.1.2 (by omega), et _ 0 fi.1.1 fi.1.2 (by omega), et _ 0 f.1.1 f.1.2 (by omega)]
          exact ⟨uj _ _ bi.1 b.1 (w6 i k i0 i1 v), qp k i i0 i1 v⟩
      · rw [eo o 5 x y q q2 (by omega) (by omega)] at v
        have lo := (hO o x y).2.2.2.2.1
        have g := hQ o x y k u v
        have eq : ∀ i, 0 ≤ i → i < w (12 + 68 * o + 5) → w' (12 + 68 * o + 7 + i) = w (12 + 68 * o + 7 + i) := fun i a b => by
          have := eo o (7 + i) x y q q2 (by omega) (by omega)
          rw [show 12 + 68 * o + 7 + i = 12 + 68 * o + (7 + i) by omega]
          exact this
        have nu : ∀ i, 0 ≤ i → i < w (12 + 68 * o + 5) → ¬ inU U N (w (12 + 68 * o + 7 + i)) := fun i a b z => by
          have f := (uf _ z).2.2
          have gi := (hQ o x y i a b).2.1
          omega
        have z := no _ g.1.1 g.1.2 (nu k u v)
        rw [eq k u v, z.1, z.2.2, et _ 2 g.1.1 g.1.2 (by omega), et _ 0 g.1.1 g.1.2 (by omega)]
        refine ⟨g.1, g.2.1, g.2.2.1, fun i i0 i1 => ?_⟩
        have gi := hQ o x y i i0 (by omega)
        rw [eq i i0 (by omega), et _ 2 gi.1.1 gi.1.2 (by omega), et _ 0 gi.1.1 gi.1.2 (by omega)]
        exact g.2.2.2 i i0 i1
  · rw [e9] at y
    have g := hT t x y
    rw [et t 0 x y (by omega), et t 2 x y (by omega), e0, e7, e 8 (by omega) (by omega)]
    by_cases q : inU U N t
    · have f := uf t q
      rw [(w8 t x (by omega)).1 q]
      by_cases q2 : bestS κ (fun t => w (452 + 24 * t + 0)) U N t
      · have z := (w9 t x (by omega)).2 (fun z => z.2 q2)
        rw [z.1, z.2]
        obtain ⟨k, k0, k1, k2⟩ := (w7 t).2 q2
        refine ⟨g.1, h2, g.2.2.1, g.2.2.2.1, fun u => ⟨(g.2.2.2.2.1 u).1, k, k0, by rw [w4]; exact k1, k2⟩, g.2.2.2.2.2⟩
      · have z := (w9 t x (by omega)).1 ⟨q, q2⟩
        rw [z.1, z.2]
        exact ⟨g.1, h2, g.2.2.1, by omega, fun u => by omega, fun _ => by omega⟩
    · have z := no t x y q
      rw [z.1, z.2.1, z.2.2]
      refine ⟨g.1, g.2.1, g.2.2.1, g.2.2.2.1, fun u => ?_, g.2.2.2.2.2⟩
      obtain ⟨g1, k, k0, k1, k2⟩ := g.2.2.2.2.1 u
      have ne1 : ¬ w (452 + 24 * t + 1) = o1 := fun z => q (wait t x y u (Or.inl z))
      have ne2 : ¬ w (452 + 24 * t + 1) = o2 := fun z => q (wait t x y u (Or.inr z))
      have lo := (hO _ g.2.1.1 g.2.1.2).2.2.2.2.1
      refine ⟨g1, k, k0, ?_, ?_⟩
      · rw [eo _ 5 g.2.1.1 g.2.1.2 ne1 ne2 (by omega) (by omega)]
        exact k1
      · rw [show 12 + 68 * w (452 + 24 * t + 1) + 7 + k = 12 + 68 * w (452 + 24 * t + 1) + (7 + k) by omega, eo _ (7 + k) g.2.1.1 g.2.1.2 ne1 ne2 (by omega) (by omega)]
        rw [show 12 + 68 * w (452 + 24 * t + 1) + 7 + k = 12 + 68 * w (452 + 24 * t + 1) + (7 + k) by omega] at k2
        exact k2
  · rw [e9] at y
    have g := hC t x y
    rw [et t 5 x y (by omega), et t 6 x y (by omega), e0]
    have wi : ∀ p, 0 ≤ p → p < 16 → 0 ≤ w' (452 + 24 * t + 8 + p) ∧ w' (452 + 24 * t + 8 + p) ≤ w 0 + 1 := fun p a b => by
      rw [e (452 + 24 * t + 8 + p) (by omega) (by omega)]
      exact g.2.2.2.2 p a b
    by_cases q : inU U N t
    · have f := (uf t q).2.1
      have g5 : ¬ w (452 + 24 * t + 5) = 1 := fun z => by
        have := g.2.2.2.1 z
        omega
      exact ⟨g.1, g.2.1, fun z => absurd (g.2.2.1 z).1 g5, fun z => absurd z g5, wi⟩
    · have z := no t x y q
      rw [z.2.1, z.2.2]
      exact ⟨g.1, g.2.1, g.2.2.1, g.2.2.2.1, wi⟩
  · rw [fd _ (by omega) (by omega) (by omega) (by omega) (by omega) (by omega), e7]
    exact ro1
  · rw [e7] at y
    have g := ro2 o x y
    rw [fd (s + 3) (by omega) (by omega) (by omega) (by omega) (by omega) (by omega), fd (s + 4) (by omega) (by omega) (by omega) (by omega) (by omega) (by omega), fd (s + 5) (by omega) (by omega) (by omega) (by omega) (by omega) (by omega), fd (s + 6) (by omega) (by omega) (by omega) (by omega) (by omega) (by omega), cl o 0 x y (by omega), cl o 1 x y (by omega), cl o 2 x y (by omega), cl o 3 x y (by omega)]
    refine ⟨g.1, g.2.1, g.2.2.1, g.2.2.2.1, ?_, ?_⟩
    · by_cases q : o = o1
      · rw [q, w2, ms_e rfl rfl]
      · rw [ms_i q, ms_a (by omega), op o x y q, c1 _ (by omega) (by omega) (by omega) (by omega) (by omega)]
        exact g.2.2.2.2.1
    · rw [ms_a (by omega)]
      by_cases q : o = o1
      · rw [q, w3, ms_e rfl rfl]
      · rw [ms_i q]
        by_cases q2 : o = o2
        · rw [q2, c3, w4]
          exact ext.1
        · rw [c2 o q2, eo o 5 x y q q2 (by omega) (by omega)]
          exact g.2.2.2.2.2
  · rw [e7] at y
    rw [fk _ (by omega) (by omega)]
    by_cases q : o = o1
    · rw [q, w3] at v
      omega
    · by_cases q2 : o = o2
      · rw [q2] at v ⊢
        rw [w4] at v
        exact ext.2 k u (by omega)
      · rw [eo o 5 x y q q2 (by omega) (by omega)] at v
        have lo := (hO o x y).2.2.2.2.1
        rw [c4 _ (by omega), show 12 + 68 * o + 7 + k = 12 + 68 * o + (7 + k) by omega, eo o (7 + k) x y q q2 (by omega) (by omega), rQ o x y k u v, show 12 + 68 * o + 7 + k = 12 + 68 * o + (7 + k) by omega]
  · rw [fd _ (by omega) (by omega) (by omega) (by omega) (by omega) (by omega), e9]
    exact rt1
  · rw [e9] at y
    have g := rt2 t x y
    rw [fd (s + 50) (by omega) (by omega) (by omega) (by omega) (by omega) (by omega), fd (s + 52) (by omega) (by omega) (by omega) (by omega) (by omega) (by omega), fk (s + 51) (by omega) (by omega), fk (s + 53) (by omega) (by omega), fk (s + 54) (by omega) (by omega), et t 0 x y (by omega), et t 2 x y (by omega)]
    refine ⟨g.1, ?_, g.2.2.1, ?_⟩
    · by_cases q : inU U N t
      · rw [(c8 t).1 q, (w8 t x (by omega)).1 q]
      · rw [(c8 t).2 q, (w8 t x (by omega)).2 q]
        exact g.2.1
    · by_cases q : inU U N t ∧ ¬ bestS κ (fun t => w (452 + 24 * t + 0)) U N t
      · have y1 := (c9 t).1 q
        have y2 := (w9 t x (by omega)).1 q
        rw [y1.1, y1.2, y2.1, y2.2]
        exact ⟨rfl, rfl⟩
      · have y1 := (c9 t).2 q
        have y2 := (w9 t x (by omega)).2 q
        rw [y1.1, y1.2, y2.1, y2.2]
        exact g.2.2.2
/-! ===== purses and witnesses through the other changes ===== -/
theorem XR.fr {w w' : Row} (h8 : 0 ≤ w 8 ∧ w 8 ≤ 16) (h10 : 0 ≤ w 10 ∧ w 10 ≤ 200) (e0 : w' 0 = w 0) (e8 : w' 8 = w 8) (e9 : w' 9 = w 9) (e10 : w' 10 = w 10) (ew : ∀ t q, 0 ≤ t → t < w 9 → w 8 ≤ q → q < 16 → w' (452 + 24 * t + 8 + q) = w (452 + 24 * t + 8 + q)) (ep : ∀ p, 0 ≤ p → p < 16 → w' (420 + 2 * p + 1) = w (420 + 2 * p + 1)) (ec : ∀ k, 0 ≤ k → k < 200 → w' (1916 + 5 * k + 3) = w (1916 + 5 * k + 3)) : XR w w' :=
  ⟨GXI.keep h8 e8 e9 ew ep (Int.le_of_eq (C2_of e10 (fun k a b => by rw [ec k a (by omega)])).symm), e0⟩
theorem wsX {w : Row} {i v : Int} (hg : GN w) (h : (1 ≤ i ∧ i ≤ 6) ∨ (12 ≤ i ∧ i < 420) ∨ (452 ≤ i ∧ i < 1892 ∧ (i - 452) % 24 < 8)) : XR w (ws w i v) := by
  obtain ⟨n7, n8, n9, n10, n11, -⟩ := hg
  exact XR.fr n8 n10 (wsn (by omega)) (wsn (by omega)) (wsn (by omega)) (wsn (by omega)) (fun t q a b c d => wsn (by omega)) (fun p a b => wsn (by omega)) (fun k a b => wsn (by omega))
theorem claimX {t : Int} {w : Row} (hg : GG w) (ht : 0 ≤ t ∧ t < w 9) : XR w (W_228 t w) := by
  have n9 := hg.1.2.2.1
  unfold W_228
  have x1 : ∀ v, XR w (ws w (452 + 24 * t + 5) v) := fun v => wsX hg.1 (by omega)
  by_cases c : 0 < w 3
  · rw [if_pos c]; exact x1 1
  · rw [if_neg c]
    have e : ∀ i, i ≤ 11 → ws (ws w (452 + 24 * t + 5) 1) (452 + 24 * t + 6) 1 i = w i := fun i a => by
      rw [wsn (by omega), wsn (by omega)]
    have x2 : XR w (ws (ws w (452 + 24 * t + 5) 1) (452 + 24 * t + 6) 1) := XR.fr hg.1.2.1 hg.1.2.2.2.1 (e 0 (by omega)) (e 8 (by omega)) (e 9 (by omega)) (e 10 (by omega)) (fun t q a b c d => by have := hg.1.2.1; rw [wsn (by omega), wsn (by omega)]) (fun p a b => by rw [wsn (by omega), wsn (by omega)]) (fun k a b => by rw [wsn (by omega), wsn (by omega)])
    exact x2.trans (makesX (by rw [e 8 (by omega)]; exact hg.1.2.1) (by rw [e 9 (by omega)]; exact n9) (by rw [e 10 (by omega)]; exact hg.1.2.2.2.1))
theorem attestX {t p : Int} {w : Row} (hg : GG w) (ht : 0 ≤ t ∧ t < w 9) (hp : 0 ≤ p ∧ p < w 8) : XR w (W_235 t p w) := by
  have n8 := hg.1.2.1
  have n9 := hg.1.2.2.1
  have n10 := hg.1.2.2.2.1
  unfold W_235
  have st : ∀ u : Row, (∀ i, ¬ i = 452 + 24 * t + 8 + p → ¬ i = 452 + 24 * t + 7 → ¬ i = 452 + 24 * t + 6 → u i = w i) → XR w u := fun u e => XR.fr n8 n10 (e 0 (by omega) (by omega) (by omega)) (e 8 (by omega) (by omega) (by omega)) (e 9 (by omega) (by omega) (by omega)) (e 10 (by omega) (by omega) (by omega)) (fun t q a b c d => e _ (by omega) (by omega) (by omega)) (fun p a b => e _ (by omega) (by omega) (by omega)) (fun k a b => e _ (by omega) (by omega) (by omega))
  by_cases c : w (452 + 24 * t + 7) + 1 < w 3
  · rw [if_pos c]
    exact st _ (fun i a b c => by rw [wsn b, wsn a])
  · rw [if_neg c]
    generalize hu : (ws (ws (ws w (((452 + (24 * t)) + 8) + p) ((w 0) + 1)) ((452 + (24 * t)) + 7) ((w ((452 + (24 * t)) + 7)) + 1)) ((452 + (24 * t)) + 6) 1) = u
    have e : ∀ i, ¬ i = 452 + 24 * t + 8 + p → ¬ i = 452 + 24 * t + 7 → ¬ i = 452 + 24 * t + 6 → u i = w i := fun i a b c => by
      rw [← hu, wsn c, wsn b, wsn a]
    exact (st u e).trans (makesX (by rw [e 8 (by omega) (by omega) (by omega)]; exact n8) (by rw [e 9 (by omega) (by omega) (by omega)]; exact n9) (by rw [e 10 (by omega) (by omega) (by omega)]; exact n10))
theorem joinX {p o : Int} {w : Row} (hg : GG w) (ho : 0 ≤ o ∧ o < w 7) (h9 : w 9 < 60) : XR w (W_226 p o w) := by
  have n7 := hg.1.1
  have n8 := hg.1.2.1
  have n9 := hg.1.2.2.1
  have n10 := hg.1.2.2.2.1
  have go := (hg.2.1 o ho.1 ho.2).2.2.2.2.1
  obtain ⟨-, ⟨⟨-, -, -, -, f4⟩, -, -, f9, fr⟩⟩ := newW (p := p) (o := o) (w := w) ⟨ho.1, by omega⟩ n9 (by omega)
  show XR w (W_224 p o w)
  generalize W_224 p o w = w' at *
  have e : ∀ i, ¬ i = 9 → ¬ (12 ≤ i ∧ i < 420) → ¬ (452 + 24 * w 9 ≤ i ∧ i < 452 + 24 * w 9 + 24) → w' i = w i := fun i a b c => fr i (by omega) (by omega) (by omega) (by omega)
  have e8 := e 8 (by omega) (by omega) (by omega)
  refine ⟨fun a b => ⟨fun t x y q u v => ?_, fun q x y => ?_⟩, e 0 (by omega) (by omega) (by omega)⟩
  · rw [f9] at y
    rw [e8] at u
    by_cases z : t = w 9
    · rw [z, show 452 + 24 * w 9 + 8 + q = 452 + 24 * w 9 + (8 + q) by omega]
      exact f4 (8 + q) (by omega) (by omega)
    · rw [e _ (by omega) (by omega) (by omega)]
      exact a t x (by omega) q u v
  · rw [e8] at y
    rw [e _ (by omega) (by omega) (by omega), C2_of (w := w) (w' := w') (e 10 (by omega) (by omega) (by omega)) (fun k a b => by rw [e _ (by omega) (by omega) (by omega)])]
    exact b q x y
theorem leaveX {t : Int} {w : Row} {p : Int} (hg : GG w) (ht : 0 ≤ t ∧ t < w 9) (hp : 0 ≤ p ∧ p ≤ 61) : XR w (ws (ws (W_220 (w (452 + 24 * t + 1)) p w) (452 + 24 * t + 4) 2) (452 + 24 * t + 3) (w 0)) := by
  have n7 := hg.1.1
  have n8 := hg.1.2.1
  have n9 := hg.1.2.2.1
  have n10 := hg.1.2.2.2.1
  have gt := (hg.2.2.2.1 t ht.1 ht.2).2.1
  have go := (hg.2.1 _ gt.1 gt.2).2.2.2.2.1
  generalize w (452 + 24 * t + 1) = o at *
  obtain ⟨-, -, fr⟩ := take220 (o := o) (p := p) (w := w) hp.1 (by omega) hp.2
  generalize W_220 o p w = u at *
  have e : ∀ i, ¬ (12 ≤ i ∧ i < 420) → ¬ i = 452 + 24 * t + 4 → ¬ i = 452 + 24 * t + 3 → ws (ws u (452 + 24 * t + 4) 2) (452 + 24 * t + 3) (w 0) i = w i := fun i a b c => by
    rw [wsn c, wsn b]
    exact fr i (by omega) (by omega)
  exact XR.fr n8 n10 (e 0 (by omega) (by omega) (by omega)) (e 8 (by omega) (by omega) (by omega)) (e 9 (by omega) (by omega) (by omega)) (e 10 (by omega) (by omega) (by omega)) (fun t q a b c d => e _ (by omega) (by omega) (by omega)) (fun p a b => e _ (by omega) (by omega) (by omega)) (fun k a b => e _ (by omega) (by omega) (by omega))
theorem mergeX {w w' : Row} (hg : GG w) (e : ∀ i, ¬ (12 ≤ i ∧ i < 420) → ¬ (452 ≤ i ∧ i < 1892 ∧ ((i - 452) % 24 = 1 ∨ (i - 452) % 24 = 3 ∨ (i - 452) % 24 = 4)) → w' i = w i) : XR w w' := by
  have n8 := hg.1.2.1
  have n9 := hg.1.2.2.1
  exact XR.fr n8 hg.1.2.2.2.1 (e 0 (by omega) (by omega)) (e 8 (by omega) (by omega)) (e 9 (by omega) (by omega)) (e 10 (by omega) (by omega)) (fun t q a b c d => e _ (by omega) (by omega)) (fun p a b => e _ (by omega) (by omega)) (fun k a b => e _ (by omega) (by omega))
theorem addPX {c : Int} {w : Row} (hg : GG w) (h8 : w 8 < 16) (hp : GP w) : GP (W_182 c w) := by
  have n8 := hg.1.2.1
  have n10 := hg.1.2.2.2.1
  have e : ∀ i, ¬ i = 8 → ¬ i = 420 + 2 * w 8 + 0 → ¬ i = 420 + 2 * w 8 + 1 → W_182 c w i = w i := fun i x y z => by
    unfold W_182
    simp (disch := omega) only [wsn]
  have e1 : W_182 c w (420 + 2 * w 8 + 1) = 0 := by
    unfold W_182
    simp (disch := omega) only [wsn, wse]
  have e8 : W_182 c w 8 = w 8 + 1 := by
    unfold W_182
    simp (disch := omega) only [wse, wsn]
  generalize W_182 c w = w' at *
  have ec : C2 w' = C2 w := C2_of (e 10 (by omega) (by omega) (by omega)) (fun k a b => by rw [e _ (by omega) (by omega) (by omega)])
  have c0 : 0 ≤ C2 w := (csum_rng (B := 1) (fun i a b => by
    show 0 ≤ (if w (1916 + 5 * i + 3) = 2 then (1 : Int) else 0) ∧ (if w (1916 + 5 * i + 3) = 2 then (1 : Int) else 0) ≤ 1
    split <;> omega)).1
  intro p x y
  rw [e8] at y
  rw [ec]
  by_cases z : p = w 8
  · rw [z, e1]
    omega
  · rw [e _ (by omega) (by omega) (by omega)]
    exact hp p x (by omega)
theorem addOX {w w' : Row} (hg : GG w) (e : ∀ i, ¬ i = 7 → ¬ (12 ≤ i ∧ i < 420) → w' i = w i) : XR w w' := by
  have n8 := hg.1.2.1
  have n9 := hg.1.2.2.1
  exact XR.fr n8 hg.1.2.2.2.1 (e 0 (by omega) (by omega)) (e 8 (by omega) (by omega)) (e 9 (by omega) (by omega)) (e 10 (by omega) (by omega)) (fun t q a b c d => e _ (by omega) (by omega)) (fun p a b => e _ (by omega) (by omega)) (fun k a b => e _ (by omega) (by omega))
-- the purse as the class shows it
theorem purse {s : Int} {d : mD} {w : Row} (hg : GG w) (hp : GP w) (h : Rel s d w) {p : Int} (p0 : 0 ≤ p) (p1 : p < w 8) : 0 ≤ d (s + 12) p ∧ d (s + 12) p ≤ 19800 := by
  have e := (h.2.2.2.1.2 p p0 p1).2
  have b := hp p p0 p1
  have n10 := hg.1.2.2.2.1
  have c := (csum_rng (f := fun k => if w (1916 + 5 * k + 3) = 2 then (1 : Int) else 0) (n := (w 10).toNat) (B := 1) (fun i a b => by
    show 0 ≤ (if w (1916 + 5 * i + 3) = 2 then (1 : Int) else 0) ∧ (if w (1916 + 5 * i + 3) = 2 then (1 : Int) else 0) ≤ 1
    split <;> omega)).2
  rw [e]
  have cc : C2 w ≤ 200 := by
    unfold C2
    omega
  omega
/-! ===== what is kept: undo's history and the saved states ===== -/
def OKR (s : Int) (d : mD) (w : Row) : Prop := GG w ∧ GWt w ∧ GP w ∧ w 0 ≤ 999 ∧ Rel s d w
theorem GWt.row {w w' : Row} (e : REq w w') (hn : GN w) (h : GWt w) : GWt w' := by
  obtain ⟨n7, n8, n9, n10, -⟩ := hn
  intro t x y q u v
  rw [e 9 (by omega) (by omega)] at y
  rw [e 8 (by omega) (by omega)] at u
  rw [e _ (by omega) (by omega)]
  exact h t x y q u v
theorem GP.row {w w' : Row} (e : REq w w') (hn : GN w) (h : GP w) : GP w' := by
  obtain ⟨n7, n8, n9, n10, -⟩ := hn
  intro p x y
  rw [e 8 (by omega) (by omega)] at y
  rw [e _ (by omega) (by omega), C2_of (e 10 (by omega) (by omega)) (fun k a b => by rw [e _ (by omega) (by omega)])]
  exact h p x y
theorem OKR.row {s : Int} {d : mD} {w w' : Row} (e : REq w w') (h : OKR s d w) : OKR s d w' := by
  obtain ⟨a, b, c, t, r⟩ := h
  exact ⟨a.row e, b.row e a.1, c.row e a.1, by rw [e 0 (by omega) (by omega)]; exact t, r.row e a⟩
theorem OKR.cls {s s' : Int} {d d' : mD} {w : Row} (hc : CEq s d s' d') (h : OKR s d w) : OKR s' d' w := by
  obtain ⟨a, b, c, t, r⟩ := h
  exact ⟨a, b, c, t, r.cls a.1 a.2.1 hc⟩
theorem OKR.fr {s : Int} {d d' : mD} {w : Row} (e : ∀ b, s ≤ b → b ≤ s + 62 → d' b = d b) (h : OKR s d w) : OKR s d' w := by
  obtain ⟨a, b, c, t, r⟩ := h
  have n8 := a.1.2.1
  have p8 := r.2.2.2.1.1
  refine ⟨a, b, c, t, r.cls a.1 a.2.1 ⟨⟨by rw [e s (by omega) (by omega)], by rw [e s (by omega) (by omega)], fun k _ _ => by rw [e _ (by omega) (by omega)]⟩, ⟨by rw [e _ (by omega) (by omega)], fun o _ _ => ?_⟩, fun i _ _ => by rw [e _ (by omega) (by omega)], ⟨by rw [e _ (by omega) (by omega)], fun p _ _ => ?_⟩, fun p _ _ i _ _ => by rw [e _ (by omega) (by omega)], ⟨by rw [e _ (by omega) (by omega)], fun t _ _ => ?_⟩, ⟨by rw [e _ (by omega) (by omega)], fun k _ _ => ?_⟩, by rw [e _ (by omega) (by omega)], fun k _ _ => by rw [e _ (by omega) (by omega)]⟩⟩
  · rw [e (s + 3) (by omega) (by omega), e (s + 4) (by omega) (by omega), e (s + 5) (by omega) (by omega), e (s + 6) (by omega) (by omega), e (s + 7) (by omega) (by omega), e (s + 8) (by omega) (by omega)]
    exact ⟨rfl, rfl, rfl, rfl, rfl, rfl⟩
  · rw [e (s + 11) (by omega) (by omega), e (s + 12) (by omega) (by omega), e (s + 13) (by omega) (by omega), e (s + 14) (by omega) (by omega), e (s + 15) (by omega) (by omega)]
    exact ⟨rfl, rfl, rfl, rfl, rfl⟩
  · rw [e (s + 50) (by omega) (by omega), e (s + 51) (by omega) (by omega), e (s + 52) (by omega) (by omega), e (s + 53) (by omega) (by omega), e (s + 54) (by omega) (by omega), e (s + 55) (by omega) (by omega), e (s + 56) (by omega) (by omega)]
    exact ⟨rfl, rfl, rfl, rfl, rfl, rfl, rfl⟩
  · rw [e (s + 58) (by omega) (by omega), e (s + 59) (by omega) (by omega), e (s + 60) (by omega) (by omega), e (s + 61) (by omega) (by omega)]
    exact ⟨rfl, rfl, rfl, rfl⟩
theorem cpyF {a s : Int} (hx : a + 63 ≤ s ∨ s + 63 ≤ a) (d : mD) (h16 : d (s + 10) 0 ≤ 16) : ∀ b, (b < a ∨ a + 62 < b) → g_59 a s d b = d b := by
  intro b hb
  unfold g_59
  generalize hd1 : (mset (mset (mcopy d (s + 1) 0 (a + 1) 0 5) a 1 (d s 1)) a 2 (d s 2)) = d1
  have f1 : ∀ b, (b < a ∨ a + 1 < b) → d1 b = d b := fun b hb => by
    rw [← hd1]
    funext j
    simp (disch := omega) only [mc_n, ms_a]
  obtain ⟨a1, -⟩ := c34 hx d1
  generalize g_34 (a + 2) (s + 2) d1 = d2 at *
  obtain ⟨b1, -⟩ := c46 hx d2 (by rw [a1 _ (by omega), f1 _ (by omega)]; exact h16)
  generalize g_46 (a + 10) (s + 10) d2 = d3 at *
  obtain ⟨c1, -⟩ := c95 hx d3
  generalize g_95 (a + 49) (s + 49) d3 = d4 at *
  obtain ⟨e1, -⟩ := c108 hx d4
  rw [e1 b (by omega), c1 b (by omega), b1 b (by omega), a1 b (by omega), f1 b (by omega)]
theorem OKR.copy {a s : Int} {d : mD} {w : Row} (hx : a + 63 ≤ s ∨ s + 63 ≤ a) (h : OKR s d w) : OKR a (g_59 a s d) w ∧ ∀ b, (b < a ∨ a + 62 < b) → g_59 a s d b = d b := by
  have n8 := h.1.1.2.1
  have p8 := h.2.2.2.2.2.2.2.1.1
  exact ⟨h.cls (cpy hx d (by omega)), cpyF hx d (by omega)⟩
-- loops that copy rows
theorem copyLoop {α : Type} {L : Nat → Int → mD → α} {F : mD → α} {I : mD → Prop} {A B C D N : Int} (hAC : ¬ A = C) (hI : ∀ d j v, I d → I (mset d A j v)) (hz : ∀ n x d, I d → N ≤ x → L n x d = F d) (hs : ∀ n x d, I d → x < N → L (n + 1) x d = L n (x + 1) (mset d A (B + x) (d C (D + x)))) : ∀ (n : Nat) (x : Int) (d : mD), I d → x ≤ N → N - x ≤ (n : Int) → ∃ d', L n x d = F d' ∧ (∀ b, ¬ b = A → d' b = d b) ∧ (∀ i, x ≤ i → i < N → d' A (B + i) = d C (D + i)) ∧ ∀ j, ¬ (B + x ≤ j ∧ j < B + N) → d' A j = d A j := by
  intro n
  induction n with
  | zero =>
    intro x d hi a b
    exact ⟨d, hz 0 x d hi (by omega), fun _ _ => rfl, fun i u v => by omega, fun _ _ => rfl⟩
  | succ n ih =>
    intro x d hi a b
    by_cases c : x < N
    · obtain ⟨d', q1, q2, q3, q4⟩ := ih (x + 1) (mset d A (B + x) (d C (D + x))) (hI _ _ _ hi) (by omega) (by omega)
      refine ⟨d', (hs n x d hi c).trans q1, fun b hb => ?_, fun i u v => ?_, fun j hj => ?_⟩
      · rw [q2 b hb]
        funext j
        exact ms_a hb
      · by_cases z : i = x
        · rw [z, q4 _ (by omega), ms_e rfl rfl]
        · rw [q3 i (by omega) v, ms_a (fun y => hAC y.symm)]
      · rw [q4 j (by omega), ms_i (by omega)]
    · exact ⟨d, hz (n + 1) x d hi (by omega), fun _ _ => rfl, fun i u v => by omega, fun _ _ => rfl⟩
theorem shiftLoop {α : Type} {L : Nat → Int → mD → α} {F : mD → α} {I : mD → Prop} {A S N : Int} (hS : 0 < S) (hI : ∀ d j v, I d → I (mset d A j v)) (hz : ∀ n x d, I d → N ≤ x → L n x d = F d) (hs : ∀ n x d, I d → x < N → L (n + 1) x d = L n (x + 1) (mset d A (x - S) (d A x))) : ∀ (n : Nat) (x : Int) (d : mD), I d → x ≤ N → N - x ≤ (n : Int) → ∃ d', L n x d = F d' ∧ (∀ b, ¬ b = A → d' b = d b) ∧ (∀ i, x ≤ i → i < N → d' A (i - S) = d A i) ∧ (∀ j, N - S ≤ j → d' A j = d A j) ∧ ∀ j, j < x - S → d' A j = d A j := by
  intro n
  induction n with
  | zero =>
    intro x d hi a b
    exact ⟨d, hz 0 x d hi (by omega), fun _ _ => rfl, fun i u v => by omega, fun _ _ => rfl, fun _ _ => rfl⟩
  | succ n ih =>
    intro x d hi a b
    by_cases c : x < N
    · obtain ⟨d', q1, q2, q3, q4, q5⟩ := ih (x + 1) (mset d A (x - S) (d A x)) (hI _ _ _ hi) (by omega) (by omega)
      refine ⟨d', (hs n x d hi c).trans q1, fun b hb => ?_, fun i u v => ?_, fun j hj => ?_, fun j hj => ?_⟩
      · rw [q2 b hb]
        funext j
        exact ms_a hb
      · by_cases z : i = x
        · rw [z, q5 _ (by omega), ms_e rfl rfl]
        · rw [q3 i (by omega) v, ms_i (by omega)]
      · rw [q4 j hj, ms_i (by omega)]
      · rw [q5 j (by omega), ms_i (by omega)]
    · exact ⟨d, hz (n + 1) x d hi (by omega), fun _ _ => rfl, fun i u v => by omega, fun _ _ => rfl, fun _ _ => rfl⟩
-- keeps: the row behind the others; of eight the oldest goes
def KeepW (d d' : mD) : Prop := (∀ b, ¬ b = 769 → ¬ b = 771 → d' b = d b) ∧ (∀ j, ¬ j = 7 → d' 769 j = d 769 j) ∧ ((¬ d 769 7 = 8 ∧ d' 769 7 = d 769 7 + 1 ∧ (∀ i, 0 ≤ i → i < 3116 → d' 771 (3116 * d 769 7 + i) = d 770 i) ∧ ∀ j, j < 3116 * d 769 7 → d' 771 j = d 771 j) ∨ (d 769 7 = 8 ∧ d' 769 7 = 8 ∧ (∀ i, 0 ≤ i → i < 3116 → d' 771 (3116 * 7 + i) = d 770 i) ∧ ∀ j, 0 ≤ j → j < 21812 → d' 771 j = d 771 (j + 3116)))
theorem lp278 {d : mD} {u : Int} (h : d 769 7 = u) : ∃ d', lp_278_54 769 (3116 - 0 : Int).toNat 0 d = mset d' 769 7 (u + 1) ∧ (∀ b, ¬ b = 771 → d' b = d b) ∧ (∀ i, 0 ≤ i → i < 3116 → d' 771 (3116 * u + i) = d 770 i) ∧ ∀ j, ¬ (3116 * u ≤ j ∧ j < 3116 * u + 3116) → d' 771 j = d 771 j := by
  obtain ⟨d', q1, q2, q3, q4⟩ := copyLoop (L := lp_278_54 769) (F := fun d => mset d 769 7 (u + 1)) (I := fun d => d 769 7 = u) (A := 771) (B := 3116 * u) (C := 770) (D := 0) (N := 3116) (by decide) (fun d j v hi => by show mset d 771 j v 769 7 = u; rw [ms_a (by decide)]; exact hi) (fun n x d hi hx => by
    have st : ∀ r, st_278_54 769 r x d = mset d 769 7 (u + 1) := fun r => by
      unfold st_278_54
      rw [if_neg (by omega), hi]
    cases n with
    | zero => exact st _
    | succ n => exact st _) (fun n x d hi hx => by
    show st_278_54 769 _ x d = _
    unfold st_278_54
    rw [if_pos hx, hi, Int.zero_add]
    rfl) (3116 - 0 : Int).toNat 0 d h (by decide) (by decide)
  refine ⟨d', q1, q2, fun i a b => ?_, fun j hj => q4 j (by omega)⟩
  have := q3 i a b
  rw [Int.zero_add] at this
  exact this
theorem keep278 {d : mD} : KeepW d (g_278 769 d) := by
  unfold g_278
  by_cases c : d 769 7 = 8
  · rw [if_pos c]
    obtain ⟨d1, q1, q2, q3, q4, q5⟩ := shiftLoop (L := lp_278_13 769) (F := fun d => lp_278_54 769 (3116 - 0 : Int).toNat 0 (mset d 769 7 (d 769 7 - 1))) (I := fun _ => True) (A := 771) (S := 3116) (N := 24928) (by decide) (fun _ _ _ _ => trivial) (fun n x d _ hx => by
      have st : ∀ r, st_278_13 769 r x d = lp_278_54 769 (3116 - 0 : Int).toNat 0 (mset d 769 7 (d 769 7 - 1)) := fun r => by
        unfold st_278_13
        rw [if_neg (by omega)]
      cases n with
      | zero => exact st _
      | succ n => exact st _) (fun n x d _ hx => by
      show st_278_13 769 _ x d = _
      unfold st_278_13
      rw [if_pos hx]
      rfl) (24928 - 3116 : Int).toNat 3116 d trivial (by decide) (by decide)
    have e7 : d1 769 7 = 8 := by rw [q2 769 (by decide)]; exact c
    obtain ⟨d2, p1, p2, p3, p4⟩ := lp278 (d := mset d1 769 7 (d1 769 7 - 1)) (u := 7) (by rw [ms_e rfl rfl, e7]; rfl)
    rw [q1]
    show KeepW d (lp_278_54 769 (3116 - 0 : Int).toNat 0 (mset d1 769 7 (d1 769 7 - 1)))
    rw [p1]
    refine ⟨fun b x y => ?_, fun j hj => ?_, Or.inr ⟨c, ms_e rfl rfl, fun i a b => ?_, fun j a b => ?_⟩⟩
    · have e1 : mset d2 769 7 (7 + 1) b = d2 b := by funext j; exact ms_a x
      have e2 : mset d1 769 7 (d1 769 7 - 1) b = d1 b := by funext j; exact ms_a x
      rw [e1, p2 b y, e2, q2 b y]
    · rw [ms_i hj, p2 769 (by decide), ms_i hj, q2 769 (by decide)]
    · rw [ms_a (by decide), p3 i a b, ms_a (by decide), q2 770 (by decide)]
    · rw [ms_a (by decide), p4 j (by omega), ms_a (by decide)]
      have := q3 (j + 3116) (by omega) (by omega)
      rw [show j + 3116 - 3116 = j by omega] at this
      exact this
  · rw [if_neg c]
    obtain ⟨d2, p1, p2, p3, p4⟩ := lp278 (d := d) (u := d 769 7) rfl
    rw [p1]
    refine ⟨fun b x y => ?_, fun j hj => ?_, Or.inl ⟨c, ms_e rfl rfl, fun i a b => ?_, fun j hj => ?_⟩⟩
    · have e1 : mset d2 769 7 (d 769 7 + 1) b = d2 b := by funext j; exact ms_a x
      rw [e1, p2 b y]
    · rw [ms_i hj, p2 769 (by decide)]
    · rw [ms_a (by decide), p3 i a b]
    · rw [ms_a (by decide), p4 j (by omega)]
-- the relation of the two histories
def ksl (n c k : Int) : Int := 66 + 63 * ((n + 8 - c + k) % 8)
def HistRel (d : mD) : Prop := (0 ≤ d 64 1 ∧ d 64 1 < 8) ∧ (0 ≤ d 64 2 ∧ d 64 2 ≤ 8) ∧ d 769 7 = d 64 2 ∧ ∀ k, 0 ≤ k → k < d 64 2 → OKR (ksl (d 64 1) (d 64 2) k) d (fun i => d 771 (3116 * k + i))
def SaveRel (d : mD) : Prop := ∀ j, (j = 0 ∨ j = 1) → d 571 j = d 775 j ∧ (¬ d 775 j = 0 → OKR (643 + 63 * j) d (fun i => d 772 (3116 * j + i)))
theorem HistRel.fr {d d' : mD} (h : HistRel d) (e : ∀ b, 64 ≤ b → b ≤ 569 → d' b = d b) (e7 : d' 769 7 = d 769 7) (e1 : ∀ j, 0 ≤ j → j < 3116 * d 769 7 → d' 771 j = d 771 j) : HistRel d' := by
  obtain ⟨a, b, c, f⟩ := h
  rw [HistRel, e 64 (by decide) (by decide), e7]
  refine ⟨a, b, c, fun k x y => ?_⟩
  have g := f k x y
  have r : 66 ≤ ksl (d 64 1) (d 64 2) k ∧ ksl (d 64 1) (d 64 2) k ≤ 507 := by
    unfold ksl
    omega
  refine OKR.row (w := fun i => d 771 (3116 * k + i)) (fun i i0 i1 => ?_) (g.fr (fun b x y => e b (by omega) (by omega)))
  show d' 771 (3116 * k + i) = d 771 (3116 * k + i)
  exact e1 _ (by omega) (by omega)
theorem SaveRel.fr {d d' : mD} (h : SaveRel d) (e : ∀ b, b = 571 ∨ (643 ≤ b ∧ b ≤ 768) ∨ b = 775 ∨ b = 772 → d' b = d b) : SaveRel d' := by
  intro j hj
  obtain ⟨a, b⟩ := h j hj
  rw [e 571 (by omega), e 775 (by omega), e 772 (by omega)]
  exact ⟨a, fun z => (b z).fr (fun b x y => e b (by omega))⟩
-- the class keeps
theorem keepC {d : mD} {w : Row} (hn : 0 ≤ d 64 1 ∧ d 64 1 < 8) (h : OKR 1 d w) : OKR (66 + 63 * d 64 1) (g_2 64 1 d) w ∧ (∀ b, ¬ b = 64 → ¬ (66 + 63 * d 64 1 ≤ b ∧ b ≤ 66 + 63 * d 64 1 + 62) → g_2 64 1 d b = d b) ∧ g_2 64 1 d 64 1 = (d 64 1 + 1) % 8 ∧ g_2 64 1 d 64 2 = mmin 8 (d 64 2 + 1) := by
  obtain ⟨c1, c2⟩ := h.copy (a := 66 + 63 * d 64 1) (by omega)
  unfold g_2
  rw [show (64 : Int) + 1 + (1 + 63 * d 64 1) = 66 + 63 * d 64 1 by omega]
  generalize g_59 (66 + 63 * d 64 1) 1 d = d1 at *
  have e : ∀ b, ¬ b = 64 → mset (mset d1 64 1 ((d 64 1 + 1) % 8)) 64 2 (mmin 8 (d 64 2 + 1)) b = d1 b := fun b x => by
    funext j
    rw [ms_a x, ms_a x]
  exact ⟨c1.fr (fun b x y => e b (by omega)), fun b x y => by rw [e b x, c2 b (by omega)], by rw [ms_i (by decide), ms_e rfl rfl], ms_e rfl rfl⟩
theorem keepH {d d' : mD} (hH : HistRel d) (h : OKR 1 d (d 770)) (hc : ∀ b, 64 ≤ b → b ≤ 569 → d' b = g_2 64 1 d b) {r r' : mD} (hr : KeepW r r') (r7 : r 769 7 = d 769 7) (r0 : r 770 = d 770) (r1 : r 771 = d 771) (e7 : d' 769 7 = r' 769 7) (e1 : d' 771 = r' 771) : HistRel d' := by
  obtain ⟨hn, hc2, hu, hk⟩ := hH
  obtain ⟨c1, c2, c3, c4⟩ := keepC hn h
  obtain ⟨-, -, kw⟩ := hr
  rw [r7, r0, r1, ← e7, ← e1] at kw
  have hm : mmin 8 (d 64 2 + 1) = if d 64 2 = 8 then 8 else d 64 2 + 1 := by
    have := mmin_r 8 (d 64 2 + 1)
    split <;> omega
  have f1 : d' 64 1 = (d 64 1 + 1) % 8 := by rw [hc 64 (by decide) (by decide)]; exact c3
  have f2 : d' 64 2 = if d 64 2 = 8 then 8 else d 64 2 + 1 := by rw [hc 64 (by decide) (by decide), c4, hm]
  have new : ∀ {w : Row}, REq (d 770) w → OKR (66 + 63 * d 64 1) d' w := fun e => (c1.fr (fun b x y => hc b (by omega) (by omega))).row e
  have old : ∀ {w : Row} {a : Int}, OKR (66 + 63 * a) d w → 0 ≤ a → a < 8 → ¬ a = d 64 1 → OKR (66 + 63 * a) d' w := fun o x y z => o.fr (fun b u v => by
    rw [hc b (by omega) (by omega)]
    exact c2 b (by omega) (by omega))
  rcases kw with ⟨k0, k1, k2, k3⟩ | ⟨k0, k1, k2, k3⟩
  · rw [hu] at k0 k1 k2 k3
    rw [if_neg k0] at f2
    refine ⟨by omega, by omega, by omega, fun k x y => ?_⟩
    rw [f1, f2]
    by_cases z : k = d 64 2
    · have e : ksl ((d 64 1 + 1) % 8) (d 64 2 + 1) k = 66 + 63 * d 64 1 := by
        unfold ksl
        omega
      rw [e]
      refine new (fun i i0 i1 => ?_)
      show d' 771 (3116 * k + i) = d 770 i
      rw [z]
      exact k2 i i0 i1
    · have e : ksl ((d 64 1 + 1) % 8) (d 64 2 + 1) k = 66 + 63 * ((d 64 1 + 8 - d 64 2 + k) % 8) := by
        unfold ksl
        omega
      rw [e]
      refine OKR.row (w := fun i => d 771 (3116 * k + i)) (fun i i0 i1 => ?_) (old (hk k x (by omega)) (by omega) (by omega) (by omega))
      show d' 771 (3116 * k + i) = d 771 (3116 * k + i)
      exact k3 _ (by omega)
  · rw [hu] at k0
    rw [if_pos k0] at f2
    refine ⟨by omega, by omega, by omega, fun k x y => ?_⟩
    rw [f1, f2]
    by_cases z : k = 7
    · have e : ksl ((d 64 1 + 1) % 8) 8 k = 66 + 63 * d 64 1 := by
        unfold ksl
        omega
      rw [e]
      refine new (fun i i0 i1 => ?_)
      show d' 771 (3116 * k + i) = d 770 i
      rw [z]
      exact k2 i i0 i1
    · have e : ksl ((d 64 1 + 1) % 8) 8 k = 66 + 63 * ((d 64 1 + 8 - d 64 2 + (k + 1)) % 8) := by
        unfold ksl
        omega
      rw [e]
      refine OKR.row (w := fun i => d 771 (3116 * (k + 1) + i)) (fun i i0 i1 => ?_) (old (hk (k + 1) (by omega) (by omega)) (by omega) (by omega) (by omega))
      show d' 771 (3116 * k + i) = d 771 (3116 * (k + 1) + i)
      rw [k3 _ (by omega) (by omega), show 3116 * k + i + 3116 = 3116 * (k + 1) + i by omega]
/-! ===== undo, save, restore ===== -/
def UndoW (d d' : mD) : Prop := (∀ b, ¬ b = 769 → ¬ b = 770 → d' b = d b) ∧ (∀ j, ¬ j = 7 → ¬ j = 0 → d' 769 j = d 769 j) ∧ d' 769 0 = 0 ∧ d' 769 7 = d 769 7 - 1 ∧ ∀ i, 0 ≤ i → i < 3116 → d' 770 i = d 771 (3116 * (d 769 7 - 1) + i)
theorem undo294 {d : mD} (h : 0 < d 769 7) : v_294 769 d = d 769 7 - 1 ∧ UndoW d (g_294 769 d) := by
  obtain ⟨d', q1, q2, q3, q4⟩ := copyLoop (L := lp_294_37 769) (F := fun e => (e 769 7, e)) (I := fun e => e 769 7 = d 769 7 - 1) (A := 770) (B := 0) (C := 771) (D := 3116 * (d 769 7 - 1)) (N := 3116) (by decide) (fun e j v hi => by show mset e 770 j v 769 7 = _; rw [ms_a (by decide)]; exact hi) (fun n x e hi hx => by
    have st : ∀ r, st_294_37 769 r x e = (e 769 7, e) := fun r => by
      unfold st_294_37
      rw [if_neg (by omega)]
    cases n with
    | zero => exact st _
    | succ n => exact st _) (fun n x e hi hx => by
    show st_294_37 769 _ x e = _
    unfold st_294_37
    rw [if_pos hx, hi, Int.zero_add]
    rfl) (3116 - 0 : Int).toNat 0 (mset (mset d 769 0 0) 769 7 (d 769 7 - 1)) (ms_e rfl rfl) (by decide) (by decide)
  have e : f_294 769 d = (d' 769 7, d') := by
    unfold f_294
    rw [if_pos h]
    exact q1
  unfold v_294 g_294
  rw [e]
  have d7 : d' 769 = (mset (mset d 769 0 0) 769 7 (d 769 7 - 1)) 769 := q2 769 (by decide)
  refine ⟨?_, fun b x y => ?_, fun j x y => ?_, ?_, ?_, fun i a b => ?_⟩
  · show d' 769 7 = _
    rw [d7, ms_e rfl rfl]
  · show d' b = d b
    rw [q2 b y]
    funext j
    rw [ms_a x, ms_a x]
  · show d' 769 j = _
    rw [d7, ms_i x, ms_i y]
  · show d' 769 0 = 0
    rw [d7, ms_i (by decide), ms_e rfl rfl]
  · show d' 769 7 = _
    rw [d7, ms_e rfl rfl]
  · show d' 770 i = _
    have := q3 i a b
    rw [Int.zero_add, ms_a (by decide), ms_a (by decide)] at this
    exact this
theorem undoC {d : mD} {w : Row} (hn : 0 ≤ d 64 1 ∧ d 64 1 < 8) (h : OKR (66 + 63 * ((d 64 1 + 8 - 1) % 8)) d w) : OKR 1 (g_3 64 1 d) w ∧ (∀ b, ¬ b = 64 → ¬ (1 ≤ b ∧ b ≤ 63) → g_3 64 1 d b = d b) ∧ g_3 64 1 d 64 1 = (d 64 1 + 8 - 1) % 8 ∧ g_3 64 1 d 64 2 = d 64 2 - 1 := by
  unfold g_3
  have e : ∀ b, ¬ b = 64 → mset (mset d 64 1 ((d 64 1 + 8 - 1) % 8)) 64 2 (d 64 2 - 1) b = d b := fun b x => by
    funext j
    rw [ms_a x, ms_a x]
  have e1 : mset (mset d 64 1 ((d 64 1 + 8 - 1) % 8)) 64 2 (d 64 2 - 1) 64 1 = (d 64 1 + 8 - 1) % 8 := by
    rw [ms_i (by decide), ms_e rfl rfl]
  have e2 : mset (mset d 64 1 ((d 64 1 + 8 - 1) % 8)) 64 2 (d 64 2 - 1) 64 2 = d 64 2 - 1 := ms_e rfl rfl
  rw [show (64 : Int) + 1 + (1 + 63 * ((d 64 1 + 8 - 1) % 8)) = 66 + 63 * ((d 64 1 + 8 - 1) % 8) by omega]
  generalize mset (mset d 64 1 ((d 64 1 + 8 - 1) % 8)) 64 2 (d 64 2 - 1) = d1 at *
  obtain ⟨c1, c2⟩ := (h.fr (d' := d1) (fun b x y => e b (by omega))).copy (a := 1) (by omega)
  refine ⟨c1, fun b x y => by rw [c2 b (by omega), e b x], ?_, ?_⟩
  · rw [c2 64 (by omega), e1]
  · rw [c2 64 (by omega), e2]
theorem undoH {d d' : mD} (hH : HistRel d) (hp : 0 < d 64 2) (hc : ∀ b, 1 ≤ b → b ≤ 569 → d' b = g_3 64 1 d b) {r r' : mD} (hr : UndoW r r') (r7 : r 769 7 = d 769 7) (r1 : r 771 = d 771) (e7 : d' 769 7 = r' 769 7) (e0 : d' 770 = r' 770) (e1 : d' 771 = r' 771) : HistRel d' ∧ OKR 1 d' (d' 770) := by
  obtain ⟨hn, hc2, hu, hk⟩ := hH
  have top := hk (d 64 2 - 1) (by omega) (by omega)
  have et : ksl (d 64 1) (d 64 2) (d 64 2 - 1) = 66 + 63 * ((d 64 1 + 8 - 1) % 8) := by
    unfold ksl
    omega
  rw [et] at top
  obtain ⟨c1, c2, c3, c4⟩ := undoC hn top
  obtain ⟨u1, -, -, u2, u3⟩ := hr
  rw [r7, ← e7, hu] at u2
  rw [r7, r1, ← e0, hu] at u3
  have f1 : d' 64 1 = (d 64 1 + 8 - 1) % 8 := by rw [hc 64 (by decide) (by decide)]; exact c3
  have f2 : d' 64 2 = d 64 2 - 1 := by rw [hc 64 (by decide) (by decide)]; exact c4
  have f3 : d' 771 = d 771 := by rw [e1, u1 771 (by decide) (by decide), r1]
  refine ⟨⟨by omega, by omega, by omega, fun k x y => ?_⟩, ?_⟩
  · rw [f1, f2, f3]
    rw [f2] at y
    have e : ksl ((d 64 1 + 8 - 1) % 8) (d 64 2 - 1) k = ksl (d 64 1) (d 64 2) k := by
      unfold ksl
      omega
    rw [e]
    have r : 66 ≤ ksl (d 64 1) (d 64 2) k ∧ ksl (d 64 1) (d 64 2) k ≤ 507 := by
      unfold ksl
      omega
    exact (hk k x (by omega)).fr (fun b x y => by rw [hc b (by omega) (by omega), c2 b (by omega) (by omega)])
  · refine OKR.row (w := fun i => d 771 (3116 * (d 64 2 - 1) + i)) (fun i a b => u3 i a b) (c1.fr (fun b x y => hc b (by omega) (by omega)))
-- nothing can be undone
theorem noneH {d' : mD} (h1 : 0 ≤ d' 64 1 ∧ d' 64 1 < 8) (h2 : d' 64 2 = 0) (h7 : d' 769 7 = 0) : HistRel d' := ⟨h1, by omega, by omega, fun k x y => by omega⟩
-- save
def SaveW (a : Int) (d d' : mD) : Prop := (∀ b, ¬ b = 772 → ¬ b = 775 → d' b = d b) ∧ d' 775 a = 1 ∧ (∀ j, ¬ j = a → d' 775 j = d 775 j) ∧ (∀ i, 0 ≤ i → i < 3116 → d' 772 (3116 * a + i) = d 770 i) ∧ ∀ j, ¬ (3116 * a ≤ j ∧ j < 3116 * a + 3116) → d' 772 j = d 772 j
theorem save295 {a : Int} {d : mD} : SaveW a d (lp_295_29 769 a (3116 - 0 : Int).toNat 0 d) := by
  obtain ⟨d', q1, q2, q3, q4⟩ := copyLoop (L := lp_295_29 769 a) (F := fun e => mset e 775 a 1) (I := fun _ => True) (A := 772) (B := 3116 * a) (C := 770) (D := 0) (N := 3116) (by decide) (fun _ _ _ _ => trivial) (fun n x e _ hx => by
    have st : ∀ r, st_295_29 769 a r x e = mset e 775 a 1 := fun r => by
      unfold st_295_29
      rw [if_neg (by omega)]
      rfl
    cases n with
    | zero => exact st _
    | succ n => exact st _) (fun n x e _ hx => by
    show st_295_29 769 a _ x e = _
    unfold st_295_29
    rw [if_pos hx, Int.zero_add]
    rfl) (3116 - 0 : Int).toNat 0 d trivial (by decide) (by decide)
  rw [q1]
  refine ⟨fun b x y => ?_, ms_e rfl rfl, fun j hj => ?_, fun i x y => ?_, fun j hj => ?_⟩
  · show mset d' 775 a 1 b = _
    rw [← q2 b x]
    funext j
    exact ms_a y
  · show mset d' 775 a 1 775 j = _
    rw [ms_i hj, q2 775 (by decide)]
  · show mset d' 775 a 1 772 _ = _
    rw [ms_a (by decide), q3 i x y, Int.zero_add]
  · show mset d' 775 a 1 772 _ = _
    rw [ms_a (by decide)]
    exact q4 j (by omega)
theorem saveH {a : Int} {d d' : mD} (ha : a = 0 ∨ a = 1) (hS : SaveRel d) (h : OKR 1 d (d 770)) (hc : ∀ b, 571 ≤ b → b ≤ 768 → d' b = mset (g_59 (643 + 63 * a) 1 d) 571 a 1 b) {r r' : mD} (hr : SaveW a r r') (r0 : r 770 = d 770) (r2 : r 772 = d 772) (r5 : r 775 = d 775) (e2 : d' 772 = r' 772) (e5 : d' 775 = r' 775) : SaveRel d' := by
  obtain ⟨c1, c2⟩ := h.copy (a := 643 + 63 * a) (by omega)
  obtain ⟨-, u1, u2, u3, u4⟩ := hr
  rw [← e5] at u1
  rw [← e5, r5] at u2
  rw [← e2, r0] at u3
  rw [← e2, r2] at u4
  have g571 : g_59 (643 + 63 * a) 1 d 571 = d 571 := c2 571 (by omega)
  intro j hj
  by_cases z : j = a
  · refine ⟨?_, fun _ => ?_⟩
    · rw [hc 571 (by decide) (by decide), z, ms_e rfl rfl, u1]
    · rw [z]
      refine OKR.row (w := d 770) (fun i x y => u3 i x y) (c1.fr (fun b x y => ?_))
      rw [hc b (by omega) (by omega)]
      funext k
      exact ms_a (by omega)
  · obtain ⟨s1, s2⟩ := hS j hj
    refine ⟨?_, fun y => ?_⟩
    · rw [hc 571 (by decide) (by decide), ms_i z, u2 j z, g571]
      exact s1
    · rw [u2 j z] at y
      refine OKR.row (w := fun i => d 772 (3116 * j + i)) (fun i x y => u4 _ (by omega)) ((s2 y).fr (fun b x y => ?_))
      rw [hc b (by omega) (by omega), ← c2 b (by omega)]
      funext k
      exact ms_a (by omega)
-- restore
def RestW (a : Int) (d d' : mD) : Prop := (∀ b, ¬ b = 769 → ¬ b = 770 → d' b = d b) ∧ d' 769 7 = 0 ∧ (∀ j, ¬ j = 7 → d' 769 j = d 769 j) ∧ ∀ i, 0 ≤ i → i < 3116 → d' 770 i = d 772 (3116 * a + i)
theorem rest296 {a : Int} {d : mD} : RestW a d (lp_296_42 769 a (3116 - 0 : Int).toNat 0 d) := by
  obtain ⟨d', q1, q2, q3, q4⟩ := copyLoop (L := lp_296_42 769 a) (F := fun e => mset e 769 7 0) (I := fun _ => True) (A := 770) (B := 0) (C := 772) (D := 3116 * a) (N := 3116) (by decide) (fun _ _ _ _ => trivial) (fun n x e _ hx => by
    have st : ∀ r, st_296_42 769 a r x e = mset e 769 7 0 := fun r => by
      unfold st_296_42
      rw [if_neg (by omega)]
    cases n with
    | zero => exact st _
    | succ n => exact st _) (fun n x e _ hx => by
    show st_296_42 769 a _ x e = _
    unfold st_296_42
    rw [if_pos hx, Int.zero_add]
    rfl) (3116 - 0 : Int).toNat 0 d trivial (by decide) (by decide)
  rw [q1]
  refine ⟨fun b x y => ?_, ms_e rfl rfl, fun j hj => ?_, fun i x y => ?_⟩
  · show mset d' 769 7 0 b = _
    rw [← q2 b y]
    funext j
    exact ms_a x
  · show mset d' 769 7 0 769 j = _
    rw [ms_i hj, q2 769 (by decide)]
  · show mset d' 769 7 0 770 _ = _
    have := q3 i x y
    rw [Int.zero_add] at this
    rw [ms_a (by decide), this]
theorem restH {a : Int} {d d' : mD} (ha : a = 0 ∨ a = 1) (hS : SaveRel d) (hv : ¬ d 775 a = 0) (hn : 0 ≤ d 64 1 ∧ d 64 1 < 8) (hc : ∀ b, 1 ≤ b → b ≤ 65 → d' b = g_4 64 (g_59 1 (643 + 63 * a) d) b) {r r' : mD} (hr : RestW a r r') (r2 : r 772 = d 772) (e7 : d' 769 7 = r' 769 7) (e0 : d' 770 = r' 770) : HistRel d' ∧ OKR 1 d' (d' 770) := by
  obtain ⟨-, u1, -, u2⟩ := hr
  rw [← e7] at u1
  rw [← e0, r2] at u2
  obtain ⟨c1, c2⟩ := ((hS a ha).2 hv).copy (a := 1) (by omega)
  have f64 : d' 64 = g_4 64 (g_59 1 (643 + 63 * a) d) 64 := hc 64 (by decide) (by decide)
  refine ⟨noneH ?_ ?_ u1, OKR.row (w := fun i => d 772 (3116 * a + i)) (fun i x y => u2 i x y) (c1.fr (fun b x y => ?_))⟩
  · rw [f64]
    unfold g_4
    rw [ms_i (by decide), c2 64 (by omega)]
    exact hn
  · rw [f64]
    unfold g_4
    exact ms_e rfl rfl
  · rw [hc b (by omega) (by omega)]
    unfold g_4
    funext k
    exact ms_a (by omega)
/-! ===== the text: bytes ===== -/
theorem bvByte (x : BitVec 8) (y : BitVec 32) (h : ∀ i, i < 32 → y.getLsbD i = (decide (i < 8) && x.getLsbD i)) : x.toInt % 256 = y.toInt := by
  have e : y = x.setWidth 32 := by
    apply BitVec.eq_of_getLsbD_eq
    intro i hi
    rw [h i hi, BitVec.getLsbD_setWidth]
    by_cases q : i < 8
    · simp [q, hi]
    · simp [q, BitVec.getLsbD_of_ge x i (by omega)]
  have hx := x.isLt
  have ey : y.toNat = x.toNat := by
    rw [e, BitVec.toNat_setWidth]
    exact Nat.mod_eq_of_lt (by omega)
  rw [BitVec.toInt_eq_toNat_cond, BitVec.toInt_eq_toNat_cond, ey]
  split <;> split <;> omega
theorem i2bB (X : Int) : mi2b X = (((Int32.ofInt X).toBitVec).setWidth 8).toInt := by
  unfold mi2b
  rw [Int8.toInt_toInt32]
  show (((Int32.ofInt X).toInt8).toBitVec).toInt = _
  rw [Int32.toBitVec_toInt8, BitVec.signExtend_eq_setWidth_of_le _ (by decide)]
theorem andB (W : Int) (k : Nat) (h : k < 31) (i : Nat) (hi : i < 32) : ((Int32.ofInt W >>> (Int32.ofInt (k : Int) &&& 31)) &&& Int32.ofInt 255).toBitVec.getLsbD i = (decide (i < 8) && ((Int32.ofInt W).toBitVec.sshiftRight k).getLsbD i) := by
  have e1 : (Int32.ofInt W >>> (Int32.ofInt (k : Int) &&& 31)).toBitVec = (Int32.ofInt W).toBitVec.sshiftRight k := by
    rw [Int32.toBitVec_shiftRight]
    have e3 : ((Int32.ofInt (k : Int) &&& 31).toBitVec.smod 32).toNat = k := by
      have : ∀ k : Fin 31, ((Int32.ofInt ((k.val : Nat) : Int) &&& 31).toBitVec.smod 32).toNat = k.val := by decide +kernel
      exact this ⟨k, h⟩
    show (Int32.ofInt W).toBitVec.sshiftRight (((Int32.ofInt (k : Int) &&& 31).toBitVec.smod 32).toNat) = _
    rw [e3]
  have e2 : ∀ i : Fin 32, (Int32.ofInt 255).toBitVec.getLsbD i.val = decide (i.val < 8) := by decide +kernel
  rw [Int32.toBitVec_and, BitVec.getLsbD_and, e1, e2 ⟨i, hi⟩, Bool.and_comm]
theorem byteEq (W : Int) (k : Nat) (h : k ≤ 24) : mi2b (miushr W (k : Int)) % 256 = miand (mishr W (k : Int)) 255 := by
  rw [i2bB]
  unfold miand mI mishr mI miushr mI
  rw [m_back, m_back]
  refine bvByte _ _ (fun i hi => ?_)
  rw [andB W k (by omega) i hi, BitVec.getLsbD_sshiftRight, BitVec.getLsbD_setWidth]
  by_cases q : i < 8
  · have e1 : ((Int32.ofInt W).toUInt32 >>> ((Int32.ofInt (k : Int)).toUInt32 &&& Int32.toUInt32 31)).toInt32.toBitVec = (Int32.ofInt W).toBitVec >>> k := by
      have e3 : ((Int32.ofInt (k : Int)).toUInt32 &&& Int32.toUInt32 31).toNat % 32 = k := by
        have : ∀ k : Fin 31, ((Int32.ofInt ((k.val : Nat) : Int)).toUInt32 &&& Int32.toUInt32 31).toNat % 32 = k.val := by decide +kernel
        exact this ⟨k, by omega⟩
      apply BitVec.eq_of_toNat_eq
      show ((Int32.ofInt W).toUInt32 >>> ((Int32.ofInt (k : Int)).toUInt32 &&& Int32.toUInt32 31)).toNat = _
      rw [UInt32.toNat_shiftRight, e3, BitVec.toNat_ushiftRight]
      rfl
    rw [e1, BitVec.getLsbD_ushiftRight]
    have c : k + i < 32 := by omega
    simp [q, c]
    omega
  · simp [q]
theorem byteEq0 (W : Int) : mi2b W % 256 = miand (mishr W 0) 255 := by
  rw [i2bB]
  unfold miand mI mishr mI
  rw [m_back]
  refine bvByte _ _ (fun i hi => ?_)
  have h := andB W 0 (by omega) i hi
  rw [BitVec.getLsbD_sshiftRight] at h
  have h2 : ((Int32.ofInt W >>> (Int32.ofInt 0 &&& 31)) &&& Int32.ofInt 255).toBitVec.getLsbD i = _ := h
  rw [h2, BitVec.getLsbD_setWidth]
  by_cases q : i < 8
  · have c : 0 + i < 32 := by omega
    rw [Nat.zero_add] at c
    rw [Nat.zero_add]
    have c2 : ¬ 32 ≤ i := by omega
    simp only [q, c, c2, decide_true, decide_false, Bool.true_and, Bool.not_false, Bool.true_and, if_true, if_pos]
  · simp [q]
/-! ===== the text of both sides ===== -/
def TextR (d e : mD) : Prop := (0 ≤ d 578 1 ∧ d 578 1 ≤ 1000) ∧ e 769 9 = d 578 1 ∧ ∀ i, 0 ≤ i → i < d 578 1 → d 579 i % 256 = e 776 i ∧ -128 ≤ d 579 i ∧ d 579 i ≤ 127
theorem i2b_rng (X : Int) : -128 ≤ mi2b X ∧ mi2b X ≤ 127 := by
  rw [i2bB]
  have h := ((Int32.ofInt X).toBitVec.setWidth 8).isLt
  rw [BitVec.toInt_eq_toNat_cond]
  split <;> omega
theorem TextR.fr {d d' e e' : mD} (h : TextR d e) (h1 : d' 578 1 = d 578 1) (h2 : d' 579 = d 579) (h3 : e' 769 9 = e 769 9) (h4 : e' 776 = e 776) : TextR d' e' := by
  unfold TextR
  rw [h1, h2, h3, h4]
  exact h
theorem TextR.put {d e : mD} {v u : Int} (h : TextR d e) (hl : d 578 1 < 1000) (hu : mi2b v % 256 = u) : TextR (g_86 578 v d) (mset (mset e 776 (e 769 9) u) 769 9 (e 769 9 + 1)) ∧ g_86 578 v d 578 1 = d 578 1 + 1 ∧ ∀ b, ¬ b = 578 → ¬ b = 579 → g_86 578 v d b = d b := by
  obtain ⟨h1, h2, h3⟩ := h
  have hr := i2b_rng v
  have e1 : g_86 578 v d = mset (mset d 579 (d 578 1) (mi2b v)) 578 1 (d 578 1 + 1) := by
    unfold g_86
    rw [if_pos hl]
    rfl
  rw [e1, h2]
  refine ⟨⟨?_, ?_, fun i a b => ?_⟩, ms_e rfl rfl, fun b x y => ?_⟩
  · rw [ms_e rfl rfl]; omega
  · rw [ms_e rfl rfl, ms_e rfl rfl]
  · rw [ms_e rfl rfl] at b
    have q1 : ∀ j, mset (mset d 579 (d 578 1) (mi2b v)) 578 1 (d 578 1 + 1) 579 j = mset d 579 (d 578 1) (mi2b v) 579 j := fun j => ms_a (by decide)
    have q2 : ∀ j, mset (mset e 776 (d 578 1) u) 769 9 (d 578 1 + 1) 776 j = mset e 776 (d 578 1) u 776 j := fun j => ms_a (by decide)
    rw [q1, q2]
    by_cases z : i = d 578 1
    · rw [z, ms_e rfl rfl, ms_e rfl rfl]
      exact ⟨hu, hr⟩
    · rw [ms_i z, ms_i z]
      exact h3 i a (by omega)
  · funext j
    rw [ms_a x, ms_a y]
def putR (x k : Int) (e : mD) : mD := mset (mset e 776 (e 769 9) (miand (mishr x k) 255)) 769 9 (e 769 9 + 1)
theorem st185 {x : Int} {e : mD} : g_185 769 x e = putR x 0 (putR x 8 (putR x 16 (putR x 24 e))) := by
  have s : ∀ (n : Nat) (k : Int) (e : mD), 0 ≤ k → lp_185_3 769 x (n + 1) k e = lp_185_3 769 x n (k + -8) (putR x k e) := fun n k e hk => by
    show st_185_3 769 x _ k e = _
    unfold st_185_3
    rw [if_neg (by omega)]
    rfl
  have z : ∀ (n : Nat) (k : Int) (e : mD), k < 0 → lp_185_3 769 x n k e = e := fun n k e hk => by
    have st : ∀ r, st_185_3 769 x r k e = e := fun r => by
      unfold st_185_3
      rw [if_pos hk]
    cases n with
    | zero => exact st _
    | succ n => exact st _
  unfold g_185
  rw [show (24 + 8 : Int).toNat = 28 + 1 + 1 + 1 + 1 by decide, s _ 24 e (by decide), s _ (24 + -8) _ (by decide), s _ (24 + -8 + -8) _ (by decide), s _ (24 + -8 + -8 + -8) _ (by decide), z _ _ _ (by decide)]
  rfl
theorem TextR.int {d e : mD} {x : Int} (h : TextR d e) (hl : d 578 1 + 4 ≤ 1000) : TextR (g_87 578 x d) (g_185 769 x e) ∧ g_87 578 x d 578 1 = d 578 1 + 4 ∧ ∀ b, ¬ b = 578 → ¬ b = 579 → g_87 578 x d b = d b := by
  rw [st185]
  unfold g_87
  obtain ⟨a1, a2, a3⟩ := h.put (v := miushr x 24) (u := miand (mishr x 24) 255) (by omega) (byteEq x 24 (by decide))
  obtain ⟨b1, b2, b3⟩ := a1.put (v := miushr x 16) (u := miand (mishr x 16) 255) (by omega) (byteEq x 16 (by decide))
  obtain ⟨c1, c2, c3⟩ := b1.put (v := miushr x 8) (u := miand (mishr x 8) 255) (by omega) (byteEq x 8 (by decide))
  obtain ⟨f1, f2, f3⟩ := c1.put (v := x) (u := miand (mishr x 0) 255) (by omega) (byteEq0 x)
  exact ⟨f1, by omega, fun b x y => by rw [f3 b x y, c3 b x y, b3 b x y, a3 b x y]⟩
theorem putR_f {x k : Int} {e : mD} : (∀ b, ¬ b = 769 → ¬ b = 776 → putR x k e b = e b) ∧ ∀ j, ¬ j = 9 → putR x k e 769 j = e 769 j := by
  unfold putR
  exact ⟨fun b h1 h2 => by funext j; rw [ms_a h1, ms_a h2], fun j hj => by rw [ms_i hj, ms_a (by decide)]⟩
theorem f185 {x : Int} {e : mD} : (∀ b, ¬ b = 769 → ¬ b = 776 → g_185 769 x e b = e b) ∧ ∀ j, ¬ j = 9 → g_185 769 x e 769 j = e 769 j := by
  rw [st185]
  exact ⟨fun b h1 h2 => by rw [putR_f.1 b h1 h2, putR_f.1 b h1 h2, putR_f.1 b h1 h2, putR_f.1 b h1 h2], fun j hj => by rw [putR_f.2 j hj, putR_f.2 j hj, putR_f.2 j hj, putR_f.2 j hj]⟩
theorem TextR.app {d e : mD} {a b c x y : Int} (h : TextR d e) (hl : d 578 1 + 20 ≤ 1000) : TextR (g_87 578 y (g_87 578 x (g_87 578 c (g_87 578 b (g_87 578 a d))))) (g_185 769 y (g_185 769 x (g_185 769 c (g_185 769 b (g_185 769 a e))))) ∧ g_87 578 y (g_87 578 x (g_87 578 c (g_87 578 b (g_87 578 a d)))) 578 1 = d 578 1 + 20 ∧ ∀ k, ¬ k = 578 → ¬ k = 579 → g_87 578 y (g_87 578 x (g_87 578 c (g_87 578 b (g_87 578 a d)))) k = d k := by
  obtain ⟨a1, a2, a3⟩ := h.int (x := a) (by omega)
  obtain ⟨b1, b2, b3⟩ := a1.int (x := b) (by omega)
  obtain ⟨c1, c2, c3⟩ := b1.int (x := c) (by omega)
  obtain ⟨f1, f2, f3⟩ := c1.int (x := x) (by omega)
  obtain ⟨g1, g2, g3⟩ := f1.int (x := y) (by omega)
  exact ⟨g1, by omega, fun k u v => by rw [g3 k u v, f3 k u v, c3 k u v, b3 k u v, a3 k u v]⟩
-- letters, digits, blanks
theorem v176 {x a b : Int} {d : mD} : v_176 x a b d = if a ≤ x ∧ x ≤ b then 1 else 0 := by
  unfold v_176
  have h1 : mcmp x a < 0 ↔ x < a := by
    unfold mcmp
    split
    · omega
    · split <;> omega
  have h2 : 0 < mcmp x b ↔ b < x := by
    unfold mcmp
    split
    · omega
    · split <;> omega
  by_cases c1 : x < a
  · rw [if_pos (h1.2 c1), if_neg (by omega)]
  · rw [if_neg (fun z => c1 (h1.1 z))]
    by_cases c2 : b < x
    · rw [if_pos (h2.2 c2), if_neg (by omega)]
    · rw [if_neg (fun z => c2 (h2.1 z)), if_pos (by omega)]
theorem TextR.letter {d e : mD} {i : Int} (h : TextR d e) (h0 : 0 ≤ i) (h1 : i < d 578 1) : (v_91 578 i d = 0 ∨ v_91 578 i d = 1) ∧ v_190 769 i e = v_91 578 i d ∧ (v_91 578 i d = 1 → e 776 i = d 579 i ∧ 97 ≤ d 579 i ∧ d 579 i ≤ 122) := by
  obtain ⟨a, b, c⟩ := h
  have g := c i h0 h1
  unfold v_190 v_91
  rw [v176, show (769 : Int) + 7 = 776 by decide, show (578 : Int) + 1 = 579 by decide, b, if_pos h1]
  by_cases c1 : d 579 i < 97
  · have zz : ¬ (97 ≤ e 776 i ∧ e 776 i ≤ 122) := by omega
    rw [if_pos c1, if_neg zz, if_pos rfl]
    exact ⟨Or.inl rfl, rfl, fun z => absurd z (by decide)⟩
  · rw [if_neg c1]
    by_cases c2 : 122 < d 579 i
    · have zz : ¬ (97 ≤ e 776 i ∧ e 776 i ≤ 122) := by omega
      rw [if_pos c2, if_neg zz, if_pos rfl]
      exact ⟨Or.inl rfl, rfl, fun z => absurd z (by decide)⟩
    · have zz : 97 ≤ e 776 i ∧ e 776 i ≤ 122 := by omega
      rw [if_neg c2, if_pos zz, if_neg (by decide)]
      exact ⟨Or.inr rfl, rfl, fun _ => by omega⟩
-- the whole text as a name
theorem okStep {c l i : Int} (h : (c = 0 ∧ i = 0) ∨ (okN c ∧ 1 ≤ i)) (hb : (i = 0 ∧ c < 1) ∨ (i = 1 ∧ c < 32) ∨ (i = 2 ∧ c < 1024) ∨ (i = 3 ∧ c < 32768) ∨ (i = 4 ∧ c < 1048576) ∨ (i = 5 ∧ c < 33554432)) (hl : 1 ≤ l ∧ l ≤ 26) : okN (32 * c + l) ∧ nm (32 * c + l) = l + 27 * nm c ∧ ((i = 0 ∧ 32 * c + l < 32) ∨ (i = 1 ∧ 32 * c + l < 1024) ∨ (i = 2 ∧ 32 * c + l < 32768) ∨ (i = 3 ∧ 32 * c + l < 1048576) ∨ (i = 4 ∧ 32 * c + l < 33554432) ∨ (i = 5 ∧ 32 * c + l < 1073741824)) := by
  have c0 : 0 ≤ c := by
    rcases h with h | h
    · omega
    · have := h.1.1
      omega
  have e0 : (32 * c + l) % 32 = l := by clear h hb; omega
  have e1 : (32 * c + l) / 32 % 32 = c % 32 := by clear h hb; omega
  have e2 : (32 * c + l) / 1024 % 32 = c / 32 % 32 := by clear h hb; omega
  have e3 : (32 * c + l) / 32768 % 32 = c / 1024 % 32 := by clear h hb; omega
  have e4 : (32 * c + l) / 1048576 % 32 = c / 32768 % 32 := by clear h hb; omega
  have e5 : (32 * c + l) / 33554432 % 32 = c / 1048576 % 32 := by clear h hb; omega
  have hc5 : c < 33554432 := by
    clear h
    rcases hb with z | z | z | z | z | z <;> omega
  have e6 : c / 33554432 % 32 = 0 := by clear h hb; omega
  refine ⟨?_, ?_, by clear e0 e1 e2 e3 e4 e5 e6 h; rcases hb with z | z | z | z | z | z <;> omega⟩
  · unfold okN
    rw [e0, e1, e2, e3, e4, e5]
    rcases h with h | h
    · rw [h.1]
      exact ⟨by omega, by omega, hl, by decide, by decide, by decide, by decide, by decide, fun _ => by decide, fun _ => by decide, fun _ => by decide, fun _ => by decide⟩
    · obtain ⟨o1, o2, o3, o4, o5, o6, o7, o8, o9, o10, o11, o12⟩ := h.1
      exact ⟨by omega, by omega, hl, o3.2, o4, o5, o6, o7, fun z => by omega, o9, o10, o11⟩
  · unfold nm
    rw [e0, e1, e2, e3, e4, e5, e6]
    omega
/-! ===== the content of the text as a name ===== -/
theorem neg210 {e : mD} : ∀ (n : Nat) (x1 x2 : Int), x1 < 0 → e 769 9 - x2 ≤ (n : Int) → lp_210_4 769 n x1 x2 e = (0, mset e 769 9 0) := by
  have fin : ∀ r x1 x2, x1 < 0 → ¬ x2 < e 769 9 → st_210_4 769 r x1 x2 e = (0, mset e 769 9 0) := fun r x1 x2 a b => by
    unfold st_210_4
    rw [if_neg b, if_pos a]
  intro n
  induction n with
  | zero => intro x1 x2 a b; exact fin _ x1 x2 a (by omega)
  | succ n ih =>
    intro x1 x2 a b
    by_cases c : x2 < e 769 9
    · show st_210_4 769 _ x1 x2 e = _
      unfold st_210_4
      rw [if_pos c]
      split
      · exact ih (-1) (x2 + 1) (by decide) (by omega)
      · split
        · exact ih (-1) (x2 + 1) (by decide) (by omega)
        · exact ih (-1) (x2 + 1) (by decide) (by omega)
    · exact fin _ x1 x2 a c
theorem long210 {e : mD} (hl : 6 < e 769 9) : ∀ (n : Nat) (x1 x2 : Int), x2 ≤ 6 → e 769 9 - x2 ≤ (n : Int) → lp_210_4 769 n x1 x2 e = (0, mset e 769 9 0) := by
  intro n
  induction n with
  | zero => intro x1 x2 a b; omega
  | succ n ih =>
    intro x1 x2 a b
    show st_210_4 769 _ x1 x2 e = _
    unfold st_210_4
    rw [if_pos (by omega)]
    split
    · exact neg210 n (-1) (x2 + 1) (by decide) (by omega)
    · by_cases c : x2 < 6
      · rw [if_pos c]
        split
        · exact neg210 n (-1) (x2 + 1) (by decide) (by omega)
        · exact ih _ (x2 + 1) (by omega) (by omega)
      · rw [if_neg c]
        exact neg210 n (-1) (x2 + 1) (by decide) (by omega)
def nmB (i c : Int) : Prop := (i = 0 ∧ c < 1) ∨ (i = 1 ∧ c < 32) ∨ (i = 2 ∧ c < 1024) ∨ (i = 3 ∧ c < 32768) ∨ (i = 4 ∧ c < 1048576) ∨ (i = 5 ∧ c < 33554432) ∨ (i = 6 ∧ c < 1073741824)
theorem nmB.lt {i c : Int} (h : nmB i c) (hi : i < 6) : (i = 0 ∧ c < 1) ∨ (i = 1 ∧ c < 32) ∨ (i = 2 ∧ c < 1024) ∨ (i = 3 ∧ c < 32768) ∨ (i = 4 ∧ c < 1048576) ∨ (i = 5 ∧ c < 33554432) := by
  unfold nmB at h
  rcases h with h | h | h | h | h | h | h <;> omega
theorem nmB.b5 {i c : Int} (h : (i = 0 ∧ c < 1) ∨ (i = 1 ∧ c < 32) ∨ (i = 2 ∧ c < 1024) ∨ (i = 3 ∧ c < 32768) ∨ (i = 4 ∧ c < 1048576) ∨ (i = 5 ∧ c < 33554432)) : c < 33554432 := by
  rcases h with h | h | h | h | h | h <;> omega
theorem nmB.up {i x : Int} (h : (i = 0 ∧ x < 32) ∨ (i = 1 ∧ x < 1024) ∨ (i = 2 ∧ x < 32768) ∨ (i = 3 ∧ x < 1048576) ∨ (i = 4 ∧ x < 33554432) ∨ (i = 5 ∧ x < 1073741824)) : nmB (i + 1) x := by
  unfold nmB
  rcases h with h | h | h | h | h | h <;> omega
theorem mior5 {c l : Int} (h0 : 0 ≤ c) (h1 : c < 33554432) (l1 : 1 ≤ l) (l2 : l ≤ 31) : mior (mishl c 5) l = 32 * c + l := by
  rcases mname_or c l with y | y | y | y | y
  · exact y.2.2.2.2
  all_goals omega
theorem nm_zero : nm 0 = 0 := by decide
theorem loop210 {d e : mD} (h : TextR d e) (h1 : 1 ≤ d 578 1 ∧ d 578 1 ≤ 6) : ∀ (n nr : Nat) (c i : Int), ((c = 0 ∧ i = 0) ∨ (okN c ∧ 1 ≤ i)) → nmB i c → i ≤ d 578 1 → d 578 1 - i ≤ (n : Int) → d 578 1 - i ≤ (nr : Int) → (lp_93_20 578 0 (d 578 1) n c i d = -1 ∧ lp_210_4 769 nr (nm c) i e = (0, mset e 769 9 0)) ∨ (okN (lp_93_20 578 0 (d 578 1) n c i d) ∧ lp_210_4 769 nr (nm c) i e = (nm (lp_93_20 578 0 (d 578 1) n c i d), mset e 769 9 0)) := by
  have e9 : e 769 9 = d 578 1 := h.2.1
  have fin : ∀ (r : Int → Int → mD → Int) (r' : Int → Int → mD → Int × mD) (c i : Int), ((c = 0 ∧ i = 0) ∨ (okN c ∧ 1 ≤ i)) → ¬ i < d 578 1 → i ≤ d 578 1 → (st_93_20 578 0 (d 578 1) r c i d = -1 ∧ st_210_4 769 r' (nm c) i e = (0, mset e 769 9 0)) ∨ (okN (st_93_20 578 0 (d 578 1) r c i d) ∧ st_210_4 769 r' (nm c) i e = (nm (st_93_20 578 0 (d 578 1) r c i d), mset e 769 9 0)) := fun r r' c i hc a b => by
    have ho : okN c := by
      rcases hc with hc | hc
      · omega
      · exact hc.1
    have hp := nm_pos ho
    unfold st_93_20 st_210_4
    rw [if_neg a, e9, if_neg a, if_neg (by omega)]
    exact Or.inr ⟨ho, rfl⟩
  intro n
  induction n with
  | zero =>
    intro nr c i hc hb a b b'
    cases nr with
    | zero => exact fin _ _ c i hc (by omega) a
    | succ nr => exact fin _ _ c i hc (by omega) a
  | succ n ih =>
    intro nr c i hc hb a b b'
    by_cases q : i < d 578 1
    · cases nr with
      | zero => omega
      | succ nr =>
        have i0 : 0 ≤ i := by
          rcases hc with hc | hc <;> omega
        obtain ⟨l1, l2, l3⟩ := h.letter i0 q
        by_cases z : v_91 578 i d = 0
        · have e1 : lp_93_20 578 0 (d 578 1) (n + 1) c i d = -1 := by
            show st_93_20 578 0 (d 578 1) _ c i d = _
            unfold st_93_20
            rw [if_pos q, if_pos z]
          have e2 : lp_210_4 769 (nr + 1) (nm c) i e = lp_210_4 769 nr (-1) (i + 1) e := by
            show st_210_4 769 _ (nm c) i e = _
            unfold st_210_4
            rw [e9, if_pos q, l2, if_pos z]
          exact Or.inl ⟨e1, by rw [e2]; exact neg210 nr (-1) (i + 1) (by decide) (by omega)⟩
        · have z1 : v_91 578 i d = 1 := by omega
          obtain ⟨b1, b2, b3⟩ := l3 z1
          have hb' : (i = 0 ∧ c < 1) ∨ (i = 1 ∧ c < 32) ∨ (i = 2 ∧ c < 1024) ∨ (i = 3 ∧ c < 32768) ∨ (i = 4 ∧ c < 1048576) ∨ (i = 5 ∧ c < 33554432) := by
            exact hb.lt (by omega)
          have hc5 := nmB.b5 hb'
          obtain ⟨o1, o2, o3⟩ := okStep (l := d 579 i - 96) hc hb' (by clear hb hb'; omega)
          clear hb hb'
          have hc0 : 0 ≤ c := by
            rcases hc with hc | hc
            · omega
            · have := hc.1.1
              omega
          have hm : mior (mishl c 5) (d 579 i - 96) = 32 * c + (d 579 i - 96) := by
            exact mior5 hc0 hc5 (by clear o3; omega) (by clear o3; omega)
          have hn : ¬ nm c < 0 := by
            rcases hc with hc | hc
            · rw [hc.1, nm_zero]; decide
            · have := nm_pos hc.1
              omega
          have e1 : lp_93_20 578 0 (d 578 1) (n + 1) c i d = lp_93_20 578 0 (d 578 1) n (32 * c + (d 579 i - 96)) (i + 1) d := by
            show st_93_20 578 0 (d 578 1) _ c i d = _
            unfold st_93_20
            rw [if_pos q, if_neg z, show (578 : Int) + 1 = 579 by decide, hm]
          have e2 : lp_210_4 769 (nr + 1) (nm c) i e = lp_210_4 769 nr (nm (32 * c + (d 579 i - 96))) (i + 1) e := by
            show st_210_4 769 _ (nm c) i e = _
            unfold st_210_4
            rw [e9, if_pos q, l2, if_neg z, if_pos (by omega), if_neg hn, show (769 : Int) + 7 = 776 by decide, b1, o2, show 27 * nm c + d 579 i - 97 + 1 = d 579 i - 96 + 27 * nm c by omega]
          rw [e1, e2]
          exact ih nr _ (i + 1) (Or.inr ⟨o1, by clear o3; omega⟩) (nmB.up o3) (by clear o3; omega) (by clear o3; omega) (by clear o3; omega)
    · cases nr with
      | zero => exact fin _ _ c i hc q a
      | succ nr => exact fin _ _ c i hc q a
theorem content {d e : mD} (h : TextR d e) : ((v_93 578 0 (d 578 1) d = -1 ∧ v_210 769 e = 0) ∨ (okN (v_93 578 0 (d 578 1) d) ∧ v_210 769 e = nm (v_93 578 0 (d 578 1) d))) ∧ g_210 769 e = mset e 769 9 0 := by
  have e9 : e 769 9 = d 578 1 := h.2.1
  have hr := h.1
  have fuel : (((1000 - 0 : Int).toNat : Nat) : Int) = 1000 := by decide
  unfold v_93 v_210 g_210 f_210
  by_cases c : 0 < d 578 1
  · rw [if_pos c]
    by_cases c6 : 6 < d 578 1
    · rw [if_pos (by omega), long210 (by omega) (1000 - 0 : Int).toNat 0 0 (by decide) (by omega)]
      exact ⟨Or.inl ⟨rfl, rfl⟩, rfl⟩
    · rw [if_neg (by omega)]
      have := loop210 h (by omega) (d 578 1 - 0 : Int).toNat (1000 - 0 : Int).toNat 0 0 (Or.inl ⟨rfl, rfl⟩) (Or.inl ⟨rfl, by decide⟩) (by omega) (by omega) (by omega)
      rw [nm_zero] at this
      rcases this with ⟨a, b⟩ | ⟨a, b⟩
      · rw [a, b]
        exact ⟨Or.inl ⟨rfl, rfl⟩, rfl⟩
      · rw [b]
        exact ⟨Or.inr ⟨a, rfl⟩, rfl⟩
  · rw [if_neg c]
    have st : lp_210_4 769 (1000 - 0 : Int).toNat 0 0 e = (0, mset e 769 9 0) := by
      have s : ∀ r, st_210_4 769 r 0 0 e = (0, mset e 769 9 0) := fun r => by
        unfold st_210_4
        rw [if_neg (by omega), if_neg (by decide)]
      exact s _
    rw [st]
    exact ⟨Or.inl ⟨rfl, rfl⟩, rfl⟩
/-! ===== tokens of the text: what the class's reader finds ===== -/
def isBl (x : Int) : Prop := x = 32 ∨ x = 10
def isLe (x : Int) : Prop := 97 ≤ x ∧ x ≤ 122
def isDi (x : Int) : Prop := 48 ≤ x ∧ x ≤ 57
def BL (b : Int → Int) (L i a : Int) : Prop := i ≤ a ∧ a ≤ L ∧ (∀ j, i ≤ j → j < a → isBl (b j)) ∧ (a < L → ¬ isBl (b a))
def RU (P : Int → Prop) (b : Int → Int) (L a z : Int) : Prop := a ≤ z ∧ z ≤ L ∧ (∀ j, a ≤ j → j < z → P (b j)) ∧ (z < L → ¬ P (b z))
def dv (b : Int → Int) (a : Int) : Nat → Int
  | 0 => 0
  | n + 1 => dv b a n * 10 + b (a + n) - 48
def TokAt (b : Int → Int) (L a k z m : Int) : Prop := (a = L ∧ k = 3 ∧ z = a) ∨ (a < L ∧ isLe (b a) ∧ k = 0 ∧ RU isLe b L a z) ∨ (a < L ∧ isDi (b a) ∧ RU isDi b L a z ∧ ((z - a ≤ 5 ∧ k = 1 ∧ m = dv b a (z - a).toNat) ∨ (5 < z - a ∧ k = 4))) ∨ (a < L ∧ b a = 59 ∧ k = 2 ∧ z = a + 1) ∨ (a < L ∧ ¬ isLe (b a) ∧ ¬ isDi (b a) ∧ ¬ b a = 59 ∧ k = 4 ∧ z = a + 1)
theorem BL.uni {b : Int → Int} {L i a a' : Int} (h : BL b L i a) (h' : BL b L i a') : a = a' := by
  obtain ⟨p1, p2, p3, p4⟩ := h
  obtain ⟨q1, q2, q3, q4⟩ := h'
  by_cases x : a < a'
  · exact absurd (q3 a p1 x) (p4 (by omega))
  · by_cases y : a' < a
    · exact absurd (p3 a' q1 y) (q4 (by omega))
    · omega
theorem RU.uni {P : Int → Prop} {b : Int → Int} {L i a a' : Int} (h : RU P b L i a) (h' : RU P b L i a') : a = a' := by
  obtain ⟨p1, p2, p3, p4⟩ := h
  obtain ⟨q1, q2, q3, q4⟩ := h'
  by_cases x : a < a'
  · exact absurd (q3 a p1 x) (p4 (by omega))
  · by_cases y : a' < a
    · exact absurd (p3 a' q1 y) (q4 (by omega))
    · omega
theorem v90_i {i : Int} {d : mD} : (v_90 578 i d = 0 ∧ ¬ isBl (d 579 i)) ∨ (v_90 578 i d = 1 ∧ isBl (d 579 i)) := by
  unfold v_90 isBl
  rw [show (578 : Int) + 1 = 579 by decide]
  split
  · exact Or.inr ⟨rfl, Or.inl (by assumption)⟩
  · split
    · exact Or.inr ⟨rfl, Or.inr (by assumption)⟩
    · exact Or.inl ⟨rfl, by omega⟩
theorem v91_i {i : Int} {d : mD} : (v_91 578 i d = 0 ∧ ¬ isLe (d 579 i)) ∨ (v_91 578 i d = 1 ∧ isLe (d 579 i)) := by
  unfold v_91 isLe
  rw [show (578 : Int) + 1 = 579 by decide]
  split
  · exact Or.inl ⟨rfl, by omega⟩
  · split
    · exact Or.inl ⟨rfl, by omega⟩
    · exact Or.inr ⟨rfl, by omega⟩
theorem v92_i {i : Int} {d : mD} : (v_92 578 i d = 0 ∧ ¬ isDi (d 579 i)) ∨ (v_92 578 i d = 1 ∧ isDi (d 579 i)) := by
  unfold v_92 isDi
  rw [show (578 : Int) + 1 = 579 by decide]
  split
  · exact Or.inl ⟨rfl, by omega⟩
  · split
    · exact Or.inl ⟨rfl, by omega⟩
    · exact Or.inr ⟨rfl, by omega⟩
theorem l53 {L : Int} : ∀ (n : Nat) (d : mD), d 578 1 = L → d 577 3 ≤ L → L - d 577 3 ≤ (n : Int) → ∃ z d', lp_53_0 577 n d = d' ∧ RU isLe (d 579) L (d 577 3) z ∧ (∀ b, ¬ b = 577 → d' b = d b) ∧ (∀ j, ¬ j = 1 → ¬ j = 3 → d' 577 j = d 577 j) ∧ d' 577 3 = z ∧ d' 577 1 = 0 := by
  have stop : ∀ (d : mD), d 577 3 ≤ L → (d 577 3 < L → ¬ isLe (d 579 (d 577 3))) → ∃ z d', mset d 577 1 0 = d' ∧ RU isLe (d 579) L (d 577 3) z ∧ (∀ b, ¬ b = 577 → d' b = d b) ∧ (∀ j, ¬ j = 1 → ¬ j = 3 → d' 577 j = d 577 j) ∧ d' 577 3 = z ∧ d' 577 1 = 0 := fun d hb hc =>
    ⟨d 577 3, _, rfl, ⟨by omega, hb, fun j x y => by omega, hc⟩, fun b hb => by funext j; exact ms_a hb, fun j x _ => ms_i x, ms_i (by decide), ms_e rfl rfl⟩
  intro n
  induction n with
  | zero =>
    intro d hL ha hn
    have e : lp_53_0 577 0 d = mset d 577 1 0 := by
      show st_53_0 577 _ d = _
      unfold st_53_0
      rw [show (577 : Int) + 1 = 578 by decide, hL, if_neg (by omega)]
    rw [e]
    exact stop d ha (fun z => by omega)
  | succ n ih =>
    intro d hL ha hn
    have st : lp_53_0 577 (n + 1) d = if d 577 3 < L then (if v_91 578 (d 577 3) d = 0 then mset d 577 1 0 else lp_53_0 577 n (mset d 577 3 (d 577 3 + 1))) else mset d 577 1 0 := by
      show st_53_0 577 _ d = _
      unfold st_53_0
      rw [show (577 : Int) + 1 = 578 by decide, hL]
    by_cases c : d 577 3 < L
    · rw [if_pos c] at st
      rcases v91_i (i := d 577 3) (d := d) with ⟨v, g⟩ | ⟨v, g⟩
      · rw [if_pos v] at st
        rw [st]
        exact stop d ha (fun _ => g)
      · rw [if_neg (by omega)] at st
        rw [st]
        have e3 : mset d 577 3 (d 577 3 + 1) 577 3 = d 577 3 + 1 := ms_e rfl rfl
        have e9 : mset d 577 3 (d 577 3 + 1) 579 = d 579 := by funext j; exact ms_a (by decide)
        obtain ⟨z, d', q1, q2, q3, q4, q5, q6⟩ := ih (mset d 577 3 (d 577 3 + 1)) (by rw [ms_a (by decide)]; exact hL) (by rw [e3]; omega) (by rw [e3]; omega)
        rw [e3, e9] at q2
        refine ⟨z, d', q1, ⟨by have := q2.1; omega, q2.2.1, fun j x y => ?_, q2.2.2.2⟩, fun b hb => ?_, fun j x y => ?_, q5, q6⟩
        · by_cases y2 : j = d 577 3
          · rw [y2]; exact g
          · exact q2.2.2.1 j (by omega) y
        · rw [q3 b hb]
          funext j
          exact ms_a hb
        · rw [q4 j x y, ms_i y]
    · rw [if_neg c] at st
      rw [st]
      exact stop d ha (fun z => absurd z c)
theorem l54 {L a : Int} : ∀ (n : Nat) (d : mD), d 578 1 = L → d 577 2 = a → a ≤ d 577 3 → d 577 3 ≤ L → L - d 577 3 ≤ (n : Int) → (d 577 3 - a ≤ 5 → d 577 4 = dv (d 579) a (d 577 3 - a).toNat) → ∃ z d', lp_54_5 577 n d = d' ∧ RU isDi (d 579) L (d 577 3) z ∧ (∀ b, ¬ b = 577 → d' b = d b) ∧ d' 577 2 = a ∧ d' 577 3 = z ∧ ((z - a ≤ 5 ∧ d' 577 1 = 1 ∧ d' 577 4 = dv (d 579) a (z - a).toNat) ∨ (5 < z - a ∧ d' 577 1 = 4)) := by
  have stop : ∀ (d : mD), d 577 2 = a → d 577 3 ≤ L → (d 577 3 - a ≤ 5 → d 577 4 = dv (d 579) a (d 577 3 - a).toNat) → (d 577 3 < L → ¬ isDi (d 579 (d 577 3))) → ∃ z d', (if (5 : Int) < d 577 3 - d 577 2 then mset d 577 1 4 else mset d 577 1 1) = d' ∧ RU isDi (d 579) L (d 577 3) z ∧ (∀ b, ¬ b = 577 → d' b = d b) ∧ d' 577 2 = a ∧ d' 577 3 = z ∧ ((z - a ≤ 5 ∧ d' 577 1 = 1 ∧ d' 577 4 = dv (d 579) a (z - a).toNat) ∨ (5 < z - a ∧ d' 577 1 = 4)) := fun d h2 hb hv hc => by
    rw [h2]
    by_cases c5 : 5 < d 577 3 - a
    · rw [if_pos c5]
      exact ⟨d 577 3, _, rfl, ⟨by omega, hb, fun j x y => by omega, hc⟩, fun b hb => by funext j; exact ms_a hb, by rw [ms_i (by decide)]; exact h2, ms_i (by decide), Or.inr ⟨c5, ms_e rfl rfl⟩⟩
    · rw [if_neg c5]
      exact ⟨d 577 3, _, rfl, ⟨by omega, hb, fun j x y => by omega, hc⟩, fun b hb => by funext j; exact ms_a hb, by rw [ms_i (by decide)]; exact h2, ms_i (by decide), Or.inl ⟨by omega, ms_e rfl rfl, by rw [ms_i (by decide)]; exact hv (by omega)⟩⟩
  intro n
  induction n with
  | zero =>
    intro d hL h2 ha hb hn hv
    have e : lp_54_5 577 0 d = if (5 : Int) < d 577 3 - d 577 2 then mset d 577 1 4 else mset d 577 1 1 := by
      show st_54_5 577 _ d = _
      unfold st_54_5
      rw [show (577 : Int) + 1 = 578 by decide, hL, if_neg (by omega)]
    rw [e]
    exact stop d h2 hb hv (fun z => by omega)
  | succ n ih =>
    intro d hL h2 ha hb hn hv
    have st : lp_54_5 577 (n + 1) d = if d 577 3 < L then (if v_92 578 (d 577 3) d = 0 then (if (5 : Int) < d 577 3 - d 577 2 then mset d 577 1 4 else mset d 577 1 1) else if d 577 3 - d 577 2 < 5 then lp_54_5 577 n (mset (mset d 577 4 (d 577 4 * 10 + d 579 (d 577 3) - 48)) 577 3 (d 577 3 + 1)) else lp_54_5 577 n (mset d 577 3 (d 577 3 + 1))) else if (5 : Int) < d 577 3 - d 577 2 then mset d 577 1 4 else mset d 577 1 1 := by
      show st_54_5 577 _ d = _
      unfold st_54_5
      rw [show (577 : Int) + 1 = 578 by decide, hL, show (578 : Int) + 1 = 579 by decide]
    by_cases c : d 577 3 < L
    · rw [if_pos c] at st
      rcases v92_i (i := d 577 3) (d := d) with ⟨v, g⟩ | ⟨v, g⟩
      · rw [if_pos v] at st
        rw [st]
        exact stop d h2 hb hv (fun _ => g)
      · rw [if_neg (by omega)] at st
        have go : ∀ (u : mD), (∀ b, ¬ b = 577 → u b = d b) → u 577 2 = a → u 577 3 = d 577 3 + 1 → (u 577 3 - a ≤ 5 → u 577 4 = dv (d 579) a (u 577 3 - a).toNat) → ∃ z d', lp_54_5 577 n u = d' ∧ RU isDi (d 579) L (d 577 3) z ∧ (∀ b, ¬ b = 577 → d' b = d b) ∧ d' 577 2 = a ∧ d' 577 3 = z ∧ ((z - a ≤ 5 ∧ d' 577 1 = 1 ∧ d' 577 4 = dv (d 579) a (z - a).toNat) ∨ (5 < z - a ∧ d' 577 1 = 4)) := fun u w1 w2 w3 w4 => by
          have u9 : u 579 = d 579 := w1 579 (by decide)
          obtain ⟨z, d', q1, q2, q3, q4, q5, q6⟩ := ih u (by rw [w1 578 (by decide)]; exact hL) w2 (by omega) (by omega) (by omega) (by rw [u9]; exact w4)
          rw [u9, w3] at q2
          rw [u9] at q6
          refine ⟨z, d', q1, ⟨by have := q2.1; omega, q2.2.1, fun j x y => ?_, q2.2.2.2⟩, fun b hb => by rw [q3 b hb, w1 b hb], q4, q5, q6⟩
          by_cases y2 : j = d 577 3
          · rw [y2]; exact g
          · exact q2.2.2.1 j (by omega) y
        by_cases c5 : d 577 3 - d 577 2 < 5
        · rw [if_pos c5] at st
          rw [st]
          refine go _ (fun b hb => by funext j; rw [ms_a hb, ms_a hb]) (by rw [ms_i (by decide), ms_i (by decide)]; exact h2) (ms_e rfl rfl) (fun _ => ?_)
          rw [ms_e rfl rfl, ms_i (by decide), ms_e rfl rfl, hv (by omega), show (d 577 3 + 1 - a).toNat = (d 577 3 - a).toNat + 1 by omega]
          show _ = dv (d 579) a (d 577 3 - a).toNat * 10 + d 579 (a + ((d 577 3 - a).toNat : Nat)) - 48
          rw [show a + ((d 577 3 - a).toNat : Int) = d 577 3 by omega]
        · rw [if_neg c5] at st
          rw [st]
          exact go _ (fun b hb => by funext j; rw [ms_a hb]) (by rw [ms_i (by decide)]; exact h2) (ms_e rfl rfl) (fun z => by rw [ms_e rfl rfl] at z; omega)
    · rw [if_neg c] at st
      rw [st]
      exact stop d h2 hb hv (fun z => absurd z c)
/-! ===== the class's reader goes on ===== -/
theorem l52 {L : Int} (hL2 : L ≤ 1000) : ∀ (n : Nat) (d : mD), d 578 1 = L → 0 ≤ d 577 2 → d 577 2 ≤ L → L - d 577 2 ≤ (n : Int) → ∃ d', lp_52_8 577 n d = d' ∧ (∀ b, ¬ b = 577 → d' b = d b) ∧ BL (d 579) L (d 577 2) (d' 577 2) ∧ TokAt (d 579) L (d' 577 2) (d' 577 1) (d' 577 3) (d' 577 4) := by
  have stop : ∀ (d : mD), d 577 2 = L → ∃ d', mset (mset d 577 3 (d 577 2)) 577 1 3 = d' ∧ (∀ b, ¬ b = 577 → d' b = d b) ∧ BL (d 579) L (d 577 2) (d' 577 2) ∧ TokAt (d 579) L (d' 577 2) (d' 577 1) (d' 577 3) (d' 577 4) := fun d h => by
    have e2 : mset (mset d 577 3 (d 577 2)) 577 1 3 577 2 = d 577 2 := by rw [ms_i (by decide), ms_i (by decide)]
    refine ⟨_, rfl, fun b hb => by funext j; rw [ms_a hb, ms_a hb], ?_, ?_⟩
    · rw [e2]
      exact ⟨by omega, by omega, fun j x y => by omega, fun z => by omega⟩
    · rw [e2]
      exact Or.inl ⟨h, ms_e rfl rfl, by rw [ms_i (by decide), ms_e rfl rfl]⟩
  intro n
  induction n with
  | zero =>
    intro d hL h0 ha hn
    have e : lp_52_8 577 0 d = mset (mset d 577 3 (d 577 2)) 577 1 3 := by
      show st_52_8 577 _ d = _
      unfold st_52_8
      rw [show (577 : Int) + 1 = 578 by decide, hL, if_neg (by omega)]
    rw [e]
    exact stop d (by omega)
  | succ n ih =>
    intro d hL h0 ha hn
    by_cases c : d 577 2 < L
    · rcases v90_i (i := d 577 2) (d := d) with ⟨v, g⟩ | ⟨v, g⟩
      · have bl : BL (d 579) L (d 577 2) (d 577 2) := ⟨by omega, by omega, fun j x y => by omega, fun _ => g⟩
        have hE : ∃ E, mset d 577 3 (d 577 2) = E ∧ (∀ b, ¬ b = 577 → E b = d b) ∧ (∀ j, ¬ j = 3 → E 577 j = d 577 j) ∧ E 577 3 = d 577 2 := ⟨_, rfl, fun b hb => by funext j; exact ms_a hb, fun j hj => ms_i hj, ms_e rfl rfl⟩
        obtain ⟨E, hE, E1, E2, E3⟩ := hE
        have E9 : E 579 = d 579 := E1 579 (by decide)
        have E8 : E 578 = d 578 := E1 578 (by decide)
        have st : lp_52_8 577 (n + 1) d = if v_91 578 (d 577 2) E = 0 then (if v_92 578 (d 577 2) E = 0 then (if d 579 (d 577 2) = 59 then mset (mset E 577 1 2) 577 3 (d 577 2 + 1) else mset (mset E 577 1 4) 577 3 (d 577 2 + 1)) else g_54 577 E) else g_53 577 E := by
          show st_52_8 577 _ d = _
          unfold st_52_8
          rw [show (577 : Int) + 1 = 578 by decide, hL, if_pos c, if_pos v, hE, show (578 : Int) + 1 = 579 by decide]
        rcases v91_i (i := d 577 2) (d := E) with ⟨v1, g1⟩ | ⟨v1, g1⟩
        · rw [if_pos v1] at st
          rw [E9] at g1
          rcases v92_i (i := d 577 2) (d := E) with ⟨v2, g2⟩ | ⟨v2, g2⟩
          · rw [if_pos v2] at st
            rw [E9] at g2
            have fin : ∀ k, ∃ d', mset (mset E 577 1 k) 577 3 (d 577 2 + 1) = d' ∧ (∀ b, ¬ b = 577 → d' b = d b) ∧ d' 577 2 = d 577 2 ∧ d' 577 1 = k ∧ d' 577 3 = d 577 2 + 1 := fun k => ⟨_, rfl, fun b hb => by rw [← E1 b hb]; funext j; rw [ms_a hb, ms_a hb], by rw [ms_i (by decide), ms_i (by decide)]; exact E2 2 (by decide), by rw [ms_i (by decide), ms_e rfl rfl], ms_e rfl rfl⟩
            by_cases q : d 579 (d 577 2) = 59
            · rw [if_pos q] at st
              obtain ⟨d', f1, f2, f3, f4, f5⟩ := fin 2
              rw [st]
              refine ⟨d', f1, f2, by rw [f3]; exact bl, ?_⟩
              rw [f3, f4, f5]
              exact Or.inr (Or.inr (Or.inr (Or.inl ⟨c, q, rfl, rfl⟩)))
            · rw [if_neg q] at st
              obtain ⟨d', f1, f2, f3, f4, f5⟩ := fin 4
              rw [st]
              refine ⟨d', f1, f2, by rw [f3]; exact bl, ?_⟩
              rw [f3, f4, f5]
              exact Or.inr (Or.inr (Or.inr (Or.inr ⟨c, g1, g2, q, rfl, rfl⟩)))
          · rw [if_neg (by omega)] at st
            rw [E9] at g2
            have e3 : mset E 577 4 0 577 3 = d 577 2 := by rw [ms_i (by decide)]; exact E3
            have e9 : mset E 577 4 0 579 = d 579 := by rw [← E9]; funext j; exact ms_a (by decide)
            obtain ⟨z, d', q1, q2, q3, q4, q5, q6⟩ := l54 (L := L) (a := d 577 2) (1000 - (mset E 577 4 0) 577 3 : Int).toNat (mset E 577 4 0) (by rw [ms_a (by decide), E8]; exact hL) (by rw [ms_i (by decide)]; exact E2 2 (by decide)) (by omega) (by omega) (by omega) (fun _ => by
              rw [ms_e rfl rfl, e3, show (d 577 2 - d 577 2).toNat = 0 by omega]
              rfl)
            rw [e3, e9] at q2
            rw [e9] at q6
            have e : g_54 577 E = d' := q1
            rw [st, e]
            refine ⟨d', rfl, fun b hb => ?_, by rw [q4]; exact bl, ?_⟩
            · rw [q3 b hb, ← E1 b hb]
              funext j
              exact ms_a hb
            · rw [q4, q5]
              refine Or.inr (Or.inr (Or.inl ⟨c, g2, q2, ?_⟩))
              exact q6
        · rw [if_neg (by omega)] at st
          rw [E9] at g1
          obtain ⟨z, d', q1, q2, q3, q4, q5, q6⟩ := l53 (L := L) (1000 - E 577 3 : Int).toNat E (by rw [E8]; exact hL) (by omega) (by omega)
          rw [E3, E9] at q2
          have e : g_53 577 E = d' := q1
          have f2 : d' 577 2 = d 577 2 := by rw [q4 2 (by decide) (by decide)]; exact E2 2 (by decide)
          rw [st, e]
          refine ⟨d', rfl, fun b hb => by rw [q3 b hb, E1 b hb], by rw [f2]; exact bl, ?_⟩
          rw [f2, q5, q6]
          exact Or.inr (Or.inl ⟨c, g1, rfl, q2⟩)
      · have st : lp_52_8 577 (n + 1) d = lp_52_8 577 n (mset d 577 2 (d 577 2 + 1)) := by
          show st_52_8 577 _ d = _
          unfold st_52_8
          rw [show (577 : Int) + 1 = 578 by decide, hL, if_pos c, if_neg (by omega)]
        have e2 : mset d 577 2 (d 577 2 + 1) 577 2 = d 577 2 + 1 := ms_e rfl rfl
        have e9 : mset d 577 2 (d 577 2 + 1) 579 = d 579 := by funext j; exact ms_a (by decide)
        obtain ⟨d', q1, q2, q3, q4⟩ := ih (mset d 577 2 (d 577 2 + 1)) (by rw [ms_a (by decide)]; exact hL) (by omega) (by omega) (by omega)
        rw [e2, e9] at q3
        rw [e9] at q4
        rw [st]
        refine ⟨d', q1, fun b hb => ?_, ⟨by have := q3.1; omega, q3.2.1, fun j x y => ?_, q3.2.2.2⟩, q4⟩
        · rw [q2 b hb]
          funext j
          exact ms_a hb
        · by_cases y2 : j = d 577 2
          · rw [y2]; exact g
          · exact q3.2.2.1 j (by omega) y
    · have e : lp_52_8 577 (n + 1) d = mset (mset d 577 3 (d 577 2)) 577 1 3 := by
        show st_52_8 577 _ d = _
        unfold st_52_8
        rw [show (577 : Int) + 1 = 578 by decide, hL, if_neg c]
      rw [e]
      exact stop d (by omega)
theorem adv {L : Int} {d : mD} (hL : d 578 1 = L) (hL2 : L ≤ 1000) (h0 : 0 ≤ d 577 3) (h1 : d 577 3 ≤ L) : (∀ b, ¬ b = 577 → g_52 577 d b = d b) ∧ BL (d 579) L (d 577 3) (g_52 577 d 577 2) ∧ TokAt (d 579) L (g_52 577 d 577 2) (g_52 577 d 577 1) (g_52 577 d 577 3) (g_52 577 d 577 4) := by
  have e2 : mset d 577 2 (d 577 3) 577 2 = d 577 3 := ms_e rfl rfl
  have e9 : mset d 577 2 (d 577 3) 579 = d 579 := by funext j; exact ms_a (by decide)
  obtain ⟨d', q1, q2, q3, q4⟩ := l52 hL2 (1000 - (mset d 577 2 (d 577 3)) 577 2 : Int).toNat (mset d 577 2 (d 577 3)) (by rw [ms_a (by decide)]; exact hL) (by omega) (by omega) (by omega)
  have e : g_52 577 d = d' := q1
  rw [e2, e9] at q3
  rw [e9] at q4
  rw [e]
  refine ⟨fun b hb => ?_, q3, q4⟩
  rw [q2 b hb]
  funext j
  exact ms_a hb
/-! ===== what the reference's reader finds ===== -/
def TX (b : Int → Int) (L : Int) (e : mD) : Prop := (0 ≤ L ∧ L ≤ 1000) ∧ e 769 9 = L ∧ ∀ i, 0 ≤ i → i < L → b i % 256 = e 776 i ∧ -128 ≤ b i ∧ b i ≤ 127
theorem TX.fr {b : Int → Int} {L : Int} {e e' : mD} (h : TX b L e) (h1 : e' 769 9 = e 769 9) (h2 : e' 776 = e 776) : TX b L e' := by
  unfold TX
  rw [h1, h2]
  exact h
theorem TX.le {b : Int → Int} {L i : Int} {e : mD} (h : TX b L e) (h0 : 0 ≤ i) : (v_190 769 i e = 0 ∧ (i < L → ¬ isLe (b i))) ∨ (v_190 769 i e = 1 ∧ i < L ∧ isLe (b i) ∧ e 776 i = b i) := by
  obtain ⟨h1, h2, h3⟩ := h
  unfold v_190
  rw [v176, show (769 : Int) + 7 = 776 by decide, h2]
  by_cases c : i < L
  · have g := h3 i h0 c
    rw [if_pos c]
    by_cases z : 97 ≤ e 776 i ∧ e 776 i ≤ 122
    · rw [if_pos z, if_neg (by decide)]
      exact Or.inr ⟨rfl, c, by unfold isLe; omega, by omega⟩
    · rw [if_neg z, if_pos rfl]
      exact Or.inl ⟨rfl, fun _ y => by unfold isLe at y; omega⟩
  · rw [if_neg c]
    exact Or.inl ⟨rfl, fun z => absurd z c⟩
theorem TX.di {b : Int → Int} {L i : Int} {e : mD} (h : TX b L e) (h0 : 0 ≤ i) : (v_191 769 i e = 0 ∧ (i < L → ¬ isDi (b i))) ∨ (v_191 769 i e = 1 ∧ i < L ∧ isDi (b i) ∧ e 776 i = b i) := by
  obtain ⟨h1, h2, h3⟩ := h
  unfold v_191
  rw [v176, show (769 : Int) + 7 = 776 by decide, h2]
  by_cases c : i < L
  · have g := h3 i h0 c
    rw [if_pos c]
    by_cases z : 48 ≤ e 776 i ∧ e 776 i ≤ 57
    · rw [if_pos z, if_neg (by decide)]
      exact Or.inr ⟨rfl, c, by unfold isDi; omega, by omega⟩
    · rw [if_neg z, if_pos rfl]
      exact Or.inl ⟨rfl, fun _ y => by unfold isDi at y; omega⟩
  · rw [if_neg c]
    exact Or.inl ⟨rfl, fun z => absurd z c⟩
theorem l189 {b : Int → Int} {L : Int} : ∀ (n : Nat) (e : mD), TX b L e → 0 ≤ e 769 10 → e 769 10 ≤ L → L - e 769 10 ≤ (n : Int) → ∃ a e', lp_189_0 769 n e = e' ∧ BL b L (e 769 10) a ∧ (∀ k, ¬ k = 769 → e' k = e k) ∧ (∀ j, ¬ j = 10 → e' 769 j = e 769 j) ∧ e' 769 10 = a := by
  intro n
  induction n with
  | zero =>
    intro e h h0 h1 hn
    have st : lp_189_0 769 0 e = e := by
      show st_189_0 769 _ e = _
      unfold st_189_0
      rw [h.2.1, if_neg (by omega)]
    exact ⟨e 769 10, e, st, ⟨by omega, h1, fun j x y => by omega, fun z => by omega⟩, fun _ _ => rfl, fun _ _ => rfl, rfl⟩
  | succ n ih =>
    intro e h h0 h1 hn
    have st : lp_189_0 769 (n + 1) e = if e 769 10 < L then (if e 776 (e 769 10) = 10 then lp_189_0 769 n (mset e 769 10 (e 769 10 + 1)) else if e 776 (e 769 10) = 32 then lp_189_0 769 n (mset e 769 10 (e 769 10 + 1)) else e) else e := by
      show st_189_0 769 _ e = _
      unfold st_189_0
      rw [h.2.1, show (769 : Int) + 7 = 776 by decide]
    by_cases c : e 769 10 < L
    · have g := h.2.2 _ h0 c
      rw [if_pos c] at st
      by_cases z : isBl (b (e 769 10))
      · have st2 : lp_189_0 769 (n + 1) e = lp_189_0 769 n (mset e 769 10 (e 769 10 + 1)) := by
          rw [st]
          unfold isBl at z
          by_cases y : e 776 (e 769 10) = 10
          · rw [if_pos y]
          · rw [if_neg y, if_pos (by omega)]
        have e10 : mset e 769 10 (e 769 10 + 1) 769 10 = e 769 10 + 1 := ms_e rfl rfl
        obtain ⟨a, e', q1, q2, q3, q4, q5⟩ := ih (mset e 769 10 (e 769 10 + 1)) (h.fr (ms_i (by decide)) (by funext j; exact ms_a (by decide))) (by omega) (by omega) (by omega)
        rw [e10] at q2
        refine ⟨a, e', st2.trans q1, ⟨by have := q2.1; omega, q2.2.1, fun j x y => ?_, q2.2.2.2⟩, fun k hk => ?_, fun j hj => ?_, q5⟩
        · by_cases y2 : j = e 769 10
          · rw [y2]; exact z
          · exact q2.2.2.1 j (by omega) y
        · rw [q3 k hk]
          funext j
          exact ms_a hk
        · rw [q4 j hj, ms_i hj]
      · have st2 : lp_189_0 769 (n + 1) e = e := by
          rw [st]
          unfold isBl at z
          rw [if_neg (by omega), if_neg (by omega)]
        exact ⟨e 769 10, e, st2, ⟨by omega, h1, fun j x y => by omega, fun _ => z⟩, fun _ _ => rfl, fun _ _ => rfl, rfl⟩
    · rw [if_neg c] at st
      exact ⟨e 769 10, e, st, ⟨by omega, h1, fun j x y => by omega, fun z => absurd z c⟩, fun _ _ => rfl, fun _ _ => rfl, rfl⟩
theorem bl189 {b : Int → Int} {L : Int} {e : mD} (h : TX b L e) (h0 : 0 ≤ e 769 10) (h1 : e 769 10 ≤ L) : ∃ a e', g_189 769 e = e' ∧ BL b L (e 769 10) a ∧ (∀ k, ¬ k = 769 → e' k = e k) ∧ (∀ j, ¬ j = 10 → e' 769 j = e 769 j) ∧ e' 769 10 = a := by
  have := h.1
  exact l189 (1000 - e 769 10 : Int).toNat e h h0 h1 (by omega)
def wc (b : Int → Int) (a : Int) : Nat → Int
  | 0 => 0
  | n + 1 => 27 * wc b a n + b (a + n) - 96
theorem l193 {b : Int → Int} {L a lim : Int} (hl : 0 ≤ lim) : ∀ (n : Nat) (x4 x2 : Int) (e : mD), TX b L e → 0 ≤ x4 → 0 ≤ a → e 769 10 = a + x4 → e 769 10 ≤ L → L - e 769 10 ≤ (n : Int) → (x4 ≤ lim → x2 = wc b a x4.toNat) → (lim < x4 → x2 = -1) → ∃ z e', lp_193_17 769 lim n x2 x4 e = (if z - a ≤ lim then wc b a (z - a).toNat else -1, e') ∧ RU isLe b L (a + x4) z ∧ (∀ k, ¬ k = 769 → e' k = e k) ∧ (∀ j, ¬ j = 10 → e' 769 j = e 769 j) ∧ e' 769 10 = z := by
  have stop : ∀ (x4 x2 : Int) (e : mD), 0 ≤ x4 → e 769 10 = a + x4 → e 769 10 ≤ L → (x4 ≤ lim → x2 = wc b a x4.toNat) → (lim < x4 → x2 = -1) → (a + x4 < L → ¬ isLe (b (a + x4))) → ∃ z e', (x2, e) = (if z - a ≤ lim then wc b a (z - a).toNat else -1, e') ∧ RU isLe b L (a + x4) z ∧ (∀ k, ¬ k = 769 → e' k = e k) ∧ (∀ j, ¬ j = 10 → e' 769 j = e 769 j) ∧ e' 769 10 = z := fun x4 x2 e h0 ha h1 hv hw hs => by
    refine ⟨a + x4, e, ?_, ⟨by omega, by omega, fun j x y => by omega, hs⟩, fun _ _ => rfl, fun _ _ => rfl, ha⟩
    rw [show a + x4 - a = x4 by omega]
    by_cases c : x4 ≤ lim
    · rw [if_pos c, hv c]
    · rw [if_neg c, hw (by omega)]
  intro n
  induction n with
  | zero =>
    intro x4 x2 e h h0 a0 ha h1 hn hv hw
    rcases h.le (i := e 769 10) (by omega) with ⟨v, g⟩ | ⟨v, g, -⟩
    · have st : lp_193_17 769 lim 0 x2 x4 e = (x2, e) := by
        show st_193_17 769 lim _ x2 x4 e = _
        unfold st_193_17
        rw [if_pos v]
      rw [st]
      exact stop x4 x2 e h0 ha h1 hv hw (by rw [← ha]; exact g)
    · omega
  | succ n ih =>
    intro x4 x2 e h h0 a0 ha h1 hn hv hw
    rcases h.le (i := e 769 10) (by omega) with ⟨v, g⟩ | ⟨v, g1, g2, g3⟩
    · have st : lp_193_17 769 lim (n + 1) x2 x4 e = (x2, e) := by
        show st_193_17 769 lim _ x2 x4 e = _
        unfold st_193_17
        rw [if_pos v]
      rw [st]
      exact stop x4 x2 e h0 ha h1 hv hw (by rw [← ha]; exact g)
    · have st : lp_193_17 769 lim (n + 1) x2 x4 e = if x4 < lim then lp_193_17 769 lim n (27 * x2 + e 776 (e 769 10) - 97 + 1) (x4 + 1) (mset e 769 10 (e 769 10 + 1)) else lp_193_17 769 lim n (-1) (x4 + 1) (mset e 769 10 (e 769 10 + 1)) := by
        show st_193_17 769 lim _ x2 x4 e = _
        unfold st_193_17
        rw [if_neg (by omega), show (769 : Int) + 7 = 776 by decide]
      have e10 : mset e 769 10 (e 769 10 + 1) 769 10 = e 769 10 + 1 := ms_e rfl rfl
      have go : ∀ x, (x4 + 1 ≤ lim → x = wc b a (x4 + 1).toNat) → (lim < x4 + 1 → x = -1) → ∃ z e', lp_193_17 769 lim n x (x4 + 1) (mset e 769 10 (e 769 10 + 1)) = (if z - a ≤ lim then wc b a (z - a).toNat else -1, e') ∧ RU isLe b L (a + x4) z ∧ (∀ k, ¬ k = 769 → e' k = e k) ∧ (∀ j, ¬ j = 10 → e' 769 j = e 769 j) ∧ e' 769 10 = z := fun x hx1 hx2 => by
        obtain ⟨z, e', q1, q2, q3, q4, q5⟩ := ih (x4 + 1) x (mset e 769 10 (e 769 10 + 1)) (h.fr (ms_i (by decide)) (by funext j; exact ms_a (by decide))) (by omega) a0 (by omega) (by omega) (by omega) hx1 hx2
        refine ⟨z, e', q1, ⟨by have := q2.1; omega, q2.2.1, fun j u v => ?_, q2.2.2.2⟩, fun k hk => ?_, fun j hj => ?_, q5⟩
        · by_cases y2 : j = a + x4
          · rw [y2, ← ha]; exact g2
          · exact q2.2.2.1 j (by omega) v
        · rw [q3 k hk]
          funext j
          exact ms_a hk
        · rw [q4 j hj, ms_i hj]
      by_cases c : x4 < lim
      · rw [if_pos c] at st
        rw [st]
        refine go _ (fun _ => ?_) (fun z => by omega)
        rw [show (x4 + 1).toNat = x4.toNat + 1 by omega, hv (by omega), g3]
        show _ = 27 * wc b a x4.toNat + b (a + (x4.toNat : Int)) - 96
        rw [show a + (x4.toNat : Int) = e 769 10 by omega]
        omega
      · rw [if_neg c] at st
        rw [st]
        exact go _ (fun z => by omega) (fun _ => rfl)
theorem w193 {b : Int → Int} {L lim : Int} {e : mD} (hl : 0 ≤ lim) (h : TX b L e) (h0 : 0 ≤ e 769 10) (h1 : e 769 10 ≤ L) : ∃ a z e', BL b L (e 769 10) a ∧ RU isLe b L a z ∧ f_193 769 lim e = (if z - a ≤ lim then wc b a (z - a).toNat else -1, e') ∧ (∀ k, ¬ k = 769 → e' k = e k) ∧ (∀ j, ¬ j = 10 → ¬ j = 16 → e' 769 j = e 769 j) ∧ e' 769 10 = z ∧ e' 769 16 = a := by
  obtain ⟨a, e1, p1, p2, p3, p4, p5⟩ := bl189 h h0 h1
  have h1' : TX b L (mset e1 769 16 a) := h.fr (by rw [ms_i (by decide)]; exact p4 9 (by decide)) (by rw [← p3 776 (by decide)]; funext j; exact ms_a (by decide))
  have e10 : mset e1 769 16 a 769 10 = a := by rw [ms_i (by decide)]; exact p5
  have hr := h.1
  have ha := p2.1
  have hb := p2.2.1
  obtain ⟨z, e', q1, q2, q3, q4, q5⟩ := l193 (a := a) hl (1000 - mset e1 769 16 a 769 10 : Int).toNat 0 0 (mset e1 769 16 a) h1' (by omega) (by omega) (by omega) (by omega) (by omega) (fun _ => rfl) (fun z => by omega)
  rw [show a + 0 = a by omega] at q2
  refine ⟨a, z, e', p2, q2, ?_, fun k hk => ?_, fun j x y => ?_, q5, ?_⟩
  · unfold f_193
    rw [p1, p5]
    exact q1
  · rw [q3 k hk, ← p3 k hk]
    funext j
    exact ms_a hk
  · rw [q4 j x, ms_i y, p4 j x]
  · rw [q4 16 (by decide), ms_e rfl rfl]
/-! ===== the reference's numbers ===== -/
def FrR (e e' : mD) : Prop := (∀ k, ¬ k = 769 → e' k = e k) ∧ ∀ j, j < 10 ∨ 16 < j → e' 769 j = e 769 j
theorem FrR.refl {e : mD} : FrR e e := ⟨fun _ _ => rfl, fun _ _ => rfl⟩
theorem FrR.trans {a b c : mD} (h : FrR a b) (g : FrR b c) : FrR a c := ⟨fun k hk => (g.1 k hk).trans (h.1 k hk), fun j hj => (g.2 j hj).trans (h.2 j hj)⟩
theorem FrR.set {e : mD} {j v : Int} (hj : 10 ≤ j ∧ j ≤ 16) : FrR e (mset e 769 j v) := ⟨fun k hk => by funext i; exact ms_a hk, fun i hi => ms_i (by omega)⟩
-- it is bad: with this code at this place
def BadR (c p : Int) (e : mD) : Prop := e 769 13 = 1 ∧ e 769 11 = c ∧ e 769 12 = p
theorem flt188 {c p : Int} {e : mD} (h : e 769 13 = 0) : BadR c p (g_188 769 c p e) ∧ FrR e (g_188 769 c p e) := by
  unfold g_188
  rw [if_pos h]
  refine ⟨⟨?_, ?_, ?_⟩, ((FrR.set (by decide)).trans (FrR.set (by decide))).trans (FrR.set (by decide))⟩
  · rw [ms_i (by decide), ms_i (by decide), ms_e rfl rfl]
  · rw [ms_i (by decide), ms_e rfl rfl]
  · exact ms_e rfl rfl
def NumR (b : Int → Int) (L lo hi a z : Int) (e : mD) (r : Int × mD) : Prop := FrR e r.2 ∧ ((z = a ∧ r.1 = 0 ∧ BadR 1 a r.2) ∨ (5 < z - a ∧ r.1 = 0 ∧ BadR 1 a r.2) ∨ (a < z ∧ z - a ≤ 5 ∧ ¬ (lo ≤ dv b a (z - a).toNat ∧ dv b a (z - a).toNat ≤ hi) ∧ r.1 = 0 ∧ BadR 2 a r.2) ∨ (a < z ∧ z - a ≤ 5 ∧ (lo ≤ dv b a (z - a).toNat ∧ dv b a (z - a).toNat ≤ hi) ∧ r.1 = dv b a (z - a).toNat ∧ r.2 769 13 = 0 ∧ r.2 769 10 = z))
theorem l197 {b : Int → Int} {L a lo hi : Int} : ∀ (n : Nat) (x : Int) (e : mD), TX b L e → 0 ≤ x → 0 ≤ a → e 769 10 = a + x → e 769 10 ≤ L → L - e 769 10 ≤ (n : Int) → e 769 13 = 0 → e 769 15 = a → (x ≤ 5 → e 769 14 = dv b a x.toNat) → ∃ z, RU isDi b L (a + x) z ∧ NumR b L lo hi a z e (lp_197_28 769 lo hi n x e) := by
  have stop : ∀ (x : Int) (e : mD) (r : Int → mD → Int × mD), 0 ≤ x → e 769 10 = a + x → e 769 10 ≤ L → e 769 13 = 0 → e 769 15 = a → (x ≤ 5 → e 769 14 = dv b a x.toNat) → v_191 769 (e 769 10) e = 0 → (a + x < L → ¬ isDi (b (a + x))) → ∃ z, RU isDi b L (a + x) z ∧ NumR b L lo hi a z e (st_197_28 769 lo hi r x e) := fun x e r h0 ha h1 h13 h15 hv v hs => by
    refine ⟨a + x, ⟨by omega, by omega, fun j x y => by omega, hs⟩, ?_⟩
    obtain ⟨f1, f2⟩ := flt188 (c := 1) (p := a) h13
    obtain ⟨f3, f4⟩ := flt188 (c := 2) (p := a) h13
    unfold st_197_28
    rw [if_pos v, h15]
    have n1 : ¬ g_188 769 1 a e 769 13 = 0 := by rw [f1.1]; decide
    have n2 : ¬ g_188 769 2 a e 769 13 = 0 := by rw [f3.1]; decide
    by_cases c0 : x = 0
    · rw [if_pos c0, if_neg n1]
      exact ⟨f2, Or.inl ⟨by omega, rfl, f1⟩⟩
    · rw [if_neg c0]
      by_cases c5 : 5 < x
      · rw [if_pos c5, if_neg n1]
        exact ⟨f2, Or.inr (Or.inl ⟨by omega, rfl, f1⟩)⟩
      · rw [if_neg c5, v176, hv (by omega)]
        have ex : (a + x - a).toNat = x.toNat := by rw [show a + x - a = x by omega]
        by_cases q : lo ≤ dv b a x.toNat ∧ dv b a x.toNat ≤ hi
        · rw [if_pos q, if_neg (by decide), if_pos h13]
          exact ⟨FrR.refl, Or.inr (Or.inr (Or.inr ⟨by omega, by omega, by rw [ex]; exact q, by rw [ex], h13, ha⟩))⟩
        · rw [if_neg q, if_pos rfl, if_neg n2]
          exact ⟨f4, Or.inr (Or.inr (Or.inl ⟨by omega, by omega, by rw [ex]; exact q, rfl, f3⟩))⟩
  intro n
  induction n with
  | zero =>
    intro x e h h0 a0 ha h1 hn h13 h15 hv
    rcases h.di (i := e 769 10) (by omega) with ⟨v, g⟩ | ⟨v, g, -⟩
    · exact stop x e _ h0 ha h1 h13 h15 hv v (by rw [← ha]; exact g)
    · omega
  | succ n ih =>
    intro x e h h0 a0 ha h1 hn h13 h15 hv
    rcases h.di (i := e 769 10) (by omega) with ⟨v, g⟩ | ⟨v, g1, g2, g3⟩
    · exact stop x e _ h0 ha h1 h13 h15 hv v (by rw [← ha]; exact g)
    · have st : lp_197_28 769 lo hi (n + 1) x e = if x < 5 then lp_197_28 769 lo hi n (x + 1) (mset (mset e 769 14 (10 * e 769 14 + e 776 (e 769 10) - 48)) 769 10 (e 769 10 + 1)) else lp_197_28 769 lo hi n (x + 1) (mset (mset e 769 14 (e 769 14)) 769 10 (e 769 10 + 1)) := by
        show st_197_28 769 lo hi _ x e = _
        unfold st_197_28
        rw [if_neg (by omega), show (769 : Int) + 7 = 776 by decide]
      have go : ∀ v, (x + 1 ≤ 5 → v = dv b a (x + 1).toNat) → ∃ z, RU isDi b L (a + x) z ∧ NumR b L lo hi a z e (lp_197_28 769 lo hi n (x + 1) (mset (mset e 769 14 v) 769 10 (e 769 10 + 1))) := fun v hv' => by
        have e10 : mset (mset e 769 14 v) 769 10 (e 769 10 + 1) 769 10 = e 769 10 + 1 := ms_e rfl rfl
        obtain ⟨z, q1, q2, q3⟩ := ih (x + 1) (mset (mset e 769 14 v) 769 10 (e 769 10 + 1)) (h.fr (by rw [ms_i (by decide), ms_i (by decide)]) (by funext j; rw [ms_a (by decide), ms_a (by decide)])) (by omega) a0 (by omega) (by omega) (by omega) (by rw [ms_i (by decide), ms_i (by decide)]; exact h13) (by rw [ms_i (by decide), ms_i (by decide)]; exact h15) (fun y => by rw [ms_i (by decide), ms_e rfl rfl]; exact hv' y)
        refine ⟨z, ⟨by have := q1.1; omega, q1.2.1, fun j u y => ?_, q1.2.2.2⟩, ((FrR.set (by decide)).trans (FrR.set (by decide))).trans q2, q3⟩
        by_cases y2 : j = a + x
        · rw [y2, ← ha]; exact g2
        · exact q1.2.2.1 j (by omega) y
      by_cases c : x < 5
      · rw [if_pos c] at st
        rw [st]
        refine go _ (fun _ => ?_)
        rw [show (x + 1).toNat = x.toNat + 1 by omega, hv (by omega), g3]
        show _ = dv b a x.toNat * 10 + b (a + (x.toNat : Int)) - 48
        rw [show a + (x.toNat : Int) = e 769 10 by omega]
        omega
      · rw [if_neg c] at st
        rw [st]
        exact go _ (fun z => by omega)
theorem n197 {b : Int → Int} {L lo hi : Int} {e : mD} (h : TX b L e) (h0 : 0 ≤ e 769 10) (h1 : e 769 10 ≤ L) (h13 : e 769 13 = 0) : ∃ a z, BL b L (e 769 10) a ∧ RU isDi b L a z ∧ NumR b L lo hi a z e (v_197 769 lo hi e, g_197 769 lo hi e) := by
  obtain ⟨a, e1, p1, p2, p3, p4, p5⟩ := bl189 h h0 h1
  have hr := h.1
  have ha := p2.1
  have hb := p2.2.1
  have ef : f_197 769 lo hi e = lp_197_28 769 lo hi (1000 - mset (mset e1 769 15 a) 769 14 0 769 10 : Int).toNat 0 (mset (mset e1 769 15 a) 769 14 0) := by
    unfold f_197
    rw [if_pos h13, p1, p5]
  have e10 : mset (mset e1 769 15 a) 769 14 0 769 10 = a := by rw [ms_i (by decide), ms_i (by decide)]; exact p5
  obtain ⟨z, q1, q2, q3⟩ := l197 (lo := lo) (hi := hi) (a := a) (1000 - mset (mset e1 769 15 a) 769 14 0 769 10 : Int).toNat 0 (mset (mset e1 769 15 a) 769 14 0) (h.fr (by rw [ms_i (by decide), ms_i (by decide)]; exact p4 9 (by decide)) (by rw [← p3 776 (by decide)]; funext j; rw [ms_a (by decide), ms_a (by decide)])) (by omega) (by omega) (by omega) (by omega) (by omega) (by rw [ms_i (by decide), ms_i (by decide), p4 13 (by decide)]; exact h13) (by rw [ms_i (by decide), ms_e rfl rfl]) (fun _ => by rw [ms_e rfl rfl]; rfl)
  rw [show a + 0 = a by omega] at q1
  have f1 : FrR e e1 := ⟨p3, fun j hj => p4 j (by omega)⟩
  refine ⟨a, z, p2, q1, ?_⟩
  unfold v_197 g_197
  rw [ef]
  exact ⟨(f1.trans ((FrR.set (by decide)).trans (FrR.set (by decide)))).trans q2, q3⟩
/-! ===== both readers side by side: numbers and semicolons ===== -/
def Syn (d e : mD) : Prop := TX (d 579) (d 578 1) e ∧ e 769 13 = 0 ∧ (0 ≤ e 769 10 ∧ e 769 10 ≤ d 578 1) ∧ BL (d 579) (d 578 1) (e 769 10) (d 577 2) ∧ TokAt (d 579) (d 578 1) (d 577 2) (d 577 1) (d 577 3) (d 577 4)
def FrC (d d' : mD) : Prop := ∀ b, ¬ b = 576 → ¬ b = 577 → d' b = d b
def Fail (d' e' : mD) : Prop := ∃ c p, d' 576 2 = c ∧ d' 576 3 = p ∧ BadR c p e'
theorem TokAt.z {b : Int → Int} {L a k z m : Int} (h : TokAt b L a k z m) (h1 : a ≤ L) : a ≤ z ∧ z ≤ L := by
  rcases h with ⟨a1, a2, a3⟩ | ⟨a1, a2, a3, a4⟩ | ⟨a1, a2, a3, a4⟩ | ⟨a1, a2, a3, a4⟩ | ⟨a1, a2, a3, a4, a5, a6⟩
  · omega
  · exact ⟨a4.1, a4.2.1⟩
  · exact ⟨a3.1, a3.2.1⟩
  · omega
  · omega
theorem Syn.next {d d0 e e' : mD} (h : Syn d e) (h0 : FrC d d0) (h3 : d0 577 3 = d 577 3) (hf : FrR e e') (h13 : e' 769 13 = 0) (h10 : e' 769 10 = d 577 3) : Syn (g_52 577 d0) e' ∧ FrC d (g_52 577 d0) := by
  obtain ⟨tx, b13, bt, bl, tk⟩ := h
  have hz := tk.z bl.2.1
  have q1 : d0 579 = d 579 := h0 579 (by decide) (by decide)
  have q2 : d0 578 = d 578 := h0 578 (by decide) (by decide)
  have := bl.1
  obtain ⟨a1, a2, a3⟩ := adv (L := d 578 1) (d := d0) (by rw [q2]) tx.1.2 (by omega) (by omega)
  rw [q1, h3] at a2
  rw [q1] at a3
  have e9 : g_52 577 d0 579 = d 579 := by rw [a1 579 (by decide), q1]
  have e8 : g_52 577 d0 578 = d 578 := by rw [a1 578 (by decide), q2]
  refine ⟨⟨?_, h13, ?_, ?_, ?_⟩, fun b x y => by rw [a1 b y, h0 b x y]⟩
  · rw [e9, e8]
    exact tx.fr (hf.2 9 (by decide)) (hf.1 776 (by decide))
  · rw [e8, h10]
    omega
  · rw [e9, e8, h10]
    exact a2
  · rw [e9, e8]
    exact a3
theorem fail32 {c : Int} {d : mD} : g_32 576 c d 576 2 = c ∧ g_32 576 c d 576 3 = d 577 2 ∧ FrC d (g_32 576 c d) := by
  unfold g_32
  exact ⟨by rw [ms_i (by decide), ms_e rfl rfl], by rw [ms_e rfl rfl]; rfl, fun b x y => by funext j; rw [ms_a x, ms_a x]⟩
theorem RU.nil {P : Int → Prop} {b : Int → Int} {L a z : Int} (h : RU P b L a z) (hn : a < L → ¬ P (b a)) : z = a := by
  obtain ⟨p1, p2, p3, p4⟩ := h
  by_cases c : a < z
  · exact absurd (p3 a (by omega) c) (hn (by omega))
  · omega
theorem takeNum {d e : mD} {lo hi : Int} (h : Syn d e) : FrC d (g_25 576 lo hi d) ∧ FrR e (g_197 769 lo hi e) ∧ ((v_25 576 lo hi d = 1 ∧ Syn (g_25 576 lo hi d) (g_197 769 lo hi e) ∧ g_25 576 lo hi d 576 4 = v_197 769 lo hi e ∧ lo ≤ v_197 769 lo hi e ∧ v_197 769 lo hi e ≤ hi) ∨ (v_25 576 lo hi d = 0 ∧ Fail (g_25 576 lo hi d) (g_197 769 lo hi e) ∧ v_197 769 lo hi e = 0)) := by
  obtain ⟨tx, b13, bt, bl, tk⟩ := id h
  obtain ⟨a, z, n1, n2, nf, nr⟩ := n197 (lo := lo) (hi := hi) tx bt.1 bt.2 b13
  have ea : a = d 577 2 := n1.uni bl
  rw [ea] at n2 nr
  generalize hv : v_197 769 lo hi e = v at *
  generalize hw : g_197 769 lo hi e = e' at *
  have nf : FrR e e' := nf
  have bad : ∀ c, BadR c (d 577 2) e' → v = 0 → v_25 576 lo hi d = 0 → g_25 576 lo hi d = g_32 576 c d → FrC d (g_25 576 lo hi d) ∧ FrR e e' ∧ ((v_25 576 lo hi d = 1 ∧ Syn (g_25 576 lo hi d) e' ∧ g_25 576 lo hi d 576 4 = v ∧ lo ≤ v ∧ v ≤ hi) ∨ (v_25 576 lo hi d = 0 ∧ Fail (g_25 576 lo hi d) e' ∧ v = 0)) := fun c hb hv0 hvc hgc => by
    rw [hgc]
    obtain ⟨f1, f2, f3⟩ := fail32 (c := c) (d := d)
    exact ⟨f3, nf, Or.inr ⟨hvc, ⟨c, d 577 2, f1, f2, hb⟩, hv0⟩⟩
  by_cases k1 : d 577 1 = 1
  · have tk3 : d 577 2 < d 578 1 ∧ isDi (d 579 (d 577 2)) ∧ RU isDi (d 579) (d 578 1) (d 577 2) (d 577 3) ∧ d 577 3 - d 577 2 ≤ 5 ∧ d 577 4 = dv (d 579) (d 577 2) (d 577 3 - d 577 2).toNat := by
      rcases tk with ⟨a1, a2, a3⟩ | ⟨a1, a2, a3, a4⟩ | ⟨a1, a2, a3, a4⟩ | ⟨a1, a2, a3, a4⟩ | ⟨a1, a2, a3, a4, a5, a6⟩
      · omega
      · omega
      · rcases a4 with a4 | a4
        · exact ⟨a1, a2, a3, a4.1, a4.2.2⟩
        · omega
      · omega
      · omega
    obtain ⟨t1, t2, t3, t4, t5⟩ := tk3
    have ez : z = d 577 3 := n2.uni t3
    rw [ez] at nr
    rw [← t5] at nr
    have hz : d 577 2 < d 577 3 := by
      by_cases c : d 577 2 < d 577 3
      · exact c
      · have e3 : d 577 3 = d 577 2 := by have := t3.1; omega
        have := t3.2.2.2
        rw [e3] at this
        exact absurd t2 (this t1)
    have ev : v_25 576 lo hi d = if d 577 4 < lo then 0 else if hi < d 577 4 then 0 else 1 := by
      unfold v_25
      rw [show (576 : Int) + 1 = 577 by decide, if_pos k1]
      rfl
    have eg : g_25 576 lo hi d = if d 577 4 < lo then g_32 576 2 d else if hi < d 577 4 then g_32 576 2 d else g_52 577 (mset d 576 4 (d 577 4)) := by
      unfold g_25
      rw [show (576 : Int) + 1 = 577 by decide, if_pos k1]
    rcases nr with nr | nr | nr | nr
    · omega
    · omega
    · obtain ⟨r1, r2, r3, r4, r5⟩ := nr
      have r4 : v = 0 := r4
      by_cases c1 : d 577 4 < lo
      · rw [if_pos c1] at ev eg
        exact bad 2 r5 r4 ev eg
      · have c2 : hi < d 577 4 := by omega
        rw [if_neg c1, if_pos c2] at ev eg
        exact bad 2 r5 r4 ev eg
    · obtain ⟨r1, r2, r3, r4, r5, r6⟩ := nr
      have r4 : v = d 577 4 := r4
      rw [if_neg (by omega), if_neg (by omega)] at ev eg
      obtain ⟨s1, s2⟩ := h.next (d0 := mset d 576 4 (d 577 4)) (fun b x y => by funext j; exact ms_a x) (ms_a (by decide)) nf r5 r6
      rw [eg, ev]
      refine ⟨s2, nf, Or.inl ⟨rfl, s1, ?_, by omega, by omega⟩⟩
      have := (adv (L := d 578 1) (d := mset d 576 4 (d 577 4)) (by rw [ms_a (by decide)]) tx.1.2 (by rw [ms_a (by decide)]; have := bl.1; omega) (by rw [ms_a (by decide)]; exact t3.2.1)).1 576 (by decide)
      rw [this, ms_e rfl rfl, r4]
  · have ev : v_25 576 lo hi d = 0 := by
      unfold v_25
      rw [show (576 : Int) + 1 = 577 by decide, if_neg k1]
      rfl
    have eg : g_25 576 lo hi d = g_32 576 1 d := by
      unfold g_25
      rw [show (576 : Int) + 1 = 577 by decide, if_neg k1]
    have hz : z = d 577 2 ∨ 5 < z - d 577 2 := by
      rcases tk with ⟨a1, a2, a3⟩ | ⟨a1, a2, a3, a4⟩ | ⟨a1, a2, a3, a4⟩ | ⟨a1, a2, a3, a4⟩ | ⟨a1, a2, a3, a4, a5, a6⟩
      · exact Or.inl (n2.nil (fun y => by omega))
      · exact Or.inl (n2.nil (fun _ y => by unfold isLe at a2; unfold isDi at y; omega))
      · rcases a4 with a4 | a4
        · exact absurd a4.2.1 k1
        · have ez : z = d 577 3 := n2.uni a3
          right
          omega
      · exact Or.inl (n2.nil (fun _ y => by unfold isDi at y; omega))
      · exact Or.inl (n2.nil (fun _ y => a3 y))
    rcases nr with nr | nr | nr | nr
    · exact bad 1 nr.2.2 nr.2.1 ev eg
    · exact bad 1 nr.2.2 nr.2.1 ev eg
    · omega
    · omega
-- a semicolon
theorem takeSemi {d e : mD} (h : Syn d e) : (v_30 576 d = 0 ∨ v_30 576 d = 1) ∧ (v_31 576 d = 0 ∨ v_31 576 d = 1) ∧ FrC d (g_31 576 d) ∧ FrR e (g_195 769 e) ∧ ((v_31 576 d = 1 ∧ Syn (g_31 576 d) (g_195 769 e)) ∨ (v_31 576 d = 0 ∧ Fail (g_31 576 d) (g_195 769 e))) ∧ v_31 576 d = v_30 576 d ∧ (v_30 576 d = 1 → g_30 576 d = d) ∧ (v_30 576 d = 0 → g_31 576 d = g_30 576 d) := by
  obtain ⟨tx, b13, bt, bl, tk⟩ := id h
  obtain ⟨a, e1, p1, p2, p3, p4, p5⟩ := bl189 tx bt.1 bt.2
  have ea : a = d 577 2 := p2.uni bl
  rw [ea] at p5
  have f1 : FrR e e1 := ⟨p3, fun j hj => p4 j (by omega)⟩
  have e13 : e1 769 13 = 0 := by rw [p4 13 (by decide)]; exact b13
  have vr : v_192 769 59 e = if d 577 2 < d 578 1 then (if e 776 (d 577 2) = 59 then 1 else 0) else 0 := by
    unfold v_192
    rw [p1, p5, tx.2.1, show (769 : Int) + 7 = 776 by decide]
  have gr : g_192 769 59 e = e1 := p1
  have er : g_195 769 e = if v_192 769 59 e = 0 then g_188 769 1 (d 577 2) e1 else mset e1 769 10 (d 577 2 + 1) := by
    unfold g_195
    rw [if_pos b13, gr, p5]
  have hb0 := bl.1
  by_cases k2 : d 577 1 = 2
  · have t : d 577 2 < d 578 1 ∧ d 579 (d 577 2) = 59 ∧ d 577 3 = d 577 2 + 1 := by
      rcases tk with ⟨a1, a2, a3⟩ | ⟨a1, a2, a3, a4⟩ | ⟨a1, a2, a3, a4⟩ | ⟨a1, a2, a3, a4⟩ | ⟨a1, a2, a3, a4, a5, a6⟩
      · omega
      · omega
      · omega
      · exact ⟨a1, a2, a4⟩
      · omega
    obtain ⟨t1, t2, t3⟩ := t
    have g := tx.2.2 (d 577 2) (by omega) t1
    rw [if_pos t1, if_pos (by omega)] at vr
    rw [vr, if_neg (by decide)] at er
    have ev : v_30 576 d = 1 := by
      unfold v_30
      rw [show (576 : Int) + 1 = 577 by decide, if_pos k2]
    have eg : g_30 576 d = d := by
      unfold g_30
      rw [show (576 : Int) + 1 = 577 by decide, if_pos k2]
    have ev1 : v_31 576 d = 1 := by
      unfold v_31
      rw [ev, if_neg (by decide)]
    have eg1 : g_31 576 d = g_52 577 d := by
      unfold g_31
      rw [ev, if_neg (by decide), eg]
      rfl
    have fr := f1.trans (FrR.set (e := e1) (j := 10) (v := d 577 2 + 1) (by decide))
    obtain ⟨s1, s2⟩ := h.next (d0 := d) (fun _ _ _ => rfl) rfl fr (by rw [ms_i (by decide)]; exact e13) (by rw [ms_e rfl rfl, t3])
    rw [er, ev, ev1, eg, eg1]
    exact ⟨Or.inr rfl, Or.inr rfl, s2, fr, Or.inl ⟨rfl, s1⟩, rfl, fun _ => rfl, fun z => absurd z (by decide)⟩
  · have t : d 577 2 < d 578 1 → ¬ d 579 (d 577 2) = 59 := by
      rcases tk with ⟨a1, a2, a3⟩ | ⟨a1, a2, a3, a4⟩ | ⟨a1, a2, a3, a4⟩ | ⟨a1, a2, a3, a4⟩ | ⟨a1, a2, a3, a4, a5, a6⟩
      · intro z; omega
      · intro _ z; unfold isLe at a2; omega
      · intro _ z; unfold isDi at a2; omega
      · exact absurd a3 k2
      · intro _; exact a4
    have vr0 : v_192 769 59 e = 0 := by
      rw [vr]
      by_cases c : d 577 2 < d 578 1
      · have g := tx.2.2 (d 577 2) (by omega) c
        have := t c
        rw [if_pos c, if_neg (by omega)]
      · rw [if_neg c]
    rw [if_pos vr0] at er
    have ev : v_30 576 d = 0 := by
      unfold v_30
      rw [show (576 : Int) + 1 = 577 by decide, if_neg k2]
      rfl
    have eg : g_30 576 d = g_32 576 1 d := by
      unfold g_30
      rw [show (576 : Int) + 1 = 577 by decide, if_neg k2]
    have ev1 : v_31 576 d = 0 := by
      unfold v_31
      rw [ev, if_pos rfl]
    have eg1 : g_31 576 d = g_32 576 1 d := by
      unfold g_31
      rw [ev, if_pos rfl, eg]
    obtain ⟨b1, b2⟩ := flt188 (c := 1) (p := d 577 2) e13
    obtain ⟨c1, c2, c3⟩ := fail32 (c := 1) (d := d)
    rw [er, ev, ev1, eg, eg1]
    exact ⟨Or.inl rfl, Or.inl rfl, c3, f1.trans b2, Or.inr ⟨rfl, 1, d 577 2, c1, c2, b1⟩, rfl, fun z => absurd z (by decide), fun _ => rfl⟩
/-! ===== both readers side by side: names ===== -/
theorem nameC {d : mD} {a z : Int} (hz : z - a ≤ 6) (hl : ∀ j, a ≤ j → j < z → isLe (d 579 j)) : ∀ (n : Nat) (c i : Int), ((c = 0 ∧ i = 0) ∨ (okN c ∧ 1 ≤ i)) → nmB i c → nm c = wc (d 579) a i.toNat → a + i ≤ z → a < z → z - (a + i) ≤ (n : Int) → okN (lp_93_20 578 a z n c (a + i) d) ∧ nm (lp_93_20 578 a z n c (a + i) d) = wc (d 579) a (z - a).toNat := by
  have fin : ∀ (r : Int → Int → mD → Int) (c i : Int), ((c = 0 ∧ i = 0) ∨ (okN c ∧ 1 ≤ i)) → nm c = wc (d 579) a i.toNat → a < z → a + i = z → okN (st_93_20 578 a z r c (a + i) d) ∧ nm (st_93_20 578 a z r c (a + i) d) = wc (d 579) a (z - a).toNat := fun r c i hc hw h0 h1 => by
    unfold st_93_20
    rw [if_neg (by omega), show (z - a).toNat = i.toNat by omega]
    refine ⟨?_, hw⟩
    rcases hc with hc | hc
    · omega
    · exact hc.1
  intro n
  induction n with
  | zero =>
    intro c i hc hb hw h1 h0 hn
    exact fin _ c i hc hw h0 (by omega)
  | succ n ih =>
    intro c i hc hb hw h1 h0 hn
    by_cases q : a + i < z
    · have i0 : 0 ≤ i := by
        rcases hc with hc | hc <;> omega
      have le := hl (a + i) (by omega) q
      have hv : ¬ v_91 578 (a + i) d = 0 := by
        rcases v91_i (i := a + i) (d := d) with ⟨v, g⟩ | ⟨v, g⟩
        · exact absurd le g
        · omega
      have hb' : (i = 0 ∧ c < 1) ∨ (i = 1 ∧ c < 32) ∨ (i = 2 ∧ c < 1024) ∨ (i = 3 ∧ c < 32768) ∨ (i = 4 ∧ c < 1048576) ∨ (i = 5 ∧ c < 33554432) := by
        exact hb.lt (by omega)
      unfold isLe at le
      have hc5 := nmB.b5 hb'
      obtain ⟨o1, o2, o3⟩ := okStep (l := d 579 (a + i) - 96) hc hb' (by clear hb hb'; omega)
      clear hb hb'
      have hc0 : 0 ≤ c := by
        rcases hc with hc | hc
        · omega
        · have := hc.1.1
          omega
      have hm : mior (mishl c 5) (d 579 (a + i) - 96) = 32 * c + (d 579 (a + i) - 96) := by
        exact mior5 hc0 hc5 (by clear o3; omega) (by clear o3; omega)
      have e1 : lp_93_20 578 a z (n + 1) c (a + i) d = lp_93_20 578 a z n (32 * c + (d 579 (a + i) - 96)) (a + (i + 1)) d := by
        show st_93_20 578 a z _ c (a + i) d = _
        unfold st_93_20
        rw [if_pos q, if_neg hv, show (578 : Int) + 1 = 579 by decide, hm, show a + i + 1 = a + (i + 1) by omega]
      rw [e1]
      refine ih _ (i + 1) (Or.inr ⟨o1, by clear o3; omega⟩) (nmB.up o3) ?_ (by clear o3; omega) h0 (by clear o3; omega)
      rw [o2, hw, show (i + 1).toNat = i.toNat + 1 by omega]
      show _ = 27 * wc (d 579) a i.toNat + d 579 (a + (i.toNat : Int)) - 96
      rw [show a + (i.toNat : Int) = a + i by omega]
      omega
    · exact fin _ c i hc hw h0 (by omega)
theorem mc0 {x : Int} : 0 < mcmp x 0 ↔ 0 < x := by
  unfold mcmp
  split
  · omega
  · split <;> omega
theorem takeName {d e : mD} (h : Syn d e) : FrC d (g_26 576 d) ∧ FrR e (g_198 769 e) ∧ g_198 769 e 769 16 = d 577 2 ∧ ((okN (v_56 577 d) ∧ v_26 576 d = 1 ∧ Syn (g_26 576 d) (g_198 769 e) ∧ g_26 576 d 576 5 = v_56 577 d ∧ v_198 769 e = nm (v_56 577 d)) ∨ (v_56 577 d = -1 ∧ v_26 576 d = 0 ∧ Fail (g_26 576 d) (g_198 769 e) ∧ v_198 769 e = 0)) := by
  obtain ⟨tx, b13, bt, bl, tk⟩ := id h
  obtain ⟨a, z, e1, p1, p2, p3, p4, p5, p6, p7⟩ := w193 (lim := 6) (by decide) tx bt.1 bt.2
  have ea : a = d 577 2 := p1.uni bl
  rw [ea] at p2 p3 p7
  have f1 : FrR e e1 := ⟨p4, fun j hj => p5 j (by omega) (by omega)⟩
  have e13 : e1 769 13 = 0 := by rw [p5 13 (by decide) (by decide)]; exact b13
  have v3 : v_193 769 6 e = if z - d 577 2 ≤ 6 then wc (d 579) (d 577 2) (z - d 577 2).toNat else -1 := by
    unfold v_193
    rw [p3]
  have g3 : g_193 769 6 e = e1 := by
    unfold g_193
    rw [p3]
  have vr : v_198 769 e = if 0 < v_193 769 6 e then v_193 769 6 e else 0 := by
    unfold v_198
    rw [if_pos b13, g3, p7]
    obtain ⟨b1, -⟩ := flt188 (c := 1) (p := d 577 2) e13
    by_cases c : 0 < v_193 769 6 e
    · rw [if_pos (mc0.2 c), if_pos c, if_pos e13]
    · rw [if_neg (fun y => c (mc0.1 y)), if_neg c, if_neg (by rw [b1.1]; decide)]
  have gr : g_198 769 e = if 0 < v_193 769 6 e then e1 else g_188 769 1 (d 577 2) e1 := by
    unfold g_198
    rw [if_pos b13, g3, p7]
    by_cases c : 0 < v_193 769 6 e
    · rw [if_pos (mc0.2 c), if_pos c]
    · rw [if_neg (fun y => c (mc0.1 y)), if_neg c]
  have b16 : g_188 769 1 (d 577 2) e1 769 16 = d 577 2 := by
    unfold g_188
    rw [if_pos e13, ms_i (by decide), ms_i (by decide), ms_i (by decide), p7]
  have bad : v_56 577 d = -1 → ¬ 0 < v_193 769 6 e → FrC d (g_26 576 d) ∧ FrR e (g_198 769 e) ∧ g_198 769 e 769 16 = d 577 2 ∧ ((okN (v_56 577 d) ∧ v_26 576 d = 1 ∧ Syn (g_26 576 d) (g_198 769 e) ∧ g_26 576 d 576 5 = v_56 577 d ∧ v_198 769 e = nm (v_56 577 d)) ∨ (v_56 577 d = -1 ∧ v_26 576 d = 0 ∧ Fail (g_26 576 d) (g_198 769 e) ∧ v_198 769 e = 0)) := fun hv hn => by
    rw [if_neg hn] at vr gr
    have eg : g_26 576 d = g_32 576 1 (mset d 576 5 (-1)) := by
      unfold g_26
      rw [show (576 : Int) + 1 = 577 by decide, hv, if_pos rfl]
    have ev : v_26 576 d = 0 := by
      unfold v_26
      rw [show (576 : Int) + 1 = 577 by decide, hv, if_pos rfl]
      rfl
    obtain ⟨c1, c2, c3⟩ := fail32 (c := 1) (d := mset d 576 5 (-1))
    rw [ms_a (by decide)] at c2
    obtain ⟨b1, b2⟩ := flt188 (c := 1) (p := d 577 2) e13
    rw [eg, gr]
    exact ⟨fun b x y => by rw [c3 b x y]; funext j; exact ms_a x, f1.trans b2, b16, Or.inr ⟨hv, ev, ⟨1, d 577 2, c1, c2, b1⟩, vr⟩⟩
  by_cases k0 : d 577 1 = 0
  · have t : d 577 2 < d 578 1 ∧ isLe (d 579 (d 577 2)) ∧ RU isLe (d 579) (d 578 1) (d 577 2) (d 577 3) := by
      rcases tk with ⟨a1, a2, a3⟩ | ⟨a1, a2, a3, a4⟩ | ⟨a1, a2, a3, a4⟩ | ⟨a1, a2, a3, a4⟩ | ⟨a1, a2, a3, a4, a5, a6⟩
      · omega
      · exact ⟨a1, a2, a4⟩
      · omega
      · omega
      · omega
    obtain ⟨t1, t2, t3⟩ := t
    have ez : z = d 577 3 := p2.uni t3
    rw [ez] at v3 p6
    have hz : d 577 2 < d 577 3 := by
      by_cases c : d 577 2 < d 577 3
      · exact c
      · have e3 : d 577 3 = d 577 2 := by have := t3.1; omega
        have := t3.2.2.2
        rw [e3] at this
        exact absurd t2 (this t1)
    have v56 : v_56 577 d = if 6 < d 577 3 - d 577 2 then -1 else lp_93_20 578 (d 577 2) (d 577 3) (d 577 3 - d 577 2 : Int).toNat 0 (d 577 2) d := by
      unfold v_56 v_93
      rw [if_pos k0, if_pos hz]
      rfl
    by_cases c6 : 6 < d 577 3 - d 577 2
    · rw [if_pos c6] at v56
      exact bad v56 (by rw [v3, if_neg (by omega)]; decide)
    · rw [if_neg c6] at v56
      rw [if_pos (by omega)] at v3
      obtain ⟨n1, n2⟩ := nameC (d := d) (a := d 577 2) (z := d 577 3) (by omega) t3.2.2.1 (d 577 3 - d 577 2 : Int).toNat 0 0 (Or.inl ⟨rfl, rfl⟩) (Or.inl ⟨rfl, by decide⟩) (by rw [nm_zero]; rfl) (by omega) hz (by omega)
      rw [show d 577 2 + 0 = d 577 2 by omega, ← v56] at n1 n2
      have np := nm_pos n1
      rw [← n2] at v3
      rw [v3, if_pos np] at vr gr
      have c0 := n1.1
      have hne : ¬ v_56 577 d = -1 := by omega
      have eg : g_26 576 d = g_52 577 (mset d 576 5 (v_56 577 d)) := by
        unfold g_26
        rw [show (576 : Int) + 1 = 577 by decide, if_neg hne]
      have ev : v_26 576 d = 1 := by
        unfold v_26
        rw [show (576 : Int) + 1 = 577 by decide, if_neg hne]
      obtain ⟨s1, s2⟩ := h.next (d0 := mset d 576 5 (v_56 577 d)) (fun b x y => by funext j; exact ms_a x) (ms_a (by decide)) f1 e13 p6
      have e5 := (adv (L := d 578 1) (d := mset d 576 5 (v_56 577 d)) (by rw [ms_a (by decide)]) tx.1.2 (by rw [ms_a (by decide)]; have := bl.1; omega) (by rw [ms_a (by decide)]; exact t3.2.1)).1 576 (by decide)
      rw [eg, gr]
      exact ⟨s2, f1, p7, Or.inl ⟨n1, ev, s1, by rw [e5, ms_e rfl rfl], vr⟩⟩
  · have v56 : v_56 577 d = -1 := by
      unfold v_56
      rw [if_neg k0]
    have ez : z = d 577 2 := by
      rcases tk with ⟨a1, a2, a3⟩ | ⟨a1, a2, a3, a4⟩ | ⟨a1, a2, a3, a4⟩ | ⟨a1, a2, a3, a4⟩ | ⟨a1, a2, a3, a4, a5, a6⟩
      · exact p2.nil (fun y => by omega)
      · exact absurd a3 k0
      · exact p2.nil (fun _ y => by unfold isLe at y; unfold isDi at a2; omega)
      · exact p2.nil (fun _ y => by unfold isLe at y; omega)
      · exact p2.nil (fun _ y => a2 y)
    refine bad v56 ?_
    rw [v3, ez, if_pos (by omega), show (d 577 2 - d 577 2).toNat = 0 by omega]
    show ¬ (0 : Int) < 0
    decide
/-! ===== both readers side by side: words ===== -/
theorem wc_nn {b : Int → Int} {a : Int} : ∀ n : Nat, (∀ i : Int, 0 ≤ i → i < (n : Int) → isLe (b (a + i))) → 0 ≤ wc b a n ∧ (0 < n → 0 < wc b a n) := by
  intro n
  induction n with
  | zero => intro _; exact ⟨by show (0 : Int) ≤ 0; decide, fun z => absurd z (by omega)⟩
  | succ n ih =>
    intro h
    have h1 := (ih (fun i x y => h i x (by omega))).1
    have h2 := h n (by omega) (by omega)
    unfold isLe at h2
    have e : wc b a (n + 1) = 27 * wc b a n + b (a + n) - 96 := rfl
    rw [e]
    exact ⟨by omega, fun _ => by omega⟩
theorem wc_inj {f g : Int → Int} {a c : Int} : ∀ n m : Nat, (∀ i : Int, 0 ≤ i → i < (n : Int) → isLe (f (a + i))) → (∀ i : Int, 0 ≤ i → i < (m : Int) → isLe (g (c + i))) → wc f a n = wc g c m → n = m ∧ ∀ i : Int, 0 ≤ i → i < (n : Int) → f (a + i) = g (c + i) := by
  intro n
  induction n with
  | zero =>
    intro m hf hg h
    have h : 0 = wc g c m := h
    have := (wc_nn m hg).2
    exact ⟨by omega, fun i x y => by omega⟩
  | succ n ih =>
    intro m hf hg h
    cases m with
    | zero =>
      have := (wc_nn (n + 1) hf).2 (by omega)
      have h : wc f a (n + 1) = 0 := h
      omega
    | succ m =>
      have h1 := hf n (by omega) (by omega)
      have h2 := hg m (by omega) (by omega)
      unfold isLe at h1 h2
      have h : 27 * wc f a n + f (a + n) - 96 = 27 * wc g c m + g (c + m) - 96 := h
      obtain ⟨q1, q2⟩ := ih m (fun i x y => hf i x (by omega)) (fun i x y => hg i x (by omega)) (by omega)
      refine ⟨by omega, fun i x y => ?_⟩
      by_cases z : i = n
      · rw [z]
        subst q1
        omega
      · exact q2 i x (by omega)
def wordOK (w code : Int) : Prop := wc (fun i => tsc w i) 0 (tsl w).toNat = code ∧ (1 ≤ tsl w ∧ tsl w ≤ 8) ∧ ∀ i : Int, 0 ≤ i → i < tsl w → isLe (tsc w i)
theorem mcz {x y : Int} : mcmp x y = 0 ↔ x = y := by
  unfold mcmp
  split
  · omega
  · split <;> omega
theorem BL.self {b : Int → Int} {L i a : Int} (h : BL b L i a) : BL b L a a := ⟨by omega, h.2.1, fun j x y => by omega, h.2.2.2⟩
theorem isWord {d e : mD} {w code : Int} (h : Syn d e) (hw : wordOK w code) : FrR e (g_194 769 code e) ∧ ((v_55 577 w d = 1 ∧ v_194 769 code e = 1 ∧ Syn (g_52 577 d) (g_194 769 code e) ∧ FrC d (g_52 577 d)) ∨ (v_55 577 w d = 0 ∧ v_194 769 code e = 0 ∧ Syn d (g_194 769 code e))) := by
  obtain ⟨tx, b13, bt, bl, tk⟩ := id h
  obtain ⟨hw1, hw2, hw3⟩ := hw
  obtain ⟨a0, e0, o1, o2, o3, o4, o5⟩ := bl189 tx bt.1 bt.2
  have ea0 : a0 = d 577 2 := o2.uni bl
  rw [ea0] at o5
  have f0 : FrR e e0 := ⟨o3, fun j hj => o4 j (by omega)⟩
  have e013 : e0 769 13 = 0 := by rw [o4 13 (by decide)]; exact b13
  have tx0 : TX (d 579) (d 578 1) e0 := tx.fr (o4 9 (by decide)) (o3 776 (by decide))
  have b0 := bl.1
  obtain ⟨a, z, e1, p1, p2, p3, p4, p5, p6, p7⟩ := w193 (lim := 8) (by decide) tx0 (by omega) (by have := bl.2.1; omega)
  rw [o5] at p1
  have ea : a = d 577 2 := p1.uni bl.self
  rw [ea] at p2 p3
  have f1 : FrR e0 e1 := ⟨p4, fun j hj => p5 j (by omega) (by omega)⟩
  have e13 : e1 769 13 = 0 := by rw [p5 13 (by decide) (by decide)]; exact e013
  have v3 : v_193 769 8 e0 = if z - d 577 2 ≤ 8 then wc (d 579) (d 577 2) (z - d 577 2).toNat else -1 := by
    unfold v_193
    rw [p3]
  have g3 : g_193 769 8 e0 = e1 := by
    unfold g_193
    rw [p3]
  have vr : v_194 769 code e = if v_193 769 8 e0 = code then 1 else 0 := by
    unfold v_194
    rw [o1, if_pos e013]
    by_cases c : v_193 769 8 e0 = code
    · rw [if_pos (mcz.2 c), if_pos c]
    · rw [if_neg (fun y => c (mcz.1 y)), if_neg c]
  have gr : g_194 769 code e = if v_193 769 8 e0 = code then e1 else mset e1 769 10 (d 577 2) := by
    unfold g_194
    rw [o1, if_pos e013, g3, o5]
    by_cases c : v_193 769 8 e0 = code
    · rw [if_pos (mcz.2 c), if_pos c]
    · rw [if_neg (fun y => c (mcz.1 y)), if_neg c]
  have lw : ∀ i : Int, 0 ≤ i → i < ((tsl w).toNat : Int) → isLe ((fun i => tsc w i) (0 + i)) := fun i x y => by
    show isLe (tsc w (0 + i))
    rw [Int.zero_add]
    exact hw3 i x (by omega)
  have cpos : 0 < code := by
    rw [← hw1]
    exact (wc_nn _ lw).2 (by omega)
  have ls : ∀ i : Int, 0 ≤ i → i < ((z - d 577 2).toNat : Int) → isLe (d 579 (d 577 2 + i)) := fun i x y => p2.2.2.1 _ (by omega) (by omega)
  have hm : v_193 769 8 e0 = code ↔ (z - d 577 2 = tsl w ∧ ∀ i, 0 ≤ i → i < tsl w → d 579 (d 577 2 + i) = tsc w i) := by
    rw [v3]
    constructor
    · intro y
      by_cases c : z - d 577 2 ≤ 8
      · rw [if_pos c, ← hw1] at y
        obtain ⟨q1, q2⟩ := wc_inj (z - d 577 2).toNat (tsl w).toNat ls lw y
        have := p2.1
        refine ⟨by omega, fun i x u => ?_⟩
        have := q2 i x (by omega)
        rw [Int.zero_add] at this
        exact this
      · rw [if_neg c] at y
        omega
    · rintro ⟨y1, y2⟩
      rw [if_pos (by omega), ← hw1, y1]
      have ext : ∀ n : Nat, (n : Int) ≤ tsl w → wc (d 579) (d 577 2) n = wc (fun i => tsc w i) 0 n := by
        intro n
        induction n with
        | zero => intro _; rfl
        | succ n ih =>
          intro hn
          show 27 * wc (d 579) (d 577 2) n + d 579 (d 577 2 + n) - 96 = 27 * wc (fun i => tsc w i) 0 n + tsc w (0 + n) - 96
          rw [ih (by omega), y2 n (by omega) (by omega), Int.zero_add]
      exact ext _ (by omega)
  by_cases c : v_193 769 8 e0 = code
  · obtain ⟨m1, m2⟩ := hm.1 c
    rw [if_pos c] at vr gr
    have k : d 577 1 = 0 ∧ RU isLe (d 579) (d 578 1) (d 577 2) (d 577 3) := by
      have l0 := m2 0 (by decide) (by omega)
      have ll := p2.2.2.1 (d 577 2) (by omega) (by omega)
      have zz := p2.2.1
      rcases tk with ⟨a1, a2, a3⟩ | ⟨a1, a2, a3, a4⟩ | ⟨a1, a2, a3, a4⟩ | ⟨a1, a2, a3, a4⟩ | ⟨a1, a2, a3, a4, a5, a6⟩
      · omega
      · exact ⟨a3, a4⟩
      · unfold isLe at ll
        unfold isDi at a2
        omega
      · unfold isLe at ll
        omega
      · exact absurd ll a2
    have ez : z = d 577 3 := p2.uni k.2
    have v5 : v_55 577 w d = 1 := by
      unfold v_55
      rw [if_pos k.1, if_pos (by omega), if_pos]
      rw [List.all_eq_true]
      intro i hi
      rw [List.mem_range] at hi
      exact decide_eq_true (m2 i (by omega) (by omega))
    obtain ⟨s1, s2⟩ := h.next (d0 := d) (fun _ _ _ => rfl) rfl (f0.trans f1) e13 (by rw [p6, ez])
    rw [gr]
    exact ⟨f0.trans f1, Or.inl ⟨v5, vr, s1, s2⟩⟩
  · rw [if_neg c] at vr gr
    have v5 : v_55 577 w d = 0 := by
      unfold v_55
      by_cases k : d 577 1 = 0
      · rw [if_pos k]
        by_cases k3 : d 577 3 - d 577 2 = tsl w
        · rw [if_pos k3, if_neg]
          intro y
          rw [List.all_eq_true] at y
          refine c (hm.2 ?_)
          have ru : RU isLe (d 579) (d 578 1) (d 577 2) (d 577 3) := by
            rcases tk with ⟨a1, a2, a3⟩ | ⟨a1, a2, a3, a4⟩ | ⟨a1, a2, a3, a4⟩ | ⟨a1, a2, a3, a4⟩ | ⟨a1, a2, a3, a4, a5, a6⟩
            · omega
            · exact a4
            · omega
            · omega
            · omega
          have ez : z = d 577 3 := p2.uni ru
          refine ⟨by omega, fun i x u => ?_⟩
          have := of_decide_eq_true (y i.toNat (List.mem_range.2 (by omega)))
          rw [show ((i.toNat : Nat) : Int) = i by omega] at this
          exact this
        · rw [if_neg k3]
      · rw [if_neg k]
    have fr := (f0.trans f1).trans (FrR.set (e := e1) (j := 10) (v := d 577 2) (by decide))
    rw [gr]
    refine ⟨fr, Or.inr ⟨v5, vr, tx.fr (fr.2 9 (by decide)) (fr.1 776 (by decide)), by rw [ms_i (by decide)]; exact e13, ?_, ?_, tk⟩⟩
    · rw [ms_e rfl rfl]
      exact ⟨by omega, bl.2.1⟩
    · rw [ms_e rfl rfl]
      exact bl.self
/-! ===== both readers side by side: who is meant ===== -/
theorem wordK {w code k : Int} (hk : tsl w = k) (hk2 : 4 ≤ k ∧ k ≤ 7) (hc : wc (fun i => tsc w i) 0 (tsl w).toNat = code) (h0 : 97 ≤ tsc w 0 ∧ tsc w 0 ≤ 122) (h1 : 97 ≤ tsc w 1 ∧ tsc w 1 ≤ 122) (h2 : 97 ≤ tsc w 2 ∧ tsc w 2 ≤ 122) (h3 : 97 ≤ tsc w 3 ∧ tsc w 3 ≤ 122) (h4 : 4 < k → 97 ≤ tsc w 4 ∧ tsc w 4 ≤ 122) (h5 : 5 < k → 97 ≤ tsc w 5 ∧ tsc w 5 ≤ 122) (h6 : 6 < k → 97 ≤ tsc w 6 ∧ tsc w 6 ≤ 122) : wordOK w code := by
  refine ⟨hc, by omega, fun i x y => ?_⟩
  rw [hk] at y
  have : i = 0 ∨ i = 1 ∨ i = 2 ∨ i = 3 ∨ i = 4 ∨ i = 5 ∨ i = 6 := by omega
  rcases this with z | z | z | z | z | z | z
  · rw [z]; exact h0
  · rw [z]; exact h1
  · rw [z]; exact h2
  · rw [z]; exact h3
  · rw [z]; exact h4 (by omega)
  · rw [z]; exact h5 (by omega)
  · rw [z]; exact h6 (by omega)
theorem word0 : wordOK 0 40216062 := wordK (k := 6) (by decide) (by decide) (by decide) (by decide) (by decide) (by decide) (by decide) (fun _ => by decide) (fun _ => by decide) (fun z => absurd z (by decide))
theorem word1 : wordOK 1 218546996 := wordK (k := 6) (by decide) (by decide) (by decide) (by decide) (by decide) (by decide) (by decide) (fun _ => by decide) (fun _ => by decide) (fun z => absurd z (by decide))
theorem word2 : wordOK 2 232608281 := wordK (k := 6) (by decide) (by decide) (by decide) (by decide) (by decide) (by decide) (by decide) (fun _ => by decide) (fun _ => by decide) (fun z => absurd z (by decide))
theorem word3 : wordOK 3 208022 := wordK (k := 4) (by decide) (by decide) (by decide) (by decide) (by decide) (by decide) (by decide) (fun z => absurd z (by decide)) (fun z => absurd z (by decide)) (fun z => absurd z (by decide))
theorem word4 : wordOK 4 316189 := wordK (k := 4) (by decide) (by decide) (by decide) (by decide) (by decide) (by decide) (by decide) (fun z => absurd z (by decide)) (fun z => absurd z (by decide)) (fun z => absurd z (by decide))
theorem word5 : wordOK 5 1831504 := wordK (k := 5) (by decide) (by decide) (by decide) (by decide) (by decide) (by decide) (by decide) (fun _ => by decide) (fun z => absurd z (by decide)) (fun z => absurd z (by decide))
theorem word6 : wordOK 6 9050719969 := wordK (k := 7) (by decide) (by decide) (by decide) (by decide) (by decide) (by decide) (by decide) (fun _ => by decide) (fun _ => by decide) (fun _ => by decide)
theorem Syn.c {d d' e : mD} (h : Syn d e) (e7 : d' 577 = d 577) (e8 : d' 578 = d 578) (e9 : d' 579 = d 579) : Syn d' e := by
  unfold Syn
  rw [e7, e8, e9]
  exact h
theorem g26_6 {d e : mD} (h : Syn d e) (hv : ¬ v_56 577 d = -1) : g_26 576 d 576 6 = d 576 6 := by
  obtain ⟨tx, b13, bt, bl, tk⟩ := h
  have hz := tk.z bl.2.1
  have := bl.1
  unfold g_26
  rw [show (576 : Int) + 1 = 577 by decide, if_neg hv, (adv (L := d 578 1) (d := mset d 576 5 (v_56 577 d)) (by rw [ms_a (by decide)]) tx.1.2 (by rw [ms_a (by decide)]; omega) (by rw [ms_a (by decide)]; exact hz.2)).1 576 (by decide), ms_i (by decide)]
theorem v56_c {d : mD} {v : Int} : v_56 577 (mset d 576 6 v) = v_56 577 d := by
  have st : ∀ (r r' : Int → Int → mD → Int) (a b x y : Int), (∀ x y, r x y (mset d 576 6 v) = r' x y d) → st_93_20 578 a b r x y (mset d 576 6 v) = st_93_20 578 a b r' x y d := fun r r' a b x y hr => by
    unfold st_93_20 v_91
    rw [ms_a (by decide : ¬ (578 : Int) + 1 = 576), hr]
  have lp : ∀ (a b : Int) (n : Nat) (x y : Int), lp_93_20 578 a b n x y (mset d 576 6 v) = lp_93_20 578 a b n x y d := by
    intro a b n
    induction n with
    | zero => intro x y; exact st _ _ a b x y (fun _ _ => rfl)
    | succ n ih => intro x y; exact st _ _ a b x y ih
  unfold v_56 v_93
  rw [ms_a (by decide : ¬ (577 : Int) = 576), ms_a (by decide : ¬ (577 : Int) = 576), ms_a (by decide : ¬ (577 : Int) = 576), show (577 : Int) + 1 = 578 by decide, lp]
-- a person by his name
theorem takePer {d e : mD} {w : Row} (h : Syn d e) (hr : RelP 580 d w) (hw : e 770 = w) (h8 : 0 ≤ w 8 ∧ w 8 ≤ 16) : FrC d (g_27 576 d) ∧ FrR e (g_199 769 0 e) ∧ ((v_27 576 d = 1 ∧ Syn (g_27 576 d) (g_199 769 0 e) ∧ g_27 576 d 576 6 = v_199 769 0 e ∧ 0 ≤ v_199 769 0 e ∧ v_199 769 0 e < w 8) ∨ (v_27 576 d = 0 ∧ Fail (g_27 576 d) (g_199 769 0 e))) := by
  generalize hf : v_48 590 (v_56 577 d) d = f
  have ev : v_27 576 d = if v_56 577 d = -1 then v_26 576 (mset d 576 6 f) else if f = -1 then 0 else v_26 576 (mset d 576 6 f) := by
    unfold v_27
    rw [show (576 : Int) + 1 = 577 by decide, show (576 : Int) + 4 + 10 = 590 by decide, hf, v56_c]
    rfl
  have eg : g_27 576 d = if v_56 577 d = -1 then g_26 576 (mset d 576 6 f) else if f = -1 then g_32 576 4 (mset d 576 6 f) else g_26 576 (mset d 576 6 f) := by
    unfold g_27
    rw [show (576 : Int) + 1 = 577 by decide, show (576 : Int) + 4 + 10 = 590 by decide, hf, v56_c]
  have h6 : Syn (mset d 576 6 f) e := h.c (by funext j; exact ms_a (by decide)) (by funext j; exact ms_a (by decide)) (by funext j; exact ms_a (by decide))
  have c6 : FrC d (mset d 576 6 f) := fun b x y => by funext j; exact ms_a x
  obtain ⟨n1, n2, n3, n4⟩ := takeName h6
  rw [v56_c] at n4
  have s2 : mset d 576 6 f 577 2 = d 577 2 := ms_a (by decide)
  rw [s2] at n3
  have w1 : g_198 769 e 770 = w := by rw [n2.1 770 (by decide)]; exact hw
  have er : v_183 769 (v_198 769 e) (g_198 769 e) = V_183 (v_198 769 e) w := by rw [m_v_183, w1]
  have gr : g_199 769 0 e = if V_183 (v_198 769 e) w = -1 then g_188 769 4 (d 577 2) (g_198 769 e) else g_198 769 e := by
    unfold g_199
    rw [er, n3, if_pos rfl]
  rcases n4 with ⟨o1, o2, o3, o4, o5⟩ | ⟨o1, o2, o3, o4⟩
  · have hne : ¬ v_56 577 d = -1 := by
      have := o1.1
      omega
    have ff : f = V_183 (v_198 769 e) w := by
      rw [← hf, o5]
      exact findP (s := 580) hr o1
    rw [if_neg hne] at ev eg
    by_cases c : f = -1
    · rw [if_pos c] at ev eg
      rw [if_pos (by rw [← ff]; exact c)] at gr
      obtain ⟨b1, b2⟩ := flt188 (c := 4) (p := d 577 2) o3.2.1
      obtain ⟨c1, c2, c3⟩ := fail32 (c := 4) (d := mset d 576 6 f)
      rw [s2] at c2
      rw [eg, gr]
      exact ⟨fun b x y => by rw [c3 b x y, c6 b x y], n2.trans b2, Or.inr ⟨ev, 4, d 577 2, c1, c2, b1⟩⟩
    · rw [if_neg c] at ev eg
      rw [if_neg (by rw [← ff]; exact c)] at gr
      have vr : v_199 769 0 e = f := by
        unfold v_199
        rw [er, ← ff, if_neg c, if_pos rfl, if_pos o3.2.1]
      have rg := V183_rng (m := v_198 769 e) (w := w) h8
      rw [← ff] at rg
      rw [eg, gr, vr]
      exact ⟨fun b x y => by rw [n1 b x y, c6 b x y], n2, Or.inl ⟨by rw [ev]; exact o2, o3, by rw [g26_6 h6 (by rw [v56_c]; exact hne), ms_e rfl rfl], by omega, by omega⟩⟩
  · rw [if_pos o1] at ev eg
    obtain ⟨c, p, q1, q2, q3⟩ := o3
    have stay : ∀ x, g_188 769 4 x (g_198 769 e) = g_198 769 e := fun x => by
      unfold g_188
      rw [if_neg (by rw [q3.1]; decide)]
    have gr2 : g_199 769 0 e = g_198 769 e := by
      rw [gr, stay]
      split <;> rfl
    rw [eg, gr2]
    exact ⟨fun b x y => by rw [n1 b x y, c6 b x y], n2, Or.inr ⟨by rw [ev]; exact o2, c, p, q1, q2, q3⟩⟩
