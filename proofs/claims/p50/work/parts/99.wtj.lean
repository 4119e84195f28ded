/-! ===== World.takes beside the row; what is drawn for an act (takes: printed by a program of mine) ===== -/
def TKW (x0 x1 : Int) (d0 : mD) (l : List Nat) (d : mD) : Prop := TKS x0 x1 d0 l d ∧ SW x0 d ∧ SW x1 d
theorem tkw_step {x0 x1 : Int} {d0 d : mD} {l : List Nat} {n a b : Int} (k : Nat) (hk : 1 ≤ k ∧ k ≤ 27) (hn : n = tl (tpy (839 + k))) (hx : x0 + 27 < x1 ∨ x1 + 27 < x0) (ha : a = x1 + (k : Int)) (hb : b = x0 + (k : Int)) (h : TKW x0 x1 d0 l d) : TKW x0 x1 d0 (k :: l) (mcopy d a 0 b 0 n) := by
  refine ⟨tks_step k hk hn hx ha hb h.1, fun c i c0 c1 => ?_, fun c i c0 c1 => ?_⟩
  · unfold mcopy
    split
    · exact h.2.2 _ _ (by omega) (by omega)
    · exact h.2.1 _ _ c0 c1
  · rw [mcopy_ne (by omega)]
    exact h.2.2 _ _ c0 c1
theorem tkw_0 {x0 x1 : Int} {d : mD} (hx : x0 + 27 < x1 ∨ x1 + 27 < x0) (hs0 : SW x0 d) (hs1 : SW x1 d) : TKW x0 x1 d [] (mset (mset (mset (mset (mset (mset (mset (mset d x0 0 (d x1 0)) x0 1 (d x1 1)) x0 2 (d x1 2)) x0 3 (d x1 3)) x0 4 (d x1 4)) x0 5 (d x1 5)) x0 6 (d x1 6)) x0 7 (d x1 7)) := by
  have r : ∀ j, -1000000 ≤ d x1 j ∧ d x1 j ≤ 1000000 := fun j => hs1 x1 j (by omega) (by omega)
  exact ⟨tks_0 hx, ((((((((hs0.set (r 0)).set (r 1)).set (r 2)).set (r 3)).set (r 4)).set (r 5)).set (r 6)).set (r 7)), ((((((((hs1.set (r 0)).set (r 1)).set (r 2)).set (r 3)).set (r 4)).set (r 5)).set (r 6)).set (r 7))⟩
theorem kw_344 {E : mO × tW} {K : tK} {d : mD} {x0 x1 : Int} (hx : x0 + 27 < x1 ∨ x1 + 27 < x0) (hs0 : SW x0 d) (hs1 : SW x1 d) (hb : ∀ k i n : Int, (k = 8 ∧ n = 6) ∨ (k = 16 ∧ n = 61) ∨ (k = 17 ∧ n = 61) ∨ (k = 18 ∧ n = 20800) → 0 ≤ i → i < n → d (x1 + k) i = 0 ∨ d (x1 + k) i = 1) (h : ∀ d2, TKW x0 x1 d [18, 17, 16, 8, 27, 26, 25, 24, 23, 22, 21, 20, 19, 15, 14, 13, 12, 11, 10, 9, 7, 6, 5, 4, 3, 2, 1] d2 → K (.inl none) d2) : tCall E 344 [.inr (41, x0), .inr (41, x1)] d K := by
  have h0 := tkw_0 (d := d) hx hs0 hs1
  refine t_344_0 ?_
  simp (disch := omega) only [mz_i, mz_a]
  refine k_345_14 ?_
  have h1 := tkw_step 1 (by decide) (n := 5) rfl hx rfl rfl h0
  generalize mcopy _ (x1 + 1) 0 (x0 + 1) 0 5 = d1 at h1 ⊢
  refine t_344_75 ?_
  refine k_345_15 ?_
  have h2 := tkw_step 2 (by decide) (n := 6) rfl hx rfl rfl h1
  generalize mcopy _ (x1 + 2) 0 (x0 + 2) 0 6 = d2 at h2 ⊢
  refine t_344_86 ?_
  refine k_345_15 ?_
  have h3 := tkw_step 3 (by decide) (n := 6) rfl hx rfl rfl h2
  generalize mcopy _ (x1 + 3) 0 (x0 + 3) 0 6 = d3 at h3 ⊢
  refine t_344_97 ?_
  refine k_345_15 ?_
  have h4 := tkw_step 4 (by decide) (n := 6) rfl hx rfl rfl h3
  generalize mcopy _ (x1 + 4) 0 (x0 + 4) 0 6 = d4 at h4 ⊢
  refine t_344_108 ?_
  refine k_345_15 ?_
  have h5 := tkw_step 5 (by decide) (n := 6) rfl hx rfl rfl h4
  generalize mcopy _ (x1 + 5) 0 (x0 + 5) 0 6 = d5 at h5 ⊢
  refine t_344_119 ?_
  refine k_345_15 ?_
  have h6 := tkw_step 6 (by decide) (n := 6) rfl hx rfl rfl h5
  generalize mcopy _ (x1 + 6) 0 (x0 + 6) 0 6 = d6 at h6 ⊢
  refine t_344_130 ?_
  refine k_345_18 ?_
  have h7 := tkw_step 7 (by decide) (n := 16) rfl hx rfl rfl h6
  generalize mcopy _ (x1 + 7) 0 (x0 + 7) 0 16 = d7 at h7 ⊢
  refine t_344_141 ?_
  refine k_345_42 ?_
  have h8 := tkw_step 9 (by decide) (n := 366) rfl hx rfl rfl h7
  generalize mcopy _ (x1 + 9) 0 (x0 + 9) 0 366 = d8 at h8 ⊢
  refine t_344_152 ?_
  refine k_345_43 ?_
  have h9 := tkw_step 10 (by decide) (n := 61) rfl hx rfl rfl h8
  generalize mcopy _ (x1 + 10) 0 (x0 + 10) 0 61 = d9 at h9 ⊢
  refine t_344_163 ?_
  refine k_345_43 ?_
  have h10 := tkw_step 11 (by decide) (n := 61) rfl hx rfl rfl h9
  generalize mcopy _ (x1 + 11) 0 (x0 + 11) 0 61 = d10 at h10 ⊢
  refine t_344_174 ?_
  refine k_345_43 ?_
  have h11 := tkw_step 12 (by decide) (n := 61) rfl hx rfl rfl h10
  generalize mcopy _ (x1 + 12) 0 (x0 + 12) 0 61 = d11 at h11 ⊢
  refine t_344_185 ?_
  refine k_345_43 ?_
  have h12 := tkw_step 13 (by decide) (n := 61) rfl hx rfl rfl h11
  generalize mcopy _ (x1 + 13) 0 (x0 + 13) 0 61 = d12 at h12 ⊢
  refine t_344_196 ?_
  refine k_345_43 ?_
  have h13 := tkw_step 14 (by decide) (n := 61) rfl hx rfl rfl h12
  generalize mcopy _ (x1 + 14) 0 (x0 + 14) 0 61 = d13 at h13 ⊢
  refine t_344_207 ?_
  refine k_345_43 ?_
  have h14 := tkw_step 15 (by decide) (n := 61) rfl hx rfl rfl h13
  generalize mcopy _ (x1 + 15) 0 (x0 + 15) 0 61 = d14 at h14 ⊢
  refine t_344_218 ?_
  refine k_345_22 ?_
  have h15 := tkw_step 19 (by decide) (n := 200) rfl hx rfl rfl h14
  generalize mcopy _ (x1 + 19) 0 (x0 + 19) 0 200 = d15 at h15 ⊢
  refine t_344_229 ?_
  refine k_345_22 ?_
  have h16 := tkw_step 20 (by decide) (n := 200) rfl hx rfl rfl h15
  generalize mcopy _ (x1 + 20) 0 (x0 + 20) 0 200 = d16 at h16 ⊢
  refine t_344_240 ?_
  refine k_345_22 ?_
  have h17 := tkw_step 21 (by decide) (n := 200) rfl hx rfl rfl h16
  generalize mcopy _ (x1 + 21) 0 (x0 + 21) 0 200 = d17 at h17 ⊢
  refine t_344_251 ?_
  refine k_345_22 ?_
  have h18 := tkw_step 22 (by decide) (n := 200) rfl hx rfl rfl h17
  generalize mcopy _ (x1 + 22) 0 (x0 + 22) 0 200 = d18 at h18 ⊢
  refine t_344_262 ?_
  refine k_345_22 ?_
  have h19 := tkw_step 23 (by decide) (n := 200) rfl hx rfl rfl h18
  generalize mcopy _ (x1 + 23) 0 (x0 + 23) 0 200 = d19 at h19 ⊢
  refine t_344_273 ?_
  refine k_345_22 ?_
  have h20 := tkw_step 24 (by decide) (n := 200) rfl hx rfl rfl h19
  generalize mcopy _ (x1 + 24) 0 (x0 + 24) 0 200 = d20 at h20 ⊢
  refine t_344_284 ?_
  refine k_345_22 ?_
  have h21 := tkw_step 25 (by decide) (n := 200) rfl hx rfl rfl h20
  generalize mcopy _ (x1 + 25) 0 (x0 + 25) 0 200 = d21 at h21 ⊢
  refine t_344_295 ?_
  refine k_345_22 ?_
  have h22 := tkw_step 26 (by decide) (n := 200) rfl hx rfl rfl h21
  generalize mcopy _ (x1 + 26) 0 (x0 + 26) 0 200 = d22 at h22 ⊢
  refine t_344_306 ?_
  refine k_345_22 ?_
  have h23 := tkw_step 27 (by decide) (n := 200) rfl hx rfl rfl h22
  generalize mcopy _ (x1 + 27) 0 (x0 + 27) 0 200 = d23 at h23 ⊢
  refine t_344_317 ?_
  have b1 : ∀ c i n : Int, ((c = 8 ∧ n = 6) ∨ (c = 16 ∧ n = 61) ∨ (c = 17 ∧ n = 61) ∨ (c = 18 ∧ n = 20800)) → 0 ≤ i → i < n → d23 (x1 + c) i = 0 ∨ d23 (x1 + c) i = 1 := fun c i n hc i0 i1 => by
    rw [h23.1.1 (x1 + c) (by omega)]
    exact hb c i n hc i0 i1
  refine ⟨⟨by decide, by decide, by decide, by decide, by decide, fun i i0 i1 => b1 8 i 6 (by decide) i0 (by omega)⟩, ⟨by decide, by decide, by decide, by decide, by decide, fun i i0 i1 => ?_⟩, ⟨by decide, by decide, by decide, by decide, by decide, fun i i0 i1 => ?_⟩, ⟨by decide, by decide, by decide, by decide, by decide, fun i i0 i1 => ?_⟩, ?_⟩
  · rw [mcopy_ne (by omega)]
    exact b1 16 i 61 (by decide) i0 (by omega)
  · rw [mcopy_ne (by omega), mcopy_ne (by omega)]
    exact b1 17 i 61 (by decide) i0 (by omega)
  · rw [mcopy_ne (by omega), mcopy_ne (by omega), mcopy_ne (by omega)]
    exact b1 18 i 20800 (by decide) i0 (by omega)
  · exact h _ (tkw_step 18 (by decide) rfl hx rfl rfl (tkw_step 17 (by decide) rfl hx rfl rfl (tkw_step 16 (by decide) rfl hx rfl rfl (tkw_step 8 (by decide) rfl hx rfl rfl h23))))
theorem takeW {x0 x1 : Int} {d d2 : mD} {w : Row} (hg : GG w) (h : TKW x0 x1 d [18, 17, 16, 8, 27, 26, 25, 24, 23, 22, 21, 20, 19, 15, 14, 13, 12, 11, 10, 9, 7, 6, 5, 4, 3, 2, 1] d2) (hW : WR x1 d w) : WR x0 d2 w := by
  obtain ⟨hN, hO', hQ', hT, hC, hK', hR⟩ := hg
  obtain ⟨n7, n8, n9, n10, n11, n0, n1, n2, n3, n4, n5, n6⟩ := id hN
  obtain ⟨⟨-, h0, hk⟩, hS, -⟩ := h
  obtain ⟨⟨b1, b2, b3⟩, ⟨a0, a1, a2, a3, a4, a5, a6⟩, rO, rQ, rP, r1, r2, rK, ⟨s1, s2⟩, rH, ⟨dd1, dd2, dd3⟩⟩ := hW
  have e0 : ∀ j, 0 ≤ j → j < 8 → d2 x0 j = d x1 j := fun j x y => by rw [h0 j, if_pos ⟨x, y⟩]
  have e1 : ∀ i, 0 ≤ i → i < 5 → d2 (x0 + 1) i = d (x1 + 1) i := hk 1 (by decide)
  have e2 : ∀ i, 0 ≤ i → i < 6 → d2 (x0 + 2) i = d (x1 + 2) i := hk 2 (by decide)
  have e3 : ∀ i, 0 ≤ i → i < 6 → d2 (x0 + 3) i = d (x1 + 3) i := hk 3 (by decide)
  have e4 : ∀ i, 0 ≤ i → i < 6 → d2 (x0 + 4) i = d (x1 + 4) i := hk 4 (by decide)
  have e5 : ∀ i, 0 ≤ i → i < 6 → d2 (x0 + 5) i = d (x1 + 5) i := hk 5 (by decide)
  have e6 : ∀ i, 0 ≤ i → i < 6 → d2 (x0 + 6) i = d (x1 + 6) i := hk 6 (by decide)
  have e7 : ∀ i, 0 ≤ i → i < 16 → d2 (x0 + 7) i = d (x1 + 7) i := hk 7 (by decide)
  have e8 : ∀ i, 0 ≤ i → i < 6 → d2 (x0 + 8) i = d (x1 + 8) i := hk 8 (by decide)
  have e9 : ∀ i, 0 ≤ i → i < 366 → d2 (x0 + 9) i = d (x1 + 9) i := hk 9 (by decide)
  have e10 : ∀ i, 0 ≤ i → i < 61 → d2 (x0 + 10) i = d (x1 + 10) i := hk 10 (by decide)
  have e11 : ∀ i, 0 ≤ i → i < 61 → d2 (x0 + 11) i = d (x1 + 11) i := hk 11 (by decide)
  have e12 : ∀ i, 0 ≤ i → i < 61 → d2 (x0 + 12) i = d (x1 + 12) i := hk 12 (by decide)
  have e13 : ∀ i, 0 ≤ i → i < 61 → d2 (x0 + 13) i = d (x1 + 13) i := hk 13 (by decide)
  have e14 : ∀ i, 0 ≤ i → i < 61 → d2 (x0 + 14) i = d (x1 + 14) i := hk 14 (by decide)
  have e15 : ∀ i, 0 ≤ i → i < 61 → d2 (x0 + 15) i = d (x1 + 15) i := hk 15 (by decide)
  have e16 : ∀ i, 0 ≤ i → i < 61 → d2 (x0 + 16) i = d (x1 + 16) i := hk 16 (by decide)
  have e17 : ∀ i, 0 ≤ i → i < 61 → d2 (x0 + 17) i = d (x1 + 17) i := hk 17 (by decide)
  have e18 : ∀ i, 0 ≤ i → i < 20800 → d2 (x0 + 18) i = d (x1 + 18) i := hk 18 (by decide)
  have e19 : ∀ i, 0 ≤ i → i < 200 → d2 (x0 + 19) i = d (x1 + 19) i := hk 19 (by decide)
  have e20 : ∀ i, 0 ≤ i → i < 200 → d2 (x0 + 20) i = d (x1 + 20) i := hk 20 (by decide)
  have e21 : ∀ i, 0 ≤ i → i < 200 → d2 (x0 + 21) i = d (x1 + 21) i := hk 21 (by decide)
  have e22 : ∀ i, 0 ≤ i → i < 200 → d2 (x0 + 22) i = d (x1 + 22) i := hk 22 (by decide)
  have e23 : ∀ i, 0 ≤ i → i < 200 → d2 (x0 + 23) i = d (x1 + 23) i := hk 23 (by decide)
  have e24 : ∀ i, 0 ≤ i → i < 200 → d2 (x0 + 24) i = d (x1 + 24) i := hk 24 (by decide)
  have e25 : ∀ i, 0 ≤ i → i < 200 → d2 (x0 + 25) i = d (x1 + 25) i := hk 25 (by decide)
  have e26 : ∀ i, 0 ≤ i → i < 200 → d2 (x0 + 26) i = d (x1 + 26) i := hk 26 (by decide)
  have e27 : ∀ i, 0 ≤ i → i < 200 → d2 (x0 + 27) i = d (x1 + 27) i := hk 27 (by decide)
  have z7 := e0 7 (by decide) (by decide)
  clear h0 hk
  refine ⟨⟨hS, fun i x y => ?_, fun i x y => ?_⟩, ⟨?_, ?_, ?_, ?_, ?_, ?_, fun k x y => ?_⟩, fun o x y => ?_, fun o x y k u v => ?_, fun p x y => ?_, fun t x y => ?_, fun t x y => ?_, fun k x y => ?_, ⟨?_, fun k x y => ?_⟩, fun p q x y u v => ?_, ⟨?_, fun k x y => ?_, fun t p x y u v z => ?_⟩⟩
  · rw [e8 i x y]
    exact b2 i x y
  · rw [e16 i x y, e17 i x y]
    exact b3 i x y
  · rw [e0 0 (by decide) (by decide)]; exact a0
  · rw [e0 1 (by decide) (by decide)]; exact a1
  · rw [e0 2 (by decide) (by decide)]; exact a2
  · rw [e0 3 (by decide) (by decide)]; exact a3
  · rw [e0 4 (by decide) (by decide)]; exact a4
  · rw [e0 5 (by decide) (by decide)]; exact a5
  · rw [e1 k x y]; exact a6 k x y
  · rw [e2 o x (by omega), e3 o x (by omega), e4 o x (by omega), e8 o x (by omega), e5 o x (by omega), e6 o x (by omega)]
    exact rO o x y
  · have g := (hO' o x y).2.2.2.2.1
    rw [e9 _ (by omega) (by omega)]
    exact rQ o x y k u v
  · rw [e7 p x y]
    exact rP p x y
  · rw [e10 t x (by omega), e11 t x (by omega), e12 t x (by omega), e13 t x (by omega), e14 t x (by omega)]
    exact r1 t x y
  · rw [e16 t x (by omega), e17 t x (by omega), e15 t x (by omega)]
    exact r2 t x y
  · rw [e19 k x (by omega), e20 k x (by omega), e21 k x (by omega), e22 k x (by omega), e23 k x (by omega)]
    exact rK k x y
  · rw [e0 6 (by decide) (by decide)]; exact s1
  · rw [e24 (0 + k) (by omega) (by omega)]
    exact s2 k x y
  · rw [e18 (1300 * p + q) (by omega) (by omega)]
    exact rH p q x y u v
  · rw [z7]
    exact dd1
  · rw [z7] at y
    rw [e25 k x (by omega), e26 k x (by omega), e27 k x (by omega)]
    obtain ⟨g1, g2, g3, g4, g5⟩ := dd2 k x y
    refine ⟨g1, g2, g3, g4, fun i u v => ?_⟩
    rw [e25 i u (by omega), e26 i u (by omega)]
    exact g5 i u v
  · obtain ⟨k, k0, k1, k2, k3⟩ := dd3 t p x y u v z
    exact ⟨k, k0, by rw [z7]; exact k1, by rw [e25 k k0 (by omega)]; exact k2, by rw [e26 k k0 (by omega)]; exact k3⟩
theorem w_344 {E : mO × tW} {K : tK} {d : mD} {x0 x1 : Int} {w : Row} (hx : x0 + 27 < x1 ∨ x1 + 27 < x0) (hs : SW x0 d) (hg : GG w) (hW : WR x1 d w) (k : ∀ d2, (∀ c, c < x0 ∨ x0 + 27 < c → d2 c = d c) → WR x0 d2 w → d2 x0 7 = d x1 7 → K (.inl none) d2) : tCall E 344 [.inr (41, x0), .inr (41, x1)] d K := by
  refine kw_344 hx hs hW.1.1 (fun c i n hc i0 i1 => ?_) (fun d2 h => ?_)
  · rcases hc with ⟨rfl, rfl⟩ | ⟨rfl, rfl⟩ | ⟨rfl, rfl⟩ | ⟨rfl, rfl⟩
    · exact hW.1.2.1 i i0 i1
    · exact (hW.1.2.2 i i0 i1).1
    · exact (hW.1.2.2 i i0 i1).2
    · have rH := hW.2.2.2.2.2.2.2.2.2.1 (i / 1300) (i % 1300) (by omega) (by omega) (by omega) (by omega)
      rw [show 1300 * (i / 1300) + i % 1300 = i by omega] at rH
      exact rH.1
  · exact k d2 h.1.1 (takeW hg h hW) (by rw [h.1.2.1 7, if_pos (by decide)])
-- an act's numbers
def FQ (q x : Int) (d d' : mD) : Prop := ∀ c, ¬ c = q → ¬ c = x → d' c = d c
theorem FQ.tr {q x : Int} {d d1 d2 : mD} (h : FQ q x d d1) (g : FQ q x d1 d2) : FQ q x d d2 := fun c a b => (g c a b).trans (h c a b)
theorem FQ.q {q x i v : Int} {d d1 : mD} (h : FQ q x d d1) : FQ q x d (mset d1 q i v) := h.tr (fun c a _ => by
  funext j
  exact ms_a a)
theorem FQ.x {q x i v : Int} {d d1 : mD} (h : FQ q x d d1) : FQ q x d (mset d1 x i v) := h.tr (fun c _ b => by
  funext j
  exact ms_a b)
theorem FQ.rfl' {q x : Int} {d : mD} : FQ q x d d := fun _ _ _ => rfl
theorem dr293 {E : mO × tW} {K : tK} {b q x y2 : Int} {x3 x4 : Int} {d : mD} (hqx : ¬ q = x) (k : ∀ d', FQ q x d d' → d' x 0 = d x 0 → d' x 1 = d x 1 → d' x 2 = y2 → (1 ≤ d' x 3 ∧ d' x 3 ≤ 20) → K (.inl none) d') : tRun E 371 (293, [.inr (41, b), .inr (40, q), .inr (46, x), .inl (0, x3), .inl (0, x4)], [.inl (0, y2), .inl (0, 2), .inr (46, x)], 0, 0, d) K := by
  refine t_371_293 ⟨by decide, ?_⟩
  refine k_342 (by decide) (fun z r r0 r1 r2 => ?_)
  have fin : ∀ z2 s : Int, 0 ≤ s → s < 20 → K (.inl none) (mset (mset (mset (mset d x 2 y2) q 0 z) q 0 z2) x 3 (1 + s)) := fun z2 s s0 s1 => by
    refine k _ (((FQ.rfl'.x).q).q).x ?_ ?_ ?_ ?_
    · rw [ms_i (by decide), ms_a (fun h => hqx h.symm), ms_a (fun h => hqx h.symm), ms_i (by decide)]
    · rw [ms_i (by decide), ms_a (fun h => hqx h.symm), ms_a (fun h => hqx h.symm), ms_i (by decide)]
    · rw [ms_i (by decide), ms_a (fun h => hqx h.symm), ms_a (fun h => hqx h.symm), ms_e rfl rfl]
    · rw [ms_e rfl rfl]
      omega
  refine t_371_303 ⟨m_inR (by omega) (by omega), fun _ => ?_, fun _ => ?_⟩
  · refine k_342 (by decide) (fun z2 s s0 s1 s2 => ?_)
    exact t_371_315 ⟨by decide, fin z2 s s0 s1⟩
  · refine k_342 (by decide) (fun z2 s s0 s1 s2 => ?_)
    exact t_371_315 ⟨by decide, fin z2 s s0 (by omega)⟩
theorem dr240 {E : mO × tW} {K : tK} {b q x y2 N7 N8 : Int} {x3 x4 : Int} {d : mD} (hqx : ¬ q = x) (hb : ¬ b = q ∧ ¬ b = x) (h7 : d b 2 = N7 ∧ 1 ≤ N7 ∧ N7 ≤ 6) (h8 : d b 3 = N8 ∧ 1 ≤ N8 ∧ N8 ≤ 16) (hj : 0 ≤ d x 0 ∧ d x 0 ≤ 12) (k : ∀ d', FQ q x d d' → d' x 0 = d x 0 → d' x 1 = y2 → (d x 0 = 0 ∨ d x 0 = 8 → 0 ≤ d' x 2 ∧ d' x 2 < N7) → (d x 0 = 11 → 0 ≤ d' x 2 ∧ d' x 2 < 10) → (¬ d x 0 = 0 → ¬ d x 0 = 8 → ¬ d x 0 = 11 → 0 ≤ d' x 2 ∧ d' x 2 < N8) → (1 ≤ d' x 3 ∧ d' x 3 ≤ 20) → K (.inl none) d') : tRun E 371 (240, [.inr (41, b), .inr (40, q), .inr (46, x), .inl (0, x3), .inl (0, x4)], [.inl (0, y2), .inl (0, 1), .inr (46, x)], 0, 0, d) K := by
  have e0 : mset d x 1 y2 x 0 = d x 0 := ms_i (by decide)
  have e1 : mset d x 1 y2 x 1 = y2 := ms_e rfl rfl
  have eb : mset d x 1 y2 b = d b := by
    funext j
    exact ms_a hb.2
  have F : FQ q x d (mset d x 1 y2) := FQ.rfl'.x
  generalize hd1 : mset d x 1 y2 = d1 at *
  have nx : ¬ x = q := fun h => hqx h.symm
  have mj : ∀ n : Int, 0 ≤ n → n ≤ 100 → mInR n := fun n a c => m_inR (by omega) (by omega)
  have go : ∀ z r : Int, (d x 0 = 0 ∨ d x 0 = 8 → 0 ≤ r ∧ r < N7) → (d x 0 = 11 → 0 ≤ r ∧ r < 10) → (¬ d x 0 = 0 → ¬ d x 0 = 8 → ¬ d x 0 = 11 → 0 ≤ r ∧ r < N8) → tRun E 371 (293, [.inr (41, b), .inr (40, q), .inr (46, x), .inl (0, x3), .inl (0, x4)], [.inl (0, r), .inl (0, 2), .inr (46, x)], 0, 0, mset d1 q 0 z) K := fun z r p1 p2 p3 => by
    refine dr293 hqx (fun d' f1 f2 f3 f4 f5 => ?_)
    refine k d' (F.tr (fun c a c2 => (f1 c a c2).trans (by funext j; exact ms_a a))) ?_ ?_ ?_ ?_ ?_ f5
    · rw [f2, ms_a nx, e0]
    · rw [f3, ms_a nx, e1]
    · rw [f4]; exact p1
    · rw [f4]; exact p2
    · rw [f4]; exact p3
  refine t_371_240 ?_
  rw [hd1]
  refine ⟨by decide, by decide, by rw [e0]; exact mj _ hj.1 (by omega), fun c => ?_, fun c => ⟨by decide, ⟨by rw [e0]; exact mj _ hj.1 (by omega), mj 8 (by decide) (by decide)⟩, fun c2 => ⟨by decide, ⟨by rw [e0]; exact mj _ hj.1 (by omega), mj 11 (by decide) (by decide)⟩, fun c3 => ?_, fun c3 => ?_⟩, fun c2 => ?_⟩⟩
  · rw [e0] at c
    rw [eb, h7.1]
    refine k_342 (by omega) (fun z r r0 r1 r2 => ?_)
    refine t_371_265 ?_
    exact go z r (fun _ => ⟨r0, r1⟩) (fun z => absurd z (by omega)) (fun a _ _ => absurd c a)
  · rw [e0] at c c2 c3
    rw [eb, h8.1]
    refine k_342 (by omega) (fun z r r0 r1 r2 => ?_)
    exact go z r (fun a => by omega) (fun a => absurd a c3) (fun _ _ _ => ⟨r0, r1⟩)
  · rw [e0] at c c2 c3
    refine k_342 (by decide) (fun z r r0 r1 r2 => ?_)
    refine t_371_282 ?_
    exact go z r (fun a => by omega) (fun _ => ⟨r0, r1⟩) (fun _ _ a => absurd c3 a)
  · rw [e0] at c c2
    rw [eb, h7.1]
    refine k_342 (by omega) (fun z r r0 r1 r2 => ?_)
    refine t_371_265 ?_
    exact go z r (fun _ => ⟨r0, r1⟩) (fun z => absurd z (by omega)) (fun _ a _ => absurd c2 a)
theorem dr112 {E : mO × tW} {K : tK} {b q x N7 N8 N9 : Int} {x3 : Int} {d : mD} (hqx : ¬ q = x) (hb : ¬ b = q ∧ ¬ b = x) (h7 : d b 2 = N7 ∧ 1 ≤ N7 ∧ N7 ≤ 6) (h8 : d b 3 = N8 ∧ 1 ≤ N8 ∧ N8 ≤ 16) (h9 : d b 4 = N9 ∧ 0 ≤ N9 ∧ N9 ≤ 60) (hj : 0 ≤ d x 0 ∧ d x 0 ≤ 12) (ht : d x 0 = 1 ∨ d x 0 = 3 ∨ d x 0 = 4 → 1 ≤ N9) (k : ∀ d', FQ q x d d' → d' x 0 = d x 0 → (d x 0 = 1 ∨ d x 0 = 3 ∨ d x 0 = 4 → 0 ≤ d' x 1 ∧ d' x 1 < N9) → (d x 0 = 2 → 1 ≤ d' x 1 ∧ d' x 1 ≤ 30) → (d x 0 = 8 ∨ d x 0 = 9 → 0 ≤ d' x 1 ∧ d' x 1 < N7) → (d x 0 = 11 → 0 ≤ d' x 1 ∧ d' x 1 < 5) → (d x 0 = 0 ∨ d x 0 = 5 ∨ d x 0 = 6 ∨ d x 0 = 7 ∨ d x 0 = 10 ∨ d x 0 = 12 → 0 ≤ d' x 1 ∧ d' x 1 < N8) → (d x 0 = 0 ∨ d x 0 = 8 → 0 ≤ d' x 2 ∧ d' x 2 < N7) → (d x 0 = 11 → 0 ≤ d' x 2 ∧ d' x 2 < 10) → (¬ d x 0 = 0 → ¬ d x 0 = 8 → ¬ d x 0 = 11 → 0 ≤ d' x 2 ∧ d' x 2 < N8) → (1 ≤ d' x 3 ∧ d' x 3 ≤ 20) → K (.inl none) d') : tRun E 371 (112, [.inr (41, b), .inr (40, q), .inr (46, x), .inl (0, x3), tu], [], 0, 0, d) K := by
  have nx : ¬ x = q := fun h => hqx h.symm
  have go : ∀ (x4 z y : Int) (d1 : mD), FQ q x d d1 → d1 x 0 = d x 0 → (d x 0 = 1 ∨ d x 0 = 3 ∨ d x 0 = 4 → 0 ≤ y ∧ y < N9) → (d x 0 = 2 → 1 ≤ y ∧ y ≤ 30) → (d x 0 = 8 ∨ d x 0 = 9 → 0 ≤ y ∧ y < N7) → (d x 0 = 11 → 0 ≤ y ∧ y < 5) → (d x 0 = 0 ∨ d x 0 = 5 ∨ d x 0 = 6 ∨ d x 0 = 7 ∨ d x 0 = 10 ∨ d x 0 = 12 → 0 ≤ y ∧ y < N8) → tRun E 371 (240, [.inr (41, b), .inr (40, q), .inr (46, x), .inl (0, x3), .inl (0, x4)], [.inl (0, y), .inl (0, 1), .inr (46, x)], 0, 0, mset d1 q 0 z) K := fun x4 z y d1 F e0 p1 p2 p3 p4 p5 => by
    have F2 : FQ q x d (mset d1 q 0 z) := F.q
    have e2 : mset d1 q 0 z x 0 = d x 0 := by rw [ms_a nx, e0]
    have eb : mset d1 q 0 z b = d b := F2 b hb.1 hb.2
    generalize mset d1 q 0 z = d2 at *
    refine dr240 (N7 := N7) (N8 := N8) hqx hb (by rw [eb]; exact h7) (by rw [eb]; exact h8) (by rw [e2]; exact hj) (fun d' f1 f2 f3 f4 f5 f6 f7 => ?_)
    rw [e2] at f2 f4 f5 f6
    exact k d' (F2.tr f1) f2 (by rw [f3]; exact p1) (by rw [f3]; exact p2) (by rw [f3]; exact p3) (by rw [f3]; exact p4) (by rw [f3]; exact p5) f4 f5 f6 f7
  have hA : ∀ x4 : Int, (d x 0 = 8 ∨ d x 0 = 9) → tCall E 342 [.inr (40, q), .inl (0, d b 2)] d (tbk E 371 210 [.inr (41, b), .inr (40, q), .inr (46, x), .inl (0, x3), .inl (0, x4)] [.inl (0, 1), .inr (46, x)] 0 0 K) := fun x4 c => by
    rw [h7.1]
    refine k_342 (by omega) (fun z r r0 r1 r2 => ?_)
    refine t_371_213 ?_
    exact go x4 z r d FQ.rfl' rfl (fun a => by omega) (fun a => by omega) (fun _ => ⟨r0, r1⟩) (fun a => by omega) (fun a => by omega)
  have hB : ∀ x4 : Int, (d x 0 = 0 ∨ d x 0 = 5 ∨ d x 0 = 6 ∨ d x 0 = 7 ∨ d x 0 = 10 ∨ d x 0 = 12) → tCall E 342 [.inr (40, q), .inl (0, d b 3)] d (tbk E 371 237 [.inr (41, b), .inr (40, q), .inr (46, x), .inl (0, x3), .inl (0, x4)] [.inl (0, 1), .inr (46, x)] 0 0 K) := fun x4 c => by
    rw [h8.1]
    refine k_342 (by omega) (fun z r r0 r1 r2 => ?_)
    exact go x4 z r d FQ.rfl' rfl (fun a => by omega) (fun a => by omega) (fun a => by omega) (fun a => by omega) (fun _ => ⟨r0, r1⟩)
  have hC : ∀ x4 : Int, d x 0 = 11 → tCall E 342 [.inr (40, q), .inl (0, 5)] d (tbk E 371 226 [.inr (41, b), .inr (40, q), .inr (46, x), .inl (0, x3), .inl (0, x4)] [.inl (0, 1), .inr (46, x)] 0 0 K) := fun x4 c => by
    refine k_342 (by decide) (fun z r r0 r1 r2 => ?_)
    refine t_371_229 ?_
    exact go x4 z r d FQ.rfl' rfl (fun a => by omega) (fun a => by omega) (fun a => by omega) (fun _ => ⟨r0, r1⟩) (fun a => by omega)
  have hD : ∀ x4 : Int, (d x 0 = 1 ∨ d x 0 = 3 ∨ d x 0 = 4) → tCall E 342 [.inr (40, q), .inl (0, d b 4)] d (tbk E 371 152 [.inr (41, b), .inr (40, q), .inr (46, x), .inl (0, x3), .inl (0, x4)] [.inl (0, 1), .inr (46, x)] 0 0 K) := fun x4 c => by
    rw [h9.1]
    have := ht c
    refine k_342 (by omega) (fun z r r0 r1 r2 => ?_)
    refine t_371_155 ?_
    exact go x4 z r d FQ.rfl' rfl (fun _ => ⟨r0, r1⟩) (fun a => by omega) (fun a => by omega) (fun a => by omega) (fun a => by omega)
  have hE : ∀ x4 : Int, d x 0 = 2 → tCall E 342 [.inr (40, q), .inl (0, 3)] d (tbk E 371 169 [.inr (41, b), .inr (40, q), .inr (46, x), .inl (0, x3), .inl (0, x4)] [.inr (40, q), .inl (0, 1), .inl (0, 1), .inr (46, x)] 0 0 K) := fun x4 c => by
    refine k_342 (by decide) (fun z r r0 r1 r2 => ?_)
    have F1 : FQ q x d (mset d q 0 z) := FQ.rfl'.q
    have e1 : mset d q 0 z x 0 = d x 0 := ms_a nx
    generalize mset d q 0 z = d1 at *
    refine t_371_172 ⟨m_inR (by omega) (by omega), fun _ => ?_, fun _ => ?_⟩
    · refine k_342 (by decide) (fun z2 s s0 s1 s2 => ?_)
      refine t_371_185 ?_
      exact go x4 z2 (1 + s) d1 F1 e1 (fun a => by omega) (fun a => by omega) (fun a => by omega) (fun a => by omega) (fun a => by omega)
    · refine k_342 (by decide) (fun z2 s s0 s1 s2 => ?_)
      refine t_371_185 ?_
      exact go x4 z2 (1 + s) d1 F1 e1 (fun a => by omega) (fun a => by omega) (fun a => by omega) (fun a => by omega) (fun a => by omega)
  have m : ∀ n : Int, 0 ≤ n → n ≤ 100 → mInR n := fun n a c => m_inR (by omega) (by omega)
  have mj : mInR (d x 0) := m _ hj.1 (by omega)
  clear go k
  exact t_371_112 ⟨by decide, ⟨mj, m 1 (by decide) (by decide)⟩, fun c => ⟨m 1 (by decide) (by decide), fun z => absurd z (by decide), fun _ => hD 1 (Or.inl c)⟩, fun c1 => ⟨by decide, ⟨mj, m 3 (by decide) (by decide)⟩, fun c => ⟨m 1 (by decide) (by decide), fun z => absurd z (by decide), fun _ => hD 1 (Or.inr (Or.inl c))⟩, fun c3 => ⟨by decide, ⟨mj, m 4 (by decide) (by decide)⟩, fun c4 => ⟨m 0 (by decide) (by decide), fun _ => ⟨by decide, ⟨mj, m 2 (by decide) (by decide)⟩, fun c2 => ⟨by decide, ⟨mj, m 8 (by decide) (by decide)⟩, fun c8 => hA 0 (Or.inl c8), fun c8 => ⟨by decide, ⟨mj, m 9 (by decide) (by decide)⟩, fun c9 => ⟨by decide, ⟨mj, m 11 (by decide) (by decide)⟩, fun c11 => hB 0 (by omega), fun c11 => hC 0 c11⟩, fun c9 => hA 0 (Or.inr c9)⟩⟩, fun c2 => hE 0 c2⟩, fun z => absurd rfl z⟩, fun c => ⟨m 1 (by decide) (by decide), fun z => absurd z (by decide), fun _ => hD 1 (Or.inr (Or.inr c))⟩⟩⟩⟩
theorem w_371 {E : mO × tW} {K : tK} {b q x : Int} {d : mD} {w : Row} (hW : WR b d w) (hN : GN w) (h7 : 1 ≤ w 7) (h8 : 1 ≤ w 8) (hqx : ¬ q = x) (hb : ¬ b = q ∧ ¬ b = x) (k : ∀ d', FQ q x d d' → (RG (d' x) w ∨ d' x 0 = 12) → K (.inl none) d') : tCall E 371 [.inr (41, b), .inr (40, q), .inr (46, x)] d K := by
  obtain ⟨n7, n8, n9, n10, n11, n0, n1, n2, n3, n4, n5, n6⟩ := id hN
  obtain ⟨q0, q1, q2, q3, q4, q5, q6⟩ := hW.eq
  clear hW
  have nx : ¬ x = q := fun h => hqx h.symm
  have m : ∀ n : Int, 0 ≤ n → n ≤ 100 → mInR n := fun n a c => m_inR (by omega) (by omega)
  -- from 112 on
  have go : ∀ (x3 : Int) (d1 : mD), FQ q x d d1 → (0 ≤ d1 x 0 ∧ d1 x 0 ≤ 12) → (d1 x 0 = 1 ∨ d1 x 0 = 3 ∨ d1 x 0 = 4 → 1 ≤ w 9) → tRun E 371 (112, [.inr (41, b), .inr (40, q), .inr (46, x), .inl (0, x3), tu], [], 0, 0, d1) K := fun x3 d1 F hj ht => by
    have eb : d1 b = d b := F b hb.1 hb.2
    refine dr112 (N7 := w 7) (N8 := w 8) (N9 := w 9) hqx hb (by rw [eb]; exact ⟨q2, h7, n7.2⟩) (by rw [eb]; exact ⟨q3, h8, n8.2⟩) (by rw [eb]; exact ⟨q4, n9⟩) hj ht (fun d' f1 f2 g1 g2 g3 g4 g5 g6 g7 g8 g9 => ?_)
    refine k d' (F.tr f1) ?_
    rw [← f2] at g1 g2 g3 g4 g5 g6 g7 g8 hj
    by_cases c : d' x 0 = 12
    · exact Or.inr c
    · refine Or.inl ⟨⟨hj.1, by omega⟩, fun z => ⟨g5 (Or.inl z), g6 (Or.inl z)⟩, fun z => g1 (Or.inl z), fun z => ?_, fun z => g1 (Or.inr (Or.inl z)), fun z => ⟨g1 (Or.inr (Or.inr z)), g8 (by omega) (by omega) (by omega)⟩, fun z => ⟨g5 (by omega), g8 (by omega) (by omega) (by omega)⟩, fun z => g5 (by omega), fun z => ⟨g3 (Or.inl z), g6 (Or.inr z)⟩, fun z => g3 (Or.inr z), fun z => ⟨g4 z, ?_⟩, g9.1, by omega⟩
      · have := g2 z
        omega
      · have := g7 z
        omega
  have to101 : ∀ (x3 : Int) (d1 : mD), FQ q x d d1 → (0 ≤ d1 x 0 ∧ d1 x 0 ≤ 12) → tRun E 371 (101, [.inr (41, b), .inr (40, q), .inr (46, x), .inl (0, x3), tu], [], 0, 0, d1) K := fun x3 d1 F hj => by
    have eb : d1 b = d b := F b hb.1 hb.2
    refine t_371_101 ⟨by rw [eb]; exact m _ (by omega) (by omega), fun c => ?_, fun c => ⟨by decide, ?_⟩⟩
    · rw [eb] at c
      exact go x3 d1 F hj (fun _ => by omega)
    · refine go x3 _ F.x ?_ (fun z => ?_)
      · rw [ms_e rfl rfl]
        decide
      · rw [ms_e rfl rfl] at z
        omega
  have to79 : ∀ (x3 y : Int) (d1 : mD), FQ q x d d1 → (0 ≤ y ∧ y ≤ 12) → tRun E 371 (79, [.inr (41, b), .inr (40, q), .inr (46, x), .inl (0, x3), tu], [.inl (0, y), .inl (0, 0), .inr (46, x)], 0, 0, d1) K := fun x3 y d1 F hy => by
    have e : mset d1 x 0 y x 0 = y := ms_e rfl rfl
    have F2 : FQ q x d (mset d1 x 0 y) := F.x
    generalize hd2 : mset d1 x 0 y = d2 at *
    refine t_371_79 ?_
    rw [hd2]
    have mj : mInR (d2 x 0) := by rw [e]; exact m _ hy.1 (by omega)
    have hj : 0 ≤ d2 x 0 ∧ d2 x 0 ≤ 12 := by rw [e]; exact hy
    exact ⟨by decide, by decide, ⟨mj, m 1 (by decide) (by decide)⟩, fun _ => to101 x3 d2 F2 hj, fun c1 => ⟨by decide, ⟨mj, m 3 (by decide) (by decide)⟩, fun _ => to101 x3 d2 F2 hj, fun c3 => ⟨by decide, ⟨mj, m 4 (by decide) (by decide)⟩, fun c4 => go x3 d2 F2 hj (fun z => by omega), fun _ => to101 x3 d2 F2 hj⟩⟩⟩
  have to63 : ∀ (x3 y : Int) (d1 : mD), FQ q x d d1 → (0 ≤ x3 ∧ x3 ≤ 100) → (0 ≤ y ∧ y ≤ 12) → tRun E 371 (63, [.inr (41, b), .inr (40, q), .inr (46, x), .inl (0, x3), tu], [.inl (0, y), .inl (0, 0), .inr (46, x)], 0, 0, d1) K := fun x3 y d1 F h3 hy => by
    have e : mset d1 x 0 y x 0 = y := ms_e rfl rfl
    refine t_371_63 ⟨by decide, ⟨m _ h3.1 h3.2, m 15 (by decide) (by decide)⟩, fun _ => ⟨by decide, ?_⟩, fun _ => ?_⟩
    · rw [e]
      exact to79 x3 y _ F.x hy
    · exact to79 x3 1 _ F.x (by decide)
  refine t_371_0 ?_
  refine k_342 (by decide) (fun z r r0 r1 r2 => ?_)
  have F1 : FQ q x d (mset d q 0 z) := FQ.rfl'.q
  generalize mset d q 0 z = d1 at *
  have mr : mInR r := m _ r0 (by omega)
  have h3 : 0 ≤ r ∧ r ≤ 100 := ⟨r0, by omega⟩
  exact t_371_6 ⟨⟨mr, m 5 (by decide) (by decide)⟩, fun c5 => ⟨⟨mr, m 9 (by decide) (by decide)⟩, fun c9 => ⟨⟨mr, m 12 (by decide) (by decide)⟩, fun c12 => ⟨⟨mr, m 15 (by decide) (by decide)⟩, fun c15 => ⟨⟨mr, m 23 (by decide) (by decide)⟩, fun c23 => to63 r 12 d1 F1 h3 (by decide), fun c23 => to63 r (r - 10) d1 F1 h3 (by omega)⟩, fun c15 => to63 r 4 d1 F1 h3 (by decide)⟩, fun c12 => to63 r 3 d1 F1 h3 (by decide)⟩, fun c9 => to63 r 2 d1 F1 h3 (by decide)⟩, fun c5 => to63 r 0 d1 F1 h3 (by decide)⟩
