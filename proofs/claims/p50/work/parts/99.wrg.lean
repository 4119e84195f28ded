/-! ===== World.whyNot beside the reference's ===== -/
theorem endW {b t : Int} {d : mD} {w : Row} (hg : GG w) (hW : WR b d w) (ht : 0 ≤ t ∧ t < w 9) : wEnd b t d = V_212 t w := by
  obtain ⟨g1, g2, g3, g4, g5⟩ := hW.2.2.2.2.2.1 t ht.1 ht.2
  have gt := hg.2.2.2.1 t ht.1 ht.2
  unfold wEnd V_212
  rw [g5, g4, hW.2.1.1]
  by_cases c : w (452 + 24 * t + 4) = 0
  · rw [if_pos c, if_pos (gt.2.2.2.2.1 c).1]
  · rw [if_neg c, if_neg (by have := gt.2.2.2.2.2 c; omega)]
theorem comW {b t p : Int} {d : mD} {w : Row} (hg : GG w) (hW : WR b d w) (ht : 0 ≤ t ∧ t < w 9) : ∀ (n : Nat) (k : Int), 0 ≤ k → k ≤ w 9 → w 9 - k ≤ (n : Int) → 0 ≤ wCom b t p d k.toNat ∧ LP_231_5 t p n (wCom b t p d k.toNat) k w = wCom b t p d (w 9).toNat := by
  have pos : ∀ m : Nat, 0 ≤ wCom b t p d m := by
    intro m
    induction m with
    | zero => exact Int.le_refl 0
    | succ m ih =>
      unfold wCom
      split
      · unfold mmax
        split <;> omega
      · exact ih
  intro n
  induction n with
  | zero =>
    intro k k0 k1 hn
    have e : k = w 9 := by omega
    refine ⟨pos _, ?_⟩
    show ST_231_5 t p _ _ k w = _
    unfold ST_231_5
    rw [if_neg (by omega), e]
  | succ n ih =>
    intro k k0 k1 hn
    refine ⟨pos _, ?_⟩
    by_cases c : k < w 9
    · have ih1 := (ih (k + 1) (by omega) (by omega) (by omega)).2
      have hs := wCom_s (x0 := b) (x1 := t) (x2 := p) (d := d) k0
      obtain ⟨g1, g2, g3, g4, g5⟩ := hW.2.2.2.2.2.1 k k0 c
      obtain ⟨t1, t2, t3, t4, t5⟩ := hW.2.2.2.2.2.1 t ht.1 ht.2
      have ek := endW hg hW ⟨k0, c⟩
      have et := endW hg hW ht
      have pk := pos k.toNat
      show ST_231_5 t p _ _ k w = _
      unfold ST_231_5
      rw [if_pos c]
      by_cases c1 : k = t
      · rw [if_pos c1]
        rw [if_neg (fun z => z.1 c1)] at hs
        rw [hs] at ih1
        exact ih1
      · rw [if_neg c1]
        by_cases c2 : w (452 + 24 * k + 0) = p
        · rw [if_pos c2]
          by_cases c3 : w (452 + 24 * k + 1) = w (452 + 24 * t + 1)
          · rw [if_pos c3]
            rw [if_pos ⟨c1, by rw [g1]; exact c2, by rw [g2, t2]; exact c3⟩] at hs
            have ev : mmax (wCom b t p d k.toNat) (wComV b t d k) = if wCom b t p d k.toNat < V_230 t k w then V_230 t k w else wCom b t p d k.toNat := by
              unfold wComV mmax mmin V_230
              rw [ek, et, g3, t3]
              generalize V_212 t w = x at *
              generalize V_212 k w = y at *
              generalize w (452 + 24 * t + 2) = u at *
              generalize w (452 + 24 * k + 2) = v at *
              generalize wCom b t p d k.toNat = m at *
              repeat' split
              all_goals omega
            rw [hs, ev] at ih1
            by_cases c4 : wCom b t p d k.toNat < V_230 t k w
            · rw [if_pos c4]
              rw [if_pos c4] at ih1
              exact ih1
            · rw [if_neg c4]
              rw [if_neg c4] at ih1
              exact ih1
          · rw [if_neg c3]
            rw [if_neg (fun z => c3 (by rw [← g2, ← t2]; exact z.2.2))] at hs
            rw [hs] at ih1
            exact ih1
        · rw [if_neg c2]
          rw [if_neg (fun z => c2 (by rw [← g1]; exact z.2.1))] at hs
          rw [hs] at ih1
          exact ih1
    · have e : k = w 9 := by omega
      show ST_231_5 t p _ _ k w = _
      unfold ST_231_5
      rw [if_neg c, e]
theorem commonW {b t p : Int} {d : mD} {w : Row} (hg : GG w) (hW : WR b d w) (ht : 0 ≤ t ∧ t < w 9) : wCom b t p d (d b 4).toNat = V_231 t p w := by
  have n9 := hg.1.2.2.1
  rw [hW.2.1.2.2.2.2.1]
  exact ((comW hg hW ht (61 - 0 : Int).toNat 0 (by decide) (by omega) (by rw [show (((61 - 0 : Int).toNat : Nat) : Int) = 61 by decide]; omega)).2).symm
-- as many of one kind as of the other
theorem csum_bij {A B f : Int → Int} {N M : Nat} (hA : ∀ k : Int, 0 ≤ k → k < (N : Int) → (A k = 0 ∨ A k = 1) ∧ 0 ≤ f k ∧ f k < (M : Int) ∧ (A k = 1 → B (f k) = 1)) (hB : ∀ t : Int, 0 ≤ t → t < (M : Int) → (B t = 0 ∨ B t = 1) ∧ (B t = 1 → ∃ k, 0 ≤ k ∧ k < (N : Int) ∧ A k = 1 ∧ f k = t)) (hi : ∀ k i : Int, 0 ≤ i → i < k → k < (N : Int) → A i = 1 → A k = 1 → ¬ f i = f k) : csum A N = csum B M := by
  have e1 : csum A N = csum (fun k => csum (fun t => if f k = t then A k else 0) M) N := csum_congr (fun k k0 k1 => by
    obtain ⟨-, f0, f1, -⟩ := hA k k0 k1
    have h := csum_upd (f := fun t => if f k = t then A k else 0) (g := fun _ => 0) (n := M) (k := f k) f0 f1 (fun i a c e => by
      show (if f k = i then A k else 0) = 0
      rw [if_neg (fun z => e z.symm)])
    rw [h, csum_zero (fun _ _ _ => rfl), if_pos rfl]
    omega)
  rw [e1, csum_swap]
  refine csum_congr (fun t t0 t1 => ?_)
  obtain ⟨b1, b2⟩ := hB t t0 t1
  rcases b1 with b0 | b1
  · rw [b0]
    refine csum_zero (fun k k0 k1 => ?_)
    show (if f k = t then A k else 0) = 0
    by_cases c : f k = t
    · rw [if_pos c]
      obtain ⟨a1, -, -, a4⟩ := hA k k0 k1
      rcases a1 with a1 | a1
      · exact a1
      · have := a4 a1
        rw [c, b0] at this
        omega
    · rw [if_neg c]
  · obtain ⟨k, k0, k1, k2, k3⟩ := b2 b1
    have h := csum_upd (f := fun k => if f k = t then A k else 0) (g := fun _ => 0) (n := N) (k := k) k0 k1 (fun i a c e => by
      show (if f i = t then A i else 0) = 0
      by_cases q : f i = t
      · rw [if_pos q]
        rcases (hA i a c).1 with z | z
        · exact z
        · rcases Int.lt_or_le i k with y | y
          · exact absurd (q.trans k3.symm) (hi k i a y k1 z k2)
          · exact absurd (k3.trans q.symm) (hi i k k0 (by omega) c k2 z)
      · rw [if_neg q])
    rw [h, csum_zero (fun _ _ _ => rfl), b1]
    show 0 + ((if f k = t then A k else 0) - 0) = 1
    rw [if_pos k3, k2]
    decide
theorem oftW {b p : Int} {d : mD} {w : Row} (hg : GG w) (hW : WR b d w) (hp : 0 ≤ p ∧ p < 16) : csum (wOftF b p d) (d b 7).toNat = attR w p := by
  obtain ⟨d1, d2, d3⟩ := hW.2.2.2.2.2.2.2.2.2.2
  have a0 := hW.2.1.1
  have n9 := hg.1.2.2.1
  have hC := hg.2.2.2.2.1
  unfold attR
  refine csum_bij (f := fun k => d (b + 25) k) (fun k k0 k1 => ?_) (fun t t0 t1 => ?_) (fun k i i0 i1 k1 x y => ?_)
  · obtain ⟨g1, g2, g3, g4, g5⟩ := d2 k k0 (by omega)
    refine ⟨?_, g1.1, by omega, fun z => ?_⟩
    · unfold wOftF
      split
      · exact Or.inr rfl
      · exact Or.inl rfl
    · show (if 0 < w (452 + 24 * d (b + 25) k + 8 + p) ∧ (w (452 + 24 * d (b + 25) k + 8 + p) - 1) / 20 = w 0 / 20 then (1 : Int) else 0) = 1
      unfold wOftF at z
      split at z
      · rename_i y
        rw [y.1] at g3 g4
        have := ((hC _ g1.1 g1.2).2.2.2.2 p hp.1 hp.2).1
        rw [if_pos ⟨by omega, by rw [← g4, y.2, a0]⟩]
      · omega
  · refine ⟨?_, fun z => ?_⟩
    · show (if 0 < w (452 + 24 * t + 8 + p) ∧ (w (452 + 24 * t + 8 + p) - 1) / 20 = w 0 / 20 then (1 : Int) else 0) = 0 ∨ (if 0 < w (452 + 24 * t + 8 + p) ∧ (w (452 + 24 * t + 8 + p) - 1) / 20 = w 0 / 20 then (1 : Int) else 0) = 1
      split
      · exact Or.inr rfl
      · exact Or.inl rfl
    · have z : (if 0 < w (452 + 24 * t + 8 + p) ∧ (w (452 + 24 * t + 8 + p) - 1) / 20 = w 0 / 20 then (1 : Int) else 0) = 1 := z
      split at z
      · rename_i y
        obtain ⟨k, k0, k1, k2, k3⟩ := d3 t p t0 (by omega) hp.1 hp.2 (by omega)
        have g4 := (d2 k k0 k1).2.2.2.1
        rw [k2, k3] at g4
        refine ⟨k, k0, by omega, ?_, k2⟩
        unfold wOftF
        rw [if_pos ⟨k3, by rw [g4, y.2, a0]⟩]
      · omega
  · unfold wOftF at x y
    split at x
    · split at y
      · rename_i u v
        intro e
        exact (d2 k (by omega) (by omega)).2.2.2.2 i i0 i1 ⟨e, by rw [u.1, v.1]⟩
      · omega
    · omega
theorem isE.iff {p q : Int → Prop} {n m r s : Int} (h : isE p n r) (h2 : (s = 0 ↔ ¬ ∃ j, 0 ≤ j ∧ j < m ∧ q j)) (hx : (∃ j, 0 ≤ j ∧ j < n ∧ p j) ↔ ∃ j, 0 ≤ j ∧ j < m ∧ q j) : r = 0 ↔ s = 0 := by
  rw [h2, ← hx]
  rcases h with ⟨r0, hn⟩ | ⟨r1, he⟩
  · exact ⟨fun _ ⟨j, a, c, e⟩ => hn j a c e, fun _ => r0⟩
  · exact ⟨fun z => by omega, fun z => absurd he z⟩
theorem whyW {b t p wit q : Int} {d : mD} {w : Row} (hg : GG w) (hW : WR b d w) (ht : 0 ≤ t ∧ t < w 9) (hp : 0 ≤ p ∧ p < w 8) (hw : isE (fun k => d (b + 25) k = t ∧ d (b + 26) k = p) (d b 7) wit) (hq : isE (wBackP b t p d) (d b 7) q) : wWhy b t p d wit q = V_234 t p w := by
  obtain ⟨d1, d2, d3⟩ := hW.2.2.2.2.2.2.2.2.2.2
  have a0 := hW.2.1.1
  have n9 := hg.1.2.2.1
  have n8 := hg.1.2.1
  have hC := hg.2.2.2.2.1
  obtain ⟨c5, c6, c7⟩ := hW.2.2.2.2.2.2.1 t ht.1 ht.2
  obtain ⟨t0, -⟩ := hW.2.2.2.2.2.1 t ht.1 ht.2
  have e2 : d (b + 1) 2 = w 4 := hW.2.1.2.2.2.2.2.2 2 (by decide) (by decide)
  have gT := hg.2.2.2.1 t ht.1 ht.2
  have gC := hC t ht.1 ht.2
  obtain ⟨v1, v2⟩ := lp234 (t := t) (p := p) (61 - 0 : Int).toNat 0 0 w (by decide) (by rw [show (((61 - 0 : Int).toNat : Nat) : Int) = 61 by decide]; omega) (Or.inl rfl)
  have hx : (∃ j, 0 ≤ j ∧ j < d b 7 ∧ wBackP b t p d j) ↔ ∃ j, 0 ≤ j ∧ j < w 9 ∧ w (452 + 24 * j + 0) = p ∧ attd w j (w (452 + 24 * t + 0)) := by
    constructor
    · rintro ⟨j, j0, j1, j2, j3, j4⟩
      obtain ⟨g1, g2, g3, g4, g5⟩ := d2 j j0 j1
      have r1 := (hW.2.2.2.2.2.1 _ g1.1 g1.2).1
      refine ⟨d (b + 25) j, g1.1, g1.2, by rw [← r1]; exact j2, ?_⟩
      rw [j3, t0] at g3 g4
      have := ((hC _ g1.1 g1.2).2.2.2.2 (w (452 + 24 * t + 0)) gT.1.1 (by omega)).1
      exact ⟨by omega, by rw [← g4, j4, a0]⟩
    · rintro ⟨j, j0, j1, j2, j3, j4⟩
      obtain ⟨k, k0, k1, k2, k3⟩ := d3 j (w (452 + 24 * t + 0)) j0 j1 gT.1.1 (by omega) (by omega)
      have g4 := (d2 k k0 k1).2.2.2.1
      rw [k2, k3] at g4
      have r1 := (hW.2.2.2.2.2.1 j j0 j1).1
      refine ⟨k, k0, k1, by rw [k2, r1]; exact j2, by rw [k3, t0], by rw [g4, j4, a0]⟩
  have hq0 : q = 0 ↔ LP_234_97 t p (61 - 0 : Int).toNat (452 + 24 * t) 0 0 w = 0 := hq.iff (v2.trans ⟨fun z => z.2, fun z => ⟨rfl, z⟩⟩) hx
  have hw0 : wit = 0 ↔ w (452 + 24 * t + 8 + p) = 0 := by
    rcases hw with ⟨r0, hn⟩ | ⟨r1, k, k0, k1, k2, k3⟩
    · refine ⟨fun _ => ?_, fun _ => r0⟩
      by_cases c : w (452 + 24 * t + 8 + p) = 0
      · exact c
      · obtain ⟨k, k0, k1, k2, k3⟩ := d3 t p ht.1 ht.2 hp.1 (by omega) c
        exact absurd ⟨k2, k3⟩ (hn k k0 k1)
    · refine ⟨fun z => by omega, fun z => ?_⟩
      have g3 := (d2 k k0 k1).2.2.1
      rw [k2, k3] at g3
      exact absurd z g3
  have hv : V_233 p w = attR w p := v233 (by omega)
  unfold wWhy V_234
  rw [c5, c6, t0, e2, commonW hg hW ht, oftW hg hW ⟨hp.1, by omega⟩, ← hv]
  by_cases x5 : w (452 + 24 * t + 5) = 0
  · have x6 : w (452 + 24 * t + 6) = 0 := by
      rcases gC.2.1 with z | z
      · exact z
      · have := (gC.2.2.1 z).1
        omega
    rw [if_pos (Or.inl x5), if_pos x6, if_pos x5]
  · rw [if_neg x5]
    by_cases x6 : w (452 + 24 * t + 6) = 0
    · rw [if_neg (fun z => z.elim x5 (fun y => y x6)), if_pos x6]
      by_cases x0 : w (452 + 24 * t + 0) = p
      · rw [if_pos x0, if_pos x0]
      · rw [if_neg x0, if_neg x0]
        by_cases x8 : w (452 + 24 * t + 8 + p) = 0
        · rw [if_neg (fun z => z (hw0.mpr x8)), if_pos x8]
          by_cases y1 : V_231 t p w < w 4
          · rw [if_pos y1, if_pos y1]
          · rw [if_neg y1, if_neg y1]
            by_cases y2 : V_233 p w < 3
            · rw [if_neg (by omega), if_pos y2]
              rcases v1 with z | z
              · rw [if_neg (fun y => y (hq0.mpr z)), z]
              · rw [if_pos (fun y => by have := hq0.mp y; omega), z]
            · rw [if_pos (by omega), if_neg y2]
        · rw [if_pos (fun z => x8 (hw0.mp z)), if_neg x8]
    · rw [if_pos (Or.inr x6), if_neg x6, if_neg x6]
theorem w_360 {E : mO × tW} {K : tK} {b t p : Int} {d : mD} {w : Row} (hW : WR b d w) (hg : GG w) (ht : 0 ≤ t ∧ t < w 9) (hp : 0 ≤ p ∧ p < w 8) (k : K (.inl (some (0, V_234 t p w))) d) : tCall E 360 [.inr (41, b), .inl (0, t), .inl (0, p)] d K := by
  obtain ⟨n7, n8, n9, n10, n11, n0, n1, n2, n3, n4, n5, n6⟩ := id hg.1
  obtain ⟨d1, d2, d3⟩ := hW.2.2.2.2.2.2.2.2.2.2
  have a0 := hW.2.1.1
  have a4 := hW.2.1.2.2.2.2.1
  refine k_360 hW.1.1 ⟨ht.1, by omega⟩ (m_inR (by omega) (by omega)) (by omega) (by omega) (by omega) (fun i x y => ⟨(d2 i x y).1.1, by have := (d2 i x y).1.2; omega⟩) (fun wit q h1 h2 => ?_)
  rw [whyW hg hW ht hp h1 h2]
  exact k
