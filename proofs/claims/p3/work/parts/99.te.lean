/-! ===== merge: class and reference agree ===== -/
theorem exRank {U : Int → Int} : ∀ (N : Nat), (∀ i k, 0 ≤ i → i < k → k < (N : Int) → ¬ U i = U k) → ∃ r : Int → Int, ∀ i, 0 ≤ i → i < (N : Int) → r (U i) = i := by
  intro N
  induction N with
  | zero => intro h; exact ⟨fun _ => 0, fun i a b => by omega⟩
  | succ N ih =>
    intro h
    obtain ⟨r, hr⟩ := ih (fun i k a b c => h i k a b (by omega))
    refine ⟨fun t => if t = U N then N else r t, fun i a b => ?_⟩
    show (if U i = U N then (N : Int) else r (U i)) = i
    by_cases q : i = N
    · rw [q, if_pos rfl]
    · rw [if_neg (h i N a (by omega) (by omega))]
      exact hr i a (by omega)
def mgU (o1 o2 : Int) (w : Row) (i : Int) : Int := if i < w (12 + 68 * o2 + 5) then w (12 + 68 * o2 + 7 + i) else w (12 + 68 * o1 + 7 + (i - w (12 + 68 * o2 + 5)))
theorem mgU_lo {o1 o2 i : Int} {w : Row} (h : i < w (12 + 68 * o2 + 5)) : mgU o1 o2 w i = w (12 + 68 * o2 + 7 + i) := by
  unfold mgU
  rw [if_pos h]
theorem mgU_hi {o1 o2 i : Int} {w : Row} (h : 0 ≤ i) : mgU o1 o2 w (w (12 + 68 * o2 + 5) + i) = w (12 + 68 * o1 + 7 + i) := by
  unfold mgU
  rw [if_neg (by omega), show w (12 + 68 * o2 + 5) + i - w (12 + 68 * o2 + 5) = i by omega]
theorem mgU_f {o1 o2 : Int} {w : Row} (hg : GG w) (h1 : 0 ≤ o1 ∧ o1 < w 7) (h2 : 0 ≤ o2 ∧ o2 < w 7) {i : Int} (a : 0 ≤ i) (b : i < w (12 + 68 * o2 + 5) + w (12 + 68 * o1 + 5)) : (0 ≤ mgU o1 o2 w i ∧ mgU o1 o2 w i < w 9) ∧ w (452 + 24 * mgU o1 o2 w i + 4) = 0 ∧ ((i < w (12 + 68 * o2 + 5) ∧ w (452 + 24 * mgU o1 o2 w i + 1) = o2) ∨ (¬ i < w (12 + 68 * o2 + 5) ∧ w (452 + 24 * mgU o1 o2 w i + 1) = o1)) := by
  by_cases q : i < w (12 + 68 * o2 + 5)
  · rw [mgU_lo q]
    have g := hg.2.2.1 o2 h2.1 h2.2 i a q
    exact ⟨g.1, g.2.2.1, Or.inl ⟨q, g.2.1⟩⟩
  · have e := mgU_hi (o1 := o1) (o2 := o2) (i := i - w (12 + 68 * o2 + 5)) (w := w) (by omega)
    rw [show w (12 + 68 * o2 + 5) + (i - w (12 + 68 * o2 + 5)) = i by omega] at e
    rw [e]
    have g := hg.2.2.1 o1 h1.1 h1.2 (i - w (12 + 68 * o2 + 5)) (by omega) (by omega)
    exact ⟨g.1, g.2.2.1, Or.inr ⟨q, g.2.1⟩⟩
theorem mgU_inj {o1 o2 : Int} {w : Row} (hg : GG w) (h1 : 0 ≤ o1 ∧ o1 < w 7) (h2 : 0 ≤ o2 ∧ o2 < w 7) (hne : ¬ o1 = o2) {i k : Int} (a : 0 ≤ i) (b : i < k) (c : k < w (12 + 68 * o2 + 5) + w (12 + 68 * o1 + 5)) : ¬ mgU o1 o2 w i = mgU o1 o2 w k := fun z => by
  obtain ⟨-, -, f1⟩ := mgU_f hg h1 h2 a (by omega : i < _)
  obtain ⟨-, -, f2⟩ := mgU_f hg h1 h2 (by omega : 0 ≤ k) c
  rw [← z] at f2
  by_cases q : k < w (12 + 68 * o2 + 5)
  · rw [mgU_lo q, mgU_lo (by omega)] at z
    have g := (hg.2.2.1 o2 h2.1 h2.2 k (by omega) q).2.2.2 i a b
    exact g.2 (by rw [z])
  · by_cases q2 : i < w (12 + 68 * o2 + 5)
    · omega
    · have e1 := mgU_hi (o1 := o1) (o2 := o2) (i := i - w (12 + 68 * o2 + 5)) (w := w) (by omega)
      have e2 := mgU_hi (o1 := o1) (o2 := o2) (i := k - w (12 + 68 * o2 + 5)) (w := w) (by omega)
      rw [show w (12 + 68 * o2 + 5) + (i - w (12 + 68 * o2 + 5)) = i by omega] at e1
      rw [show w (12 + 68 * o2 + 5) + (k - w (12 + 68 * o2 + 5)) = k by omega] at e2
      rw [e1, e2] at z
      have g := (hg.2.2.1 o1 h1.1 h1.2 (k - w (12 + 68 * o2 + 5)) (by omega) (by omega)).2.2.2 (i - w (12 + 68 * o2 + 5)) (by omega) (by omega)
      exact g.2 (by rw [z])
-- what comes out
def MrgW (κ : Int → Int) (o1 o2 m : Int) (w w' : Row) : Prop :=
  (∀ i, ¬ i = 12 + 68 * o1 + 4 → ¬ i = 12 + 68 * o1 + 5 → ¬ i = 12 + 68 * o2 + 5 → ¬ (12 + 68 * o2 + 7 ≤ i ∧ i < 12 + 68 * o2 + 68) → ¬ (452 ≤ i ∧ i < 1892 ∧ ((i - 452) % 24 = 1 ∨ (i - 452) % 24 = 3 ∨ (i - 452) % 24 = 4)) → w' i = w i)
  ∧ w' (12 + 68 * o1 + 4) = 0 ∧ w' (12 + 68 * o1 + 5) = 0 ∧ w' (12 + 68 * o2 + 5) = m ∧ 0 ≤ m
  ∧ incS κ (fun k => w' (12 + 68 * o2 + 7 + k)) m ∧ (∀ t, memS (fun k => w' (12 + 68 * o2 + 7 + k)) m t ↔ bestS κ (fun t => w (452 + 24 * t + 0)) (mgU o1 o2 w) (w (12 + 68 * o2 + 5) + w (12 + 68 * o1 + 5)) t)
  ∧ (∀ t, 0 ≤ t → t < 60 → (inU (mgU o1 o2 w) (w (12 + 68 * o2 + 5) + w (12 + 68 * o1 + 5)) t → w' (452 + 24 * t + 1) = o2) ∧ (¬ inU (mgU o1 o2 w) (w (12 + 68 * o2 + 5) + w (12 + 68 * o1 + 5)) t → w' (452 + 24 * t + 1) = w (452 + 24 * t + 1)))
  ∧ ∀ t, 0 ≤ t → t < 60 → ((inU (mgU o1 o2 w) (w (12 + 68 * o2 + 5) + w (12 + 68 * o1 + 5)) t ∧ ¬ bestS κ (fun t => w (452 + 24 * t + 0)) (mgU o1 o2 w) (w (12 + 68 * o2 + 5) + w (12 + 68 * o1 + 5)) t) → w' (452 + 24 * t + 3) = w 0 ∧ w' (452 + 24 * t + 4) = 2) ∧ (¬ (inU (mgU o1 o2 w) (w (12 + 68 * o2 + 5) + w (12 + 68 * o1 + 5)) t ∧ ¬ bestS κ (fun t => w (452 + 24 * t + 0)) (mgU o1 o2 w) (w (12 + 68 * o2 + 5) + w (12 + 68 * o1 + 5)) t) → w' (452 + 24 * t + 3) = w (452 + 24 * t + 3) ∧ w' (452 + 24 * t + 4) = w (452 + 24 * t + 4))
def KapM (κ : Int → Int) (o1 o2 : Int) (w : Row) : Prop := ∀ n i, 0 ≤ i → i < n → n < w (12 + 68 * o2 + 5) + w (12 + 68 * o1 + 5) → ¬ κ (mgU o1 o2 w i) = κ (mgU o1 o2 w n) ∧ (κ (mgU o1 o2 w i) < κ (mgU o1 o2 w n) ↔ w (452 + 24 * mgU o1 o2 w i + 2) ≤ w (452 + 24 * mgU o1 o2 w n + 2))
theorem exKap {o1 o2 : Int} {w : Row} (hg : GG w) (h1 : 0 ≤ o1 ∧ o1 < w 7) (h2 : 0 ≤ o2 ∧ o2 < w 7) (hne : ¬ o1 = o2) : ∃ κ, KapM κ o1 o2 w := by
  have n7 := hg.1.1
  have a1 := (hg.2.1 o1 h1.1 h1.2).2.2.2.2.1
  have a2 := (hg.2.1 o2 h2.1 h2.2).2.2.2.2.1
  obtain ⟨r, hr⟩ := exRank (U := mgU o1 o2 w) (w (12 + 68 * o2 + 5) + w (12 + 68 * o1 + 5)).toNat (fun i k a b c => mgU_inj hg h1 h2 hne a b (by omega))
  refine ⟨fun t => w (452 + 24 * t + 2) * 64 + r t, fun n i a b c => ?_⟩
  have e1 := hr i a (by omega)
  have e2 := hr n (by omega) (by omega)
  show ¬ w (452 + 24 * mgU o1 o2 w i + 2) * 64 + r (mgU o1 o2 w i) = w (452 + 24 * mgU o1 o2 w n + 2) * 64 + r (mgU o1 o2 w n) ∧ (w (452 + 24 * mgU o1 o2 w i + 2) * 64 + r (mgU o1 o2 w i) < w (452 + 24 * mgU o1 o2 w n + 2) * 64 + r (mgU o1 o2 w n) ↔ w (452 + 24 * mgU o1 o2 w i + 2) ≤ w (452 + 24 * mgU o1 o2 w n + 2))
  rw [e1, e2]
  omega
theorem startQ {κ : Int → Int} {o1 o2 : Int} {w : Row} (hg : GG w) (h1 : 0 ≤ o1 ∧ o1 < w 7) (h2 : 0 ≤ o2 ∧ o2 < w 7) (hκ : KapM κ o1 o2 w) : incS κ (fun k => w (12 + 68 * o2 + 7 + k)) (w (12 + 68 * o2 + 5)) ∧ (∀ t, memS (fun k => w (12 + 68 * o2 + 7 + k)) (w (12 + 68 * o2 + 5)) t ↔ inU (mgU o1 o2 w) (w (12 + 68 * o2 + 5)) t) ∧ ∀ t, inU (mgU o1 o2 w) (w (12 + 68 * o2 + 5)) t → bestS κ (fun t => w (452 + 24 * t + 0)) (mgU o1 o2 w) (w (12 + 68 * o2 + 5)) t := by
  have a1 := (hg.2.1 o1 h1.1 h1.2).2.2.2.2.1
  have gq := hg.2.2.1 o2 h2.1 h2.2
  refine ⟨fun i k a b c => ?_, fun t => ⟨?_, ?_⟩, ?_⟩
  · have y := (hκ k i a b (by omega)).2
    rw [mgU_lo c, mgU_lo (by omega)] at y
    exact y.2 ((gq k (by omega) c).2.2.2 i a b).1
  · rintro ⟨k, a, b, c⟩
    exact ⟨k, a, b, by rw [mgU_lo b]; exact c⟩
  · rintro ⟨k, a, b, c⟩
    rw [mgU_lo b] at c
    exact ⟨k, a, b, c⟩
  · rintro t ⟨k, a, b, c⟩
    refine ⟨⟨k, a, b, c⟩, ?_⟩
    rintro x ⟨i, i0, i1, i2⟩ e
    rw [mgU_lo b] at c
    rw [mgU_lo i1] at i2
    have e : w (452 + 24 * x + 0) = w (452 + 24 * t + 0) := e
    rw [← c, ← i2] at e
    by_cases q : i < k
    · exact absurd e ((gq k a b).2.2.2 i i0 q).2
    · by_cases q2 : k < i
      · exact absurd e.symm ((gq i i0 i1).2.2.2 k a q2).2
      · have z : i = k := by omega
        rw [← c, ← i2, z]
        omega
theorem mergeW {κ : Int → Int} {o1 o2 : Int} {w : Row} (hg : GG w) (h1 : 0 ≤ o1 ∧ o1 < w 7) (h2 : 0 ≤ o2 ∧ o2 < w 7) (hne : ¬ o1 = o2) (hκ : KapM κ o1 o2 w) : ∃ m, MrgW κ o1 o2 m w (W_229 o1 o2 w) := by
  have n7 := hg.1.1
  have n9 := hg.1.2.2.1
  have a1 := (hg.2.1 o1 h1.1 h1.2).2.2.2.2.1
  have a2 := (hg.2.1 o2 h2.1 h2.2).2.2.2.2.1
  obtain ⟨s1, s2, s3⟩ := startQ hg h1 h2 hκ
  have hf : ∀ t, inU (mgU o1 o2 w) (w (12 + 68 * o2 + 5) + w (12 + 68 * o1 + 5)) t → 0 ≤ t ∧ t < 60 := by
    rintro t ⟨i, i0, i1, i2⟩
    have := (mgU_f hg h1 h2 i0 i1).1
    rw [i2] at this
    omega
  have hoff : ∀ t, inU (mgU o1 o2 w) (w (12 + 68 * o2 + 5)) t → w (452 + 24 * t + 1) = o2 := by
    rintro t ⟨i, i0, i1, i2⟩
    have := (mgU_f hg h1 h2 i0 (by omega)).2.2
    rw [i2] at this
    omega
  generalize hz : ws w (12 + 68 * o1 + 4) 0 = wz
  have ez : ∀ i, ¬ i = 12 + 68 * o1 + 4 → wz i = w i := fun i a => by rw [← hz]; exact wsn a
  have ez4 : wz (12 + 68 * o1 + 4) = 0 := by rw [← hz]; exact wse rfl
  have st : MR κ (mgU o1 o2 w) o2 wz (w (12 + 68 * o2 + 5) + 0) wz := by
    rw [Int.add_zero]
    refine ⟨ez _ (by omega), fun i k a b c => ?_, fun t => ?_, fun i _ _ _ => rfl, fun t a b => ⟨fun u => ?_, fun _ => rfl⟩⟩
    · show κ (wz _) < κ (wz _)
      rw [ez _ (by omega), ez _ (by omega)]
      exact s1 i k a b c
    · rw [← s2]
      constructor
      · rintro ⟨k, a, b, c⟩
        have c : wz (12 + 68 * o2 + 7 + k) = t := c
        rw [ez _ (by omega)] at c
        exact ⟨k, a, b, c⟩
      · rintro ⟨k, a, b, c⟩
        refine ⟨k, a, b, ?_⟩
        show wz _ = _
        rw [ez _ (by omega)]
        exact c
    · rw [ez _ (by omega)]
      exact hoff t u
  obtain ⟨w1, r1, r2⟩ := loopR (a := w (12 + 68 * o2 + 5)) (b := w (12 + 68 * o1 + 5)) (w0 := wz) ⟨h1.1, by omega⟩ ⟨h2.1, by omega⟩ hne a2 a1 (ez _ (by omega)) (fun x x0 x1 => by rw [ez _ (by omega), mgU_hi x0]) (by
    rintro n nn n1 x ⟨i, i0, i1, i2⟩
    have y := hκ n i i0 i1 n1
    have f1 := (mgU_f hg h1 h2 i0 (by omega)).1
    have f2 := (mgU_f hg h1 h2 (by omega : 0 ≤ n) n1).1
    rw [i2] at y f1
    rw [ez _ (by omega), ez _ (by omega)]
    exact y) hf 61 0 wz (by omega) a1.1 (by omega) st
  obtain ⟨c1, c2, c3, c4, c5⟩ := id r1
  generalize hu : ws w1 (12 + 68 * o1 + 5) 0 = u at *
  have eu : ∀ i, ¬ i = 12 + 68 * o1 + 5 → u i = w1 i := fun i a => by rw [← hu]; exact wsn a
  have eu5 : u (12 + 68 * o1 + 5) = 0 := by rw [← hu]; exact wse rfl
  have eq : ∀ k, 0 ≤ k → k < w (12 + 68 * o2 + 5) + w (12 + 68 * o1 + 5) → u (12 + 68 * o2 + 7 + k) = w1 (12 + 68 * o2 + 7 + k) := fun k a b => eu _ (by omega)
  have stq : MrgQ κ (mgU o1 o2 w) (fun t => w (452 + 24 * t + 0)) o2 u (w (12 + 68 * o2 + 5) + w (12 + 68 * o1 + 5)) 0 (w (12 + 68 * o2 + 5) + w (12 + 68 * o1 + 5)) u := by
    have mm : ∀ t, memS (fun k => u (12 + 68 * o2 + 7 + k)) (w (12 + 68 * o2 + 5) + w (12 + 68 * o1 + 5)) t ↔ inU (mgU o1 o2 w) (w (12 + 68 * o2 + 5) + w (12 + 68 * o1 + 5)) t := fun t => by
      rw [← c3]
      constructor
      · rintro ⟨k, a, b, c⟩
        have c : u (12 + 68 * o2 + 7 + k) = t := c
        rw [eq k a b] at c
        exact ⟨k, a, b, c⟩
      · rintro ⟨k, a, b, c⟩
        refine ⟨k, a, b, ?_⟩
        show u _ = _
        rw [eq k a b]
        exact c
    refine ⟨by rw [eu _ (by omega)]; exact c1, by omega, by omega, by omega, fun i k a b c => ?_, fun t => (mm t).1, fun t a => (mm t).2 a.1, fun k a b => by omega, fun i _ _ _ => rfl, fun t a b => ⟨fun x => absurd ((mm t).2 x.1) x.2, fun _ => ⟨rfl, rfl⟩⟩⟩
    show κ (u _) < κ (u _)
    rw [eq i a (by omega), eq k (by omega) c]
    exact c2 i k a b c
  obtain ⟨m, q⟩ := loopQ (o1 := o1) (x3 := 12 + 68 * o1) ⟨h2.1, by omega⟩ (fun t a => by
    have y := hf t a
    refine ⟨y, ?_⟩
    rw [eu _ (by omega), c4 _ (by omega) (by omega) (by omega), ez _ (by omega)]) (w (12 + 68 * o2 + 5) + w (12 + 68 * o1 + 5)).toNat 0 (w (12 + 68 * o2 + 5) + w (12 + 68 * o1 + 5)) u stq (by omega)
  have eW : W_229 o1 o2 w = LP_229_199 o1 o2 (w (12 + 68 * o2 + 5) + w (12 + 68 * o1 + 5)).toNat (12 + 68 * o1) (12 + 68 * o2) 0 u := by
    unfold W_229
    rw [hz]
    exact r2
  rw [eW]
  generalize LP_229_199 o1 o2 (w (12 + 68 * o2 + 5) + w (12 + 68 * o1 + 5)).toNat (12 + 68 * o1) (12 + 68 * o2) 0 u = w' at *
  obtain ⟨q1, q2, q3, q4, q5, q6, q7, q8, q9, q10⟩ := q
  have mb : ∀ t, memS (fun k => w' (12 + 68 * o2 + 7 + k)) m t ↔ bestS κ (fun t => w (452 + 24 * t + 0)) (mgU o1 o2 w) (w (12 + 68 * o2 + 5) + w (12 + 68 * o1 + 5)) t := fun t => by
    refine ⟨?_, q7 t⟩
    rintro ⟨k, a, b, c⟩
    have := q8 k a b
    have c : w' (12 + 68 * o2 + 7 + k) = t := c
    rw [c] at this
    exact this
  refine ⟨m, fun i x1 x2 x3 x4 x5 => ?_, ?_, ?_, q1, q2, q5, mb, fun t a b => ?_, fun t a b => ?_⟩
  · rw [q9 i x3 x4 (by omega), eu i x2, c4 i x3 x4 (by omega), ez i x1]
  · rw [q9 _ (by omega) (by omega) (by omega), eu _ (by omega), c4 _ (by omega) (by omega) (by omega)]
    exact ez4
  · rw [q9 _ (by omega) (by omega) (by omega)]
    exact eu5
  · rw [q9 _ (by omega) (by omega) (by omega), eu _ (by omega)]
    have := c5 t a b
    rw [ez _ (by omega)] at this
    exact this
  · have := q10 t a b
    rw [mb, eu 0 (by omega), c4 0 (by omega) (by omega) (by omega), ez 0 (by omega), eu _ (by omega), eu _ (by omega), c4 _ (by omega) (by omega) (by omega), c4 _ (by omega) (by omega) (by omega), ez _ (by omega), ez _ (by omega)] at this
    exact this
theorem mergeD {κ : Int → Int} {s o1 o2 : Int} {d : mD} {w : Row} (hg : GG w) (h : Rel s d w) (h1 : 0 ≤ o1 ∧ o1 < w 7) (h2 : 0 ≤ o2 ∧ o2 < w 7) (hne : ¬ o1 = o2) (hκ : KapM κ o1 o2 w) : ∃ m d1, MC κ (mgU o1 o2 w) (fun t => w (452 + 24 * t + 0)) s o2 (w 0) d (w (12 + 68 * o2 + 5) + w (12 + 68 * o1 + 5)) m d1 ∧ g_63 s o1 o2 d = mset (mset d1 (s + 8) o1 0) (s + 7) o1 0 := by
  have n7 := hg.1.1
  have n8 := hg.1.2.1
  have n9 := hg.1.2.2.1
  have a1 := (hg.2.1 o1 h1.1 h1.2).2.2.2.2.1
  have a2 := (hg.2.1 o2 h2.1 h2.2).2.2.2.2.1
  obtain ⟨rA, rO, rQ, rP, rT, rC, rK, rR, rB, rH⟩ := id h
  obtain ⟨s1, s2, s3⟩ := startQ hg h1 h2 hκ
  have hf : ∀ t, inU (mgU o1 o2 w) (w (12 + 68 * o2 + 5) + w (12 + 68 * o1 + 5)) t → 0 ≤ t ∧ t < w 9 := by
    rintro t ⟨i, i0, i1, i2⟩
    have := (mgU_f hg h1 h2 i0 i1).1
    rw [i2] at this
    exact this
  have hoff : ∀ t, inU (mgU o1 o2 w) (w (12 + 68 * o2 + 5)) t → w (452 + 24 * t + 1) = o2 := by
    rintro t ⟨i, i0, i1, i2⟩
    have := (mgU_f hg h1 h2 i0 (by omega)).2.2
    rw [i2] at this
    omega
  have eq : ∀ k, 0 ≤ k → k < w (12 + 68 * o2 + 5) → d (s + 9) (o2 * 16 + k) = w (12 + 68 * o2 + 7 + k) := fun k a b => rQ o2 h2.1 h2.2 k a b
  have st : MC κ (mgU o1 o2 w) (fun t => w (452 + 24 * t + 0)) s o2 (w 0) d (w (12 + 68 * o2 + 5) + 0) (w (12 + 68 * o2 + 5)) d := by
    rw [Int.add_zero]
    refine ⟨fun b _ _ _ _ _ => rfl, fun o _ => rfl, (rO.2 o2 h2.1 h2.2).2.2.2.2.2, fun i _ => rfl, a2.1, fun i k a b c => ?_, fun t => ?_, fun t => ⟨fun u => ?_, fun _ => rfl⟩, fun t => ⟨fun u => absurd (s3 t u.1) u.2, fun _ => ⟨rfl, rfl⟩⟩⟩
    · show κ (d (s + 9) _) < κ (d (s + 9) _)
      rw [eq i a (by omega), eq k (by omega) c]
      exact s1 i k a b c
    · have e1 : memS (fun k => d (s + 9) (o2 * 16 + k)) (w (12 + 68 * o2 + 5)) t ↔ memS (fun k => w (12 + 68 * o2 + 7 + k)) (w (12 + 68 * o2 + 5)) t := by
        constructor
        · rintro ⟨k, a, b, c⟩
          have c : d (s + 9) (o2 * 16 + k) = t := c
          rw [eq k a b] at c
          exact ⟨k, a, b, c⟩
        · rintro ⟨k, a, b, c⟩
          refine ⟨k, a, b, ?_⟩
          show d (s + 9) _ = _
          rw [eq k a b]
          exact c
      rw [e1, s2]
      exact ⟨s3 t, fun y => y.1⟩
    · have y : 0 ≤ t ∧ t < w 9 := by
        obtain ⟨i, i0, i1, i2⟩ := u
        exact hf t ⟨i, i0, by omega, i2⟩
      rw [(rT.2 t y.1 y.2).2.1]
      exact hoff t u
  have hl := loopC (p := fun t => w (452 + 24 * t + 0)) (j := fun t => w (452 + 24 * t + 2)) (T := w 0) (o2 := o2) a2.1 a1 hne (rO.2 o1 h1.1 h1.2).2.2.2.2.2 (fun x x0 x1 => by rw [mgU_hi x0]; exact rQ o1 h1.1 h1.2 x x0 x1) (by
    rintro n nn n1 x ⟨i, i0, i1, i2⟩
    have y := hκ n i i0 i1 n1
    rw [i2] at y
    exact y) (fun x u => by
      have y := hf x u
      have g := (hg.2.2.2.1 x y.1 y.2).1
      have e := rT.2 x y.1 y.2
      exact ⟨e.1, e.2.2.1, g.1, by omega⟩) rA.2.1 16 0 (w (12 + 68 * o2 + 5)) d (by omega) a1.1 (by omega) st
  exact hl
