/-! ===== merge: the class's loop, the reference's two loops ===== -/
theorem loopC {κ U p j : Int → Int} {s o1 o2 T a b : Int} {d0 : mD} (ha : 0 ≤ a) (hb : 0 ≤ b ∧ b ≤ 16) (hne : ¬ o1 = o2) (h8 : d0 (s + 8) o1 = b) (hU : ∀ x, 0 ≤ x → x < b → d0 (s + 9) (o1 * 16 + x) = U (a + x)) (hk : ∀ n, a ≤ n → n < a + b → ∀ x, inU U n x → ¬ κ x = κ (U n) ∧ (κ x < κ (U n) ↔ j x ≤ j (U n))) (hp : ∀ x, inU U (a + b) x → d0 (s + 50) x = p x ∧ d0 (s + 52) x = j x ∧ 0 ≤ p x ∧ p x < 16) (hT : d0 s 2 = T) : ∀ (N : Nat) (x m : Int) (d : mD), 0 ≤ x → x ≤ b → b ≤ x + N → MC κ U p s o2 T d0 (a + x) m d → ∃ m' d1, MC κ U p s o2 T d0 (a + b) m' d1 ∧ lp_63_2 s o1 o2 N x d = mset (mset d1 (s + 8) o1 0) (s + 7) o1 0 := by
  have e : ∀ (r : Int → mD → mD) (x m : Int) (d : mD), MC κ U p s o2 T d0 (a + x) m d → st_63_2 s o1 o2 r x d = if x < b then r (x + 1) (g_64 s o2 (d (s + 9) (o1 * 16 + x)) d) else mset (mset d (s + 8) o1 0) (s + 7) o1 0 := fun r x m d h => by
    unfold st_63_2 v_38
    rw [show s + 2 + 6 = s + 8 by omega, show s + 2 + 7 = s + 9 by omega, show s + 2 + 5 = s + 7 by omega, h.2.1 o1 hne, h8]
  intro N
  induction N with
  | zero =>
    intro x m d x0 x1 x2 h
    have q := e (fun _ d => d) x m d h
    rw [if_neg (by omega)] at q
    refine ⟨m, d, ?_, q⟩
    rw [show a + b = a + x by omega]
    exact h
  | succ N ih =>
    intro x m d x0 x1 x2 h
    have q := e (lp_63_2 s o1 o2 N) x m d h
    by_cases z : x < b
    · rw [if_pos z, h.2.2.2.1 _ (by omega), hU x x0 z] at q
      obtain ⟨m', h'⟩ := stepM (j := j) (by omega) (hk (a + x) (by omega) (by omega)) (fun y ⟨i, i0, i1, i2⟩ => hp y ⟨i, i0, by omega, i2⟩) hT h
      rw [show a + x + 1 = a + (x + 1) by omega] at h'
      obtain ⟨m2, d2, g1, g2⟩ := ih (x + 1) m' _ (by omega) (by omega) (by omega) h'
      exact ⟨m2, d2, g1, q.trans g2⟩
    · rw [if_neg z] at q
      refine ⟨m, d, ?_, q⟩
      rw [show a + b = a + x by omega]
      exact h
theorem ins229 {x1 o2 x3 x5 t : Int} {r : Int → Int → Int → Row → Row} (ho : 0 ≤ o2 ∧ o2 ≤ 5) (ht : 0 ≤ t ∧ t < 60) : ∀ (N : Nat) (x : Int) (w : Row), 0 ≤ x → x ≤ 60 → x ≤ N → (∀ k, 0 ≤ k → k < x → 0 ≤ w (12 + 68 * o2 + 7 + k)) → ∃ pos w', 0 ≤ pos ∧ pos ≤ x ∧ LP_229_61 x1 o2 r N x3 (12 + 68 * o2) x5 t x w = r x3 (12 + 68 * o2) (x5 + 1) w' ∧ (∀ k, pos ≤ k → k < x → w (452 + 24 * t + 2) < w (452 + 24 * w (12 + 68 * o2 + 7 + k) + 2)) ∧ (0 < pos → ¬ w (452 + 24 * t + 2) < w (452 + 24 * w (12 + 68 * o2 + 7 + (pos - 1)) + 2)) ∧ w' (12 + 68 * o2 + 7 + pos) = t ∧ (∀ k, pos < k → k ≤ x → w' (12 + 68 * o2 + 7 + k) = w (12 + 68 * o2 + 7 + (k - 1))) ∧ w' (12 + 68 * o2 + 5) = w (12 + 68 * o2 + 5) + 1 ∧ w' (452 + 24 * t + 1) = o2 ∧ ∀ i, ¬ i = 12 + 68 * o2 + 5 → ¬ i = 452 + 24 * t + 1 → ¬ (12 + 68 * o2 + 7 + pos ≤ i ∧ i ≤ 12 + 68 * o2 + 7 + x) → w' i = w i := by
  have stop : ∀ (x : Int) (w : Row) (L : Row), 0 ≤ x → x ≤ 60 → (0 < x → ¬ w (452 + 24 * t + 2) < w (452 + 24 * w (12 + 68 * o2 + 7 + (x - 1)) + 2)) → L = r x3 (12 + 68 * o2) (x5 + 1) (ws (ws (ws w (12 + 68 * o2 + 7 + x) t) (12 + 68 * o2 + 5) (w (12 + 68 * o2 + 5) + 1)) (452 + 24 * t + 1) o2) → ∃ pos w', 0 ≤ pos ∧ pos ≤ x ∧ L = r x3 (12 + 68 * o2) (x5 + 1) w' ∧ (∀ k, pos ≤ k → k < x → w (452 + 24 * t + 2) < w (452 + 24 * w (12 + 68 * o2 + 7 + k) + 2)) ∧ (0 < pos → ¬ w (452 + 24 * t + 2) < w (452 + 24 * w (12 + 68 * o2 + 7 + (pos - 1)) + 2)) ∧ w' (12 + 68 * o2 + 7 + pos) = t ∧ (∀ k, pos < k → k ≤ x → w' (12 + 68 * o2 + 7 + k) = w (12 + 68 * o2 + 7 + (k - 1))) ∧ w' (12 + 68 * o2 + 5) = w (12 + 68 * o2 + 5) + 1 ∧ w' (452 + 24 * t + 1) = o2 ∧ ∀ i, ¬ i = 12 + 68 * o2 + 5 → ¬ i = 452 + 24 * t + 1 → ¬ (12 + 68 * o2 + 7 + pos ≤ i ∧ i ≤ 12 + 68 * o2 + 7 + x) → w' i = w i := fun x w L a b c e => by
    refine ⟨x, _, a, by omega, e, fun k y z => by omega, c, ?_, fun k y z => by omega, ?_, wse rfl, fun i y z u => ?_⟩
    · rw [wsn (by omega), wsn (by omega), wse rfl]
    · rw [wsn (by omega), wse rfl]
    · rw [wsn z, wsn y, wsn (by omega)]
  intro N
  induction N with
  | zero =>
    intro x w a b c hq
    refine stop x w _ a b (fun z => by omega) ?_
    show ST_229_61 x1 o2 r _ x3 (12 + 68 * o2) x5 t x w = _
    unfold ST_229_61
    rw [if_neg (by omega)]
  | succ N ih =>
    intro x w a b c hq
    by_cases q : 0 < x
    · by_cases z : w (452 + 24 * t + 2) < w (452 + 24 * w (12 + 68 * o2 + 7 + (x - 1)) + 2)
      · have e : LP_229_61 x1 o2 r (N + 1) x3 (12 + 68 * o2) x5 t x w = LP_229_61 x1 o2 r N x3 (12 + 68 * o2) x5 t (x + -1) (ws w (12 + 68 * o2 + 7 + x) (w (12 + 68 * o2 + 7 + (x - 1)))) := by
          show ST_229_61 x1 o2 r _ x3 (12 + 68 * o2) x5 t x w = _
          unfold ST_229_61
          rw [if_pos q, show 12 + 68 * o2 + 7 + x - 1 = 12 + 68 * o2 + 7 + (x - 1) by omega, if_pos z]
        have y1 : ∀ i, ¬ i = 12 + 68 * o2 + 7 + x → ws w (12 + 68 * o2 + 7 + x) (w (12 + 68 * o2 + 7 + (x - 1))) i = w i := fun i y => wsn y
        have y2 : ws w (12 + 68 * o2 + 7 + x) (w (12 + 68 * o2 + 7 + (x - 1))) (12 + 68 * o2 + 7 + x) = w (12 + 68 * o2 + 7 + (x - 1)) := wse rfl
        rw [e]
        generalize ws w (12 + 68 * o2 + 7 + x) (w (12 + 68 * o2 + 7 + (x - 1))) = w1 at *
        obtain ⟨pos, w', i1, i2, i3, i4, i5, i6, i7, i8, i9, i10⟩ := ih (x + -1) w1 (by omega) (by omega) (by omega) (fun k u v => by rw [y1 _ (by omega)]; exact hq k u (by omega))
        refine ⟨pos, w', i1, by omega, i3, fun k u v => ?_, fun u => ?_, i6, fun k u v => ?_, by rw [i8, y1 _ (by omega)], i9, fun i u v y => by rw [i10 i u v (by omega), y1 i (by omega)]⟩
        · by_cases k1 : k = x - 1
          · rw [k1]; exact z
          · have k2 := i4 k u (by omega)
            have k3 := hq k (by omega) (by omega)
            rw [y1 (12 + 68 * o2 + 7 + k) (by omega), y1 _ (by omega), y1 _ (by omega)] at k2
            exact k2
        · have k2 := i5 u
          have k3 := hq (pos - 1) (by omega) (by omega)
          rw [y1 (12 + 68 * o2 + 7 + (pos - 1)) (by omega), y1 _ (by omega), y1 _ (by omega)] at k2
          exact k2
        · by_cases k1 : k = x
          · rw [k1, i10 _ (by omega) (by omega) (by omega), y2]
          · rw [i7 k u (by omega), y1 _ (by omega)]
      · refine stop x w _ a b (fun _ => z) ?_
        show ST_229_61 x1 o2 r _ x3 (12 + 68 * o2) x5 t x w = _
        unfold ST_229_61
        rw [if_pos q, show 12 + 68 * o2 + 7 + x - 1 = 12 + 68 * o2 + 7 + (x - 1) by omega, if_neg z]
    · refine stop x w _ a b (fun z => by omega) ?_
      show ST_229_61 x1 o2 r _ x3 (12 + 68 * o2) x5 t x w = _
      unfold ST_229_61
      rw [if_neg q]
def MR (κ U : Int → Int) (o2 : Int) (w0 : Row) (n : Int) (w : Row) : Prop :=
  w (12 + 68 * o2 + 5) = n ∧ incS κ (fun k => w (12 + 68 * o2 + 7 + k)) n ∧ (∀ t, memS (fun k => w (12 + 68 * o2 + 7 + k)) n t ↔ inU U n t)
  ∧ (∀ i, ¬ i = 12 + 68 * o2 + 5 → ¬ (12 + 68 * o2 + 7 ≤ i ∧ i < 12 + 68 * o2 + 68) → ¬ (452 ≤ i ∧ i < 1892 ∧ (i - 452) % 24 = 1) → w i = w0 i)
  ∧ ∀ t, 0 ≤ t → t < 60 → (inU U n t → w (452 + 24 * t + 1) = o2) ∧ (¬ inU U n t → w (452 + 24 * t + 1) = w0 (452 + 24 * t + 1))
theorem stepR {κ U : Int → Int} {o1 o2 x3 x5 n : Int} {w0 w : Row} {r : Int → Int → Int → Row → Row} (ho : 0 ≤ o2 ∧ o2 ≤ 5) (hn : 0 ≤ n ∧ n ≤ 40) (hk : ∀ x, inU U n x → ¬ κ x = κ (U n) ∧ (κ x < κ (U n) ↔ w0 (452 + 24 * x + 2) ≤ w0 (452 + 24 * U n + 2))) (hU : ∀ x, inU U (n + 1) x → 0 ≤ x ∧ x < 60) (h : MR κ U o2 w0 n w) : ∃ w', MR κ U o2 w0 (n + 1) w' ∧ LP_229_61 o1 o2 r (n : Int).toNat x3 (12 + 68 * o2) x5 (U n) n w = r x3 (12 + 68 * o2) (x5 + 1) w' := by
  obtain ⟨c1, c2, c3, c4, c5⟩ := h
  have ht : inU U (n + 1) (U n) := (inU_succ hn.1).2 (Or.inr rfl)
  have hu : ∀ x, inU U n x → inU U (n + 1) x := fun x a => (inU_succ hn.1).2 (Or.inl a)
  have mq : ∀ k, 0 ≤ k → k < n → inU U n (w (12 + 68 * o2 + 7 + k)) := fun k a b => (c3 _).1 ⟨k, a, b, rfl⟩
  have rt := hU _ ht
  obtain ⟨pos, w', i1, i2, i3, i4, i5, i6, i7, i8, i9, i10⟩ := ins229 (x1 := o1) (x3 := x3) (x5 := x5) (r := r) ho rt n.toNat n w hn.1 (by omega) (by omega) (fun k a b => (hU _ (hu _ (mq k a b))).1)
  have ej : ∀ X, 0 ≤ X ∧ X < 60 → w (452 + 24 * X + 2) = w0 (452 + 24 * X + 2) := fun X a => c4 _ (by omega) (by omega) (by omega)
  have hi : ∀ k, pos ≤ k → k < n → κ (U n) < κ (w (12 + 68 * o2 + 7 + k)) := fun k a b => by
    have y := i4 k a b
    have z := mq k (by omega) b
    rw [ej _ rt, ej _ (hU _ (hu _ z))] at y
    have u := hk _ z
    have v : ¬ κ (w (12 + 68 * o2 + 7 + k)) < κ (U n) := fun q => by
      have := u.2.1 q
      omega
    have := u.1
    omega
  have lo : ∀ k, 0 ≤ k → k < pos → κ (w (12 + 68 * o2 + 7 + k)) < κ (U n) := fun k a b => by
    have y := i5 (by omega)
    have z := mq (pos - 1) (by omega) (by omega)
    rw [ej _ rt, ej _ (hU _ (hu _ z))] at y
    have u := (hk _ z).2.2 (by omega)
    by_cases q : k = pos - 1
    · rw [q]; exact u
    · have := c2 k (pos - 1) a (by omega) (by omega)
      have this : κ (w (12 + 68 * o2 + 7 + k)) < κ (w (12 + 68 * o2 + 7 + (pos - 1))) := this
      omega
  have hi' := c2.ins (q' := fun k => w' (12 + 68 * o2 + 7 + k)) (t := U n) ⟨i1, i2⟩ (fun k a b => i10 _ (by omega) (by omega) (by omega)) i6 i7 lo hi
  refine ⟨w', ⟨by rw [i8, c1], hi'.1, fun t => ?_, fun i a b c => ?_, fun t a b => ?_⟩, i3⟩
  · rw [hi'.2, c3, inU_succ hn.1]
    exact ⟨fun z => z.elim Or.inr Or.inl, fun z => z.elim Or.inr Or.inl⟩
  · rw [i10 i a (by omega) (by omega)]
    exact c4 i a b c
  · by_cases z : t = U n
    · rw [z]
      exact ⟨fun _ => i9, fun y => absurd ht y⟩
    · rw [inU_succ hn.1, i10 _ (by omega) (by omega) (by omega)]
      exact ⟨fun y => (c5 t a b).1 (y.elim id (fun u => absurd u z)), fun y => (c5 t a b).2 (fun u => y (Or.inl u))⟩
theorem loopR {κ U : Int → Int} {o1 o2 a b : Int} {w0 : Row} (ho1 : 0 ≤ o1 ∧ o1 ≤ 5) (ho2 : 0 ≤ o2 ∧ o2 ≤ 5) (hne : ¬ o1 = o2) (ha : 0 ≤ a ∧ a ≤ 16) (hb : 0 ≤ b ∧ b ≤ 16) (h5 : w0 (12 + 68 * o1 + 5) = b) (hq : ∀ x, 0 ≤ x → x < b → w0 (12 + 68 * o1 + 7 + x) = U (a + x)) (hk : ∀ n, a ≤ n → n < a + b → ∀ x, inU U n x → ¬ κ x = κ (U n) ∧ (κ x < κ (U n) ↔ w0 (452 + 24 * x + 2) ≤ w0 (452 + 24 * U n + 2))) (hU : ∀ x, inU U (a + b) x → 0 ≤ x ∧ x < 60) : ∀ (N : Nat) (x : Int) (w : Row), 0 ≤ x → x ≤ b → b ≤ x + N → MR κ U o2 w0 (a + x) w → ∃ w1, MR κ U o2 w0 (a + b) w1 ∧ LP_229_23 o1 o2 N (12 + 68 * o1) (12 + 68 * o2) x w = LP_229_199 o1 o2 (a + b : Int).toNat (12 + 68 * o1) (12 + 68 * o2) 0 (ws w1 (12 + 68 * o1 + 5) 0) := by
  have fin : ∀ (r : Int → Int → Int → Row → Row) (x : Int) (w : Row), x = b → MR κ U o2 w0 (a + x) w → ST_229_23 o1 o2 r (12 + 68 * o1) (12 + 68 * o2) x w = LP_229_199 o1 o2 (a + b : Int).toNat (12 + 68 * o1) (12 + 68 * o2) 0 (ws w (12 + 68 * o1 + 5) 0) := fun r x w e h => by
    unfold ST_229_23
    rw [h.2.2.2.1 (12 + 68 * o1 + 5) (by omega) (by omega) (by omega), h5, if_neg (by omega), wsn (by omega), h.1, show a + x - 0 = a + b by omega]
  intro N
  induction N with
  | zero =>
    intro x w x0 x1 x2 h
    have e : x = b := by omega
    have y : LP_229_23 o1 o2 0 (12 + 68 * o1) (12 + 68 * o2) x w = _ := fin _ x w e h
    rw [e] at h
    exact ⟨w, h, y⟩
  | succ N ih =>
    intro x w x0 x1 x2 h
    by_cases z : x < b
    · have t : w (12 + 68 * o1 + 7 + x) = U (a + x) := by
        rw [h.2.2.2.1 (12 + 68 * o1 + 7 + x) (by omega) (by omega) (by omega)]
        exact hq x x0 z
      obtain ⟨w', g1, g2⟩ := stepR (o1 := o1) (x3 := 12 + 68 * o1) (x5 := x) (r := LP_229_23 o1 o2 N) ho2 (by omega) (hk (a + x) (by omega) (by omega)) (fun y ⟨i, i0, i1, i2⟩ => hU y ⟨i, i0, by omega, i2⟩) h
      have y : LP_229_23 o1 o2 (N + 1) (12 + 68 * o1) (12 + 68 * o2) x w = LP_229_23 o1 o2 N (12 + 68 * o1) (12 + 68 * o2) (x + 1) w' := by
        show ST_229_23 o1 o2 _ (12 + 68 * o1) (12 + 68 * o2) x w = _
        unfold ST_229_23
        rw [h.2.2.2.1 (12 + 68 * o1 + 5) (by omega) (by omega) (by omega), h5, if_pos z, t, h.1]
        exact g2
      rw [show a + x + 1 = a + (x + 1) by omega] at g1
      rw [y]
      exact ih (x + 1) w' (by omega) (by omega) (by omega) g1
    · have e : x = b := by omega
      have y : LP_229_23 o1 o2 (N + 1) (12 + 68 * o1) (12 + 68 * o2) x w = _ := fin _ x w e h
      rw [e] at h
      exact ⟨w, h, y⟩
-- the second loop: who stands behind a ticket of the same person goes
theorem lp237 {x1 x2 x3 x4 x5 x6 : Int} {r : Int → Int → Int → Row → Row} {w : Row} : ∀ (N : Nat) (x7 x8 : Int), (x7 = 0 ∨ x7 = 1) → x5 ≤ x8 + N → (LP_229_237 x1 x2 r N x3 x4 x5 x6 x7 x8 w = r x3 x4 (x5 + 1) w ∧ x7 = 0 ∧ ∀ k, x8 ≤ k → k < x5 → ¬ w (452 + 24 * w (x4 + 7 + k) + 0) = w (x6 + 0)) ∨ (LP_229_237 x1 x2 r N x3 x4 x5 x6 x7 x8 w = r x3 x4 x5 (W_220 x2 x5 (ws (ws w (x6 + 4) 2) (x6 + 3) (w 0))) ∧ (x7 = 1 ∨ ∃ k, x8 ≤ k ∧ k < x5 ∧ w (452 + 24 * w (x4 + 7 + k) + 0) = w (x6 + 0))) := by
  have fin : ∀ (r' : Int → Int → Int → Int → Int → Int → Row → Row) (x7 x8 : Int) (L : Row), (x7 = 0 ∨ x7 = 1) → ¬ x8 < x5 → L = ST_229_237 x1 x2 r r' x3 x4 x5 x6 x7 x8 w → (L = r x3 x4 (x5 + 1) w ∧ x7 = 0 ∧ ∀ k, x8 ≤ k → k < x5 → ¬ w (452 + 24 * w (x4 + 7 + k) + 0) = w (x6 + 0)) ∨ (L = r x3 x4 x5 (W_220 x2 x5 (ws (ws w (x6 + 4) 2) (x6 + 3) (w 0))) ∧ (x7 = 1 ∨ ∃ k, x8 ≤ k ∧ k < x5 ∧ w (452 + 24 * w (x4 + 7 + k) + 0) = w (x6 + 0))) := fun r' x7 x8 L h c e => by
    unfold ST_229_237 at e
    rw [if_neg c] at e
    rcases h with h | h
    · rw [if_pos h] at e
      exact Or.inl ⟨e, h, fun k a b => by omega⟩
    · rw [if_neg (by omega)] at e
      exact Or.inr ⟨e, Or.inl h⟩
  intro N
  induction N with
  | zero => intro x7 x8 h c; exact fin _ x7 x8 _ h (by omega) rfl
  | succ N ih =>
    intro x7 x8 h c
    by_cases z : x8 < x5
    · by_cases y : w (452 + 24 * w (x4 + 7 + x8) + 0) = w (x6 + 0)
      · have e : LP_229_237 x1 x2 r (N + 1) x3 x4 x5 x6 x7 x8 w = LP_229_237 x1 x2 r N x3 x4 x5 x6 1 (x8 + 1) w := by
          show ST_229_237 x1 x2 r _ x3 x4 x5 x6 x7 x8 w = _
          unfold ST_229_237
          rw [if_pos z, if_pos y]
          rcases h with h | h
          · rw [h, show mior 0 1 = 1 by decide]
          · rw [h, show mior 1 1 = 1 by decide]
        rw [e]
        rcases ih 1 (x8 + 1) (Or.inr rfl) (by omega) with ⟨-, i2, -⟩ | ⟨i1, -⟩
        · exact absurd i2 (by decide)
        · exact Or.inr ⟨i1, Or.inr ⟨x8, by omega, z, y⟩⟩
      · have e : LP_229_237 x1 x2 r (N + 1) x3 x4 x5 x6 x7 x8 w = LP_229_237 x1 x2 r N x3 x4 x5 x6 x7 (x8 + 1) w := by
          show ST_229_237 x1 x2 r _ x3 x4 x5 x6 x7 x8 w = _
          unfold ST_229_237
          rw [if_pos z, if_neg y]
          rcases h with h | h
          · rw [h, show mior 0 0 = 0 by decide]
          · rw [h, show mior 1 0 = 1 by decide]
        rw [e]
        rcases ih x7 (x8 + 1) h (by omega) with ⟨i1, i2, i3⟩ | ⟨i1, i2⟩
        · refine Or.inl ⟨i1, i2, fun k a b => ?_⟩
          by_cases q : k = x8
          · rw [q]; exact y
          · exact i3 k (by omega) b
        · refine Or.inr ⟨i1, i2.elim Or.inl (fun ⟨k, a, b, c⟩ => Or.inr ⟨k, by omega, b, c⟩)⟩
    · exact fin _ x7 x8 _ h z rfl
def MrgQ (κ U p : Int → Int) (o2 : Int) (w1 : Row) (n x m : Int) (w : Row) : Prop :=
  w (12 + 68 * o2 + 5) = m ∧ 0 ≤ x ∧ x ≤ m ∧ m ≤ 40 ∧ incS κ (fun k => w (12 + 68 * o2 + 7 + k)) m ∧ (∀ t, memS (fun k => w (12 + 68 * o2 + 7 + k)) m t → inU U n t) ∧ (∀ t, bestS κ p U n t → memS (fun k => w (12 + 68 * o2 + 7 + k)) m t) ∧ (∀ k, 0 ≤ k → k < x → bestS κ p U n (w (12 + 68 * o2 + 7 + k)))
  ∧ (∀ i, ¬ i = 12 + 68 * o2 + 5 → ¬ (12 + 68 * o2 + 7 ≤ i ∧ i < 12 + 68 * o2 + 68) → ¬ (452 ≤ i ∧ i < 1892 ∧ ((i - 452) % 24 = 3 ∨ (i - 452) % 24 = 4)) → w i = w1 i)
  ∧ ∀ t, 0 ≤ t → t < 60 → ((inU U n t ∧ ¬ memS (fun k => w (12 + 68 * o2 + 7 + k)) m t) → w (452 + 24 * t + 3) = w1 0 ∧ w (452 + 24 * t + 4) = 2) ∧ (¬ (inU U n t ∧ ¬ memS (fun k => w (12 + 68 * o2 + 7 + k)) m t) → w (452 + 24 * t + 3) = w1 (452 + 24 * t + 3) ∧ w (452 + 24 * t + 4) = w1 (452 + 24 * t + 4))
theorem stepQ {κ U p : Int → Int} {o1 o2 x3 n x m : Int} {w1 w : Row} {r : Int → Int → Int → Row → Row} (ho : 0 ≤ o2 ∧ o2 ≤ 5) (hU : ∀ t, inU U n t → (0 ≤ t ∧ t < 60) ∧ w1 (452 + 24 * t + 0) = p t) (h : MrgQ κ U p o2 w1 n x m w) (hx : x < m) : ∃ x' m' w', MrgQ κ U p o2 w1 n x' m' w' ∧ m' - x' = m - x - 1 ∧ LP_229_237 o1 o2 r (x - 0 : Int).toNat x3 (12 + 68 * o2) x (452 + 24 * w (12 + 68 * o2 + 7 + x)) 0 0 w = r x3 (12 + 68 * o2) x' w' := by
  obtain ⟨c1, c2, c3, c4, c5, c6, c7, c8, c9, c10⟩ := h
  have mq : ∀ k, 0 ≤ k → k < m → inU U n (w (12 + 68 * o2 + 7 + k)) := fun k a b => c6 _ ⟨k, a, b, rfl⟩
  have ep : ∀ t, inU U n t → w (452 + 24 * t + 0) = p t := fun t a => by
    have := (hU t a).1
    rw [c9 _ (by omega) (by omega) (by omega)]
    exact (hU t a).2
  rcases lp237 (x1 := o1) (x2 := o2) (x3 := x3) (x4 := 12 + 68 * o2) (x5 := x) (x6 := 452 + 24 * w (12 + 68 * o2 + 7 + x)) (r := r) (w := w) (x - 0 : Int).toNat 0 0 (Or.inl rfl) (by omega) with ⟨i1, -, i3⟩ | ⟨i1, i2⟩
  · refine ⟨x + 1, m, w, ⟨c1, by omega, by omega, c4, c5, c6, c7, fun k a b => ?_, c9, c10⟩, by omega, i1⟩
    by_cases q : k < x
    · exact c8 k a q
    · have e : k = x := by omega
      rw [e]
      refine ⟨mq x c2 hx, fun y y1 y2 => ?_⟩
      obtain ⟨z, z1, z2, z3⟩ := bestS.ex (κ := κ) (p := p) y1
      obtain ⟨l, l0, l1, l2⟩ := c7 z z1
      have l2 : w (12 + 68 * o2 + 7 + l) = z := l2
      by_cases ll : l < x
      · have := i3 l l0 ll
        rw [ep _ (mq l l0 l1), ep _ (mq x c2 hx), l2] at this
        exact absurd (z2.trans y2) this
      · by_cases lx : l = x
        · rw [lx] at l2
          rw [l2]; exact z3
        · have := c5 x l c2 (by omega) l1
          have this : κ (w (12 + 68 * o2 + 7 + x)) < κ (w (12 + 68 * o2 + 7 + l)) := this
          rw [l2] at this
          omega
  · obtain ⟨k0, k1, k2, k3⟩ : ∃ k, 0 ≤ k ∧ k < x ∧ w (452 + 24 * w (12 + 68 * o2 + 7 + k) + 0) = w (452 + 24 * w (12 + 68 * o2 + 7 + x) + 0) := i2.elim (fun z => absurd z (by decide)) id
    rw [ep _ (mq k0 k1 (by omega)), ep _ (mq x c2 hx)] at k3
    have rt := (hU _ (mq x c2 hx)).1
    have nb : ¬ bestS κ p U n (w (12 + 68 * o2 + 7 + x)) := fun z => by
      have y1 := z.2 _ (mq k0 k1 (by omega)) k3
      have y2 := c5 k0 x k1 k2 hx
      have y2 : κ (w (12 + 68 * o2 + 7 + k0)) < κ (w (12 + 68 * o2 + 7 + x)) := y2
      omega
    generalize hX : w (12 + 68 * o2 + 7 + x) = X at *
    generalize hu : ws (ws w (452 + 24 * X + 4) 2) (452 + 24 * X + 3) (w 0) = u at *
    have eu : ∀ i, ¬ i = 452 + 24 * X + 4 → ¬ i = 452 + 24 * X + 3 → u i = w i := fun i a b => by
      rw [← hu, wsn b, wsn a]
    have e5 : u (12 + 68 * o2 + 5) = m := by rw [eu _ (by omega) (by omega)]; exact c1
    obtain ⟨t1, t2, t3⟩ := take220 (o := o2) (p := x) (w := u) c2 (by rw [e5]; omega) (by omega)
    generalize W_220 o2 x u = w' at *
    rw [e5] at t1 t2 t3
    have hr := c5.rem (q' := fun k => w' (12 + 68 * o2 + 7 + k)) ⟨c2, hx⟩ (fun k a b => by show w' _ = _; rw [t3 _ (by omega) (by omega), eu _ (by omega) (by omega)]) (fun k a b => by show w' _ = _; rw [t2 k a b, eu _ (by omega) (by omega), show 12 + 68 * o2 + 7 + k + 1 = 12 + 68 * o2 + 7 + (k + 1) by omega])
    have hr2 : ∀ y, memS (fun k => w' (12 + 68 * o2 + 7 + k)) (m - 1) y ↔ memS (fun k => w (12 + 68 * o2 + 7 + k)) m y ∧ ¬ y = X := by
      intro y
      have := hr.2 y
      rw [this, ← hX]
    have w0 : w 0 = w1 0 := c9 0 (by omega) (by omega) (by omega)
    refine ⟨x, m - 1, w', ⟨t1, c2, by omega, by omega, hr.1, fun t a => c6 t ((hr2 t).1 a).1, fun t a => (hr2 t).2 ⟨c7 t a, fun z => nb (by rw [← z]; exact a)⟩, fun k a b => ?_, fun i a b c => ?_, fun t a b => ?_⟩, by omega, i1⟩
    · rw [t3 _ (by omega) (by omega), eu _ (by omega) (by omega)]
      exact c8 k a b
    · rw [t3 i a (by omega), eu i (by omega) (by omega)]
      exact c9 i a b c
    · rw [hr2, t3 _ (by omega) (by omega), t3 _ (by omega) (by omega)]
      by_cases z : t = X
      · rw [z, ← hu, wse rfl, wsn (by omega), wse rfl]
        refine ⟨fun _ => ⟨w0, rfl⟩, fun y => absurd ⟨?_, fun v => v.2 rfl⟩ y⟩
        have := mq x c2 hx
        rw [hX] at this
        exact this
      · rw [eu _ (by omega) (by omega), eu _ (by omega) (by omega)]
        exact ⟨fun y => (c10 t a b).1 ⟨y.1, fun v => y.2 ⟨v, z⟩⟩, fun y => (c10 t a b).2 (fun v => y ⟨v.1, fun u => v.2 u.1⟩)⟩
theorem loopQ {κ U p : Int → Int} {o1 o2 x3 n : Int} {w1 : Row} (ho : 0 ≤ o2 ∧ o2 ≤ 5) (hU : ∀ t, inU U n t → (0 ≤ t ∧ t < 60) ∧ w1 (452 + 24 * t + 0) = p t) : ∀ (N : Nat) (x m : Int) (w : Row), MrgQ κ U p o2 w1 n x m w → m ≤ x + N → ∃ m', MrgQ κ U p o2 w1 n m' m' (LP_229_199 o1 o2 N x3 (12 + 68 * o2) x w) := by
  have fin : ∀ (r : Int → Int → Int → Row → Row) (x m : Int) (w : Row), MrgQ κ U p o2 w1 n x m w → ¬ x < m → MrgQ κ U p o2 w1 n m m (ST_229_199 o1 o2 r x3 (12 + 68 * o2) x w) := fun r x m w h c => by
    unfold ST_229_199
    rw [h.1, if_neg c]
    have e : x = m := by
      have := h.2.2.1
      omega
    rw [e] at h
    exact h
  intro N
  induction N with
  | zero => intro x m w h c; exact ⟨m, fin _ x m w h (by omega)⟩
  | succ N ih =>
    intro x m w h c
    by_cases z : x < m
    · obtain ⟨x', m', w', g1, g2, g3⟩ := stepQ (o1 := o1) (x3 := x3) (r := LP_229_199 o1 o2 N) ho hU h z
      have e : LP_229_199 o1 o2 (N + 1) x3 (12 + 68 * o2) x w = LP_229_199 o1 o2 N x3 (12 + 68 * o2) x' w' := by
        show ST_229_199 o1 o2 _ x3 (12 + 68 * o2) x w = _
        unfold ST_229_199
        rw [h.1, if_pos z]
        exact g3
      rw [e]
      exact ih x' m' w' g1 (by omega)
    · exact ⟨m, fin _ x m w h z⟩
