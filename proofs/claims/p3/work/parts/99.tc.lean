/-! ===== merge, the class: ticket by ticket ===== -/
def PutD (s o p t : Int) (d d' : mD) : Prop := (∀ b, ¬ b = s + 8 → ¬ b = s + 9 → d' b = d b) ∧ (∀ j, ¬ j = o → d' (s + 8) j = d (s + 8) j) ∧ d' (s + 8) o = d (s + 8) o + 1 ∧ d' (s + 9) (o * 16 + p) = t ∧ (∀ k, p < k → k ≤ d (s + 8) o → d' (s + 9) (o * 16 + k) = d (s + 9) (o * 16 + k - 1)) ∧ ∀ j, ¬ (o * 16 + p ≤ j ∧ j ≤ o * 16 + d (s + 8) o) → d' (s + 9) j = d (s + 9) j
theorem lp40 {x0 o p t : Int} : ∀ (n : Nat) (x : Int) (d : mD), p ≤ x → x - p ≤ (n : Int) → (∀ b, ¬ b = x0 + 6 → ¬ b = x0 + 7 → lp_40_40 x0 o p t n (o * 16) x d b = d b) ∧ (∀ j, ¬ j = o → lp_40_40 x0 o p t n (o * 16) x d (x0 + 6) j = d (x0 + 6) j) ∧ lp_40_40 x0 o p t n (o * 16) x d (x0 + 6) o = d (x0 + 6) o + 1 ∧ lp_40_40 x0 o p t n (o * 16) x d (x0 + 7) (o * 16 + p) = t ∧ (∀ k, p < k → k ≤ x → lp_40_40 x0 o p t n (o * 16) x d (x0 + 7) (o * 16 + k) = d (x0 + 7) (o * 16 + k - 1)) ∧ ∀ j, ¬ (o * 16 + p ≤ j ∧ j ≤ o * 16 + x) → lp_40_40 x0 o p t n (o * 16) x d (x0 + 7) j = d (x0 + 7) j := by
  have base : ∀ (r : Int → Int → mD → mD) (x : Int) (d : mD), p ≤ x → ¬ p < x → st_40_40 x0 o p t r (o * 16) x d = mset (mset d (x0 + 7) (o * 16 + p) t) (x0 + 6) o (d (x0 + 6) o + 1) := fun r x d a b => by
    unfold st_40_40
    rw [if_neg b]
  have fin : ∀ (x : Int) (d d' : mD), p ≤ x → ¬ p < x → d' = mset (mset d (x0 + 7) (o * 16 + p) t) (x0 + 6) o (d (x0 + 6) o + 1) → (∀ b, ¬ b = x0 + 6 → ¬ b = x0 + 7 → d' b = d b) ∧ (∀ j, ¬ j = o → d' (x0 + 6) j = d (x0 + 6) j) ∧ d' (x0 + 6) o = d (x0 + 6) o + 1 ∧ d' (x0 + 7) (o * 16 + p) = t ∧ (∀ k, p < k → k ≤ x → d' (x0 + 7) (o * 16 + k) = d (x0 + 7) (o * 16 + k - 1)) ∧ ∀ j, ¬ (o * 16 + p ≤ j ∧ j ≤ o * 16 + x) → d' (x0 + 7) j = d (x0 + 7) j := fun x d d' a b e => by
    rw [e]
    refine ⟨fun c x y => by funext j; rw [ms_a x, ms_a y], fun j x => by rw [ms_i x, ms_a (by omega)], ms_e rfl rfl, by rw [ms_a (by omega), ms_e rfl rfl], fun k x y => by omega, fun j x => by rw [ms_a (by omega), ms_i (by omega)]⟩
  intro n
  induction n with
  | zero => intro x d a b; exact fin x d _ a (by omega) (base _ x d a (by omega))
  | succ n ih =>
    intro x d a b
    by_cases hc : p < x
    · have e : lp_40_40 x0 o p t (n + 1) (o * 16) x d = lp_40_40 x0 o p t n (o * 16) (x + -1) (mset d (x0 + 7) (o * 16 + x) (d (x0 + 7) (o * 16 + x - 1))) := by
        show st_40_40 x0 o p t _ (o * 16) x d = _
        unfold st_40_40
        rw [if_pos hc]
      rw [e]
      obtain ⟨i1, i2, i3, i4, i5, i6⟩ := ih (x + -1) (mset d (x0 + 7) (o * 16 + x) (d (x0 + 7) (o * 16 + x - 1))) (by omega) (by omega)
      have e6 : ∀ j, mset d (x0 + 7) (o * 16 + x) (d (x0 + 7) (o * 16 + x - 1)) (x0 + 6) j = d (x0 + 6) j := fun j => ms_a (by omega)
      refine ⟨fun c y z => by rw [i1 c y z]; funext j; exact ms_a z, fun j y => by rw [i2 j y, e6], by rw [i3, e6], i4, fun k y z => ?_, fun j y => by rw [i6 j (by omega), ms_i (by omega)]⟩
      by_cases q : k = x
      · rw [q, i6 _ (by omega), ms_e rfl rfl]
      · rw [i5 k y (by omega), ms_i (by omega)]
    · exact fin x d _ a hc (base _ x d a hc)
theorem put40 {s o p t : Int} {d : mD} (hp : 0 ≤ p ∧ p ≤ d (s + 8) o) (hl : d (s + 8) o < 16) : PutD s o p t d (g_40 (s + 2) o p t d) := by
  unfold g_40
  have e8 : s + 2 + 6 = s + 8 := by omega
  have e9 : s + 2 + 7 = s + 9 := by omega
  rw [if_neg (by omega), e8, if_neg (by omega), if_pos hl]
  obtain ⟨i1, i2, i3, i4, i5, i6⟩ := lp40 (x0 := s + 2) (o := o) (p := p) (t := t) (d (s + 8) o).toNat (d (s + 8) o) d hp.2 (by omega)
  rw [e8] at i1 i2 i3
  rw [e9] at i1 i4 i5 i6
  exact ⟨i1, i2, i3, i4, i5, i6⟩
theorem per62 {s o c m : Int} {d : mD} (hm : d (s + 8) o = m) : ∀ (n : Nat) (x : Int), 0 ≤ x → m ≤ x + n → (lp_62_2 s o c n x d = -1 ∧ ∀ k, x ≤ k → k < m → ¬ d (s + 50) (d (s + 9) (o * 16 + k)) = c) ∨ (x ≤ lp_62_2 s o c n x d ∧ lp_62_2 s o c n x d < m ∧ d (s + 50) (d (s + 9) (o * 16 + lp_62_2 s o c n x d)) = c) := by
  have st : ∀ (r : Int → mD → Int) (x : Int), st_62_2 s o c r x d = if x < m then (if d (s + 50) (d (s + 9) (o * 16 + x)) = c then x else r (x + 1) d) else -1 := fun r x => by
    unfold st_62_2 v_38
    rw [show s + 2 + 6 = s + 8 by omega, show s + 2 + 7 = s + 9 by omega, show s + 49 + 1 = s + 50 by omega, hm]
  intro n
  induction n with
  | zero =>
    intro x a b
    have e : lp_62_2 s o c 0 x d = -1 := by
      show st_62_2 s o c _ x d = _
      rw [st, if_neg (by omega)]
    exact Or.inl ⟨e, fun k x y => by omega⟩
  | succ n ih =>
    intro x a b
    have e : lp_62_2 s o c (n + 1) x d = if x < m then (if d (s + 50) (d (s + 9) (o * 16 + x)) = c then x else lp_62_2 s o c n (x + 1) d) else -1 := by
      show st_62_2 s o c _ x d = _
      rw [st]
    by_cases q : x < m
    · rw [if_pos q] at e
      by_cases z : d (s + 50) (d (s + 9) (o * 16 + x)) = c
      · rw [if_pos z] at e
        exact Or.inr ⟨by omega, by omega, by rw [e]; exact z⟩
      · rw [if_neg z] at e
        rw [e]
        rcases ih (x + 1) (by omega) (by omega) with ⟨i1, i2⟩ | ⟨i1, i2, i3⟩
        · refine Or.inl ⟨i1, fun k y1 y2 => ?_⟩
          by_cases y3 : k = x
          · rw [y3]; exact z
          · exact i2 k (by omega) y2
        · exact Or.inr ⟨by omega, i2, i3⟩
    · rw [if_neg q] at e
      exact Or.inl ⟨e, fun k x y => by omega⟩
theorem pl65 {s o c m : Int} {d : mD} (hm : d (s + 8) o = m) : ∀ (n : Nat) (x : Int), 0 ≤ x → x ≤ m → m ≤ x + n → x ≤ lp_65_2 s o c n x d ∧ lp_65_2 s o c n x d ≤ m ∧ (∀ k, x ≤ k → k < lp_65_2 s o c n x d → ¬ c < d (s + 52) (d (s + 9) (o * 16 + k))) ∧ (lp_65_2 s o c n x d < m → c < d (s + 52) (d (s + 9) (o * 16 + lp_65_2 s o c n x d))) := by
  have st : ∀ (r : Int → mD → Int) (x : Int), st_65_2 s o c r x d = if x < m then (if c < d (s + 52) (d (s + 9) (o * 16 + x)) then x else r (x + 1) d) else x := fun r x => by
    unfold st_65_2 v_38
    rw [show s + 2 + 6 = s + 8 by omega, show s + 2 + 7 = s + 9 by omega, show s + 49 + 3 = s + 52 by omega, hm]
  intro n
  induction n with
  | zero =>
    intro x a a2 b
    have e : lp_65_2 s o c 0 x d = x := by
      show st_65_2 s o c _ x d = _
      rw [st, if_neg (by omega)]
    rw [e]
    exact ⟨by omega, a2, fun k x y => by omega, fun z => by omega⟩
  | succ n ih =>
    intro x a a2 b
    have e : lp_65_2 s o c (n + 1) x d = if x < m then (if c < d (s + 52) (d (s + 9) (o * 16 + x)) then x else lp_65_2 s o c n (x + 1) d) else x := by
      show st_65_2 s o c _ x d = _
      rw [st]
    by_cases q : x < m
    · rw [if_pos q] at e
      by_cases z : c < d (s + 52) (d (s + 9) (o * 16 + x))
      · rw [if_pos z] at e
        rw [e]
        exact ⟨by omega, a2, fun k x y => by omega, fun _ => z⟩
      · rw [if_neg z] at e
        rw [e]
        obtain ⟨i1, i2, i3, i4⟩ := ih (x + 1) (by omega) (by omega) (by omega)
        refine ⟨by omega, i2, fun k y1 y2 => ?_, i4⟩
        by_cases y3 : k = x
        · rw [y3]; exact z
        · exact i3 k (by omega) y2
    · rw [if_neg q] at e
      rw [e]
      exact ⟨by omega, a2, fun k x y => by omega, fun z => by omega⟩
theorem pig16 {f : Int → Int} {m : Int} (hr : ∀ k, 0 ≤ k → k < m → 0 ≤ f k ∧ f k < 16) (hi : ∀ k i, 0 ≤ i → i < k → k < m → ¬ f i = f k) : m ≤ 16 := by
  by_cases z : m ≤ 0
  · omega
  · have e : (((m - 1).toNat : Nat) : Int) = m - 1 := by omega
    have := pigeon (f := f) (L := (m - 1).toNat) (N := 16) (fun k a b => hr k a (by omega)) (fun k i a b c => hi k i a b (by omega)) (p := f (m - 1)) (hr (m - 1) (by omega) (by omega)).1 (hr (m - 1) (by omega) (by omega)).2 (fun k a b => hi (m - 1) k a (by omega) (by omega))
    omega
def MC (κ U p : Int → Int) (s o2 T : Int) (d0 : mD) (n m : Int) (d : mD) : Prop :=
  (∀ b, ¬ b = s + 8 → ¬ b = s + 9 → ¬ b = s + 51 → ¬ b = s + 53 → ¬ b = s + 54 → d b = d0 b)
  ∧ (∀ o, ¬ o = o2 → d (s + 8) o = d0 (s + 8) o) ∧ d (s + 8) o2 = m
  ∧ (∀ i, ¬ (o2 * 16 ≤ i ∧ i < o2 * 16 + 16) → d (s + 9) i = d0 (s + 9) i)
  ∧ 0 ≤ m ∧ incS κ (fun k => d (s + 9) (o2 * 16 + k)) m ∧ (∀ t, memS (fun k => d (s + 9) (o2 * 16 + k)) m t ↔ bestS κ p U n t)
  ∧ (∀ t, (inU U n t → d (s + 51) t = o2) ∧ (¬ inU U n t → d (s + 51) t = d0 (s + 51) t))
  ∧ ∀ t, ((inU U n t ∧ ¬ bestS κ p U n t) → d (s + 53) t = T ∧ d (s + 54) t = 2) ∧ (¬ (inU U n t ∧ ¬ bestS κ p U n t) → d (s + 53) t = d0 (s + 53) t ∧ d (s + 54) t = d0 (s + 54) t)
theorem bestS.one {κ p U : Int → Int} {q : Int → Int} {n m i k : Int} (h : incS κ q m) (hb : ∀ x, memS q m x ↔ bestS κ p U n x) (a : 0 ≤ i) (b : i < k) (c : k < m) : ¬ p (q i) = p (q k) := fun z => by
  have bi := (hb (q i)).1 ⟨i, a, by omega, rfl⟩
  have bk := (hb (q k)).1 ⟨k, by omega, c, rfl⟩
  have := bk.2 _ bi.1 z
  have := h i k a b c
  omega
theorem stepM {κ U p j : Int → Int} {s o2 T n m : Int} {d0 d : mD} (hn : 0 ≤ n) (hk : ∀ x, inU U n x → ¬ κ x = κ (U n) ∧ (κ x < κ (U n) ↔ j x ≤ j (U n))) (hp : ∀ x, inU U (n + 1) x → d0 (s + 50) x = p x ∧ d0 (s + 52) x = j x ∧ 0 ≤ p x ∧ p x < 16) (hT : d0 s 2 = T) (h : MC κ U p s o2 T d0 n m d) : ∃ m', MC κ U p s o2 T d0 (n + 1) m' (g_64 s o2 (U n) d) := by
  obtain ⟨c1, c2, c3, c4, c5, c6, c7, c8, c9⟩ := h
  have hu : ∀ x, inU U n x → inU U (n + 1) x := fun x a => (inU_succ hn).2 (Or.inl a)
  have ht : inU U (n + 1) (U n) := (inU_succ hn).2 (Or.inr rfl)
  have hk1 : ∀ x, inU U n x → ¬ κ x = κ (U n) := fun x a => (hk x a).1
  have f50 : d (s + 50) = d0 (s + 50) := c1 _ (by omega) (by omega) (by omega) (by omega) (by omega)
  have f52 : d (s + 52) = d0 (s + 52) := c1 _ (by omega) (by omega) (by omega) (by omega) (by omega)
  have fs : d s 2 = T := by rw [c1 s (by omega) (by omega) (by omega) (by omega) (by omega)]; exact hT
  have mq : ∀ k, 0 ≤ k → k < m → inU U n (d (s + 9) (o2 * 16 + k)) := fun k a b => ((c7 _).1 ⟨k, a, b, rfl⟩).1
  have pr := hp (U n) ht
  have m16 : m ≤ 16 := pig16 (f := fun k => p (d (s + 9) (o2 * 16 + k))) (fun k a b => (hp _ (hu _ (mq k a b))).2.2) (fun k i a b c => bestS.one (q := fun k => d (s + 9) (o2 * 16 + k)) c6 c7 a b c)
  have eP : d (s + 49 + 1) (U n) = p (U n) := by rw [show s + 49 + 1 = s + 50 by omega, f50]; exact pr.1
  have eJ : d (s + 49 + 3) (U n) = j (U n) := by rw [show s + 49 + 3 = s + 52 by omega, f52]; exact pr.2.1
  have h62 := per62 (c := p (U n)) c3 (16 - 0 : Int).toNat 0 (by omega) (by omega)
  have h65 := pl65 (c := j (U n)) c3 (16 - 0 : Int).toNat 0 (by omega) (by omega) (by omega)
  have e62 : v_62 s o2 (p (U n)) d = lp_62_2 s o2 (p (U n)) (16 - 0 : Int).toNat 0 d := rfl
  have e65 : v_65 s o2 (j (U n)) d = lp_65_2 s o2 (j (U n)) (16 - 0 : Int).toNat 0 d := rfl
  rw [← e62] at h62
  rw [← e65] at h65
  have hg : g_64 s o2 (U n) d = if v_62 s o2 (p (U n)) d = (-1) then g_40 (s + 2) o2 (v_65 s o2 (j (U n)) d) (U n) (mset d (s + 51) (U n) o2) else if v_62 s o2 (p (U n)) d < v_65 s o2 (j (U n)) d then mset (mset (mset d (s + 51) (U n) o2) (s + 54) (U n) 2) (s + 53) (U n) T else g_40 (s + 2) o2 (v_65 s o2 (j (U n)) d) (U n) (g_41 (s + 2) o2 (v_62 s o2 (p (U n)) d) (mset (mset (mset d (s + 51) (U n) o2) (s + 54) (d (s + 9) (o2 * 16 + v_62 s o2 (p (U n)) d)) 2) (s + 53) (d (s + 9) (o2 * 16 + v_62 s o2 (p (U n)) d)) T)) := by
    unfold g_64 g_97
    rw [eP, eJ, fs, show s + 49 + 2 = s + 51 by omega, show s + 49 + 5 = s + 54 by omega, show s + 49 + 4 = s + 53 by omega]
    have e38 : v_38 (s + 2) o2 (v_62 s o2 (p (U n)) d) (mset d (s + 51) (U n) o2) = d (s + 9) (o2 * 16 + v_62 s o2 (p (U n)) d) := by
      unfold v_38
      rw [show s + 2 + 7 = s + 9 by omega, ms_a (by omega)]
    rw [e38]
  rw [hg]
  generalize v_62 s o2 (p (U n)) d = tw at *
  generalize v_65 s o2 (j (U n)) d = pos at *
  obtain ⟨p1, p2, p3, p4⟩ := h65
  have lo : ∀ k, 0 ≤ k → k < pos → κ (d (s + 9) (o2 * 16 + k)) < κ (U n) := fun k a b => by
    have y := p3 k a b
    have z := mq k a (by omega)
    rw [f52, (hp _ (hu _ z)).2.1] at y
    exact ((hk _ z).2).2 (by omega)
  have hi : ∀ k, pos ≤ k → k < m → κ (U n) < κ (d (s + 9) (o2 * 16 + k)) := fun k a b => by
    have y := p4 (by omega)
    have z := mq pos p1 (by omega)
    rw [f52, (hp _ (hu _ z)).2.1] at y
    have y1 := (hk _ z).1
    have y2 : ¬ κ (d (s + 9) (o2 * 16 + pos)) < κ (U n) := fun u => by
      have := ((hk _ z).2).1 u
      omega
    by_cases q : pos = k
    · rw [← q]; omega
    · have := c6 pos k p1 (by omega) b
      have this : κ (d (s + 9) (o2 * 16 + pos)) < κ (d (s + 9) (o2 * 16 + k)) := this
      omega
  have c8' : ∀ (d' : mD), (∀ x, d' (s + 51) x = mset d (s + 51) (U n) o2 (s + 51) x) → ∀ t, (inU U (n + 1) t → d' (s + 51) t = o2) ∧ (¬ inU U (n + 1) t → d' (s + 51) t = d0 (s + 51) t) := fun d' e t => by
    rw [e]
    by_cases z : t = U n
    · rw [z, ms_e rfl rfl]
      exact ⟨fun _ => rfl, fun y => absurd ht y⟩
    · rw [ms_i z, inU_succ hn]
      exact ⟨fun y => (c8 t).1 (y.elim id (fun u => absurd u z)), fun y => (c8 t).2 (fun u => y (Or.inl u))⟩
  by_cases z1 : tw = -1
  · rw [if_pos z1]
    have no : ∀ k, 0 ≤ k → k < m → ¬ p (d (s + 9) (o2 * 16 + k)) = p (U n) := fun k a b => by
      rcases h62 with ⟨-, y⟩ | ⟨y, -⟩
      · have := y k a b
        rw [f50, (hp _ (hu _ (mq k a b))).1] at this
        exact this
      · omega
    have m15 : m < 16 := by
      have e : ((m.toNat : Nat) : Int) = m := by omega
      have := pigeon (f := fun k => p (d (s + 9) (o2 * 16 + k))) (L := m.toNat) (N := 16) (fun k a b => (hp _ (hu _ (mq k a (by omega)))).2.2) (fun k i a b c => bestS.one (q := fun k => d (s + 9) (o2 * 16 + k)) c6 c7 a b (by omega)) (p := p (U n)) pr.2.2.1 pr.2.2.2 (fun k a b => no k a (by omega))
      omega
    have e8 : mset d (s + 51) (U n) o2 (s + 8) o2 = m := by rw [ms_a (by omega)]; exact c3
    obtain ⟨i1, i2, i3, i4, i5, i6⟩ := put40 (s := s) (o := o2) (p := pos) (t := U n) (d := mset d (s + 51) (U n) o2) (by rw [e8]; exact ⟨p1, p2⟩) (by rw [e8]; exact m15)
    generalize g_40 (s + 2) o2 pos (U n) (mset d (s + 51) (U n) o2) = d' at *
    rw [e8] at i3 i5 i6
    have hi' := c6.ins (q' := fun k => d' (s + 9) (o2 * 16 + k)) (t := U n) ⟨p1, p2⟩ (fun k a b => by show d' (s + 9) _ = _; rw [i6 _ (by omega), ms_a (by omega)]) i4 (fun k a b => by show d' (s + 9) _ = _; rw [i5 k a b, ms_a (by omega), show o2 * 16 + k - 1 = o2 * 16 + (k - 1) by omega]) lo hi
    obtain ⟨s1, s2⟩ := stNone hn hk1 c6 c7 hi' no
    refine ⟨m + 1, fun b x1 x2 x3 x4 x5 => ?_, fun o x => ?_, i3, fun i x => ?_, by omega, hi'.1, s1, c8' d' (fun x => by rw [i1 _ (by omega) (by omega)]), fun t => ?_⟩
    · rw [i1 b x1 x2, ← c1 b x1 x2 x3 x4 x5]
      funext k
      exact ms_a x3
    · rw [i2 o x, ms_a (by omega)]; exact c2 o x
    · rw [i6 i (by omega), ms_a (by omega)]; exact c4 i x
    · rw [s2 t, i1 _ (by omega) (by omega), i1 _ (by omega) (by omega), ms_a (by omega), ms_a (by omega)]
      exact c9 t
  · rw [if_neg z1]
    obtain ⟨t1, t2, t3⟩ : 0 ≤ tw ∧ tw < m ∧ d (s + 50) (d (s + 9) (o2 * 16 + tw)) = p (U n) := by
      rcases h62 with ⟨y, -⟩ | ⟨y1, y2, y3⟩
      · exact absurd y z1
      · exact ⟨y1, y2, y3⟩
    rw [f50, (hp _ (hu _ (mq tw t1 t2))).1] at t3
    by_cases z2 : tw < pos
    · rw [if_pos z2]
      obtain ⟨s1, s2⟩ := stKeep hn hk1 c6 c7 ⟨t1, t2⟩ t3 (lo tw t1 z2)
      have e9 : ∀ b, ¬ b = s + 51 → ¬ b = s + 53 → ¬ b = s + 54 → mset (mset (mset d (s + 51) (U n) o2) (s + 54) (U n) 2) (s + 53) (U n) T b = d b := fun b x y z => by
        funext k
        simp (disch := omega) only [ms_a]
      refine ⟨m, fun b x1 x2 x3 x4 x5 => ?_, fun o x => ?_, ?_, fun i x => ?_, c5, ?_, fun t => ?_, c8' _ (fun x => ?_), fun t => ?_⟩
      · rw [e9 b x3 x4 x5]; exact c1 b x1 x2 x3 x4 x5
      · rw [e9 _ (by omega) (by omega) (by omega)]; exact c2 o x
      · rw [e9 _ (by omega) (by omega) (by omega)]; exact c3
      · rw [e9 _ (by omega) (by omega) (by omega)]; exact c4 i x
      · rw [e9 _ (by omega) (by omega) (by omega)]; exact c6
      · rw [e9 _ (by omega) (by omega) (by omega)]; exact s1 t
      · rw [ms_a (by omega), ms_a (by omega)]
      · rw [s2 t]
        by_cases y : t = U n
        · rw [y, ms_e rfl rfl, ms_a (by omega), ms_e rfl rfl]
          exact ⟨fun _ => ⟨rfl, rfl⟩, fun u => absurd (Or.inr rfl) u⟩
        · rw [ms_i y, ms_a (by omega), ms_a (by omega), ms_a (by omega), ms_i y, ms_a (by omega)]
          exact ⟨fun u => (c9 t).1 (u.elim id (fun v => absurd v y)), fun u => (c9 t).2 (fun v => u (Or.inl v))⟩
    · rw [if_neg z2]
      generalize hX : d (s + 9) (o2 * 16 + tw) = X at *
      generalize hd1 : mset (mset (mset d (s + 51) (U n) o2) (s + 54) X 2) (s + 53) X T = d1
      have e9 : ∀ b, ¬ b = s + 51 → ¬ b = s + 53 → ¬ b = s + 54 → d1 b = d b := fun b x y z => by
        rw [← hd1]
        funext k
        simp (disch := omega) only [ms_a]
      have y8 : d1 (s + 8) o2 = m := by rw [e9 _ (by omega) (by omega) (by omega)]; exact c3
      obtain ⟨r1, r2, r3, r4, r5⟩ := take41 (s := s) (o := o2) (p := tw) (d := d1) t1 (by rw [y8]; exact t2) (by rw [y8]; exact m16)
      generalize g_41 (s + 2) o2 tw d1 = d2 at *
      rw [y8] at r3 r4 r5
      rw [e9 (s + 9) (by omega) (by omega) (by omega)] at r4 r5
      rw [e9 (s + 8) (by omega) (by omega) (by omega)] at r2
      obtain ⟨i1, i2, i3, i4, i5, i6⟩ := put40 (s := s) (o := o2) (p := pos) (t := U n) (d := d2) (by rw [r3]; omega) (by rw [r3]; omega)
      generalize g_40 (s + 2) o2 pos (U n) d2 = d' at *
      rw [r3] at i3 i5 i6
      have hr := c6.rem (q' := fun k => d2 (s + 9) (o2 * 16 + k)) ⟨t1, t2⟩ (fun k a b => r5 _ (by omega)) (fun k a b => by show d2 (s + 9) _ = _; rw [r4 k a b, show o2 * 16 + k + 1 = o2 * 16 + (k + 1) by omega])
      have hi' := hr.1.ins (q' := fun k => d' (s + 9) (o2 * 16 + k)) (t := U n) (pos := pos) ⟨p1, by omega⟩ (fun k a b => i6 _ (by omega)) i4 (fun k a b => by show d' (s + 9) _ = _; rw [i5 k a b, show o2 * 16 + k - 1 = o2 * 16 + (k - 1) by omega]) (fun k a b => by
        show κ (d2 (s + 9) (o2 * 16 + k)) < _
        rw [r5 _ (by omega)]
        exact lo k a b) (fun k a b => by
        show _ < κ (d2 (s + 9) (o2 * 16 + k))
        by_cases y : k < tw
        · rw [r5 _ (by omega)]
          exact hi k a (by omega)
        · rw [r4 k (by omega) (by omega), show o2 * 16 + k + 1 = o2 * 16 + (k + 1) by omega]
          exact hi (k + 1) (by omega) (by omega))
      have hl : κ (U n) < κ X := by
        rw [← hX]
        exact hi tw (by omega) t2
      have hr2 := hr.2
      obtain ⟨s1, s2⟩ := stSwap (q := fun k => d (s + 9) (o2 * 16 + k)) (tw := tw) (q1 := fun k => d2 (s + 9) (o2 * 16 + k)) (q' := fun k => d' (s + 9) (o2 * 16 + k)) hn hk1 c6 c7 ⟨t1, t2⟩ (by rw [hX]; exact t3) (by rw [hX]; exact hl) hr2 hi'.2
      rw [hX] at s2
      refine ⟨m, fun b x1 x2 x3 x4 x5 => ?_, fun o x => ?_, by rw [i3]; omega, fun i x => ?_, c5, ?_, s1, c8' d' (fun x => ?_), fun t => ?_⟩
      · rw [i1 b x1 x2, r1 b x1 x2, e9 b x3 x4 x5]; exact c1 b x1 x2 x3 x4 x5
      · rw [i2 o x, r2 o x]; exact c2 o x
      · rw [i6 i (by omega), r5 i (by omega)]; exact c4 i x
      · have := hi'.1
        rw [show m - 1 + 1 = m by omega] at this
        exact this
      · rw [i1 _ (by omega) (by omega), r1 _ (by omega) (by omega), ← hd1, ms_a (by omega), ms_a (by omega)]
      · rw [s2 t, i1 _ (by omega) (by omega), i1 _ (by omega) (by omega), r1 _ (by omega) (by omega), r1 _ (by omega) (by omega), ← hd1]
        by_cases y : t = X
        · rw [y, ms_e rfl rfl, ms_a (by omega), ms_e rfl rfl]
          exact ⟨fun _ => ⟨rfl, rfl⟩, fun u => absurd (Or.inr rfl) u⟩
        · rw [ms_i y, ms_a (by omega), ms_a (by omega), ms_a (by omega), ms_i y, ms_a (by omega)]
          exact ⟨fun u => (c9 t).1 (u.elim id (fun v => absurd v y)), fun u => (c9 t).2 (fun v => u (Or.inl v))⟩
