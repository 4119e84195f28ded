/-! ===== queries: debt, gap ===== -/
def QV (v vr : Int) : Prop := v = vr ∧ inI v
theorem l258 {D : mD} : ∀ (n : Nat) (c k : Int), 0 ≤ k → k ≤ D 770 10 → D 770 10 - k ≤ (n : Int) → (lp_258_9 769 n c k D).1 = (c + ((D 770 10 - k) - (csum (fun k => if D 770 (1916 + 5 * k + 3) = 2 then 1 else 0) (D 770 10).toNat - csum (fun k => if D 770 (1916 + 5 * k + 3) = 2 then 1 else 0) k.toNat))) * D 770 6 := by
  have last : ∀ (r : Int → Int → mD → Int × mD) (c k : Int), k = D 770 10 → (st_258_9 769 r c k D).1 = (c + ((D 770 10 - k) - (csum (fun k => if D 770 (1916 + 5 * k + 3) = 2 then 1 else 0) (D 770 10).toNat - csum (fun k => if D 770 (1916 + 5 * k + 3) = 2 then 1 else 0) k.toNat))) * D 770 6 := fun r c k hk => by
    unfold st_258_9
    rw [n7691, if_neg (by omega), hk]
    show c * D 770 6 = _
    rw [show c + (D 770 10 - D 770 10 - (csum (fun k => if D 770 (1916 + 5 * k + 3) = 2 then 1 else 0) (D 770 10).toNat - csum (fun k => if D 770 (1916 + 5 * k + 3) = 2 then 1 else 0) (D 770 10).toNat)) = c by omega]
  intro n
  induction n with
  | zero =>
    intro c k h0 h1 h2
    exact last _ c k (by omega)
  | succ n ih =>
    intro c k h0 h1 h2
    by_cases q : k < D 770 10
    · have st : lp_258_9 769 (n + 1) c k D = lp_258_9 769 n (c + (1 - (if D 770 (1916 + 5 * k + 3) = 2 then 1 else 0))) (k + 1) D := by
        show st_258_9 769 _ c k D = _
        unfold st_258_9
        rw [n7691, if_pos q]
        by_cases z : D 770 (1916 + 5 * k + 3) = 2
        · rw [if_pos z, if_pos z]
          rfl
        · rw [if_neg z, if_neg z]
          rfl
      rw [st, ih _ _ (by omega) (by omega) (by omega), csum_s _ h0]
      congr 1
      generalize (if D 770 (1916 + 5 * k + 3) = 2 then (1 : Int) else 0) = z
      omega
    · exact last _ c k (by omega)
theorem qvDebt {d : mD} (hk : OKR 1 d (d 770)) : QV (v_137 0 d) (v_258 769 d) := by
  obtain ⟨hg, -, -, -, hr⟩ := id hk
  have n10 := hg.1.2.2.2.1
  have o10 : d 58 0 = d 770 10 := hr.2.2.2.2.2.2.1.1
  have s4 : d 2 4 = d 770 6 := hr.1.2.2 4 (by decide) (by decide)
  have n6 := hg.1.2.2.2.2.2.2.2.2.2.2.2
  have c2 := v110 (q := 2) hg hr
  have r := csum_rng (f := fun k => if d 770 (1916 + 5 * k + 3) = 2 then 1 else 0) (n := (d 770 10).toNat) (B := 1) (fun p x y => by split <;> omega)
  have h70 : mset d 769 0 0 770 = d 770 := o769 (by decide)
  have l := l258 (D := mset d 769 0 0) (200 - 0 : Int).toNat 0 0 (by decide) (by rw [h70]; exact n10.1) (by rw [h70]; omega)
  have ev : v_258 769 d = (lp_258_9 769 (200 - 0 : Int).toNat 0 0 (mset d 769 0 0)).1 := rfl
  have ew : v_137 0 d = (d 770 10 - csum (fun k => if d 770 (1916 + 5 * k + 3) = 2 then 1 else 0) (d 770 10).toNat) * d 770 6 := by
    unfold v_137
    rw [n01, n57, show (1 : Int) + 1 = 2 by decide, o10, s4, c2]
  rw [h70, show csum (fun k => if d 770 (1916 + 5 * k + 3) = 2 then 1 else 0) (0 : Int).toNat = 0 from rfl] at l
  unfold QV
  rw [ev, l, ew]
  generalize csum (fun k => if d 770 (1916 + 5 * k + 3) = 2 then 1 else 0) (d 770 10).toNat = c at *
  refine ⟨by congr 1; omega, inI.of ?_⟩
  have a1 : 0 ≤ (d 770 10 - c) := by omega
  have a2 : (d 770 10 - c) * d 770 6 ≤ 200 * 99 := Int.mul_le_mul (by omega) n6.2 (by omega) (by decide)
  have a3 : 0 ≤ (d 770 10 - c) * d 770 6 := Int.mul_nonneg a1 (by omega)
  omega
theorem in84 {d : mD} {w : Row} (hg : GG w) (hr : Rel 1 d w) {r : Int → Int → mD → Int} {x1 x2 : Int} (h2 : 0 ≤ x2 ∧ x2 < w 10) : ∀ (n : Nat) (k : Int), 0 ≤ k → x2 - k ≤ (n : Int) → lp_84_36 1 r n x1 x2 (d 51 (d 60 x2)) k d = r x1 (x2 + 1) d := by
  have per : ∀ k, 0 ≤ k → k < w 10 → d 51 (d 60 k) = perO w k ∧ d 61 k = w (1916 + 5 * k + 2) := fun k a b => by
    obtain ⟨t1, t2, t3, t4⟩ := hr.2.2.2.2.2.2.1.2 k a b
    have t2 : d 60 k = w (1916 + 5 * k + 1) := t2
    have t3 : d 61 k = w (1916 + 5 * k + 2) := t3
    obtain ⟨-, g2, -⟩ := hg.2.2.2.2.2.1 k a b
    have := (hr.2.2.2.2.1.2 (w (1916 + 5 * k + 1)) g2.1 g2.2).1
    have : d 51 (w (1916 + 5 * k + 1)) = w (452 + 24 * w (1916 + 5 * k + 1) + 0) := this
    rw [t2, this]
    exact ⟨rfl, t3⟩
  have un := (hg.2.2.2.2.2.1 x2 h2.1 h2.2).2.2.2.2.2
  have last : ∀ (r' : Int → Int → Int → Int → mD → Int) (k : Int), ¬ k < x2 → st_84_36 1 r r' x1 x2 (d 51 (d 60 x2)) k d = r x1 (x2 + 1) d := fun r' k hk => by
    unfold st_84_36
    rw [if_neg hk]
  intro n
  induction n with
  | zero =>
    intro k h0 hn
    exact last _ k (by omega)
  | succ n ih =>
    intro k h0 hn
    by_cases c : k < x2
    · show st_84_36 1 r _ x1 x2 (d 51 (d 60 x2)) k d = _
      unfold st_84_36
      rw [if_pos c, n57, n49, show (58 : Int) + 3 = 61 by decide, show (50 : Int) + 1 = 51 by decide, show (58 : Int) + 2 = 60 by decide, (per k h0 (by omega)).1, (per k h0 (by omega)).2, (per x2 h2.1 h2.2).1, (per x2 h2.1 h2.2).2]
      have e := (per x2 h2.1 h2.2).1
      by_cases z : w (1916 + 5 * k + 2) = w (1916 + 5 * x2 + 2)
      · rw [if_pos z, if_neg (fun y => un k h0 c ⟨z, y⟩), ← e]
        exact ih (k + 1) (by omega) (by omega)
      · rw [if_neg z, ← e]
        exact ih (k + 1) (by omega) (by omega)
    · exact last _ k c
theorem v84 {d : mD} {w : Row} (hg : GG w) (hr : Rel 1 d w) : ∀ (n : Nat) (x1 k : Int), 0 ≤ k → w 10 - k ≤ (n : Int) → lp_84_4 1 n x1 k d = x1 := by
  have o10 : d 58 0 = w 10 := hr.2.2.2.2.2.2.1.1
  have n10 := hg.1.2.2.2.1
  intro n
  induction n with
  | zero =>
    intro x1 k h0 hn
    show st_84_4 1 _ x1 k d = _
    unfold st_84_4
    rw [n57, if_neg (by omega)]
  | succ n ih =>
    intro x1 k h0 hn
    show st_84_4 1 _ x1 k d = _
    unfold st_84_4
    by_cases c : k < w 10
    · rw [n57, if_pos (by omega), n49, show (50 : Int) + 1 = 51 by decide, show (58 : Int) + 2 = 60 by decide, in84 hg hr ⟨h0, c⟩ _ 0 (by decide) (by omega)]
      exact ih x1 (k + 1) (by omega) (by omega)
    · rw [n57, if_neg (by omega)]
theorem in262 {D : mD} (hg : GG (D 770)) {r : Int → Int → mD → Int × mD} {x1 x2 : Int} (h2 : 0 ≤ x2 ∧ x2 < D 770 10) : ∀ (n : Nat) (k : Int), 0 ≤ k → x2 - k ≤ (n : Int) → lp_262_58 769 r n x1 x2 k D = r x1 (x2 + 1) D := by
  have un := (hg.2.2.2.2.2.1 x2 h2.1 h2.2).2.2.2.2.2
  have v15 : ∀ k, v_215 769 k D = perO (D 770) k := fun k => rfl
  have last : ∀ (r' : Int → Int → Int → mD → Int × mD) (k : Int), ¬ k < x2 → st_262_58 769 r r' x1 x2 k D = r x1 (x2 + 1) D := fun r' k hk => by
    unfold st_262_58
    rw [if_neg hk]
  intro n
  induction n with
  | zero =>
    intro k h0 hn
    exact last _ k (by omega)
  | succ n ih =>
    intro k h0 hn
    by_cases c : k < x2
    · show st_262_58 769 r _ x1 x2 k D = _
      unfold st_262_58
      rw [if_pos c, n7691, v15, v15]
      by_cases z : D 770 (1916 + 5 * x2 + 2) = D 770 (1916 + 5 * k + 2)
      · rw [if_pos z, if_neg (fun y => un k h0 c ⟨z.symm, y.symm⟩), Int.add_zero]
        exact ih (k + 1) (by omega) (by omega)
      · rw [if_neg z, Int.add_zero]
        exact ih (k + 1) (by omega) (by omega)
    · exact last _ k c
theorem l262 {D : mD} (hg : GG (D 770)) : ∀ (n : Nat) (x1 k : Int), 0 ≤ k → k ≤ D 770 10 → D 770 10 - k ≤ (n : Int) → (lp_262_15 769 n x1 k D).1 = x1 - (D 770 10 - k) := by
  have n10 := hg.1.2.2.2.1
  intro n
  induction n with
  | zero =>
    intro x1 k h0 h1 hn
    show (st_262_15 769 _ x1 k D).1 = _
    unfold st_262_15
    rw [n7691, if_neg (by omega)]
    show x1 = _
    omega
  | succ n ih =>
    intro x1 k h0 h1 hn
    by_cases c : k < D 770 10
    · obtain ⟨-, -, -, g4, -⟩ := hg.2.2.2.2.2.1 k h0 c
      show (st_262_15 769 _ x1 k D).1 = _
      unfold st_262_15
      rw [n7691, if_pos c, v176, if_pos g4, if_neg (by decide), in262 hg ⟨h0, c⟩ _ 0 (by decide) (by omega), ih _ _ (by omega) (by omega) (by omega)]
      omega
    · show (st_262_15 769 _ x1 k D).1 = _
      unfold st_262_15
      rw [n7691, if_neg c]
      show x1 = _
      omega
theorem qvGap {d : mD} (hk : OKR 1 d (d 770)) : QV (v_141 0 d) (v_262 769 d) := by
  obtain ⟨hg, -, -, -, hr⟩ := id hk
  have n10 := hg.1.2.2.2.1
  have o10 : d 58 0 = d 770 10 := hr.2.2.2.2.2.2.1.1
  have h70 : mset d 769 0 0 770 = d 770 := o769 (by decide)
  have l := l262 (D := mset d 769 0 0) (by rw [h70]; exact hg) (200 - 0 : Int).toNat (d 770 10) 0 (by decide) (by rw [h70]; exact n10.1) (by rw [h70]; omega)
  rw [h70] at l
  have ev : v_262 769 d = (lp_262_15 769 (200 - 0 : Int).toNat (d 770 10) 0 (mset d 769 0 0)).1 := rfl
  have e84 : v_84 1 d = 0 := v84 hg hr _ 0 0 (by decide) (by omega)
  have c0 := v110 (q := 0) hg hr
  have c1 := v110 (q := 1) hg hr
  have c2 := v110 (q := 2) hg hr
  have sum : csum (fun k => if d 770 (1916 + 5 * k + 3) = 0 then 1 else 0) (d 770 10).toNat + csum (fun k => if d 770 (1916 + 5 * k + 3) = 1 then 1 else 0) (d 770 10).toNat + csum (fun k => if d 770 (1916 + 5 * k + 3) = 2 then 1 else 0) (d 770 10).toNat = d 770 10 := by
    rw [← csum_add, ← csum_add]
    have : csum (fun i => (if d 770 (1916 + 5 * i + 3) = 0 then 1 else 0) + (if d 770 (1916 + 5 * i + 3) = 1 then 1 else 0) + if d 770 (1916 + 5 * i + 3) = 2 then 1 else 0) (d 770 10).toNat = csum (fun _ => 1) (d 770 10).toNat := by
      refine csum_congr (fun i x y => ?_)
      obtain ⟨-, -, -, g4, -⟩ := hg.2.2.2.2.2.1 i x (by omega)
      have : d 770 (1916 + 5 * i + 3) = 0 ∨ d 770 (1916 + 5 * i + 3) = 1 ∨ d 770 (1916 + 5 * i + 3) = 2 := by omega
      rcases this with z | z | z <;> rw [z] <;> decide
    rw [this, csum_const]
    omega
  have ew : v_141 0 d = 0 := by
    unfold v_141
    rw [n01, n57, o10, c0, c1, c2, e84]
    omega
  unfold QV
  rw [ev, l, ew]
  exact ⟨by omega, inI.of (by decide)⟩
/-! ===== queries: worth ===== -/
def unp (X : Int) (d : mD) : Nat → Int → Int
  | 0, _ => 0
  | n + 1, h => (if v_6 X h d = 0 then 1 else 0) + unp X d n (h + 1)
theorem unp_nn {X : Int} {d : mD} : ∀ (n : Nat) (h : Int), 0 ≤ unp X d n h := by
  intro n
  induction n with
  | zero => intro h; exact Int.le_refl 0
  | succ n ih =>
    intro h
    have := ih (h + 1)
    show 0 ≤ (if v_6 X h d = 0 then 1 else 0) + unp X d n (h + 1)
    split <;> omega
theorem unp_c {X : Int} {d d' : mD} : ∀ (n : Nat) (h : Int), (∀ j, h ≤ j → j < h + n → v_6 X j d' = v_6 X j d) → unp X d' n h = unp X d n h := by
  intro n
  induction n with
  | zero => intro h _; rfl
  | succ n ih =>
    intro h e
    show (if v_6 X h d' = 0 then 1 else 0) + unp X d' n (h + 1) = (if v_6 X h d = 0 then 1 else 0) + unp X d n (h + 1)
    rw [e h (by omega) (by omega), ih (h + 1) (fun j x y => e j (by omega) (by omega))]
theorem l80 {t p en : Int} {d : mD} : ∀ (N n : Nat) (c h : Int), en - h ≤ (n : Int) → (en - h).toNat = N → lp_80_41 1 t n p en c h d = mmax 0 (mmin (c + unp (18 + 2 * p) d N h) (v_79 1 p d)) := by
  intro N
  induction N with
  | zero =>
    intro n c h hn hN
    have st : ∀ r : Int → Int → Int → Int → mD → Int, st_80_41 1 t r p en c h d = mmax 0 (mmin (c + unp (18 + 2 * p) d 0 h) (v_79 1 p d)) := fun r => by
      unfold st_80_41
      rw [if_neg (by omega), show unp (18 + 2 * p) d 0 h = 0 from rfl, Int.add_zero]
    cases n with
    | zero => exact st _
    | succ n => exact st _
  | succ N ih =>
    intro n c h hn hN
    cases n with
    | zero => omega
    | succ n =>
      show st_80_41 1 t _ p en c h d = _
      unfold st_80_41
      rw [if_pos (by omega), show 1 + 10 + 6 + (1 + 2 * p) = 18 + 2 * p by omega, show unp (18 + 2 * p) d (N + 1) h = (if v_6 (18 + 2 * p) h d = 0 then 1 else 0) + unp (18 + 2 * p) d N (h + 1) from rfl]
      by_cases z : v_6 (18 + 2 * p) h d = 0
      · rw [if_pos z, if_pos z, ih n _ _ (by omega) (by omega), show c + 1 + unp (18 + 2 * p) d N (h + 1) = c + (1 + unp (18 + 2 * p) d N (h + 1)) by omega]
      · rw [if_neg z, if_neg z, ih n _ _ (by omega) (by omega), show c + 0 + unp (18 + 2 * p) d N (h + 1) = c + (0 + unp (18 + 2 * p) d N (h + 1)) by omega]
theorem l81 {t p en room : Int} (hp : 0 ≤ p ∧ p < 16) (he : en ≤ 999) : ∀ (N n : Nat) (m h : Int) (d : mD), 0 ≤ h → en - h ≤ (n : Int) → (en - h).toNat = N → (lp_81_48 1 t n p en room m h d).1 = m + mmin (unp (18 + 2 * p) d N h) (mmax 0 (room - m)) := by
  intro N
  induction N with
  | zero =>
    intro n m h d h0 hn hN
    have st : ∀ r : Int → Int → Int → Int → Int → mD → Int × mD, (st_81_48 1 t r p en room m h d).1 = m + mmin (unp (18 + 2 * p) d 0 h) (mmax 0 (room - m)) := fun r => by
      unfold st_81_48
      rw [if_neg (by omega), show unp (18 + 2 * p) d 0 h = 0 from rfl]
      unfold mmin mmax
      show m = _
      split
      · split at * <;> omega
      · omega
    cases n with
    | zero => exact st _
    | succ n => exact st _
  | succ N ih =>
    intro n m h d h0 hn hN
    have nn := unp_nn (X := 18 + 2 * p) (d := d) N (h + 1)
    cases n with
    | zero => omega
    | succ n =>
      show (st_81_48 1 t _ p en room m h d).1 = _
      unfold st_81_48
      rw [if_pos (by omega), show 1 + 10 + 6 + (1 + 2 * p) = 18 + 2 * p by omega, show unp (18 + 2 * p) d (N + 1) h = (if v_6 (18 + 2 * p) h d = 0 then 1 else 0) + unp (18 + 2 * p) d N (h + 1) from rfl]
      by_cases c : m < room
      · rw [if_pos c]
        by_cases z : v_6 (18 + 2 * p) h d = 0
        · rw [if_pos z, if_pos z, ih n _ _ _ (by omega) (by omega) (by omega), unp_c (d := d) N (h + 1) (fun j x y => ?_)]
          · generalize unp (18 + 2 * p) d N (h + 1) = u at *
            unfold mmin mmax
            split <;> split <;> split <;> split <;> omega
          · have e : v_6 (18 + 2 * p) j (g_109 (1 + 57) p t h (g_7 (18 + 2 * p) h d)) = v_6 (18 + 2 * p) j (g_7 (18 + 2 * p) h d) := by
              unfold g_109
              split
              · unfold v_6
                rw [ms_a (by omega), ms_a (by omega), ms_a (by omega), ms_a (by omega), ms_a (by omega)]
              · rfl
            rw [e, add_has h0 (by omega) (by omega) (by omega), if_neg (by omega)]
        · rw [if_neg z, if_neg z, ih n _ _ _ (by omega) (by omega) (by omega), Int.zero_add]
      · rw [if_neg c]
        show m = _
        unfold mmin mmax
        generalize unp (18 + 2 * p) d N (h + 1) = u at *
        split <;> split <;> split <;> omega
theorem worthEq {d : mD} {w : Row} {t : Int} (hg : GG w) (h : Rel 1 d w) (ht : 0 ≤ t ∧ t < w 9) (hs : w (452 + 24 * t + 4) = 1) (h9 : w (452 + 24 * t + 3) ≤ 999) : v_80 1 t d = V_218 t w := by
  rw [← (makes hg h ht hs h9).1]
  obtain ⟨t1, t2, t3, t4, t5⟩ := h.2.2.2.2.1.2 t ht.1 ht.2
  have t1 : d 51 t = w (452 + 24 * t + 0) := t1
  have t3 : d 53 t = w (452 + 24 * t + 2) := t3
  have t4 : d 54 t = w (452 + 24 * t + 3) := t4
  have s0 : d 2 0 = w 2 := h.1.2.2 0 (by decide) (by decide)
  obtain ⟨g1, g2, g3, -⟩ := hg.2.2.2.1 t ht.1 ht.2
  obtain ⟨n7, n8, n9, n10, n11, n0, n1, n2, -⟩ := id hg.1
  unfold v_80 v_81 f_81
  rw [n49, show (1 : Int) + 1 = 2 by decide, show (50 : Int) + 1 = 51 by decide, show (50 : Int) + 3 = 53 by decide, show (50 : Int) + 4 = 54 by decide, t1, t3, t4, s0]
  rw [l80 (w (452 + 24 * t + 3) - (w (452 + 24 * t + 2) + w 2)).toNat _ _ _ (by omega) rfl, l81 ⟨by omega, by omega⟩ h9 (w (452 + 24 * t + 3) - (w (452 + 24 * t + 2) + w 2)).toNat _ _ _ _ (by omega) (by omega) rfl]
  have nn := unp_nn (X := 18 + 2 * w (452 + 24 * t + 0)) (d := d) (w (452 + 24 * t + 3) - (w (452 + 24 * t + 2) + w 2)).toNat (w (452 + 24 * t + 2) + w 2)
  generalize unp (18 + 2 * w (452 + 24 * t + 0)) d (w (452 + 24 * t + 3) - (w (452 + 24 * t + 2) + w 2)).toNat (w (452 + 24 * t + 2) + w 2) = u at *
  generalize v_79 1 (w (452 + 24 * t + 0)) d = r at *
  unfold mmin mmax
  split <;> split <;> split <;> split <;> omega
theorem qpWorth {E : mO × tW} {d : mD} {a : Int} (hT : TKL E) (hI : Inv E d) : QP (g_317 0 a 778 d) (g_257 769 a (g_317 0 a 778 d)) (v_317 0 a 778 d) (v_257 769 a (g_317 0 a 778 d)) := by
  obtain ⟨hS, hh, hi⟩ := hI
  have hk := hi.1
  obtain ⟨hg, -, -, htm, hr⟩ := id hk
  have n9 := hg.1.2.2.1
  have o9 : d 50 0 = d 770 9 := hr.2.2.2.2.1.1
  have n1 : ¬ (1 : Int) = 0 := by decide
  unfold v_317 g_317
  rw [n01, n49, show (50 : Int) + 5 = 55 by decide, o9, ifR, ifR]
  by_cases c : 0 ≤ a ∧ a < d 770 9
  · rw [if_pos c, if_pos c]
    have t5 : d 55 a = d 770 (452 + 24 * a + 4) := (hr.2.2.2.2.1.2 a c.1 c.2).2.2.2.2
    rw [t5]
    by_cases z : d 770 (452 + 24 * a + 4) = 1
    · rw [if_pos z]
      have ge := (hg.2.2.2.1 a c.1 c.2).2.2.2.2.2 (by omega)
      have we := worthEq hg hr c z (by omega)
      have rg := (p_80 (E := E) (x0 := 1) (x1 := a) hS s1B (by omega) ⟨hT.t 6 1 (by decide), trivial, trivial⟩ hh).2
      generalize v_80 1 a d = x at *
      have e70 : g_255 769 (mset (mset d 778 0 x) 769 0 0) 770 = d 770 := by rw [(c255 (u := mset (mset d 778 0 x) 769 0 0)).1 770 (by decide), o769 (by decide), o778 (by decide)]
      refine ⟨?_, fun _ => ⟨?_, inI.of ?_⟩⟩
      · unfold g_257
        rw [v238, n7691, o778 (by decide), if_pos c, if_neg n1, if_pos z, (c256 (u := g_218 769 a (g_255 769 (mset (mset d 778 0 x) 769 0 0)))).1 769 (by decide), m_g_218, rset_ne (by decide), (c255 (u := mset (mset d 778 0 x) 769 0 0)).1 769 (by decide), ms_e rfl rfl]
      · unfold v_257
        rw [ms_e rfl rfl, v238, n7691, o778 (by decide), if_pos c, if_neg n1, if_pos z, m_v_218, e70]
        exact we
      · unfold v_257
        rw [v238, n7691, o778 (by decide), if_pos c, if_neg n1, if_pos z, m_v_218, e70, ← we]
        omega
    · rw [if_neg z]
      have e : g_257 769 a (mset d 778 0 0) = mset (mset d 778 0 0) 769 0 0 ∧ v_257 769 a (mset d 778 0 0) = 0 := by
        unfold g_257 v_257
        rw [v238, n7691, o778 (by decide), if_pos c, if_neg n1, if_neg n1, if_neg z, if_neg z]
        exact ⟨rfl, rfl⟩
      rw [e.1, e.2]
      exact QP.ok rfl (by decide)
  · rw [if_neg c, if_neg c]
    have e : g_257 769 a d = mset d 769 0 1 := by
      unfold g_257
      rw [v238, if_neg c, if_pos rfl]
    rw [e]
    exact QP.fail (by decide)
/-! ===== queries: person (but for the hours lost) ===== -/
theorem v104 {d : mD} {w : Row} {p : Int} (hg : GG w) (h : Rel 1 d w) : v_104 50 p d = csum (fun t => if w (452 + 24 * t + 0) = p then 1 else 0) (w 9).toNat := by
  obtain ⟨r1, r2⟩ := h.2.2.2.2.1
  have n9 := hg.1.2.2.1
  have r1 : d 50 0 = w 9 := r1
  unfold v_104
  refine cnt0 (L := fun n a k => lp_104_4 50 p n a k d) n9.1 (by omega) (fun n a k hk => ?_) (fun n a k x y => ?_)
  · cases n with
    | zero =>
      show st_104_4 50 p _ a k d = a
      unfold st_104_4
      rw [if_neg (by omega)]
    | succ n =>
      show st_104_4 50 p _ a k d = a
      unfold st_104_4
      rw [if_neg (by omega)]
  · obtain ⟨t1, t2, t3, t4, t5⟩ := r2 k x y
    have t1 : d 51 k = w (452 + 24 * k + 0) := t1
    show st_104_4 50 p _ a k d = _
    unfold st_104_4
    rw [if_pos (by omega), show (50 : Int) + 1 = 51 by decide, t1]
    by_cases c1 : w (452 + 24 * k + 0) = p
    · rw [if_pos c1, if_pos c1]
    · rw [if_neg c1, if_neg c1]
theorem v105 {d : mD} {w : Row} {p : Int} (hg : GG w) (h : Rel 1 d w) : v_105 50 p d = csum (fun t => if w (452 + 24 * t + 0) = p ∧ w (452 + 24 * t + 4) = 0 then 1 else 0) (w 9).toNat := by
  obtain ⟨r1, r2⟩ := h.2.2.2.2.1
  have n9 := hg.1.2.2.1
  have r1 : d 50 0 = w 9 := r1
  unfold v_105
  refine cnt0 (L := fun n a k => lp_105_4 50 p n a k d) n9.1 (by omega) (fun n a k hk => ?_) (fun n a k x y => ?_)
  · cases n with
    | zero =>
      show st_105_4 50 p _ a k d = a
      unfold st_105_4
      rw [if_neg (by omega)]
    | succ n =>
      show st_105_4 50 p _ a k d = a
      unfold st_105_4
      rw [if_neg (by omega)]
  · obtain ⟨t1, t2, t3, t4, t5⟩ := r2 k x y
    have t1 : d 51 k = w (452 + 24 * k + 0) := t1
    have t5 : d 55 k = w (452 + 24 * k + 4) := t5
    show st_105_4 50 p _ a k d = _
    unfold st_105_4
    rw [if_pos (by omega), show (50 : Int) + 1 = 51 by decide, show (50 : Int) + 5 = 55 by decide, t1, t5]
    by_cases c1 : w (452 + 24 * k + 0) = p
    · by_cases c2 : w (452 + 24 * k + 4) = 0
      · rw [if_pos c1, if_pos c2, if_pos ⟨c1, c2⟩]
      · rw [if_pos c1, if_neg c2, if_neg (fun z => c2 z.2)]
    · rw [if_neg c1, if_neg (fun z => c1 z.1)]
theorem v83 {d : mD} {w : Row} {p : Int} (hg : GG w) (h : Rel 1 d w) : v_83 1 p d = csum (fun k => if perO w k = p then 1 else 0) (w 10).toNat := by
  obtain ⟨r1, r2⟩ := h.2.2.2.2.2.2.1
  have n9 := hg.1.2.2.2.1
  have r1 : d 58 0 = w 10 := r1
  unfold v_83
  refine cnt0 (L := fun n a k => lp_83_4 1 p n a k d) n9.1 (by omega) (fun n a k hk => ?_) (fun n a k x y => ?_)
  · cases n with
    | zero =>
      show st_83_4 1 p _ a k d = a
      unfold st_83_4
      rw [n57, if_neg (by omega)]
    | succ n =>
      show st_83_4 1 p _ a k d = a
      unfold st_83_4
      rw [n57, if_neg (by omega)]
  · have t2 : d 60 k = w (1916 + 5 * k + 1) := (r2 k x y).2.1
    obtain ⟨-, g2, -⟩ := hg.2.2.2.2.2.1 k x y
    have t1 : d 51 (w (1916 + 5 * k + 1)) = w (452 + 24 * w (1916 + 5 * k + 1) + 0) := (h.2.2.2.2.1.2 _ g2.1 g2.2).1
    show st_83_4 1 p _ a k d = _
    unfold st_83_4
    rw [n57, n49, if_pos (by omega), show (50 : Int) + 1 = 51 by decide, show (58 : Int) + 2 = 60 by decide, t2, t1]
    show (if perO w k = p then _ else _) = _
    by_cases c1 : perO w k = p
    · rw [if_pos c1, if_pos c1]
    · rw [if_neg c1, if_neg c1]
def fin246 (p b a c e : Int) (D : mD) : Int := if b = 0 then D 770 (420 + 2 * p + 1) else if b = 1 then a else if b = 2 then c else if b = 3 then v_245 769 p 0 D else if b = 4 then v_245 769 p 1 D else if b = 5 then v_245 769 p 2 D else if b = 6 then e else if b = 7 then v_217 769 p D else if b = 8 then v_233 769 p D else v_244 769 p 1 D
theorem l246b {p b a c : Int} {D : mD} : ∀ (n : Nat) (e k : Int), 0 ≤ k → k ≤ D 770 10 → D 770 10 - k ≤ (n : Int) → (lp_246_140 769 p b n a c e k D).2 = D ∧ (lp_246_140 769 p b n a c e k D).1 = fin246 p b a c (e + (csum (fun k => if perO (D 770) k = p then 1 else 0) (D 770 10).toNat - csum (fun k => if perO (D 770) k = p then 1 else 0) k.toNat)) D := by
  have last : ∀ (r : Int → Int → Int → Int → mD → Int × mD) (e k : Int), k = D 770 10 → (st_246_140 769 p b r a c e k D).2 = D ∧ (st_246_140 769 p b r a c e k D).1 = fin246 p b a c (e + (csum (fun k => if perO (D 770) k = p then 1 else 0) (D 770 10).toNat - csum (fun k => if perO (D 770) k = p then 1 else 0) k.toNat)) D := fun r e k hk => by
    unfold st_246_140 fin246
    rw [n7691, if_neg (by omega), hk, Int.sub_self, Int.add_zero]
    constructor
    · repeat' apply sndI
      all_goals rfl
    · repeat' apply fstI
      all_goals rfl
  intro n
  induction n with
  | zero =>
    intro e k h0 h1 h2
    exact last _ e k (by omega)
  | succ n ih =>
    intro e k h0 h1 h2
    by_cases q : k < D 770 10
    · have st : lp_246_140 769 p b (n + 1) a c e k D = lp_246_140 769 p b n a c (e + (if perO (D 770) k = p then 1 else 0)) (k + 1) D := by
        show st_246_140 769 p b _ a c e k D = _
        unfold st_246_140
        rw [n7691, if_pos q, show v_215 769 k D = perO (D 770) k from rfl]
        by_cases z : perO (D 770) k = p
        · rw [if_pos z, if_pos z]
        · rw [if_neg z, if_neg z]
      rw [st]
      obtain ⟨i1, i2⟩ := ih (e + (if perO (D 770) k = p then 1 else 0)) (k + 1) (by omega) (by omega) (by omega)
      refine ⟨i1, i2.trans ?_⟩
      rw [csum_s _ h0]
      congr 1
      generalize (if perO (D 770) k = p then (1 : Int) else 0) = z
      omega
    · exact last _ e k (by omega)
theorem l246 {p b : Int} {D : mD} (h10 : 0 ≤ D 770 10 ∧ D 770 10 ≤ 200) : ∀ (n : Nat) (a c k : Int), 0 ≤ k → k ≤ D 770 9 → D 770 9 - k ≤ (n : Int) → (lp_246_50 769 p b n a c k D).2 = D ∧ (lp_246_50 769 p b n a c k D).1 = fin246 p b (a + (csum (fun t => if D 770 (452 + 24 * t + 0) = p then 1 else 0) (D 770 9).toNat - csum (fun t => if D 770 (452 + 24 * t + 0) = p then 1 else 0) k.toNat)) (c + (csum (fun t => if D 770 (452 + 24 * t + 0) = p ∧ D 770 (452 + 24 * t + 4) = 0 then 1 else 0) (D 770 9).toNat - csum (fun t => if D 770 (452 + 24 * t + 0) = p ∧ D 770 (452 + 24 * t + 4) = 0 then 1 else 0) k.toNat)) (csum (fun k => if perO (D 770) k = p then 1 else 0) (D 770 10).toNat) D := by
  have last : ∀ (r : Int → Int → Int → mD → Int × mD) (a c k : Int), k = D 770 9 → (st_246_50 769 p b r a c k D).2 = D ∧ (st_246_50 769 p b r a c k D).1 = fin246 p b (a + (csum (fun t => if D 770 (452 + 24 * t + 0) = p then 1 else 0) (D 770 9).toNat - csum (fun t => if D 770 (452 + 24 * t + 0) = p then 1 else 0) k.toNat)) (c + (csum (fun t => if D 770 (452 + 24 * t + 0) = p ∧ D 770 (452 + 24 * t + 4) = 0 then 1 else 0) (D 770 9).toNat - csum (fun t => if D 770 (452 + 24 * t + 0) = p ∧ D 770 (452 + 24 * t + 4) = 0 then 1 else 0) k.toNat)) (csum (fun k => if perO (D 770) k = p then 1 else 0) (D 770 10).toNat) D := fun r a c k hk => by
    have nk : ¬ k < D 770 9 := by omega
    obtain ⟨i1, i2⟩ := l246b (p := p) (b := b) (a := a) (c := c) (D := D) (200 - 0 : Int).toNat 0 0 (by decide) h10.1 (by omega)
    have st : st_246_50 769 p b r a c k D = lp_246_140 769 p b (200 - 0 : Int).toNat a c 0 0 D := by
      unfold st_246_50
      rw [n7691, if_neg nk]
    rw [st]
    refine ⟨i1, i2.trans ?_⟩
    rw [hk, show csum (fun k => if perO (D 770) k = p then 1 else 0) (0 : Int).toNat = 0 from rfl]
    congr 1 <;> omega
  intro n
  induction n with
  | zero =>
    intro a c k h0 h1 h2
    exact last _ a c k (by omega)
  | succ n ih =>
    intro a c k h0 h1 h2
    by_cases q : k < D 770 9
    · have st : lp_246_50 769 p b (n + 1) a c k D = lp_246_50 769 p b n (a + (if D 770 (452 + 24 * k + 0) = p then 1 else 0)) (c + (if D 770 (452 + 24 * k + 0) = p ∧ D 770 (452 + 24 * k + 4) = 0 then 1 else 0)) (k + 1) D := by
        show st_246_50 769 p b _ a c k D = _
        unfold st_246_50
        rw [n7691, if_pos q]
        by_cases z : D 770 (452 + 24 * k + 0) = p
        · by_cases z4 : D 770 (452 + 24 * k + 4) = 0
          · rw [if_pos z, if_pos z4, if_pos z, if_pos ⟨z, z4⟩]
          · rw [if_pos z, if_neg z4, if_pos z, if_neg (fun y => z4 y.2)]
        · rw [if_neg z, if_neg z, if_neg (fun y => z y.1)]
      rw [st]
      obtain ⟨i1, i2⟩ := ih (a + (if D 770 (452 + 24 * k + 0) = p then 1 else 0)) (c + (if D 770 (452 + 24 * k + 0) = p ∧ D 770 (452 + 24 * k + 4) = 0 then 1 else 0)) (k + 1) (by omega) (by omega) (by omega)
      refine ⟨i1, i2.trans ?_⟩
      rw [csum_s _ h0, csum_s _ h0]
      generalize (if D 770 (452 + 24 * k + 0) = p then (1 : Int) else 0) = z
      generalize (if D 770 (452 + 24 * k + 0) = p ∧ D 770 (452 + 24 * k + 4) = 0 then (1 : Int) else 0) = z2
      congr 1 <;> omega
    · exact last _ a c k (by omega)
/-! ===== counting the bits of a long word ===== -/
theorem digSum {n c e f g : Nat} (hc : c = dig 8 n) (he : e = c + c / 256) (hf : f = e + e / 65536) (hg : g = f + f / 4294967296) : g % 128 = bc8 (n % 256) + bc8 (n / 256 % 256) + bc8 (n / 65536 % 256) + bc8 (n / 16777216 % 256) + bc8 (n / 4294967296 % 256) + bc8 (n / 1099511627776 % 256) + bc8 (n / 281474976710656 % 256) + bc8 (n / 72057594037927936 % 256) := by
  have h : c = bc8 (n % 256) + 256 * bc8 (n / 256 % 256) + 65536 * bc8 (n / 65536 % 256) + 16777216 * bc8 (n / 16777216 % 256) + 4294967296 * bc8 (n / 4294967296 % 256) + 1099511627776 * bc8 (n / 1099511627776 % 256) + 281474976710656 * bc8 (n / 281474976710656 % 256) + 72057594037927936 * bc8 (n / 72057594037927936 % 256) := by
    rw [hc]
    show 256 * (256 * (256 * (256 * (256 * (256 * (256 * (256 * 0 + bc8 (n / 256 / 256 / 256 / 256 / 256 / 256 / 256 % 256)) + bc8 (n / 256 / 256 / 256 / 256 / 256 / 256 % 256)) + bc8 (n / 256 / 256 / 256 / 256 / 256 % 256)) + bc8 (n / 256 / 256 / 256 / 256 % 256)) + bc8 (n / 256 / 256 / 256 % 256)) + bc8 (n / 256 / 256 % 256)) + bc8 (n / 256 % 256)) + bc8 (n % 256) = _
    rw [show n / 256 / 256 = n / 65536 from Nat.div_div_eq_div_mul n 256 256, show n / 65536 / 256 = n / 16777216 from Nat.div_div_eq_div_mul n 65536 256, show n / 16777216 / 256 = n / 4294967296 from Nat.div_div_eq_div_mul n 16777216 256, show n / 4294967296 / 256 = n / 1099511627776 from Nat.div_div_eq_div_mul n 4294967296 256, show n / 1099511627776 / 256 = n / 281474976710656 from Nat.div_div_eq_div_mul n 1099511627776 256, show n / 281474976710656 / 256 = n / 72057594037927936 from Nat.div_div_eq_div_mul n 281474976710656 256]
    omega
  have b0 := bc8_le (n % 256)
  have b1 := bc8_le (n / 256 % 256)
  have b2 := bc8_le (n / 65536 % 256)
  have b3 := bc8_le (n / 16777216 % 256)
  have b4 := bc8_le (n / 4294967296 % 256)
  have b5 := bc8_le (n / 1099511627776 % 256)
  have b6 := bc8_le (n / 281474976710656 % 256)
  have b7 := bc8_le (n / 72057594037927936 % 256)
  generalize bc8 (n % 256) = x0 at *
  generalize bc8 (n / 256 % 256) = x1 at *
  generalize bc8 (n / 65536 % 256) = x2 at *
  generalize bc8 (n / 16777216 % 256) = x3 at *
  generalize bc8 (n / 4294967296 % 256) = x4 at *
  generalize bc8 (n / 1099511627776 % 256) = x5 at *
  generalize bc8 (n / 281474976710656 % 256) = x6 at *
  generalize bc8 (n / 72057594037927936 % 256) = x7 at *
  clear hc
  have q8 : ∀ (l m r : Nat), l < m → (l + m * r) / m = r := fun l m r hl => by
    rw [Nat.add_mul_div_left _ _ (Nat.lt_of_le_of_lt (Nat.zero_le _) hl), Nat.div_eq_of_lt hl, Nat.zero_add]
  have h1 : c / 256 = x1 + 256 * x2 + 65536 * x3 + 16777216 * x4 + 4294967296 * x5 + 1099511627776 * x6 + 281474976710656 * x7 := by
    rw [← q8 x0 256 (x1 + 256 * x2 + 65536 * x3 + 16777216 * x4 + 4294967296 * x5 + 1099511627776 * x6 + 281474976710656 * x7) (Nat.lt_of_le_of_lt b0 (by decide)), h]
    congr 1
    omega
  rw [h1, h] at he
  clear h h1
  have h2 : e / 65536 = (x2 + x3) + 256 * (x3 + x4) + 65536 * (x4 + x5) + 16777216 * (x5 + x6) + 4294967296 * (x6 + x7) + 1099511627776 * x7 := by
    rw [← q8 (x0 + x1 + 256 * (x1 + x2)) 65536 ((x2 + x3) + 256 * (x3 + x4) + 65536 * (x4 + x5) + 16777216 * (x5 + x6) + 4294967296 * (x6 + x7) + 1099511627776 * x7) (by clear he; omega), he]
    congr 1
    omega
  rw [h2, he] at hf
  clear h2 he
  have h3 : f / 4294967296 = (x4 + x5 + x6 + x7) + 256 * (x5 + x6 + x7) + 65536 * (x6 + x7) + 16777216 * x7 := by
    rw [← q8 (x0 + x1 + x2 + x3 + 256 * (x1 + x2 + x3 + x4) + 65536 * (x2 + x3 + x4 + x5) + 16777216 * (x3 + x4 + x5 + x6)) 4294967296 ((x4 + x5 + x6 + x7) + 256 * (x5 + x6 + x7) + 65536 * (x6 + x7) + 16777216 * x7) (by clear hf; omega), hf]
    congr 1
    omega
  rw [h3, hf] at hg
  clear h3 hf
  have h4 : g = (x0 + x1 + x2 + x3 + x4 + x5 + x6 + x7) + 128 * (2 * ((x1 + x2 + x3 + x4 + x5 + x6 + x7) + 256 * (x2 + x3 + x4 + x5 + x6 + x7) + 65536 * (x3 + x4 + x5 + x6 + x7) + 16777216 * (x4 + x5 + x6 + x7) + 4294967296 * (x5 + x6 + x7) + 1099511627776 * (x6 + x7) + 281474976710656 * x7)) := by
    rw [hg]
    omega
  rw [h4, Nat.add_mul_mod_self_left]
  refine Nat.mod_eq_of_lt ?_
  clear h4 hg
  omega
def n64 (x : Int) : Nat := (BitVec.ofInt 64 x).toNat
theorem n64_lt (x : Int) : n64 x < 18446744073709551616 := (BitVec.ofInt 64 x).isLt
theorem n64_of (z : Int64) : n64 z.toInt = z.toBitVec.toNat := by
  unfold n64
  have : BitVec.ofInt 64 z.toInt = z.toBitVec := BitVec.ofInt_toInt (x := z.toBitVec)
  rw [this]
theorem n64_and (x y : Int) : n64 (mland x y) = n64 x &&& n64 y := by
  show n64 (Int64.ofInt x &&& Int64.ofInt y).toInt = _
  rw [n64_of, Int64.toBitVec_and, BitVec.toNat_and]
  rfl
theorem n64_sr (x : Int) (k : Nat) (h : k < 64) : n64 (mlushr x (k : Int)) = n64 x / 2 ^ k := by
  unfold mlushr
  rw [n64_of]
  have e1 : ((Int64.ofInt x).toUInt64 >>> ((Int32.ofInt (k : Int)).toInt64.toUInt64 &&& 63)).toInt64.toBitVec = (Int64.ofInt x).toBitVec >>> k := by
    show ((Int64.ofInt x).toUInt64 >>> ((Int32.ofInt (k : Int)).toInt64.toUInt64 &&& 63)).toBitVec = _
    rw [UInt64.toBitVec_shiftRight]
    show (Int64.ofInt x).toBitVec >>> _ = _
    have e3 : (((Int32.ofInt (k : Int)).toInt64.toUInt64 &&& 63).toBitVec % 64).toNat = k := by
      rw [BitVec.toNat_umod]
      show ((Int32.ofInt (k : Int)).toInt64.toUInt64 &&& 63).toNat % 64 = k
      rw [sh63u k h]
      omega
    show (Int64.ofInt x).toBitVec >>> ((((Int32.ofInt (k : Int)).toInt64.toUInt64 &&& 63).toBitVec % 64).toNat) = _
    rw [e3]
  rw [e1, BitVec.toNat_ushiftRight, Nat.shiftRight_eq_div_pow]
  rfl
theorem n64_add {x y : Int} (h : n64 x + n64 y < 18446744073709551616) : n64 (x + y) = n64 x + n64 y := by
  unfold n64 at *
  rw [BitVec.ofInt_add, BitVec.toNat_add]
  exact Nat.mod_eq_of_lt h
theorem n64_sub {x y : Int} (h : n64 y ≤ n64 x) : n64 (x - y) = n64 x - n64 y := by
  have e := n64_add (x := x - y) (y := y)
  unfold n64 at *
  have h1 : BitVec.ofInt 64 x = BitVec.ofInt 64 (x - y) + BitVec.ofInt 64 y := by
    rw [← BitVec.ofInt_add, Int.sub_add_cancel]
  have h2 : BitVec.ofInt 64 (x - y) = BitVec.ofInt 64 x - BitVec.ofInt 64 y := by
    rw [h1, BitVec.add_sub_cancel]
  rw [h2, BitVec.toNat_sub]
  have := (BitVec.ofInt 64 x).isLt
  omega
theorem n64_127 (z : Int) : miand z 127 = ((n64 z % 128 : Nat) : Int) := by
  have e : miand z 127 = ((Int32.ofInt z).toBitVec &&& 127#32).toInt := rfl
  have h1 : ((Int32.ofInt z).toBitVec &&& 127#32).toNat = n64 z % 128 := by
    rw [BitVec.toNat_and]
    show (BitVec.ofInt 32 z).toNat &&& (2 ^ 7 - 1) = _
    rw [Nat.and_two_pow_sub_one_eq_mod]
    unfold n64
    rw [BitVec.toNat_ofInt, BitVec.toNat_ofInt]
    omega
  have h2 : ((Int32.ofInt z).toBitVec &&& 127#32).toInt = (((Int32.ofInt z).toBitVec &&& 127#32).toNat : Int) := BitVec.toInt_eq_toNat_of_lt (by omega)
  rw [e, h2, h1]
theorem v297n (x : Int) (d : mD) : v_297 x d = ((bc8 (n64 x % 256) + bc8 (n64 x / 256 % 256) + bc8 (n64 x / 65536 % 256) + bc8 (n64 x / 16777216 % 256) + bc8 (n64 x / 4294967296 % 256) + bc8 (n64 x / 1099511627776 % 256) + bc8 (n64 x / 281474976710656 % 256) + bc8 (n64 x / 72057594037927936 % 256) : Nat) : Int) := by
  have s1 : ∀ x, n64 (mlushr x 1) = n64 x / 2 := fun x => n64_sr x 1 (by decide)
  have s2 : ∀ x, n64 (mlushr x 2) = n64 x / 4 := fun x => n64_sr x 2 (by decide)
  have s4 : ∀ x, n64 (mlushr x 4) = n64 x / 16 := fun x => n64_sr x 4 (by decide)
  have s8 : ∀ x, n64 (mlushr x 8) = n64 x / 256 := fun x => n64_sr x 8 (by decide)
  have s16 : ∀ x, n64 (mlushr x 16) = n64 x / 65536 := fun x => n64_sr x 16 (by decide)
  have s32 : ∀ x, n64 (mlushr x 32) = n64 x / 4294967296 := fun x => n64_sr x 32 (by decide)
  have m1 : n64 6148914691236517205 = mk8 85 8 := by decide
  have m2 : n64 3689348814741910323 = mk8 51 8 := by decide
  have m4 : n64 1085102592571150095 = mk8 15 8 := by decide
  have k2 : mk8 51 8 = 3689348814741910323 := by decide
  have k4 : mk8 15 8 = 1085102592571150095 := by decide
  have hn := n64_lt x
  have ev : ∃ a b c e f g : Int, a = x - mland (mlushr x 1) 6148914691236517205 ∧ b = mland a 3689348814741910323 + mland (mlushr a 2) 3689348814741910323 ∧ c = mland (b + mlushr b 4) 1085102592571150095 ∧ e = c + mlushr c 8 ∧ f = e + mlushr e 16 ∧ g = f + mlushr f 32 ∧ v_297 x d = miand g 127 := ⟨_, _, _, _, _, _, rfl, rfl, rfl, rfl, rfl, rfl, rfl⟩
  obtain ⟨a, b, c, e, f, g, ha, hb, hc, he, hf, hg, hv⟩ := ev
  have na : n64 a = pA 8 (n64 x) := by
    have l : n64 x / 2 &&& mk8 85 8 ≤ n64 x / 2 := Nat.and_le_left
    rw [ha, n64_sub, n64_and, s1, m1]
    · rfl
    · rw [n64_and, s1, m1]
      omega
  have l1 : n64 a &&& mk8 51 8 ≤ mk8 51 8 := Nat.and_le_right
  have l2 : n64 a / 4 &&& mk8 51 8 ≤ mk8 51 8 := Nat.and_le_right
  have nb : n64 b = pB 8 (pA 8 (n64 x)) := by
    rw [hb, n64_add, n64_and, n64_and, s2, m2, na]
    · rfl
    · rw [n64_and, n64_and, s2, m2]
      omega
  have lb : n64 b ≤ 7378697629483820646 := by
    rw [nb]
    unfold pB
    rw [← na]
    omega
  have nc : n64 c = dig 8 (n64 x) := by
    rw [hc, n64_and, n64_add, s4, m4, nb, ← (pcDig 8 (n64 x)).2]
    · rfl
    · rw [s4]
      omega
  have lc : n64 c ≤ 1085102592571150095 := by
    rw [hc, n64_and, m4]
    have : n64 (b + mlushr b 4) &&& mk8 15 8 ≤ mk8 15 8 := Nat.and_le_right
    omega
  have ne : n64 e = n64 c + n64 c / 256 := by
    rw [he, n64_add, s8]
    rw [s8]
    omega
  have nf : n64 f = n64 e + n64 e / 65536 := by
    rw [hf, n64_add, s16]
    rw [s16]
    omega
  have ng : n64 g = n64 f + n64 f / 4294967296 := by
    rw [hg, n64_add, s32]
    rw [s32]
    omega
  rw [hv, n64_127, digSum nc ne nf ng]
/-! ===== queries: the mean wait ===== -/
theorem csum_acc {α : Type} {L : Nat → Int → Int → α} {F : Int → α} {f : Int → Int} {N : Int} (hN : 0 ≤ N) (stop : ∀ n a k, k = N → L n a k = F a) (step : ∀ n a k, 0 ≤ k → k < N → L (n + 1) a k = L n (a + f k) (k + 1)) : ∀ (n : Nat) (a k : Int), 0 ≤ k → k ≤ N → N - k ≤ (n : Int) → L n a k = F (a + (csum f N.toNat - csum f k.toNat)) := by
  intro n
  induction n with
  | zero =>
    intro a k h0 h1 h2
    have e : k = N := by omega
    rw [stop _ _ _ e, e, Int.sub_self, Int.add_zero]
  | succ n ih =>
    intro a k h0 h1 h2
    by_cases c : k < N
    · rw [step n a k h0 c, ih _ _ (by omega) (by omega) (by omega), csum_s _ h0]
      congr 1
      omega
    · have e : k = N := by omega
      rw [stop _ _ _ e, e, Int.sub_self, Int.add_zero]
def wtT (w : Row) (t : Int) : Int := if w (452 + 24 * t + 4) = 1 then w (452 + 24 * t + 3) - w (452 + 24 * t + 2) else 0
theorem v106 {d : mD} {w : Row} (hg : GG w) (h : Rel 1 d w) : v_106 50 d = csum (wtT w) (w 9).toNat := by
  obtain ⟨r1, r2⟩ := h.2.2.2.2.1
  have n9 := hg.1.2.2.1
  have r1 : d 50 0 = w 9 := r1
  unfold v_106
  refine cnt0 (L := fun n a k => lp_106_4 50 n a k d) n9.1 (by omega) (fun n a k hk => ?_) (fun n a k x y => ?_)
  · cases n with
    | zero =>
      show st_106_4 50 _ a k d = a
      unfold st_106_4
      rw [if_neg (by omega)]
    | succ n =>
      show st_106_4 50 _ a k d = a
      unfold st_106_4
      rw [if_neg (by omega)]
  · obtain ⟨t1, t2, t3, t4, t5⟩ := r2 k x y
    have t5 : d 55 k = w (452 + 24 * k + 4) := t5
    have t3 : d 53 k = w (452 + 24 * k + 2) := t3
    have t4 : d 54 k = w (452 + 24 * k + 3) := t4
    show st_106_4 50 _ a k d = _
    unfold st_106_4 wtT
    rw [if_pos (by omega), show (50 : Int) + 5 = 55 by decide, show (50 : Int) + 4 = 54 by decide, show (50 : Int) + 3 = 53 by decide, t5, t3, t4]
    by_cases c1 : w (452 + 24 * k + 4) = 1
    · rw [if_pos c1, if_pos c1]
    · rw [if_neg c1, if_neg c1]
theorem l259 {D : mD} : ∀ (n : Nat) (a c k : Int), 0 ≤ k → k ≤ D 770 9 → D 770 9 - k ≤ (n : Int) → (lp_259_11 769 n a c k D).1 = (fun a c => if c = 0 then (0 : Int) else mddiv (mi2d a) (mi2d c)) (a + (csum (wtT (D 770)) (D 770 9).toNat - csum (wtT (D 770)) k.toNat)) (c + (csum (fun t => if D 770 (452 + 24 * t + 4) = 1 then 1 else 0) (D 770 9).toNat - csum (fun t => if D 770 (452 + 24 * t + 4) = 1 then 1 else 0) k.toNat)) := by
  have last : ∀ (r : Int → Int → Int → mD → Int × mD) (a c k : Int), k = D 770 9 → (st_259_11 769 r a c k D).1 = (fun a c => if c = 0 then (0 : Int) else mddiv (mi2d a) (mi2d c)) (a + (csum (wtT (D 770)) (D 770 9).toNat - csum (wtT (D 770)) k.toNat)) (c + (csum (fun t => if D 770 (452 + 24 * t + 4) = 1 then 1 else 0) (D 770 9).toNat - csum (fun t => if D 770 (452 + 24 * t + 4) = 1 then 1 else 0) k.toNat)) := fun r a c k hk => by
    unfold st_259_11
    rw [n7691, if_neg (by omega), hk, Int.sub_self, Int.sub_self, Int.add_zero, Int.add_zero]
    by_cases z : c = 0
    · rw [if_pos z]
      show (0 : Int) = if c = 0 then 0 else _
      rw [if_pos z]
    · rw [if_neg z]
      show mddiv (mi2d a) (mi2d c) = if c = 0 then 0 else _
      rw [if_neg z]
  intro n
  induction n with
  | zero =>
    intro a c k h0 h1 h2
    exact last _ a c k (by omega)
  | succ n ih =>
    intro a c k h0 h1 h2
    by_cases q : k < D 770 9
    · have st : lp_259_11 769 (n + 1) a c k D = lp_259_11 769 n (a + wtT (D 770) k) (c + (if D 770 (452 + 24 * k + 4) = 1 then 1 else 0)) (k + 1) D := by
        show st_259_11 769 _ a c k D = _
        unfold st_259_11 wtT
        rw [n7691, if_pos q]
        by_cases z : D 770 (452 + 24 * k + 4) = 1
        · rw [if_pos z, if_pos z, if_pos z]
        · rw [if_neg z, if_neg z, if_neg z, Int.add_zero, Int.add_zero]
      rw [st, ih _ _ _ (by omega) (by omega) (by omega), csum_s _ h0, csum_s _ h0]
      generalize (if D 770 (452 + 24 * k + 4) = 1 then (1 : Int) else 0) = z
      generalize wtT (D 770) k = y
      congr 1 <;> omega
    · exact last _ a c k (by omega)
theorem eqMean {d : mD} (hk : OKR 1 d (d 770)) : v_138 0 d = v_259 769 d := by
  obtain ⟨hg, -, -, -, hr⟩ := id hk
  have n9 := hg.1.2.2.1
  have h70 : mset d 769 0 0 770 = d 770 := o769 (by decide)
  have l := l259 (D := mset d 769 0 0) (61 - 0 : Int).toNat 0 0 0 (by decide) (by rw [h70]; exact n9.1) (by rw [h70]; omega)
  have ev : v_259 769 d = (lp_259_11 769 (61 - 0 : Int).toNat 0 0 0 (mset d 769 0 0)).1 := rfl
  rw [ev]
  generalize (lp_259_11 769 (61 - 0 : Int).toNat 0 0 0 (mset d 769 0 0)).1 = P at *
  rw [h70, show csum (wtT (d 770)) (0 : Int).toNat = 0 from rfl, show csum (fun t => if d 770 (452 + 24 * t + 4) = 1 then 1 else 0) (0 : Int).toNat = 0 from rfl, Int.sub_zero, Int.sub_zero, Int.zero_add, Int.zero_add] at l
  unfold v_138
  rw [n01, n49, v101 (q := 1) hg hr, v106 hg hr, l]
/-! ===== queries: the hours that were lost ===== -/
def hb (d : mD) (h : Int) : Prop := lb (d 575 (h / 64)) (h % 64).toNat = true
def Lw (w : Row) (p h : Int) : Prop := ∃ t, 0 ≤ t ∧ t < w 9 ∧ w (452 + 24 * t + 0) = p ∧ w (452 + 24 * t + 4) = 1 ∧ w (452 + 24 * t + 2) + w 2 ≤ h ∧ h < w (452 + 24 * t + 3)
theorem hb7 {d : mD} {h j : Int} (h0 : 0 ≤ h) (h1 : h ≤ 999) (j0 : 0 ≤ j) (j1 : j ≤ 1023) : hb (g_7 574 h d) j ↔ (hb d j ∨ j = h) := by
  have e6 : mishr h 6 = h / 64 := by rcases mishr6_r h with a | a | a <;> omega
  have eg : g_7 574 h d = mset d 575 (h / 64) (mlor (d 575 (h / 64)) (mlshl 1 (((h % 64).toNat : Nat) : Int))) := by
    unfold g_7
    rw [if_neg (by omega), if_neg (by omega), e6, h63 h0 (by omega), show (((h % 64).toNat : Nat) : Int) = h % 64 by omega, show (574 : Int) + 1 = 575 by decide]
  unfold hb
  rw [eg]
  by_cases hw : j / 64 = h / 64
  · rw [hw, ms_e rfl rfl, lset _ _ _ (by omega) (by omega)]
    by_cases hj : j = h
    · subst hj
      rw [if_pos rfl]
      exact ⟨fun _ => Or.inr rfl, fun _ => rfl⟩
    · rw [if_neg (show ¬ (j % 64).toNat = (h % 64).toNat by omega)]
      exact ⟨Or.inl, fun z => z.resolve_right hj⟩
  · rw [ms_i hw]
    exact ⟨Or.inl, fun z => z.resolve_right (fun e => hw (by rw [e]))⟩
theorem in72 {p t z : Int} {q : Int → mD → mD} (hz : z ≤ 999) : ∀ (n : Nat) (x : Int) (d : mD), 0 ≤ x → z - x ≤ (n : Int) → ∃ D, lp_72_72 1 p 574 q n t z x d = q (t + 1) D ∧ (∀ b, ¬ b = 575 → D b = d b) ∧ ∀ j, 0 ≤ j → j ≤ 1023 → (hb D j ↔ (hb d j ∨ (x ≤ j ∧ j < z))) := by
  have last : ∀ (r : Int → Int → Int → mD → mD) (x : Int) (d : mD), ¬ x < z → ∃ D, st_72_72 1 p 574 q r t z x d = q (t + 1) D ∧ (∀ b, ¬ b = 575 → D b = d b) ∧ ∀ j, 0 ≤ j → j ≤ 1023 → (hb D j ↔ (hb d j ∨ (x ≤ j ∧ j < z))) := fun r x d hx => by
    refine ⟨d, ?_, fun _ _ => rfl, fun j a b => ⟨Or.inl, fun y => ?_⟩⟩
    · unfold st_72_72
      rw [if_neg hx]
    · rcases y with y | y
      · exact y
      · omega
  intro n
  induction n with
  | zero =>
    intro x d h0 h1
    exact last _ x d (by omega)
  | succ n ih =>
    intro x d h0 h1
    by_cases c : x < z
    · obtain ⟨D, q1, q2, q3⟩ := ih (x + 1) (g_7 574 x d) (by omega) (by omega)
      refine ⟨D, ?_, fun b hb => (q2 b hb).trans (g7_ne hb), fun j a b => (q3 j a b).trans ?_⟩
      · show st_72_72 1 p 574 q _ t z x d = _
        unfold st_72_72
        rw [if_pos c]
        exact q1
      · rw [hb7 h0 (by omega) a b]
        constructor
        · rintro ((y | y) | y)
          · exact Or.inl y
          · exact Or.inr (by omega)
          · exact Or.inr (by omega)
        · rintro (y | y)
          · exact Or.inl (Or.inl y)
          · by_cases e : j = x
            · exact Or.inl (Or.inr e)
            · exact Or.inr (by omega)
    · exact last _ x d c
theorem lp72 {d : mD} {w : Row} {p : Int} (hg : GG w) (ht : w 0 ≤ 999) (hr : Rel 1 d w) : ∀ (n : Nat) (k : Int) (D : mD), (∀ b, ¬ b = 575 → D b = d b) → 0 ≤ k → k ≤ w 9 → w 9 - k ≤ (n : Int) → (∀ b, ¬ b = 575 → lp_72_6 1 p 574 n k D b = d b) ∧ ∀ j, 0 ≤ j → j ≤ 1023 → (hb (lp_72_6 1 p 574 n k D) j ↔ (hb D j ∨ ∃ t, k ≤ t ∧ t < w 9 ∧ w (452 + 24 * t + 0) = p ∧ w (452 + 24 * t + 4) = 1 ∧ w (452 + 24 * t + 2) + w 2 ≤ j ∧ j < w (452 + 24 * t + 3))) := by
  have s2 : d 2 0 = w 2 := hr.1.2.2 0 (by decide) (by decide)
  obtain ⟨r1, r2⟩ := hr.2.2.2.2.1
  have r1 : d 50 0 = w 9 := r1
  have n2 := hg.1.2.2.2.2.2.2.2.1
  have last : ∀ (r : Int → mD → mD) (k : Int) (D : mD), (∀ b, ¬ b = 575 → D b = d b) → k = w 9 → (∀ b, ¬ b = 575 → st_72_6 1 p 574 r k D b = d b) ∧ ∀ j, 0 ≤ j → j ≤ 1023 → (hb (st_72_6 1 p 574 r k D) j ↔ (hb D j ∨ ∃ t, k ≤ t ∧ t < w 9 ∧ w (452 + 24 * t + 0) = p ∧ w (452 + 24 * t + 4) = 1 ∧ w (452 + 24 * t + 2) + w 2 ≤ j ∧ j < w (452 + 24 * t + 3))) := fun r k D hD hk => by
    have e : st_72_6 1 p 574 r k D = D := by
      unfold st_72_6
      rw [n49, hD 50 (by decide), if_neg (by omega)]
    rw [e]
    refine ⟨hD, fun j _ _ => ⟨Or.inl, fun y => ?_⟩⟩
    rcases y with y | ⟨t, a, b, -⟩
    · exact y
    · omega
  intro n
  induction n with
  | zero =>
    intro k D hD h0 h1 h2
    exact last _ k D hD (by omega)
  | succ n ih =>
    intro k D hD h0 h1 h2
    by_cases c : k < w 9
    · obtain ⟨t1, t2, t3, t4, t5⟩ := r2 k h0 c
      have t1 : d 51 k = w (452 + 24 * k + 0) := t1
      have t3 : d 53 k = w (452 + 24 * k + 2) := t3
      have t4 : d 54 k = w (452 + 24 * k + 3) := t4
      have t5 : d 55 k = w (452 + 24 * k + 4) := t5
      obtain ⟨g1, g2, g3, g4, g5, g6⟩ := hg.2.2.2.1 k h0 c
      have skip : lp_72_6 1 p 574 (n + 1) k D = lp_72_6 1 p 574 n (k + 1) D → ¬ (w (452 + 24 * k + 0) = p ∧ w (452 + 24 * k + 4) = 1) → (∀ b, ¬ b = 575 → lp_72_6 1 p 574 (n + 1) k D b = d b) ∧ ∀ j, 0 ≤ j → j ≤ 1023 → (hb (lp_72_6 1 p 574 (n + 1) k D) j ↔ (hb D j ∨ ∃ t, k ≤ t ∧ t < w 9 ∧ w (452 + 24 * t + 0) = p ∧ w (452 + 24 * t + 4) = 1 ∧ w (452 + 24 * t + 2) + w 2 ≤ j ∧ j < w (452 + 24 * t + 3))) := fun e no => by
        rw [e]
        obtain ⟨i1, i2⟩ := ih (k + 1) D hD (by omega) (by omega) (by omega)
        refine ⟨i1, fun j a b => (i2 j a b).trans ⟨fun y => ?_, fun y => ?_⟩⟩
        · rcases y with y | ⟨t, y1, y2⟩
          · exact Or.inl y
          · exact Or.inr ⟨t, by omega, y2⟩
        · rcases y with y | ⟨t, y1, y2, y3, y4, y5⟩
          · exact Or.inl y
          · by_cases z : t = k
            · rw [z] at y3 y4
              exact absurd ⟨y3, y4⟩ no
            · exact Or.inr ⟨t, by omega, y2, y3, y4, y5⟩
      by_cases c1 : w (452 + 24 * k + 0) = p
      · by_cases c2 : w (452 + 24 * k + 4) = 1
        · obtain ⟨G5, G6⟩ := g6 (by omega)
          obtain ⟨D1, q1, q2, q3⟩ := in72 (p := p) (t := k) (z := w (452 + 24 * k + 3)) (q := lp_72_6 1 p 574 n) (by omega) (1300 - (w (452 + 24 * k + 2) + w 2) : Int).toNat (w (452 + 24 * k + 2) + w 2) D (by omega) (by omega)
          have st : lp_72_6 1 p 574 (n + 1) k D = lp_72_6 1 p 574 n (k + 1) D1 := by
            rw [← q1]
            show st_72_6 1 p 574 _ k D = _
            unfold st_72_6
            rw [n49, show (50 : Int) + 1 = 51 by decide, show (50 : Int) + 5 = 55 by decide, show (50 : Int) + 3 = 53 by decide, show (50 : Int) + 4 = 54 by decide, show (1 : Int) + 1 = 2 by decide, hD 50 (by decide), hD 51 (by decide), hD 55 (by decide), hD 53 (by decide), hD 54 (by decide), hD 2 (by decide), if_pos (by omega), t1, if_pos c1, t5, if_pos c2, t3, t4, s2]
          rw [st]
          obtain ⟨i1, i2⟩ := ih (k + 1) D1 (fun b hb => (q2 b hb).trans (hD b hb)) (by omega) (by omega) (by omega)
          refine ⟨i1, fun j a b => (i2 j a b).trans ?_⟩
          rw [q3 j a b]
          constructor
          · rintro ((y | y) | ⟨t, y1, y2⟩)
            · exact Or.inl y
            · exact Or.inr ⟨k, by omega, c, c1, c2, y⟩
            · exact Or.inr ⟨t, by omega, y2⟩
          · rintro (y | ⟨t, y1, y2, y3, y4, y5⟩)
            · exact Or.inl (Or.inl y)
            · by_cases z : t = k
              · rw [z] at y5
                exact Or.inl (Or.inr y5)
              · exact Or.inr ⟨t, by omega, y2, y3, y4, y5⟩
        · refine skip ?_ (fun y => c2 y.2)
          show st_72_6 1 p 574 _ k D = _
          unfold st_72_6
          rw [n49, show (50 : Int) + 1 = 51 by decide, show (50 : Int) + 5 = 55 by decide, hD 50 (by decide), hD 51 (by decide), hD 55 (by decide), if_pos (by omega), t1, if_pos c1, t5, if_neg c2]
      · refine skip ?_ (fun y => c1 y.1)
        show st_72_6 1 p 574 _ k D = _
        unfold st_72_6
        rw [n49, show (50 : Int) + 1 = 51 by decide, hD 50 (by decide), hD 51 (by decide), if_pos (by omega), t1, if_neg c1]
    · exact last _ k D hD (by omega)
theorem lost72 {d : mD} {w : Row} {p : Int} (hg : GG w) (ht : w 0 ≤ 999) (hr : Rel 1 d w) : (∀ b, ¬ b = 575 → g_72 1 p 574 d b = d b) ∧ ∀ j, 0 ≤ j → j ≤ 1023 → (hb (g_72 1 p 574 d) j ↔ Lw w p j) := by
  have n9 := hg.1.2.2.1
  have z : ∀ b, ¬ b = 575 → g_8 574 d b = d b := fun b hb => by
    unfold g_8 g_300
    exact mfl_ne hb
  have z0 : ∀ j, 0 ≤ j → j ≤ 1023 → ¬ hb (g_8 574 d) j := fun j a b => by
    unfold hb g_8 g_300 mfl
    rw [show (574 : Int) + 1 = 575 by decide, if_pos ⟨rfl, by omega, by omega⟩, lb_zero]
    decide
  obtain ⟨q1, q2⟩ := lp72 (p := p) hg ht hr (60 - 0 : Int).toNat 0 (g_8 574 d) z (by decide) n9.1 (by omega)
  refine ⟨q1, fun j a b => (q2 j a b).trans ⟨fun y => ?_, fun y => Or.inr y⟩⟩
  rcases y with y | y
  · exact absurd y (z0 j a b)
  · exact y
theorem lpV243 {p h : Int} {w : Row} (hg : GG w) : ∀ (n : Nat) (k : Int), 0 ≤ k → w 9 - k ≤ (n : Int) → (LP_243_2 p h n k w = 0 ↔ ¬ ∃ t, k ≤ t ∧ t < w 9 ∧ w (452 + 24 * t + 0) = p ∧ w (452 + 24 * t + 4) = 1 ∧ w (452 + 24 * t + 2) + w 2 ≤ h ∧ h < w (452 + 24 * t + 3)) := by
  have last : ∀ (r : Int → Row → Int) (k : Int), ¬ k < w 9 → (ST_243_2 p h r k w = 0 ↔ ¬ ∃ t, k ≤ t ∧ t < w 9 ∧ w (452 + 24 * t + 0) = p ∧ w (452 + 24 * t + 4) = 1 ∧ w (452 + 24 * t + 2) + w 2 ≤ h ∧ h < w (452 + 24 * t + 3)) := fun r k hk => by
    unfold ST_243_2
    rw [if_neg hk]
    exact ⟨fun _ ⟨t, a, b, _⟩ => by omega, fun _ => rfl⟩
  intro n
  induction n with
  | zero => exact fun k h0 h1 => last _ k (by omega)
  | succ n ih =>
    intro k h0 h1
    by_cases c : k < w 9
    · have skip : LP_243_2 p h (n + 1) k w = LP_243_2 p h n (k + 1) w → ¬ (w (452 + 24 * k + 0) = p ∧ w (452 + 24 * k + 4) = 1 ∧ w (452 + 24 * k + 2) + w 2 ≤ h ∧ h < w (452 + 24 * k + 3)) → (LP_243_2 p h (n + 1) k w = 0 ↔ ¬ ∃ t, k ≤ t ∧ t < w 9 ∧ w (452 + 24 * t + 0) = p ∧ w (452 + 24 * t + 4) = 1 ∧ w (452 + 24 * t + 2) + w 2 ≤ h ∧ h < w (452 + 24 * t + 3)) := fun e no => by
        rw [e]
        refine (ih (k + 1) (by omega) (by omega)).trans ⟨fun y ⟨t, y1, y2⟩ => ?_, fun y ⟨t, y1, y2⟩ => y ⟨t, by omega, y2⟩⟩
        by_cases z : t = k
        · rw [z] at y2
          exact no y2.2
        · exact y ⟨t, by omega, y2⟩
      obtain ⟨g1, g2, g3, g4, g5, g6⟩ := hg.2.2.2.1 k h0 c
      by_cases c1 : w (452 + 24 * k + 0) = p
      · by_cases c2 : w (452 + 24 * k + 4) = 1
        · obtain ⟨G5, G6⟩ := g6 (by omega)
          have e214 : V_214 k h w = if w (452 + 24 * k + 2) + w 2 ≤ h ∧ h < w (452 + 24 * k + 3) then 1 else 0 := by
            unfold V_214 V_212
            rw [if_neg (show ¬ w (452 + 24 * k + 3) = -1 by omega)]
            by_cases z1 : h < w (452 + 24 * k + 2) + w 2
            · rw [if_pos z1, if_neg (fun y => by omega)]
            · rw [if_neg z1]
              by_cases z2 : h < w (452 + 24 * k + 3)
              · rw [if_pos z2, if_pos ⟨by omega, z2⟩]
              · rw [if_neg z2, if_neg (fun y => z2 y.2)]
          by_cases c3 : w (452 + 24 * k + 2) + w 2 ≤ h ∧ h < w (452 + 24 * k + 3)
          · have e : LP_243_2 p h (n + 1) k w = 1 := by
              show ST_243_2 p h _ k w = 1
              unfold ST_243_2
              rw [if_pos c, if_pos c1, if_pos c2, e214, if_pos c3, if_neg (by decide)]
            rw [e]
            exact ⟨fun z => absurd z (by decide), fun z => absurd ⟨k, by omega, c, c1, c2, c3⟩ z⟩
          · refine skip ?_ (fun y => c3 y.2.2)
            show ST_243_2 p h _ k w = _
            unfold ST_243_2
            rw [if_pos c, if_pos c1, if_pos c2, e214, if_neg c3, if_pos rfl]
        · refine skip ?_ (fun y => c2 y.2.1)
          show ST_243_2 p h _ k w = _
          unfold ST_243_2
          rw [if_pos c, if_pos c1, if_neg c2]
      · refine skip ?_ (fun y => c1 y.1)
        show ST_243_2 p h _ k w = _
        unfold ST_243_2
        rw [if_pos c, if_neg c1]
    · exact last _ k c
theorem v243 {p h : Int} {w : Row} (hg : GG w) : V_243 p h w = 0 ↔ ¬ Lw w p h := lpV243 hg (61 - 0 : Int).toNat 0 (by decide) (by have := hg.1.2.2.1; omega)
def fL (p q : Int) (w : Row) (h : Int) : Int := if V_243 p h w = 0 then 0 else if q = 0 then 1 else if V_216 p h w = 0 then 1 else 0
theorem v244 {p q : Int} {w : Row} (hg : GG w) : V_244 p q w = csum (fL p q w) (w 0).toNat := by
  have n0 := hg.1.2.2.2.2.2.1
  unfold V_244
  refine cnt0 (L := fun n a k => LP_244_5 p q n a k w) n0.1 (by omega) (fun n a k hk => ?_) (fun n a k x y => ?_)
  · cases n with
    | zero =>
      show ST_244_5 p q _ a k w = a
      unfold ST_244_5
      rw [if_neg (by omega)]
    | succ n =>
      show ST_244_5 p q _ a k w = a
      unfold ST_244_5
      rw [if_neg (by omega)]
  · show ST_244_5 p q _ a k w = _
    unfold ST_244_5 fL
    rw [if_pos y]
    by_cases c1 : V_243 p k w = 0
    · rw [if_pos c1, if_pos c1]
    · rw [if_neg c1, if_neg c1]
      by_cases c2 : q = 0
      · rw [if_pos c2, if_pos c2]
      · rw [if_neg c2, if_neg c2]
        by_cases c3 : V_216 p k w = 0
        · rw [if_pos c3, if_pos c3]
        · rw [if_neg c3, if_neg c3]
-- sums
theorem csum_ad (f : Int → Int) (a : Nat) : ∀ b : Nat, csum f (a + b) = csum f a + csum (fun i => f ((a : Int) + i)) b
  | 0 => by show csum f a = csum f a + 0; omega
  | b + 1 => by
    show csum f (a + b) + f ((a + b : Nat) : Int) = csum f a + (csum (fun i => f ((a : Int) + i)) b + f ((a : Int) + (b : Int)))
    rw [csum_ad f a b, show ((a + b : Nat) : Int) = (a : Int) + (b : Int) by omega]
    omega
theorem csum_blk (f : Int → Int) (m : Nat) : ∀ n : Nat, csum (fun j => csum (fun i => f ((m : Int) * j + i)) m) n = csum f (m * n)
  | 0 => rfl
  | n + 1 => by
    show csum (fun j => csum (fun i => f ((m : Int) * j + i)) m) n + csum (fun i => f ((m : Int) * (n : Int) + i)) m = csum f (m * n + m)
    rw [csum_blk f m n, csum_ad f (m * n) m]
    congr 2
theorem csum_cut {f : Int → Int} {a n : Nat} (h : a ≤ n) (hz : ∀ i : Int, (a : Int) ≤ i → i < (n : Int) → f i = 0) : csum f n = csum f a := by
  obtain ⟨b, rfl⟩ := Nat.exists_eq_add_of_le h
  rw [csum_ad, csum_zero (f := fun i => f ((a : Int) + i)) (n := b) (fun i x y => hz _ (by omega) (by omega)), Int.add_zero]
theorem bcs (M : Nat) : bc8 (M % 256) = M % 2 + M / 2 % 2 + M / 4 % 2 + M / 8 % 2 + M / 16 % 2 + M / 32 % 2 + M / 64 % 2 + M / 128 % 2 := by
  have l : ∀ k m : Nat, k * m = 128 → M % 256 / k % 2 = M / k % 2 := fun k m hk => by
    have : 256 = k * (m * 2) := by rw [← Nat.mul_assoc, hk]
    rw [this, Nat.mod_mul_right_div_self, Nat.mod_mul_left_mod]
  unfold bc8
  rw [l 2 64 rfl, l 4 32 rfl, l 8 16 rfl, l 16 8 rfl, l 32 4 rfl, l 64 2 rfl, l 128 1 rfl, show M % 256 % 2 = M % 2 by omega]
def bitN (N : Nat) (i : Int) : Int := ((N / 2 ^ i.toNat % 2 : Nat) : Int)
theorem bit8 (N k : Nat) : csum (fun i => bitN N (((8 * k : Nat) : Int) + i)) 8 = ((bc8 (N / 2 ^ (8 * k) % 256) : Nat) : Int) := by
  have e : ∀ i : Nat, bitN N (((8 * k : Nat) : Int) + ((i : Nat) : Int)) = ((N / 2 ^ (8 * k) / 2 ^ i % 2 : Nat) : Int) := fun i => by
    unfold bitN
    rw [show (((8 * k : Nat) : Int) + ((i : Nat) : Int)).toNat = 8 * k + i by omega, Nat.pow_add, Nat.div_div_eq_div_mul]
  have s : csum (fun i => bitN N (((8 * k : Nat) : Int) + i)) 8 = 0 + bitN N (((8 * k : Nat) : Int) + ((0 : Nat) : Int)) + bitN N (((8 * k : Nat) : Int) + ((1 : Nat) : Int)) + bitN N (((8 * k : Nat) : Int) + ((2 : Nat) : Int)) + bitN N (((8 * k : Nat) : Int) + ((3 : Nat) : Int)) + bitN N (((8 * k : Nat) : Int) + ((4 : Nat) : Int)) + bitN N (((8 * k : Nat) : Int) + ((5 : Nat) : Int)) + bitN N (((8 * k : Nat) : Int) + ((6 : Nat) : Int)) + bitN N (((8 * k : Nat) : Int) + ((7 : Nat) : Int)) := rfl
  rw [s, e 0, e 1, e 2, e 3, e 4, e 5, e 6, e 7, bcs]
  generalize N / 2 ^ (8 * k) = M
  rw [show (2 : Nat) ^ 0 = 1 from rfl, show (2 : Nat) ^ 1 = 2 from rfl, show (2 : Nat) ^ 2 = 4 from rfl, show (2 : Nat) ^ 3 = 8 from rfl, show (2 : Nat) ^ 4 = 16 from rfl, show (2 : Nat) ^ 5 = 32 from rfl, show (2 : Nat) ^ 6 = 64 from rfl, show (2 : Nat) ^ 7 = 128 from rfl, Nat.div_one]
  simp only [Int.natCast_add, Int.zero_add]
theorem bit64 (N : Nat) : csum (bitN N) 64 = ((bc8 (N % 256) + bc8 (N / 256 % 256) + bc8 (N / 65536 % 256) + bc8 (N / 16777216 % 256) + bc8 (N / 4294967296 % 256) + bc8 (N / 1099511627776 % 256) + bc8 (N / 281474976710656 % 256) + bc8 (N / 72057594037927936 % 256) : Nat) : Int) := by
  have st : ∀ k : Nat, csum (bitN N) (8 * k + 8) = csum (bitN N) (8 * k) + ((bc8 (N / 2 ^ (8 * k) % 256) : Nat) : Int) := fun k => by rw [csum_ad, bit8]
  rw [show (64 : Nat) = 8 * 7 + 8 from rfl, st 7, show 8 * 7 = 8 * 6 + 8 from rfl, st 6, show 8 * 6 = 8 * 5 + 8 from rfl, st 5, show 8 * 5 = 8 * 4 + 8 from rfl, st 4, show 8 * 4 = 8 * 3 + 8 from rfl, st 3, show 8 * 3 = 8 * 2 + 8 from rfl, st 2, show 8 * 2 = 8 * 1 + 8 from rfl, st 1, show 8 * 1 = 8 * 0 + 8 from rfl, st 0]
  show 0 + ((bc8 (N / 1 % 256) : Nat) : Int) + _ + _ + _ + _ + _ + _ + _ = _
  rw [Nat.div_one]
  simp only [Int.natCast_add, Int.zero_add]
theorem lbN (W : Int) (i : Int) : (if lb W i.toNat = true then (1 : Int) else 0) = bitN (n64 W) i := by
  have e : lb W i.toNat = (n64 W).testBit i.toNat := rfl
  unfold bitN
  rw [e, Nat.testBit_eq_decide_div_mod_eq]
  by_cases c : n64 W / 2 ^ i.toNat % 2 = 1
  · rw [if_pos (decide_eq_true c), c]
    rfl
  · rw [if_neg (by rw [decide_eq_false c]; decide)]
    have : n64 W / 2 ^ i.toNat % 2 = 0 := by omega
    rw [this]
    rfl
theorem v297 (x : Int) (d : mD) : v_297 x d = csum (fun i => if lb x i.toNat = true then 1 else 0) 64 := by
  rw [v297n, ← bit64]
  exact congrArg (fun f => csum f 64) (funext (fun i => (lbN x i).symm))
-- the class's two counts
theorem v9s {d : mD} : v_9 574 d = csum (fun h => if lb (d 575 (h / 64)) (h % 64).toNat = true then 1 else 0) 1024 := by
  have e : v_9 574 d = csum (fun j => v_297 (d 575 j) d) 16 := by
    unfold v_9
    refine cnt0 (N := 16) (L := fun n a k => lp_9_4 574 n a k d) (by decide) (by decide) (fun n a k hk => ?_) (fun n a k x y => ?_)
    · cases n with
      | zero =>
        show st_9_4 574 _ a k d = a
        unfold st_9_4
        rw [if_neg (by omega)]
      | succ n =>
        show st_9_4 574 _ a k d = a
        unfold st_9_4
        rw [if_neg (by omega)]
    · show st_9_4 574 _ a k d = _
      unfold st_9_4
      rw [if_pos y, show (574 : Int) + 1 = 575 by decide]
  rw [e, ← csum_blk (fun h => if lb (d 575 (h / 64)) (h % 64).toNat = true then 1 else 0) 64 16]
  refine csum_congr (fun j x y => ?_)
  rw [v297]
  refine csum_congr (fun i u z => ?_)
  rw [show (((64 : Nat) : Int) * j + i) / 64 = j by omega, show (((64 : Nat) : Int) * j + i) % 64 = i by omega]
theorem lbAN {a b : Int} {i : Nat} (h : i < 64) : lb (mland a (mlxor b (-1))) i = (lb a i && !lb b i) := by
  unfold mland mlxor mJ lb
  rw [m_backL, m_backL, Int64.toBitVec_and, Int64.toBitVec_xor, BitVec.getLsbD_and, BitVec.getLsbD_xor]
  have : (Int64.ofInt (-1)).toBitVec.getLsbD i = true := by
    show (BitVec.ofInt 64 (-1)).getLsbD i = true
    have e : BitVec.ofInt 64 (-1) = BitVec.allOnes 64 := by decide
    rw [e, BitVec.getLsbD_allOnes]
    exact decide_eq_true h
  rw [this]
  cases (Int64.ofInt b).toBitVec.getLsbD i <;> rfl
theorem v10s {d : mD} {y : Int} : v_10 574 y d = csum (fun h => if lb (d 575 (h / 64)) (h % 64).toNat = true ∧ ¬ lb (d (y + 1) (h / 64)) (h % 64).toNat = true then 1 else 0) 1024 := by
  have e : v_10 574 y d = csum (fun j => v_297 (mland (d 575 j) (mlxor (d (y + 1) j) (-1))) d) 16 := by
    unfold v_10
    refine cnt0 (N := 16) (L := fun n a k => lp_10_4 574 y n a k d) (by decide) (by decide) (fun n a k hk => ?_) (fun n a k x y => ?_)
    · cases n with
      | zero =>
        show st_10_4 574 y _ a k d = a
        unfold st_10_4
        rw [if_neg (by omega)]
      | succ n =>
        show st_10_4 574 y _ a k d = a
        unfold st_10_4
        rw [if_neg (by omega)]
    · rename_i y1
      show st_10_4 574 y1 _ a k d = _
      unfold st_10_4
      rw [if_pos y, show (574 : Int) + 1 = 575 by decide]
  rw [e, ← csum_blk (fun h => if lb (d 575 (h / 64)) (h % 64).toNat = true ∧ ¬ lb (d (y + 1) (h / 64)) (h % 64).toNat = true then 1 else 0) 64 16]
  refine csum_congr (fun j x y => ?_)
  rw [v297]
  refine csum_congr (fun i u z => ?_)
  rw [show (((64 : Nat) : Int) * j + i) / 64 = j by omega, show (((64 : Nat) : Int) * j + i) % 64 = i by omega, lbAN (by omega)]
  rename_i y1
  cases lb (d 575 j) i.toNat <;> cases lb (d (y1 + 1) j) i.toNat <;> rfl
theorem lostAll {d : mD} {p : Int} (hk : OKR 1 d (d 770)) : v_9 574 (g_72 1 p 574 d) = V_244 p 0 (d 770) := by
  obtain ⟨hg, -, -, ht, hr⟩ := hk
  obtain ⟨q1, q2⟩ := lost72 (p := p) hg ht hr
  have n0 := hg.1.2.2.2.2.2.1
  rw [v9s, v244 hg, csum_cut (a := (d 770 0).toNat) (by omega) (fun i x y => ?_)]
  · refine csum_congr (fun i x y => ?_)
    have h := q2 i x (by omega)
    unfold hb at h
    unfold fL
    by_cases c : V_243 p i (d 770) = 0
    · rw [if_pos c, if_neg (fun z => (v243 hg).mp c (h.mp z))]
    · rw [if_neg c, if_pos rfl, if_pos (h.mpr (Classical.not_not.mp (fun z => c ((v243 hg).mpr z))))]
  · have h := q2 i (by omega) (by omega)
    unfold hb at h
    rw [if_neg (fun z => ?_)]
    obtain ⟨t, a, b, c1, c2, c3, c4⟩ := h.mp z
    have := (hg.2.2.2.1 t a b).2.2.2.2.2 (by omega)
    omega
theorem lostUn {d : mD} {p : Int} (hk : OKR 1 d (d 770)) (hp : 0 ≤ p ∧ p < d 770 8) : v_10 574 (18 + 2 * p) (g_72 1 p 574 d) = V_244 p 1 (d 770) := by
  obtain ⟨hg, -, -, ht, hr⟩ := hk
  have n8 := hg.1.2.1
  obtain ⟨q1, q2⟩ := lost72 (p := p) hg ht hr
  have n0 := hg.1.2.2.2.2.2.1
  rw [v10s, v244 hg, q1 (18 + 2 * p + 1) (by omega), csum_cut (a := (d 770 0).toNat) (by omega) (fun i x y => ?_)]
  · refine csum_congr (fun i x y => ?_)
    have h := q2 i x (by omega)
    have hH := hr.2.2.2.2.2.2.2.2.2 p hp.1 hp.2 i x (by omega)
    rw [show (1 : Int) + 18 + 2 * p = 18 + 2 * p + 1 by omega] at hH
    obtain ⟨f1, f2⟩ := v216 (p := p) (h := i) hg.1.2.2.2.1
    unfold hb at h
    unfold fL
    by_cases c : V_243 p i (d 770) = 0
    · rw [if_pos c, if_neg (fun z => (v243 hg).mp c (h.mp z.1))]
    · have l := h.mpr (Classical.not_not.mp (fun z => c ((v243 hg).mpr z)))
      rw [if_neg c, if_neg (show ¬ (1 : Int) = 0 by decide)]
      by_cases c2 : V_216 p i (d 770) = 0
      · rw [if_pos c2, if_pos ⟨l, fun z => f2.mp c2 (hH.mp z)⟩]
      · rw [if_neg c2, if_neg (fun z => z.2 (hH.mpr (Classical.not_not.mp (fun y => c2 (f2.mpr y)))))]
  · have h := q2 i (by omega) (by omega)
    unfold hb at h
    rw [if_neg (fun z => ?_)]
    obtain ⟨t, a, b, c1, c2, c3, c4⟩ := h.mp z.1
    have := (hg.2.2.2.1 t a b).2.2.2.2.2 (by omega)
    omega
/-! ===== queries: person, repaid, unluckiest ===== -/
theorem ok575 {d D : mD} {w : Row} (hk : OKR 1 d w) (hD : ∀ b, ¬ b = 575 → D b = d b) : OKR 1 D w := hk.fr (fun b x y => hD b (by omega))
theorem f72 {d : mD} {p : Int} (hk : OKR 1 d (d 770)) : ∀ b, ¬ b = 575 → g_72 1 p 574 d b = d b := (lost72 hk.1 hk.2.2.2.1 hk.2.2.2.2).1
theorem fin246r {p b : Int} {D : mD} (hg : GG (D 770)) : lp_246_50 769 p b (61 - 0 : Int).toNat 0 0 0 D = (fin246 p b (csum (fun t => if D 770 (452 + 24 * t + 0) = p then 1 else 0) (D 770 9).toNat) (csum (fun t => if D 770 (452 + 24 * t + 0) = p ∧ D 770 (452 + 24 * t + 4) = 0 then 1 else 0) (D 770 9).toNat) (csum (fun k => if perO (D 770) k = p then 1 else 0) (D 770 10).toNat) D, D) := by
  have n9 := hg.1.2.2.1
  obtain ⟨i1, i2⟩ := l246 (p := p) (b := b) (D := D) hg.1.2.2.2.1 (61 - 0 : Int).toNat 0 0 0 (by decide) n9.1 (by omega)
  refine Prod.ext (i2.trans ?_) i1
  rw [show csum (fun t => if D 770 (452 + 24 * t + 0) = p then 1 else 0) (0 : Int).toNat = 0 from rfl, show csum (fun t => if D 770 (452 + 24 * t + 0) = p ∧ D 770 (452 + 24 * t + 4) = 0 then 1 else 0) (0 : Int).toNat = 0 from rfl, Int.sub_zero, Int.sub_zero, Int.zero_add, Int.zero_add]
theorem qpPerson {d : mD} {a b : Int} (hk : OKR 1 d (d 770)) : QP (g_309 0 a b 778 d) (g_246 769 a b (g_309 0 a b 778 d)) (v_309 0 a b 778 d) (v_246 769 a b (g_309 0 a b 778 d)) := by
  obtain ⟨hg, -, -, ht, hr⟩ := id hk
  have o8 : d 11 0 = d 770 8 := hr.2.2.2.1.1
  have n8 := hg.1.2.1
  have n9 := hg.1.2.2.1
  have n10 := hg.1.2.2.2.1
  have n0 := hg.1.2.2.2.2.2.1
  unfold v_309 g_309
  rw [n01, show (1 : Int) + 10 = 11 by decide, n49, n57, show (11 : Int) + 2 = 13 by decide, show (11 : Int) + 3 = 14 by decide, show (11 : Int) + 4 = 15 by decide, show (11 : Int) + 6 = 17 by decide, show (0 : Int) + 574 = 574 by decide, o8, ifR, ifR]
  by_cases c : 0 ≤ a ∧ a < d 770 8
  · rw [if_pos c, if_pos c]
    have v09 : ∀ D, v_176 b 0 9 D = if 0 ≤ b ∧ b ≤ 9 then 1 else 0 := fun D => v176
    -- what the reference answers
    have e : ∀ (d' : mD) (x : Int), (∀ k, ¬ k = 575 → d' k = d k) → 0 ≤ b ∧ b ≤ 9 → g_246 769 a b (mset d' 778 0 x) = mset (mset d' 778 0 x) 769 0 0 ∧ v_246 769 a b (mset d' 778 0 x) = fin246 a b (csum (fun t => if d 770 (452 + 24 * t + 0) = a then 1 else 0) (d 770 9).toNat) (csum (fun t => if d 770 (452 + 24 * t + 0) = a ∧ d 770 (452 + 24 * t + 4) = 0 then 1 else 0) (d 770 9).toNat) (csum (fun k => if perO (d 770) k = a then 1 else 0) (d 770 10).toNat) (mset (mset d' 778 0 x) 769 0 0) := fun d' x hd hb => by
      have h70 : mset d' 778 0 x 770 = d 770 := by rw [o778 (by decide), hd 770 (by decide)]
      have h71 : mset (mset d' 778 0 x) 769 0 0 770 = d 770 := by rw [o769 (by decide), h70]
      have f : f_246 769 a b (mset d' 778 0 x) = lp_246_50 769 a b (61 - 0 : Int).toNat 0 0 0 (mset (mset d' 778 0 x) 769 0 0) := by
        unfold f_246
        rw [v237, h70, if_pos c, v09, if_pos hb, if_neg (by decide), if_neg (by decide)]
      have r := fin246r (p := a) (b := b) (D := mset (mset d' 778 0 x) 769 0 0) (by rw [h71]; exact hg)
      rw [h71] at r
      unfold g_246 v_246
      rw [f, r]
      exact ⟨rfl, rfl⟩
    have f70 : ∀ (d' : mD) (x : Int), (∀ k, ¬ k = 575 → d' k = d k) → mset (mset d' 778 0 x) 769 0 0 770 = d 770 := fun d' x hd => by rw [o769 (by decide), o778 (by decide), hd 770 (by decide)]
    have id0 : ∀ k, ¬ k = 575 → d k = d k := fun _ _ => rfl
    by_cases b0 : b = 0
    · subst b0
      rw [if_pos rfl, if_pos rfl, (e _ _ id0 (by decide)).1, (e _ _ id0 (by decide)).2]
      have t : d 13 a = d 770 (420 + 2 * a + 1) := (hr.2.2.2.1.2 a c.1 c.2).2
      have pu : 0 ≤ d 13 a ∧ d 13 a ≤ 19800 := purse hg hk.2.2.1 hr c.1 c.2
      refine QP.ok ?_ ?_
      · unfold fin246
        rw [if_pos rfl, f70 _ _ id0, t]
      · omega
    rw [if_neg b0, if_neg b0]
    by_cases b1 : b = 1
    · subst b1
      rw [if_pos rfl, if_pos rfl, (e _ _ id0 (by decide)).1, (e _ _ id0 (by decide)).2, v104 hg hr]
      have r := csum_rng (f := fun t => if d 770 (452 + 24 * t + 0) = a then 1 else 0) (n := (d 770 9).toNat) (B := 1) (fun i x y => by split <;> omega)
      refine QP.ok ?_ (by omega)
      rfl
    rw [if_neg b1, if_neg b1]
    by_cases b2 : b = 2
    · subst b2
      rw [if_pos rfl, if_pos rfl, (e _ _ id0 (by decide)).1, (e _ _ id0 (by decide)).2, v105 hg hr]
      have r := csum_rng (f := fun t => if d 770 (452 + 24 * t + 0) = a ∧ d 770 (452 + 24 * t + 4) = 0 then 1 else 0) (n := (d 770 9).toNat) (B := 1) (fun i x y => by split <;> omega)
      refine QP.ok ?_ (by omega)
      rfl
    rw [if_neg b2, if_neg b2]
    have ow : ∀ q, v_111 58 a q d = V_245 a q (d 770) ∧ -100000 ≤ V_245 a q (d 770) ∧ V_245 a q (d 770) ≤ 100000 := fun q => by
      refine ⟨owned (s := 1) hg hr, ?_⟩
      rw [v245 n10]
      have r := csum_rng (f := fun k => if d 770 (1916 + 5 * k + 0) = a ∧ d 770 (1916 + 5 * k + 3) = q then 1 else 0) (n := (d 770 10).toNat) (B := 1) (fun i x y => by split <;> omega)
      omega
    by_cases b3 : b = 3
    · subst b3
      rw [if_pos rfl, if_pos rfl, (e _ _ id0 (by decide)).1, (e _ _ id0 (by decide)).2, (ow 0).1]
      refine QP.ok ?_ (ow 0).2
      show V_245 a 0 (d 770) = v_245 769 a 0 _
      rw [m_v_245, f70 _ _ id0]
    rw [if_neg b3, if_neg b3]
    by_cases b4 : b = 4
    · subst b4
      rw [if_pos rfl, if_pos rfl, (e _ _ id0 (by decide)).1, (e _ _ id0 (by decide)).2, (ow 1).1]
      refine QP.ok ?_ (ow 1).2
      show V_245 a 1 (d 770) = v_245 769 a 1 _
      rw [m_v_245, f70 _ _ id0]
    rw [if_neg b4, if_neg b4]
    by_cases b5 : b = 5
    · subst b5
      rw [if_pos rfl, if_pos rfl, (e _ _ id0 (by decide)).1, (e _ _ id0 (by decide)).2, (ow 2).1]
      refine QP.ok ?_ (ow 2).2
      show V_245 a 2 (d 770) = v_245 769 a 2 _
      rw [m_v_245, f70 _ _ id0]
    rw [if_neg b5, if_neg b5]
    by_cases b6 : b = 6
    · subst b6
      rw [if_pos rfl, if_pos rfl, (e _ _ id0 (by decide)).1, (e _ _ id0 (by decide)).2, v83 hg hr]
      have r := csum_rng (f := fun k => if perO (d 770) k = a then 1 else 0) (n := (d 770 10).toNat) (B := 1) (fun i x y => by split <;> omega)
      refine QP.ok ?_ (by omega)
      rfl
    rw [if_neg b6, if_neg b6]
    have B := hr.2.2.2.2.2.2.2.2.1 a c.1 c.2
    have B7 : d 14 a = madeR (d 770) a := B.1
    have B8 : d 15 a = attR (d 770) a := B.2.1
    by_cases b7 : b = 7
    · subst b7
      rw [if_pos rfl, if_pos rfl, (e _ _ id0 (by decide)).1, (e _ _ id0 (by decide)).2, B7]
      have r := csum_rng (f := fun k => if perO (d 770) k = a ∧ d 770 (1916 + 5 * k + 4) / 20 = d 770 0 / 20 then 1 else 0) (n := (d 770 10).toNat) (B := 1) (fun i x y => by split <;> omega)
      refine QP.ok ?_ (by unfold madeR; omega)
      show madeR (d 770) a = v_217 769 a _
      rw [m_v_217, f70 _ _ id0, v217 n10]
    rw [if_neg b7, if_neg b7]
    by_cases b8 : b = 8
    · subst b8
      rw [if_pos rfl, if_pos rfl, (e _ _ id0 (by decide)).1, (e _ _ id0 (by decide)).2, B8]
      have r := csum_rng (f := fun t => if 0 < d 770 (452 + 24 * t + 8 + a) ∧ (d 770 (452 + 24 * t + 8 + a) - 1) / 20 = d 770 0 / 20 then 1 else 0) (n := (d 770 9).toNat) (B := 1) (fun i x y => by split <;> omega)
      refine QP.ok ?_ (by unfold attR; omega)
      show attR (d 770) a = v_233 769 a _
      rw [m_v_233, f70 _ _ id0, v233 n9]
    rw [if_neg b8, if_neg b8]
    by_cases b9 : b = 9
    · subst b9
      rw [if_pos rfl, if_pos rfl, (e _ _ (f72 hk) (by decide)).1, (e _ _ (f72 hk) (by decide)).2, show 17 + (1 + 2 * a) = 18 + 2 * a by omega, lostUn hk c]
      have r := csum_rng (f := fL a 1 (d 770)) (n := (d 770 0).toNat) (B := 1) (fun i x y => by unfold fL; repeat' split <;> omega)
      refine QP.ok ?_ (by rw [v244 hg]; omega)
      show V_244 a 1 (d 770) = v_244 769 a 1 _
      rw [m_v_244, f70 _ _ (f72 hk)]
    rw [if_neg b9, if_neg b9]
    have e6 : g_246 769 a b d = mset d 769 0 2 := by
      unfold g_246 f_246
      have nb : ¬ (0 ≤ b ∧ b ≤ 9) := by omega
      rw [v237, if_pos c, v09, if_neg nb, if_neg (show ¬ (1 : Int) = 0 by decide), if_pos rfl]
    rw [e6]
    exact QP.fail (by decide)
  · rw [if_neg c, if_neg c]
    have e : g_246 769 a b d = mset d 769 0 1 := by
      unfold g_246 f_246
      rw [v237, if_neg c, if_pos rfl]
    rw [e]
    exact QP.fail (by decide)
theorem loop139 {d : mD} (hk : OKR 1 d (d 770)) : ∀ (n m : Nat) (x k : Int) (D R : mD), (∀ b, ¬ b = 575 → D b = d b) → R 770 = d 770 → 0 ≤ k → k ≤ d 770 8 → d 770 8 - k ≤ (n : Int) → d 770 8 - k ≤ (m : Int) → (lp_139_4 0 n x k D).1 = (lp_260_9 769 m x k R).1 := by
  have o8 : d 11 0 = d 770 8 := hk.2.2.2.2.2.2.2.1.1
  have o10 : d 58 0 = d 770 10 := hk.2.2.2.2.2.2.2.2.2.2.1.1
  have last : ∀ (r : Int → Int → mD → Int × mD) (r' : Int → Int → mD → Int × mD) (x k : Int) (D R : mD), (∀ b, ¬ b = 575 → D b = d b) → R 770 = d 770 → k = d 770 8 → (st_139_4 0 r x k D).1 = (st_260_9 769 r' x k R).1 := fun r r' x k D R hD hR hk => by
    have hkk : ¬ k < d 770 8 := by omega
    unfold st_139_4 st_260_9
    rw [n01, show (1 : Int) + 10 = 11 by decide, n57, n7691, hD 11 (by decide), hD 58 (by decide), hR, o8, o10, if_neg hkk, if_neg hkk]
    by_cases z : x = 0
    · rw [if_pos z, if_pos z]
    · rw [if_neg z, if_neg z]
  have step : ∀ (r : Int → Int → mD → Int × mD) (r' : Int → Int → mD → Int × mD) (x k : Int) (D R : mD), (∀ b, ¬ b = 575 → D b = d b) → R 770 = d 770 → k < d 770 8 → (r (x + V_244 k 0 (d 770)) (k + 1) (g_72 1 k 574 D)).1 = (r' (x + V_244 k 0 (d 770)) (k + 1) R).1 → (st_139_4 0 r x k D).1 = (st_260_9 769 r' x k R).1 := fun r r' x k D R hD hR c h => by
    have l := lostAll (d := D) (p := k) (by rw [hD 770 (by decide)]; exact ok575 hk hD)
    rw [hD 770 (by decide)] at l
    unfold st_139_4 st_260_9
    rw [n01, show (1 : Int) + 10 = 11 by decide, n7691, hD 11 (by decide), hR, o8, if_pos c, if_pos c, show (0 : Int) + 574 = 574 by decide, l, m_v_244, hR]
    exact h
  intro n
  induction n with
  | zero =>
    intro m x k D R hD hR h0 h1 h2 h3
    cases m with
    | zero => exact last _ _ x k D R hD hR (by omega)
    | succ m => exact last _ _ x k D R hD hR (by omega)
  | succ n ih =>
    intro m x k D R hD hR h0 h1 h2 h3
    by_cases c : k < d 770 8
    · cases m with
      | zero => omega
      | succ m =>
        refine step _ _ x k D R hD hR c (ih m _ _ _ _ (fun b hb => ?_) hR (by omega) (by omega) (by omega) (by omega))
        rw [f72 (d := D) (by rw [hD 770 (by decide)]; exact ok575 hk hD) b hb, hD b hb]
    · cases m with
      | zero => exact last _ _ x k D R hD hR (by omega)
      | succ m => exact last _ _ x k D R hD hR (by omega)
theorem eqRepaid {d : mD} (hk : OKR 1 d (d 770)) (hf : ∀ b, ¬ b = 575 → g_139 0 d b = d b) : v_139 0 d = v_260 769 (g_139 0 d) := by
  have n8 := hk.1.1.2.1
  exact loop139 hk (16 - 0 : Int).toNat (16 - 0 : Int).toNat 0 0 d (mset (g_139 0 d) 769 0 0) (fun _ _ => rfl) (by rw [o769 (by decide), hf 770 (by decide)]) (by decide) n8.1 (by omega) (by omega)
theorem loop140 {d : mD} (hk : OKR 1 d (d 770)) : ∀ (n m : Nat) (x y k : Int) (D R : mD), (∀ b, ¬ b = 575 → D b = d b) → R 770 = d 770 → 0 ≤ k → k ≤ d 770 8 → d 770 8 - k ≤ (n : Int) → d 770 8 - k ≤ (m : Int) → -1 ≤ x → x ≤ 16 → (lp_140_6 0 n x y k D).1 = (lp_261_11 769 m x y k R).1 ∧ -1 ≤ (lp_140_6 0 n x y k D).1 ∧ (lp_140_6 0 n x y k D).1 ≤ 16 := by
  have o8 : d 11 0 = d 770 8 := hk.2.2.2.2.2.2.2.1.1
  have n8 := hk.1.1.2.1
  have last : ∀ (r : Int → Int → Int → mD → Int × mD) (r' : Int → Int → Int → mD → Int × mD) (x y k : Int) (D R : mD), (∀ b, ¬ b = 575 → D b = d b) → R 770 = d 770 → k = d 770 8 → -1 ≤ x → x ≤ 16 → (st_140_6 0 r x y k D).1 = (st_261_11 769 r' x y k R).1 ∧ -1 ≤ (st_140_6 0 r x y k D).1 ∧ (st_140_6 0 r x y k D).1 ≤ 16 := fun r r' x y k D R hD hR hk a b => by
    unfold st_140_6 st_261_11
    rw [n01, show (1 : Int) + 10 = 11 by decide, n7691, hD 11 (by decide), hR, o8, if_neg (by omega), if_neg (by omega)]
    exact ⟨rfl, a, b⟩
  have step : ∀ (r : Int → Int → Int → mD → Int × mD) (r' : Int → Int → Int → mD → Int × mD) (x y k : Int) (D R : mD), (∀ b, ¬ b = 575 → D b = d b) → R 770 = d 770 → k < d 770 8 → (∀ x y, -1 ≤ x → x ≤ 16 → (r x y (k + 1) (g_72 1 k 574 D)).1 = (r' x y (k + 1) R).1 ∧ -1 ≤ (r x y (k + 1) (g_72 1 k 574 D)).1 ∧ (r x y (k + 1) (g_72 1 k 574 D)).1 ≤ 16) → 0 ≤ k → -1 ≤ x → x ≤ 16 → (st_140_6 0 r x y k D).1 = (st_261_11 769 r' x y k R).1 ∧ -1 ≤ (st_140_6 0 r x y k D).1 ∧ (st_140_6 0 r x y k D).1 ≤ 16 := fun r r' x y k D R hD hR c h k0 a b => by
    have l := lostAll (d := D) (p := k) (by rw [hD 770 (by decide)]; exact ok575 hk hD)
    rw [hD 770 (by decide)] at l
    unfold st_140_6 st_261_11
    rw [n01, show (1 : Int) + 10 = 11 by decide, n7691, hD 11 (by decide), hR, o8, if_pos c, if_pos c, show (0 : Int) + 574 = 574 by decide, l, m_v_244, hR]
    by_cases z : y < V_244 k 0 (d 770)
    · rw [if_pos z, if_pos z]
      exact h k _ (by omega) (by omega)
    · rw [if_neg z, if_neg z]
      exact h x y a b
  intro n
  induction n with
  | zero =>
    intro m x y k D R hD hR h0 h1 h2 h3 a b
    cases m with
    | zero => exact last _ _ x y k D R hD hR (by omega) a b
    | succ m => exact last _ _ x y k D R hD hR (by omega) a b
  | succ n ih =>
    intro m x y k D R hD hR h0 h1 h2 h3 a b
    by_cases c : k < d 770 8
    · cases m with
      | zero => omega
      | succ m =>
        refine step _ _ x y k D R hD hR c (fun x y a b => ih m x y _ _ _ (fun b hb => ?_) hR (by omega) (by omega) (by omega) (by omega) a b) h0 a b
        rw [f72 (d := D) (by rw [hD 770 (by decide)]; exact ok575 hk hD) b hb, hD b hb]
    · cases m with
      | zero => exact last _ _ x y k D R hD hR (by omega) a b
      | succ m => exact last _ _ x y k D R hD hR (by omega) a b
theorem qvUnl {d : mD} (hk : OKR 1 d (d 770)) (hf : ∀ b, ¬ b = 575 → g_140 0 d b = d b) : QV (v_140 0 d) (v_261 769 (g_140 0 d)) := by
  have n8 := hk.1.1.2.1
  obtain ⟨q1, q2, q3⟩ := loop140 hk (16 - 0 : Int).toNat (16 - 0 : Int).toNat (-1) 0 0 d (mset (g_140 0 d) 769 0 0) (fun _ _ => rfl) (by rw [o769 (by decide), hf 770 (by decide)]) (by decide) n8.1 (by omega) (by omega) (by decide) (by decide)
  exact ⟨q1, inI.of ⟨Int.le_trans (by decide) q2, Int.le_trans q3 (by decide)⟩⟩
/-! ===== queries: tokens in some hours ===== -/
theorem lp266 {x : Int} : ∀ (n : Nat) (k : Int) (E : mD), 0 ≤ x - k → x - k ≤ (n : Int) → lp_266_36 769 x n k E = (hoursW (x - k).toNat (E 770) 10, g_256 769 (rset E (hoursW (x - k).toNat (E 770)))) := by
  have stop : ∀ (r : Int → mD → Int × mD) (k : Int) (E : mD), x - k = 0 → st_266_36 769 x r k E = (hoursW (x - k).toNat (E 770) 10, g_256 769 (rset E (hoursW (x - k).toNat (E 770)))) := fun r k E h => by
    rw [show (x - k).toNat = 0 by omega]
    show _ = (E 770 10, g_256 769 (rset E (E 770)))
    rw [rset_self]
    unfold st_266_36
    rw [if_neg (by omega), n7691]
  intro n
  induction n with
  | zero => exact fun k E h0 h1 => stop _ k E (by omega)
  | succ n ih =>
    intro k E h0 h1
    by_cases c : k < x
    · have e : lp_266_36 769 x (n + 1) k E = lp_266_36 769 x n (k + 1) (g_223 769 E) := by
        show st_266_36 769 x _ k E = _
        unfold st_266_36
        rw [if_pos c]
      rw [e, ih (k + 1) _ (by omega) (by omega), m_g_223, rset_rset, rset_at, show (x - k).toNat = (x - (k + 1)).toNat + 1 by omega]
      rfl
    · exact stop _ k E (by omega)
theorem qpTokIn {d : mD} {a : Int} (hk : OKR 1 d (d 770)) (h70 : g_320 0 a 778 d 770 = d 770) : QP (g_320 0 a 778 d) (g_266 769 a (g_320 0 a 778 d)) (v_320 0 a 778 d) (v_266 769 a (g_320 0 a 778 d)) := by
  obtain ⟨hg, -, -, ht, hr⟩ := id hk
  unfold g_320 at h70
  unfold v_320 g_320
  have v0 : ∀ D, v_176 a 0 200 D = if 0 ≤ a ∧ a ≤ 200 then 1 else 0 := fun D => v176
  have bad : ¬ (0 ≤ a ∧ a ≤ 200) → QP d (g_266 769 a d) 1 (v_266 769 a d) := fun c => by
    have e : g_266 769 a d = mset d 769 0 1 := by
      unfold g_266 f_266
      rw [v0, if_neg c, if_pos rfl]
    rw [e]
    exact QP.fail (by decide)
  by_cases c1 : a < 0
  · rw [if_pos c1, if_pos c1]
    exact bad (by omega)
  by_cases c2 : 200 < a
  · rw [if_neg c1, if_neg c1, if_pos c2, if_pos c2]
    exact bad (by omega)
  rw [if_neg c1, if_neg c1, if_neg c2, if_neg c2, show (0 : Int) + 580 = 580 by decide, n01, show (580 : Int) + 57 = 637 by decide]
  obtain ⟨k5, cf⟩ := hk.copy (a := 580) (by decide)
  have n0 := hg.1.2.2.2.2.2.1
  obtain ⟨-, p2, p3, -⟩ := passHours (s := 580) (N := a) (by omega) hg k5.2.2.2.2 (by omega)
  have t : g_68 580 a (g_59 580 1 d) 637 0 = hoursW a.toNat (d 770) 10 := p3.2.2.2.2.2.2.1.1
  have n10 := p2.1.2.2.2.1
  rw [if_neg c1, if_neg c2, show (0 : Int) + 580 = 580 by decide, n01, o778 (by decide)] at h70
  generalize hX : g_68 580 a (g_59 580 1 d) = X at *
  have X7 : X 770 = d 770 := h70
  have f : f_266 769 a (mset X 778 0 (X 637 0)) = (hoursW a.toNat (d 770) 10, g_256 769 (rset (g_255 769 (mset (mset X 778 0 (X 637 0)) 769 0 0)) (hoursW a.toNat (d 770)))) := by
    have r := lp266 (x := a) (a - 0 : Int).toNat 0 (g_255 769 (mset (mset X 778 0 (X 637 0)) 769 0 0)) (by omega) (by omega)
    have e7 : g_255 769 (mset (mset X 778 0 (X 637 0)) 769 0 0) 770 = d 770 := by rw [c255.1 770 (by decide), o769 (by decide), o778 (by decide), X7]
    rw [e7, Int.sub_zero] at r
    unfold f_266
    rw [v0, if_pos (show 0 ≤ a ∧ a ≤ 200 by omega), if_neg (show ¬ (1 : Int) = 0 by decide)]
    rw [Int.sub_zero]
    exact r
  have g0 : g_266 769 a (mset X 778 0 (X 637 0)) 769 0 = 0 := by
    unfold g_266
    rw [f]
    show g_256 769 (rset (g_255 769 (mset (mset X 778 0 (X 637 0)) 769 0 0)) (hoursW a.toNat (d 770))) 769 0 = 0
    rw [c256.1 769 (by decide), rset_ne (by decide), c255.1 769 (by decide), ms_e rfl rfl]
  have gv : v_266 769 a (mset X 778 0 (X 637 0)) = hoursW a.toNat (d 770) 10 := by
    unfold v_266
    rw [f]
  refine ⟨g0, fun _ => ⟨?_, ?_⟩⟩
  · rw [ms_e rfl rfl, gv, t]
  · rw [gv]
    exact inI.of (by omega)
/-! ===== rows: an office serves, whatever else stands in the row ===== -/
def SrvV (o r : Int) (w w' : Row) : Prop := w' (12 + 68 * o + 5) = w (12 + 68 * o + 5) - r ∧ (∀ k, 0 ≤ k → k < w (12 + 68 * o + 5) - r → w' (12 + 68 * o + 7 + k) = w (12 + 68 * o + 7 + k + r)) ∧ (∀ k, 0 ≤ k → k < r → w' (452 + 24 * w (12 + 68 * o + 7 + k) + 4) = 1 ∧ w' (452 + 24 * w (12 + 68 * o + 7 + k) + 3) = w 0)
  ∧ ∀ i, (∀ k, 0 ≤ k → k < r → ¬ i = 452 + 24 * w (12 + 68 * o + 7 + k) + 4 ∧ ¬ i = 452 + 24 * w (12 + 68 * o + 7 + k) + 3) → ¬ (12 + 68 * o + 5 ≤ i ∧ i < 12 + 68 * o + 7 + w (12 + 68 * o + 5)) → w' i = w i
theorem SrvV.refl {o : Int} {w : Row} : SrvV o 0 w w := ⟨by omega, fun k _ _ => by rw [Int.add_zero], fun k a b => by omega, fun _ _ _ => rfl⟩
theorem srvL {o : Int} (ho : 0 ≤ o ∧ o ≤ 5) : ∀ (n : Nat) (x : Int) (w : Row), 0 ≤ w (12 + 68 * o + 5) → w (12 + 68 * o + 5) ≤ 61 → (∀ k, 0 ≤ k → k < w (12 + 68 * o + 5) → 0 ≤ w (12 + 68 * o + 7 + k) ∧ w (12 + 68 * o + 7 + k) ≤ 60) → x ≤ w (12 + 68 * o + 1) → w (12 + 68 * o + 1) - x ≤ (n : Int) → SrvV o (min (w (12 + 68 * o + 1) - x) (w (12 + 68 * o + 5))) w (LP_222_7 o n (12 + 68 * o) x w) := by
  have stop : ∀ (r : Int → Int → Row → Row) (x : Int) (w : Row), 0 ≤ w (12 + 68 * o + 5) → x ≤ w (12 + 68 * o + 1) → (¬ x < w (12 + 68 * o + 1) ∨ w (12 + 68 * o + 5) = 0) → SrvV o (min (w (12 + 68 * o + 1) - x) (w (12 + 68 * o + 5))) w (ST_222_7 o r (12 + 68 * o) x w) := fun r x w h0 hx hc => by
    have e : ST_222_7 o r (12 + 68 * o) x w = w := by
      unfold ST_222_7
      by_cases c : x < w (12 + 68 * o + 1)
      · rw [if_pos c, if_neg (by omega)]
      · rw [if_neg c]
    rw [e, show min (w (12 + 68 * o + 1) - x) (w (12 + 68 * o + 5)) = 0 by omega]
    exact SrvV.refl
  intro n
  induction n with
  | zero => exact fun x w h0 h1 hq hx hn => stop _ x w h0 hx (Or.inl (by omega))
  | succ n ih =>
    intro x w h0 h1 hq hx hn
    by_cases c : x < w (12 + 68 * o + 1)
    · by_cases c2 : 0 < w (12 + 68 * o + 5)
      · have q0 := hq 0 (by decide) c2
        rw [Int.add_zero] at q0
        have s := stepV ho h1 q0
        have e : LP_222_7 o (n + 1) (12 + 68 * o) x w = LP_222_7 o n (12 + 68 * o) (x + 1) (W_220 o 0 (ws (ws (ws w ((452 + (24 * (w ((12 + (68 * o)) + 7)))) + 4) 1) ((452 + (24 * (w ((12 + (68 * o)) + 7)))) + 3) (w 0)) ((12 + (68 * o)) + 6) ((w ((12 + (68 * o)) + 6)) + 1))) := by
          show ST_222_7 o _ (12 + 68 * o) x w = _
          unfold ST_222_7
          rw [if_pos c, if_pos c2]
        rw [e]
        generalize W_220 o 0 (ws (ws (ws w ((452 + (24 * (w ((12 + (68 * o)) + 7)))) + 4) 1) ((452 + (24 * (w ((12 + (68 * o)) + 7)))) + 3) (w 0)) ((12 + (68 * o)) + 6) ((w ((12 + (68 * o)) + 6)) + 1)) = u at *
        obtain ⟨s1, s2, s3, s4, s5, s6⟩ := s
        have u1 : u (12 + 68 * o + 1) = w (12 + 68 * o + 1) := s6 _ (by omega) (by omega) (by omega) (by omega) (by omega)
        have u0 : u 0 = w 0 := s6 _ (by omega) (by omega) (by omega) (by omega) (by omega)
        obtain ⟨i1, i2, i3, i4⟩ := ih (x + 1) u (by omega) (by omega) (fun k a b => by rw [s5 k a (by omega), show 12 + 68 * o + 7 + k + 1 = 12 + 68 * o + 7 + (k + 1) by omega]; exact hq _ (by omega) (by omega)) (by omega) (by omega)
        rw [u1, s1] at i1 i2 i3 i4
        have er : min (w (12 + 68 * o + 1) - x) (w (12 + 68 * o + 5)) = min (w (12 + 68 * o + 1) - (x + 1)) (w (12 + 68 * o + 5) - 1) + 1 := by omega
        have rl : min (w (12 + 68 * o + 1) - (x + 1)) (w (12 + 68 * o + 5) - 1) ≤ w (12 + 68 * o + 5) - 1 := Int.min_le_right _ _
        have r0 : 0 ≤ min (w (12 + 68 * o + 1) - (x + 1)) (w (12 + 68 * o + 5) - 1) := by omega
        rw [er]
        generalize min (w (12 + 68 * o + 1) - (x + 1)) (w (12 + 68 * o + 5) - 1) = r at *
        generalize LP_222_7 o n (12 + 68 * o) (x + 1) u = v at *
        have us : ∀ k, 0 ≤ k → k < r → u (12 + 68 * o + 7 + k) = w (12 + 68 * o + 7 + (k + 1)) := fun k a b => by rw [s5 k a (by omega), show 12 + 68 * o + 7 + k + 1 = 12 + 68 * o + 7 + (k + 1) by omega]
        -- what is set stays set
        have keep : ∀ f, f = 4 ∨ f = 3 → v (452 + 24 * w (12 + 68 * o + 7) + f) = if f = 4 then 1 else w 0 := fun f hf => by
          by_cases z : ∃ k, 0 ≤ k ∧ k < r ∧ u (12 + 68 * o + 7 + k) = w (12 + 68 * o + 7)
          · obtain ⟨k, a, b, z⟩ := z
            have := i3 k a b
            rw [z, u0] at this
            rcases hf with hf | hf
            · subst hf; rw [if_pos rfl]; exact this.1
            · subst hf; rw [if_neg (by decide)]; exact this.2
          · have ni : ∀ k, 0 ≤ k → k < r → ¬ 452 + 24 * w (12 + 68 * o + 7) + f = 452 + 24 * u (12 + 68 * o + 7 + k) + 4 ∧ ¬ 452 + 24 * w (12 + 68 * o + 7) + f = 452 + 24 * u (12 + 68 * o + 7 + k) + 3 := fun k a b => by
              have : ¬ u (12 + 68 * o + 7 + k) = w (12 + 68 * o + 7) := fun y => z ⟨k, a, b, y⟩
              omega
            rw [i4 _ ni (by omega)]
            rcases hf with hf | hf
            · subst hf; rw [if_pos rfl]; exact s3
            · subst hf; rw [if_neg (by decide)]; exact s4
        refine ⟨by omega, fun k a b => ?_, fun k a b => ?_, fun i hi hni => ?_⟩
        · rw [i2 k a (by omega), show 12 + 68 * o + 7 + k + r = 12 + 68 * o + 7 + (k + r) by omega, s5 (k + r) (by omega) (by omega)]
          congr 1
          omega
        · by_cases z : k = 0
          · subst z
            rw [Int.add_zero]
            exact ⟨keep 4 (Or.inl rfl), keep 3 (Or.inr rfl)⟩
          · have := i3 (k - 1) (by omega) (by omega)
            rw [us (k - 1) (by omega) (by omega), show k - 1 + 1 = k by omega, u0] at this
            exact this
        · have h0' := hi 0 (by decide) (by omega)
          rw [Int.add_zero] at h0'
          rw [i4 i (fun k a b => by rw [us k a b]; exact hi (k + 1) (by omega) (by omega)) (by omega)]
          exact s6 i (by omega) (by omega) h0'.1 h0'.2 (by omega)
      · exact stop _ x w h0 hx (Or.inr (by omega))
    · exact stop _ x w h0 hx (Or.inl c)
theorem srv222 {o : Int} {w : Row} (ho : 0 ≤ o ∧ o ≤ 5) (h0 : 0 ≤ w (12 + 68 * o + 5) ∧ w (12 + 68 * o + 5) ≤ 61) (hq : ∀ k, 0 ≤ k → k < w (12 + 68 * o + 5) → 0 ≤ w (12 + 68 * o + 7 + k) ∧ w (12 + 68 * o + 7 + k) ≤ 60) (hd : 0 ≤ w (12 + 68 * o + 1) ∧ w (12 + 68 * o + 1) ≤ 4) : SrvV o (min (w (12 + 68 * o + 1)) (w (12 + 68 * o + 5))) w (W_222 o w) := by
  have h := srvL ho (4 - 0 : Int).toNat 0 w h0.1 h0.2 hq hd.1 (by omega)
  rw [Int.sub_zero] at h
  exact h
/-! ===== rows: a week's end leaves offices and tickets ===== -/
def CE (w w' : Row) : Prop := ∀ i, (i = 0 ∨ (2 ≤ i ∧ i ≤ 9) ∨ (12 ≤ i ∧ i < 420) ∨ (452 ≤ i ∧ i < 1916)) → w' i = w i
theorem CE.refl {w : Row} : CE w w := fun _ _ => rfl
theorem CE.trans {a b c : Row} (h : CE a b) (g : CE b c) : CE a c := fun i x => (g i x).trans (h i x)
theorem CE.s {a b : Row} {i v : Int} (h : CE a b) (hi : i = 1 ∨ i = 10 ∨ i = 11 ∨ (420 ≤ i ∧ i < 452) ∨ 1916 ≤ i) : CE a (ws b i v) := fun j x => by rw [wsn (by omega)]; exact h j x
def RT (w : Row) : Prop := (0 ≤ w 9 ∧ w 9 ≤ 61) ∧ (0 ≤ w 10 ∧ w 10 ≤ 200) ∧ (0 ≤ w 11 ∧ w 11 ≤ 200) ∧ (∀ k, 0 ≤ k → k < w 10 → 0 ≤ w (1916 + 5 * k + 0) ∧ w (1916 + 5 * k + 0) ≤ 15) ∧ (∀ j, 0 ≤ j → j < w 11 → 0 ≤ w (2916 + j) ∧ w (2916 + j) < w 10) ∧ ∀ t, 0 ≤ t → t < w 9 → 0 ≤ w (452 + 24 * t + 0) ∧ w (452 + 24 * t + 0) ≤ 15
theorem GG.rt {w : Row} (hg : GG w) : RT w := by
  obtain ⟨hN, -, -, hT, -, hK, hR⟩ := hg
  obtain ⟨-, n8, n9, n10, n11, -⟩ := hN
  refine ⟨by omega, n10, n11, fun k a b => ?_, fun j a b => (hR.2 j a b).1, fun t a b => ?_⟩
  · have := (hK k a b).1
    omega
  · have := (hT t a b).1
    omega
def WKP (w w' : Row) : Prop := RT w → CE w w' ∧ RT w'
theorem wk218l {t p : Int} (hp : 0 ≤ p ∧ p ≤ 15) : ∀ (n : Nat) (a b x : Int) (w : Row), WKP w (LP_218_41 t n p a b x w).2 := by
  have st : ∀ (r : Int → Int → Int → Int → Row → Int × Row) (a b x : Int) (w : Row), (∀ a b x w, WKP w (r p a b x w).2) → WKP w (ST_218_41 t r p a b x w).2 := fun r a b x w hr h => by
    unfold ST_218_41
    by_cases c1 : x < w (452 + 24 * t + 3)
    · rw [if_pos c1]
      by_cases c2 : a < w 5
      · rw [if_pos c2]
        by_cases c3 : w 10 < 200
        · rw [if_pos c3]
          by_cases c4 : V_216 p x w = 0
          · rw [if_pos c4]
            obtain ⟨h9, h10, h11, hk, hj, ht⟩ := id h
            have s := tokW (p := p) (t := t) (h := x) (w := w) h10
            generalize (ws (ws (ws (ws (ws (ws w ((1916 + (5 * (w 10))) + 0) p) ((1916 + (5 * (w 10))) + 1) t) ((1916 + (5 * (w 10))) + 2) x) ((1916 + (5 * (w 10))) + 3) 0) ((1916 + (5 * (w 10))) + 4) (w 0)) 10 ((w 10) + 1)) = u at *
            obtain ⟨s1, s2, s3, s4, s5, s6, s7⟩ := s
            have cu : CE w u := fun i hi => s7 i (by omega) (by omega)
            have ru : RT u := by
              refine ⟨by rw [cu 9 (by omega)]; exact h9, by omega, by rw [s7 11 (by omega) (by omega)]; exact h11, fun k x y => ?_, fun j x y => ?_, fun t' x y => ?_⟩
              · by_cases z : k = w 10
                · rw [z, s2]; exact hp
                · rw [s7 _ (by omega) (by omega)]
                  exact hk k x (by omega)
              · rw [s7 11 (by omega) (by omega)] at y
                rw [s7 (2916 + j) (by omega) (by omega)]
                have := hj j x y
                omega
              · rw [cu 9 (by omega)] at y
                rw [cu _ (by omega)]
                exact ht t' x y
            obtain ⟨q1, q2⟩ := hr (a + 1) (b + 1) (x + 1) u ru
            exact ⟨cu.trans q1, q2⟩
          · rw [if_neg c4]
            exact hr _ _ _ _ h
        · rw [if_neg c3]
          exact hr _ _ _ _ h
      · rw [if_neg c2]
        exact hr _ _ _ _ h
    · rw [if_neg c1]
      exact ⟨CE.refl, h⟩
  intro n
  induction n with
  | zero => exact fun a b x w => st _ a b x w (fun _ _ _ w h => ⟨CE.refl, h⟩)
  | succ n ih => exact fun a b x w => st _ a b x w ih
theorem wk218 {t : Int} {w : Row} (h : RT w) (ht : 0 ≤ t ∧ t < w 9) : CE w (W_218 t w) ∧ RT (W_218 t w) := wk218l (h.2.2.2.2.2 t ht.1 ht.2) _ _ _ _ w h
-- the shift of the offered tokens
theorem wk219a {q : Int → Row → Int × Row} {L : Int} (hL : 0 ≤ L ∧ L ≤ 199) : ∀ (n : Nat) (a b x : Int) (w : Row), w 11 = L → 0 ≤ x → L - x ≤ (n : Int) → ∃ u, LP_219_106 q n a b x w = q (a + 1) u ∧ (∀ i, ¬ (2916 + x ≤ i ∧ i < 2916 + L) → u i = w i) ∧ ∀ j, x ≤ j → j < L → u (2916 + j) = w (2916 + j + 1) := by
  have stop : ∀ (r : Int → Int → Int → Row → Int × Row) (a b x : Int) (w : Row), w 11 = L → ¬ x < L → ∃ u, ST_219_106 q r a b x w = q (a + 1) u ∧ (∀ i, ¬ (2916 + x ≤ i ∧ i < 2916 + L) → u i = w i) ∧ ∀ j, x ≤ j → j < L → u (2916 + j) = w (2916 + j + 1) := fun r a b x w h hx => by
    refine ⟨w, ?_, fun _ _ => rfl, fun j u v => by omega⟩
    unfold ST_219_106
    rw [if_neg (by omega)]
  intro n
  induction n with
  | zero => exact fun a b x w h h0 h1 => stop _ a b x w h (by omega)
  | succ n ih =>
    intro a b x w h h0 h1
    by_cases c : x < L
    · obtain ⟨u, q1, q2, q3⟩ := ih a b (x + 1) (ws w (2916 + x) (w (2916 + x + 1))) (by rw [wsn (by omega)]; exact h) (by omega) (by omega)
      refine ⟨u, ?_, fun i hi => ?_, fun j y z => ?_⟩
      · show ST_219_106 q _ a b x w = _
        unfold ST_219_106
        rw [if_pos (by omega)]
        exact q1
      · rw [q2 i (by omega), wsn (by omega)]
      · by_cases e : j = x
        · rw [e, q2 _ (by omega), wse rfl]
        · rw [q3 j (by omega) z, wsn (by omega)]
    · exact stop _ a b x w h c
theorem wk219l : ∀ (n : Nat) (x : Int) (w : Row), WKP w (LP_219_2 n x w).2 := by
  have st : ∀ (r : Int → Row → Int × Row) (x : Int) (w : Row), (∀ x w, WKP w (r x w).2) → WKP w (ST_219_2 r x w).2 := fun r x w hr h => by
    unfold ST_219_2
    by_cases c1 : 0 < w 11
    · rw [if_pos c1]
      by_cases c2 : w 1 < w 6
      · rw [if_pos c2]
        exact ⟨CE.refl, h⟩
      · rw [if_neg c2]
        obtain ⟨h9, h10, h11, hk, hj, ht⟩ := id h
        have j0 := hj 0 (by decide) c1
        rw [show (2916 : Int) + 0 = 2916 by decide] at j0
        have o0 := hk _ j0.1 j0.2
        have a1 : ∀ v, ws w 1 v 11 = w 11 := fun v => wsn (by decide)
        generalize hz : (ws (ws (ws (ws w 1 ((w 1) - (w 6))) ((420 + (2 * (w ((1916 + (5 * (w 2916))) + 0)))) + 1) ((w ((420 + (2 * (w ((1916 + (5 * (w 2916))) + 0)))) + 1)) + (w 6))) ((1916 + (5 * (w 2916))) + 3) 2) 11 ((w 11) - 1)) = z
        have z11 : z 11 = w 11 - 1 := by rw [← hz, wse rfl]
        have zo : ∀ i, ¬ i = 1 → ¬ i = 420 + 2 * w (1916 + 5 * w 2916 + 0) + 1 → ¬ i = 1916 + 5 * w 2916 + 3 → ¬ i = 11 → z i = w i := fun i y1 y2 y3 y4 => by rw [← hz, wsn y4, wsn y3, wsn y2, wsn y1]
        obtain ⟨u, q1, q2, q3⟩ := wk219a (q := r) (L := w 11 - 1) (by omega) (200 - 0 : Int).toNat x (1916 + (5 * (w 2916))) 0 z z11 (by decide) (by omega)
        rw [q1]
        have cu : CE w u := fun i hi => by rw [q2 i (by omega), zo i (by omega) (by omega) (by omega) (by omega)]
        have u10 : u 10 = w 10 := by rw [q2 10 (by omega), zo 10 (by omega) (by omega) (by omega) (by omega)]
        have u11 : u 11 = w 11 - 1 := by rw [q2 11 (by omega), z11]
        have ru : RT u := by
          refine ⟨by rw [cu 9 (by omega)]; exact h9, by rw [u10]; exact h10, by omega, fun k y1 y2 => ?_, fun j y1 y2 => ?_, fun t y1 y2 => ?_⟩
          · rw [q2 _ (by omega), zo _ (by omega) (by omega) (by omega) (by omega)]
            exact hk k y1 (by omega)
          · rw [q3 j y1 (by omega), zo _ (by omega) (by omega) (by omega) (by omega), u10, show 2916 + j + 1 = 2916 + (j + 1) by omega]
            exact hj (j + 1) (by omega) (by omega)
          · rw [cu 9 (by omega)] at y2
            rw [cu _ (by omega)]
            exact ht t y1 y2
        obtain ⟨p1, p2⟩ := hr (x + 1) u ru
        exact ⟨cu.trans p1, p2⟩
    · rw [if_neg c1]
      exact ⟨CE.refl, h⟩
  intro n
  induction n with
  | zero => exact fun x w => st _ x w (fun _ w h => ⟨CE.refl, h⟩)
  | succ n ih => exact fun x w => st _ x w ih
theorem wk223 : ∀ (n : Nat) (x : Int) (w : Row), 0 ≤ x → WKP w (LP_223_71 n x w) := by
  have fin : ∀ w : Row, WKP w (W_219 w) := fun w => wk219l _ _ w
  have st : ∀ (r : Int → Row → Row) (x : Int) (w : Row), 0 ≤ x → (∀ w, WKP w (r (x + 1) w)) → WKP w (ST_223_71 r x w) := fun r x w hx hr h => by
    unfold ST_223_71
    by_cases c1 : x < w 9
    · rw [if_pos c1]
      by_cases c2 : w 0 % 20 = 0
      · rw [if_pos c2]
        by_cases c3 : w (452 + 24 * x + 6) = 0
        · rw [if_pos c3]
          exact hr w h
        · rw [if_neg c3]
          obtain ⟨q1, q2⟩ := wk218 h ⟨hx, c1⟩
          obtain ⟨q3, q4⟩ := hr _ q2
          exact ⟨q1.trans q3, q4⟩
      · rw [if_neg c2]
        exact fin w h
    · rw [if_neg c1]
      exact fin w h
  intro n
  induction n with
  | zero => exact fun x w hx => st _ x w hx (fun w h => ⟨CE.refl, h⟩)
  | succ n ih => exact fun x w hx => st _ x w hx (fun w => ih (x + 1) w (by omega))
/-! ===== rows: the queues hour by hour ===== -/
def QK (u : Row) : Prop := (0 ≤ u 7 ∧ u 7 ≤ 6) ∧ (∀ o, 0 ≤ o → o < u 7 → (0 ≤ u (12 + 68 * o + 5) ∧ u (12 + 68 * o + 5) ≤ 61) ∧ (0 ≤ u (12 + 68 * o + 1) ∧ u (12 + 68 * o + 1) ≤ 4) ∧ 1 ≤ u (12 + 68 * o + 2) ∧ ∀ k, 0 ≤ k → k < u (12 + 68 * o + 5) → 0 ≤ u (12 + 68 * o + 7 + k) ∧ u (12 + 68 * o + 7 + k) ≤ 60)
  ∧ ∀ o k o' k', 0 ≤ o → o < u 7 → 0 ≤ k → k < u (12 + 68 * o + 5) → 0 ≤ o' → o' < u 7 → 0 ≤ k' → k' < u (12 + 68 * o' + 5) → u (12 + 68 * o + 7 + k) = u (12 + 68 * o' + 7 + k') → o = o' ∧ k = k'
def SQ (u : Row) (dn : Int → Int → Int) (hr : Int) (m : Int → Int) (w : Row) : Prop := w 0 = hr ∧ (∀ i, 2 ≤ i → i ≤ 9 → w i = u i) ∧ (∀ o j, 0 ≤ o → o < u 7 → 0 ≤ j → j ≤ 4 → w (12 + 68 * o + j) = u (12 + 68 * o + j)) ∧ RT w
  ∧ (∀ o, 0 ≤ o → o < u 7 → (w (12 + 68 * o + 5) = if m o < u (12 + 68 * o + 5) then u (12 + 68 * o + 5) - m o else 0) ∧ ∀ k, 0 ≤ k → k < u (12 + 68 * o + 5) - m o → w (12 + 68 * o + 7 + k) = u (12 + 68 * o + 7 + (k + m o)))
  ∧ (∀ t f, 0 ≤ t → t ≤ 60 → 0 ≤ f → f ≤ 2 → w (452 + 24 * t + f) = u (452 + 24 * t + f))
  ∧ (∀ o k, 0 ≤ o → o < u 7 → 0 ≤ k → k < u (12 + 68 * o + 5) → (k < m o → w (452 + 24 * u (12 + 68 * o + 7 + k) + 4) = 1 ∧ w (452 + 24 * u (12 + 68 * o + 7 + k) + 3) = dn o k) ∧ (m o ≤ k → w (452 + 24 * u (12 + 68 * o + 7 + k) + 4) = u (452 + 24 * u (12 + 68 * o + 7 + k) + 4) ∧ w (452 + 24 * u (12 + 68 * o + 7 + k) + 3) = u (452 + 24 * u (12 + 68 * o + 7 + k) + 3)))
  ∧ ∀ t, 0 ≤ t → t ≤ 60 → (∀ o k, 0 ≤ o → o < u 7 → 0 ≤ k → k < u (12 + 68 * o + 5) → ¬ u (12 + 68 * o + 7 + k) = t) → w (452 + 24 * t + 4) = u (452 + 24 * t + 4) ∧ w (452 + 24 * t + 3) = u (452 + 24 * t + 3)
theorem SQ.serve {u w : Row} {dn : Int → Int → Int} {hr x : Int} {m : Int → Int} (hu : QK u) (h : SQ u dn hr m w) (x0 : 0 ≤ x) (x1 : x < u 7) (hM : ∀ o, 0 ≤ m o) (hd : ∀ k, m x ≤ k → k < m x + u (12 + 68 * x + 1) → dn x k = hr) : SQ u dn hr (fun o => if o = x then m x + u (12 + 68 * x + 1) else m o) (W_222 x w) := by
  have hm := hM x
  obtain ⟨⟨n0, n1⟩, uo, ud⟩ := hu
  obtain ⟨a0, a1, a2, a3, a4, a5, a6, a7⟩ := h
  obtain ⟨⟨l0, l1⟩, ⟨d0, d1⟩, -, sl⟩ := uo x x0 x1
  obtain ⟨b1, b2⟩ := a4 x x0 x1
  have wd : w (12 + 68 * x + 1) = u (12 + 68 * x + 1) := a2 x 1 x0 x1 (by decide) (by decide)
  have wl : 0 ≤ w (12 + 68 * x + 5) ∧ w (12 + 68 * x + 5) ≤ 61 := by
    rw [b1]
    split <;> omega
  have wk : ∀ k, 0 ≤ k → k < w (12 + 68 * x + 5) → k + m x < u (12 + 68 * x + 5) ∧ w (12 + 68 * x + 7 + k) = u (12 + 68 * x + 7 + (k + m x)) := fun k p q => by
    rw [b1] at q
    by_cases c : m x < u (12 + 68 * x + 5)
    · rw [if_pos c] at q
      exact ⟨by omega, b2 k p (by omega)⟩
    · rw [if_neg c] at q
      omega
  have s := srv222 (o := x) (w := w) ⟨x0, by omega⟩ wl (fun k p q => by rw [(wk k p q).2]; exact sl _ (by omega) (wk k p q).1) (by rw [wd]; exact ⟨d0, d1⟩)
  rw [wd] at s
  have rl : min (u (12 + 68 * x + 1)) (w (12 + 68 * x + 5)) ≤ w (12 + 68 * x + 5) := Int.min_le_right _ _
  have rd : min (u (12 + 68 * x + 1)) (w (12 + 68 * x + 5)) ≤ u (12 + 68 * x + 1) := Int.min_le_left _ _
  have r0 : 0 ≤ min (u (12 + 68 * x + 1)) (w (12 + 68 * x + 5)) := by omega
  have rc : min (u (12 + 68 * x + 1)) (w (12 + 68 * x + 5)) = u (12 + 68 * x + 1) ∨ min (u (12 + 68 * x + 1)) (w (12 + 68 * x + 5)) = w (12 + 68 * x + 5) := by omega
  generalize min (u (12 + 68 * x + 1)) (w (12 + 68 * x + 5)) = r at *
  generalize W_222 x w = v at *
  obtain ⟨s1, s2, s3, s4⟩ := s
  -- what lies outside
  have out : ∀ i, i < 452 → ¬ (12 + 68 * x + 5 ≤ i ∧ i < 12 + 68 * x + 68) → v i = w i := fun i hi hn => s4 i (fun k p q => by have := wk k p (by omega); have := sl (k + m x) (by omega) this.1; omega) (by omega)
  have tick : ∀ t f, 0 ≤ t → t ≤ 60 → 0 ≤ f → f < 24 → (∀ k, 0 ≤ k → k < r → ¬ u (12 + 68 * x + 7 + (k + m x)) = t) ∨ (¬ f = 4 ∧ ¬ f = 3) → v (452 + 24 * t + f) = w (452 + 24 * t + f) := fun t f t0 t1 f0 f1 hn => s4 _ (fun k p q => by
    have e := (wk k p (by omega)).2
    rw [e]
    rcases hn with hn | hn
    · have := hn k p q
      omega
    · omega) (by omega)
  have now : ∀ k, m x ≤ k → k < u (12 + 68 * x + 5) → k < m x + u (12 + 68 * x + 1) → v (452 + 24 * u (12 + 68 * x + 7 + k) + 4) = 1 ∧ v (452 + 24 * u (12 + 68 * x + 7 + k) + 3) = dn x k := fun k p q z => by
    have c : m x < u (12 + 68 * x + 5) := by omega
    rw [if_pos c] at b1
    have := s3 (k - m x) (by omega) (by omega)
    rw [(wk (k - m x) (by omega) (by omega)).2, show k - m x + m x = k by omega, a0] at this
    rw [hd k p z]
    exact this
  refine ⟨by rw [out 0 (by omega) (by omega)]; exact a0, fun i p q => by rw [out i (by omega) (by omega)]; exact a1 i p q, fun o j p q y z => by rw [out _ (by omega) (by omega)]; exact a2 o j p q y z, ?_, fun o p q => ⟨?_, fun k y z => ?_⟩, fun t f p q y z => by rw [tick t f p q y (by omega) (Or.inr ⟨by omega, by omega⟩)]; exact a5 t f p q y z, fun o k p q y z => ⟨fun hk => ?_, fun hk => ?_⟩, fun t p q hn => ?_⟩
  · obtain ⟨h9, h10, h11, hk, hj, ht⟩ := a3
    have hi : ∀ i, 1916 ≤ i → v i = w i := fun i hi => s4 i (fun k p q => by have := wk k p (by omega); have := sl (k + m x) (by omega) this.1; omega) (by omega)
    have o9 := out 9 (by omega) (by omega)
    have o10 := out 10 (by omega) (by omega)
    have o11 := out 11 (by omega) (by omega)
    refine ⟨by rw [o9]; exact h9, by rw [o10]; exact h10, by rw [o11]; exact h11, fun k p q => by rw [hi _ (by omega)]; exact hk k p (by omega), fun j p q => by rw [hi _ (by omega), o10]; exact hj j p (by omega), fun t p q => ?_⟩
    rw [tick t 0 p (by omega) (by decide) (by decide) (Or.inr ⟨by decide, by decide⟩)]
    exact ht t p (by omega)
  · by_cases e : o = x
    · subst e
      show v (12 + 68 * o + 5) = if (if o = o then m o + u (12 + 68 * o + 1) else m o) < u (12 + 68 * o + 5) then u (12 + 68 * o + 5) - (if o = o then m o + u (12 + 68 * o + 1) else m o) else 0
      rw [if_pos rfl, s1, b1]
      rw [b1] at rl rc
      by_cases c : m o < u (12 + 68 * o + 5)
      · rw [if_pos c] at rl rc ⊢
        by_cases c2 : m o + u (12 + 68 * o + 1) < u (12 + 68 * o + 5)
        · rw [if_pos c2]; omega
        · rw [if_neg c2]; omega
      · rw [if_neg c] at rl rc ⊢
        rw [if_neg (by omega)]
        omega
    · show v (12 + 68 * o + 5) = if (if o = x then m x + u (12 + 68 * x + 1) else m o) < u (12 + 68 * o + 5) then u (12 + 68 * o + 5) - (if o = x then m x + u (12 + 68 * x + 1) else m o) else 0
      rw [if_neg e, out _ (by omega) (by omega)]
      exact (a4 o p q).1
  · have zz : k < u (12 + 68 * o + 5) - (if o = x then m x + u (12 + 68 * x + 1) else m o) := z
    show v (12 + 68 * o + 7 + k) = u (12 + 68 * o + 7 + (k + (if o = x then m x + u (12 + 68 * x + 1) else m o)))
    by_cases e : o = x
    · subst e
      rw [if_pos rfl] at zz ⊢
      rw [if_pos (by omega)] at b1
      rw [s2 k y (by omega), show 12 + 68 * o + 7 + k + r = 12 + 68 * o + 7 + (k + r) by omega, b2 (k + r) (by omega) (by omega)]
      congr 1
      omega
    · rw [if_neg e] at zz ⊢
      have l := (uo o p q).1.2
      have := hM o
      rw [out _ (by omega) (by omega)]
      exact (a4 o p q).2 k y zz
  · have hk : k < (if o = x then m x + u (12 + 68 * x + 1) else m o) := hk
    have st := (uo o p q).2.2.2 k y z
    by_cases c : o = x ∧ m x ≤ k
    · obtain ⟨e, c⟩ := c
      subst e
      rw [if_pos rfl] at hk
      exact now k c z hk
    · have hk' : k < m o := by
        by_cases e : o = x
        · subst e; omega
        · rw [if_neg e] at hk; exact hk
      have nn : ∀ j, 0 ≤ j → j < r → ¬ u (12 + 68 * x + 7 + (j + m x)) = u (12 + 68 * o + 7 + k) := fun j y1 y2 e => by
        have := ud x (j + m x) o k x0 x1 (by omega) (wk j y1 (by omega)).1 p q y z e
        obtain ⟨e1, e2⟩ := this
        subst e1
        omega
      rw [tick _ 4 st.1 st.2 (by decide) (by decide) (Or.inl nn), tick _ 3 st.1 st.2 (by decide) (by decide) (Or.inl nn)]
      exact (a6 o k p q y z).1 hk'
  · have hk : (if o = x then m x + u (12 + 68 * x + 1) else m o) ≤ k := hk
    have st := (uo o p q).2.2.2 k y z
    have hk' : m o ≤ k := by
      by_cases e : o = x
      · subst e; rw [if_pos rfl] at hk; omega
      · rw [if_neg e] at hk; exact hk
    have nn : ∀ j, 0 ≤ j → j < r → ¬ u (12 + 68 * x + 7 + (j + m x)) = u (12 + 68 * o + 7 + k) := fun j y1 y2 e => by
      have := ud x (j + m x) o k x0 x1 (by omega) (wk j y1 (by omega)).1 p q y z e
      obtain ⟨e1, e2⟩ := this
      subst e1
      rw [if_pos rfl] at hk
      omega
    rw [tick _ 4 st.1 st.2 (by decide) (by decide) (Or.inl nn), tick _ 3 st.1 st.2 (by decide) (by decide) (Or.inl nn)]
    exact (a6 o k p q y z).2 hk'
  · have nn : ∀ j, 0 ≤ j → j < r → ¬ u (12 + 68 * x + 7 + (j + m x)) = t := fun j y1 y2 => hn x (j + m x) x0 x1 (by omega) (wk j y1 (by omega)).1
    rw [tick _ 4 p q (by decide) (by decide) (Or.inl nn), tick _ 3 p q (by decide) (by decide) (Or.inl nn)]
    exact a7 t p q hn
/-! ===== rows: an hour, and many ===== -/
theorem SQ.cong {u w : Row} {dn : Int → Int → Int} {hr : Int} {m m' : Int → Int} (h : SQ u dn hr m w) (e : ∀ o, 0 ≤ o → o < u 7 → m' o = m o) : SQ u dn hr m' w := by
  obtain ⟨a0, a1, a2, a3, a4, a5, a6, a7⟩ := h
  refine ⟨a0, a1, a2, a3, fun o p q => ?_, a5, fun o k p q => ?_, a7⟩
  · rw [e o p q]
    exact a4 o p q
  · rw [e o p q]
    exact a6 o k p q
theorem SQ.ce {u w w' : Row} {dn : Int → Int → Int} {hr : Int} {m : Int → Int} (hu : QK u) (hm : ∀ o, 0 ≤ m o) (h : SQ u dn hr m w) (e : CE w w') (r : RT w') : SQ u dn hr m w' := by
  obtain ⟨⟨n0, n1⟩, uo, ud⟩ := hu
  obtain ⟨a0, a1, a2, a3, a4, a5, a6, a7⟩ := h
  refine ⟨by rw [e 0 (by omega)]; exact a0, fun i p q => by rw [e i (by omega)]; exact a1 i p q, fun o j p q y z => by rw [e _ (by omega)]; exact a2 o j p q y z, r, fun o p q => ⟨?_, fun k y z => ?_⟩, fun t f p q y z => by rw [e _ (by omega)]; exact a5 t f p q y z, fun o k p q y z => ?_, fun t p q hn => ?_⟩
  · rw [e _ (by omega)]
    exact (a4 o p q).1
  · have := (uo o p q).1.2
    have := hm o
    rw [e _ (by omega)]
    exact (a4 o p q).2 k y z
  · have st := (uo o p q).2.2.2 k y z
    rw [e (452 + 24 * u (12 + 68 * o + 7 + k) + 4) (by omega), e (452 + 24 * u (12 + 68 * o + 7 + k) + 3) (by omega)]
    exact a6 o k p q y z
  · rw [e (452 + 24 * t + 4) (by omega), e (452 + 24 * t + 3) (by omega)]
    exact a7 t p q hn
def upM (u : Row) (hr x : Int) (m : Int → Int) (o : Int) : Int := if x ≤ o ∧ ¬ u (12 + 68 * o + 4) = 0 ∧ hr % u (12 + 68 * o + 2) = 0 then m o + u (12 + 68 * o + 1) else m o
theorem SQ.offices {u : Row} {dn : Int → Int → Int} {hr : Int} (hu : QK u) : ∀ (n : Nat) (x : Int) (m : Int → Int) (w : Row), SQ u dn hr m w → 0 ≤ x → x ≤ u 7 → u 7 - x ≤ (n : Int) → (∀ o, 0 ≤ m o) → (∀ o k, x ≤ o → o < u 7 → ¬ u (12 + 68 * o + 4) = 0 → hr % u (12 + 68 * o + 2) = 0 → m o ≤ k → k < m o + u (12 + 68 * o + 1) → dn o k = hr) → (∀ o, 0 ≤ o → o < u 7 → 0 ≤ u (12 + 68 * o + 1)) → SQ u dn hr (upM u hr x m) (LP_223_12 n x w) := by
  have stop : ∀ (r : Int → Row → Row) (x : Int) (m : Int → Int) (w : Row), SQ u dn hr m w → x = u 7 → (∀ o, 0 ≤ m o) → SQ u dn hr (upM u hr x m) (ST_223_12 r x w) := fun r x m w h hx hm => by
    have w7 := h.2.1 7 (by decide) (by decide)
    unfold ST_223_12
    rw [if_neg (by omega)]
    obtain ⟨q1, q2⟩ := wk223 (61 - 0 : Int).toNat 0 w (by decide) h.2.2.2.1
    refine (h.ce hu hm q1 q2).cong (fun o p q => ?_)
    unfold upM
    rw [if_neg (by omega)]
  intro n
  induction n with
  | zero => exact fun x m w h h0 h1 h2 hm hd hD => stop _ x m w h (by omega) hm
  | succ n ih =>
    intro x m w h h0 h1 h2 hm hd hD
    by_cases c : x < u 7
    · have w7 := h.2.1 7 (by decide) (by decide)
      have w4 := h.2.2.1 x 4 h0 c (by decide) (by decide)
      have w2 := h.2.2.1 x 2 h0 c (by decide) (by decide)
      have w0 := h.1
      by_cases c4 : u (12 + 68 * x + 4) = 0
      · have e : LP_223_12 (n + 1) x w = LP_223_12 n (x + 1) w := by
          show ST_223_12 _ x w = _
          unfold ST_223_12
          rw [w7, if_pos c, w4, if_pos c4]
        rw [e]
        refine (ih (x + 1) m w h (by omega) (by omega) (by omega) hm (fun o k a => hd o k (by omega)) hD).cong (fun o p q => ?_)
        unfold upM
        by_cases z : o = x
        · subst z
          rw [if_neg (fun y => y.2.1 c4), if_neg (by omega)]
        · by_cases y : x ≤ o ∧ ¬ u (12 + 68 * o + 4) = 0 ∧ hr % u (12 + 68 * o + 2) = 0
          · rw [if_pos y, if_pos ⟨by omega, y.2⟩]
          · rw [if_neg y, if_neg (fun b => y ⟨by omega, b.2⟩)]
      · by_cases c2 : hr % u (12 + 68 * x + 2) = 0
        · have e : LP_223_12 (n + 1) x w = LP_223_12 n (x + 1) (W_222 x w) := by
            show ST_223_12 _ x w = _
            unfold ST_223_12
            rw [w7, if_pos c, w4, if_neg c4, w0, w2, if_pos c2]
          rw [e]
          have hs := h.serve hu h0 c hm (fun k p q => hd x k (Int.le_refl _) c c4 c2 p q)
          refine (ih (x + 1) _ _ hs (by omega) (by omega) (by omega) (fun o => ?_) (fun o k a b p q => ?_) hD).cong (fun o p q => ?_)
          · show 0 ≤ if o = x then m x + u (12 + 68 * x + 1) else m o
            have := hD x h0 c
            have := hm x
            have := hm o
            split <;> omega
          · show (if o = x then m x + u (12 + 68 * x + 1) else m o) ≤ k → k < (if o = x then m x + u (12 + 68 * x + 1) else m o) + u (12 + 68 * o + 1) → dn o k = hr
            rw [if_neg (by omega)]
            exact hd o k (by omega) b p q
          · unfold upM
            by_cases z : o = x
            · subst z
              rw [if_pos ⟨Int.le_refl _, c4, c2⟩, if_neg (by omega)]
              show _ = if o = o then m o + u (12 + 68 * o + 1) else m o
              rw [if_pos rfl]
            · show (if x ≤ o ∧ ¬ u (12 + 68 * o + 4) = 0 ∧ hr % u (12 + 68 * o + 2) = 0 then m o + u (12 + 68 * o + 1) else m o) = if x + 1 ≤ o ∧ ¬ u (12 + 68 * o + 4) = 0 ∧ hr % u (12 + 68 * o + 2) = 0 then (if o = x then m x + u (12 + 68 * x + 1) else m o) + u (12 + 68 * o + 1) else (if o = x then m x + u (12 + 68 * x + 1) else m o)
              rw [if_neg z]
              by_cases y : x ≤ o ∧ ¬ u (12 + 68 * o + 4) = 0 ∧ hr % u (12 + 68 * o + 2) = 0
              · rw [if_pos y, if_pos ⟨by omega, y.2⟩]
              · rw [if_neg y, if_neg (fun b => y ⟨by omega, b.2⟩)]
        · have e : LP_223_12 (n + 1) x w = LP_223_12 n (x + 1) w := by
            show ST_223_12 _ x w = _
            unfold ST_223_12
            rw [w7, if_pos c, w4, if_neg c4, w0, w2, if_neg c2]
          rw [e]
          refine (ih (x + 1) m w h (by omega) (by omega) (by omega) hm (fun o k a => hd o k (by omega)) hD).cong (fun o p q => ?_)
          unfold upM
          by_cases z : o = x
          · subst z
            rw [if_neg (fun y => c2 y.2.2), if_neg (by omega)]
          · by_cases y : x ≤ o ∧ ¬ u (12 + 68 * o + 4) = 0 ∧ hr % u (12 + 68 * o + 2) = 0
            · rw [if_pos y, if_pos ⟨by omega, y.2⟩]
            · rw [if_neg y, if_neg (fun b => y ⟨by omega, b.2⟩)]
    · exact stop _ x m w h (by omega) hm
theorem SQ.hour {u w : Row} {dn : Int → Int → Int} {hr : Int} {m : Int → Int} (hu : QK u) (h : SQ u dn hr m w) (hm : ∀ o, 0 ≤ m o) (hd : ∀ o k, 0 ≤ o → o < u 7 → ¬ u (12 + 68 * o + 4) = 0 → (hr + 1) % u (12 + 68 * o + 2) = 0 → m o ≤ k → k < m o + u (12 + 68 * o + 1) → dn o k = hr + 1) : SQ u dn (hr + 1) (upM u (hr + 1) 0 m) (W_223 w) := by
  have n7 := hu.1
  have h1 : SQ u dn (hr + 1) m (ws w 0 (w 0 + 1)) := by
    obtain ⟨a0, a1, a2, a3, a4, a5, a6, a7⟩ := h
    have e : ∀ i, ¬ i = 0 → ws w 0 (w 0 + 1) i = w i := fun i hi => wsn hi
    refine ⟨by rw [wse rfl, a0], fun i p q => by rw [e i (by omega)]; exact a1 i p q, fun o j p q y z => by rw [e _ (by omega)]; exact a2 o j p q y z, ?_, fun o p q => ⟨?_, fun k y z => ?_⟩, fun t f p q y z => by rw [e _ (by omega)]; exact a5 t f p q y z, fun o k p q y z => ?_, fun t p q hn => ?_⟩
    · obtain ⟨h9, h10, h11, hk, hj, ht⟩ := a3
      exact ⟨by rw [e 9 (by omega)]; exact h9, by rw [e 10 (by omega)]; exact h10, by rw [e 11 (by omega)]; exact h11, fun k p q => by rw [e _ (by omega)]; exact hk k p (by rw [e 10 (by omega)] at q; exact q), fun j p q => by rw [e _ (by omega), e 10 (by omega)]; exact hj j p (by rw [e 11 (by omega)] at q; exact q), fun t p q => by rw [e _ (by omega)]; exact ht t p (by rw [e 9 (by omega)] at q; exact q)⟩
    · rw [e _ (by omega)]
      exact (a4 o p q).1
    · rw [e _ (by omega)]
      exact (a4 o p q).2 k y z
    · have st := (hu.2.1 o p q).2.2.2 k y z
      rw [e (452 + 24 * u (12 + 68 * o + 7 + k) + 4) (by omega), e (452 + 24 * u (12 + 68 * o + 7 + k) + 3) (by omega)]
      exact a6 o k p q y z
    · rw [e (452 + 24 * t + 4) (by omega), e (452 + 24 * t + 3) (by omega)]
      exact a7 t p q hn
  exact SQ.offices hu (6 - 0 : Int).toNat 0 m _ h1 (by decide) n7.1 (by omega) hm (fun o k a => hd o k a) (fun o p q => (hu.2.1 o p q).2.1.1)
theorem hoursW_s : ∀ (n : Nat) (w : Row), hoursW (n + 1) w = W_223 (hoursW n w)
  | 0, _ => rfl
  | n + 1, w => hoursW_s n (W_223 w)
theorem divS {x P : Int} (hP : 1 ≤ P) : (x + 1) / P = if (x + 1) % P = 0 then x / P + 1 else x / P := by
  have a := Int.mul_ediv_add_emod x P
  have b0 := Int.emod_nonneg x (show P ≠ 0 by omega)
  have b1 := Int.emod_lt_of_pos x (show 0 < P by omega)
  generalize x / P = q at *
  generalize x % P = r at *
  by_cases c : r + 1 = P
  · have := (Int.ediv_emod_unique (show 0 < P by omega) (a := x + 1) (q := q + 1) (r := 0)).mpr ⟨by rw [Int.mul_add, Int.mul_one]; omega, by omega, by omega⟩
    rw [this.2, if_pos rfl]
    exact this.1
  · have := (Int.ediv_emod_unique (show 0 < P by omega) (a := x + 1) (q := q) (r := r + 1)).mpr ⟨by omega, by omega, by omega⟩
    rw [this.2, if_neg (by omega)]
    exact this.1
def cM (u : Row) (n o : Int) : Int := if 0 ≤ o ∧ o < u 7 ∧ ¬ u (12 + 68 * o + 4) = 0 then u (12 + 68 * o + 1) * ((u 0 + n) / u (12 + 68 * o + 2) - u 0 / u (12 + 68 * o + 2)) else 0
def dN (u : Row) (o k : Int) : Int := (u 0 / u (12 + 68 * o + 2) + k / u (12 + 68 * o + 1) + 1) * u (12 + 68 * o + 2)
theorem cM_nn {u : Row} (hu : QK u) {n : Int} (hn : 0 ≤ n) (o : Int) : 0 ≤ cM u n o := by
  unfold cM
  by_cases c : 0 ≤ o ∧ o < u 7 ∧ ¬ u (12 + 68 * o + 4) = 0
  · rw [if_pos c]
    obtain ⟨-, d, p, -⟩ := hu.2.1 o c.1 c.2.1
    refine Int.mul_nonneg d.1 ?_
    have := Int.ediv_le_ediv (show 0 < u (12 + 68 * o + 2) by omega) (show u 0 ≤ u 0 + n by omega)
    omega
  · rw [if_neg c]
    exact Int.le_refl _
theorem SQ.hours {u : Row} (hu : QK u) (hr : RT u) : ∀ n : Nat, SQ u (dN u) (u 0 + (n : Int)) (cM u (n : Int)) (hoursW n u) := by
  intro n
  induction n with
  | zero =>
    have z : ∀ o, cM u ((0 : Nat) : Int) o = 0 := fun o => by
      unfold cM
      split
      · rw [show u 0 + ((0 : Nat) : Int) = u 0 by omega, Int.sub_self, Int.mul_zero]
      · rfl
    refine ⟨by show u 0 = _; omega, fun _ _ _ => rfl, fun _ _ _ _ _ _ => rfl, hr, fun o p q => ⟨?_, fun k _ _ => ?_⟩, fun _ _ _ _ _ _ => rfl, fun o k p q y _ => ⟨fun h => ?_, fun _ => ⟨rfl, rfl⟩⟩, fun _ _ _ _ => ⟨rfl, rfl⟩⟩
    · show u (12 + 68 * o + 5) = _
      have := (hu.2.1 o p q).1
      rw [z]
      split <;> omega
    · show u (12 + 68 * o + 7 + k) = _
      rw [z, Int.add_zero]
    · rw [z] at h
      omega
  | succ n ih =>
    have nn := cM_nn hu (show (0 : Int) ≤ (n : Int) by omega)
    have e1 : ∀ o, 0 ≤ o → o < u 7 → ¬ u (12 + 68 * o + 4) = 0 → cM u (n : Int) o = u (12 + 68 * o + 1) * ((u 0 + (n : Int)) / u (12 + 68 * o + 2) - u 0 / u (12 + 68 * o + 2)) := fun o p q y => by
      unfold cM
      rw [if_pos ⟨p, q, y⟩]
    have step := ih.hour hu nn (fun o k p q y hdv k0 k1 => by
      obtain ⟨-, d, pp, -⟩ := hu.2.1 o p q
      have dv := divS (x := u 0 + (n : Int)) pp
      rw [if_pos hdv] at dv
      rw [e1 o p q y] at k0 k1
      have em := Int.mul_ediv_add_emod (u 0 + (n : Int) + 1) (u (12 + 68 * o + 2))
      rw [hdv, dv, Int.add_zero] at em
      unfold dN
      generalize (u 0 + (n : Int)) / u (12 + 68 * o + 2) = a at *
      generalize u 0 / u (12 + 68 * o + 2) = b at *
      generalize u (12 + 68 * o + 1) = D at *
      generalize u (12 + 68 * o + 2) = P at *
      have ek : k / D = a - b := ((Int.ediv_emod_unique (show 0 < D by omega) (a := k) (q := a - b) (r := k - D * (a - b))).mpr ⟨by omega, by omega, by omega⟩).1
      rw [ek, show b + (a - b) + 1 = a + 1 by omega, Int.mul_comm]
      exact em)
    rw [hoursW_s]
    have : u 0 + ((n + 1 : Nat) : Int) = u 0 + (n : Int) + 1 := by omega
    rw [this]
    refine step.cong (fun o p q => ?_)
    unfold upM
    by_cases y : u (12 + 68 * o + 4) = 0
    · rw [if_neg (fun z => z.2.1 y)]
      unfold cM
      rw [if_neg (fun z => z.2.2 y), if_neg (fun z => z.2.2 y)]
    · have pp := (hu.2.1 o p q).2.2.1
      have dv := divS (x := u 0 + (n : Int)) pp
      rw [e1 o p q y]
      unfold cM
      rw [if_pos ⟨p, q, y⟩, this, dv]
      by_cases c : (u 0 + (n : Int) + 1) % u (12 + 68 * o + 2) = 0
      · rw [if_pos c, if_pos ⟨p, y, c⟩, show (u 0 + (n : Int)) / u (12 + 68 * o + 2) + 1 - u 0 / u (12 + 68 * o + 2) = ((u 0 + (n : Int)) / u (12 + 68 * o + 2) - u 0 / u (12 + 68 * o + 2)) + 1 by omega, Int.mul_add, Int.mul_one]
      · rw [if_neg c, if_neg (fun z => c z.2.2)]
/-! ===== queries: served in, queue in ===== -/
theorem GG.qk {w : Row} (hg : GG w) : QK w := by
  obtain ⟨hN, hO, hQ, hT, -⟩ := hg
  obtain ⟨n7, n8, n9, -⟩ := hN
  refine ⟨n7, fun o p q => ?_, fun o k o' k' p q y z p' q' y' z' e => ?_⟩
  · obtain ⟨u1, u2, u3, u4, u5, u6, u7⟩ := hO o p q
    exact ⟨by omega, by omega, u2.1, fun k y z => by have := (hQ o p q k y z).1; omega⟩
  · obtain ⟨a1, a2, a3, a4⟩ := hQ o p q k y z
    obtain ⟨b1, b2, b3, b4⟩ := hQ o' p' q' k' y' z'
    have eo : o = o' := by
      rw [e, b2] at a2
      exact a2.symm
    subst eo
    refine ⟨rfl, ?_⟩
    rcases Int.lt_trichotomy k k' with c | c | c
    · exact absurd (by rw [e]) (b4 k y c).2
    · exact c
    · exact absurd (by rw [e]) (a4 k' y' c).2
theorem lq263 {t : Int} {u : Row} {v : Int} (h1 : ∀ x : Nat, (x : Int) < v → (x : Int) ≤ 200 → ¬ hoursW x u (452 + 24 * t + 4) = 1) (h2 : v ≤ 200 → hoursW v.toNat u (452 + 24 * t + 4) = 1) (hv : 0 ≤ v ∧ v ≤ 201) : ∀ (n : Nat) (x : Nat) (E : mD), E 770 = hoursW x u → (x : Int) ≤ v → x + n = 201 → (lp_263_2 769 t n (x : Int) E).1 = v := by
  have stop : ∀ (r : Int → mD → Int × mD) (x : Nat) (E : mD), E 770 = hoursW x u → (x : Int) = v → (st_263_2 769 t r (x : Int) E).1 = v := fun r x E hE hx => by
    unfold st_263_2
    by_cases c : 200 < (x : Int)
    · rw [if_pos c]; exact hx
    · have := h2 (by omega)
      rw [show v.toNat = x by omega] at this
      rw [if_neg c, n7691, hE, if_pos this]
      exact hx
  intro n
  induction n with
  | zero => exact fun x E hE hx hn => stop _ x E hE (by omega)
  | succ n ih =>
    intro x E hE hx hn
    by_cases c : (x : Int) = v
    · exact stop _ x E hE c
    · have e : lp_263_2 769 t (n + 1) (x : Int) E = lp_263_2 769 t n ((x : Int) + 1) (g_223 769 E) := by
        show st_263_2 769 t _ (x : Int) E = _
        unfold st_263_2
        rw [if_neg (by omega), n7691, hE, if_neg (h1 x (by omega) (by omega))]
      rw [e]
      exact ih (x + 1) (g_223 769 E) (by rw [m_g_223, rset_at, hE, hoursW_s]) (by omega) (by omega)
theorem v263 {t : Int} {u : Row} {v : Int} {E : mD} (hE : E 770 = u) (h1 : ∀ x : Nat, (x : Int) < v → (x : Int) ≤ 200 → ¬ hoursW x u (452 + 24 * t + 4) = 1) (h2 : v ≤ 200 → hoursW v.toNat u (452 + 24 * t + 4) = 1) (hv : 0 ≤ v ∧ v ≤ 201) : v_263 769 t E = v := lq263 h1 h2 hv (201 - 0 : Int).toNat 0 E hE hv.1 (by decide)
theorem mmax1 {x : Int} (h : 1 ≤ x) : mmax 1 x = x := by
  rcases mmax_r 1 x with a | a
  · omega
  · exact a.1
-- when the place is served
theorem servedAt {u : Row} (hu : QK u) {o k : Int} (o0 : 0 ≤ o) (o1 : o < u 7) (ho : ¬ u (12 + 68 * o + 4) = 0) (hd : 1 ≤ u (12 + 68 * o + 1)) (x : Int) : k < cM u x o ↔ dN u o k - u 0 ≤ x := by
  obtain ⟨-, d, p, -⟩ := hu.2.1 o o0 o1
  unfold cM dN
  rw [if_pos ⟨o0, o1, ho⟩]
  generalize u (12 + 68 * o + 1) = D at *
  generalize u (12 + 68 * o + 2) = P at *
  generalize u 0 = h at *
  rw [Int.mul_comm D, ← Int.ediv_lt_iff_lt_mul (show 0 < D by omega)]
  have b := Int.le_ediv_iff_mul_le (a := h / P + k / D + 1) (b := h + x) (show 0 < P by omega)
  constructor
  · intro y
    have := b.mp (by omega)
    omega
  · intro y
    have := b.mpr (by omega)
    omega
theorem qpServed {d : mD} {a : Int} (hk : OKR 1 d (d 770)) : QP (g_318 0 a 778 d) (g_264 769 a (g_318 0 a 778 d)) (v_318 0 a 778 d) (v_264 769 a (g_318 0 a 778 d)) := by
  obtain ⟨hg, -, -, ht, hr⟩ := id hk
  have o9 : d 50 0 = d 770 9 := hr.2.2.2.2.1.1
  have hh : d 1 2 = d 770 0 := hr.1.2.1
  have n0 := hg.1.2.2.2.2.2.1
  have hu := hg.qk
  unfold v_318 g_318
  rw [n01, n49, show (50 : Int) + 5 = 55 by decide, show (50 : Int) + 2 = 52 by decide, show (1 : Int) + 2 = 3 by decide, o9, hh, ifR, ifR]
  by_cases c : 0 ≤ a ∧ a < d 770 9
  · rw [if_pos c, if_pos c]
    obtain ⟨t1, t2, t3, t4, t5⟩ := hr.2.2.2.2.1.2 a c.1 c.2
    have t2 : d 52 a = d 770 (452 + 24 * a + 1) := t2
    have t5 : d 55 a = d 770 (452 + 24 * a + 4) := t5
    obtain ⟨g1, g2, g3, g4, g5, g6⟩ := hg.2.2.2.1 a c.1 c.2
    -- the reference's answer
    have rf : ∀ (D : mD) (v : Int), D 770 = d 770 → v_263 769 a (g_255 769 (mset D 769 0 0)) = v → (g_264 769 a D 769 0 = if 200 < v then 2 else 0) ∧ v_264 769 a D = if 200 < v then 0 else v := fun D v h7 hv => by
      unfold g_264 v_264
      rw [v238, h7, if_pos c, if_neg (show ¬ (1 : Int) = 0 by decide), if_neg (show ¬ (1 : Int) = 0 by decide), hv]
      refine ⟨?_, rfl⟩
      by_cases z : 200 < v
      · rw [if_pos z, if_pos z, ms_e rfl rfl]
      · rw [if_neg z, if_neg z, ms_e rfl rfl]
    have e7 : ∀ D : mD, D 770 = d 770 → g_255 769 (mset D 769 0 0) 770 = d 770 := fun D h7 => by rw [c255.1 770 (by decide), o769 (by decide), h7]
    have never : (∀ x : Nat, (x : Int) ≤ 200 → ¬ hoursW x (d 770) (452 + 24 * a + 4) = 1) → QP d (g_264 769 a d) 2 (v_264 769 a d) := fun hn => by
      have r := rf d 201 rfl (v263 (e7 d rfl) (fun x _ y => hn x y) (fun y => absurd y (by decide)) (by decide))
      rw [if_pos (by decide)] at r
      exact ⟨r.1, fun z => absurd z (by decide)⟩
    have at_ : ∀ v : Int, 0 ≤ v → v ≤ 200 → (∀ x : Nat, (x : Int) < v → ¬ hoursW x (d 770) (452 + 24 * a + 4) = 1) → hoursW v.toNat (d 770) (452 + 24 * a + 4) = 1 → QP (mset d 778 0 v) (g_264 769 a (mset d 778 0 v)) 0 (v_264 769 a (mset d 778 0 v)) := fun v v0 v1 hn hs => by
      have h7 : mset d 778 0 v 770 = d 770 := o778 (by decide)
      have r := rf (mset d 778 0 v) v h7 (v263 (e7 _ h7) (fun x y _ => hn x y) (fun _ => hs) ⟨v0, by omega⟩)
      rw [if_neg (by omega), if_neg (by omega)] at r
      refine ⟨r.1, fun _ => ⟨?_, ?_⟩⟩
      · rw [r.2, ms_e rfl rfl]
      · rw [r.2]; exact inI.of (by omega)
    rw [t5, t2]
    by_cases s1 : d 770 (452 + 24 * a + 4) = 1
    · rw [if_pos s1, if_pos s1]
      exact at_ 0 (by decide) (by decide) (fun x y => by omega) s1
    · rw [if_neg s1, if_neg s1]
      by_cases s0 : d 770 (452 + 24 * a + 4) = 0
      · obtain ⟨p1, p2, p3, p4⟩ := placeIn hg hr c s0
        have p1 : v_39 3 (d 770 (452 + 24 * a + 1)) a d = V_221 a (d 770) := p1
        rw [p1]
        generalize V_221 a (d 770) = k at *
        generalize d 770 (452 + 24 * a + 1) = o at *
        obtain ⟨q0, q1, q2, q3, q4, q5⟩ := hr.2.1.2 o g2.1 g2.2
        have q1 : d 5 o = d 770 (12 + 68 * o + 1) := q1
        have q2 : d 6 o = d 770 (12 + 68 * o + 2) := q2
        obtain ⟨u1, u2, u3, u4, u5, u6, -⟩ := hg.2.1 o g2.1 g2.2
        have op : ¬ d 770 (12 + 68 * o + 4) = 0 := fun z => by have := u6 z; omega
        have e43 : v_43 3 o k (d 770 0) d = dN (d 770) o k - d 770 0 := by
          unfold v_43 dN
          rw [show (3 : Int) + 3 = 6 by decide, show (3 : Int) + 2 = 5 by decide, q1, q2, mmax1 u2.1, mmax1 u1.1, show d 770 0 / d 770 (12 + 68 * o + 2) + (k / d 770 (12 + 68 * o + 1) + 1) = d 770 0 / d 770 (12 + 68 * o + 2) + k / d 770 (12 + 68 * o + 1) + 1 by omega]
        have sv : ∀ x : Nat, hoursW x (d 770) (452 + 24 * a + 4) = 1 ↔ dN (d 770) o k - d 770 0 ≤ (x : Int) := fun x => by
          rw [← servedAt hu g2.1 g2.2 op u1.1 (x : Int)]
          have s := (SQ.hours hu hg.rt x).2.2.2.2.2.2.1 o k g2.1 g2.2 p2 p3
          rw [p4, s0] at s
          constructor
          · intro y
            by_cases z : k < cM (d 770) (x : Int) o
            · exact z
            · have := (s.2 (by omega)).1
              omega
          · exact fun y => (s.1 y).1
        have pos : 1 ≤ dN (d 770) o k - d 770 0 := by
          have : ¬ dN (d 770) o k - d 770 0 ≤ ((0 : Nat) : Int) := fun z => s1 ((sv 0).mpr z)
          omega
        have nk : ¬ k = -1 := by omega
        rw [if_neg nk, if_neg nk, e43]
        generalize dN (d 770) o k - d 770 0 = V at *
        by_cases c2 : 200 < V
        · rw [if_pos c2, if_pos c2]
          exact never (fun x hx y => by have := (sv x).mp y; omega)
        · rw [if_neg c2, if_neg c2]
          exact at_ V (by omega) (by omega) (fun x hx y => by have := (sv x).mp y; omega) ((sv _).mpr (by omega))
      · have nq : ∀ o k, 0 ≤ o → o < d 770 7 → 0 ≤ k → k < d 770 (12 + 68 * o + 5) → ¬ d 770 (12 + 68 * o + 7 + k) = a := fun o k p q y z e => by
          have := (hg.2.2.1 o p q k y z).2.2.1
          rw [e] at this
          exact s0 this
        have p1 : v_39 3 (d 770 (452 + 24 * a + 1)) a d = -1 := by
          obtain ⟨e1, e2⟩ := placeEq hg hr c
          have e1 : v_39 3 (d 770 (452 + 24 * a + 1)) a d = V_221 a (d 770) := e1
          rw [e1]
          rcases e2 with e2 | e2
          · exact e2.1
          · exact absurd e2.2.2 (nq _ _ g2.1 g2.2 e2.1 e2.2.1)
        rw [if_pos p1, if_pos p1]
        refine never (fun x _ y => ?_)
        have s := ((SQ.hours hu hg.rt x).2.2.2.2.2.2.2 a c.1 (by have := hg.1.2.2.1; omega) nq).1
        rw [s] at y
        exact s1 y
  · rw [if_neg c, if_neg c]
    have e : g_264 769 a d = mset d 769 0 1 := by
      unfold g_264
      rw [v238, if_neg c, if_pos rfl]
    rw [e]
    exact QP.fail (by decide)
/-! ===== queries: a queue in some hours ===== -/
theorem lp265 {o x : Int} : ∀ (n : Nat) (k : Int) (E : mD), 0 ≤ x - k → x - k ≤ (n : Int) → lp_265_48 769 o x n k E = (hoursW (x - k).toNat (E 770) (12 + 68 * o + 5), g_256 769 (rset E (hoursW (x - k).toNat (E 770)))) := by
  have stop : ∀ (r : Int → mD → Int × mD) (k : Int) (E : mD), x - k = 0 → st_265_48 769 o x r k E = (hoursW (x - k).toNat (E 770) (12 + 68 * o + 5), g_256 769 (rset E (hoursW (x - k).toNat (E 770)))) := fun r k E h => by
    rw [show (x - k).toNat = 0 by omega]
    show _ = (E 770 (12 + 68 * o + 5), g_256 769 (rset E (E 770)))
    rw [rset_self]
    unfold st_265_48
    rw [if_neg (by omega), n7691]
  intro n
  induction n with
  | zero => exact fun k E h0 h1 => stop _ k E (by omega)
  | succ n ih =>
    intro k E h0 h1
    by_cases c : k < x
    · have e : lp_265_48 769 o x (n + 1) k E = lp_265_48 769 o x n (k + 1) (g_223 769 E) := by
        show st_265_48 769 o x _ k E = _
        unfold st_265_48
        rw [if_pos c]
      rw [e, ih (k + 1) _ (by omega) (by omega), m_g_223, rset_rset, rset_at, show (x - k).toNat = (x - (k + 1)).toNat + 1 by omega]
      rfl
    · exact stop _ k E (by omega)
theorem qpQueueIn {d : mD} {a b : Int} (hk : OKR 1 d (d 770)) : QP (g_319 0 a b 778 d) (g_265 769 a b (g_319 0 a b 778 d)) (v_319 0 a b 778 d) (v_265 769 a b (g_319 0 a b 778 d)) := by
  obtain ⟨hg, -, -, ht, hr⟩ := id hk
  have o7 : d 3 0 = d 770 7 := hr.2.1.1
  have hh : d 1 2 = d 770 0 := hr.1.2.1
  have hu := hg.qk
  have v0 : ∀ D, v_176 b 0 200 D = if 0 ≤ b ∧ b ≤ 200 then 1 else 0 := fun D => v176
  unfold v_319 g_319
  rw [n01, show (1 : Int) + 2 = 3 by decide, o7, hh, ifR, ifR]
  by_cases c : 0 ≤ a ∧ a < d 770 7
  · rw [if_pos c, if_pos c]
    have bad : ¬ (0 ≤ b ∧ b ≤ 200) → QP d (g_265 769 a b d) 2 (v_265 769 a b d) := fun z => by
      have e : g_265 769 a b d = mset d 769 0 2 := by
        unfold g_265 f_265
        rw [v236, if_pos c, v0, if_neg z, if_neg (show ¬ (1 : Int) = 0 by decide), if_pos rfl]
      rw [e]
      exact QP.fail (by decide)
    by_cases c1 : b < 0
    · rw [if_pos c1, if_pos c1]
      exact bad (by omega)
    by_cases c2 : 200 < b
    · rw [if_neg c1, if_neg c1, if_pos c2, if_pos c2]
      exact bad (by omega)
    rw [if_neg c1, if_neg c1, if_neg c2, if_neg c2]
    obtain ⟨q0, q1, q2, q3, q4, q5⟩ := hr.2.1.2 a c.1 c.2
    have q1 : d 5 a = d 770 (12 + 68 * a + 1) := q1
    have q2 : d 6 a = d 770 (12 + 68 * a + 2) := q2
    have q5 : d 9 a = d 770 (12 + 68 * a + 5) := q5
    obtain ⟨u1, u2, u3, u4, u5, u6, -⟩ := hg.2.1 a c.1 c.2
    have s := ((SQ.hours hu hg.rt b.toNat).2.2.2.2.1 a c.1 c.2).1
    rw [show ((b.toNat : Nat) : Int) = b by omega] at s
    have nn := cM_nn hu (show 0 ≤ b by omega) a
    have e44 : v_44 3 a b (d 770 0) d = hoursW b.toNat (d 770) (12 + 68 * a + 5) := by
      have cm : cM (d 770) b a = if d 770 (12 + 68 * a + 4) = 0 then 0 else ((d 770 0 + b) / d 770 (12 + 68 * a + 2) - d 770 0 / d 770 (12 + 68 * a + 2)) * d 770 (12 + 68 * a + 1) := by
        unfold cM
        by_cases z : d 770 (12 + 68 * a + 4) = 0
        · rw [if_pos z, if_neg (fun y => y.2.2 z)]
        · rw [if_neg z, if_pos ⟨c.1, c.2, z⟩, Int.mul_comm]
      rw [s]
      unfold v_44
      rw [show (3 : Int) + 6 = 9 by decide, show (3 : Int) + 3 = 6 by decide, show (3 : Int) + 2 = 5 by decide, q1, q2, q5, mmax1 u2.1]
      by_cases z : d 770 (12 + 68 * a + 4) = 0
      · have l0 := u6 z
        rw [if_pos z] at cm
        rw [cm, l0, if_neg (by decide)]
        have p : 0 ≤ ((d 770 0 + b) / d 770 (12 + 68 * a + 2) - d 770 0 / d 770 (12 + 68 * a + 2)) * d 770 (12 + 68 * a + 1) := by
          refine Int.mul_nonneg ?_ (by omega)
          have := Int.ediv_le_ediv (show 0 < d 770 (12 + 68 * a + 2) by omega) (show d 770 0 ≤ d 770 0 + b by omega)
          omega
        rcases mmax_r 0 (0 - ((d 770 0 + b) / d 770 (12 + 68 * a + 2) - d 770 0 / d 770 (12 + 68 * a + 2)) * d 770 (12 + 68 * a + 1)) with y | y
        · exact y.1
        · omega
      · rw [if_neg z] at cm
        rw [← cm]
        rcases mmax_r 0 (d 770 (12 + 68 * a + 5) - cM (d 770) b a) with y | y
        · rw [y.1]
          split <;> omega
        · rw [y.1]
          split <;> omega
    rw [e44]
    generalize hV : hoursW b.toNat (d 770) (12 + 68 * a + 5) = V at *
    have vr : -100000 ≤ V ∧ V ≤ 100000 := by
      rw [s]
      split <;> omega
    have f : f_265 769 a b (mset d 778 0 V) = (V, g_256 769 (rset (g_255 769 (mset (mset d 778 0 V) 769 0 0)) (hoursW b.toNat (d 770)))) := by
      have r := lp265 (o := a) (x := b) (b - 0 : Int).toNat 0 (g_255 769 (mset (mset d 778 0 V) 769 0 0)) (by omega) (by omega)
      have e7 : g_255 769 (mset (mset d 778 0 V) 769 0 0) 770 = d 770 := by rw [c255.1 770 (by decide), o769 (by decide), o778 (by decide)]
      rw [e7, Int.sub_zero, hV] at r
      unfold f_265
      rw [v236, o778 (by decide), if_pos c, if_neg (show ¬ (1 : Int) = 0 by decide), v0, if_pos (show 0 ≤ b ∧ b ≤ 200 by omega), if_neg (show ¬ (1 : Int) = 0 by decide)]
      rw [Int.sub_zero]
      exact r
    have g0 : g_265 769 a b (mset d 778 0 V) 769 0 = 0 := by
      unfold g_265
      rw [f]
      show g_256 769 (rset (g_255 769 (mset (mset d 778 0 V) 769 0 0)) (hoursW b.toNat (d 770))) 769 0 = 0
      rw [c256.1 769 (by decide), rset_ne (by decide), c255.1 769 (by decide), ms_e rfl rfl]
    have gv : v_265 769 a b (mset d 778 0 V) = V := by
      unfold v_265
      rw [f]
    refine ⟨g0, fun _ => ⟨?_, ?_⟩⟩
    · rw [ms_e rfl rfl, gv]
    · rw [gv]
      exact inI.of vr
  · rw [if_neg c, if_neg c]
    have e : g_265 769 a b d = mset d 769 0 1 := by
      unfold g_265 f_265
      rw [v236, if_neg c, if_pos rfl]
    rw [e]
    exact QP.fail (by decide)
/-! ===== queries: served if, best office ===== -/
theorem newQK {w w' : Row} {o : Int} (hg : GG w) (o0 : 0 ≤ o) (o1 : o < w 7) (h : NewW 0 o w w') : QK w' ∧ RT w' ∧ w' 7 = w 7 ∧ w' 0 = w 0 ∧ (∀ j, 0 ≤ j → j ≤ 4 → w' (12 + 68 * o + j) = w (12 + 68 * o + j)) ∧ w' (12 + 68 * o + 5) = w (12 + 68 * o + 5) + 1 ∧ w' (12 + 68 * o + 7 + w (12 + 68 * o + 5)) = w 9 ∧ w' (452 + 24 * w 9 + 4) = 0 := by
  obtain ⟨⟨a0, a1, a2, a3, a4⟩, b, c, e, f⟩ := h
  obtain ⟨q7, qO, qI⟩ := hg.qk
  obtain ⟨r9, r10, r11, rk, rj, rt⟩ := hg.rt
  obtain ⟨hN, hO, hQ, hT, -⟩ := id hg
  obtain ⟨n7, n8, n9, -⟩ := id hN
  have L := (hO o o0 o1).2.2.2.2.1
  have f7 : w' 7 = w 7 := f 7 (by omega) (by omega) (by omega) (by decide)
  have fo : ∀ x j, 0 ≤ x → x < w 7 → 0 ≤ j → j ≤ 4 → w' (12 + 68 * x + j) = w (12 + 68 * x + j) := fun x j p q y z => f _ (by omega) (by omega) (by omega) (by omega)
  have fl : ∀ x, 0 ≤ x → x < w 7 → ¬ x = o → w' (12 + 68 * x + 5) = w (12 + 68 * x + 5) := fun x p q y => f _ (by omega) (by omega) (by omega) (by omega)
  have fq : ∀ x k, 0 ≤ x → x < w 7 → 0 ≤ k → k < w (12 + 68 * x + 5) → w' (12 + 68 * x + 7 + k) = w (12 + 68 * x + 7 + k) := fun x k p q y z => by
    have := (hO x p q).2.2.2.2.1
    have : ¬ (x = o ∧ k = w (12 + 68 * o + 5)) := fun ⟨e1, e2⟩ => by subst e1; omega
    exact f _ (by omega) (by omega) (by omega) (by omega)
  -- what stands at a place
  have pl : ∀ x k, 0 ≤ x → x < w 7 → 0 ≤ k → k < w' (12 + 68 * x + 5) → (k < w (12 + 68 * x + 5) ∧ w' (12 + 68 * x + 7 + k) = w (12 + 68 * x + 7 + k)) ∨ (x = o ∧ k = w (12 + 68 * o + 5) ∧ w' (12 + 68 * x + 7 + k) = w 9) := fun x k p q y z => by
    by_cases k1 : k < w (12 + 68 * x + 5)
    · exact Or.inl ⟨k1, fq x k p q y k1⟩
    · by_cases e1 : x = o
      · subst e1
        have e2 : k = w (12 + 68 * x + 5) := by omega
        exact Or.inr ⟨rfl, e2, by rw [e2]; exact b⟩
      · rw [fl x p q e1] at z
        exact absurd z k1
  refine ⟨⟨by omega, fun x p q => ?_, fun x k x' k' p q y z p' q' y' z' e1 => ?_⟩, ⟨by omega, ?_, ?_, fun k p q => ?_, fun j p q => ?_, fun t p q => ?_⟩, f7, f 0 (by omega) (by omega) (by omega) (by decide), fun j p q => fo o j o0 o1 p q, c, b, a4 4 (by decide) (by decide)⟩
  · rw [f7] at q
    obtain ⟨u1, u2, u3, u4⟩ := qO x p q
    have u5 := (hO x p q).2.2.2.2.1
    refine ⟨?_, ?_, ?_, fun k y z => ?_⟩
    · by_cases e1 : x = o
      · subst e1; omega
      · rw [fl x p q e1]; omega
    · rw [fo x 1 p q (by decide) (by decide)]; exact u2
    · rw [fo x 2 p q (by decide) (by decide)]; exact u3
    · rcases pl x k p q y z with ⟨g1, g2⟩ | ⟨g1, g2, g3⟩
      · rw [g2]; exact u4 k y g1
      · rw [g3]; omega
  · rw [f7] at q q'
    rcases pl x k p q y z with ⟨g1, g2⟩ | ⟨g1, g2, g3⟩
    · rcases pl x' k' p' q' y' z' with ⟨h1, h2⟩ | ⟨h1, h2, h3⟩
      · exact qI x k x' k' p q y g1 p' q' y' h1 (by rw [← g2, ← h2]; exact e1)
      · have := (hQ x p q k y g1).1
        rw [g2, h3] at e1
        omega
    · rcases pl x' k' p' q' y' z' with ⟨h1, h2⟩ | ⟨h1, h2, h3⟩
      · have := (hQ x' p' q' k' y' h1).1
        rw [g3, h2] at e1
        omega
      · exact ⟨by omega, by omega⟩
  · rw [f 10 (by omega) (by omega) (by omega) (by decide)]; exact r10
  · rw [f 11 (by omega) (by omega) (by omega) (by decide)]; exact r11
  · rw [f 10 (by omega) (by omega) (by omega) (by decide)] at q
    rw [f (1916 + 5 * k + 0) (by omega) (by omega) (by omega) (by omega)]
    exact rk k p q
  · rw [f 11 (by omega) (by omega) (by omega) (by decide)] at q
    rw [f (2916 + j) (by omega) (by omega) (by omega) (by omega), f 10 (by omega) (by omega) (by omega) (by decide)]
    exact rj j p q
  · by_cases e1 : t = w 9
    · rw [e1, a0]; decide
    · rw [f (452 + 24 * t + 0) (by omega) (by omega) (by omega) (by omega)]
      exact rt t p (by omega)
theorem srv263 {u : Row} {D : mD} {o k t : Int} (hu : QK u) (hrt : RT u) (o0 : 0 ≤ o) (o1 : o < u 7) (op : ¬ u (12 + 68 * o + 4) = 0) (hd : 1 ≤ u (12 + 68 * o + 1)) (k0 : 0 ≤ k) (k1 : k < u (12 + 68 * o + 5)) (e : u (12 + 68 * o + 7 + k) = t) (s0 : u (452 + 24 * t + 4) = 0) (hD : D 770 = u) : 1 ≤ dN u o k - u 0 ∧ v_263 769 t D = if 200 < dN u o k - u 0 then 201 else dN u o k - u 0 := by
  have sv : ∀ x : Nat, hoursW x u (452 + 24 * t + 4) = 1 ↔ dN u o k - u 0 ≤ (x : Int) := fun x => by
    rw [← servedAt hu o0 o1 op hd (x : Int)]
    have s := (SQ.hours hu hrt x).2.2.2.2.2.2.1 o k o0 o1 k0 k1
    rw [e, s0] at s
    constructor
    · intro y
      by_cases z : k < cM u (x : Int) o
      · exact z
      · have := (s.2 (by omega)).1
        omega
    · exact fun y => (s.1 y).1
  have pos : 1 ≤ dN u o k - u 0 := by
    have : ¬ dN u o k - u 0 ≤ ((0 : Nat) : Int) := fun z => by
      have := (sv 0).mpr z
      have : u (452 + 24 * t + 4) = 1 := this
      omega
    omega
  generalize dN u o k - u 0 = V at *
  refine ⟨pos, ?_⟩
  by_cases c2 : 200 < V
  · rw [if_pos c2]
    exact v263 hD (fun x _ hx y => by have := (sv x).mp y; omega) (fun y => absurd y (by decide)) (by decide)
  · rw [if_neg c2]
    exact v263 hD (fun x hx _ y => by have := (sv x).mp y; omega) (fun _ => (sv _).mpr (by omega)) ⟨by omega, by omega⟩
def nV (u : Row) (o : Int) : Int := dN u o (u (12 + 68 * o + 5)) - u 0
theorem v267 {D : mD} {o : Int} (hg : GG (D 770)) (o0 : 0 ≤ o) (o1 : o < D 770 7) (op : ¬ D 770 (12 + 68 * o + 4) = 0) : 1 ≤ nV (D 770) o ∧ v_267 769 o D = if 200 < nV (D 770) o then 201 else nV (D 770) o := by
  obtain ⟨hN, hO, -⟩ := id hg
  have L := (hO o o0 o1).2.2.2.2.1
  have n7 := hN.1
  have n9 := hN.2.2.1
  have e0 : g_255 769 D 770 = D 770 := c255.1 770 (by decide)
  obtain ⟨w1, w2⟩ := newW (p := 0) (o := o) (w := D 770) (by omega) n9 (by omega)
  obtain ⟨q1, q2, q3, q4, q5, q6, q7, q8⟩ := newQK hg o0 o1 w2
  have s := srv263 (D := g_224 769 0 o (g_255 769 D)) (o := o) (k := D 770 (12 + 68 * o + 5)) (t := D 770 9) q1 q2 o0 (by omega) (by rw [q5 4 (by decide) (by decide)]; exact op) (by rw [q5 1 (by decide) (by decide)]; exact (hO o o0 o1).1.1) L.1 (by omega) q7 q8 (by rw [m_g_224, rset_at, e0])
  have ev : v_267 769 o D = v_263 769 (D 770 9) (g_224 769 0 o (g_255 769 D)) := by
    unfold v_267
    rw [n7691, if_neg op, m_v_224, e0, w1]
  have ed : dN (W_224 0 o (D 770)) o (D 770 (12 + 68 * o + 5)) - W_224 0 o (D 770) 0 = nV (D 770) o := by
    unfold nV dN
    rw [q4, q5 2 (by decide) (by decide), q5 1 (by decide) (by decide)]
  rw [ed] at s
  rw [ev]
  exact s
theorem v173 {d : mD} {o : Int} (hk : OKR 1 d (d 770)) (o0 : 0 ≤ o) (o1 : o < d 770 7) : v_173 0 o d = if d 770 (12 + 68 * o + 4) = 0 then -1 else if 200 < nV (d 770) o then -1 else nV (d 770) o := by
  obtain ⟨hg, -, -, ht, hr⟩ := id hk
  have hh : d 1 2 = d 770 0 := hr.1.2.1
  obtain ⟨q0, q1, q2, q3, q4, q5⟩ := hr.2.1.2 o o0 o1
  have q1 : d 5 o = d 770 (12 + 68 * o + 1) := q1
  have q2 : d 6 o = d 770 (12 + 68 * o + 2) := q2
  have q4 : d 8 o = d 770 (12 + 68 * o + 4) := q4
  have q5 : d 9 o = d 770 (12 + 68 * o + 5) := q5
  obtain ⟨u1, u2, -⟩ := hg.2.1 o o0 o1
  have e43 : v_43 3 o (d 770 (12 + 68 * o + 5)) (d 770 0) d = nV (d 770) o := by
    unfold v_43 nV dN
    rw [show (3 : Int) + 3 = 6 by decide, show (3 : Int) + 2 = 5 by decide, q1, q2, mmax1 u2.1, mmax1 u1.1]
    generalize d 770 0 / d 770 (12 + 68 * o + 2) = A
    generalize d 770 (12 + 68 * o + 5) / d 770 (12 + 68 * o + 1) = B
    rw [show A + (B + 1) = A + B + 1 by omega]
  unfold v_173
  rw [show (0 : Int) + 1 = 1 by decide, show (1 : Int) + 2 = 3 by decide, show (3 : Int) + 5 = 8 by decide, show (3 : Int) + 6 = 9 by decide, q4, q5, hh, e43]
theorem qpServedIf {d : mD} {a : Int} (hk : OKR 1 d (d 770)) : QP (g_321 0 a 778 d) (g_268 769 a (g_321 0 a 778 d)) (v_321 0 a 778 d) (v_268 769 a (g_321 0 a 778 d)) := by
  obtain ⟨hg, -, -, ht, hr⟩ := id hk
  have o7 : d 3 0 = d 770 7 := hr.2.1.1
  unfold v_321 g_321
  rw [show (0 : Int) + 1 = 1 by decide, show (1 : Int) + 2 = 3 by decide, o7, ifR, ifR]
  by_cases c : 0 ≤ a ∧ a < d 770 7
  · rw [if_pos c, if_pos c, v173 hk c.1 c.2]
    have rf : ∀ (D : mD), D 770 = d 770 → (g_268 769 a D 769 0 = if 200 < v_267 769 a (mset D 769 0 0) then 2 else 0) ∧ v_268 769 a D = if 200 < v_267 769 a (mset D 769 0 0) then 0 else v_267 769 a (mset D 769 0 0) := fun D h7 => by
      unfold g_268 v_268
      rw [v236, h7, if_pos c, if_neg (show ¬ (1 : Int) = 0 by decide), if_neg (show ¬ (1 : Int) = 0 by decide)]
      refine ⟨?_, rfl⟩
      by_cases z : 200 < v_267 769 a (mset D 769 0 0)
      · rw [if_pos z, if_pos z, ms_e rfl rfl]
      · rw [if_neg z, if_neg z, ms_e rfl rfl]
    have e7 : ∀ D : mD, D 770 = d 770 → mset D 769 0 0 770 = d 770 := fun D h7 => by rw [o769 (by decide), h7]
    have never : 200 < v_267 769 a (mset d 769 0 0) → QP d (g_268 769 a d) 2 (v_268 769 a d) := fun hn => by
      have r := rf d rfl
      rw [if_pos hn] at r
      exact ⟨r.1, fun z => absurd z (by decide)⟩
    by_cases op : d 770 (12 + 68 * a + 4) = 0
    · rw [if_pos op, if_pos rfl, if_pos rfl]
      refine never ?_
      unfold v_267
      rw [n7691, e7 d rfl, if_pos op]
      decide
    · rw [if_neg op]
      have r7 : ∀ D : mD, D 770 = d 770 → 1 ≤ nV (d 770) a ∧ v_267 769 a (mset D 769 0 0) = if 200 < nV (d 770) a then 201 else nV (d 770) a := fun D h7 => by
        have := v267 (D := mset D 769 0 0) (o := a) (by rw [e7 D h7]; exact hg) c.1 (by rw [e7 D h7]; exact c.2) (by rw [e7 D h7]; exact op)
        rw [e7 D h7] at this
        exact this
      have r1 := r7 d rfl
      by_cases c2 : 200 < nV (d 770) a
      · rw [if_pos c2, if_pos rfl, if_pos rfl]
        refine never ?_
        rw [r1.2, if_pos c2]
        decide
      · have nk : ¬ nV (d 770) a = -1 := by omega
        rw [if_neg c2, if_neg nk, if_neg nk]
        have h7 : mset d 778 0 (nV (d 770) a) 770 = d 770 := o778 (by decide)
        have r := rf _ h7
        rw [(r7 _ h7).2, if_neg c2, if_neg c2, if_neg c2] at r
        refine ⟨r.1, fun _ => ⟨?_, ?_⟩⟩
        · rw [r.2, ms_e rfl rfl]
        · rw [r.2]; exact inI.of (by omega)
  · rw [if_neg c, if_neg c]
    have e : g_268 769 a d = mset d 769 0 1 := by
      unfold g_268
      rw [v236, if_neg c, if_pos rfl]
    rw [e]
    exact QP.fail (by decide)
theorem nV.row {w w' : Row} {o : Int} (e : REq w w') (o0 : 0 ≤ o) (o1 : o ≤ 5) : nV w' o = nV w o := by
  unfold nV dN
  rw [e 0 (by decide) (by decide), e (12 + 68 * o + 2) (by omega) (by omega), e (12 + 68 * o + 1) (by omega) (by omega), e (12 + 68 * o + 5) (by omega) (by omega)]
theorem best {d : mD} (hk : OKR 1 d (d 770)) : ∀ (n : Nat) (b h x : Int) (D : mD), REq (d 770) (D 770) → 0 ≤ x → x ≤ d 770 7 → d 770 7 - x ≤ (n : Int) → (b = -1 ∨ (0 ≤ b ∧ b ≤ 5)) → h ≤ 201 → (lp_146_8 0 n b h x d = -103 ∧ (lp_269_8 769 n b h x D).2 769 0 = 1) ∨ ((0 ≤ lp_146_8 0 n b h x d ∧ lp_146_8 0 n b h x d ≤ 5) ∧ (lp_269_8 769 n b h x D).1 = lp_146_8 0 n b h x d ∧ (lp_269_8 769 n b h x D).2 769 0 = 0) := by
  have o7 : d 3 0 = d 770 7 := hk.2.2.2.2.2.1.1
  have n7 := hk.1.1.1
  have last : ∀ (r : Int → Int → Int → mD → Int) (r' : Int → Int → Int → mD → Int × mD) (b h x : Int) (D : mD), REq (d 770) (D 770) → x = d 770 7 → (b = -1 ∨ (0 ≤ b ∧ b ≤ 5)) → (st_146_8 0 r b h x d = -103 ∧ (st_269_8 769 r' b h x D).2 769 0 = 1) ∨ ((0 ≤ st_146_8 0 r b h x d ∧ st_146_8 0 r b h x d ≤ 5) ∧ (st_269_8 769 r' b h x D).1 = st_146_8 0 r b h x d ∧ (st_269_8 769 r' b h x D).2 769 0 = 0) := fun r r' b h x D e hx hb => by
    unfold st_146_8 st_269_8
    rw [show (0 : Int) + 1 = 1 by decide, show (1 : Int) + 2 = 3 by decide, o7, n7691, e 7 (by decide) (by decide), if_neg (show ¬ x < d 770 7 by omega), if_neg (show ¬ x < d 770 7 by omega)]
    by_cases c : b = -1
    · rw [if_pos c, if_pos c]
      exact Or.inl ⟨rfl, show mset D 769 0 1 769 0 = 1 from ms_e rfl rfl⟩
    · rw [if_neg c, if_neg c]
      exact Or.inr ⟨by omega, rfl, show mset D 769 0 0 769 0 = 0 from ms_e rfl rfl⟩
  intro n
  induction n with
  | zero => exact fun b h x D e x0 x1 hn hb hh => last _ _ b h x D e (by omega) hb
  | succ n ih =>
    intro b h x D e x0 x1 hn hb hh
    by_cases c : x < d 770 7
    · have e' : REq (d 770) (g_267 769 x D 770) := fun i p q => (q_267.2.2 i p q).trans (e i p q)
      have hgD : GG (D 770) := hk.1.row e
      have eop := e (12 + 68 * x + 4) (by omega) (by omega)
      have e7 := e 7 (by decide) (by decide)
      have skip : v_173 0 x d = -1 ∨ ¬ v_173 0 x d < h → lp_146_8 0 (n + 1) b h x d = lp_146_8 0 n b h (x + 1) d := fun z => by
        show st_146_8 0 _ b h x d = _
        unfold st_146_8
        rw [show (0 : Int) + 1 = 1 by decide, show (1 : Int) + 2 = 3 by decide, o7, if_pos c]
        by_cases z1 : v_173 0 x d = -1
        · rw [if_pos z1]
        · rw [if_neg z1, if_neg (z.resolve_left z1)]
      have take : ¬ v_173 0 x d = -1 → v_173 0 x d < h → lp_146_8 0 (n + 1) b h x d = lp_146_8 0 n x (v_173 0 x d) (x + 1) d := fun z1 z => by
        show st_146_8 0 _ b h x d = _
        unfold st_146_8
        rw [show (0 : Int) + 1 = 1 by decide, show (1 : Int) + 2 = 3 by decide, o7, if_pos c, if_neg z1, if_pos z]
      have skipR : ¬ v_267 769 x D < h → lp_269_8 769 (n + 1) b h x D = lp_269_8 769 n b h (x + 1) (g_267 769 x D) := fun z => by
        show st_269_8 769 _ b h x D = _
        unfold st_269_8
        rw [n7691, e7, if_pos c, if_neg z]
      have takeR : v_267 769 x D < h → lp_269_8 769 (n + 1) b h x D = lp_269_8 769 n x (v_267 769 x D) (x + 1) (g_267 769 x D) := fun z => by
        show st_269_8 769 _ b h x D = _
        unfold st_269_8
        rw [n7691, e7, if_pos c, if_pos z]
      have v1 := v173 hk x0 c
      by_cases op : d 770 (12 + 68 * x + 4) = 0
      · rw [if_pos op] at v1
        have v2 : v_267 769 x D = 201 := by
          unfold v_267
          rw [n7691, if_pos (eop.trans op)]
        rw [skip (Or.inl v1), skipR (by omega)]
        exact ih b h (x + 1) _ e' (by omega) (by omega) (by omega) hb hh
      · rw [if_neg op] at v1
        have v2 := v267 hgD x0 (by rw [e7]; exact c) (by rw [eop]; exact op)
        rw [nV.row e x0 (by omega)] at v2
        by_cases c2 : 200 < nV (d 770) x
        · rw [if_pos c2] at v1 v2
          rw [skip (Or.inl v1), skipR (by omega)]
          exact ih b h (x + 1) _ e' (by omega) (by omega) (by omega) hb hh
        · rw [if_neg c2] at v1 v2
          by_cases c3 : nV (d 770) x < h
          · rw [take (by omega) (by omega), takeR (by omega), v1, v2.2]
            exact ih x _ (x + 1) _ e' (by omega) (by omega) (by omega) (Or.inr ⟨x0, by omega⟩) (by omega)
          · rw [skip (Or.inr (by omega)), skipR (by omega)]
            exact ih b h (x + 1) _ e' (by omega) (by omega) (by omega) hb hh
    · exact last _ _ b h x D e (by omega) hb
theorem qpBest {d : mD} (hk : OKR 1 d (d 770)) : QP (g_322 0 778 d) (g_269 769 (g_322 0 778 d)) (v_322 0 778 d) (v_269 769 (g_322 0 778 d)) := by
  have n7 := hk.1.1.1
  have b := best hk (6 - 0 : Int).toNat (-1) 201 0
  unfold v_322 g_322
  by_cases c : lp_146_8 0 (6 - 0 : Int).toNat (-1) 201 0 d < 0
  · rw [if_pos c, if_pos c]
    rcases b d (fun _ _ _ => rfl) (by decide) n7.1 (by omega) (Or.inl rfl) (by decide) with ⟨b1, b2⟩ | ⟨b1, b2, b3⟩
    · exact ⟨b2, fun z => absurd z (by decide)⟩
    · omega
  · rw [if_neg c, if_neg c]
    rcases b (mset d 778 0 (lp_146_8 0 (6 - 0 : Int).toNat (-1) 201 0 d)) (fun i _ _ => by rw [o778 (by decide)]) (by decide) n7.1 (by omega) (Or.inl rfl) (by decide) with ⟨b1, b2⟩ | ⟨b1, b2, b3⟩
    · omega
    · refine ⟨b3, fun _ => ⟨?_, ?_⟩⟩
      · rw [ms_e rfl rfl]
        exact b2.symm
      · rw [show v_269 769 _ = _ from b2]
        exact inI.of (by omega)
/-! ===== queries: longest if merged ===== -/
theorem mergeS {o1 o2 : Int} {w : Row} (hg : GG w) (h1 : 0 ≤ o1 ∧ o1 < w 7) (h2 : 0 ≤ o2 ∧ o2 < w 7) (hne : ¬ o1 = o2) : ∀ t, 0 ≤ t → t < w 9 → W_229 o1 o2 w (452 + 24 * t + 4) = w (452 + 24 * t + 4) ∨ (w (452 + 24 * t + 4) = 0 ∧ W_229 o1 o2 w (452 + 24 * t + 4) = 2) := by
  have n9 := hg.1.2.2.1
  obtain ⟨κ, hκ⟩ := exKap hg h1 h2 hne
  obtain ⟨m, w1, w2, w3, w4, w5, w6, w7, w8, w9⟩ := mergeW hg h1 h2 hne hκ
  intro t t0 t1
  by_cases z : inU (mgU o1 o2 w) (w (12 + 68 * o2 + 5) + w (12 + 68 * o1 + 5)) t ∧ ¬ bestS κ (fun t => w (452 + 24 * t + 0)) (mgU o1 o2 w) (w (12 + 68 * o2 + 5) + w (12 + 68 * o1 + 5)) t
  · obtain ⟨i, i0, i1, i2⟩ := z.1
    have y := (mgU_f hg h1 h2 i0 i1).2.1
    rw [i2] at y
    exact Or.inr ⟨y, ((w9 t t0 (by omega)).1 z).2⟩
  · exact Or.inl ((w9 t t0 (by omega)).2 z).2
def PLc (u : Row) (o k : Int) : Prop := 0 ≤ o ∧ o < u 7 ∧ 0 ≤ k ∧ k < u (12 + 68 * o + 5)
def vl (u : Row) (o k : Int) : Int := dN u o k - u (452 + 24 * u (12 + 68 * o + 7 + k) + 2)
def RES (u : Row) (P : Int → Int → Prop) (a r : Int) : Prop := (r = -1 ∧ ∃ o k, P o k ∧ 200 < dN u o k - u 0) ∨ ((∀ o k, P o k → dN u o k - u 0 ≤ 200) ∧ a ≤ r ∧ (∀ o k, P o k → vl u o k ≤ r) ∧ (r = a ∨ ∃ o k, P o k ∧ vl u o k = r))
theorem mmaxG {x y : Int} : x ≤ mmax x y ∧ y ≤ mmax x y ∧ (mmax x y = x ∨ mmax x y = y) := by
  rcases mmax_r x y with a | a
  · omega
  · omega
theorem in66 {d : mD} {u : Row} (hg : GG u) (hr : Rel 580 d u) {o : Int} (o0 : 0 ≤ o) (o1 : o < u 7) {r4 : Int → Int → mD → Int} (h4 : ∀ a, RES u (fun x k => PLc u x k ∧ o < x) a (r4 a (o + 1) d)) : ∀ (n : Nat) (a k : Int), 0 ≤ k → u (12 + 68 * o + 5) - k ≤ (n : Int) → RES u (fun x j => PLc u x j ∧ ((x = o ∧ k ≤ j) ∨ o < x)) a (lp_66_17 580 r4 n a o k d) := by
  have hh : d 580 2 = u 0 := hr.1.2.1
  obtain ⟨q0, q1, q2, q3, q4, q5⟩ := hr.2.1.2 o o0 o1
  have q1 : d 584 o = u (12 + 68 * o + 1) := q1
  have q2 : d 585 o = u (12 + 68 * o + 2) := q2
  have q5 : d 588 o = u (12 + 68 * o + 5) := q5
  obtain ⟨u1, u2, -⟩ := hg.2.1 o o0 o1
  have e43 : ∀ k, v_43 582 o k (d 580 2) d = dN u o k - u 0 := fun k => by
    unfold v_43 dN
    rw [show (582 : Int) + 3 = 585 by decide, show (582 : Int) + 2 = 584 by decide, q1, q2, mmax1 u2.1, mmax1 u1.1, hh]
    generalize u 0 / u (12 + 68 * o + 2) = A
    generalize k / u (12 + 68 * o + 1) = B
    rw [show A + (B + 1) = A + B + 1 by omega]
  have ej : ∀ k, 0 ≤ k → k < u (12 + 68 * o + 5) → d 632 (v_38 582 o k d) = u (452 + 24 * u (12 + 68 * o + 7 + k) + 2) := fun k k0 k1 => by
    have e := hr.2.2.1 o o0 o1 k k0 k1
    have e : d 589 (o * 16 + k) = u (12 + 68 * o + 7 + k) := e
    have t := (hg.2.2.1 o o0 o1 k k0 k1).1
    have e2 := (hr.2.2.2.2.1.2 _ t.1 t.2).2.2.1
    have e2 : d 632 (u (12 + 68 * o + 7 + k)) = u (452 + 24 * u (12 + 68 * o + 7 + k) + 2) := e2
    unfold v_38
    rw [show (582 : Int) + 7 = 589 by decide, e]
    exact e2
  have last : ∀ (r : Int → Int → Int → mD → Int) (a k : Int), 0 ≤ k → u (12 + 68 * o + 5) ≤ k → RES u (fun x j => PLc u x j ∧ ((x = o ∧ k ≤ j) ∨ o < x)) a (st_66_17 580 r4 r a o k d) := fun r a k k0 k1 => by
    have e : st_66_17 580 r4 r a o k d = r4 a (o + 1) d := by
      unfold st_66_17
      rw [show (580 : Int) + 2 = 582 by decide, show (582 : Int) + 6 = 588 by decide, q5, if_neg (by omega)]
    rw [e]
    have no : ∀ x j, PLc u x j ∧ ((x = o ∧ k ≤ j) ∨ o < x) → PLc u x j ∧ o < x := fun x j ⟨p, q⟩ => by
      rcases q with ⟨q, q'⟩ | q
      · subst q
        have := p.2.2.2
        omega
      · exact ⟨p, q⟩
    rcases h4 a with ⟨r1, x, j, r2, r3⟩ | ⟨r1, r2, r3, r4'⟩
    · exact Or.inl ⟨r1, x, j, ⟨r2.1, Or.inr r2.2⟩, r3⟩
    · refine Or.inr ⟨fun x j p => r1 x j (no x j p), r2, fun x j p => r3 x j (no x j p), ?_⟩
      rcases r4' with z | ⟨x, j, z1, z2⟩
      · exact Or.inl z
      · exact Or.inr ⟨x, j, ⟨z1.1, Or.inr z1.2⟩, z2⟩
  intro n
  induction n with
  | zero => exact fun a k k0 hn => last _ a k k0 (by omega)
  | succ n ih =>
    intro a k k0 hn
    by_cases c : k < u (12 + 68 * o + 5)
    · have hp : PLc u o k := ⟨o0, o1, k0, c⟩
      have e : lp_66_17 580 r4 (n + 1) a o k d = if 200 < dN u o k - u 0 then -1 else lp_66_17 580 r4 n (mmax a (vl u o k)) o (k + 1) d := by
        show st_66_17 580 r4 _ a o k d = _
        unfold st_66_17
        rw [show (580 : Int) + 2 = 582 by decide, show (582 : Int) + 6 = 588 by decide, show (580 : Int) + 49 = 629 by decide, show (629 : Int) + 3 = 632 by decide, q5, if_pos c, e43, ej k k0 c, hh]
        unfold vl
        rw [show u 0 + (dN u o k - u 0) = dN u o k by omega]
      rw [e]
      by_cases c2 : 200 < dN u o k - u 0
      · rw [if_pos c2]
        exact Or.inl ⟨rfl, o, k, ⟨hp, Or.inl ⟨rfl, Int.le_refl k⟩⟩, c2⟩
      · rw [if_neg c2]
        obtain ⟨m1, m2, m3⟩ := mmaxG (x := a) (y := vl u o k)
        have sp : ∀ x j, PLc u x j ∧ ((x = o ∧ k ≤ j) ∨ o < x) → (x = o ∧ j = k) ∨ (PLc u x j ∧ ((x = o ∧ k + 1 ≤ j) ∨ o < x)) := fun x j ⟨p, q⟩ => by
          rcases q with ⟨q, q'⟩ | q
          · by_cases z : j = k
            · exact Or.inl ⟨q, z⟩
            · exact Or.inr ⟨p, Or.inl ⟨q, by omega⟩⟩
          · exact Or.inr ⟨p, Or.inr q⟩
        have sq : ∀ x j, (PLc u x j ∧ ((x = o ∧ k + 1 ≤ j) ∨ o < x)) → PLc u x j ∧ ((x = o ∧ k ≤ j) ∨ o < x) := fun x j ⟨p, q⟩ => by
          rcases q with ⟨q, q'⟩ | q
          · exact ⟨p, Or.inl ⟨q, by omega⟩⟩
          · exact ⟨p, Or.inr q⟩
        rcases ih (mmax a (vl u o k)) (k + 1) (by omega) (by omega) with ⟨r1, x, j, r2, r3⟩ | ⟨r1, r2, r3, r4'⟩
        · exact Or.inl ⟨r1, x, j, sq x j r2, r3⟩
        · refine Or.inr ⟨fun x j p => ?_, by omega, fun x j p => ?_, ?_⟩
          · rcases sp x j p with ⟨z1, z2⟩ | z
            · rw [z1, z2]; omega
            · exact r1 x j z
          · rcases sp x j p with ⟨z1, z2⟩ | z
            · rw [z1, z2]; omega
            · exact r3 x j z
          · rcases r4' with z | ⟨x, j, z1, z2⟩
            · rcases m3 with m3 | m3
              · exact Or.inl (z.trans m3)
              · exact Or.inr ⟨o, k, ⟨hp, Or.inl ⟨rfl, Int.le_refl k⟩⟩, by rw [z, m3]⟩
            · exact Or.inr ⟨x, j, sq x j z1, z2⟩
    · exact last _ a k k0 (by omega)
theorem out66 {d : mD} {u : Row} (hg : GG u) (hr : Rel 580 d u) : ∀ (n : Nat) (a o : Int), 0 ≤ o → u 7 - o ≤ (n : Int) → RES u (fun x j => PLc u x j ∧ o ≤ x) a (lp_66_4 580 n a o d) := by
  have o7 : d 582 0 = u 7 := hr.2.1.1
  have last : ∀ (r : Int → Int → mD → Int) (a o : Int), u 7 ≤ o → RES u (fun x j => PLc u x j ∧ o ≤ x) a (st_66_4 580 r a o d) := fun r a o c => by
    have e : st_66_4 580 r a o d = a := by
      unfold st_66_4
      rw [show (580 : Int) + 2 = 582 by decide, o7, if_neg (by omega)]
    rw [e]
    have no : ∀ x j, ¬ (PLc u x j ∧ o ≤ x) := fun x j ⟨p, q⟩ => by
      have := p.2.1
      omega
    exact Or.inr ⟨fun x j p => absurd p (no x j), Int.le_refl a, fun x j p => absurd p (no x j), Or.inl rfl⟩
  intro n
  induction n with
  | zero => exact fun a o o0 hn => last _ a o (by omega)
  | succ n ih =>
    intro a o o0 hn
    by_cases c : o < u 7
    · have e : lp_66_4 580 (n + 1) a o d = lp_66_17 580 (lp_66_4 580 n) (16 - 0 : Int).toNat a o 0 d := by
        show st_66_4 580 _ a o d = _
        unfold st_66_4
        rw [show (580 : Int) + 2 = 582 by decide, o7, if_pos c]
      have l16 := (hg.2.1 o o0 c).2.2.2.2.1
      rw [e]
      have h4 : ∀ a, RES u (fun x k => PLc u x k ∧ o < x) a (lp_66_4 580 n a (o + 1) d) := fun a => by
        have := ih a (o + 1) (by omega) (by omega)
        have e : (fun x j => PLc u x j ∧ o + 1 ≤ x) = (fun x k => PLc u x k ∧ o < x) := by
          funext x k
          rw [show (o + 1 ≤ x) = (o < x) from rfl]
        rw [e] at this
        exact this
      have := in66 hg hr o0 c h4 (16 - 0 : Int).toNat a 0 (by decide) (by omega)
      have e : (fun x j => PLc u x j ∧ ((x = o ∧ 0 ≤ j) ∨ o < x)) = (fun x j => PLc u x j ∧ o ≤ x) := by
        funext x j
        refine propext ⟨fun ⟨p, q⟩ => ⟨p, by omega⟩, fun ⟨p, q⟩ => ⟨p, ?_⟩⟩
        have := p.2.2.1
        omega
      rw [e] at this
      exact this
    · exact last _ a o (by omega)
theorem v66 {d : mD} {u : Row} (hg : GG u) (hr : Rel 580 d u) : RES u (PLc u) 0 (v_66 580 d) := by
  have n7 := hg.1.1
  have := out66 hg hr (6 - 0 : Int).toNat 0 0 (by decide) (by omega)
  have e : (fun x j => PLc u x j ∧ 0 ≤ x) = PLc u := by
    funext x j
    exact propext ⟨fun p => p.1, fun p => ⟨p, p.1⟩⟩
  rw [e] at this
  exact this
-- the reference's side
theorem l271 {D : mD} (h7 : D 770 7 ≤ 6) (hl : ∀ o, 0 ≤ o → o < D 770 7 → 0 ≤ D 770 (12 + 68 * o + 5)) : ∀ (n : Nat) (a o : Int), 0 ≤ o → D 770 7 - o ≤ (n : Int) → a ≤ lp_271_4 769 n a o D ∧ (a < lp_271_4 769 n a o D ↔ ∃ x, o ≤ x ∧ x < D 770 7 ∧ 0 < D 770 (12 + 68 * x + 5)) := by
  have last : ∀ (r : Int → Int → mD → Int) (a o : Int), D 770 7 ≤ o → a ≤ st_271_4 769 r a o D ∧ (a < st_271_4 769 r a o D ↔ ∃ x, o ≤ x ∧ x < D 770 7 ∧ 0 < D 770 (12 + 68 * x + 5)) := fun r a o c => by
    have e : st_271_4 769 r a o D = a := by
      unfold st_271_4
      rw [n7691, if_neg (by omega)]
    rw [e]
    exact ⟨Int.le_refl a, fun z => absurd z (Int.lt_irrefl a), fun ⟨x, p, q, _⟩ => by omega⟩
  intro n
  induction n with
  | zero => exact fun a o o0 hn => last _ a o (by omega)
  | succ n ih =>
    intro a o o0 hn
    by_cases c : o < D 770 7
    · have e : lp_271_4 769 (n + 1) a o D = lp_271_4 769 n (a + D 770 (12 + 68 * o + 5)) (o + 1) D := by
        show st_271_4 769 _ a o D = _
        unfold st_271_4
        rw [n7691, if_pos c]
      obtain ⟨i1, i2⟩ := ih (a + D 770 (12 + 68 * o + 5)) (o + 1) (by omega) (by omega)
      have l := hl o o0 c
      rw [e]
      refine ⟨by omega, ?_, ?_⟩
      · intro z
        by_cases y : 0 < D 770 (12 + 68 * o + 5)
        · exact ⟨o, Int.le_refl o, c, y⟩
        · obtain ⟨x, p, q, r⟩ := i2.1 (by omega)
          exact ⟨x, by omega, q, r⟩
      · intro ⟨x, p, q, r⟩
        by_cases y : x = o
        · subst y; omega
        · have := i2.2 ⟨x, by omega, q, r⟩
          omega
    · exact last _ a o (by omega)
theorem v271 {D : mD} {u : Row} {x : Nat} (hg : GG u) (hD : D 770 = hoursW x u) : 0 < v_271 769 D ↔ ∃ o k, PLc u o k ∧ (x : Int) < dN u o k - u 0 := by
  have hu := hg.qk
  have sq := SQ.hours hu hg.rt x
  have n7 := hg.1.1
  have e7 : D 770 7 = u 7 := by rw [hD]; exact sq.2.1 7 (by decide) (by decide)
  have el : ∀ o, 0 ≤ o → o < u 7 → D 770 (12 + 68 * o + 5) = if cM u x o < u (12 + 68 * o + 5) then u (12 + 68 * o + 5) - cM u x o else 0 := fun o p q => by rw [hD]; exact (sq.2.2.2.2.1 o p q).1
  have l := (l271 (D := D) (by omega) (fun o p q => by rw [el o p (by omega)]; split <;> omega) (6 - 0 : Int).toNat 0 0 (by decide) (by omega)).2
  have sv : ∀ o k, PLc u o k → (k < cM u x o ↔ dN u o k - u 0 ≤ (x : Int)) := fun o k ⟨p, q, y, z⟩ => by
    obtain ⟨u1, u2, u3, u4, u5, u6, -⟩ := hg.2.1 o p q
    exact servedAt hu p q (fun c => by have := u6 c; omega) u1.1 (x : Int)
  constructor
  · intro z
    obtain ⟨o, p, q, y⟩ := l.1 z
    rw [e7] at q
    rw [el o p q] at y
    by_cases c : cM u x o < u (12 + 68 * o + 5)
    · have c0 := cM_nn hu (n := (x : Int)) (by omega) o
      have s := sv o (cM u x o) ⟨p, q, c0, c⟩
      refine ⟨o, cM u x o, ⟨p, q, c0, c⟩, ?_⟩
      by_cases w : dN u o (cM u x o) - u 0 ≤ (x : Int)
      · have := s.2 w
        omega
      · omega
    · rw [if_neg c] at y
      omega
  · intro ⟨o, k, pl, y⟩
    obtain ⟨p, q, k0, k1⟩ := id pl
    have s := sv o k pl
    refine l.2 ⟨o, p, by omega, ?_⟩
    rw [el o p q]
    have : ¬ k < cM u x o := fun z => by have := s.1 z; omega
    rw [if_pos (by omega)]
    omega
def tk4 (D : mD) (t : Int) : Prop := 0 ≤ t ∧ t < D 770 9 ∧ D 773 (452 + 24 * t + 4) = 0 ∧ D 770 (452 + 24 * t + 4) = 1
def tkv (D : mD) (t : Int) : Int := D 770 (452 + 24 * t + 3) - D 770 (452 + 24 * t + 2)
theorem lm272 {D : mD} {a b y : Int} : ∀ (n : Nat) (c t : Int), 0 ≤ t → D 770 9 - t ≤ (n : Int) → ∃ r, lp_272_89 769 a b n y c t D = (if 0 < v_271 769 D then (0, g_256 769 (mset D 769 0 3)) else (r, g_256 769 (mset D 769 0 0))) ∧ c ≤ r ∧ (∀ x, t ≤ x → tk4 D x → tkv D x ≤ r) ∧ (r = c ∨ ∃ x, tk4 D x ∧ tkv D x = r) := by
  have last : ∀ (q : Int → Int → Int → mD → Int × mD) (c t : Int), D 770 9 ≤ t → ∃ r, st_272_89 769 a b q y c t D = (if 0 < v_271 769 D then (0, g_256 769 (mset D 769 0 3)) else (r, g_256 769 (mset D 769 0 0))) ∧ c ≤ r ∧ (∀ x, t ≤ x → tk4 D x → tkv D x ≤ r) ∧ (r = c ∨ ∃ x, tk4 D x ∧ tkv D x = r) := fun q c t h => by
    refine ⟨c, ?_, Int.le_refl c, fun x x0 x1 => by have := x1.2.1; omega, Or.inl rfl⟩
    unfold st_272_89
    rw [n7691, if_neg (by omega)]
  intro n
  induction n with
  | zero => exact fun c t t0 hn => last _ c t (by omega)
  | succ n ih =>
    intro c t t0 hn
    by_cases h : t < D 770 9
    · have e : lp_272_89 769 a b (n + 1) y c t D = if D 773 (452 + 24 * t + 4) = 0 ∧ D 770 (452 + 24 * t + 4) = 1 ∧ c < tkv D t then lp_272_89 769 a b n y (tkv D t) (t + 1) D else lp_272_89 769 a b n y c (t + 1) D := by
        show st_272_89 769 a b _ y c t D = _
        unfold st_272_89 tkv
        rw [n7691, show (769 : Int) + 4 = 773 by decide, if_pos h]
        by_cases z1 : D 773 (452 + 24 * t + 4) = 0
        · rw [if_pos z1]
          by_cases z2 : D 770 (452 + 24 * t + 4) = 1
          · rw [if_pos z2]
            by_cases z3 : c < D 770 (452 + 24 * t + 3) - D 770 (452 + 24 * t + 2)
            · rw [if_pos z3, if_pos ⟨z1, z2, z3⟩]
            · rw [if_neg z3, if_neg (fun z => z3 z.2.2)]
          · rw [if_neg z2, if_neg (fun z => z2 z.2.1)]
        · rw [if_neg z1, if_neg (fun z => z1 z.1)]
      rw [e]
      by_cases z : D 773 (452 + 24 * t + 4) = 0 ∧ D 770 (452 + 24 * t + 4) = 1 ∧ c < tkv D t
      · rw [if_pos z]
        obtain ⟨r, i1, i2, i3, i4⟩ := ih (tkv D t) (t + 1) (by omega) (by omega)
        have z3 := z.2.2
        refine ⟨r, i1, by omega, fun x x0 x1 => ?_, ?_⟩
        · by_cases y : x = t
          · rw [y]; exact i2
          · exact i3 x (by omega) x1
        · rcases i4 with i4 | i4
          · exact Or.inr ⟨t, ⟨t0, h, z.1, z.2.1⟩, i4.symm⟩
          · exact Or.inr i4
      · rw [if_neg z]
        obtain ⟨r, i1, i2, i3, i4⟩ := ih c (t + 1) (by omega) (by omega)
        refine ⟨r, i1, i2, fun x x0 x1 => ?_, i4⟩
        by_cases y : x = t
        · subst y
          have : ¬ c < tkv D x := fun q => z ⟨x1.2.2.1, x1.2.2.2, q⟩
          omega
        · exact i3 x (by omega) x1
    · exact last _ c t (by omega)
theorem m272 {u : Row} (hg : GG u) {a b : Int} : ∀ (n x : Nat) (D : mD), x + n = 200 → D 770 = hoursW x u → ∃ (X : Nat) (D' : mD), X ≤ 200 ∧ lp_272_59 769 a b n (x : Int) D = lp_272_89 769 a b (61 - 0 : Int).toNat (X : Int) 0 0 D' ∧ D' 770 = hoursW X u ∧ D' 773 = D 773 ∧ ((∀ o k, PLc u o k → dN u o k - u 0 ≤ (X : Int)) ∨ X = 200) := by
  have last : ∀ (q : Int → mD → Int × mD) (x : Nat) (D : mD), x ≤ 200 → D 770 = hoursW x u → ((∀ o k, PLc u o k → dN u o k - u 0 ≤ (x : Int)) ∨ x = 200) → ∃ (X : Nat) (D' : mD), X ≤ 200 ∧ st_272_59 769 a b q (x : Int) D = lp_272_89 769 a b (61 - 0 : Int).toNat (X : Int) 0 0 D' ∧ D' 770 = hoursW X u ∧ D' 773 = D 773 ∧ ((∀ o k, PLc u o k → dN u o k - u 0 ≤ (X : Int)) ∨ X = 200) := fun q x D h1 h2 h3 => by
    refine ⟨x, D, h1, ?_, h2, rfl, h3⟩
    unfold st_272_59
    by_cases z : (x : Int) < 200
    · rw [if_pos z]
      have : ¬ 0 < v_271 769 D := fun y => by
        obtain ⟨o, k, p, r⟩ := (v271 hg h2).1 y
        rcases h3 with h3 | h3
        · have := h3 o k p
          omega
        · omega
      rw [if_neg this]
    · rw [if_neg z]
  intro n
  induction n with
  | zero => exact fun x D hn hD => last _ x D (by omega) hD (Or.inr (by omega))
  | succ n ih =>
    intro x D hn hD
    by_cases c : 0 < v_271 769 D
    · have e : lp_272_59 769 a b (n + 1) (x : Int) D = lp_272_59 769 a b n ((x + 1 : Nat) : Int) (g_223 769 D) := by
        show st_272_59 769 a b _ (x : Int) D = _
        unfold st_272_59
        rw [if_pos (by omega), if_pos c]
        rfl
      rw [e]
      obtain ⟨X, D', i1, i2, i3, i4, i5⟩ := ih (x + 1) (g_223 769 D) (by omega) (by rw [m_g_223, rset_at, hD, hoursW_s])
      exact ⟨X, D', i1, i2, i3, by rw [i4, m_g_223]; exact rset_ne (by decide), i5⟩
    · refine last _ x D (by omega) hD (Or.inl (fun o k p => ?_))
      by_cases z : dN u o k - u 0 ≤ (x : Int)
      · exact z
      · exact absurd ((v271 hg hD).2 ⟨o, k, p, by omega⟩) c
theorem qpMerged {d : mD} {a b : Int} (hk : OKR 1 d (d 770)) (he : g_323 0 a b 778 d 770 = d 770) : QP (g_323 0 a b 778 d) (g_272 769 a b (g_323 0 a b 778 d)) (v_323 0 a b 778 d) (v_272 769 a b (g_323 0 a b 778 d)) := by
  obtain ⟨hg, hw, hp, ht, hr⟩ := id hk
  have o7 : d 3 0 = d 770 7 := hr.2.1.1
  have n7 := hg.1.1
  have n9 := hg.1.2.2.1
  revert he
  unfold v_323 g_323
  rw [n01, show (1 : Int) + 2 = 3 by decide, show (3 : Int) + 5 = 8 by decide, show (0 : Int) + 580 = 580 by decide, o7, ifR, ifR, ifR, ifR]
  by_cases c1 : 0 ≤ a ∧ a < d 770 7
  · rw [if_pos c1, if_pos c1]
    by_cases c2 : 0 ≤ b ∧ b < d 770 7
    · rw [if_pos c2, if_pos c2]
      have oa : d 8 a = d 770 (12 + 68 * a + 4) := (hr.2.1.2 a c1.1 c1.2).2.2.2.2.1
      have ob : d 8 b = d 770 (12 + 68 * b + 4) := (hr.2.1.2 b c2.1 c2.2).2.2.2.2.1
      rw [oa, ob]
      have v270 : ∀ D : mD, D 770 = d 770 → v_270 769 a b D = if a = b then 0 else if d 770 (12 + 68 * a + 4) = 0 then 0 else if d 770 (12 + 68 * b + 4) = 0 then 0 else 1 := fun D hD => by
        unfold v_270
        rw [n7691, hD]
      by_cases c3 : ¬ a = b ∧ ¬ d 770 (12 + 68 * a + 4) = 0 ∧ ¬ d 770 (12 + 68 * b + 4) = 0
      · obtain ⟨c3, c4, c5⟩ := c3
        rw [if_neg c3, if_neg c4, if_neg c5, if_neg c3, if_neg c4, if_neg c5]
        have oo : d 770 (12 + 68 * b + 4) = 1 := by
          rcases (hg.2.1 b c2.1 c2.2).2.2.2.1 with z | z
          · exact absurd z c5
          · exact z
        obtain ⟨hc, -⟩ := OKR.copy (a := 580) (s := 1) (Or.inr (by decide)) hk
        obtain ⟨j1, j2, j3⟩ := merge hg hc.2.2.2.2 c1 c2 c3 oo
        have mS := mergeS hg c1 c2 c3
        have res := v66 j1 j2
        have w9 : W_229 a b (d 770) 9 = d 770 9 := j3 9 (by decide) (by decide)
        -- the reference's run
        have run : ∀ D : mD, D 770 = d 770 → ∃ (X : Nat) (D' : mD) (r : Int), X ≤ 200 ∧ D' 770 = hoursW X (W_229 a b (d 770)) ∧ (∀ i, 0 ≤ i → i < 3116 → D' 773 i = d 770 i) ∧ ((∀ o k, PLc (W_229 a b (d 770)) o k → dN (W_229 a b (d 770)) o k - W_229 a b (d 770) 0 ≤ (X : Int)) ∨ X = 200) ∧ f_272 769 a b D = (if 0 < v_271 769 D' then (0, g_256 769 (mset D' 769 0 3)) else (r, g_256 769 (mset D' 769 0 0))) ∧ 0 ≤ r ∧ (∀ x, 0 ≤ x → tk4 D' x → tkv D' x ≤ r) ∧ (r = 0 ∨ ∃ x, tk4 D' x ∧ tkv D' x = r) := fun D hD => by
          have e1 : g_255 769 (mset D 769 0 0) 770 = d 770 := by rw [c255.1 770 (by decide), o769 (by decide), hD]
          have e2 : g_229 769 a b (g_255 769 (mset D 769 0 0)) 770 = hoursW 0 (W_229 a b (d 770)) := by rw [m_g_229, rset_at, e1]; rfl
          obtain ⟨X, D', x1, x2, x3, x4, x5⟩ := m272 j1 (a := a) (b := b) 200 0 _ (by decide) e2
          have x6 : D' 770 9 = d 770 9 := by rw [x3, ← w9]; exact (SQ.hours j1.qk j1.rt X).2.1 9 (by decide) (by decide)
          obtain ⟨r, y1, y2, y3, y4⟩ := lm272 (D := D') (a := a) (b := b) (y := (X : Int)) (61 - 0 : Int).toNat 0 0 (by decide) (by omega)
          refine ⟨X, D', r, x1, x3, fun i p q => ?_, x5, ?_, y2, y3, y4⟩
          · rw [x4, m_g_229, rset_ne (by decide), c255.2 i p q, o769 (by decide), hD]
          · have ef : f_272 769 a b D = lp_272_59 769 a b (200 - 0 : Int).toNat 0 (g_229 769 a b (g_255 769 (mset D 769 0 0))) := by
              unfold f_272
              rw [v236, v236, v270 D hD, hD, if_pos c1, if_neg (by decide), if_pos c2, if_neg (by decide), if_neg c3, if_neg c4, if_neg c5, if_neg (by decide)]
            rw [ef, ← y1]
            exact x2
        generalize W_229 a b (d 770) = W at *
        generalize hU : g_63 580 a b (g_59 580 1 d) = U at *
        have e3 : ∀ (D' : mD) (c : Int), g_256 769 (mset D' 769 0 c) 769 0 = c := fun D' c => by rw [c256.1 769 (by decide), ms_e rfl rfl]
        rcases res with ⟨s1, s2⟩ | ⟨s1, s2, s3, s4⟩
        · rw [s1, if_pos rfl, if_pos rfl]
          intro he
          obtain ⟨X, D', r, x1, x2, x3, x4, x5, x6, x7, x8⟩ := run U he
          obtain ⟨o, k, p, q⟩ := s2
          have xe : X = 200 := x4.resolve_left (fun z => by have := z o k p; omega)
          have vp : 0 < v_271 769 D' := (v271 j1 x2).2 ⟨o, k, p, by omega⟩
          rw [if_pos vp] at x5
          refine ⟨?_, fun z => absurd z (by decide)⟩
          unfold g_272
          rw [x5]
          exact e3 D' 3
        · have nn : ¬ v_66 580 U = -1 := by omega
          rw [if_neg nn, if_neg nn]
          intro he
          obtain ⟨X, D', r, x1, x2, x3, x4, x5, x6, x7, x8⟩ := run _ he
          have all : ∀ o k, PLc W o k → dN W o k - W 0 ≤ (X : Int) := fun o k p => by
            rcases x4 with z | z
            · exact z o k p
            · have := s1 o k p
              omega
          have vp : ¬ 0 < v_271 769 D' := fun z => by
            obtain ⟨o, k, p, q⟩ := (v271 j1 x2).1 z
            have := all o k p
            omega
          rw [if_neg vp] at x5
          obtain ⟨-, h29, -, -, -, hj, hs, hn⟩ := SQ.hours j1.qk j1.rt X
          rw [← x2] at h29 hj hs hn
          have e9 : D' 770 9 = d 770 9 := (h29 9 (by decide) (by decide)).trans w9
          -- a place in a queue is a ticket that was served
          have K1 : ∀ o k, PLc W o k → tk4 D' (W (12 + 68 * o + 7 + k)) ∧ tkv D' (W (12 + 68 * o + 7 + k)) = vl W o k := fun o k p => by
            obtain ⟨p0, p1, p2, p3⟩ := id p
            obtain ⟨t1, t2, t3, -⟩ := j1.2.2.1 o p0 p1 k p2 p3
            obtain ⟨u1, u2, u3, u4, u5, u6, -⟩ := j1.2.1 o p0 p1
            have sv := (servedAt j1.qk p0 p1 (fun c => by have := u6 c; omega) u1.1 (k := k) (X : Int)).2 (all o k p)
            have s := (hs o k p0 p1 p2 p3).1 sv
            have j := hj (W (12 + 68 * o + 7 + k)) 2 t1.1 (by omega) (by decide) (by decide)
            refine ⟨⟨t1.1, by omega, ?_, s.1⟩, ?_⟩
            · rw [x3 _ (by omega) (by omega)]
              rcases mS _ t1.1 (by omega) with z | z
              · omega
              · exact z.1
            · unfold tkv vl
              rw [s.2, j]
          have K2 : ∀ t, tk4 D' t → ∃ o k, PLc W o k ∧ W (12 + 68 * o + 7 + k) = t := fun t ⟨t0, t1, t2, t3⟩ => by
            rw [x3 _ (by omega) (by omega)] at t2
            rcases mS t t0 (by omega) with z | z
            · have g := j1.2.2.2.1 t t0 (by omega)
              obtain ⟨-, k, k0, k1, k2⟩ := g.2.2.2.2.1 (by omega)
              exact ⟨_, k, ⟨g.2.1.1, g.2.1.2, k0, k1⟩, k2⟩
            · have nq : ∀ o k, 0 ≤ o → o < W 7 → 0 ≤ k → k < W (12 + 68 * o + 5) → ¬ W (12 + 68 * o + 7 + k) = t := fun o k p q y y' e => by
                have := (j1.2.2.1 o p q k y y').2.2.1
                rw [e] at this
                omega
              have := (hn t t0 (by omega) nq).1
              omega
          have er : r = v_66 580 U := by
            have a1 : r ≤ v_66 580 U := by
              rcases x8 with z | ⟨t, z1, z2⟩
              · omega
              · obtain ⟨o, k, p, q⟩ := K2 t z1
                have y := (K1 o k p).2
                rw [q, z2] at y
                rw [y]
                exact s3 o k p
            have a2 : v_66 580 U ≤ r := by
              rcases s4 with z | ⟨o, k, z1, z2⟩
              · omega
              · obtain ⟨y1, y2⟩ := K1 o k z1
                have := x7 _ y1.1 y1
                omega
            omega
          have bd : v_66 580 U ≤ 2000 := by
            rcases s4 with z | ⟨o, k, z1, z2⟩
            · omega
            · have y := s1 o k z1
              have n0 := j1.1.2.2.2.2.2.1
              obtain ⟨t1, t2, t3, -⟩ := j1.2.2.1 o z1.1 z1.2.1 k z1.2.2.1 z1.2.2.2
              have g := (j1.2.2.2.1 _ t1.1 t1.2).2.2.1
              unfold vl at z2
              omega
          refine ⟨?_, fun _ => ⟨?_, ?_⟩⟩
          · unfold g_272
            rw [x5]
            exact e3 D' 0
          · unfold v_272
            rw [x5, ms_e rfl rfl]
            exact er.symm
          · unfold v_272
            rw [x5]
            show inI r
            exact inI.of (by omega)
      · have ev : ∀ y : Int, (if a = b then (2 : Int) else if d 770 (12 + 68 * a + 4) = 0 then 2 else if d 770 (12 + 68 * b + 4) = 0 then 2 else y) = 2 := fun y => by
          by_cases z : a = b
          · rw [if_pos z]
          · rw [if_neg z]
            by_cases z2 : d 770 (12 + 68 * a + 4) = 0
            · rw [if_pos z2]
            · rw [if_neg z2]
              by_cases z3 : d 770 (12 + 68 * b + 4) = 0
              · rw [if_pos z3]
              · exact absurd ⟨z, z2, z3⟩ c3
        have eg : ∀ u : mD, (if a = b then d else if d 770 (12 + 68 * a + 4) = 0 then d else if d 770 (12 + 68 * b + 4) = 0 then d else u) = d := fun u => by
          by_cases z : a = b
          · rw [if_pos z]
          · rw [if_neg z]
            by_cases z2 : d 770 (12 + 68 * a + 4) = 0
            · rw [if_pos z2]
            · rw [if_neg z2]
              by_cases z3 : d 770 (12 + 68 * b + 4) = 0
              · rw [if_pos z3]
              · exact absurd ⟨z, z2, z3⟩ c3
        have er : (if a = b then (0 : Int) else if d 770 (12 + 68 * a + 4) = 0 then 0 else if d 770 (12 + 68 * b + 4) = 0 then 0 else 1) = 0 := by
          by_cases z : a = b
          · rw [if_pos z]
          · rw [if_neg z]
            by_cases z2 : d 770 (12 + 68 * a + 4) = 0
            · rw [if_pos z2]
            · rw [if_neg z2]
              by_cases z3 : d 770 (12 + 68 * b + 4) = 0
              · rw [if_pos z3]
              · exact absurd ⟨z, z2, z3⟩ c3
        rw [ev, eg]
        intro _
        have e : g_272 769 a b d = mset d 769 0 2 := by
          unfold g_272 f_272
          rw [v236, v236, v270 d rfl, if_pos c1, if_neg (by decide), if_pos c2, if_neg (by decide), er, if_pos rfl]
        rw [e]
        exact QP.fail (by decide)
    · rw [if_neg c2, if_neg c2]
      intro _
      have e : g_272 769 a b d = mset d 769 0 1 := by
        unfold g_272 f_272
        rw [v236, v236, if_pos c1, if_neg (by decide), if_neg c2, if_pos rfl]
      rw [e]
      exact QP.fail (by decide)
  · rw [if_neg c1, if_neg c1]
    intro _
    have e : g_272 769 a b d = mset d 769 0 1 := by
      unfold g_272 f_272
      rw [v236, if_neg c1, if_pos rfl]
    rw [e]
    exact QP.fail (by decide)
/-! ===== queries: write (how long the output becomes) ===== -/
theorem shrN {c : Int} (h0 : 0 ≤ c) (h1 : c < 1073741824) (k : Nat) (hk : k ≤ 25) : miand (mishr c (k : Int)) 31 = c / 2 ^ k % 32 := by
  have e : mishr c (k : Int) = c / 2 ^ k := by
    unfold mishr mI
    show (BitVec.sshiftRight' (Int32.ofInt c).toBitVec ((Int32.ofInt (k : Int) &&& 31).toBitVec.smod 32)).toInt = _
    rw [BitVec.toInt_sshiftRight']
    have e2 : ((Int32.ofInt (k : Int) &&& 31).toBitVec.smod 32).toNat = k := by
      have : ∀ k : Fin 26, ((Int32.ofInt ((k.val : Nat) : Int) &&& 31).toBitVec.smod 32).toNat = k.val := by decide +kernel
      exact this ⟨k, by omega⟩
    have e3 : (Int32.ofInt c).toBitVec.toInt = c := Int32.toInt_ofInt_of_le (by omega) (by omega)
    rw [e2, e3, Int.shiftRight_eq_div_pow]
    rfl
  rw [e]
  have p : (0 : Int) < 2 ^ k := Int.pow_pos (by decide)
  have g0 : 0 ≤ c / 2 ^ k := Int.ediv_nonneg h0 (by omega)
  have g1 : c / 2 ^ k ≤ c := Int.ediv_le_self _ h0
  obtain ⟨n, hn⟩ := Int.eq_ofNat_of_zero_le g0
  rw [hn]
  have := ndl 31 n (by omega) (by decide)
  rw [show ((31 : Nat) : Int) = 31 from rfl] at this
  rw [this, show (31 : Nat) = 2 ^ 5 - 1 by decide, Nat.and_two_pow_sub_one_eq_mod]
  omega
def FO (D D' : mD) : Prop := (∀ b, ¬ b = 769 → ¬ b = 777 → D' b = D b) ∧ ∀ i, ¬ i = 18 → D' 769 i = D 769 i
theorem FO.refl {D : mD} : FO D D := ⟨fun _ _ _ => rfl, fun _ _ => rfl⟩
theorem FO.trans {a b c : mD} (h : FO a b) (g : FO b c) : FO a c := ⟨fun k x y => (g.1 k x y).trans (h.1 k x y), fun k x => (g.2 k x).trans (h.2 k x)⟩
theorem a273 {x : Int} {D : mD} : FO D (g_273 769 x D) ∧ g_273 769 x D 769 18 = D 769 18 + 1 := by
  unfold g_273
  refine ⟨⟨fun b p q => ?_, fun i p => ?_⟩, ms_e rfl rfl⟩
  · funext j
    rw [ms_a p, ms_a (by omega)]
  · rw [ms_i p, ms_a (by omega)]
def FT (d d' : mD) : Prop := ∀ b, ¬ b = 572 → ¬ b = 573 → d' b = d b
theorem FT.trans {a b c : mD} (h : FT a b) (g : FT b c) : FT a c := fun k x y => (g k x y).trans (h k x y)
theorem a86 {x : Int} {d : mD} (h : d 572 1 < 1000) : FT d (g_86 572 x d) ∧ g_86 572 x d 572 1 = d 572 1 + 1 := by
  unfold g_86
  rw [if_pos h]
  refine ⟨fun b p q => ?_, ms_e rfl rfl⟩
  funext j
  rw [ms_a p, ms_a (by omega)]
theorem s88 {c : Int} {n : Nat} {x : Int} {d : mD} (hx : 0 ≤ x) (h : d 572 1 < 1000) : ∃ d', lp_88_3 572 c (n + 1) x d = lp_88_3 572 c n (x + -5) d' ∧ FT d d' ∧ d' 572 1 = d 572 1 + (if miand (mishr c x) 31 = 0 then 0 else 1) := by
  have e : lp_88_3 572 c (n + 1) x d = if miand (mishr c x) 31 = 0 then lp_88_3 572 c n (x + -5) d else lp_88_3 572 c n (x + -5) (g_86 572 ((miand (mishr c x) 31) + 96) d) := by
    show st_88_3 572 c _ x d = _
    unfold st_88_3
    rw [if_neg (by omega)]
  rw [e]
  by_cases z : miand (mishr c x) 31 = 0
  · rw [if_pos z, if_pos z]
    exact ⟨d, rfl, fun _ _ _ => rfl, by omega⟩
  · rw [if_neg z, if_neg z]
    exact ⟨_, rfl, (a86 h).1, (a86 h).2⟩
def l5 (c : Int) : Int := if c / 32 % 32 = 0 then 1 else if c / 1024 % 32 = 0 then 2 else if c / 32768 % 32 = 0 then 3 else if c / 1048576 % 32 = 0 then 4 else if c / 33554432 % 32 = 0 then 5 else 6
theorem a88 {c : Int} {d : mD} (hc : okN c) (h : d 572 1 ≤ 900) : FT d (g_88 572 c d) ∧ g_88 572 c d 572 1 = d 572 1 + l5 c := by
  obtain ⟨c0, c1, c2, c3, c4, c5, c6, c7, c8, c9, c10, c11⟩ := hc
  have t : ∀ (p : Prop) [Decidable p], (0 : Int) ≤ (if p then 0 else 1) ∧ (if p then (0 : Int) else 1) ≤ 1 := fun p _ => by split <;> omega
  obtain ⟨d1, e1, f1, g1⟩ := s88 (c := c) (n := 29) (x := 25) (d := d) (by decide) (by omega)
  have t1 := t (miand (mishr c 25) 31 = 0)
  obtain ⟨d2, e2, f2, g2⟩ := s88 (c := c) (n := 28) (x := 25 + -5) (d := d1) (by decide) (by omega)
  have t2 := t (miand (mishr c (25 + -5)) 31 = 0)
  obtain ⟨d3, e3, f3, g3⟩ := s88 (c := c) (n := 27) (x := 25 + -5 + -5) (d := d2) (by decide) (by omega)
  have t3 := t (miand (mishr c (25 + -5 + -5)) 31 = 0)
  obtain ⟨d4, e4, f4, g4⟩ := s88 (c := c) (n := 26) (x := 25 + -5 + -5 + -5) (d := d3) (by decide) (by omega)
  have t4 := t (miand (mishr c (25 + -5 + -5 + -5)) 31 = 0)
  obtain ⟨d5, e5, f5, g5⟩ := s88 (c := c) (n := 25) (x := 25 + -5 + -5 + -5 + -5) (d := d4) (by decide) (by omega)
  have t5 := t (miand (mishr c (25 + -5 + -5 + -5 + -5)) 31 = 0)
  obtain ⟨d6, e6, f6, g6⟩ := s88 (c := c) (n := 24) (x := 25 + -5 + -5 + -5 + -5 + -5) (d := d5) (by decide) (by omega)
  have e7 : lp_88_3 572 c 24 (25 + -5 + -5 + -5 + -5 + -5 + -5) d6 = d6 := by
    show st_88_3 572 c _ _ d6 = _
    unfold st_88_3
    rw [if_pos (by decide)]
  have e : g_88 572 c d = d6 := by
    have : g_88 572 c d = lp_88_3 572 c (29 + 1) 25 d := rfl
    rw [this, e1, e2, e3, e4, e5, e6, e7]
  have b1 := shrN (by omega) c1 25 (by decide)
  have b2 := shrN (by omega) c1 20 (by decide)
  have b3 := shrN (by omega) c1 15 (by decide)
  have b4 := shrN (by omega) c1 10 (by decide)
  have b5 := shrN (by omega) c1 5 (by decide)
  have b6 := shrN (by omega) c1 0 (by decide)
  have b1 : miand (mishr c 25) 31 = c / 33554432 % 32 := b1
  have b2 : miand (mishr c (25 + -5)) 31 = c / 1048576 % 32 := b2
  have b3 : miand (mishr c (25 + -5 + -5)) 31 = c / 32768 % 32 := b3
  have b4 : miand (mishr c (25 + -5 + -5 + -5)) 31 = c / 1024 % 32 := b4
  have b5 : miand (mishr c (25 + -5 + -5 + -5 + -5)) 31 = c / 32 % 32 := b5
  have b6 : miand (mishr c (25 + -5 + -5 + -5 + -5 + -5)) 31 = c / 1 % 32 := b6
  rw [b1] at g1
  rw [b2] at g2
  rw [b3] at g3
  rw [b4] at g4
  rw [b5] at g5
  rw [b6, Int.ediv_one, if_neg (by omega)] at g6
  rw [e]
  refine ⟨((((f1.trans f2).trans f3).trans f4).trans f5).trans f6, ?_⟩
  have key : (if c / 33554432 % 32 = 0 then (0 : Int) else 1) + (if c / 1048576 % 32 = 0 then 0 else 1) + (if c / 32768 % 32 = 0 then 0 else 1) + (if c / 1024 % 32 = 0 then 0 else 1) + (if c / 32 % 32 = 0 then 0 else 1) + 1 = l5 c := by
    unfold l5
    by_cases z1 : c / 32 % 32 = 0
    · rw [if_pos z1, if_pos z1, if_pos (c8 z1), if_pos (c9 (c8 z1)), if_pos (c10 (c9 (c8 z1))), if_pos (c11 (c10 (c9 (c8 z1))))]; rfl
    · rw [if_neg z1, if_neg z1]
      by_cases z2 : c / 1024 % 32 = 0
      · rw [if_pos z2, if_pos z2, if_pos (c9 z2), if_pos (c10 (c9 z2)), if_pos (c11 (c10 (c9 z2)))]; rfl
      · rw [if_neg z2, if_neg z2]
        by_cases z3 : c / 32768 % 32 = 0
        · rw [if_pos z3, if_pos z3, if_pos (c10 z3), if_pos (c11 (c10 z3))]; rfl
        · rw [if_neg z3, if_neg z3]
          by_cases z4 : c / 1048576 % 32 = 0
          · rw [if_pos z4, if_pos z4, if_pos (c11 z4)]; rfl
          · rw [if_neg z4, if_neg z4]
            by_cases z5 : c / 33554432 % 32 = 0
            · rw [if_pos z5, if_pos z5]; rfl
            · rw [if_neg z5, if_neg z5]; rfl
  omega
theorem l5_r (c : Int) : 1 ≤ l5 c ∧ l5 c ≤ 6 := by
  unfold l5
  repeat' split
  all_goals omega
theorem in274 {y : Int} : ∀ (j n : Nat) (D : mD), j < n → FO D (lp_274_18 769 y n (10 ^ j) D) ∧ lp_274_18 769 y n (10 ^ j) D 769 18 = D 769 18 + j + 1 := by
  have fin : ∀ (n : Nat) (D : mD), lp_274_18 769 y n 0 D = D := fun n D => by
    cases n with
    | zero =>
      show st_274_18 769 y _ 0 D = D
      unfold st_274_18
      rw [if_neg (by decide)]
    | succ n =>
      show st_274_18 769 y _ 0 D = D
      unfold st_274_18
      rw [if_neg (by decide)]
  intro j
  induction j with
  | zero =>
    intro n D hn
    obtain ⟨m, rfl⟩ : ∃ m, n = m + 1 := ⟨n - 1, by omega⟩
    have e : ∃ z, lp_274_18 769 y (m + 1) (10 ^ 0) D = g_273 769 z D := by
      refine ⟨48 + y / 1 % 10, ?_⟩
      show st_274_18 769 y _ 1 D = _
      unfold st_274_18
      rw [if_pos (by decide), show (1 : Int) / 10 = 0 by decide]
      exact fin m _
    obtain ⟨z, e⟩ := e
    rw [e]
    refine ⟨a273.1, ?_⟩
    rw [a273.2]
    omega
  | succ j ih =>
    intro n D hn
    obtain ⟨m, rfl⟩ : ∃ m, n = m + 1 := ⟨n - 1, by omega⟩
    have p : (0 : Int) < 10 ^ j := Int.pow_pos (by decide)
    have e : ∃ z, lp_274_18 769 y (m + 1) (10 ^ (j + 1)) D = lp_274_18 769 y m (10 ^ j) (g_273 769 z D) := by
      refine ⟨48 + y / (10 ^ j * 10) % 10, ?_⟩
      show st_274_18 769 y _ (10 ^ (j + 1)) D = _
      unfold st_274_18
      rw [Int.pow_succ, if_pos (by omega), Int.mul_ediv_cancel _ (show (10 : Int) ≠ 0 by decide)]
    obtain ⟨z, e⟩ := e
    rw [e]
    obtain ⟨i1, i2⟩ := ih m (g_273 769 z D) (by omega)
    refine ⟨a273.1.trans i1, ?_⟩
    rw [i2, a273.2]
    omega
theorem up274 {y : Int} (D : mD) : ∀ (m i n : Nat), m ≤ n → (0 < m → 10 ^ (i + m) ≤ y) → y < 10 ^ (i + m + 1) → lp_274_2 769 y n (10 ^ i) D = lp_274_18 769 y (10 ^ (i + m) : Int).toNat (10 ^ (i + m)) D := by
  have stop : ∀ (r : Int → mD → mD) (i : Nat), y < 10 ^ (i + 1) → st_274_2 769 y r (10 ^ i) D = lp_274_18 769 y (10 ^ i : Int).toNat (10 ^ i) D := fun r i h => by
    have p : (0 : Int) < 10 ^ i := Int.pow_pos (by decide)
    unfold st_274_2
    rw [if_pos]
    rw [Int.ediv_lt_iff_lt_mul p, Int.mul_comm, ← Int.pow_succ]
    exact h
  intro m
  induction m with
  | zero =>
    intro i n _ _ h
    cases n with
    | zero => exact stop _ i h
    | succ n => exact stop _ i h
  | succ m ih =>
    intro i n hn h1 h2
    obtain ⟨q, rfl⟩ : ∃ q, n = q + 1 := ⟨n - 1, by omega⟩
    have p : (0 : Int) < 10 ^ i := Int.pow_pos (by decide)
    have h1 := h1 (by omega)
    have mono : (10 : Int) ^ (i + 1) ≤ 10 ^ (i + (m + 1)) := by
      have h : 10 ^ (i + 1) ≤ 10 ^ (i + (m + 1)) := Nat.pow_le_pow_right (by decide) (by omega)
      exact_mod_cast h
    have e : lp_274_2 769 y (q + 1) (10 ^ i) D = lp_274_2 769 y q (10 ^ (i + 1)) D := by
      show st_274_2 769 y _ (10 ^ i) D = _
      unfold st_274_2
      rw [if_neg, Int.pow_succ]
      rw [Int.ediv_lt_iff_lt_mul p, Int.mul_comm, ← Int.pow_succ]
      omega
    rw [e, ih (i + 1) q (by omega) (fun _ => by rw [show i + 1 + m = i + (m + 1) by omega]; exact h1) (by rw [show i + 1 + m + 1 = i + (m + 1) + 1 by omega]; exact h2), show i + 1 + m = i + (m + 1) by omega]
theorem a274 {y : Int} {D : mD} (j : Nat) (hj : j ≤ 5) (h1 : 0 < j → 10 ^ j ≤ y) (h2 : y < 10 ^ (j + 1)) : FO D (g_274 769 y D) ∧ g_274 769 y D 769 18 = D 769 18 + j + 1 := by
  have u := up274 (y := y) D j 0 (1000 - 1 : Int).toNat (by omega) (fun z => by rw [Nat.zero_add]; exact h1 z) (by rw [Nat.zero_add]; exact h2)
  rw [Nat.zero_add] at u
  have e : g_274 769 y D = lp_274_18 769 y (10 ^ j : Int).toNat (10 ^ j) D := u
  rw [e]
  refine in274 j _ D ?_
  have : ∀ j : Fin 6, j.val < (10 ^ j.val : Int).toNat := by decide +kernel
  exact this ⟨j, by omega⟩
theorem in275 {y : Int} : ∀ (j n : Nat) (D : mD), j < n → FO D (lp_275_18 769 y n (27 ^ j) D) ∧ lp_275_18 769 y n (27 ^ j) D 769 18 = D 769 18 + j + 1 := by
  have fin : ∀ (n : Nat) (D : mD), lp_275_18 769 y n 0 D = D := fun n D => by
    cases n with
    | zero =>
      show st_275_18 769 y _ 0 D = D
      unfold st_275_18
      rw [if_neg (by decide)]
    | succ n =>
      show st_275_18 769 y _ 0 D = D
      unfold st_275_18
      rw [if_neg (by decide)]
  intro j
  induction j with
  | zero =>
    intro n D hn
    obtain ⟨m, rfl⟩ : ∃ m, n = m + 1 := ⟨n - 1, by omega⟩
    have e : ∃ z, lp_275_18 769 y (m + 1) (27 ^ 0) D = g_273 769 z D := by
      refine ⟨y / 1 % 27 + 97 - 1, ?_⟩
      show st_275_18 769 y _ 1 D = _
      unfold st_275_18
      rw [if_pos (by decide), show (1 : Int) / 27 = 0 by decide]
      exact fin m _
    obtain ⟨z, e⟩ := e
    rw [e]
    refine ⟨a273.1, ?_⟩
    rw [a273.2]
    omega
  | succ j ih =>
    intro n D hn
    obtain ⟨m, rfl⟩ : ∃ m, n = m + 1 := ⟨n - 1, by omega⟩
    have p : (0 : Int) < 27 ^ j := Int.pow_pos (by decide)
    have e : ∃ z, lp_275_18 769 y (m + 1) (27 ^ (j + 1)) D = lp_275_18 769 y m (27 ^ j) (g_273 769 z D) := by
      refine ⟨y / (27 ^ j * 27) % 27 + 97 - 1, ?_⟩
      show st_275_18 769 y _ (27 ^ (j + 1)) D = _
      unfold st_275_18
      rw [Int.pow_succ, if_pos (by omega), Int.mul_ediv_cancel _ (show (27 : Int) ≠ 0 by decide)]
    obtain ⟨z, e⟩ := e
    rw [e]
    obtain ⟨i1, i2⟩ := ih m (g_273 769 z D) (by omega)
    refine ⟨a273.1.trans i1, ?_⟩
    rw [i2, a273.2]
    omega
theorem up275 {y : Int} (D : mD) : ∀ (m i n : Nat), m ≤ n → (0 < m → 27 ^ (i + m) ≤ y) → y < 27 ^ (i + m + 1) → lp_275_2 769 y n (27 ^ i) D = lp_275_18 769 y (27 ^ (i + m) : Int).toNat (27 ^ (i + m)) D := by
  have stop : ∀ (r : Int → mD → mD) (i : Nat), y < 27 ^ (i + 1) → st_275_2 769 y r (27 ^ i) D = lp_275_18 769 y (27 ^ i : Int).toNat (27 ^ i) D := fun r i h => by
    have p : (0 : Int) < 27 ^ i := Int.pow_pos (by decide)
    unfold st_275_2
    rw [if_pos]
    rw [Int.ediv_lt_iff_lt_mul p, Int.mul_comm, ← Int.pow_succ]
    exact h
  intro m
  induction m with
  | zero =>
    intro i n _ _ h
    cases n with
    | zero => exact stop _ i h
    | succ n => exact stop _ i h
  | succ m ih =>
    intro i n hn h1 h2
    obtain ⟨q, rfl⟩ : ∃ q, n = q + 1 := ⟨n - 1, by omega⟩
    have p : (0 : Int) < 27 ^ i := Int.pow_pos (by decide)
    have h1 := h1 (by omega)
    have mono : (27 : Int) ^ (i + 1) ≤ 27 ^ (i + (m + 1)) := by
      have h : 27 ^ (i + 1) ≤ 27 ^ (i + (m + 1)) := Nat.pow_le_pow_right (by decide) (by omega)
      exact_mod_cast h
    have e : lp_275_2 769 y (q + 1) (27 ^ i) D = lp_275_2 769 y q (27 ^ (i + 1)) D := by
      show st_275_2 769 y _ (27 ^ i) D = _
      unfold st_275_2
      rw [if_neg, Int.pow_succ]
      rw [Int.ediv_lt_iff_lt_mul p, Int.mul_comm, ← Int.pow_succ]
      omega
    rw [e, ih (i + 1) q (by omega) (fun _ => by rw [show i + 1 + m = i + (m + 1) by omega]; exact h1) (by rw [show i + 1 + m + 1 = i + (m + 1) + 1 by omega]; exact h2), show i + 1 + m = i + (m + 1) by omega]
theorem a275 {y : Int} {D : mD} (j : Nat) (hj : j ≤ 5) (h1 : 0 < j → 27 ^ j ≤ y) (h2 : y < 27 ^ (j + 1)) : FO D (g_275 769 y D) ∧ g_275 769 y D 769 18 = D 769 18 + j + 1 := by
  have u := up275 (y := y) D j 0 (14348907 - 1 : Int).toNat (by omega) (fun z => by rw [Nat.zero_add]; exact h1 z) (by rw [Nat.zero_add]; exact h2)
  rw [Nat.zero_add] at u
  have e : g_275 769 y D = lp_275_18 769 y (27 ^ j : Int).toNat (27 ^ j) D := u
  rw [e]
  refine in275 j _ D ?_
  have : ∀ j : Fin 6, j.val < (27 ^ j.val : Int).toNat := by decide +kernel
  exact this ⟨j, by omega⟩
theorem n275 {c : Int} {D : mD} (hc : okN c) : FO D (g_275 769 (nm c) D) ∧ g_275 769 (nm c) D 769 18 = D 769 18 + l5 c := by
  have hb : ∀ j : Nat, j ≤ 5 → (0 < j → 27 ^ j ≤ nm c) → nm c < 27 ^ (j + 1) → l5 c = j + 1 → FO D (g_275 769 (nm c) D) ∧ g_275 769 (nm c) D 769 18 = D 769 18 + l5 c := fun j h1 h2 h3 h4 => by
    have a := a275 (D := D) j h1 h2 h3
    refine ⟨a.1, ?_⟩
    rw [a.2, h4]
    omega
  obtain ⟨c0, c1, c2, c3, c4, c5, c6, c7, c8, c9, c10, c11⟩ := hc
  unfold l5 at hb
  have p2 : 0 ≤ c / 32 % 32 := by omega
  have p3 : 0 ≤ c / 1024 % 32 := by omega
  have p4 : 0 ≤ c / 32768 % 32 := by omega
  have p5 : 0 ≤ c / 1048576 % 32 := by omega
  have p6 : 0 ≤ c / 33554432 % 32 := by omega
  have en : nm c = c % 32 + 27 * (c / 32 % 32 + 27 * (c / 1024 % 32 + 27 * (c / 32768 % 32 + 27 * (c / 1048576 % 32 + 27 * (c / 33554432 % 32))))) := rfl
  unfold l5
  generalize nm c = y at *
  generalize c / 33554432 % 32 = g6 at *
  generalize c / 1048576 % 32 = g5 at *
  generalize c / 32768 % 32 = g4 at *
  generalize c / 1024 % 32 = g3 at *
  generalize c / 32 % 32 = g2 at *
  generalize c % 32 = g1 at *
  by_cases z1 : g2 = 0
  · rw [if_pos z1] at hb ⊢
    have := c8 z1; have := c9 this; have := c10 this; have := c11 this
    exact hb 0 (by decide) (fun h => absurd h (by decide)) (show y < 27 by omega) rfl
  · rw [if_neg z1] at hb ⊢
    by_cases z2 : g3 = 0
    · rw [if_pos z2] at hb ⊢
      have := c9 z2; have := c10 this; have := c11 this
      exact hb 1 (by decide) (fun _ => show 27 ≤ y by omega) (show y < 729 by omega) rfl
    · rw [if_neg z2] at hb ⊢
      by_cases z3 : g4 = 0
      · rw [if_pos z3] at hb ⊢
        have := c10 z3; have := c11 this
        exact hb 2 (by decide) (fun _ => show 729 ≤ y by omega) (show y < 19683 by omega) rfl
      · rw [if_neg z3] at hb ⊢
        by_cases z4 : g5 = 0
        · rw [if_pos z4] at hb ⊢
          have := c11 z4
          exact hb 3 (by decide) (fun _ => show 19683 ≤ y by omega) (show y < 531441 by omega) rfl
        · rw [if_neg z4] at hb ⊢
          by_cases z5 : g6 = 0
          · rw [if_pos z5] at hb ⊢
            exact hb 4 (by decide) (fun _ => show 531441 ≤ y by omega) (show y < 14348907 by omega) rfl
          · rw [if_neg z5] at hb ⊢
            exact hb 5 (by decide) (fun _ => show 14348907 ≤ y by omega) (show y < 387420489 by omega) rfl
def d10 (x : Int) : Int := if x < 10 then 1 else if x < 100 then 2 else if x < 1000 then 3 else 4
theorem d10_r (c : Int) : 1 ≤ d10 c ∧ d10 c ≤ 4 := by
  unfold d10
  repeat' split
  all_goals omega
theorem n274 {y : Int} {D : mD} (h : y < 10000) : FO D (g_274 769 y D) ∧ g_274 769 y D 769 18 = D 769 18 + d10 y := by
  have hb : ∀ j : Nat, j ≤ 5 → (0 < j → 10 ^ j ≤ y) → y < 10 ^ (j + 1) → d10 y = j + 1 → FO D (g_274 769 y D) ∧ g_274 769 y D 769 18 = D 769 18 + d10 y := fun j h1 h2 h3 h4 => by
    have a := a274 (D := D) j h1 h2 h3
    refine ⟨a.1, ?_⟩
    rw [a.2, h4]
    omega
  unfold d10 at hb ⊢
  by_cases z1 : y < 10
  · rw [if_pos z1] at hb ⊢
    exact hb 0 (by decide) (fun h => absurd h (by decide)) (show y < 10 by omega) rfl
  · rw [if_neg z1] at hb ⊢
    by_cases z2 : y < 100
    · rw [if_pos z2] at hb ⊢
      exact hb 1 (by decide) (fun _ => show 10 ≤ y by omega) (show y < 100 by omega) rfl
    · rw [if_neg z2] at hb ⊢
      by_cases z3 : y < 1000
      · rw [if_pos z3] at hb ⊢
        exact hb 2 (by decide) (fun _ => show 100 ≤ y by omega) (show y < 1000 by omega) rfl
      · rw [if_neg z3] at hb ⊢
        exact hb 3 (by decide) (fun _ => show 1000 ≤ y by omega) (show y < 10000 by omega) rfl
theorem s89 {y : Int} {n : Nat} {x : Int} {d : mD} (hx : 0 < x) (h : d 572 1 < 1000) : ∃ d', lp_89_4 572 y (n + 1) x d = lp_89_4 572 y n (x / 10) d' ∧ FT d d' ∧ d' 572 1 = d 572 1 + (if y < x ∧ ¬ x = 1 then 0 else 1) := by
  have e : ∃ z, lp_89_4 572 y (n + 1) x d = if y < x ∧ ¬ x = 1 then lp_89_4 572 y n (x / 10) d else lp_89_4 572 y n (x / 10) (g_86 572 z d) := by
    refine ⟨48 + y / x % 10, ?_⟩
    show st_89_4 572 y _ x d = _
    unfold st_89_4
    rw [if_pos hx]
    by_cases z1 : y < x
    · rw [if_pos z1]
      by_cases z2 : x = 1
      · rw [if_pos z2, if_neg (fun z => z.2 z2)]
      · rw [if_neg z2, if_pos ⟨z1, z2⟩]
    · rw [if_neg z1, if_neg (fun z => z1 z.1)]
  obtain ⟨z, e⟩ := e
  rw [e]
  by_cases z : y < x ∧ ¬ x = 1
  · rw [if_pos z, if_pos z]
    exact ⟨d, rfl, fun _ _ _ => rfl, by omega⟩
  · rw [if_neg z, if_neg z]
    exact ⟨_, rfl, (a86 h).1, (a86 h).2⟩
theorem a89 {y : Int} {d : mD} (h : d 572 1 ≤ 900) : FT d (g_89 572 y d) ∧ g_89 572 y d 572 1 = d 572 1 + d10 y := by
  have t : ∀ (p : Prop) [Decidable p], (0 : Int) ≤ (if p then 0 else 1) ∧ (if p then (0 : Int) else 1) ≤ 1 := fun p _ => by split <;> omega
  obtain ⟨d1, e1, f1, g1⟩ := s89 (y := y) (n := 999) (x := 1000) (d := d) (by decide) (by omega)
  have t1 := t (y < 1000 ∧ ¬ (1000 : Int) = 1)
  obtain ⟨d2, e2, f2, g2⟩ := s89 (y := y) (n := 998) (x := 100) (d := d1) (by decide) (by omega)
  have t2 := t (y < 100 ∧ ¬ (100 : Int) = 1)
  obtain ⟨d3, e3, f3, g3⟩ := s89 (y := y) (n := 997) (x := 10) (d := d2) (by decide) (by omega)
  have t3 := t (y < 10 ∧ ¬ (10 : Int) = 1)
  obtain ⟨d4, e4, f4, g4⟩ := s89 (y := y) (n := 996) (x := 1) (d := d3) (by decide) (by omega)
  have e5 : lp_89_4 572 y 996 (1 / 10) d4 = d4 := by
    show st_89_4 572 y _ _ d4 = _
    unfold st_89_4
    rw [if_neg (by decide)]
  have e : g_89 572 y d = d4 := by
    have : g_89 572 y d = lp_89_4 572 y (999 + 1) 1000 d := rfl
    rw [this, e1, show (1000 : Int) / 10 = 100 by decide, e2, show (100 : Int) / 10 = 10 by decide, e3, show (10 : Int) / 10 = 1 by decide, e4, e5]
  rw [e]
  refine ⟨((f1.trans f2).trans f3).trans f4, ?_⟩
  rw [g4, g3, g2, g1, if_neg (show ¬ (y < 1 ∧ ¬ (1 : Int) = 1) from fun z => z.2 rfl)]
  unfold d10
  by_cases z1 : y < 10
  · rw [if_pos z1, if_pos ⟨by omega, by decide⟩, if_pos ⟨by omega, by decide⟩, if_pos ⟨z1, by decide⟩]; omega
  · rw [if_neg z1, if_neg (show ¬ (y < 10 ∧ ¬ (10 : Int) = 1) from fun z => z1 z.1)]
    by_cases z2 : y < 100
    · rw [if_pos z2, if_pos ⟨by omega, by decide⟩, if_pos ⟨z2, by decide⟩]; omega
    · rw [if_neg z2, if_neg (show ¬ (y < 100 ∧ ¬ (100 : Int) = 1) from fun z => z2 z.1)]
      by_cases z3 : y < 1000
      · rw [if_pos z3, if_pos ⟨z3, by decide⟩]; omega
      · rw [if_neg z3, if_neg (show ¬ (y < 1000 ∧ ¬ (1000 : Int) = 1) from fun z => z3 z.1)]; omega
theorem wrt {d : mD} {a : Int} (hk : OKR 1 d (d 770)) (a0 : 0 ≤ a) (a1 : a < d 770 7) : ∀ (n m : Nat) (k : Int) (e D : mD), FT d e → D 770 = d 770 → e 572 1 = D 769 18 → 0 ≤ D 769 18 → D 769 18 ≤ 12 * k → 0 ≤ k → k ≤ d 770 (12 + 68 * a + 5) → d 770 (12 + 68 * a + 5) - k ≤ (n : Int) → d 770 (12 + 68 * a + 5) - k ≤ (m : Int) → (lp_148_15 0 a n k e).1 = (lp_276_38 769 a m (12 + 68 * a) k D).1 ∧ (0 ≤ (lp_148_15 0 a n k e).1 ∧ (lp_148_15 0 a n k e).1 ≤ 1000) ∧ (lp_276_38 769 a m (12 + 68 * a) k D).2 769 0 = D 769 0 := by
  obtain ⟨hg, -, -, ht, hr⟩ := id hk
  obtain ⟨q0, q1, q2, q3, q4, q5⟩ := hr.2.1.2 a a0 a1
  have q4 : d 8 a = d 770 (12 + 68 * a + 4) := q4
  have q5 : d 9 a = d 770 (12 + 68 * a + 5) := q5
  have l16 := (hg.2.1 a a0 a1).2.2.2.2.1
  have n8 := hg.1.2.1
  have n0 := hg.1.2.2.2.2.2.1
  have last : ∀ (r : Int → mD → Int × mD) (r' : Int → Int → mD → Int × mD) (e D : mD), FT d e → D 770 = d 770 → e 572 1 = D 769 18 → 0 ≤ D 769 18 → D 769 18 ≤ 12 * d 770 (12 + 68 * a + 5) → (st_148_15 0 a r (d 770 (12 + 68 * a + 5)) e).1 = (st_276_38 769 a r' (12 + 68 * a) (d 770 (12 + 68 * a + 5)) D).1 ∧ (0 ≤ (st_148_15 0 a r (d 770 (12 + 68 * a + 5)) e).1 ∧ (st_148_15 0 a r (d 770 (12 + 68 * a + 5)) e).1 ≤ 1000) ∧ (st_276_38 769 a r' (12 + 68 * a) (d 770 (12 + 68 * a + 5)) D).2 769 0 = D 769 0 := fun r r' e D he hD h1 h2 h3 => by
    have e9 : e 9 = d 9 := he 9 (by decide) (by decide)
    have e8 : e 8 = d 8 := he 8 (by decide) (by decide)
    unfold st_148_15 st_276_38
    rw [show (0 : Int) + 1 + 2 + 6 = 9 by decide, show (0 : Int) + 1 + 2 + 5 = 8 by decide, show (0 : Int) + 572 = 572 by decide, n7691, e9, e8, hD, q5, q4, if_neg (Int.lt_irrefl _), if_neg (Int.lt_irrefl _)]
    by_cases z : d 770 (12 + 68 * a + 4) = 0
    · rw [if_pos z, if_pos z]
      have x1 := (a86 (x := 33) (d := e) (by omega)).2
      have x2 := a273 (x := 33) (D := D)
      refine ⟨?_, ?_, x2.1.2 0 (by decide)⟩
      · show g_86 572 33 e 572 1 = g_273 769 33 D 769 18
        rw [x1, x2.2, h1]
      · show 0 ≤ g_86 572 33 e 572 1 ∧ g_86 572 33 e 572 1 ≤ 1000
        rw [x1]
        omega
    · rw [if_neg z, if_neg z]
      exact ⟨h1, ⟨by show 0 ≤ e 572 1; omega, by show e 572 1 ≤ 1000; omega⟩, rfl⟩
  have step : ∀ (r : Int → mD → Int × mD) (r' : Int → Int → mD → Int × mD) (k : Int) (e D : mD), FT d e → D 770 = d 770 → e 572 1 = D 769 18 → 0 ≤ D 769 18 → D 769 18 ≤ 12 * k → 0 ≤ k → k < d 770 (12 + 68 * a + 5) → ∃ e' D', st_148_15 0 a r k e = r (k + 1) e' ∧ st_276_38 769 a r' (12 + 68 * a) k D = r' (12 + 68 * a) (k + 1) D' ∧ FT d e' ∧ D' 770 = d 770 ∧ e' 572 1 = D' 769 18 ∧ 0 ≤ D' 769 18 ∧ D' 769 18 ≤ 12 * (k + 1) ∧ D' 769 0 = D 769 0 := fun r r' k e D he hD h1 h2 h3 k0 k1 => by
    have t := hg.2.2.1 a a0 a1 k k0 k1
    have eq : d 10 (a * 16 + k) = d 770 (12 + 68 * a + 7 + k) := hr.2.2.1 a a0 a1 k k0 k1
    obtain ⟨r1, r2, r3, r4, r5⟩ := hr.2.2.2.2.1.2 _ t.1.1 t.1.2
    have r1 : d 51 (d 770 (12 + 68 * a + 7 + k)) = d 770 (452 + 24 * d 770 (12 + 68 * a + 7 + k) + 0) := r1
    have r3 : d 53 (d 770 (12 + 68 * a + 7 + k)) = d 770 (452 + 24 * d 770 (12 + 68 * a + 7 + k) + 2) := r3
    obtain ⟨g1, g2, g3, -⟩ := hg.2.2.2.1 _ t.1.1 t.1.2
    obtain ⟨⟨o1, o2⟩, -⟩ := hr.2.2.2.1.2 _ g1.1 g1.2
    have o1 : okN (d 12 (d 770 (452 + 24 * d 770 (12 + 68 * a + 7 + k) + 0))) := o1
    have o2 : nm (d 12 (d 770 (452 + 24 * d 770 (12 + 68 * a + 7 + k) + 0))) = d 770 (420 + 2 * d 770 (452 + 24 * d 770 (12 + 68 * a + 7 + k) + 0) + 0) := o2
    -- one ticket, behind the blank
    have one : ∀ (e1 D1 : mD), FT d e1 → FO D D1 → e1 572 1 = D1 769 18 → 0 ≤ D1 769 18 → D1 769 18 ≤ 12 * k + 1 → ∃ e' D', g_89 572 (e 53 (v_38 3 a k e)) (g_86 572 64 (g_88 572 (e 12 (e 51 (v_38 3 a k e))) e1)) = e' ∧ g_274 769 (D 770 (452 + 24 * D 770 (12 + 68 * a + 7 + k) + 2)) (g_273 769 64 (g_275 769 (D 770 (420 + 2 * D 770 (452 + 24 * D 770 (12 + 68 * a + 7 + k) + 0) + 0)) D1)) = D' ∧ FT d e' ∧ D' 770 = d 770 ∧ e' 572 1 = D' 769 18 ∧ 0 ≤ D' 769 18 ∧ D' 769 18 ≤ 12 * (k + 1) ∧ D' 769 0 = D 769 0 := fun e1 D1 f1 f2 x1 x2 x3 => by
      refine ⟨_, _, rfl, rfl, ?_⟩
      have v : v_38 3 a k e = d 770 (12 + 68 * a + 7 + k) := by
        unfold v_38
        rw [show (3 : Int) + 7 = 10 by decide, he 10 (by decide) (by decide), eq]
      rw [v, he 53 (by decide) (by decide), he 12 (by decide) (by decide), he 51 (by decide) (by decide), r1, r3, hD, ← o2]
      generalize d 770 (452 + 24 * d 770 (12 + 68 * a + 7 + k) + 2) = J at *
      generalize d 12 (d 770 (452 + 24 * d 770 (12 + 68 * a + 7 + k) + 0)) = C at *
      have lr := l5_r C
      have dr := d10_r J
      have y1 := a88 (d := e1) o1 (by omega)
      have z1 := n275 (D := D1) o1
      have y2 := a86 (x := 64) (d := g_88 572 C e1) (by omega)
      have z2 := a273 (x := 64) (D := g_275 769 (nm C) D1)
      have y3 := a89 (y := J) (d := g_86 572 64 (g_88 572 C e1)) (by omega)
      have z3 := n274 (y := J) (D := g_273 769 64 (g_275 769 (nm C) D1)) (by omega)
      have fo := ((f2.trans z1.1).trans z2.1).trans z3.1
      exact ⟨((f1.trans y1.1).trans y2.1).trans y3.1, by rw [fo.1 770 (by decide) (by decide), hD], by omega, by omega, by omega, fo.2 0 (by decide)⟩
    have es : st_148_15 0 a r k e = r (k + 1) (g_89 572 (e 53 (v_38 3 a k e)) (g_86 572 64 (g_88 572 (e 12 (e 51 (v_38 3 a k e))) (if 0 < k then g_86 572 32 e else e)))) := by
      unfold st_148_15
      rw [show (0 : Int) + 1 + 2 + 6 = 9 by decide, show (0 : Int) + 572 = 572 by decide, show (0 : Int) + 1 + 49 + 3 = 53 by decide, show (0 : Int) + 1 + 49 + 1 = 51 by decide, show (0 : Int) + 1 + 10 + 1 = 12 by decide, show (0 : Int) + 1 + 2 = 3 by decide, he 9 (by decide) (by decide), q5, if_pos k1]
      by_cases z : 0 < k
      · rw [if_pos z, if_pos z]
      · rw [if_neg z, if_neg z]
    have ds : st_276_38 769 a r' (12 + 68 * a) k D = r' (12 + 68 * a) (k + 1) (g_274 769 (D 770 (452 + 24 * D 770 (12 + 68 * a + 7 + k) + 2)) (g_273 769 64 (g_275 769 (D 770 (420 + 2 * D 770 (452 + 24 * D 770 (12 + 68 * a + 7 + k) + 0) + 0)) (if 0 < k then g_273 769 32 D else D)))) := by
      unfold st_276_38
      rw [n7691, hD, if_pos k1]
      by_cases z : 0 < k
      · rw [if_pos z, if_pos z]
      · rw [if_neg z, if_neg z]
    by_cases z : 0 < k
    · rw [if_pos z] at es ds
      have x1 := a86 (x := 32) (d := e) (by omega)
      have x2 := a273 (x := 32) (D := D)
      obtain ⟨e', D', w1, w2, w3⟩ := one _ _ (he.trans x1.1) x2.1 (by rw [x1.2, x2.2, h1]) (by omega) (by omega)
      exact ⟨e', D', by rw [es, w1], by rw [ds, w2], w3⟩
    · rw [if_neg z] at es ds
      obtain ⟨e', D', w1, w2, w3⟩ := one e D he FO.refl h1 h2 (by omega)
      exact ⟨e', D', by rw [es, w1], by rw [ds, w2], w3⟩
  intro n
  induction n with
  | zero =>
    intro m k e D he hD h1 h2 h3 k0 k1 hn hm
    have ek : k = d 770 (12 + 68 * a + 5) := by omega
    subst ek
    cases m with
    | zero => exact last _ _ e D he hD h1 h2 h3
    | succ m => exact last _ _ e D he hD h1 h2 h3
  | succ n ih =>
    intro m k e D he hD h1 h2 h3 k0 k1 hn hm
    by_cases c : k < d 770 (12 + 68 * a + 5)
    · cases m with
      | zero => omega
      | succ m =>
        obtain ⟨e', D', s1, s2, s3, s4, s5, s6, s7, s8⟩ := step (lp_148_15 0 a n) (lp_276_38 769 a m) k e D he hD h1 h2 h3 k0 c
        have s1 : lp_148_15 0 a (n + 1) k e = lp_148_15 0 a n (k + 1) e' := s1
        have s2 : lp_276_38 769 a (m + 1) (12 + 68 * a) k D = lp_276_38 769 a m (12 + 68 * a) (k + 1) D' := s2
        rw [s1, s2, ← s8]
        exact ih m (k + 1) e' D' s3 s4 s5 s6 s7 (by omega) (by omega) (by omega) (by omega)
    · have ek : k = d 770 (12 + 68 * a + 5) := by omega
      subst ek
      cases m with
      | zero => exact last _ _ e D he hD h1 h2 h3
      | succ m => exact last _ _ e D he hD h1 h2 h3
theorem qpWrite {d : mD} {a : Int} (hk : OKR 1 d (d 770)) (he : g_324 0 a 778 d 770 = d 770) : QP (g_324 0 a 778 d) (g_276 769 a (g_324 0 a 778 d)) (v_324 0 a 778 d) (v_276 769 a (g_324 0 a 778 d)) := by
  obtain ⟨hg, -, -, ht, hr⟩ := id hk
  have o7 : d 3 0 = d 770 7 := hr.2.1.1
  revert he
  unfold v_324 g_324
  rw [show (0 : Int) + 1 + 2 = 3 by decide, show (0 : Int) + 572 = 572 by decide, o7, ifR, ifR]
  by_cases c : 0 ≤ a ∧ a < d 770 7
  · rw [if_pos c, if_pos c]
    intro he
    have l16 := (hg.2.1 a c.1 c.2).2.2.2.2.1
    generalize hL : lp_148_15 0 a (16 - 0 : Int).toNat 0 (mset d 572 1 0) = L at *
    have h7 : (mset (mset (mset L.2 778 0 L.1) 769 0 0) 769 18 0) 770 = d 770 := by
      rw [← he]
      funext j
      rw [ms_a (by decide), ms_a (by decide)]
    obtain ⟨w1, w2, w3⟩ := wrt hk c.1 c.2 (16 - 0 : Int).toNat (61 - 0 : Int).toNat 0 (mset d 572 1 0) (mset (mset (mset L.2 778 0 L.1) 769 0 0) 769 18 0) (fun b p q => by funext j; exact ms_a p) h7 (by rw [ms_e rfl rfl, ms_e rfl rfl]) (by rw [ms_e rfl rfl]; decide) (by rw [ms_e rfl rfl]; decide) (by decide) l16.1 (by omega) (by omega)
    rw [hL] at w1 w2
    have ef : f_276 769 a (mset L.2 778 0 L.1) = lp_276_38 769 a (61 - 0 : Int).toNat (12 + 68 * a) 0 (mset (mset (mset L.2 778 0 L.1) 769 0 0) 769 18 0) := by
      unfold f_276
      rw [v236, he, if_pos c, if_neg (by decide)]
    refine ⟨?_, fun _ => ⟨?_, ?_⟩⟩
    · unfold g_276
      rw [ef, w3, ms_i (by decide), ms_e rfl rfl]
    · unfold v_276
      rw [ef, ms_e rfl rfl]
      exact w1
    · unfold v_276
      rw [ef, ← w1]
      exact inI.of (by omega)
  · rw [if_neg c, if_neg c]
    intro _
    have e : g_276 769 a d = mset d 769 0 1 := by
      unfold g_276 f_276
      rw [v236, if_neg c, if_pos rfl]
    rw [e]
    exact QP.fail (by decide)
