/-! ===== queries: setting, office, queued ===== -/
def QP (d1 d2 : mD) (v vr : Int) : Prop := d2 769 0 = v ∧ (v = 0 → d1 778 0 = vr ∧ inI vr)
theorem QP.fail {d : mD} {c vr : Int} (hc : ¬ c = 0) : QP d (mset d 769 0 c) c vr := ⟨ms_e rfl rfl, fun z => absurd z hc⟩
theorem QP.ok {d : mD} {x vr : Int} (h : x = vr) (hr : -100000 ≤ x ∧ x ≤ 100000) : QP (mset d 778 0 x) (mset (mset d 778 0 x) 769 0 0) 0 vr := ⟨ms_e rfl rfl, fun _ => ⟨by rw [ms_e rfl rfl]; exact h, by rw [← h]; exact inI.of hr⟩⟩
theorem o778 {d : mD} {x : Int} {b : Int} (h : ¬ b = 778) : mset d 778 0 x b = d b := by
  funext j
  exact ms_a h
theorem o769 {d : mD} {x : Int} {b : Int} (h : ¬ b = 769) : mset d 769 0 x b = d b := by
  funext j
  exact ms_a h
theorem v176n {a n : Int} {d : mD} (h : ∃ m, n = m - 1) : v_176 a 0 n d = if 0 ≤ a ∧ a < n + 1 then 1 else 0 := by
  rw [v176]
  by_cases c : 0 ≤ a ∧ a < n + 1
  · rw [if_pos c, if_pos (by omega)]
  · rw [if_neg c, if_neg (by omega)]
theorem qpSetting {d : mD} {a : Int} (hk : OKR 1 d (d 770)) : QP (g_306 0 a 778 d) (g_240 769 a (g_306 0 a 778 d)) (v_306 0 a 778 d) (v_240 769 a (g_306 0 a 778 d)) := by
  unfold v_306 g_306
  rw [n01, show (1 : Int) + 1 = 2 by decide, ifR, ifR]
  have v04 : ∀ D, v_176 a 0 4 D = if 0 ≤ a ∧ a < 5 then 1 else 0 := fun D => by
    rw [v176]
    by_cases c : 0 ≤ a ∧ a < 5
    · rw [if_pos c, if_pos (by omega)]
    · rw [if_neg c, if_neg (by omega)]
  by_cases c : 0 ≤ a ∧ a < 5
  · rw [if_pos c, if_pos c]
    have e : g_240 769 a (mset d 778 0 (d 2 a)) = mset (mset d 778 0 (d 2 a)) 769 0 0 ∧ v_240 769 a (mset d 778 0 (d 2 a)) = d 770 (2 + a) := by
      unfold g_240 v_240
      rw [v04, if_pos c, if_neg (by decide), if_neg (by decide), n7691, ms_a (by decide)]
      exact ⟨rfl, rfl⟩
    rw [e.1, e.2]
    exact QP.ok (hk.2.2.2.2.1.2.2 a c.1 c.2) (oldB hk.1 hk.2.2.2.2 c)
  · rw [if_neg c, if_neg c]
    have e : g_240 769 a d = mset d 769 0 1 := by
      unfold g_240
      rw [v04, if_neg c, if_pos rfl]
    rw [e]
    exact QP.fail (by decide)
theorem v103 {d : mD} {w : Row} {o : Int} (hg : GG w) (h : Rel 1 d w) : v_103 50 o d = csum (fun t => if w (452 + 24 * t + 4) = 1 ∧ w (452 + 24 * t + 1) = o then 1 else 0) (w 9).toNat := by
  obtain ⟨r1, r2⟩ := h.2.2.2.2.1
  have n9 := hg.1.2.2.1
  have r1 : d 50 0 = w 9 := r1
  unfold v_103
  refine cnt0 (L := fun n a k => lp_103_4 50 o n a k d) n9.1 (by omega) (fun n a k hk => ?_) (fun n a k x y => ?_)
  · cases n with
    | zero =>
      show st_103_4 50 o _ a k d = a
      unfold st_103_4
      rw [if_neg (by omega)]
    | succ n =>
      show st_103_4 50 o _ a k d = a
      unfold st_103_4
      rw [if_neg (by omega)]
  · obtain ⟨t1, t2, t3, t4, t5⟩ := r2 k x y
    have t5 : d 55 k = w (452 + 24 * k + 4) := t5
    have t2 : d 52 k = w (452 + 24 * k + 1) := t2
    show st_103_4 50 o _ a k d = _
    unfold st_103_4
    rw [if_pos (by omega), show (50 : Int) + 5 = 55 by decide, show (50 : Int) + 2 = 52 by decide, t5, t2]
    by_cases c1 : w (452 + 24 * k + 4) = 1
    · by_cases c2 : w (452 + 24 * k + 1) = o
      · rw [if_pos c1, if_pos c2, if_pos ⟨c1, c2⟩]
      · rw [if_pos c1, if_neg c2, if_neg (fun z => c2 z.2)]
    · rw [if_neg c1, if_neg (fun z => c1 z.1)]
theorem qpOffice {d : mD} {a b : Int} (hk : OKR 1 d (d 770)) : QP (g_307 0 a b 778 d) (g_241 769 a b (g_307 0 a b 778 d)) (v_307 0 a b 778 d) (v_241 769 a b (g_307 0 a b 778 d)) := by
  obtain ⟨hg, -, -, -, hr⟩ := id hk
  have o7 : d 3 0 = d 770 7 := hr.2.1.1
  unfold v_307 g_307
  rw [n01, n49, show (1 : Int) + 2 = 3 by decide, show (3 : Int) + 2 = 5 by decide, show (3 : Int) + 3 = 6 by decide, show (3 : Int) + 4 = 7 by decide, show (3 : Int) + 5 = 8 by decide, show (3 : Int) + 6 = 9 by decide, o7, ifR, ifR]
  by_cases c : 0 ≤ a ∧ a < d 770 7
  · rw [if_pos c, if_pos c]
    obtain ⟨t0, t1, t2, t3, t4, t5⟩ := hr.2.1.2 a c.1 c.2
    have t1 : d 5 a = d 770 (12 + 68 * a + 1) := t1
    have t2 : d 6 a = d 770 (12 + 68 * a + 2) := t2
    have t3 : d 7 a = d 770 (12 + 68 * a + 3) := t3
    have t4 : d 8 a = d 770 (12 + 68 * a + 4) := t4
    have t5 : d 9 a = d 770 (12 + 68 * a + 5) := t5
    obtain ⟨u1, u2, u3, u4, u5, u6, u7⟩ := hg.2.1 a c.1 c.2
    have e : ∀ x, 0 ≤ b ∧ b ≤ 5 → g_241 769 a b (mset d 778 0 x) = mset (mset d 778 0 x) 769 0 0 ∧ v_241 769 a b (mset d 778 0 x) = d 770 (12 + 68 * a + 1 + b) := fun x hb => by
      unfold g_241 v_241
      rw [v236, o778 (by decide), if_pos c, v176, if_pos hb, if_neg (by decide), if_neg (by decide), if_neg (by decide), if_neg (by decide), n7691, o778 (by decide)]
      exact ⟨rfl, rfl⟩
    by_cases b0 : b = 0
    · subst b0
      rw [if_pos rfl, if_pos rfl, (e _ (by decide)).1, (e _ (by decide)).2]
      refine QP.ok ?_ (by omega)
      rw [t1, Int.add_zero]
    rw [if_neg b0, if_neg b0]
    by_cases b1 : b = 1
    · subst b1
      rw [if_pos rfl, if_pos rfl, (e _ (by decide)).1, (e _ (by decide)).2]
      refine QP.ok ?_ (by omega)
      rw [t2, show 12 + 68 * a + 1 + 1 = 12 + 68 * a + 2 by omega]
    rw [if_neg b1, if_neg b1]
    by_cases b2 : b = 2
    · subst b2
      rw [if_pos rfl, if_pos rfl, (e _ (by decide)).1, (e _ (by decide)).2]
      refine QP.ok ?_ (by omega)
      rw [t3, show 12 + 68 * a + 1 + 2 = 12 + 68 * a + 3 by omega]
    rw [if_neg b2, if_neg b2]
    by_cases b3 : b = 3
    · subst b3
      rw [if_pos rfl, if_pos rfl]
      have e3 : 12 + 68 * a + 1 + 3 = 12 + 68 * a + 4 := by omega
      by_cases z : d 8 a = 0
      · rw [if_pos z, (e _ (by decide)).1, (e _ (by decide)).2]
        refine QP.ok ?_ (by decide)
        rw [e3, ← t4, z]
      · rw [if_neg z, (e _ (by decide)).1, (e _ (by decide)).2]
        refine QP.ok ?_ (by decide)
        rw [e3]
        omega
    rw [if_neg b3, if_neg b3]
    by_cases b4 : b = 4
    · subst b4
      rw [if_pos rfl, if_pos rfl, (e _ (by decide)).1, (e _ (by decide)).2]
      refine QP.ok ?_ (by omega)
      rw [t5, show 12 + 68 * a + 1 + 4 = 12 + 68 * a + 5 by omega]
    rw [if_neg b4, if_neg b4]
    by_cases b5 : b = 5
    · subst b5
      rw [if_pos rfl, if_pos rfl, (e _ (by decide)).1, (e _ (by decide)).2]
      have sv := v103 (o := a) hg hr
      have r := csum_rng (f := fun t => if d 770 (452 + 24 * t + 4) = 1 ∧ d 770 (452 + 24 * t + 1) = a then 1 else 0) (n := (d 770 9).toNat) (B := 1) (fun i x y => by split <;> omega)
      have n9 := hg.1.2.2.1
      refine QP.ok ?_ ?_
      · rw [sv, show 12 + 68 * a + 1 + 5 = 12 + 68 * a + 6 by omega, u7]
      · rw [sv]
        omega
    rw [if_neg b5, if_neg b5]
    have e6 : g_241 769 a b d = mset d 769 0 2 := by
      unfold g_241
      have nb : ¬ (0 ≤ b ∧ b ≤ 5) := by omega
      have n1 : ¬ (1 : Int) = 0 := by decide
      rw [v236, if_pos c, if_neg n1, v176, if_neg nb, if_pos rfl]
    rw [e6]
    exact QP.fail (by decide)
  · rw [if_neg c, if_neg c]
    have e : g_241 769 a b d = mset d 769 0 1 := by
      unfold g_241
      rw [v236, if_neg c, if_pos rfl]
    rw [e]
    exact QP.fail (by decide)
theorem qpQueued {d : mD} {a b : Int} (hk : OKR 1 d (d 770)) : QP (g_308 0 a b 778 d) (g_242 769 a b (g_308 0 a b 778 d)) (v_308 0 a b 778 d) (v_242 769 a b (g_308 0 a b 778 d)) := by
  obtain ⟨hg, -, -, -, hr⟩ := id hk
  have o7 : d 3 0 = d 770 7 := hr.2.1.1
  have n7 := hg.1.1
  have n9 := hg.1.2.2.1
  unfold v_308 g_308
  rw [n01, show (1 : Int) + 2 = 3 by decide, show (3 : Int) + 6 = 9 by decide, o7, ifR, ifR, ifR, ifR]
  by_cases c : 0 ≤ a ∧ a < d 770 7
  · rw [if_pos c, if_pos c]
    have t5 : d 9 a = d 770 (12 + 68 * a + 5) := (hr.2.1.2 a c.1 c.2).2.2.2.2.2
    have u5 := (hg.2.1 a c.1 c.2).2.2.2.2.1
    rw [t5]
    have vb : ∀ D : mD, v_176 b 0 (d 770 (12 + 68 * a + 5) - 1) D = if 0 ≤ b ∧ b < d 770 (12 + 68 * a + 5) then 1 else 0 := fun D => by
      rw [v176]
      by_cases z : 0 ≤ b ∧ b < d 770 (12 + 68 * a + 5)
      · rw [if_pos z, if_pos (by omega)]
      · rw [if_neg z, if_neg (by omega)]
    by_cases c2 : 0 ≤ b ∧ b < d 770 (12 + 68 * a + 5)
    · rw [if_pos c2, if_pos c2]
      have q : d 10 (a * 16 + b) = d 770 (12 + 68 * a + 7 + b) := hr.2.2.1 a c.1 c.2 b c2.1 c2.2
      have q2 := (hg.2.2.1 a c.1 c.2 b c2.1 c2.2).1
      have e38 : v_38 3 a b d = d 10 (a * 16 + b) := by
        unfold v_38
        rw [show (3 : Int) + 7 = 10 by decide]
      have e : g_242 769 a b (mset d 778 0 (v_38 3 a b d)) = mset (mset d 778 0 (v_38 3 a b d)) 769 0 0 ∧ v_242 769 a b (mset d 778 0 (v_38 3 a b d)) = d 770 (12 + 68 * a + 7 + b) := by
        unfold g_242 v_242
        rw [v236, n7691, o778 (by decide), if_pos c, vb, if_pos c2, if_neg (by decide), if_neg (by decide), if_neg (by decide), if_neg (by decide)]
        exact ⟨rfl, rfl⟩
      rw [e.1, e.2]
      refine QP.ok ?_ ?_
      · rw [e38, q]
      · rw [e38, q]
        omega
    · rw [if_neg c2, if_neg c2]
      have e : g_242 769 a b d = mset d 769 0 1 := by
        unfold g_242
        rw [v236, n7691, if_pos c, vb, if_neg c2, if_neg (by decide), if_pos rfl]
      rw [e]
      exact QP.fail (by decide)
  · rw [if_neg c, if_neg c]
    have e : g_242 769 a b d = mset d 769 0 1 := by
      unfold g_242
      rw [v236, if_neg c, if_pos rfl]
    rw [e]
    exact QP.fail (by decide)
/-! ===== queries: count ===== -/
theorem v101 {d : mD} {w : Row} {q : Int} (hg : GG w) (h : Rel 1 d w) : v_101 50 q d = csum (fun t => if w (452 + 24 * t + 4) = q then 1 else 0) (w 9).toNat := by
  obtain ⟨r1, r2⟩ := h.2.2.2.2.1
  have n9 := hg.1.2.2.1
  have r1 : d 50 0 = w 9 := r1
  unfold v_101
  refine cnt0 (L := fun n a k => lp_101_4 50 q n a k d) n9.1 (by omega) (fun n a k hk => ?_) (fun n a k x y => ?_)
  · cases n with
    | zero =>
      show st_101_4 50 q _ a k d = a
      unfold st_101_4
      rw [if_neg (by omega)]
    | succ n =>
      show st_101_4 50 q _ a k d = a
      unfold st_101_4
      rw [if_neg (by omega)]
  · obtain ⟨t1, t2, t3, t4, t5⟩ := r2 k x y
    have t5 : d 55 k = w (452 + 24 * k + 4) := t5
    show st_101_4 50 q _ a k d = _
    unfold st_101_4
    rw [if_pos (by omega), show (50 : Int) + 5 = 55 by decide, t5]
    by_cases c1 : w (452 + 24 * k + 4) = q
    · rw [if_pos c1, if_pos c1]
    · rw [if_neg c1, if_neg c1]
theorem v102 {d : mD} {w : Row} {q : Int} (hg : GG w) (h : Rel 1 d w) : v_102 50 q d = csum (fun t => if w (452 + 24 * t + 5) + w (452 + 24 * t + 6) = q then 1 else 0) (w 9).toNat := by
  obtain ⟨r1, -⟩ := h.2.2.2.2.1
  have r2 := h.2.2.2.2.2.1
  have n9 := hg.1.2.2.1
  have r1 : d 50 0 = w 9 := r1
  unfold v_102
  refine cnt0 (L := fun n a k => lp_102_4 50 q n a k d) n9.1 (by omega) (fun n a k hk => ?_) (fun n a k x y => ?_)
  · cases n with
    | zero =>
      show st_102_4 50 q _ a k d = a
      unfold st_102_4
      rw [if_neg (by omega)]
    | succ n =>
      show st_102_4 50 q _ a k d = a
      unfold st_102_4
      rw [if_neg (by omega)]
  · have t5 : d 56 k = w (452 + 24 * k + 5) + w (452 + 24 * k + 6) := (r2 k x y).1
    show st_102_4 50 q _ a k d = _
    unfold st_102_4
    rw [if_pos (by omega), show (50 : Int) + 6 = 56 by decide, t5]
    by_cases c1 : w (452 + 24 * k + 5) + w (452 + 24 * k + 6) = q
    · rw [if_pos c1, if_pos c1]
    · rw [if_neg c1, if_neg c1]
theorem v110 {d : mD} {w : Row} {q : Int} (hg : GG w) (h : Rel 1 d w) : v_110 58 q d = csum (fun k => if w (1916 + 5 * k + 3) = q then 1 else 0) (w 10).toNat := by
  obtain ⟨r1, r2⟩ := h.2.2.2.2.2.2.1
  have n9 := hg.1.2.2.2.1
  have r1 : d 58 0 = w 10 := r1
  unfold v_110
  refine cnt0 (L := fun n a k => lp_110_4 58 q n a k d) n9.1 (by omega) (fun n a k hk => ?_) (fun n a k x y => ?_)
  · cases n with
    | zero =>
      show st_110_4 58 q _ a k d = a
      unfold st_110_4
      rw [if_neg (by omega)]
    | succ n =>
      show st_110_4 58 q _ a k d = a
      unfold st_110_4
      rw [if_neg (by omega)]
  · have t5 : d 62 k = w (1916 + 5 * k + 3) := (r2 k x y).2.2.2
    show st_110_4 58 q _ a k d = _
    unfold st_110_4
    rw [if_pos (by omega), show (58 : Int) + 4 = 62 by decide, t5]
    by_cases c1 : w (1916 + 5 * k + 3) = q
    · rw [if_pos c1, if_pos c1]
    · rw [if_neg c1, if_neg c1]
theorem fstI {c : Prop} [Decidable c] {a b : Int × mD} {x y : Int} (h1 : a.1 = x) (h2 : b.1 = y) : (if c then a else b).1 = if c then x else y := by
  split
  · exact h1
  · exact h2
theorem sndI {c : Prop} [Decidable c] {a b : Int × mD} {x : mD} (h1 : a.2 = x) (h2 : b.2 = x) : (if c then a else b).2 = x := by
  split
  · exact h1
  · exact h2
def cA (w : Row) (t : Int) : Int := if w (452 + 24 * t + 4) = 0 then 1 else 0
def cB (w : Row) (t : Int) : Int := if w (452 + 24 * t + 5) = 0 then 0 else if w (452 + 24 * t + 6) = 0 then 1 else 0
def cC (w : Row) (t : Int) : Int := w (452 + 24 * t + 6)
def cE (w : Row) (k : Int) : Int := if w (1916 + 5 * k + 3) = 2 then 1 else 0
def fin239 (x1 a b c e : Int) (D : mD) : Int := if x1 = 0 then D 770 7 else if x1 = 1 then D 770 8 else if x1 = 2 then D 770 9 else if x1 = 3 then D 770 0 else if x1 = 4 then 20 - (D 770 0) % 20 else if x1 = 5 then a else if x1 = 6 then b else if x1 = 7 then c else if x1 = 8 then D 770 10 else if x1 = 9 then D 770 11 else if x1 = 10 then e else if x1 = 11 then D 770 1 else D 769 7
theorem l239b {x1 a b c : Int} {D : mD} : ∀ (n : Nat) (e k : Int), 0 ≤ k → k ≤ D 770 10 → D 770 10 - k ≤ (n : Int) → (lp_239_139 769 x1 n a b c e k D).1 = fin239 x1 a b c (e + (csum (cE (D 770)) (D 770 10).toNat - csum (cE (D 770)) k.toNat)) D := by
  have last : ∀ (r : Int → Int → Int → Int → Int → mD → Int × mD) (e k : Int), k = D 770 10 → (st_239_139 769 x1 r a b c e k D).1 = fin239 x1 a b c (e + (csum (cE (D 770)) (D 770 10).toNat - csum (cE (D 770)) k.toNat)) D := fun r e k hk => by
    unfold st_239_139 fin239
    rw [n7691, if_neg (by omega), hk, Int.sub_self, Int.add_zero]
    repeat' apply fstI
    all_goals rfl
  intro n
  induction n with
  | zero =>
    intro e k h0 h1 h2
    exact last _ e k (by omega)
  | succ n ih =>
    intro e k h0 h1 h2
    by_cases q : k < D 770 10
    · have st : lp_239_139 769 x1 (n + 1) a b c e k D = lp_239_139 769 x1 n a b c (e + cE (D 770) k) (k + 1) D := by
        show st_239_139 769 x1 _ a b _ e k D = _
        unfold st_239_139 cE
        rw [n7691, if_pos q]
        by_cases z : D 770 (1916 + 5 * k + 3) = 2
        · rw [if_pos z, if_pos z]
        · rw [if_neg z, if_neg z]
      rw [st, ih _ _ (by omega) (by omega) (by omega), csum_s _ h0, show e + cE (D 770) k + (csum (cE (D 770)) (D 770 10).toNat - (csum (cE (D 770)) k.toNat + cE (D 770) k)) = e + (csum (cE (D 770)) (D 770 10).toNat - csum (cE (D 770)) k.toNat) by omega]
    · exact last _ e k (by omega)
theorem l239 {x1 : Int} {D : mD} (h10 : 0 ≤ D 770 10 ∧ D 770 10 ≤ 200) : ∀ (n : Nat) (a b c k : Int), 0 ≤ k → k ≤ D 770 9 → D 770 9 - k ≤ (n : Int) → (lp_239_40 769 x1 n a b c k D).1 = fin239 x1 (a + (csum (cA (D 770)) (D 770 9).toNat - csum (cA (D 770)) k.toNat)) (b + (csum (cB (D 770)) (D 770 9).toNat - csum (cB (D 770)) k.toNat)) (c + (csum (cC (D 770)) (D 770 9).toNat - csum (cC (D 770)) k.toNat)) (csum (cE (D 770)) (D 770 10).toNat) D := by
  have last : ∀ (r : Int → Int → Int → Int → mD → Int × mD) (a b c k : Int), k = D 770 9 → (st_239_40 769 x1 r a b c k D).1 = fin239 x1 (a + (csum (cA (D 770)) (D 770 9).toNat - csum (cA (D 770)) k.toNat)) (b + (csum (cB (D 770)) (D 770 9).toNat - csum (cB (D 770)) k.toNat)) (c + (csum (cC (D 770)) (D 770 9).toNat - csum (cC (D 770)) k.toNat)) (csum (cE (D 770)) (D 770 10).toNat) D := fun r a b c k hk => by
    unfold st_239_40
    have nk : ¬ k < D 770 9 := by omega
    rw [n7691, if_neg nk, l239b (200 - 0 : Int).toNat 0 0 (by decide) h10.1 (by omega), hk]
    rw [Int.sub_self, Int.sub_self, Int.sub_self, Int.add_zero, Int.add_zero, Int.add_zero, Int.zero_add, show csum (cE (D 770)) (0 : Int).toNat = 0 from rfl, Int.sub_zero]
  intro n
  induction n with
  | zero =>
    intro a b c k h0 h1 h2
    exact last _ a b c k (by omega)
  | succ n ih =>
    intro a b c k h0 h1 h2
    by_cases q : k < D 770 9
    · have st : lp_239_40 769 x1 (n + 1) a b c k D = lp_239_40 769 x1 n (a + cA (D 770) k) (b + cB (D 770) k) (c + cC (D 770) k) (k + 1) D := by
        show st_239_40 769 x1 _ a b c k D = _
        unfold st_239_40 cA cB cC
        rw [n7691, if_pos q]
        by_cases z4 : D 770 (452 + 24 * k + 4) = 0
        · rw [if_pos z4, if_pos z4]
          by_cases z5 : D 770 (452 + 24 * k + 5) = 0
          · rw [if_pos z5, if_pos z5]
          · rw [if_neg z5, if_neg z5]
            by_cases z6 : D 770 (452 + 24 * k + 6) = 0
            · rw [if_pos z6, if_pos z6]
            · rw [if_neg z6, if_neg z6]
        · rw [if_neg z4, if_neg z4]
          by_cases z5 : D 770 (452 + 24 * k + 5) = 0
          · rw [if_pos z5, if_pos z5]
          · rw [if_neg z5, if_neg z5]
            by_cases z6 : D 770 (452 + 24 * k + 6) = 0
            · rw [if_pos z6, if_pos z6]
            · rw [if_neg z6, if_neg z6]
      rw [st, ih _ _ _ _ (by omega) (by omega) (by omega), csum_s _ h0, csum_s _ h0, csum_s _ h0]
      congr 1 <;> omega
    · exact last _ a b c k (by omega)
theorem g239b {x1 a b c : Int} {D : mD} : ∀ (n : Nat) (e k : Int), (lp_239_139 769 x1 n a b c e k D).2 = D := by
  intro n
  induction n with
  | zero =>
    intro e k
    show (st_239_139 769 x1 _ a b c e k D).2 = D
    unfold st_239_139
    repeat' apply sndI
    all_goals rfl
  | succ n ih =>
    intro e k
    show (st_239_139 769 x1 _ a b c e k D).2 = D
    unfold st_239_139
    refine sndI (sndI (ih _ _) (ih _ _)) ?_
    repeat' apply sndI
    all_goals rfl
theorem g239 {x1 : Int} {D : mD} : ∀ (n : Nat) (a b c k : Int), (lp_239_40 769 x1 n a b c k D).2 = D := by
  have st : ∀ (r : Int → Int → Int → Int → mD → Int × mD) (a b c k : Int), (∀ a b c k, (r a b c k D).2 = D) → (st_239_40 769 x1 r a b c k D).2 = D := fun r a b c k hr => by
    unfold st_239_40
    exact sndI (sndI (sndI (hr _ _ _ _) (sndI (hr _ _ _ _) (hr _ _ _ _))) (sndI (hr _ _ _ _) (sndI (hr _ _ _ _) (hr _ _ _ _)))) (g239b _ _ _)
  intro n
  induction n with
  | zero =>
    intro a b c k
    exact st _ a b c k (fun _ _ _ _ => rfl)
  | succ n ih =>
    intro a b c k
    exact st _ a b c k ih
theorem qpCount {d : mD} {a : Int} (hk : OKR 1 d (d 770)) (hh : HistRel d) : QP (g_305 0 a 778 d) (g_239 769 a (g_305 0 a 778 d)) (v_305 0 a 778 d) (v_239 769 a (g_305 0 a 778 d)) := by
  obtain ⟨hg, -, -, ht, hr⟩ := id hk
  obtain ⟨n7, n8, n9, n10, n11, n0, n1, -⟩ := id hg.1
  have f7 : d 3 0 = d 770 7 := hr.2.1.1
  have f8 : d 11 0 = d 770 8 := hr.2.2.2.1.1
  have f9 : d 50 0 = d 770 9 := hr.2.2.2.2.1.1
  have f0 : d 1 2 = d 770 0 := hr.1.2.1
  have f1 : d 1 1 = d 770 1 := hr.1.1
  have f10 : d 58 0 = d 770 10 := hr.2.2.2.2.2.2.1.1
  have fA : v_101 50 0 d = csum (cA (d 770)) (d 770 9).toNat := v101 hg hr
  have fB : v_102 50 1 d = csum (cB (d 770)) (d 770 9).toNat := by
    rw [v102 hg hr]
    refine csum_congr (fun t x y => ?_)
    have g := hg.2.2.2.2.1 t x (by omega)
    unfold cB
    obtain ⟨g1, g2, g3, -⟩ := g
    by_cases z5 : d 770 (452 + 24 * t + 5) = 0
    · rw [if_pos z5, if_neg (by omega)]
    · rw [if_neg z5]
      by_cases z6 : d 770 (452 + 24 * t + 6) = 0
      · rw [if_pos z6, if_pos (by omega)]
      · rw [if_neg z6, if_neg (by omega)]
  have fC : v_102 50 2 d = csum (cC (d 770)) (d 770 9).toNat := by
    rw [v102 hg hr]
    refine csum_congr (fun t x y => ?_)
    obtain ⟨g1, g2, g3, -⟩ := hg.2.2.2.2.1 t x (by omega)
    unfold cC
    by_cases z6 : d 770 (452 + 24 * t + 6) = 0
    · rw [if_neg (by omega), z6]
    · rw [if_pos (by omega)]
      omega
  have fE : v_110 58 2 d = csum (cE (d 770)) (d 770 10).toNat := v110 hg hr
  have fR : v_110 58 1 d = d 770 11 := by
    rw [v110 hg hr]
    exact hg.2.2.2.2.2.2.1.symm
  have fH : d 64 2 = d 769 7 := hh.2.2.1.symm
  have rA := csum_rng (f := cA (d 770)) (n := (d 770 9).toNat) (B := 1) (fun t x y => by unfold cA; split <;> omega)
  have rB := csum_rng (f := cB (d 770)) (n := (d 770 9).toNat) (B := 1) (fun t x y => by unfold cB; repeat' split <;> omega)
  have rC := csum_rng (f := cC (d 770)) (n := (d 770 9).toNat) (B := 1) (fun t x y => by
    obtain ⟨g1, g2, g3, -⟩ := hg.2.2.2.2.1 t x (by omega)
    unfold cC
    omega)
  have rE := csum_rng (f := cE (d 770)) (n := (d 770 10).toNat) (B := 1) (fun t x y => by unfold cE; split <;> omega)
  have e : ∀ x, 0 ≤ a ∧ a ≤ 12 → g_239 769 a (mset d 778 0 x) = mset (mset d 778 0 x) 769 0 0 ∧ v_239 769 a (mset d 778 0 x) = fin239 a (csum (cA (d 770)) (d 770 9).toNat) (csum (cB (d 770)) (d 770 9).toNat) (csum (cC (d 770)) (d 770 9).toNat) (csum (cE (d 770)) (d 770 10).toNat) (mset (mset d 778 0 x) 769 0 0) := fun x ha => by
    have h70 : mset (mset d 778 0 x) 769 0 0 770 = d 770 := by rw [o769 (by decide), o778 (by decide)]
    have l := l239 (x1 := a) (D := mset (mset d 778 0 x) 769 0 0) (by rw [h70]; exact n10) (61 - 0 : Int).toNat 0 0 0 0 (by decide) (by rw [h70]; exact n9.1) (by rw [h70]; omega)
    rw [h70, show csum (cA (d 770)) (0 : Int).toNat = 0 from rfl, show csum (cB (d 770)) (0 : Int).toNat = 0 from rfl, show csum (cC (d 770)) (0 : Int).toNat = 0 from rfl, Int.sub_zero, Int.sub_zero, Int.sub_zero, Int.sub_zero, Int.zero_add, Int.zero_add, Int.zero_add] at l
    have gq := g239 (x1 := a) (D := mset (mset d 778 0 x) 769 0 0) (61 - 0 : Int).toNat 0 0 0 0
    have n1 : ¬ (1 : Int) = 0 := by decide
    constructor
    · unfold g_239 f_239
      rw [v176, if_pos ha, if_neg n1]
      exact gq
    · unfold v_239 f_239
      rw [v176, if_pos ha, if_neg n1]
      exact l
  unfold v_305 g_305
  rw [n01, n49, n57, n641, show (1 : Int) + 2 = 3 by decide, show (1 : Int) + 10 = 11 by decide]
  have h7 : ∀ x, mset (mset d 778 0 x) 769 0 0 769 7 = d 769 7 := fun x => by rw [ms_i (by decide), o778 (by decide)]
  have hD : ∀ x, mset (mset d 778 0 x) 769 0 0 770 = d 770 := fun x => by rw [o769 (by decide), o778 (by decide)]
  have h27 := hh.2.1
  by_cases b0 : a = 0
  · subst b0
    rw [if_pos rfl, if_pos rfl, (e _ (by decide)).1, (e _ (by decide)).2]
    exact QP.ok (by rw [f7]; unfold fin239; rw [hD]; rfl) (by omega)
  rw [if_neg b0, if_neg b0]
  by_cases b1 : a = 1
  · subst b1
    rw [if_pos rfl, if_pos rfl, (e _ (by decide)).1, (e _ (by decide)).2]
    exact QP.ok (by rw [f8]; unfold fin239; rw [hD]; rfl) (by omega)
  rw [if_neg b1, if_neg b1]
  by_cases b2 : a = 2
  · subst b2
    rw [if_pos rfl, if_pos rfl, (e _ (by decide)).1, (e _ (by decide)).2]
    exact QP.ok (by rw [f9]; unfold fin239; rw [hD]; rfl) (by omega)
  rw [if_neg b2, if_neg b2]
  by_cases b3 : a = 3
  · subst b3
    rw [if_pos rfl, if_pos rfl, (e _ (by decide)).1, (e _ (by decide)).2]
    exact QP.ok (by rw [f0]; unfold fin239; rw [hD]; rfl) (by omega)
  rw [if_neg b3, if_neg b3]
  by_cases b4 : a = 4
  · subst b4
    rw [if_pos rfl, if_pos rfl, (e _ (by decide)).1, (e _ (by decide)).2]
    exact QP.ok (by rw [f0]; unfold fin239; rw [hD]; rfl) (by omega)
  rw [if_neg b4, if_neg b4]
  by_cases b5 : a = 5
  · subst b5
    rw [if_pos rfl, if_pos rfl, (e _ (by decide)).1, (e _ (by decide)).2]
    exact QP.ok (by rw [fA]; unfold fin239; rfl) (by rw [fA]; omega)
  rw [if_neg b5, if_neg b5]
  by_cases b6 : a = 6
  · subst b6
    rw [if_pos rfl, if_pos rfl, (e _ (by decide)).1, (e _ (by decide)).2]
    exact QP.ok (by rw [fB]; unfold fin239; rfl) (by rw [fB]; omega)
  rw [if_neg b6, if_neg b6]
  by_cases b7 : a = 7
  · subst b7
    rw [if_pos rfl, if_pos rfl, (e _ (by decide)).1, (e _ (by decide)).2]
    exact QP.ok (by rw [fC]; unfold fin239; rfl) (by rw [fC]; omega)
  rw [if_neg b7, if_neg b7]
  by_cases b8 : a = 8
  · subst b8
    rw [if_pos rfl, if_pos rfl, (e _ (by decide)).1, (e _ (by decide)).2]
    exact QP.ok (by rw [f10]; unfold fin239; rw [hD]; rfl) (by omega)
  rw [if_neg b8, if_neg b8]
  by_cases b9 : a = 9
  · subst b9
    rw [if_pos rfl, if_pos rfl, (e _ (by decide)).1, (e _ (by decide)).2]
    exact QP.ok (by rw [fR]; unfold fin239; rw [hD]; rfl) (by omega)
  rw [if_neg b9, if_neg b9]
  by_cases b10 : a = 10
  · subst b10
    rw [if_pos rfl, if_pos rfl, (e _ (by decide)).1, (e _ (by decide)).2]
    exact QP.ok (by rw [fE]; unfold fin239; rfl) (by rw [fE]; omega)
  rw [if_neg b10, if_neg b10]
  by_cases b11 : a = 11
  · subst b11
    rw [if_pos rfl, if_pos rfl, (e _ (by decide)).1, (e _ (by decide)).2]
    exact QP.ok (by rw [f1]; unfold fin239; rw [hD]; rfl) (by omega)
  rw [if_neg b11, if_neg b11]
  by_cases b12 : a = 12
  · subst b12
    rw [if_pos rfl, if_pos rfl, (e _ (by decide)).1, (e _ (by decide)).2]
    exact QP.ok (by rw [fH]; unfold fin239; rw [h7]; rfl) (by omega)
  rw [if_neg b12, if_neg b12]
  have e6 : g_239 769 a d = mset d 769 0 1 := by
    unfold g_239 f_239
    have nb : ¬ (0 ≤ a ∧ a ≤ 12) := by omega
    rw [v176, if_neg nb, if_pos rfl]
  rw [e6]
  exact QP.fail (by decide)
/-! ===== queries: token, isPaidFor, ticket ===== -/
theorem qpPaid {d : mD} {a b : Int} (hk : OKR 1 d (d 770)) : QP (g_312 0 a b 778 d) (g_249 769 a b (g_312 0 a b 778 d)) (v_312 0 a b 778 d) (v_249 769 a b (g_312 0 a b 778 d)) := by
  obtain ⟨hg, -, -, -, hr⟩ := id hk
  have o8 : d 11 0 = d 770 8 := hr.2.2.2.1.1
  have n10 := hg.1.2.2.2.1
  unfold v_312 g_312
  rw [n01, show (1 : Int) + 10 = 11 by decide, o8, ifR, ifR]
  have n1 : ¬ (1 : Int) = 0 := by decide
  by_cases c : 0 ≤ a ∧ a < d 770 8
  · rw [if_pos c, if_pos c]
    by_cases c2 : 0 ≤ b ∧ b ≤ 999
    · rw [if_neg (show ¬ b < 0 by omega), if_neg (show ¬ (999 : Int) < b by omega), if_neg (show ¬ b < 0 by omega), if_neg (show ¬ (999 : Int) < b by omega)]
      have hh : v_6 (11 + 6 + (1 + 2 * a)) b d = V_216 a b (d 770) := RelH.has hr.2.2.2.2.2.2.2.2.2 n10 c.1 c.2 c2.1 c2.2
      have e : ∀ x, g_249 769 a b (mset d 778 0 x) = mset (mset d 778 0 x) 769 0 0 ∧ v_249 769 a b (mset d 778 0 x) = if V_216 a b (d 770) = 0 then 0 else 1 := fun x => by
        unfold g_249 v_249
        rw [v237, o778 (by decide), if_pos c, v176, if_pos c2, if_neg n1, if_neg n1, if_neg n1, if_neg n1, m_v_216, o769 (by decide), o778 (by decide)]
        exact ⟨rfl, rfl⟩
      rw [hh]
      by_cases z : V_216 a b (d 770) = 0
      · rw [if_pos z, (e _).1, (e _).2, if_pos z]
        exact QP.ok rfl (by decide)
      · rw [if_neg z, (e _).1, (e _).2, if_neg z]
        exact QP.ok rfl (by decide)
    · have ev : (if b < 0 then (2 : Int) else if (999 : Int) < b then 2 else 0) = 2 := by
        by_cases z : b < 0
        · rw [if_pos z]
        · rw [if_neg z, if_pos (by omega)]
      have eg : ∀ u : mD, (if b < 0 then d else if (999 : Int) < b then d else u) = d := fun u => by
        by_cases z : b < 0
        · rw [if_pos z]
        · rw [if_neg z, if_pos (by omega)]
      rw [ev, eg]
      have e : g_249 769 a b d = mset d 769 0 2 := by
        unfold g_249
        rw [v237, if_pos c, if_neg n1, v176, if_neg c2, if_pos rfl]
      rw [e]
      exact QP.fail (by decide)
  · rw [if_neg c, if_neg c]
    have e : g_249 769 a b d = mset d 769 0 1 := by
      unfold g_249
      rw [v237, if_neg c, if_pos rfl]
    rw [e]
    exact QP.fail (by decide)
-- the place in the row of offered tokens
theorem row113 {a : Int} {d : mD} {w : Row} (hr : Rel 1 d w) : ∀ (n : Nat) (k : Int), 0 ≤ k → w 11 - k ≤ (n : Int) → (lp_113_2 58 a n k d = -1 ∧ ∀ j, k ≤ j → j < w 11 → ¬ w (2916 + j) = a) ∨ (k ≤ lp_113_2 58 a n k d ∧ lp_113_2 58 a n k d < w 11 ∧ w (2916 + lp_113_2 58 a n k d) = a) := by
  obtain ⟨r1, r2⟩ := hr.2.2.2.2.2.2.2.1
  have r1 : d 58 5 = w 11 := r1
  intro n
  induction n with
  | zero =>
    intro k h0 hn
    left
    refine ⟨?_, fun j x y => by omega⟩
    show st_113_2 58 a _ k d = -1
    unfold st_113_2
    rw [if_neg (by omega)]
  | succ n ih =>
    intro k h0 hn
    by_cases c : k < w 11
    · have e : d 63 k = w (2916 + k) := r2 k h0 c
      by_cases z : w (2916 + k) = a
      · have st : lp_113_2 58 a (n + 1) k d = k := by
          show st_113_2 58 a _ k d = _
          unfold st_113_2
          rw [if_pos (by omega), show (58 : Int) + 5 = 63 by decide, e, if_pos z]
        rw [st]
        exact Or.inr ⟨by omega, c, z⟩
      · have st : lp_113_2 58 a (n + 1) k d = lp_113_2 58 a n (k + 1) d := by
          show st_113_2 58 a _ k d = _
          unfold st_113_2
          rw [if_pos (by omega), show (58 : Int) + 5 = 63 by decide, e, if_neg z]
        rw [st]
        rcases ih (k + 1) (by omega) (by omega) with ⟨q1, q2⟩ | ⟨q1, q2, q3⟩
        · left
          refine ⟨q1, fun j x y => ?_⟩
          by_cases v : j = k
          · rw [v]; exact z
          · exact q2 j (by omega) y
        · exact Or.inr ⟨by omega, q2, q3⟩
    · left
      refine ⟨?_, fun j x y => by omega⟩
      show st_113_2 58 a _ k d = -1
      unfold st_113_2
      rw [if_neg (by omega)]
theorem row248 {a b : Int} {D : mD} : ∀ (n : Nat) (p k : Int), 0 ≤ k → D 770 11 - k ≤ (n : Int) → (lp_248_75 769 a b n p k D).2 = D ∧ (((lp_248_75 769 a b n p k D).1 = p ∧ ∀ j, k ≤ j → j < D 770 11 → ¬ D 770 (2916 + j) = a) ∨ (k ≤ (lp_248_75 769 a b n p k D).1 ∧ (lp_248_75 769 a b n p k D).1 < D 770 11 ∧ D 770 (2916 + (lp_248_75 769 a b n p k D).1) = a)) := by
  intro n
  induction n with
  | zero =>
    intro p k h0 hn
    have st : lp_248_75 769 a b 0 p k D = (p, D) := by
      show st_248_75 769 a b _ p k D = _
      unfold st_248_75
      rw [n7691, if_neg (by omega)]
    rw [st]
    exact ⟨rfl, Or.inl ⟨rfl, fun j x y => by omega⟩⟩
  | succ n ih =>
    intro p k h0 hn
    by_cases c : k < D 770 11
    · by_cases z : D 770 (2916 + k) = a
      · have st : lp_248_75 769 a b (n + 1) p k D = lp_248_75 769 a b n k (k + 1) D := by
          show st_248_75 769 a b _ p k D = _
          unfold st_248_75
          rw [n7691, if_pos c, if_pos z]
        rw [st]
        obtain ⟨q0, q⟩ := ih k (k + 1) (by omega) (by omega)
        refine ⟨q0, Or.inr ?_⟩
        rcases q with ⟨q1, q2⟩ | ⟨q1, q2, q3⟩
        · rw [q1]
          exact ⟨by omega, c, z⟩
        · exact ⟨by omega, q2, q3⟩
      · have st : lp_248_75 769 a b (n + 1) p k D = lp_248_75 769 a b n p (k + 1) D := by
          show st_248_75 769 a b _ p k D = _
          unfold st_248_75
          rw [n7691, if_pos c, if_neg z]
        rw [st]
        obtain ⟨q0, q⟩ := ih p (k + 1) (by omega) (by omega)
        refine ⟨q0, ?_⟩
        rcases q with ⟨q1, q2⟩ | ⟨q1, q2, q3⟩
        · refine Or.inl ⟨q1, fun j x y => ?_⟩
          by_cases v : j = k
          · rw [v]; exact z
          · exact q2 j (by omega) y
        · exact Or.inr ⟨by omega, q2, q3⟩
    · have st : lp_248_75 769 a b (n + 1) p k D = (p, D) := by
        show st_248_75 769 a b _ p k D = _
        unfold st_248_75
        rw [n7691, if_neg c]
      rw [st]
      exact ⟨rfl, Or.inl ⟨rfl, fun j x y => by omega⟩⟩
theorem qpToken {d : mD} {a b : Int} (hk : OKR 1 d (d 770)) : QP (g_311 0 a b 778 d) (g_248 769 a b (g_311 0 a b 778 d)) (v_311 0 a b 778 d) (v_248 769 a b (g_311 0 a b 778 d)) := by
  obtain ⟨hg, -, -, ht, hr⟩ := id hk
  obtain ⟨n7, n8, n9, n10, n11, n0, -⟩ := id hg.1
  have o10 : d 58 0 = d 770 10 := hr.2.2.2.2.2.2.1.1
  unfold v_311 g_311
  rw [n01, n57, show (58 : Int) + 1 = 59 by decide, show (58 : Int) + 2 = 60 by decide, show (58 : Int) + 3 = 61 by decide, show (58 : Int) + 4 = 62 by decide, o10, ifR, ifR]
  have n1 : ¬ (1 : Int) = 0 := by decide
  have va : ∀ D : mD, v_176 a 0 (d 770 10 - 1) D = if 0 ≤ a ∧ a < d 770 10 then 1 else 0 := fun D => by
    rw [v176]
    by_cases z : 0 ≤ a ∧ a < d 770 10
    · rw [if_pos z, if_pos (by omega)]
    · rw [if_neg z, if_neg (by omega)]
  by_cases c : 0 ≤ a ∧ a < d 770 10
  · rw [if_pos c, if_pos c]
    obtain ⟨t1, t2, t3, t4⟩ := hr.2.2.2.2.2.2.1.2 a c.1 c.2
    have t1 : d 59 a = d 770 (1916 + 5 * a + 0) := t1
    have t2 : d 60 a = d 770 (1916 + 5 * a + 1) := t2
    have t3 : d 61 a = d 770 (1916 + 5 * a + 2) := t3
    have t4 : d 62 a = d 770 (1916 + 5 * a + 3) := t4
    obtain ⟨u1, u2, u3, u4, u5, -⟩ := hg.2.2.2.2.2.1 a c.1 c.2
    have e : ∀ x, 0 ≤ b ∧ b ≤ 3 → f_248 769 a b (mset d 778 0 x) = (d 770 (1916 + 5 * a + b), mset (mset d 778 0 x) 769 0 0) := fun x hb => by
      unfold f_248
      rw [n7691, o778 (by decide), va, if_pos c, v176, if_pos (show 0 ≤ b ∧ b ≤ 4 by omega), if_neg n1, if_neg n1, if_pos (by omega)]
    have eg : ∀ x, 0 ≤ b ∧ b ≤ 3 → g_248 769 a b (mset d 778 0 x) = mset (mset d 778 0 x) 769 0 0 := fun x hb => by
      unfold g_248
      rw [e x hb]
    have ev : ∀ x, 0 ≤ b ∧ b ≤ 3 → v_248 769 a b (mset d 778 0 x) = d 770 (1916 + 5 * a + b) := fun x hb => by
      unfold v_248
      rw [e x hb]
    by_cases b0 : b = 0
    · subst b0
      rw [if_pos rfl, if_pos rfl, eg _ (by decide), ev _ (by decide)]
      exact QP.ok t1 (by omega)
    rw [if_neg b0, if_neg b0]
    by_cases b1 : b = 1
    · subst b1
      rw [if_pos rfl, if_pos rfl, eg _ (by decide), ev _ (by decide)]
      exact QP.ok t2 (by omega)
    rw [if_neg b1, if_neg b1]
    by_cases b2 : b = 2
    · subst b2
      rw [if_pos rfl, if_pos rfl, eg _ (by decide), ev _ (by decide)]
      exact QP.ok t3 (by omega)
    rw [if_neg b2, if_neg b2]
    by_cases b3 : b = 3
    · subst b3
      rw [if_pos rfl, if_pos rfl, eg _ (by decide), ev _ (by decide)]
      exact QP.ok t4 (by omega)
    rw [if_neg b3, if_neg b3]
    by_cases b4 : b = 4
    · subst b4
      rw [if_pos rfl, if_pos rfl]
      have q1 := row113 (a := a) hr (200 - 0 : Int).toNat 0 (by decide) (by omega)
      generalize hx : v_113 58 a d = x
      have hx' : lp_113_2 58 a (200 - 0 : Int).toNat 0 d = x := hx
      rw [hx'] at q1
      have h70 : mset (mset d 778 0 x) 769 0 0 770 = d 770 := by rw [o769 (by decide), o778 (by decide)]
      obtain ⟨q0, q2⟩ := row248 (a := a) (b := 4) (D := mset (mset d 778 0 x) 769 0 0) (200 - 0 : Int).toNat (-1) 0 (by decide) (by rw [h70]; omega)
      rw [h70] at q2
      have e4 : f_248 769 a 4 (mset d 778 0 x) = lp_248_75 769 a 4 (200 - 0 : Int).toNat (-1) 0 (mset (mset d 778 0 x) 769 0 0) := by
        unfold f_248
        have h44 : (0 : Int) ≤ 4 ∧ (4 : Int) ≤ 4 := by decide
        have h4n : ¬ (4 : Int) < 4 := by decide
        rw [n7691, o778 (by decide), va, if_pos c, if_neg n1, v176, if_pos h44, if_neg n1, if_neg h4n]
      unfold g_248 v_248
      rw [e4, q0]
      generalize (lp_248_75 769 a 4 (200 - 0 : Int).toNat (-1) 0 (mset (mset d 778 0 x) 769 0 0)).1 = y at *
      have un := hg.2.2.2.2.2.2.2
      refine QP.ok ?_ (by omega)
      rcases q1 with ⟨a1, a2⟩ | ⟨a1, a2, a3⟩
      · rcases q2 with ⟨b1, b2⟩ | ⟨b1, b2, b3⟩
        · rw [a1, b1]
        · exact absurd b3 (a2 y b1 b2)
      · rcases q2 with ⟨b1, b2⟩ | ⟨b1, b2, b3⟩
        · exact absurd a3 (b2 x a1 a2)
        · by_cases z1 : x < y
          · exact absurd (a3.trans b3.symm) ((un y b1 b2).2.2 x a1 z1)
          · by_cases z2 : y < x
            · exact absurd (b3.trans a3.symm) ((un x a1 a2).2.2 y b1 z2)
            · omega
    rw [if_neg b4, if_neg b4]
    have e6 : g_248 769 a b d = mset d 769 0 2 := by
      unfold g_248 f_248
      have nb : ¬ (0 ≤ b ∧ b ≤ 4) := by omega
      rw [n7691, va, if_pos c, if_neg n1, v176, if_neg nb, if_pos rfl]
    rw [e6]
    exact QP.fail (by decide)
  · rw [if_neg c, if_neg c]
    have e : g_248 769 a b d = mset d 769 0 1 := by
      unfold g_248 f_248
      rw [n7691, va, if_neg c, if_pos rfl]
    rw [e]
    exact QP.fail (by decide)
-- how many tokens a ticket gave
theorem v112 {d : mD} {w : Row} {t : Int} (hg : GG w) (h : Rel 1 d w) : v_112 58 t d = csum (fun k => if w (1916 + 5 * k + 1) = t then 1 else 0) (w 10).toNat := by
  obtain ⟨r1, r2⟩ := h.2.2.2.2.2.2.1
  have n9 := hg.1.2.2.2.1
  have r1 : d 58 0 = w 10 := r1
  unfold v_112
  refine cnt0 (L := fun n a k => lp_112_4 58 t n a k d) n9.1 (by omega) (fun n a k hk => ?_) (fun n a k x y => ?_)
  · cases n with
    | zero =>
      show st_112_4 58 t _ a k d = a
      unfold st_112_4
      rw [if_neg (by omega)]
    | succ n =>
      show st_112_4 58 t _ a k d = a
      unfold st_112_4
      rw [if_neg (by omega)]
  · have t5 : d 60 k = w (1916 + 5 * k + 1) := (r2 k x y).2.1
    show st_112_4 58 t _ a k d = _
    unfold st_112_4
    rw [if_pos (by omega), show (58 : Int) + 2 = 60 by decide, t5]
    by_cases c1 : w (1916 + 5 * k + 1) = t
    · rw [if_pos c1, if_pos c1]
    · rw [if_neg c1, if_neg c1]
def fin247 (t b c : Int) (D : mD) : Int := if b = 8 then v_213 769 t D else if b = 9 then c else v_221 769 t D
theorem l247 {t b : Int} {D : mD} : ∀ (n : Nat) (c k : Int), 0 ≤ k → k ≤ D 770 10 → D 770 10 - k ≤ (n : Int) → lp_247_65 769 t b n c k D = (fin247 t b (c + (csum (fun k => if D 770 (1916 + 5 * k + 1) = t then 1 else 0) (D 770 10).toNat - csum (fun k => if D 770 (1916 + 5 * k + 1) = t then 1 else 0) k.toNat)) D, D) := by
  have last : ∀ (r : Int → Int → mD → Int × mD) (c k : Int), k = D 770 10 → st_247_65 769 t b r c k D = (fin247 t b (c + (csum (fun k => if D 770 (1916 + 5 * k + 1) = t then 1 else 0) (D 770 10).toNat - csum (fun k => if D 770 (1916 + 5 * k + 1) = t then 1 else 0) k.toNat)) D, D) := fun r c k hk => by
    unfold st_247_65 fin247
    rw [n7691, if_neg (by omega), hk, Int.sub_self, Int.add_zero]
    by_cases b8 : b = 8
    · rw [if_pos b8, if_pos b8]
    · rw [if_neg b8, if_neg b8]
      by_cases b9 : b = 9
      · rw [if_pos b9, if_pos b9]
      · rw [if_neg b9, if_neg b9]
  intro n
  induction n with
  | zero =>
    intro c k h0 h1 h2
    exact last _ c k (by omega)
  | succ n ih =>
    intro c k h0 h1 h2
    by_cases q : k < D 770 10
    · have st : lp_247_65 769 t b (n + 1) c k D = lp_247_65 769 t b n (c + (if D 770 (1916 + 5 * k + 1) = t then 1 else 0)) (k + 1) D := by
        show st_247_65 769 t b _ c k D = _
        unfold st_247_65
        rw [n7691, if_pos q]
        by_cases z : D 770 (1916 + 5 * k + 1) = t
        · rw [if_pos z, if_pos z]
        · rw [if_neg z, if_neg z]
      rw [st, ih _ _ (by omega) (by omega) (by omega), csum_s _ h0]
      congr 2
      generalize (if D 770 (1916 + 5 * k + 1) = t then (1 : Int) else 0) = z
      omega
    · exact last _ c k (by omega)
theorem waitEq {d : mD} {w : Row} {t : Int} (hg : GG w) (h : Rel 1 d w) (ht : 0 ≤ t ∧ t < w 9) : v_71 1 t d = V_213 t w ∧ -100000 ≤ v_71 1 t d ∧ v_71 1 t d ≤ 100000 := by
  have u := untilEq h ht
  have u : v_98 50 t (d 1 2) d = V_212 t w := u
  have s0 : d 2 0 = w 2 := h.1.2.2 0 (by decide) (by decide)
  obtain ⟨t1, t2, t3, t4, t5⟩ := h.2.2.2.2.1.2 t ht.1 ht.2
  have t3 : d 53 t = w (452 + 24 * t + 2) := t3
  obtain ⟨g1, g2, g3, g4, g5, g6⟩ := hg.2.2.2.1 t ht.1 ht.2
  obtain ⟨n7, n8, n9, n10, n11, n0, n1, n2, -⟩ := id hg.1
  have rg : -1 ≤ V_212 t w ∧ V_212 t w ≤ 1199 := by
    unfold V_212
    by_cases z : w (452 + 24 * t + 3) = -1
    · rw [if_pos z]
      omega
    · rw [if_neg z]
      by_cases z2 : w (452 + 24 * t + 4) = 0
      · exact absurd (g5 z2).1 z
      · have := g6 z2
        omega
  unfold v_71 V_213 mmax
  rw [n49, show (1 : Int) + 1 = 2 by decide, show (50 : Int) + 3 = 53 by decide, u, t3, s0]
  generalize V_212 t w = x at *
  refine ⟨?_, ?_, ?_⟩
  · by_cases z : x - w (452 + 24 * t + 2) - w 2 < 0
    · rw [if_pos z, if_neg (by omega)]
    · rw [if_neg z]
      by_cases y : (0 : Int) < x - (w (452 + 24 * t + 2) + w 2)
      · rw [if_pos y]
        omega
      · rw [if_neg y]
        omega
  · split <;> omega
  · split <;> omega
/-! ===== queries: ticket ===== -/
theorem qpTicket {d : mD} {a b : Int} (hk : OKR 1 d (d 770)) : QP (g_310 0 a b 778 d) (g_247 769 a b (g_310 0 a b 778 d)) (v_310 0 a b 778 d) (v_247 769 a b (g_310 0 a b 778 d)) := by
  obtain ⟨hg, -, -, ht, hr⟩ := id hk
  obtain ⟨n7, n8, n9, n10, n11, n0, -⟩ := id hg.1
  have o9 : d 50 0 = d 770 9 := hr.2.2.2.2.1.1
  unfold v_310 g_310
  rw [n01, n49, n57, show (1 : Int) + 2 = 3 by decide, show (50 : Int) + 1 = 51 by decide, show (50 : Int) + 2 = 52 by decide, show (50 : Int) + 3 = 53 by decide, show (50 : Int) + 4 = 54 by decide, show (50 : Int) + 5 = 55 by decide, show (50 : Int) + 6 = 56 by decide, show (50 : Int) + 7 = 57 by decide, o9, ifR, ifR]
  have n1 : ¬ (1 : Int) = 0 := by decide
  by_cases c : 0 ≤ a ∧ a < d 770 9
  · rw [if_pos c, if_pos c]
    obtain ⟨t1, t2, t3, t4, t5⟩ := hr.2.2.2.2.1.2 a c.1 c.2
    have t1 : d 51 a = d 770 (452 + 24 * a + 0) := t1
    have t2 : d 52 a = d 770 (452 + 24 * a + 1) := t2
    have t3 : d 53 a = d 770 (452 + 24 * a + 2) := t3
    have t4 : d 54 a = d 770 (452 + 24 * a + 3) := t4
    have t5 : d 55 a = d 770 (452 + 24 * a + 4) := t5
    have t6 : d 56 a = d 770 (452 + 24 * a + 5) + d 770 (452 + 24 * a + 6) := (hr.2.2.2.2.2.1 a c.1 c.2).1
    obtain ⟨g1, g2, g3, g4, g5, g6⟩ := hg.2.2.2.1 a c.1 c.2
    obtain ⟨k1, k2, k3, -⟩ := hg.2.2.2.2.1 a c.1 c.2
    have wc7 : v_298 (d 57 a) d = d 770 (452 + 24 * a + 7) := by
      have := witCount (s := 1) (d2 := d) hr c
      rw [show (1 : Int) + 56 = 57 by decide] at this
      exact this
    have rc7 : 0 ≤ d 770 (452 + 24 * a + 7) ∧ d 770 (452 + 24 * a + 7) ≤ 16 := by
      have e := (hr.2.2.2.2.2.1 a c.1 c.2).2.1
      have r := csum_rng (f := fun p => if d 770 (452 + 24 * a + 8 + p) = 0 then 0 else 1) (n := 16) (B := 1) (fun p x y => by split <;> omega)
      rw [e]
      omega
    have end3 : -1 ≤ d 770 (452 + 24 * a + 3) ∧ d 770 (452 + 24 * a + 3) ≤ 999 := by
      by_cases z : d 770 (452 + 24 * a + 4) = 0
      · have := (g5 z).1
        omega
      · have := g6 z
        omega
    have e : ∀ x, 0 ≤ b ∧ b ≤ 7 → g_247 769 a b (mset d 778 0 x) = mset (mset d 778 0 x) 769 0 0 ∧ v_247 769 a b (mset d 778 0 x) = d 770 (452 + 24 * a + b) := fun x hb => by
      have e : f_247 769 a b (mset d 778 0 x) = (d 770 (452 + 24 * a + b), mset (mset d 778 0 x) 769 0 0) := by
        unfold f_247
        have hb2 : 0 ≤ b ∧ b ≤ 10 := by omega
        have hb3 : b < 8 := by omega
        rw [v238, n7691, o778 (by decide), if_pos c, if_neg n1, v176, if_pos hb2, if_neg n1, if_pos hb3]
      unfold g_247 v_247
      rw [e]
      exact ⟨rfl, rfl⟩
    have e8 : ∀ x, 8 ≤ b ∧ b ≤ 10 → g_247 769 a b (mset d 778 0 x) = mset (mset d 778 0 x) 769 0 0 ∧ v_247 769 a b (mset d 778 0 x) = if b = 8 then V_213 a (d 770) else if b = 9 then csum (fun k => if d 770 (1916 + 5 * k + 1) = a then 1 else 0) (d 770 10).toNat else V_221 a (d 770) := fun x hb => by
      have h70 : mset (mset d 778 0 x) 769 0 0 770 = d 770 := by rw [o769 (by decide), o778 (by decide)]
      have l := l247 (t := a) (b := b) (D := mset (mset d 778 0 x) 769 0 0) (200 - 0 : Int).toNat 0 0 (by decide) (by rw [h70]; exact n10.1) (by rw [h70]; omega)
      have e : f_247 769 a b (mset d 778 0 x) = (fin247 a b (csum (fun k => if d 770 (1916 + 5 * k + 1) = a then 1 else 0) (d 770 10).toNat) (mset (mset d 778 0 x) 769 0 0), mset (mset d 778 0 x) 769 0 0) := by
        unfold f_247
        have hb2 : 0 ≤ b ∧ b ≤ 10 := by omega
        have hb3 : ¬ b < 8 := by omega
        rw [v238, n7691, o778 (by decide), if_pos c, if_neg n1, v176, if_pos hb2, if_neg n1, if_neg hb3, l, h70, Int.zero_add, show csum (fun k => if d 770 (1916 + 5 * k + 1) = a then 1 else 0) (0 : Int).toNat = 0 from rfl, Int.sub_zero]
      unfold g_247 v_247
      rw [e]
      refine ⟨rfl, ?_⟩
      show fin247 a b _ _ = _
      unfold fin247
      rw [m_v_213, m_v_221, h70]
    by_cases b0 : b = 0
    · subst b0
      rw [if_pos rfl, if_pos rfl, (e _ (by decide)).1, (e _ (by decide)).2]
      exact QP.ok t1 (by omega)
    rw [if_neg b0, if_neg b0]
    by_cases b1 : b = 1
    · subst b1
      rw [if_pos rfl, if_pos rfl, (e _ (by decide)).1, (e _ (by decide)).2]
      exact QP.ok t2 (by omega)
    rw [if_neg b1, if_neg b1]
    by_cases b2 : b = 2
    · subst b2
      rw [if_pos rfl, if_pos rfl, (e _ (by decide)).1, (e _ (by decide)).2]
      exact QP.ok t3 (by omega)
    rw [if_neg b2, if_neg b2]
    by_cases b3 : b = 3
    · subst b3
      rw [if_pos rfl, if_pos rfl, (e _ (by decide)).1, (e _ (by decide)).2]
      exact QP.ok t4 (by omega)
    rw [if_neg b3, if_neg b3]
    by_cases b4 : b = 4
    · subst b4
      rw [if_pos rfl, if_pos rfl, (e _ (by decide)).1, (e _ (by decide)).2]
      exact QP.ok t5 (by omega)
    rw [if_neg b4, if_neg b4]
    by_cases b5 : b = 5
    · subst b5
      rw [if_pos rfl, if_pos rfl]
      by_cases z : d 56 a = 0
      · rw [if_pos z, (e _ (by decide)).1, (e _ (by decide)).2]
        exact QP.ok (by omega) (by decide)
      · rw [if_neg z, (e _ (by decide)).1, (e _ (by decide)).2]
        exact QP.ok (by omega) (by decide)
    rw [if_neg b5, if_neg b5]
    by_cases b6 : b = 6
    · subst b6
      rw [if_pos rfl, if_pos rfl]
      by_cases z : d 56 a = 2
      · rw [if_pos z, (e _ (by decide)).1, (e _ (by decide)).2]
        exact QP.ok (by omega) (by decide)
      · rw [if_neg z, (e _ (by decide)).1, (e _ (by decide)).2]
        exact QP.ok (by omega) (by decide)
    rw [if_neg b6, if_neg b6]
    by_cases b7 : b = 7
    · subst b7
      rw [if_pos rfl, if_pos rfl, (e _ (by decide)).1, (e _ (by decide)).2]
      exact QP.ok wc7 (by rw [wc7]; omega)
    rw [if_neg b7, if_neg b7]
    by_cases b8 : b = 8
    · subst b8
      obtain ⟨q1, q2, q3⟩ := waitEq hg hr c
      rw [if_pos rfl, if_pos rfl, (e8 _ (by decide)).1, (e8 _ (by decide)).2, if_pos rfl]
      exact QP.ok q1 ⟨q2, q3⟩
    rw [if_neg b8, if_neg b8]
    by_cases b9 : b = 9
    · subst b9
      have q := v112 (t := a) hg hr
      have r := csum_rng (f := fun k => if d 770 (1916 + 5 * k + 1) = a then 1 else 0) (n := (d 770 10).toNat) (B := 1) (fun p x y => by split <;> omega)
      rw [if_pos rfl, if_pos rfl, (e8 _ (by decide)).1, (e8 _ (by decide)).2, if_neg (by decide), if_pos rfl]
      exact QP.ok q (by rw [q]; omega)
    rw [if_neg b9, if_neg b9]
    by_cases b10 : b = 10
    · subst b10
      obtain ⟨q1, q2⟩ := placeEq hg hr c
      have q1 : v_39 3 (d 770 (452 + 24 * a + 1)) a d = V_221 a (d 770) := q1
      have go := hg.2.1 _ g2.1 g2.2
      rw [if_pos rfl, if_pos rfl, (e8 _ (by decide)).1, (e8 _ (by decide)).2, if_neg (by decide), if_neg (by decide), t2]
      refine QP.ok q1 ?_
      rw [q1]
      rcases q2 with q2 | q2
      · omega
      · omega
    rw [if_neg b10, if_neg b10]
    have e6 : g_247 769 a b d = mset d 769 0 2 := by
      unfold g_247 f_247
      have nb : ¬ (0 ≤ b ∧ b ≤ 10) := by omega
      rw [v238, if_pos c, if_neg n1, v176, if_neg nb, if_pos rfl]
    rw [e6]
    exact QP.fail (by decide)
  · rw [if_neg c, if_neg c]
    have e : g_247 769 a b d = mset d 769 0 1 := by
      unfold g_247 f_247
      rw [v238, if_neg c, if_pos rfl]
    rw [e]
    exact QP.fail (by decide)
/-! ===== queries: whyNot, common, isWitness, witnessFor ===== -/
theorem v250 {a b : Int} {d : mD} : v_250 769 a b d = if 0 ≤ a ∧ a < d 770 9 then (if 0 ≤ b ∧ b < d 770 8 then 1 else 0) else 0 := by
  unfold v_250
  rw [v238, v237]
  have n1 : ¬ (1 : Int) = 0 := by decide
  by_cases c : 0 ≤ a ∧ a < d 770 9
  · rw [if_pos c, if_pos c, if_neg n1]
    by_cases c2 : 0 ≤ b ∧ b < d 770 8
    · rw [if_pos c2, if_neg n1]
    · rw [if_neg c2, if_pos rfl]
  · rw [if_neg c, if_neg c, if_pos rfl]
theorem g250 {a b : Int} {d : mD} : g_250 769 a b d = if 0 ≤ a ∧ a < d 770 9 then (if 0 ≤ b ∧ b < d 770 8 then mset d 769 0 0 else mset d 769 0 1) else mset d 769 0 1 := by
  unfold g_250
  rw [v238, v237]
  have n1 : ¬ (1 : Int) = 0 := by decide
  by_cases c : 0 ≤ a ∧ a < d 770 9
  · rw [if_pos c, if_pos c, if_neg n1]
    by_cases c2 : 0 ≤ b ∧ b < d 770 8
    · rw [if_pos c2, if_pos c2, if_neg n1]
    · rw [if_neg c2, if_neg c2, if_pos rfl]
  · rw [if_neg c, if_neg c, if_pos rfl]
theorem qp250 {d : mD} {a b x vr : Int} (hk : OKR 1 d (d 770)) {v : Int} {d1 d2 : mD} (hv : v = if 0 ≤ a ∧ a < d 770 9 then (if 0 ≤ b ∧ b < d 770 8 then 0 else 1) else 1) (h1 : d1 = if 0 ≤ a ∧ a < d 770 9 then (if 0 ≤ b ∧ b < d 770 8 then mset d 778 0 x else d) else d) (h2 : d2 = g_250 769 a b d1) (hx : (0 ≤ a ∧ a < d 770 9) → (0 ≤ b ∧ b < d 770 8) → x = vr ∧ -100000 ≤ x ∧ x ≤ 100000) : QP d1 d2 v vr := by
  rw [h2, hv, h1]
  by_cases c : 0 ≤ a ∧ a < d 770 9
  · rw [if_pos c, if_pos c]
    by_cases c2 : 0 ≤ b ∧ b < d 770 8
    · rw [if_pos c2, if_pos c2, g250, o778 (by decide), if_pos c, if_pos c2]
      exact QP.ok (hx c c2).1 (hx c c2).2
    · rw [if_neg c2, if_neg c2, g250, if_pos c, if_neg c2]
      exact QP.fail (by decide)
  · rw [if_neg c, if_neg c, g250, if_neg c]
    exact QP.fail (by decide)
theorem qpWhyNot {E : mO × tW} {d : mD} {a b : Int} (hT : TKL E) (hI : Inv E d) : QP (g_313 0 a b 778 d) (g_251 769 a b (g_313 0 a b 778 d)) (v_313 0 a b 778 d) (v_251 769 a b (g_313 0 a b 778 d)) := by
  obtain ⟨hS, hh, hi⟩ := hI
  have hk := hi.1
  obtain ⟨hg, -, -, -, hr⟩ := id hk
  have n8 := hg.1.2.1
  have n9 := hg.1.2.2.1
  have o9 : d 50 0 = d 770 9 := hr.2.2.2.2.1.1
  have o8 : d 11 0 = d 770 8 := hr.2.2.2.1.1
  refine qp250 (a := a) (b := b) (x := v_77 1 a b d) hk ?_ ?_ rfl (fun c c2 => ?_)
  · unfold v_313
    rw [n01, n49, show (1 : Int) + 10 = 11 by decide, o9, o8, ifR, ifR]
  · unfold g_313
    rw [n01, n49, show (1 : Int) + 10 = 11 by decide, o9, o8, ifR, ifR]
  · have r := (p_77 (E := E) (x0 := 1) (x1 := a) (x2 := b) hS s1B (by omega) (by omega) ⟨hT.t 6 1 (by decide), trivial, trivial, trivial⟩ hh).2.1
    have e : g_313 0 a b 778 d = mset d 778 0 (v_77 1 a b d) := by
      unfold g_313
      rw [n01, n49, show (1 : Int) + 10 = 11 by decide, o9, o8, ifR, ifR, if_pos c, if_pos c2]
    refine ⟨?_, by omega, by omega⟩
    have n1 : ¬ (1 : Int) = 0 := by decide
    unfold v_251
    rw [e, v250, o778 (by decide), if_pos c, if_pos c2, if_neg n1, g250, o778 (by decide), if_pos c, if_pos c2, m_v_234, o769 (by decide), o778 (by decide)]
    exact (hinder hg hr c c2).1
theorem qpCommon {E : mO × tW} {d : mD} {a b : Int} (hT : TKL E) (hI : Inv E d) : QP (g_314 0 a b 778 d) (g_252 769 a b (g_314 0 a b 778 d)) (v_314 0 a b 778 d) (v_252 769 a b (g_314 0 a b 778 d)) := by
  obtain ⟨hS, hh, hi⟩ := hI
  have hk := hi.1
  obtain ⟨hg, -, -, -, hr⟩ := id hk
  have n8 := hg.1.2.1
  have n9 := hg.1.2.2.1
  have o9 : d 50 0 = d 770 9 := hr.2.2.2.2.1.1
  have o8 : d 11 0 = d 770 8 := hr.2.2.2.1.1
  refine qp250 (a := a) (b := b) (x := v_78 1 a b d) hk ?_ ?_ rfl (fun c c2 => ?_)
  · unfold v_314
    rw [n01, n49, show (1 : Int) + 10 = 11 by decide, o9, o8, ifR, ifR]
  · unfold g_314
    rw [n01, n49, show (1 : Int) + 10 = 11 by decide, o9, o8, ifR, ifR]
  · have r := (p_78 (E := E) (x0 := 1) (x1 := a) (x2 := b) hS s1B (by omega) (by omega) ⟨hT.t 6 1 (by decide), trivial, trivial, trivial⟩ hh).2
    have e : g_314 0 a b 778 d = mset d 778 0 (v_78 1 a b d) := by
      unfold g_314
      rw [n01, n49, show (1 : Int) + 10 = 11 by decide, o9, o8, ifR, ifR, if_pos c, if_pos c2]
    refine ⟨?_, by omega, by omega⟩
    have n1 : ¬ (1 : Int) = 0 := by decide
    unfold v_252
    rw [e, v250, o778 (by decide), if_pos c, if_pos c2, if_neg n1, g250, o778 (by decide), if_pos c, if_pos c2, m_v_231, o769 (by decide), o778 (by decide)]
    exact common hg hr c
theorem qpIsWit {d : mD} {a b : Int} (hk : OKR 1 d (d 770)) : QP (g_316 0 a b 778 d) (g_254 769 a b (g_316 0 a b 778 d)) (v_316 0 a b 778 d) (v_254 769 a b (g_316 0 a b 778 d)) := by
  obtain ⟨hg, -, -, -, hr⟩ := id hk
  have n8 := hg.1.2.1
  have o9 : d 50 0 = d 770 9 := hr.2.2.2.2.1.1
  have o8 : d 11 0 = d 770 8 := hr.2.2.2.1.1
  refine qp250 (a := a) (b := b) (x := if v_99 50 a b d = 0 then 0 else 1) hk ?_ ?_ rfl (fun c c2 => ?_)
  · unfold v_316
    rw [n01, n49, show (1 : Int) + 10 = 11 by decide, o9, o8, ifR, ifR]
  · unfold g_316
    rw [n01, n49, show (1 : Int) + 10 = 11 by decide, o9, o8, ifR, ifR]
    split
    · split
      · split
        · rfl
        · rfl
      · rfl
    · rfl
  · have e : g_316 0 a b 778 d = mset d 778 0 (if v_99 50 a b d = 0 then 0 else 1) := by
      unfold g_316
      rw [n01, n49, show (1 : Int) + 10 = 11 by decide, o9, o8, ifR, ifR, if_pos c, if_pos c2]
      split
      · rfl
      · rfl
    have n1 : ¬ (1 : Int) = 0 := by decide
    refine ⟨?_, by split <;> decide⟩
    unfold v_254
    rw [e, v250, o778 (by decide), if_pos c, if_pos c2, if_neg n1, n7691, o778 (by decide)]
    have rb := (hr.2.2.2.2.2.1 a c.1 c.2).2.2.1 b c2.1 (by omega)
    have rb : ib (d 57 a) b.toNat = true ↔ ¬ d 770 (452 + 24 * a + 8 + b) = 0 := rb
    have e9 : v_99 50 a b d = if ib (d 57 a) b.toNat = true then 1 else 0 := by
      unfold v_99
      rw [show (50 : Int) + 7 = 57 by decide, ibit c2.1 (by omega)]
      by_cases z : ib (d 57 a) b.toNat = true
      · rw [if_pos z, if_neg n1]
      · rw [if_neg z, if_pos rfl]
    rw [e9]
    by_cases z : d 770 (452 + 24 * a + 8 + b) = 0
    · have y : ¬ ib (d 57 a) b.toNat = true := fun q => rb.1 q z
      rw [if_neg y, if_pos rfl, if_pos z]
    · rw [if_pos (rb.2 z), if_neg n1, if_neg z]
theorem witLoop {d D : mD} {a x2 : Int} (hk : OKR 1 d (d 770)) (h70 : D 770 = d 770) (ha : 0 ≤ a ∧ a < d 770 9) (h2 : 0 ≤ x2) : ∀ (n : Nat) (m k : Int), 0 ≤ k → 0 ≤ m → d 770 8 - k ≤ (n : Int) → (lp_134_10 0 a x2 n m k d = -103 ∧ lp_253_31 769 a x2 n (x2 - m) k D = (0, mset D 769 0 2)) ∨ (0 ≤ lp_134_10 0 a x2 n m k d ∧ lp_134_10 0 a x2 n m k d < d 770 8 ∧ lp_253_31 769 a x2 n (x2 - m) k D = (lp_134_10 0 a x2 n m k d, D)) := by
  obtain ⟨hg, -, -, -, hr⟩ := id hk
  have o8 : d 11 0 = d 770 8 := hr.2.2.2.1.1
  have last : ∀ (r : Int → Int → mD → Int) (r' : Int → Int → mD → Int × mD) (m k : Int), ¬ k < d 770 8 → st_134_10 0 a x2 r m k d = -103 ∧ st_253_31 769 a x2 r' (x2 - m) k D = (0, mset D 769 0 2) := fun r r' m k hk => by
    unfold st_134_10 st_253_31
    rw [n01, show (1 : Int) + 10 = 11 by decide, o8, if_neg hk, n7691, h70, if_neg hk]
    exact ⟨rfl, rfl⟩
  intro n
  induction n with
  | zero =>
    intro m k h0 hm hn
    exact Or.inl (last _ _ m k (by omega))
  | succ n ih =>
    intro m k h0 hm hn
    by_cases c : k < d 770 8
    · have hv : v_77 1 a k d = V_234 a k (d 770) := (hinder hg hr ha ⟨h0, c⟩).1
      have nx : ¬ x2 < 0 := by omega
      by_cases z : V_234 a k (d 770) = 0
      · by_cases y : m = x2
        · have s1 : lp_134_10 0 a x2 (n + 1) m k d = k := by
            show st_134_10 0 a x2 _ m k d = _
            unfold st_134_10
            rw [n01, show (1 : Int) + 10 = 11 by decide, o8, if_pos c, hv, if_pos z, if_pos y]
          have s2 : lp_253_31 769 a x2 (n + 1) (x2 - m) k D = (k, D) := by
            show st_253_31 769 a x2 _ (x2 - m) k D = _
            unfold st_253_31
            rw [n7691, h70, if_pos c, if_neg nx, m_v_234, h70, if_pos z, if_pos (by omega)]
          rw [s1, s2]
          exact Or.inr ⟨h0, c, rfl⟩
        · have s1 : lp_134_10 0 a x2 (n + 1) m k d = lp_134_10 0 a x2 n (m + 1) (k + 1) d := by
            show st_134_10 0 a x2 _ m k d = _
            unfold st_134_10
            rw [n01, show (1 : Int) + 10 = 11 by decide, o8, if_pos c, hv, if_pos z, if_neg y]
          have s2 : lp_253_31 769 a x2 (n + 1) (x2 - m) k D = lp_253_31 769 a x2 n (x2 - (m + 1)) (k + 1) D := by
            show st_253_31 769 a x2 _ (x2 - m) k D = _
            unfold st_253_31
            rw [n7691, h70, if_pos c, if_neg nx, m_v_234, h70, if_pos z, if_neg (by omega), show x2 - m + -1 = x2 - (m + 1) by omega]
          rw [s1, s2]
          exact ih (m + 1) (k + 1) (by omega) (by omega) (by omega)
      · have s1 : lp_134_10 0 a x2 (n + 1) m k d = lp_134_10 0 a x2 n m (k + 1) d := by
          show st_134_10 0 a x2 _ m k d = _
          unfold st_134_10
          rw [n01, show (1 : Int) + 10 = 11 by decide, o8, if_pos c, hv, if_neg z]
        have s2 : lp_253_31 769 a x2 (n + 1) (x2 - m) k D = lp_253_31 769 a x2 n (x2 - m) (k + 1) D := by
          show st_253_31 769 a x2 _ (x2 - m) k D = _
          unfold st_253_31
          rw [n7691, h70, if_pos c, if_neg nx, m_v_234, h70, if_neg z]
        rw [s1, s2]
        exact ih m (k + 1) (by omega) hm (by omega)
    · exact Or.inl (last _ _ m k c)
theorem witNeg {d D : mD} {a x2 : Int} (h2 : x2 < 0) : ∀ (n : Nat) (m k : Int), 0 ≤ m → 0 ≤ k → d 11 0 - k ≤ (n : Int) → lp_134_10 0 a x2 n m k d = -103 := by
  intro n
  induction n with
  | zero =>
    intro m k hm hk hn
    show st_134_10 0 a x2 _ m k d = _
    unfold st_134_10
    rw [n01, show (1 : Int) + 10 = 11 by decide, if_neg (by omega)]
  | succ n ih =>
    intro m k hm hk hn
    show st_134_10 0 a x2 _ m k d = _
    unfold st_134_10
    rw [n01, show (1 : Int) + 10 = 11 by decide]
    split
    · split
      · rw [if_neg (by omega)]
        exact ih _ _ (by omega) (by omega) (by omega)
      · exact ih _ _ (by omega) (by omega) (by omega)
    · rfl
theorem ref253n {D : mD} {a x2 y k : Int} {n : Nat} (h2 : x2 < 0) : lp_253_31 769 a x2 n y k D = (0, mset D 769 0 2) := by
  have st : ∀ r : Int → Int → mD → Int × mD, st_253_31 769 a x2 r y k D = (0, mset D 769 0 2) := fun r => by
    unfold st_253_31
    rw [if_pos h2]
    split <;> rfl
  cases n with
  | zero => exact st _
  | succ n => exact st _
theorem qpWitFor {d : mD} {a b : Int} (hk : OKR 1 d (d 770)) : QP (g_315 0 a b 778 d) (g_253 769 a b (g_315 0 a b 778 d)) (v_315 0 a b 778 d) (v_253 769 a b (g_315 0 a b 778 d)) := by
  obtain ⟨hg, -, -, -, hr⟩ := id hk
  have n8 := hg.1.2.1
  have o9 : d 50 0 = d 770 9 := hr.2.2.2.2.1.1
  have o8 : d 11 0 = d 770 8 := hr.2.2.2.1.1
  have n1 : ¬ (1 : Int) = 0 := by decide
  unfold v_315 g_315
  rw [n01, n49, o9, ifR, ifR]
  have h22 : ∀ D : mD, mset (mset D 769 0 0) 769 0 2 = mset D 769 0 2 := fun D => by
    funext b j
    by_cases e1 : b = 769
    · by_cases e2 : j = 0
      · rw [ms_e e1 e2, ms_e e1 e2]
      · rw [ms_i e2, ms_i e2, ms_i e2]
    · rw [ms_a e1, ms_a e1, ms_a e1]
  by_cases c : 0 ≤ a ∧ a < d 770 9
  · rw [if_pos c, if_pos c]
    have fail : lp_134_10 0 a b (16 - 0 : Int).toNat 0 0 d = -103 → f_253 769 a b d = (0, mset d 769 0 2) → QP (if lp_134_10 0 a b (16 - 0 : Int).toNat 0 0 d < 0 then d else mset d 778 0 (lp_134_10 0 a b (16 - 0 : Int).toNat 0 0 d)) (g_253 769 a b (if lp_134_10 0 a b (16 - 0 : Int).toNat 0 0 d < 0 then d else mset d 778 0 (lp_134_10 0 a b (16 - 0 : Int).toNat 0 0 d))) (if lp_134_10 0 a b (16 - 0 : Int).toNat 0 0 d < 0 then 2 else 0) (v_253 769 a b (if lp_134_10 0 a b (16 - 0 : Int).toNat 0 0 d < 0 then d else mset d 778 0 (lp_134_10 0 a b (16 - 0 : Int).toNat 0 0 d))) := fun e1 e2 => by
      have m103 : (-103 : Int) < 0 := by decide
      rw [e1, if_pos m103, if_pos m103]
      unfold g_253
      rw [e2]
      exact QP.fail (by decide)
    by_cases b0 : 0 ≤ b
    · have l := fun (x : Int) => witLoop (D := mset (mset d 778 0 x) 769 0 0) (x2 := b) hk (by rw [o769 (by decide), o778 (by decide)]) c b0 (16 - 0 : Int).toNat 0 0 (by decide) (by decide) (by omega)
      have l0 := witLoop (D := mset d 769 0 0) (x2 := b) hk (by rw [o769 (by decide)]) c b0 (16 - 0 : Int).toNat 0 0 (by decide) (by decide) (by omega)
      have eb : b - 0 = b := by omega
      rw [eb] at l0
      rcases l0 with ⟨l1, l2⟩ | ⟨l1, l2, l3⟩
      · refine fail l1 ?_
        unfold f_253
        rw [v238, if_pos c, if_neg n1]
        exact l2.trans (by rw [h22])
      · generalize hx : lp_134_10 0 a b (16 - 0 : Int).toNat 0 0 d = x at *
        rw [if_neg (by omega), if_neg (by omega)]
        have lx := l x
        have e : f_253 769 a b (mset d 778 0 x) = (x, mset (mset d 778 0 x) 769 0 0) := by
          unfold f_253
          rw [v238, o778 (by decide), if_pos c, if_neg n1]
          rcases lx with ⟨q1, -⟩ | ⟨-, -, q3⟩
          · omega
          · rw [eb] at q3
            exact q3
        unfold g_253 v_253
        rw [e]
        exact QP.ok rfl (by omega)
    · refine fail (witNeg (D := d) (by omega) _ 0 0 (by decide) (by decide) (by omega)) ?_
      unfold f_253
      rw [v238, if_pos c, if_neg n1, ref253n (by omega), h22]
  · rw [if_neg c, if_neg c]
    have e : g_253 769 a b d = mset d 769 0 1 := by
      unfold g_253 f_253
      rw [v238, if_neg c, if_pos rfl]
    rw [e]
    exact QP.fail (by decide)
/-! ===== queries: debt, gap ===== -/
def QV (v vr : Int) : Prop := v = vr ∧ inI v
theorem l258 {D : mD} : ∀ (n : Nat) (c k : Int), 0 ≤ k → k ≤ D 770 10 → D 770 10 - k ≤ (n : Int) → (lp_258_9 769 n c k D).1 = (c + ((D 770 10 - k) - (csum (fun k => if D 770 (1916 + 5 * k + 3) = 2 then 1 else 0) (D 770 10).toNat - csum (fun k => if D 770 (1916 + 5 * k + 3) = 2 then 1 else 0) k.toNat))) * D 770 6 := by
  have last : ∀ (r : Int → Int → mD → Int × mD) (c k : Int), k = D 770 10 → (st_258_9 769 r c k D).1 = (c + ((D 770 10 - k) - (csum (fun k => if D 770 (1916 + 5 * k + 3) = 2 then 1 else 0) (D 770 10).toNat - csum (fun k => if D 770 (1916 + 5 * k + 3) = 2 then 1 else 0) k.toNat))) * D 770 6 := fun r c k hk => by
    unfold st_258_9
    rw [n7691, if_neg (by omega), hk]
    show c * D 770 6 = _
    rw [show c + (D 770 10 - D 770 10 - (csum (fun k => if D 770 (1916 + 5 * k + 3) = 2 then 1 else 0) (D 770 10).toNat - csum (fun k => if D 770 (1916 + 5 * k + 3) = 2 then 1 else 0) (D 770 10).toNat)) = c by omega]
  intro n
  induction n with
  | zero =>
    intro c k h0 h1 h2
    exact last _ c k (by omega)
  | succ n ih =>
    intro c k h0 h1 h2
    by_cases q : k < D 770 10
    · have st : lp_258_9 769 (n + 1) c k D = lp_258_9 769 n (c + (1 - (if D 770 (1916 + 5 * k + 3) = 2 then 1 else 0))) (k + 1) D := by
        show st_258_9 769 _ c k D = _
        unfold st_258_9
        rw [n7691, if_pos q]
        by_cases z : D 770 (1916 + 5 * k + 3) = 2
        · rw [if_pos z, if_pos z]
          rfl
        · rw [if_neg z, if_neg z]
          rfl
      rw [st, ih _ _ (by omega) (by omega) (by omega), csum_s _ h0]
      congr 1
      generalize (if D 770 (1916 + 5 * k + 3) = 2 then (1 : Int) else 0) = z
      omega
    · exact last _ c k (by omega)
theorem qvDebt {d : mD} (hk : OKR 1 d (d 770)) : QV (v_137 0 d) (v_258 769 d) := by
  obtain ⟨hg, -, -, -, hr⟩ := id hk
  have n10 := hg.1.2.2.2.1
  have o10 : d 58 0 = d 770 10 := hr.2.2.2.2.2.2.1.1
  have s4 : d 2 4 = d 770 6 := hr.1.2.2 4 (by decide) (by decide)
  have n6 := hg.1.2.2.2.2.2.2.2.2.2.2.2
  have c2 := v110 (q := 2) hg hr
  have r := csum_rng (f := fun k => if d 770 (1916 + 5 * k + 3) = 2 then 1 else 0) (n := (d 770 10).toNat) (B := 1) (fun p x y => by split <;> omega)
  have h70 : mset d 769 0 0 770 = d 770 := o769 (by decide)
  have l := l258 (D := mset d 769 0 0) (200 - 0 : Int).toNat 0 0 (by decide) (by rw [h70]; exact n10.1) (by rw [h70]; omega)
  have ev : v_258 769 d = (lp_258_9 769 (200 - 0 : Int).toNat 0 0 (mset d 769 0 0)).1 := rfl
  have ew : v_137 0 d = (d 770 10 - csum (fun k => if d 770 (1916 + 5 * k + 3) = 2 then 1 else 0) (d 770 10).toNat) * d 770 6 := by
    unfold v_137
    rw [n01, n57, show (1 : Int) + 1 = 2 by decide, o10, s4, c2]
  rw [h70, show csum (fun k => if d 770 (1916 + 5 * k + 3) = 2 then 1 else 0) (0 : Int).toNat = 0 from rfl] at l
  unfold QV
  rw [ev, l, ew]
  generalize csum (fun k => if d 770 (1916 + 5 * k + 3) = 2 then 1 else 0) (d 770 10).toNat = c at *
  refine ⟨by congr 1; omega, inI.of ?_⟩
  have a1 : 0 ≤ (d 770 10 - c) := by omega
  have a2 : (d 770 10 - c) * d 770 6 ≤ 200 * 99 := Int.mul_le_mul (by omega) n6.2 (by omega) (by decide)
  have a3 : 0 ≤ (d 770 10 - c) * d 770 6 := Int.mul_nonneg a1 (by omega)
  omega
theorem in84 {d : mD} {w : Row} (hg : GG w) (hr : Rel 1 d w) {r : Int → Int → mD → Int} {x1 x2 : Int} (h2 : 0 ≤ x2 ∧ x2 < w 10) : ∀ (n : Nat) (k : Int), 0 ≤ k → x2 - k ≤ (n : Int) → lp_84_36 1 r n x1 x2 (d 51 (d 60 x2)) k d = r x1 (x2 + 1) d := by
  have per : ∀ k, 0 ≤ k → k < w 10 → d 51 (d 60 k) = perO w k ∧ d 61 k = w (1916 + 5 * k + 2) := fun k a b => by
    obtain ⟨t1, t2, t3, t4⟩ := hr.2.2.2.2.2.2.1.2 k a b
    have t2 : d 60 k = w (1916 + 5 * k + 1) := t2
    have t3 : d 61 k = w (1916 + 5 * k + 2) := t3
    obtain ⟨-, g2, -⟩ := hg.2.2.2.2.2.1 k a b
    have := (hr.2.2.2.2.1.2 (w (1916 + 5 * k + 1)) g2.1 g2.2).1
    have : d 51 (w (1916 + 5 * k + 1)) = w (452 + 24 * w (1916 + 5 * k + 1) + 0) := this
    rw [t2, this]
    exact ⟨rfl, t3⟩
  have un := (hg.2.2.2.2.2.1 x2 h2.1 h2.2).2.2.2.2.2
  have last : ∀ (r' : Int → Int → Int → Int → mD → Int) (k : Int), ¬ k < x2 → st_84_36 1 r r' x1 x2 (d 51 (d 60 x2)) k d = r x1 (x2 + 1) d := fun r' k hk => by
    unfold st_84_36
    rw [if_neg hk]
  intro n
  induction n with
  | zero =>
    intro k h0 hn
    exact last _ k (by omega)
  | succ n ih =>
    intro k h0 hn
    by_cases c : k < x2
    · show st_84_36 1 r _ x1 x2 (d 51 (d 60 x2)) k d = _
      unfold st_84_36
      rw [if_pos c, n57, n49, show (58 : Int) + 3 = 61 by decide, show (50 : Int) + 1 = 51 by decide, show (58 : Int) + 2 = 60 by decide, (per k h0 (by omega)).1, (per k h0 (by omega)).2, (per x2 h2.1 h2.2).1, (per x2 h2.1 h2.2).2]
      have e := (per x2 h2.1 h2.2).1
      by_cases z : w (1916 + 5 * k + 2) = w (1916 + 5 * x2 + 2)
      · rw [if_pos z, if_neg (fun y => un k h0 c ⟨z, y⟩), ← e]
        exact ih (k + 1) (by omega) (by omega)
      · rw [if_neg z, ← e]
        exact ih (k + 1) (by omega) (by omega)
    · exact last _ k c
theorem v84 {d : mD} {w : Row} (hg : GG w) (hr : Rel 1 d w) : ∀ (n : Nat) (x1 k : Int), 0 ≤ k → w 10 - k ≤ (n : Int) → lp_84_4 1 n x1 k d = x1 := by
  have o10 : d 58 0 = w 10 := hr.2.2.2.2.2.2.1.1
  have n10 := hg.1.2.2.2.1
  intro n
  induction n with
  | zero =>
    intro x1 k h0 hn
    show st_84_4 1 _ x1 k d = _
    unfold st_84_4
    rw [n57, if_neg (by omega)]
  | succ n ih =>
    intro x1 k h0 hn
    show st_84_4 1 _ x1 k d = _
    unfold st_84_4
    by_cases c : k < w 10
    · rw [n57, if_pos (by omega), n49, show (50 : Int) + 1 = 51 by decide, show (58 : Int) + 2 = 60 by decide, in84 hg hr ⟨h0, c⟩ _ 0 (by decide) (by omega)]
      exact ih x1 (k + 1) (by omega) (by omega)
    · rw [n57, if_neg (by omega)]
theorem in262 {D : mD} (hg : GG (D 770)) {r : Int → Int → mD → Int × mD} {x1 x2 : Int} (h2 : 0 ≤ x2 ∧ x2 < D 770 10) : ∀ (n : Nat) (k : Int), 0 ≤ k → x2 - k ≤ (n : Int) → lp_262_58 769 r n x1 x2 k D = r x1 (x2 + 1) D := by
  have un := (hg.2.2.2.2.2.1 x2 h2.1 h2.2).2.2.2.2.2
  have v15 : ∀ k, v_215 769 k D = perO (D 770) k := fun k => rfl
  have last : ∀ (r' : Int → Int → Int → mD → Int × mD) (k : Int), ¬ k < x2 → st_262_58 769 r r' x1 x2 k D = r x1 (x2 + 1) D := fun r' k hk => by
    unfold st_262_58
    rw [if_neg hk]
  intro n
  induction n with
  | zero =>
    intro k h0 hn
    exact last _ k (by omega)
  | succ n ih =>
    intro k h0 hn
    by_cases c : k < x2
    · show st_262_58 769 r _ x1 x2 k D = _
      unfold st_262_58
      rw [if_pos c, n7691, v15, v15]
      by_cases z : D 770 (1916 + 5 * x2 + 2) = D 770 (1916 + 5 * k + 2)
      · rw [if_pos z, if_neg (fun y => un k h0 c ⟨z.symm, y.symm⟩), Int.add_zero]
        exact ih (k + 1) (by omega) (by omega)
      · rw [if_neg z, Int.add_zero]
        exact ih (k + 1) (by omega) (by omega)
    · exact last _ k c
theorem l262 {D : mD} (hg : GG (D 770)) : ∀ (n : Nat) (x1 k : Int), 0 ≤ k → k ≤ D 770 10 → D 770 10 - k ≤ (n : Int) → (lp_262_15 769 n x1 k D).1 = x1 - (D 770 10 - k) := by
  have n10 := hg.1.2.2.2.1
  intro n
  induction n with
  | zero =>
    intro x1 k h0 h1 hn
    show (st_262_15 769 _ x1 k D).1 = _
    unfold st_262_15
    rw [n7691, if_neg (by omega)]
    show x1 = _
    omega
  | succ n ih =>
    intro x1 k h0 h1 hn
    by_cases c : k < D 770 10
    · obtain ⟨-, -, -, g4, -⟩ := hg.2.2.2.2.2.1 k h0 c
      show (st_262_15 769 _ x1 k D).1 = _
      unfold st_262_15
      rw [n7691, if_pos c, v176, if_pos g4, if_neg (by decide), in262 hg ⟨h0, c⟩ _ 0 (by decide) (by omega), ih _ _ (by omega) (by omega) (by omega)]
      omega
    · show (st_262_15 769 _ x1 k D).1 = _
      unfold st_262_15
      rw [n7691, if_neg c]
      show x1 = _
      omega
theorem qvGap {d : mD} (hk : OKR 1 d (d 770)) : QV (v_141 0 d) (v_262 769 d) := by
  obtain ⟨hg, -, -, -, hr⟩ := id hk
  have n10 := hg.1.2.2.2.1
  have o10 : d 58 0 = d 770 10 := hr.2.2.2.2.2.2.1.1
  have h70 : mset d 769 0 0 770 = d 770 := o769 (by decide)
  have l := l262 (D := mset d 769 0 0) (by rw [h70]; exact hg) (200 - 0 : Int).toNat (d 770 10) 0 (by decide) (by rw [h70]; exact n10.1) (by rw [h70]; omega)
  rw [h70] at l
  have ev : v_262 769 d = (lp_262_15 769 (200 - 0 : Int).toNat (d 770 10) 0 (mset d 769 0 0)).1 := rfl
  have e84 : v_84 1 d = 0 := v84 hg hr _ 0 0 (by decide) (by omega)
  have c0 := v110 (q := 0) hg hr
  have c1 := v110 (q := 1) hg hr
  have c2 := v110 (q := 2) hg hr
  have sum : csum (fun k => if d 770 (1916 + 5 * k + 3) = 0 then 1 else 0) (d 770 10).toNat + csum (fun k => if d 770 (1916 + 5 * k + 3) = 1 then 1 else 0) (d 770 10).toNat + csum (fun k => if d 770 (1916 + 5 * k + 3) = 2 then 1 else 0) (d 770 10).toNat = d 770 10 := by
    rw [← csum_add, ← csum_add]
    have : csum (fun i => (if d 770 (1916 + 5 * i + 3) = 0 then 1 else 0) + (if d 770 (1916 + 5 * i + 3) = 1 then 1 else 0) + if d 770 (1916 + 5 * i + 3) = 2 then 1 else 0) (d 770 10).toNat = csum (fun _ => 1) (d 770 10).toNat := by
      refine csum_congr (fun i x y => ?_)
      obtain ⟨-, -, -, g4, -⟩ := hg.2.2.2.2.2.1 i x (by omega)
      have : d 770 (1916 + 5 * i + 3) = 0 ∨ d 770 (1916 + 5 * i + 3) = 1 ∨ d 770 (1916 + 5 * i + 3) = 2 := by omega
      rcases this with z | z | z <;> rw [z] <;> decide
    rw [this, csum_const]
    omega
  have ew : v_141 0 d = 0 := by
    unfold v_141
    rw [n01, n57, o10, c0, c1, c2, e84]
    omega
  unfold QV
  rw [ev, l, ew]
  exact ⟨by omega, inI.of (by decide)⟩
/-! ===== queries: worth ===== -/
def unp (X : Int) (d : mD) : Nat → Int → Int
  | 0, _ => 0
  | n + 1, h => (if v_6 X h d = 0 then 1 else 0) + unp X d n (h + 1)
theorem unp_nn {X : Int} {d : mD} : ∀ (n : Nat) (h : Int), 0 ≤ unp X d n h := by
  intro n
  induction n with
  | zero => intro h; exact Int.le_refl 0
  | succ n ih =>
    intro h
    have := ih (h + 1)
    show 0 ≤ (if v_6 X h d = 0 then 1 else 0) + unp X d n (h + 1)
    split <;> omega
theorem unp_c {X : Int} {d d' : mD} : ∀ (n : Nat) (h : Int), (∀ j, h ≤ j → j < h + n → v_6 X j d' = v_6 X j d) → unp X d' n h = unp X d n h := by
  intro n
  induction n with
  | zero => intro h _; rfl
  | succ n ih =>
    intro h e
    show (if v_6 X h d' = 0 then 1 else 0) + unp X d' n (h + 1) = (if v_6 X h d = 0 then 1 else 0) + unp X d n (h + 1)
    rw [e h (by omega) (by omega), ih (h + 1) (fun j x y => e j (by omega) (by omega))]
theorem l80 {t p en : Int} {d : mD} : ∀ (N n : Nat) (c h : Int), en - h ≤ (n : Int) → (en - h).toNat = N → lp_80_41 1 t n p en c h d = mmax 0 (mmin (c + unp (18 + 2 * p) d N h) (v_79 1 p d)) := by
  intro N
  induction N with
  | zero =>
    intro n c h hn hN
    have st : ∀ r : Int → Int → Int → Int → mD → Int, st_80_41 1 t r p en c h d = mmax 0 (mmin (c + unp (18 + 2 * p) d 0 h) (v_79 1 p d)) := fun r => by
      unfold st_80_41
      rw [if_neg (by omega), show unp (18 + 2 * p) d 0 h = 0 from rfl, Int.add_zero]
    cases n with
    | zero => exact st _
    | succ n => exact st _
  | succ N ih =>
    intro n c h hn hN
    cases n with
    | zero => omega
    | succ n =>
      show st_80_41 1 t _ p en c h d = _
      unfold st_80_41
      rw [if_pos (by omega), show 1 + 10 + 6 + (1 + 2 * p) = 18 + 2 * p by omega, show unp (18 + 2 * p) d (N + 1) h = (if v_6 (18 + 2 * p) h d = 0 then 1 else 0) + unp (18 + 2 * p) d N (h + 1) from rfl]
      by_cases z : v_6 (18 + 2 * p) h d = 0
      · rw [if_pos z, if_pos z, ih n _ _ (by omega) (by omega), show c + 1 + unp (18 + 2 * p) d N (h + 1) = c + (1 + unp (18 + 2 * p) d N (h + 1)) by omega]
      · rw [if_neg z, if_neg z, ih n _ _ (by omega) (by omega), show c + 0 + unp (18 + 2 * p) d N (h + 1) = c + (0 + unp (18 + 2 * p) d N (h + 1)) by omega]
theorem l81 {t p en room : Int} (hp : 0 ≤ p ∧ p < 16) (he : en ≤ 999) : ∀ (N n : Nat) (m h : Int) (d : mD), 0 ≤ h → en - h ≤ (n : Int) → (en - h).toNat = N → (lp_81_48 1 t n p en room m h d).1 = m + mmin (unp (18 + 2 * p) d N h) (mmax 0 (room - m)) := by
  intro N
  induction N with
  | zero =>
    intro n m h d h0 hn hN
    have st : ∀ r : Int → Int → Int → Int → Int → mD → Int × mD, (st_81_48 1 t r p en room m h d).1 = m + mmin (unp (18 + 2 * p) d 0 h) (mmax 0 (room - m)) := fun r => by
      unfold st_81_48
      rw [if_neg (by omega), show unp (18 + 2 * p) d 0 h = 0 from rfl]
      unfold mmin mmax
      show m = _
      split
      · split at * <;> omega
      · omega
    cases n with
    | zero => exact st _
    | succ n => exact st _
  | succ N ih =>
    intro n m h d h0 hn hN
    have nn := unp_nn (X := 18 + 2 * p) (d := d) N (h + 1)
    cases n with
    | zero => omega
    | succ n =>
      show (st_81_48 1 t _ p en room m h d).1 = _
      unfold st_81_48
      rw [if_pos (by omega), show 1 + 10 + 6 + (1 + 2 * p) = 18 + 2 * p by omega, show unp (18 + 2 * p) d (N + 1) h = (if v_6 (18 + 2 * p) h d = 0 then 1 else 0) + unp (18 + 2 * p) d N (h + 1) from rfl]
      by_cases c : m < room
      · rw [if_pos c]
        by_cases z : v_6 (18 + 2 * p) h d = 0
        · rw [if_pos z, if_pos z, ih n _ _ _ (by omega) (by omega) (by omega), unp_c (d := d) N (h + 1) (fun j x y => ?_)]
          · generalize unp (18 + 2 * p) d N (h + 1) = u at *
            unfold mmin mmax
            split <;> split <;> split <;> split <;> omega
          · have e : v_6 (18 + 2 * p) j (g_109 (1 + 57) p t h (g_7 (18 + 2 * p) h d)) = v_6 (18 + 2 * p) j (g_7 (18 + 2 * p) h d) := by
              unfold g_109
              split
              · unfold v_6
                rw [ms_a (by omega), ms_a (by omega), ms_a (by omega), ms_a (by omega), ms_a (by omega)]
              · rfl
            rw [e, add_has h0 (by omega) (by omega) (by omega), if_neg (by omega)]
        · rw [if_neg z, if_neg z, ih n _ _ _ (by omega) (by omega) (by omega), Int.zero_add]
      · rw [if_neg c]
        show m = _
        unfold mmin mmax
        generalize unp (18 + 2 * p) d N (h + 1) = u at *
        split <;> split <;> split <;> omega
theorem worthEq {d : mD} {w : Row} {t : Int} (hg : GG w) (h : Rel 1 d w) (ht : 0 ≤ t ∧ t < w 9) (hs : w (452 + 24 * t + 4) = 1) (h9 : w (452 + 24 * t + 3) ≤ 999) : v_80 1 t d = V_218 t w := by
  rw [← (makes hg h ht hs h9).1]
  obtain ⟨t1, t2, t3, t4, t5⟩ := h.2.2.2.2.1.2 t ht.1 ht.2
  have t1 : d 51 t = w (452 + 24 * t + 0) := t1
  have t3 : d 53 t = w (452 + 24 * t + 2) := t3
  have t4 : d 54 t = w (452 + 24 * t + 3) := t4
  have s0 : d 2 0 = w 2 := h.1.2.2 0 (by decide) (by decide)
  obtain ⟨g1, g2, g3, -⟩ := hg.2.2.2.1 t ht.1 ht.2
  obtain ⟨n7, n8, n9, n10, n11, n0, n1, n2, -⟩ := id hg.1
  unfold v_80 v_81 f_81
  rw [n49, show (1 : Int) + 1 = 2 by decide, show (50 : Int) + 1 = 51 by decide, show (50 : Int) + 3 = 53 by decide, show (50 : Int) + 4 = 54 by decide, t1, t3, t4, s0]
  rw [l80 (w (452 + 24 * t + 3) - (w (452 + 24 * t + 2) + w 2)).toNat _ _ _ (by omega) rfl, l81 ⟨by omega, by omega⟩ h9 (w (452 + 24 * t + 3) - (w (452 + 24 * t + 2) + w 2)).toNat _ _ _ _ (by omega) (by omega) rfl]
  have nn := unp_nn (X := 18 + 2 * w (452 + 24 * t + 0)) (d := d) (w (452 + 24 * t + 3) - (w (452 + 24 * t + 2) + w 2)).toNat (w (452 + 24 * t + 2) + w 2)
  generalize unp (18 + 2 * w (452 + 24 * t + 0)) d (w (452 + 24 * t + 3) - (w (452 + 24 * t + 2) + w 2)).toNat (w (452 + 24 * t + 2) + w 2) = u at *
  generalize v_79 1 (w (452 + 24 * t + 0)) d = r at *
  unfold mmin mmax
  split <;> split <;> split <;> split <;> omega
theorem qpWorth {E : mO × tW} {d : mD} {a : Int} (hT : TKL E) (hI : Inv E d) : QP (g_317 0 a 778 d) (g_257 769 a (g_317 0 a 778 d)) (v_317 0 a 778 d) (v_257 769 a (g_317 0 a 778 d)) := by
  obtain ⟨hS, hh, hi⟩ := hI
  have hk := hi.1
  obtain ⟨hg, -, -, htm, hr⟩ := id hk
  have n9 := hg.1.2.2.1
  have o9 : d 50 0 = d 770 9 := hr.2.2.2.2.1.1
  have n1 : ¬ (1 : Int) = 0 := by decide
  unfold v_317 g_317
  rw [n01, n49, show (50 : Int) + 5 = 55 by decide, o9, ifR, ifR]
  by_cases c : 0 ≤ a ∧ a < d 770 9
  · rw [if_pos c, if_pos c]
    have t5 : d 55 a = d 770 (452 + 24 * a + 4) := (hr.2.2.2.2.1.2 a c.1 c.2).2.2.2.2
    rw [t5]
    by_cases z : d 770 (452 + 24 * a + 4) = 1
    · rw [if_pos z]
      have ge := (hg.2.2.2.1 a c.1 c.2).2.2.2.2.2 (by omega)
      have we := worthEq hg hr c z (by omega)
      have rg := (p_80 (E := E) (x0 := 1) (x1 := a) hS s1B (by omega) ⟨hT.t 6 1 (by decide), trivial, trivial⟩ hh).2
      generalize v_80 1 a d = x at *
      have e70 : g_255 769 (mset (mset d 778 0 x) 769 0 0) 770 = d 770 := by rw [(c255 (u := mset (mset d 778 0 x) 769 0 0)).1 770 (by decide), o769 (by decide), o778 (by decide)]
      refine ⟨?_, fun _ => ⟨?_, inI.of ?_⟩⟩
      · unfold g_257
        rw [v238, n7691, o778 (by decide), if_pos c, if_neg n1, if_pos z, (c256 (u := g_218 769 a (g_255 769 (mset (mset d 778 0 x) 769 0 0)))).1 769 (by decide), m_g_218, rset_ne (by decide), (c255 (u := mset (mset d 778 0 x) 769 0 0)).1 769 (by decide), ms_e rfl rfl]
      · unfold v_257
        rw [ms_e rfl rfl, v238, n7691, o778 (by decide), if_pos c, if_neg n1, if_pos z, m_v_218, e70]
        exact we
      · unfold v_257
        rw [v238, n7691, o778 (by decide), if_pos c, if_neg n1, if_pos z, m_v_218, e70, ← we]
        omega
    · rw [if_neg z]
      have e : g_257 769 a (mset d 778 0 0) = mset (mset d 778 0 0) 769 0 0 ∧ v_257 769 a (mset d 778 0 0) = 0 := by
        unfold g_257 v_257
        rw [v238, n7691, o778 (by decide), if_pos c, if_neg n1, if_neg n1, if_neg z, if_neg z]
        exact ⟨rfl, rfl⟩
      rw [e.1, e.2]
      exact QP.ok rfl (by decide)
  · rw [if_neg c, if_neg c]
    have e : g_257 769 a d = mset d 769 0 1 := by
      unfold g_257
      rw [v238, if_neg c, if_pos rfl]
    rw [e]
    exact QP.fail (by decide)
/-! ===== queries: person (but for the hours lost) ===== -/
theorem v104 {d : mD} {w : Row} {p : Int} (hg : GG w) (h : Rel 1 d w) : v_104 50 p d = csum (fun t => if w (452 + 24 * t + 0) = p then 1 else 0) (w 9).toNat := by
  obtain ⟨r1, r2⟩ := h.2.2.2.2.1
  have n9 := hg.1.2.2.1
  have r1 : d 50 0 = w 9 := r1
  unfold v_104
  refine cnt0 (L := fun n a k => lp_104_4 50 p n a k d) n9.1 (by omega) (fun n a k hk => ?_) (fun n a k x y => ?_)
  · cases n with
    | zero =>
      show st_104_4 50 p _ a k d = a
      unfold st_104_4
      rw [if_neg (by omega)]
    | succ n =>
      show st_104_4 50 p _ a k d = a
      unfold st_104_4
      rw [if_neg (by omega)]
  · obtain ⟨t1, t2, t3, t4, t5⟩ := r2 k x y
    have t1 : d 51 k = w (452 + 24 * k + 0) := t1
    show st_104_4 50 p _ a k d = _
    unfold st_104_4
    rw [if_pos (by omega), show (50 : Int) + 1 = 51 by decide, t1]
    by_cases c1 : w (452 + 24 * k + 0) = p
    · rw [if_pos c1, if_pos c1]
    · rw [if_neg c1, if_neg c1]
theorem v105 {d : mD} {w : Row} {p : Int} (hg : GG w) (h : Rel 1 d w) : v_105 50 p d = csum (fun t => if w (452 + 24 * t + 0) = p ∧ w (452 + 24 * t + 4) = 0 then 1 else 0) (w 9).toNat := by
  obtain ⟨r1, r2⟩ := h.2.2.2.2.1
  have n9 := hg.1.2.2.1
  have r1 : d 50 0 = w 9 := r1
  unfold v_105
  refine cnt0 (L := fun n a k => lp_105_4 50 p n a k d) n9.1 (by omega) (fun n a k hk => ?_) (fun n a k x y => ?_)
  · cases n with
    | zero =>
      show st_105_4 50 p _ a k d = a
      unfold st_105_4
      rw [if_neg (by omega)]
    | succ n =>
      show st_105_4 50 p _ a k d = a
      unfold st_105_4
      rw [if_neg (by omega)]
  · obtain ⟨t1, t2, t3, t4, t5⟩ := r2 k x y
    have t1 : d 51 k = w (452 + 24 * k + 0) := t1
    have t5 : d 55 k = w (452 + 24 * k + 4) := t5
    show st_105_4 50 p _ a k d = _
    unfold st_105_4
    rw [if_pos (by omega), show (50 : Int) + 1 = 51 by decide, show (50 : Int) + 5 = 55 by decide, t1, t5]
    by_cases c1 : w (452 + 24 * k + 0) = p
    · by_cases c2 : w (452 + 24 * k + 4) = 0
      · rw [if_pos c1, if_pos c2, if_pos ⟨c1, c2⟩]
      · rw [if_pos c1, if_neg c2, if_neg (fun z => c2 z.2)]
    · rw [if_neg c1, if_neg (fun z => c1 z.1)]
theorem v83 {d : mD} {w : Row} {p : Int} (hg : GG w) (h : Rel 1 d w) : v_83 1 p d = csum (fun k => if perO w k = p then 1 else 0) (w 10).toNat := by
  obtain ⟨r1, r2⟩ := h.2.2.2.2.2.2.1
  have n9 := hg.1.2.2.2.1
  have r1 : d 58 0 = w 10 := r1
  unfold v_83
  refine cnt0 (L := fun n a k => lp_83_4 1 p n a k d) n9.1 (by omega) (fun n a k hk => ?_) (fun n a k x y => ?_)
  · cases n with
    | zero =>
      show st_83_4 1 p _ a k d = a
      unfold st_83_4
      rw [n57, if_neg (by omega)]
    | succ n =>
      show st_83_4 1 p _ a k d = a
      unfold st_83_4
      rw [n57, if_neg (by omega)]
  · have t2 : d 60 k = w (1916 + 5 * k + 1) := (r2 k x y).2.1
    obtain ⟨-, g2, -⟩ := hg.2.2.2.2.2.1 k x y
    have t1 : d 51 (w (1916 + 5 * k + 1)) = w (452 + 24 * w (1916 + 5 * k + 1) + 0) := (h.2.2.2.2.1.2 _ g2.1 g2.2).1
    show st_83_4 1 p _ a k d = _
    unfold st_83_4
    rw [n57, n49, if_pos (by omega), show (50 : Int) + 1 = 51 by decide, show (58 : Int) + 2 = 60 by decide, t2, t1]
    show (if perO w k = p then _ else _) = _
    by_cases c1 : perO w k = p
    · rw [if_pos c1, if_pos c1]
    · rw [if_neg c1, if_neg c1]
def fin246 (p b a c e : Int) (D : mD) : Int := if b = 0 then D 770 (420 + 2 * p + 1) else if b = 1 then a else if b = 2 then c else if b = 3 then v_245 769 p 0 D else if b = 4 then v_245 769 p 1 D else if b = 5 then v_245 769 p 2 D else if b = 6 then e else if b = 7 then v_217 769 p D else if b = 8 then v_233 769 p D else v_244 769 p 1 D
theorem l246b {p b a c : Int} {D : mD} : ∀ (n : Nat) (e k : Int), 0 ≤ k → k ≤ D 770 10 → D 770 10 - k ≤ (n : Int) → (lp_246_140 769 p b n a c e k D).2 = D ∧ (lp_246_140 769 p b n a c e k D).1 = fin246 p b a c (e + (csum (fun k => if perO (D 770) k = p then 1 else 0) (D 770 10).toNat - csum (fun k => if perO (D 770) k = p then 1 else 0) k.toNat)) D := by
  have last : ∀ (r : Int → Int → Int → Int → mD → Int × mD) (e k : Int), k = D 770 10 → (st_246_140 769 p b r a c e k D).2 = D ∧ (st_246_140 769 p b r a c e k D).1 = fin246 p b a c (e + (csum (fun k => if perO (D 770) k = p then 1 else 0) (D 770 10).toNat - csum (fun k => if perO (D 770) k = p then 1 else 0) k.toNat)) D := fun r e k hk => by
    unfold st_246_140 fin246
    rw [n7691, if_neg (by omega), hk, Int.sub_self, Int.add_zero]
    constructor
    · repeat' apply sndI
      all_goals rfl
    · repeat' apply fstI
      all_goals rfl
  intro n
  induction n with
  | zero =>
    intro e k h0 h1 h2
    exact last _ e k (by omega)
  | succ n ih =>
    intro e k h0 h1 h2
    by_cases q : k < D 770 10
    · have st : lp_246_140 769 p b (n + 1) a c e k D = lp_246_140 769 p b n a c (e + (if perO (D 770) k = p then 1 else 0)) (k + 1) D := by
        show st_246_140 769 p b _ a c e k D = _
        unfold st_246_140
        rw [n7691, if_pos q, show v_215 769 k D = perO (D 770) k from rfl]
        by_cases z : perO (D 770) k = p
        · rw [if_pos z, if_pos z]
        · rw [if_neg z, if_neg z]
      rw [st]
      obtain ⟨i1, i2⟩ := ih (e + (if perO (D 770) k = p then 1 else 0)) (k + 1) (by omega) (by omega) (by omega)
      refine ⟨i1, i2.trans ?_⟩
      rw [csum_s _ h0]
      congr 1
      generalize (if perO (D 770) k = p then (1 : Int) else 0) = z
      omega
    · exact last _ e k (by omega)
theorem l246 {p b : Int} {D : mD} (h10 : 0 ≤ D 770 10 ∧ D 770 10 ≤ 200) : ∀ (n : Nat) (a c k : Int), 0 ≤ k → k ≤ D 770 9 → D 770 9 - k ≤ (n : Int) → (lp_246_50 769 p b n a c k D).2 = D ∧ (lp_246_50 769 p b n a c k D).1 = fin246 p b (a + (csum (fun t => if D 770 (452 + 24 * t + 0) = p then 1 else 0) (D 770 9).toNat - csum (fun t => if D 770 (452 + 24 * t + 0) = p then 1 else 0) k.toNat)) (c + (csum (fun t => if D 770 (452 + 24 * t + 0) = p ∧ D 770 (452 + 24 * t + 4) = 0 then 1 else 0) (D 770 9).toNat - csum (fun t => if D 770 (452 + 24 * t + 0) = p ∧ D 770 (452 + 24 * t + 4) = 0 then 1 else 0) k.toNat)) (csum (fun k => if perO (D 770) k = p then 1 else 0) (D 770 10).toNat) D := by
  have last : ∀ (r : Int → Int → Int → mD → Int × mD) (a c k : Int), k = D 770 9 → (st_246_50 769 p b r a c k D).2 = D ∧ (st_246_50 769 p b r a c k D).1 = fin246 p b (a + (csum (fun t => if D 770 (452 + 24 * t + 0) = p then 1 else 0) (D 770 9).toNat - csum (fun t => if D 770 (452 + 24 * t + 0) = p then 1 else 0) k.toNat)) (c + (csum (fun t => if D 770 (452 + 24 * t + 0) = p ∧ D 770 (452 + 24 * t + 4) = 0 then 1 else 0) (D 770 9).toNat - csum (fun t => if D 770 (452 + 24 * t + 0) = p ∧ D 770 (452 + 24 * t + 4) = 0 then 1 else 0) k.toNat)) (csum (fun k => if perO (D 770) k = p then 1 else 0) (D 770 10).toNat) D := fun r a c k hk => by
    have nk : ¬ k < D 770 9 := by omega
    obtain ⟨i1, i2⟩ := l246b (p := p) (b := b) (a := a) (c := c) (D := D) (200 - 0 : Int).toNat 0 0 (by decide) h10.1 (by omega)
    have st : st_246_50 769 p b r a c k D = lp_246_140 769 p b (200 - 0 : Int).toNat a c 0 0 D := by
      unfold st_246_50
      rw [n7691, if_neg nk]
    rw [st]
    refine ⟨i1, i2.trans ?_⟩
    rw [hk, show csum (fun k => if perO (D 770) k = p then 1 else 0) (0 : Int).toNat = 0 from rfl]
    congr 1 <;> omega
  intro n
  induction n with
  | zero =>
    intro a c k h0 h1 h2
    exact last _ a c k (by omega)
  | succ n ih =>
    intro a c k h0 h1 h2
    by_cases q : k < D 770 9
    · have st : lp_246_50 769 p b (n + 1) a c k D = lp_246_50 769 p b n (a + (if D 770 (452 + 24 * k + 0) = p then 1 else 0)) (c + (if D 770 (452 + 24 * k + 0) = p ∧ D 770 (452 + 24 * k + 4) = 0 then 1 else 0)) (k + 1) D := by
        show st_246_50 769 p b _ a c k D = _
        unfold st_246_50
        rw [n7691, if_pos q]
        by_cases z : D 770 (452 + 24 * k + 0) = p
        · by_cases z4 : D 770 (452 + 24 * k + 4) = 0
          · rw [if_pos z, if_pos z4, if_pos z, if_pos ⟨z, z4⟩]
          · rw [if_pos z, if_neg z4, if_pos z, if_neg (fun y => z4 y.2)]
        · rw [if_neg z, if_neg z, if_neg (fun y => z y.1)]
      rw [st]
      obtain ⟨i1, i2⟩ := ih (a + (if D 770 (452 + 24 * k + 0) = p then 1 else 0)) (c + (if D 770 (452 + 24 * k + 0) = p ∧ D 770 (452 + 24 * k + 4) = 0 then 1 else 0)) (k + 1) (by omega) (by omega) (by omega)
      refine ⟨i1, i2.trans ?_⟩
      rw [csum_s _ h0, csum_s _ h0]
      generalize (if D 770 (452 + 24 * k + 0) = p then (1 : Int) else 0) = z
      generalize (if D 770 (452 + 24 * k + 0) = p ∧ D 770 (452 + 24 * k + 4) = 0 then (1 : Int) else 0) = z2
      congr 1 <;> omega
    · exact last _ a c k (by omega)
/-! ===== counting the bits of a long word ===== -/
theorem digSum {n c e f g : Nat} (hc : c = dig 8 n) (he : e = c + c / 256) (hf : f = e + e / 65536) (hg : g = f + f / 4294967296) : g % 128 = bc8 (n % 256) + bc8 (n / 256 % 256) + bc8 (n / 65536 % 256) + bc8 (n / 16777216 % 256) + bc8 (n / 4294967296 % 256) + bc8 (n / 1099511627776 % 256) + bc8 (n / 281474976710656 % 256) + bc8 (n / 72057594037927936 % 256) := by
  have h : c = bc8 (n % 256) + 256 * bc8 (n / 256 % 256) + 65536 * bc8 (n / 65536 % 256) + 16777216 * bc8 (n / 16777216 % 256) + 4294967296 * bc8 (n / 4294967296 % 256) + 1099511627776 * bc8 (n / 1099511627776 % 256) + 281474976710656 * bc8 (n / 281474976710656 % 256) + 72057594037927936 * bc8 (n / 72057594037927936 % 256) := by
    rw [hc]
    show 256 * (256 * (256 * (256 * (256 * (256 * (256 * (256 * 0 + bc8 (n / 256 / 256 / 256 / 256 / 256 / 256 / 256 % 256)) + bc8 (n / 256 / 256 / 256 / 256 / 256 / 256 % 256)) + bc8 (n / 256 / 256 / 256 / 256 / 256 % 256)) + bc8 (n / 256 / 256 / 256 / 256 % 256)) + bc8 (n / 256 / 256 / 256 % 256)) + bc8 (n / 256 / 256 % 256)) + bc8 (n / 256 % 256)) + bc8 (n % 256) = _
    rw [show n / 256 / 256 = n / 65536 from Nat.div_div_eq_div_mul n 256 256, show n / 65536 / 256 = n / 16777216 from Nat.div_div_eq_div_mul n 65536 256, show n / 16777216 / 256 = n / 4294967296 from Nat.div_div_eq_div_mul n 16777216 256, show n / 4294967296 / 256 = n / 1099511627776 from Nat.div_div_eq_div_mul n 4294967296 256, show n / 1099511627776 / 256 = n / 281474976710656 from Nat.div_div_eq_div_mul n 1099511627776 256, show n / 281474976710656 / 256 = n / 72057594037927936 from Nat.div_div_eq_div_mul n 281474976710656 256]
    omega
  have b0 := bc8_le (n % 256)
  have b1 := bc8_le (n / 256 % 256)
  have b2 := bc8_le (n / 65536 % 256)
  have b3 := bc8_le (n / 16777216 % 256)
  have b4 := bc8_le (n / 4294967296 % 256)
  have b5 := bc8_le (n / 1099511627776 % 256)
  have b6 := bc8_le (n / 281474976710656 % 256)
  have b7 := bc8_le (n / 72057594037927936 % 256)
  generalize bc8 (n % 256) = x0 at *
  generalize bc8 (n / 256 % 256) = x1 at *
  generalize bc8 (n / 65536 % 256) = x2 at *
  generalize bc8 (n / 16777216 % 256) = x3 at *
  generalize bc8 (n / 4294967296 % 256) = x4 at *
  generalize bc8 (n / 1099511627776 % 256) = x5 at *
  generalize bc8 (n / 281474976710656 % 256) = x6 at *
  generalize bc8 (n / 72057594037927936 % 256) = x7 at *
  clear hc
  have q8 : ∀ (l m r : Nat), l < m → (l + m * r) / m = r := fun l m r hl => by
    rw [Nat.add_mul_div_left _ _ (Nat.lt_of_le_of_lt (Nat.zero_le _) hl), Nat.div_eq_of_lt hl, Nat.zero_add]
  have h1 : c / 256 = x1 + 256 * x2 + 65536 * x3 + 16777216 * x4 + 4294967296 * x5 + 1099511627776 * x6 + 281474976710656 * x7 := by
    rw [← q8 x0 256 (x1 + 256 * x2 + 65536 * x3 + 16777216 * x4 + 4294967296 * x5 + 1099511627776 * x6 + 281474976710656 * x7) (Nat.lt_of_le_of_lt b0 (by decide)), h]
    congr 1
    omega
  rw [h1, h] at he
  clear h h1
  have h2 : e / 65536 = (x2 + x3) + 256 * (x3 + x4) + 65536 * (x4 + x5) + 16777216 * (x5 + x6) + 4294967296 * (x6 + x7) + 1099511627776 * x7 := by
    rw [← q8 (x0 + x1 + 256 * (x1 + x2)) 65536 ((x2 + x3) + 256 * (x3 + x4) + 65536 * (x4 + x5) + 16777216 * (x5 + x6) + 4294967296 * (x6 + x7) + 1099511627776 * x7) (by clear he; omega), he]
    congr 1
    omega
  rw [h2, he] at hf
  clear h2 he
  have h3 : f / 4294967296 = (x4 + x5 + x6 + x7) + 256 * (x5 + x6 + x7) + 65536 * (x6 + x7) + 16777216 * x7 := by
    rw [← q8 (x0 + x1 + x2 + x3 + 256 * (x1 + x2 + x3 + x4) + 65536 * (x2 + x3 + x4 + x5) + 16777216 * (x3 + x4 + x5 + x6)) 4294967296 ((x4 + x5 + x6 + x7) + 256 * (x5 + x6 + x7) + 65536 * (x6 + x7) + 16777216 * x7) (by clear hf; omega), hf]
    congr 1
    omega
  rw [h3, hf] at hg
  clear h3 hf
  have h4 : g = (x0 + x1 + x2 + x3 + x4 + x5 + x6 + x7) + 128 * (2 * ((x1 + x2 + x3 + x4 + x5 + x6 + x7) + 256 * (x2 + x3 + x4 + x5 + x6 + x7) + 65536 * (x3 + x4 + x5 + x6 + x7) + 16777216 * (x4 + x5 + x6 + x7) + 4294967296 * (x5 + x6 + x7) + 1099511627776 * (x6 + x7) + 281474976710656 * x7)) := by
    rw [hg]
    omega
  rw [h4, Nat.add_mul_mod_self_left]
  refine Nat.mod_eq_of_lt ?_
  clear h4 hg
  omega
def n64 (x : Int) : Nat := (BitVec.ofInt 64 x).toNat
theorem n64_lt (x : Int) : n64 x < 18446744073709551616 := (BitVec.ofInt 64 x).isLt
theorem n64_of (z : Int64) : n64 z.toInt = z.toBitVec.toNat := by
  unfold n64
  have : BitVec.ofInt 64 z.toInt = z.toBitVec := BitVec.ofInt_toInt (x := z.toBitVec)
  rw [this]
theorem n64_and (x y : Int) : n64 (mland x y) = n64 x &&& n64 y := by
  show n64 (Int64.ofInt x &&& Int64.ofInt y).toInt = _
  rw [n64_of, Int64.toBitVec_and, BitVec.toNat_and]
  rfl
theorem n64_sr (x : Int) (k : Nat) (h : k < 64) : n64 (mlushr x (k : Int)) = n64 x / 2 ^ k := by
  unfold mlushr
  rw [n64_of]
  have e1 : ((Int64.ofInt x).toUInt64 >>> ((Int32.ofInt (k : Int)).toInt64.toUInt64 &&& 63)).toInt64.toBitVec = (Int64.ofInt x).toBitVec >>> k := by
    show ((Int64.ofInt x).toUInt64 >>> ((Int32.ofInt (k : Int)).toInt64.toUInt64 &&& 63)).toBitVec = _
    rw [UInt64.toBitVec_shiftRight]
    show (Int64.ofInt x).toBitVec >>> _ = _
    have e3 : (((Int32.ofInt (k : Int)).toInt64.toUInt64 &&& 63).toBitVec % 64).toNat = k := by
      rw [BitVec.toNat_umod]
      show ((Int32.ofInt (k : Int)).toInt64.toUInt64 &&& 63).toNat % 64 = k
      rw [sh63u k h]
      omega
    show (Int64.ofInt x).toBitVec >>> ((((Int32.ofInt (k : Int)).toInt64.toUInt64 &&& 63).toBitVec % 64).toNat) = _
    rw [e3]
  rw [e1, BitVec.toNat_ushiftRight, Nat.shiftRight_eq_div_pow]
  rfl
theorem n64_add {x y : Int} (h : n64 x + n64 y < 18446744073709551616) : n64 (x + y) = n64 x + n64 y := by
  unfold n64 at *
  rw [BitVec.ofInt_add, BitVec.toNat_add]
  exact Nat.mod_eq_of_lt h
theorem n64_sub {x y : Int} (h : n64 y ≤ n64 x) : n64 (x - y) = n64 x - n64 y := by
  have e := n64_add (x := x - y) (y := y)
  unfold n64 at *
  have h1 : BitVec.ofInt 64 x = BitVec.ofInt 64 (x - y) + BitVec.ofInt 64 y := by
    rw [← BitVec.ofInt_add, Int.sub_add_cancel]
  have h2 : BitVec.ofInt 64 (x - y) = BitVec.ofInt 64 x - BitVec.ofInt 64 y := by
    rw [h1, BitVec.add_sub_cancel]
  rw [h2, BitVec.toNat_sub]
  have := (BitVec.ofInt 64 x).isLt
  omega
theorem n64_127 (z : Int) : miand z 127 = ((n64 z % 128 : Nat) : Int) := by
  have e : miand z 127 = ((Int32.ofInt z).toBitVec &&& 127#32).toInt := rfl
  have h1 : ((Int32.ofInt z).toBitVec &&& 127#32).toNat = n64 z % 128 := by
    rw [BitVec.toNat_and]
    show (BitVec.ofInt 32 z).toNat &&& (2 ^ 7 - 1) = _
    rw [Nat.and_two_pow_sub_one_eq_mod]
    unfold n64
    rw [BitVec.toNat_ofInt, BitVec.toNat_ofInt]
    omega
  have h2 : ((Int32.ofInt z).toBitVec &&& 127#32).toInt = (((Int32.ofInt z).toBitVec &&& 127#32).toNat : Int) := BitVec.toInt_eq_toNat_of_lt (by omega)
  rw [e, h2, h1]
theorem v297n (x : Int) (d : mD) : v_297 x d = ((bc8 (n64 x % 256) + bc8 (n64 x / 256 % 256) + bc8 (n64 x / 65536 % 256) + bc8 (n64 x / 16777216 % 256) + bc8 (n64 x / 4294967296 % 256) + bc8 (n64 x / 1099511627776 % 256) + bc8 (n64 x / 281474976710656 % 256) + bc8 (n64 x / 72057594037927936 % 256) : Nat) : Int) := by
  have s1 : ∀ x, n64 (mlushr x 1) = n64 x / 2 := fun x => n64_sr x 1 (by decide)
  have s2 : ∀ x, n64 (mlushr x 2) = n64 x / 4 := fun x => n64_sr x 2 (by decide)
  have s4 : ∀ x, n64 (mlushr x 4) = n64 x / 16 := fun x => n64_sr x 4 (by decide)
  have s8 : ∀ x, n64 (mlushr x 8) = n64 x / 256 := fun x => n64_sr x 8 (by decide)
  have s16 : ∀ x, n64 (mlushr x 16) = n64 x / 65536 := fun x => n64_sr x 16 (by decide)
  have s32 : ∀ x, n64 (mlushr x 32) = n64 x / 4294967296 := fun x => n64_sr x 32 (by decide)
  have m1 : n64 6148914691236517205 = mk8 85 8 := by decide
  have m2 : n64 3689348814741910323 = mk8 51 8 := by decide
  have m4 : n64 1085102592571150095 = mk8 15 8 := by decide
  have k2 : mk8 51 8 = 3689348814741910323 := by decide
  have k4 : mk8 15 8 = 1085102592571150095 := by decide
  have hn := n64_lt x
  have ev : ∃ a b c e f g : Int, a = x - mland (mlushr x 1) 6148914691236517205 ∧ b = mland a 3689348814741910323 + mland (mlushr a 2) 3689348814741910323 ∧ c = mland (b + mlushr b 4) 1085102592571150095 ∧ e = c + mlushr c 8 ∧ f = e + mlushr e 16 ∧ g = f + mlushr f 32 ∧ v_297 x d = miand g 127 := ⟨_, _, _, _, _, _, rfl, rfl, rfl, rfl, rfl, rfl, rfl⟩
  obtain ⟨a, b, c, e, f, g, ha, hb, hc, he, hf, hg, hv⟩ := ev
  have na : n64 a = pA 8 (n64 x) := by
    have l : n64 x / 2 &&& mk8 85 8 ≤ n64 x / 2 := Nat.and_le_left
    rw [ha, n64_sub, n64_and, s1, m1]
    · rfl
    · rw [n64_and, s1, m1]
      omega
  have l1 : n64 a &&& mk8 51 8 ≤ mk8 51 8 := Nat.and_le_right
  have l2 : n64 a / 4 &&& mk8 51 8 ≤ mk8 51 8 := Nat.and_le_right
  have nb : n64 b = pB 8 (pA 8 (n64 x)) := by
    rw [hb, n64_add, n64_and, n64_and, s2, m2, na]
    · rfl
    · rw [n64_and, n64_and, s2, m2]
      omega
  have lb : n64 b ≤ 7378697629483820646 := by
    rw [nb]
    unfold pB
    rw [← na]
    omega
  have nc : n64 c = dig 8 (n64 x) := by
    rw [hc, n64_and, n64_add, s4, m4, nb, ← (pcDig 8 (n64 x)).2]
    · rfl
    · rw [s4]
      omega
  have lc : n64 c ≤ 1085102592571150095 := by
    rw [hc, n64_and, m4]
    have : n64 (b + mlushr b 4) &&& mk8 15 8 ≤ mk8 15 8 := Nat.and_le_right
    omega
  have ne : n64 e = n64 c + n64 c / 256 := by
    rw [he, n64_add, s8]
    rw [s8]
    omega
  have nf : n64 f = n64 e + n64 e / 65536 := by
    rw [hf, n64_add, s16]
    rw [s16]
    omega
  have ng : n64 g = n64 f + n64 f / 4294967296 := by
    rw [hg, n64_add, s32]
    rw [s32]
    omega
  rw [hv, n64_127, digSum nc ne nf ng]
/-! ===== queries: the mean wait ===== -/
theorem csum_acc {α : Type} {L : Nat → Int → Int → α} {F : Int → α} {f : Int → Int} {N : Int} (hN : 0 ≤ N) (stop : ∀ n a k, k = N → L n a k = F a) (step : ∀ n a k, 0 ≤ k → k < N → L (n + 1) a k = L n (a + f k) (k + 1)) : ∀ (n : Nat) (a k : Int), 0 ≤ k → k ≤ N → N - k ≤ (n : Int) → L n a k = F (a + (csum f N.toNat - csum f k.toNat)) := by
  intro n
  induction n with
  | zero =>
    intro a k h0 h1 h2
    have e : k = N := by omega
    rw [stop _ _ _ e, e, Int.sub_self, Int.add_zero]
  | succ n ih =>
    intro a k h0 h1 h2
    by_cases c : k < N
    · rw [step n a k h0 c, ih _ _ (by omega) (by omega) (by omega), csum_s _ h0]
      congr 1
      omega
    · have e : k = N := by omega
      rw [stop _ _ _ e, e, Int.sub_self, Int.add_zero]
def wtT (w : Row) (t : Int) : Int := if w (452 + 24 * t + 4) = 1 then w (452 + 24 * t + 3) - w (452 + 24 * t + 2) else 0
theorem v106 {d : mD} {w : Row} (hg : GG w) (h : Rel 1 d w) : v_106 50 d = csum (wtT w) (w 9).toNat := by
  obtain ⟨r1, r2⟩ := h.2.2.2.2.1
  have n9 := hg.1.2.2.1
  have r1 : d 50 0 = w 9 := r1
  unfold v_106
  refine cnt0 (L := fun n a k => lp_106_4 50 n a k d) n9.1 (by omega) (fun n a k hk => ?_) (fun n a k x y => ?_)
  · cases n with
    | zero =>
      show st_106_4 50 _ a k d = a
      unfold st_106_4
      rw [if_neg (by omega)]
    | succ n =>
      show st_106_4 50 _ a k d = a
      unfold st_106_4
      rw [if_neg (by omega)]
  · obtain ⟨t1, t2, t3, t4, t5⟩ := r2 k x y
    have t5 : d 55 k = w (452 + 24 * k + 4) := t5
    have t3 : d 53 k = w (452 + 24 * k + 2) := t3
    have t4 : d 54 k = w (452 + 24 * k + 3) := t4
    show st_106_4 50 _ a k d = _
    unfold st_106_4 wtT
    rw [if_pos (by omega), show (50 : Int) + 5 = 55 by decide, show (50 : Int) + 4 = 54 by decide, show (50 : Int) + 3 = 53 by decide, t5, t3, t4]
    by_cases c1 : w (452 + 24 * k + 4) = 1
    · rw [if_pos c1, if_pos c1]
    · rw [if_neg c1, if_neg c1]
theorem l259 {D : mD} : ∀ (n : Nat) (a c k : Int), 0 ≤ k → k ≤ D 770 9 → D 770 9 - k ≤ (n : Int) → (lp_259_11 769 n a c k D).1 = (fun a c => if c = 0 then (0 : Int) else mddiv (mi2d a) (mi2d c)) (a + (csum (wtT (D 770)) (D 770 9).toNat - csum (wtT (D 770)) k.toNat)) (c + (csum (fun t => if D 770 (452 + 24 * t + 4) = 1 then 1 else 0) (D 770 9).toNat - csum (fun t => if D 770 (452 + 24 * t + 4) = 1 then 1 else 0) k.toNat)) := by
  have last : ∀ (r : Int → Int → Int → mD → Int × mD) (a c k : Int), k = D 770 9 → (st_259_11 769 r a c k D).1 = (fun a c => if c = 0 then (0 : Int) else mddiv (mi2d a) (mi2d c)) (a + (csum (wtT (D 770)) (D 770 9).toNat - csum (wtT (D 770)) k.toNat)) (c + (csum (fun t => if D 770 (452 + 24 * t + 4) = 1 then 1 else 0) (D 770 9).toNat - csum (fun t => if D 770 (452 + 24 * t + 4) = 1 then 1 else 0) k.toNat)) := fun r a c k hk => by
    unfold st_259_11
    rw [n7691, if_neg (by omega), hk, Int.sub_self, Int.sub_self, Int.add_zero, Int.add_zero]
    by_cases z : c = 0
    · rw [if_pos z]
      show (0 : Int) = if c = 0 then 0 else _
      rw [if_pos z]
    · rw [if_neg z]
      show mddiv (mi2d a) (mi2d c) = if c = 0 then 0 else _
      rw [if_neg z]
  intro n
  induction n with
  | zero =>
    intro a c k h0 h1 h2
    exact last _ a c k (by omega)
  | succ n ih =>
    intro a c k h0 h1 h2
    by_cases q : k < D 770 9
    · have st : lp_259_11 769 (n + 1) a c k D = lp_259_11 769 n (a + wtT (D 770) k) (c + (if D 770 (452 + 24 * k + 4) = 1 then 1 else 0)) (k + 1) D := by
        show st_259_11 769 _ a c k D = _
        unfold st_259_11 wtT
        rw [n7691, if_pos q]
        by_cases z : D 770 (452 + 24 * k + 4) = 1
        · rw [if_pos z, if_pos z, if_pos z]
        · rw [if_neg z, if_neg z, if_neg z, Int.add_zero, Int.add_zero]
      rw [st, ih _ _ _ (by omega) (by omega) (by omega), csum_s _ h0, csum_s _ h0]
      generalize (if D 770 (452 + 24 * k + 4) = 1 then (1 : Int) else 0) = z
      generalize wtT (D 770) k = y
      congr 1 <;> omega
    · exact last _ a c k (by omega)
theorem eqMean {d : mD} (hk : OKR 1 d (d 770)) : v_138 0 d = v_259 769 d := by
  obtain ⟨hg, -, -, -, hr⟩ := id hk
  have n9 := hg.1.2.2.1
  have h70 : mset d 769 0 0 770 = d 770 := o769 (by decide)
  have l := l259 (D := mset d 769 0 0) (61 - 0 : Int).toNat 0 0 0 (by decide) (by rw [h70]; exact n9.1) (by rw [h70]; omega)
  have ev : v_259 769 d = (lp_259_11 769 (61 - 0 : Int).toNat 0 0 0 (mset d 769 0 0)).1 := rfl
  rw [ev]
  generalize (lp_259_11 769 (61 - 0 : Int).toNat 0 0 0 (mset d 769 0 0)).1 = P at *
  rw [h70, show csum (wtT (d 770)) (0 : Int).toNat = 0 from rfl, show csum (fun t => if d 770 (452 + 24 * t + 4) = 1 then 1 else 0) (0 : Int).toNat = 0 from rfl, Int.sub_zero, Int.sub_zero, Int.zero_add, Int.zero_add] at l
  unfold v_138
  rw [n01, n49, v101 (q := 1) hg hr, v106 hg hr, l]
/-! ===== queries: the hours that were lost ===== -/
def hb (d : mD) (h : Int) : Prop := lb (d 575 (h / 64)) (h % 64).toNat = true
def Lw (w : Row) (p h : Int) : Prop := ∃ t, 0 ≤ t ∧ t < w 9 ∧ w (452 + 24 * t + 0) = p ∧ w (452 + 24 * t + 4) = 1 ∧ w (452 + 24 * t + 2) + w 2 ≤ h ∧ h < w (452 + 24 * t + 3)
theorem hb7 {d : mD} {h j : Int} (h0 : 0 ≤ h) (h1 : h ≤ 999) (j0 : 0 ≤ j) (j1 : j ≤ 1023) : hb (g_7 574 h d) j ↔ (hb d j ∨ j = h) := by
  have e6 : mishr h 6 = h / 64 := by rcases mishr6_r h with a | a | a <;> omega
  have eg : g_7 574 h d = mset d 575 (h / 64) (mlor (d 575 (h / 64)) (mlshl 1 (((h % 64).toNat : Nat) : Int))) := by
    unfold g_7
    rw [if_neg (by omega), if_neg (by omega), e6, h63 h0 (by omega), show (((h % 64).toNat : Nat) : Int) = h % 64 by omega, show (574 : Int) + 1 = 575 by decide]
  unfold hb
  rw [eg]
  by_cases hw : j / 64 = h / 64
  · rw [hw, ms_e rfl rfl, lset _ _ _ (by omega) (by omega)]
    by_cases hj : j = h
    · subst hj
      rw [if_pos rfl]
      exact ⟨fun _ => Or.inr rfl, fun _ => rfl⟩
    · rw [if_neg (show ¬ (j % 64).toNat = (h % 64).toNat by omega)]
      exact ⟨Or.inl, fun z => z.resolve_right hj⟩
  · rw [ms_i hw]
    exact ⟨Or.inl, fun z => z.resolve_right (fun e => hw (by rw [e]))⟩
theorem in72 {p t z : Int} {q : Int → mD → mD} (hz : z ≤ 999) : ∀ (n : Nat) (x : Int) (d : mD), 0 ≤ x → z - x ≤ (n : Int) → ∃ D, lp_72_72 1 p 574 q n t z x d = q (t + 1) D ∧ (∀ b, ¬ b = 575 → D b = d b) ∧ ∀ j, 0 ≤ j → j ≤ 1023 → (hb D j ↔ (hb d j ∨ (x ≤ j ∧ j < z))) := by
  have last : ∀ (r : Int → Int → Int → mD → mD) (x : Int) (d : mD), ¬ x < z → ∃ D, st_72_72 1 p 574 q r t z x d = q (t + 1) D ∧ (∀ b, ¬ b = 575 → D b = d b) ∧ ∀ j, 0 ≤ j → j ≤ 1023 → (hb D j ↔ (hb d j ∨ (x ≤ j ∧ j < z))) := fun r x d hx => by
    refine ⟨d, ?_, fun _ _ => rfl, fun j a b => ⟨Or.inl, fun y => ?_⟩⟩
    · unfold st_72_72
      rw [if_neg hx]
    · rcases y with y | y
      · exact y
      · omega
  intro n
  induction n with
  | zero =>
    intro x d h0 h1
    exact last _ x d (by omega)
  | succ n ih =>
    intro x d h0 h1
    by_cases c : x < z
    · obtain ⟨D, q1, q2, q3⟩ := ih (x + 1) (g_7 574 x d) (by omega) (by omega)
      refine ⟨D, ?_, fun b hb => (q2 b hb).trans (g7_ne hb), fun j a b => (q3 j a b).trans ?_⟩
      · show st_72_72 1 p 574 q _ t z x d = _
        unfold st_72_72
        rw [if_pos c]
        exact q1
      · rw [hb7 h0 (by omega) a b]
        constructor
        · rintro ((y | y) | y)
          · exact Or.inl y
          · exact Or.inr (by omega)
          · exact Or.inr (by omega)
        · rintro (y | y)
          · exact Or.inl (Or.inl y)
          · by_cases e : j = x
            · exact Or.inl (Or.inr e)
            · exact Or.inr (by omega)
    · exact last _ x d c
theorem lp72 {d : mD} {w : Row} {p : Int} (hg : GG w) (ht : w 0 ≤ 999) (hr : Rel 1 d w) : ∀ (n : Nat) (k : Int) (D : mD), (∀ b, ¬ b = 575 → D b = d b) → 0 ≤ k → k ≤ w 9 → w 9 - k ≤ (n : Int) → (∀ b, ¬ b = 575 → lp_72_6 1 p 574 n k D b = d b) ∧ ∀ j, 0 ≤ j → j ≤ 1023 → (hb (lp_72_6 1 p 574 n k D) j ↔ (hb D j ∨ ∃ t, k ≤ t ∧ t < w 9 ∧ w (452 + 24 * t + 0) = p ∧ w (452 + 24 * t + 4) = 1 ∧ w (452 + 24 * t + 2) + w 2 ≤ j ∧ j < w (452 + 24 * t + 3))) := by
  have s2 : d 2 0 = w 2 := hr.1.2.2 0 (by decide) (by decide)
  obtain ⟨r1, r2⟩ := hr.2.2.2.2.1
  have r1 : d 50 0 = w 9 := r1
  have n2 := hg.1.2.2.2.2.2.2.2.1
  have last : ∀ (r : Int → mD → mD) (k : Int) (D : mD), (∀ b, ¬ b = 575 → D b = d b) → k = w 9 → (∀ b, ¬ b = 575 → st_72_6 1 p 574 r k D b = d b) ∧ ∀ j, 0 ≤ j → j ≤ 1023 → (hb (st_72_6 1 p 574 r k D) j ↔ (hb D j ∨ ∃ t, k ≤ t ∧ t < w 9 ∧ w (452 + 24 * t + 0) = p ∧ w (452 + 24 * t + 4) = 1 ∧ w (452 + 24 * t + 2) + w 2 ≤ j ∧ j < w (452 + 24 * t + 3))) := fun r k D hD hk => by
    have e : st_72_6 1 p 574 r k D = D := by
      unfold st_72_6
      rw [n49, hD 50 (by decide), if_neg (by omega)]
    rw [e]
    refine ⟨hD, fun j _ _ => ⟨Or.inl, fun y => ?_⟩⟩
    rcases y with y | ⟨t, a, b, -⟩
    · exact y
    · omega
  intro n
  induction n with
  | zero =>
    intro k D hD h0 h1 h2
    exact last _ k D hD (by omega)
  | succ n ih =>
    intro k D hD h0 h1 h2
    by_cases c : k < w 9
    · obtain ⟨t1, t2, t3, t4, t5⟩ := r2 k h0 c
      have t1 : d 51 k = w (452 + 24 * k + 0) := t1
      have t3 : d 53 k = w (452 + 24 * k + 2) := t3
      have t4 : d 54 k = w (452 + 24 * k + 3) := t4
      have t5 : d 55 k = w (452 + 24 * k + 4) := t5
      obtain ⟨g1, g2, g3, g4, g5, g6⟩ := hg.2.2.2.1 k h0 c
      have skip : lp_72_6 1 p 574 (n + 1) k D = lp_72_6 1 p 574 n (k + 1) D → ¬ (w (452 + 24 * k + 0) = p ∧ w (452 + 24 * k + 4) = 1) → (∀ b, ¬ b = 575 → lp_72_6 1 p 574 (n + 1) k D b = d b) ∧ ∀ j, 0 ≤ j → j ≤ 1023 → (hb (lp_72_6 1 p 574 (n + 1) k D) j ↔ (hb D j ∨ ∃ t, k ≤ t ∧ t < w 9 ∧ w (452 + 24 * t + 0) = p ∧ w (452 + 24 * t + 4) = 1 ∧ w (452 + 24 * t + 2) + w 2 ≤ j ∧ j < w (452 + 24 * t + 3))) := fun e no => by
        rw [e]
        obtain ⟨i1, i2⟩ := ih (k + 1) D hD (by omega) (by omega) (by omega)
        refine ⟨i1, fun j a b => (i2 j a b).trans ⟨fun y => ?_, fun y => ?_⟩⟩
        · rcases y with y | ⟨t, y1, y2⟩
          · exact Or.inl y
          · exact Or.inr ⟨t, by omega, y2⟩
        · rcases y with y | ⟨t, y1, y2, y3, y4, y5⟩
          · exact Or.inl y
          · by_cases z : t = k
            · rw [z] at y3 y4
              exact absurd ⟨y3, y4⟩ no
            · exact Or.inr ⟨t, by omega, y2, y3, y4, y5⟩
      by_cases c1 : w (452 + 24 * k + 0) = p
      · by_cases c2 : w (452 + 24 * k + 4) = 1
        · obtain ⟨G5, G6⟩ := g6 (by omega)
          obtain ⟨D1, q1, q2, q3⟩ := in72 (p := p) (t := k) (z := w (452 + 24 * k + 3)) (q := lp_72_6 1 p 574 n) (by omega) (1300 - (w (452 + 24 * k + 2) + w 2) : Int).toNat (w (452 + 24 * k + 2) + w 2) D (by omega) (by omega)
          have st : lp_72_6 1 p 574 (n + 1) k D = lp_72_6 1 p 574 n (k + 1) D1 := by
            rw [← q1]
            show st_72_6 1 p 574 _ k D = _
            unfold st_72_6
            rw [n49, show (50 : Int) + 1 = 51 by decide, show (50 : Int) + 5 = 55 by decide, show (50 : Int) + 3 = 53 by decide, show (50 : Int) + 4 = 54 by decide, show (1 : Int) + 1 = 2 by decide, hD 50 (by decide), hD 51 (by decide), hD 55 (by decide), hD 53 (by decide), hD 54 (by decide), hD 2 (by decide), if_pos (by omega), t1, if_pos c1, t5, if_pos c2, t3, t4, s2]
          rw [st]
          obtain ⟨i1, i2⟩ := ih (k + 1) D1 (fun b hb => (q2 b hb).trans (hD b hb)) (by omega) (by omega) (by omega)
          refine ⟨i1, fun j a b => (i2 j a b).trans ?_⟩
          rw [q3 j a b]
          constructor
          · rintro ((y | y) | ⟨t, y1, y2⟩)
            · exact Or.inl y
            · exact Or.inr ⟨k, by omega, c, c1, c2, y⟩
            · exact Or.inr ⟨t, by omega, y2⟩
          · rintro (y | ⟨t, y1, y2, y3, y4, y5⟩)
            · exact Or.inl (Or.inl y)
            · by_cases z : t = k
              · rw [z] at y5
                exact Or.inl (Or.inr y5)
              · exact Or.inr ⟨t, by omega, y2, y3, y4, y5⟩
        · refine skip ?_ (fun y => c2 y.2)
          show st_72_6 1 p 574 _ k D = _
          unfold st_72_6
          rw [n49, show (50 : Int) + 1 = 51 by decide, show (50 : Int) + 5 = 55 by decide, hD 50 (by decide), hD 51 (by decide), hD 55 (by decide), if_pos (by omega), t1, if_pos c1, t5, if_neg c2]
      · refine skip ?_ (fun y => c1 y.1)
        show st_72_6 1 p 574 _ k D = _
        unfold st_72_6
        rw [n49, show (50 : Int) + 1 = 51 by decide, hD 50 (by decide), hD 51 (by decide), if_pos (by omega), t1, if_neg c1]
    · exact last _ k D hD (by omega)
theorem lost72 {d : mD} {w : Row} {p : Int} (hg : GG w) (ht : w 0 ≤ 999) (hr : Rel 1 d w) : (∀ b, ¬ b = 575 → g_72 1 p 574 d b = d b) ∧ ∀ j, 0 ≤ j → j ≤ 1023 → (hb (g_72 1 p 574 d) j ↔ Lw w p j) := by
  have n9 := hg.1.2.2.1
  have z : ∀ b, ¬ b = 575 → g_8 574 d b = d b := fun b hb => by
    unfold g_8 g_300
    exact mfl_ne hb
  have z0 : ∀ j, 0 ≤ j → j ≤ 1023 → ¬ hb (g_8 574 d) j := fun j a b => by
    unfold hb g_8 g_300 mfl
    rw [show (574 : Int) + 1 = 575 by decide, if_pos ⟨rfl, by omega, by omega⟩, lb_zero]
    decide
  obtain ⟨q1, q2⟩ := lp72 (p := p) hg ht hr (60 - 0 : Int).toNat 0 (g_8 574 d) z (by decide) n9.1 (by omega)
  refine ⟨q1, fun j a b => (q2 j a b).trans ⟨fun y => ?_, fun y => Or.inr y⟩⟩
  rcases y with y | y
  · exact absurd y (z0 j a b)
  · exact y
theorem lpV243 {p h : Int} {w : Row} (hg : GG w) : ∀ (n : Nat) (k : Int), 0 ≤ k → w 9 - k ≤ (n : Int) → (LP_243_2 p h n k w = 0 ↔ ¬ ∃ t, k ≤ t ∧ t < w 9 ∧ w (452 + 24 * t + 0) = p ∧ w (452 + 24 * t + 4) = 1 ∧ w (452 + 24 * t + 2) + w 2 ≤ h ∧ h < w (452 + 24 * t + 3)) := by
  have last : ∀ (r : Int → Row → Int) (k : Int), ¬ k < w 9 → (ST_243_2 p h r k w = 0 ↔ ¬ ∃ t, k ≤ t ∧ t < w 9 ∧ w (452 + 24 * t + 0) = p ∧ w (452 + 24 * t + 4) = 1 ∧ w (452 + 24 * t + 2) + w 2 ≤ h ∧ h < w (452 + 24 * t + 3)) := fun r k hk => by
    unfold ST_243_2
    rw [if_neg hk]
    exact ⟨fun _ ⟨t, a, b, _⟩ => by omega, fun _ => rfl⟩
  intro n
  induction n with
  | zero => exact fun k h0 h1 => last _ k (by omega)
  | succ n ih =>
    intro k h0 h1
    by_cases c : k < w 9
    · have skip : LP_243_2 p h (n + 1) k w = LP_243_2 p h n (k + 1) w → ¬ (w (452 + 24 * k + 0) = p ∧ w (452 + 24 * k + 4) = 1 ∧ w (452 + 24 * k + 2) + w 2 ≤ h ∧ h < w (452 + 24 * k + 3)) → (LP_243_2 p h (n + 1) k w = 0 ↔ ¬ ∃ t, k ≤ t ∧ t < w 9 ∧ w (452 + 24 * t + 0) = p ∧ w (452 + 24 * t + 4) = 1 ∧ w (452 + 24 * t + 2) + w 2 ≤ h ∧ h < w (452 + 24 * t + 3)) := fun e no => by
        rw [e]
        refine (ih (k + 1) (by omega) (by omega)).trans ⟨fun y ⟨t, y1, y2⟩ => ?_, fun y ⟨t, y1, y2⟩ => y ⟨t, by omega, y2⟩⟩
        by_cases z : t = k
        · rw [z] at y2
          exact no y2.2
        · exact y ⟨t, by omega, y2⟩
      obtain ⟨g1, g2, g3, g4, g5, g6⟩ := hg.2.2.2.1 k h0 c
      by_cases c1 : w (452 + 24 * k + 0) = p
      · by_cases c2 : w (452 + 24 * k + 4) = 1
        · obtain ⟨G5, G6⟩ := g6 (by omega)
          have e214 : V_214 k h w = if w (452 + 24 * k + 2) + w 2 ≤ h ∧ h < w (452 + 24 * k + 3) then 1 else 0 := by
            unfold V_214 V_212
            rw [if_neg (show ¬ w (452 + 24 * k + 3) = -1 by omega)]
            by_cases z1 : h < w (452 + 24 * k + 2) + w 2
            · rw [if_pos z1, if_neg (fun y => by omega)]
            · rw [if_neg z1]
              by_cases z2 : h < w (452 + 24 * k + 3)
              · rw [if_pos z2, if_pos ⟨by omega, z2⟩]
              · rw [if_neg z2, if_neg (fun y => z2 y.2)]
          by_cases c3 : w (452 + 24 * k + 2) + w 2 ≤ h ∧ h < w (452 + 24 * k + 3)
          · have e : LP_243_2 p h (n + 1) k w = 1 := by
              show ST_243_2 p h _ k w = 1
              unfold ST_243_2
              rw [if_pos c, if_pos c1, if_pos c2, e214, if_pos c3, if_neg (by decide)]
            rw [e]
            exact ⟨fun z => absurd z (by decide), fun z => absurd ⟨k, by omega, c, c1, c2, c3⟩ z⟩
          · refine skip ?_ (fun y => c3 y.2.2)
            show ST_243_2 p h _ k w = _
            unfold ST_243_2
            rw [if_pos c, if_pos c1, if_pos c2, e214, if_neg c3, if_pos rfl]
        · refine skip ?_ (fun y => c2 y.2.1)
          show ST_243_2 p h _ k w = _
          unfold ST_243_2
          rw [if_pos c, if_pos c1, if_neg c2]
      · refine skip ?_ (fun y => c1 y.1)
        show ST_243_2 p h _ k w = _
        unfold ST_243_2
        rw [if_pos c, if_neg c1]
    · exact last _ k c
theorem v243 {p h : Int} {w : Row} (hg : GG w) : V_243 p h w = 0 ↔ ¬ Lw w p h := lpV243 hg (61 - 0 : Int).toNat 0 (by decide) (by have := hg.1.2.2.1; omega)
def fL (p q : Int) (w : Row) (h : Int) : Int := if V_243 p h w = 0 then 0 else if q = 0 then 1 else if V_216 p h w = 0 then 1 else 0
theorem v244 {p q : Int} {w : Row} (hg : GG w) : V_244 p q w = csum (fL p q w) (w 0).toNat := by
  have n0 := hg.1.2.2.2.2.2.1
  unfold V_244
  refine cnt0 (L := fun n a k => LP_244_5 p q n a k w) n0.1 (by omega) (fun n a k hk => ?_) (fun n a k x y => ?_)
  · cases n with
    | zero =>
      show ST_244_5 p q _ a k w = a
      unfold ST_244_5
      rw [if_neg (by omega)]
    | succ n =>
      show ST_244_5 p q _ a k w = a
      unfold ST_244_5
      rw [if_neg (by omega)]
  · show ST_244_5 p q _ a k w = _
    unfold ST_244_5 fL
    rw [if_pos y]
    by_cases c1 : V_243 p k w = 0
    · rw [if_pos c1, if_pos c1]
    · rw [if_neg c1, if_neg c1]
      by_cases c2 : q = 0
      · rw [if_pos c2, if_pos c2]
      · rw [if_neg c2, if_neg c2]
        by_cases c3 : V_216 p k w = 0
        · rw [if_pos c3, if_pos c3]
        · rw [if_neg c3, if_neg c3]
-- sums
theorem csum_ad (f : Int → Int) (a : Nat) : ∀ b : Nat, csum f (a + b) = csum f a + csum (fun i => f ((a : Int) + i)) b
  | 0 => by show csum f a = csum f a + 0; omega
  | b + 1 => by
    show csum f (a + b) + f ((a + b : Nat) : Int) = csum f a + (csum (fun i => f ((a : Int) + i)) b + f ((a : Int) + (b : Int)))
    rw [csum_ad f a b, show ((a + b : Nat) : Int) = (a : Int) + (b : Int) by omega]
    omega
theorem csum_blk (f : Int → Int) (m : Nat) : ∀ n : Nat, csum (fun j => csum (fun i => f ((m : Int) * j + i)) m) n = csum f (m * n)
  | 0 => rfl
  | n + 1 => by
    show csum (fun j => csum (fun i => f ((m : Int) * j + i)) m) n + csum (fun i => f ((m : Int) * (n : Int) + i)) m = csum f (m * n + m)
    rw [csum_blk f m n, csum_ad f (m * n) m]
    congr 2
theorem csum_cut {f : Int → Int} {a n : Nat} (h : a ≤ n) (hz : ∀ i : Int, (a : Int) ≤ i → i < (n : Int) → f i = 0) : csum f n = csum f a := by
  obtain ⟨b, rfl⟩ := Nat.exists_eq_add_of_le h
  rw [csum_ad, csum_zero (f := fun i => f ((a : Int) + i)) (n := b) (fun i x y => hz _ (by omega) (by omega)), Int.add_zero]
theorem bcs (M : Nat) : bc8 (M % 256) = M % 2 + M / 2 % 2 + M / 4 % 2 + M / 8 % 2 + M / 16 % 2 + M / 32 % 2 + M / 64 % 2 + M / 128 % 2 := by
  have l : ∀ k m : Nat, k * m = 128 → M % 256 / k % 2 = M / k % 2 := fun k m hk => by
    have : 256 = k * (m * 2) := by rw [← Nat.mul_assoc, hk]
    rw [this, Nat.mod_mul_right_div_self, Nat.mod_mul_left_mod]
  unfold bc8
  rw [l 2 64 rfl, l 4 32 rfl, l 8 16 rfl, l 16 8 rfl, l 32 4 rfl, l 64 2 rfl, l 128 1 rfl, show M % 256 % 2 = M % 2 by omega]
def bitN (N : Nat) (i : Int) : Int := ((N / 2 ^ i.toNat % 2 : Nat) : Int)
theorem bit8 (N k : Nat) : csum (fun i => bitN N (((8 * k : Nat) : Int) + i)) 8 = ((bc8 (N / 2 ^ (8 * k) % 256) : Nat) : Int) := by
  have e : ∀ i : Nat, bitN N (((8 * k : Nat) : Int) + ((i : Nat) : Int)) = ((N / 2 ^ (8 * k) / 2 ^ i % 2 : Nat) : Int) := fun i => by
    unfold bitN
    rw [show (((8 * k : Nat) : Int) + ((i : Nat) : Int)).toNat = 8 * k + i by omega, Nat.pow_add, Nat.div_div_eq_div_mul]
  have s : csum (fun i => bitN N (((8 * k : Nat) : Int) + i)) 8 = 0 + bitN N (((8 * k : Nat) : Int) + ((0 : Nat) : Int)) + bitN N (((8 * k : Nat) : Int) + ((1 : Nat) : Int)) + bitN N (((8 * k : Nat) : Int) + ((2 : Nat) : Int)) + bitN N (((8 * k : Nat) : Int) + ((3 : Nat) : Int)) + bitN N (((8 * k : Nat) : Int) + ((4 : Nat) : Int)) + bitN N (((8 * k : Nat) : Int) + ((5 : Nat) : Int)) + bitN N (((8 * k : Nat) : Int) + ((6 : Nat) : Int)) + bitN N (((8 * k : Nat) : Int) + ((7 : Nat) : Int)) := rfl
  rw [s, e 0, e 1, e 2, e 3, e 4, e 5, e 6, e 7, bcs]
  generalize N / 2 ^ (8 * k) = M
  rw [show (2 : Nat) ^ 0 = 1 from rfl, show (2 : Nat) ^ 1 = 2 from rfl, show (2 : Nat) ^ 2 = 4 from rfl, show (2 : Nat) ^ 3 = 8 from rfl, show (2 : Nat) ^ 4 = 16 from rfl, show (2 : Nat) ^ 5 = 32 from rfl, show (2 : Nat) ^ 6 = 64 from rfl, show (2 : Nat) ^ 7 = 128 from rfl, Nat.div_one]
  simp only [Int.natCast_add, Int.zero_add]
theorem bit64 (N : Nat) : csum (bitN N) 64 = ((bc8 (N % 256) + bc8 (N / 256 % 256) + bc8 (N / 65536 % 256) + bc8 (N / 16777216 % 256) + bc8 (N / 4294967296 % 256) + bc8 (N / 1099511627776 % 256) + bc8 (N / 281474976710656 % 256) + bc8 (N / 72057594037927936 % 256) : Nat) : Int) := by
  have st : ∀ k : Nat, csum (bitN N) (8 * k + 8) = csum (bitN N) (8 * k) + ((bc8 (N / 2 ^ (8 * k) % 256) : Nat) : Int) := fun k => by rw [csum_ad, bit8]
  rw [show (64 : Nat) = 8 * 7 + 8 from rfl, st 7, show 8 * 7 = 8 * 6 + 8 from rfl, st 6, show 8 * 6 = 8 * 5 + 8 from rfl, st 5, show 8 * 5 = 8 * 4 + 8 from rfl, st 4, show 8 * 4 = 8 * 3 + 8 from rfl, st 3, show 8 * 3 = 8 * 2 + 8 from rfl, st 2, show 8 * 2 = 8 * 1 + 8 from rfl, st 1, show 8 * 1 = 8 * 0 + 8 from rfl, st 0]
  show 0 + ((bc8 (N / 1 % 256) : Nat) : Int) + _ + _ + _ + _ + _ + _ + _ = _
  rw [Nat.div_one]
  simp only [Int.natCast_add, Int.zero_add]
theorem lbN (W : Int) (i : Int) : (if lb W i.toNat = true then (1 : Int) else 0) = bitN (n64 W) i := by
  have e : lb W i.toNat = (n64 W).testBit i.toNat := rfl
  unfold bitN
  rw [e, Nat.testBit_eq_decide_div_mod_eq]
  by_cases c : n64 W / 2 ^ i.toNat % 2 = 1
  · rw [if_pos (decide_eq_true c), c]
    rfl
  · rw [if_neg (by rw [decide_eq_false c]; decide)]
    have : n64 W / 2 ^ i.toNat % 2 = 0 := by omega
    rw [this]
    rfl
theorem v297 (x : Int) (d : mD) : v_297 x d = csum (fun i => if lb x i.toNat = true then 1 else 0) 64 := by
  rw [v297n, ← bit64]
  exact congrArg (fun f => csum f 64) (funext (fun i => (lbN x i).symm))
-- the class's two counts
theorem v9s {d : mD} : v_9 574 d = csum (fun h => if lb (d 575 (h / 64)) (h % 64).toNat = true then 1 else 0) 1024 := by
  have e : v_9 574 d = csum (fun j => v_297 (d 575 j) d) 16 := by
    unfold v_9
    refine cnt0 (N := 16) (L := fun n a k => lp_9_4 574 n a k d) (by decide) (by decide) (fun n a k hk => ?_) (fun n a k x y => ?_)
    · cases n with
      | zero =>
        show st_9_4 574 _ a k d = a
        unfold st_9_4
        rw [if_neg (by omega)]
      | succ n =>
        show st_9_4 574 _ a k d = a
        unfold st_9_4
        rw [if_neg (by omega)]
    · show st_9_4 574 _ a k d = _
      unfold st_9_4
      rw [if_pos y, show (574 : Int) + 1 = 575 by decide]
  rw [e, ← csum_blk (fun h => if lb (d 575 (h / 64)) (h % 64).toNat = true then 1 else 0) 64 16]
  refine csum_congr (fun j x y => ?_)
  rw [v297]
  refine csum_congr (fun i u z => ?_)
  rw [show (((64 : Nat) : Int) * j + i) / 64 = j by omega, show (((64 : Nat) : Int) * j + i) % 64 = i by omega]
theorem lbAN {a b : Int} {i : Nat} (h : i < 64) : lb (mland a (mlxor b (-1))) i = (lb a i && !lb b i) := by
  unfold mland mlxor mJ lb
  rw [m_backL, m_backL, Int64.toBitVec_and, Int64.toBitVec_xor, BitVec.getLsbD_and, BitVec.getLsbD_xor]
  have : (Int64.ofInt (-1)).toBitVec.getLsbD i = true := by
    show (BitVec.ofInt 64 (-1)).getLsbD i = true
    have e : BitVec.ofInt 64 (-1) = BitVec.allOnes 64 := by decide
    rw [e, BitVec.getLsbD_allOnes]
    exact decide_eq_true h
  rw [this]
  cases (Int64.ofInt b).toBitVec.getLsbD i <;> rfl
theorem v10s {d : mD} {y : Int} : v_10 574 y d = csum (fun h => if lb (d 575 (h / 64)) (h % 64).toNat = true ∧ ¬ lb (d (y + 1) (h / 64)) (h % 64).toNat = true then 1 else 0) 1024 := by
  have e : v_10 574 y d = csum (fun j => v_297 (mland (d 575 j) (mlxor (d (y + 1) j) (-1))) d) 16 := by
    unfold v_10
    refine cnt0 (N := 16) (L := fun n a k => lp_10_4 574 y n a k d) (by decide) (by decide) (fun n a k hk => ?_) (fun n a k x y => ?_)
    · cases n with
      | zero =>
        show st_10_4 574 y _ a k d = a
        unfold st_10_4
        rw [if_neg (by omega)]
      | succ n =>
        show st_10_4 574 y _ a k d = a
        unfold st_10_4
        rw [if_neg (by omega)]
    · rename_i y1
      show st_10_4 574 y1 _ a k d = _
      unfold st_10_4
      rw [if_pos y, show (574 : Int) + 1 = 575 by decide]
  rw [e, ← csum_blk (fun h => if lb (d 575 (h / 64)) (h % 64).toNat = true ∧ ¬ lb (d (y + 1) (h / 64)) (h % 64).toNat = true then 1 else 0) 64 16]
  refine csum_congr (fun j x y => ?_)
  rw [v297]
  refine csum_congr (fun i u z => ?_)
  rw [show (((64 : Nat) : Int) * j + i) / 64 = j by omega, show (((64 : Nat) : Int) * j + i) % 64 = i by omega, lbAN (by omega)]
  rename_i y1
  cases lb (d 575 j) i.toNat <;> cases lb (d (y1 + 1) j) i.toNat <;> rfl
theorem lostAll {d : mD} {p : Int} (hk : OKR 1 d (d 770)) : v_9 574 (g_72 1 p 574 d) = V_244 p 0 (d 770) := by
  obtain ⟨hg, -, -, ht, hr⟩ := hk
  obtain ⟨q1, q2⟩ := lost72 (p := p) hg ht hr
  have n0 := hg.1.2.2.2.2.2.1
  rw [v9s, v244 hg, csum_cut (a := (d 770 0).toNat) (by omega) (fun i x y => ?_)]
  · refine csum_congr (fun i x y => ?_)
    have h := q2 i x (by omega)
    unfold hb at h
    unfold fL
    by_cases c : V_243 p i (d 770) = 0
    · rw [if_pos c, if_neg (fun z => (v243 hg).mp c (h.mp z))]
    · rw [if_neg c, if_pos rfl, if_pos (h.mpr (Classical.not_not.mp (fun z => c ((v243 hg).mpr z))))]
  · have h := q2 i (by omega) (by omega)
    unfold hb at h
    rw [if_neg (fun z => ?_)]
    obtain ⟨t, a, b, c1, c2, c3, c4⟩ := h.mp z
    have := (hg.2.2.2.1 t a b).2.2.2.2.2 (by omega)
    omega
theorem lostUn {d : mD} {p : Int} (hk : OKR 1 d (d 770)) (hp : 0 ≤ p ∧ p < d 770 8) : v_10 574 (18 + 2 * p) (g_72 1 p 574 d) = V_244 p 1 (d 770) := by
  obtain ⟨hg, -, -, ht, hr⟩ := hk
  have n8 := hg.1.2.1
  obtain ⟨q1, q2⟩ := lost72 (p := p) hg ht hr
  have n0 := hg.1.2.2.2.2.2.1
  rw [v10s, v244 hg, q1 (18 + 2 * p + 1) (by omega), csum_cut (a := (d 770 0).toNat) (by omega) (fun i x y => ?_)]
  · refine csum_congr (fun i x y => ?_)
    have h := q2 i x (by omega)
    have hH := hr.2.2.2.2.2.2.2.2.2 p hp.1 hp.2 i x (by omega)
    rw [show (1 : Int) + 18 + 2 * p = 18 + 2 * p + 1 by omega] at hH
    obtain ⟨f1, f2⟩ := v216 (p := p) (h := i) hg.1.2.2.2.1
    unfold hb at h
    unfold fL
    by_cases c : V_243 p i (d 770) = 0
    · rw [if_pos c, if_neg (fun z => (v243 hg).mp c (h.mp z.1))]
    · have l := h.mpr (Classical.not_not.mp (fun z => c ((v243 hg).mpr z)))
      rw [if_neg c, if_neg (show ¬ (1 : Int) = 0 by decide)]
      by_cases c2 : V_216 p i (d 770) = 0
      · rw [if_pos c2, if_pos ⟨l, fun z => f2.mp c2 (hH.mp z)⟩]
      · rw [if_neg c2, if_neg (fun z => z.2 (hH.mpr (Classical.not_not.mp (fun y => c2 (f2.mpr y)))))]
  · have h := q2 i (by omega) (by omega)
    unfold hb at h
    rw [if_neg (fun z => ?_)]
    obtain ⟨t, a, b, c1, c2, c3, c4⟩ := h.mp z.1
    have := (hg.2.2.2.1 t a b).2.2.2.2.2 (by omega)
    omega
/-! ===== queries: person, repaid, unluckiest ===== -/
theorem ok575 {d D : mD} {w : Row} (hk : OKR 1 d w) (hD : ∀ b, ¬ b = 575 → D b = d b) : OKR 1 D w := hk.fr (fun b x y => hD b (by omega))
theorem f72 {d : mD} {p : Int} (hk : OKR 1 d (d 770)) : ∀ b, ¬ b = 575 → g_72 1 p 574 d b = d b := (lost72 hk.1 hk.2.2.2.1 hk.2.2.2.2).1
theorem fin246r {p b : Int} {D : mD} (hg : GG (D 770)) : lp_246_50 769 p b (61 - 0 : Int).toNat 0 0 0 D = (fin246 p b (csum (fun t => if D 770 (452 + 24 * t + 0) = p then 1 else 0) (D 770 9).toNat) (csum (fun t => if D 770 (452 + 24 * t + 0) = p ∧ D 770 (452 + 24 * t + 4) = 0 then 1 else 0) (D 770 9).toNat) (csum (fun k => if perO (D 770) k = p then 1 else 0) (D 770 10).toNat) D, D) := by
  have n9 := hg.1.2.2.1
  obtain ⟨i1, i2⟩ := l246 (p := p) (b := b) (D := D) hg.1.2.2.2.1 (61 - 0 : Int).toNat 0 0 0 (by decide) n9.1 (by omega)
  refine Prod.ext (i2.trans ?_) i1
  rw [show csum (fun t => if D 770 (452 + 24 * t + 0) = p then 1 else 0) (0 : Int).toNat = 0 from rfl, show csum (fun t => if D 770 (452 + 24 * t + 0) = p ∧ D 770 (452 + 24 * t + 4) = 0 then 1 else 0) (0 : Int).toNat = 0 from rfl, Int.sub_zero, Int.sub_zero, Int.zero_add, Int.zero_add]
theorem qpPerson {d : mD} {a b : Int} (hk : OKR 1 d (d 770)) : QP (g_309 0 a b 778 d) (g_246 769 a b (g_309 0 a b 778 d)) (v_309 0 a b 778 d) (v_246 769 a b (g_309 0 a b 778 d)) := by
  obtain ⟨hg, -, -, ht, hr⟩ := id hk
  have o8 : d 11 0 = d 770 8 := hr.2.2.2.1.1
  have n8 := hg.1.2.1
  have n9 := hg.1.2.2.1
  have n10 := hg.1.2.2.2.1
  have n0 := hg.1.2.2.2.2.2.1
  unfold v_309 g_309
  rw [n01, show (1 : Int) + 10 = 11 by decide, n49, n57, show (11 : Int) + 2 = 13 by decide, show (11 : Int) + 3 = 14 by decide, show (11 : Int) + 4 = 15 by decide, show (11 : Int) + 6 = 17 by decide, show (0 : Int) + 574 = 574 by decide, o8, ifR, ifR]
  by_cases c : 0 ≤ a ∧ a < d 770 8
  · rw [if_pos c, if_pos c]
    have v09 : ∀ D, v_176 b 0 9 D = if 0 ≤ b ∧ b ≤ 9 then 1 else 0 := fun D => v176
    -- what the reference answers
    have e : ∀ (d' : mD) (x : Int), (∀ k, ¬ k = 575 → d' k = d k) → 0 ≤ b ∧ b ≤ 9 → g_246 769 a b (mset d' 778 0 x) = mset (mset d' 778 0 x) 769 0 0 ∧ v_246 769 a b (mset d' 778 0 x) = fin246 a b (csum (fun t => if d 770 (452 + 24 * t + 0) = a then 1 else 0) (d 770 9).toNat) (csum (fun t => if d 770 (452 + 24 * t + 0) = a ∧ d 770 (452 + 24 * t + 4) = 0 then 1 else 0) (d 770 9).toNat) (csum (fun k => if perO (d 770) k = a then 1 else 0) (d 770 10).toNat) (mset (mset d' 778 0 x) 769 0 0) := fun d' x hd hb => by
      have h70 : mset d' 778 0 x 770 = d 770 := by rw [o778 (by decide), hd 770 (by decide)]
      have h71 : mset (mset d' 778 0 x) 769 0 0 770 = d 770 := by rw [o769 (by decide), h70]
      have f : f_246 769 a b (mset d' 778 0 x) = lp_246_50 769 a b (61 - 0 : Int).toNat 0 0 0 (mset (mset d' 778 0 x) 769 0 0) := by
        unfold f_246
        rw [v237, h70, if_pos c, v09, if_pos hb, if_neg (by decide), if_neg (by decide)]
      have r := fin246r (p := a) (b := b) (D := mset (mset d' 778 0 x) 769 0 0) (by rw [h71]; exact hg)
      rw [h71] at r
      unfold g_246 v_246
      rw [f, r]
      exact ⟨rfl, rfl⟩
    have f70 : ∀ (d' : mD) (x : Int), (∀ k, ¬ k = 575 → d' k = d k) → mset (mset d' 778 0 x) 769 0 0 770 = d 770 := fun d' x hd => by rw [o769 (by decide), o778 (by decide), hd 770 (by decide)]
    have id0 : ∀ k, ¬ k = 575 → d k = d k := fun _ _ => rfl
    by_cases b0 : b = 0
    · subst b0
      rw [if_pos rfl, if_pos rfl, (e _ _ id0 (by decide)).1, (e _ _ id0 (by decide)).2]
      have t : d 13 a = d 770 (420 + 2 * a + 1) := (hr.2.2.2.1.2 a c.1 c.2).2
      have pu : 0 ≤ d 13 a ∧ d 13 a ≤ 19800 := purse hg hk.2.2.1 hr c.1 c.2
      refine QP.ok ?_ ?_
      · unfold fin246
        rw [if_pos rfl, f70 _ _ id0, t]
      · omega
    rw [if_neg b0, if_neg b0]
    by_cases b1 : b = 1
    · subst b1
      rw [if_pos rfl, if_pos rfl, (e _ _ id0 (by decide)).1, (e _ _ id0 (by decide)).2, v104 hg hr]
      have r := csum_rng (f := fun t => if d 770 (452 + 24 * t + 0) = a then 1 else 0) (n := (d 770 9).toNat) (B := 1) (fun i x y => by split <;> omega)
      refine QP.ok ?_ (by omega)
      rfl
    rw [if_neg b1, if_neg b1]
    by_cases b2 : b = 2
    · subst b2
      rw [if_pos rfl, if_pos rfl, (e _ _ id0 (by decide)).1, (e _ _ id0 (by decide)).2, v105 hg hr]
      have r := csum_rng (f := fun t => if d 770 (452 + 24 * t + 0) = a ∧ d 770 (452 + 24 * t + 4) = 0 then 1 else 0) (n := (d 770 9).toNat) (B := 1) (fun i x y => by split <;> omega)
      refine QP.ok ?_ (by omega)
      rfl
    rw [if_neg b2, if_neg b2]
    have ow : ∀ q, v_111 58 a q d = V_245 a q (d 770) ∧ -100000 ≤ V_245 a q (d 770) ∧ V_245 a q (d 770) ≤ 100000 := fun q => by
      refine ⟨owned (s := 1) hg hr, ?_⟩
      rw [v245 n10]
      have r := csum_rng (f := fun k => if d 770 (1916 + 5 * k + 0) = a ∧ d 770 (1916 + 5 * k + 3) = q then 1 else 0) (n := (d 770 10).toNat) (B := 1) (fun i x y => by split <;> omega)
      omega
    by_cases b3 : b = 3
    · subst b3
      rw [if_pos rfl, if_pos rfl, (e _ _ id0 (by decide)).1, (e _ _ id0 (by decide)).2, (ow 0).1]
      refine QP.ok ?_ (ow 0).2
      show V_245 a 0 (d 770) = v_245 769 a 0 _
      rw [m_v_245, f70 _ _ id0]
    rw [if_neg b3, if_neg b3]
    by_cases b4 : b = 4
    · subst b4
      rw [if_pos rfl, if_pos rfl, (e _ _ id0 (by decide)).1, (e _ _ id0 (by decide)).2, (ow 1).1]
      refine QP.ok ?_ (ow 1).2
      show V_245 a 1 (d 770) = v_245 769 a 1 _
      rw [m_v_245, f70 _ _ id0]
    rw [if_neg b4, if_neg b4]
    by_cases b5 : b = 5
    · subst b5
      rw [if_pos rfl, if_pos rfl, (e _ _ id0 (by decide)).1, (e _ _ id0 (by decide)).2, (ow 2).1]
      refine QP.ok ?_ (ow 2).2
      show V_245 a 2 (d 770) = v_245 769 a 2 _
      rw [m_v_245, f70 _ _ id0]
    rw [if_neg b5, if_neg b5]
    by_cases b6 : b = 6
    · subst b6
      rw [if_pos rfl, if_pos rfl, (e _ _ id0 (by decide)).1, (e _ _ id0 (by decide)).2, v83 hg hr]
      have r := csum_rng (f := fun k => if perO (d 770) k = a then 1 else 0) (n := (d 770 10).toNat) (B := 1) (fun i x y => by split <;> omega)
      refine QP.ok ?_ (by omega)
      rfl
    rw [if_neg b6, if_neg b6]
    have B := hr.2.2.2.2.2.2.2.2.1 a c.1 c.2
    have B7 : d 14 a = madeR (d 770) a := B.1
    have B8 : d 15 a = attR (d 770) a := B.2.1
    by_cases b7 : b = 7
    · subst b7
      rw [if_pos rfl, if_pos rfl, (e _ _ id0 (by decide)).1, (e _ _ id0 (by decide)).2, B7]
      have r := csum_rng (f := fun k => if perO (d 770) k = a ∧ d 770 (1916 + 5 * k + 4) / 20 = d 770 0 / 20 then 1 else 0) (n := (d 770 10).toNat) (B := 1) (fun i x y => by split <;> omega)
      refine QP.ok ?_ (by unfold madeR; omega)
      show madeR (d 770) a = v_217 769 a _
      rw [m_v_217, f70 _ _ id0, v217 n10]
    rw [if_neg b7, if_neg b7]
    by_cases b8 : b = 8
    · subst b8
      rw [if_pos rfl, if_pos rfl, (e _ _ id0 (by decide)).1, (e _ _ id0 (by decide)).2, B8]
      have r := csum_rng (f := fun t => if 0 < d 770 (452 + 24 * t + 8 + a) ∧ (d 770 (452 + 24 * t + 8 + a) - 1) / 20 = d 770 0 / 20 then 1 else 0) (n := (d 770 9).toNat) (B := 1) (fun i x y => by split <;> omega)
      refine QP.ok ?_ (by unfold attR; omega)
      show attR (d 770) a = v_233 769 a _
      rw [m_v_233, f70 _ _ id0, v233 n9]
    rw [if_neg b8, if_neg b8]
    by_cases b9 : b = 9
    · subst b9
      rw [if_pos rfl, if_pos rfl, (e _ _ (f72 hk) (by decide)).1, (e _ _ (f72 hk) (by decide)).2, show 17 + (1 + 2 * a) = 18 + 2 * a by omega, lostUn hk c]
      have r := csum_rng (f := fL a 1 (d 770)) (n := (d 770 0).toNat) (B := 1) (fun i x y => by unfold fL; repeat' split <;> omega)
      refine QP.ok ?_ (by rw [v244 hg]; omega)
      show V_244 a 1 (d 770) = v_244 769 a 1 _
      rw [m_v_244, f70 _ _ (f72 hk)]
    rw [if_neg b9, if_neg b9]
    have e6 : g_246 769 a b d = mset d 769 0 2 := by
      unfold g_246 f_246
      have nb : ¬ (0 ≤ b ∧ b ≤ 9) := by omega
      rw [v237, if_pos c, v09, if_neg nb, if_neg (show ¬ (1 : Int) = 0 by decide), if_pos rfl]
    rw [e6]
    exact QP.fail (by decide)
  · rw [if_neg c, if_neg c]
    have e : g_246 769 a b d = mset d 769 0 1 := by
      unfold g_246 f_246
      rw [v237, if_neg c, if_pos rfl]
    rw [e]
    exact QP.fail (by decide)
theorem loop139 {d : mD} (hk : OKR 1 d (d 770)) : ∀ (n m : Nat) (x k : Int) (D R : mD), (∀ b, ¬ b = 575 → D b = d b) → R 770 = d 770 → 0 ≤ k → k ≤ d 770 8 → d 770 8 - k ≤ (n : Int) → d 770 8 - k ≤ (m : Int) → (lp_139_4 0 n x k D).1 = (lp_260_9 769 m x k R).1 := by
  have o8 : d 11 0 = d 770 8 := hk.2.2.2.2.2.2.2.1.1
  have o10 : d 58 0 = d 770 10 := hk.2.2.2.2.2.2.2.2.2.2.1.1
  have last : ∀ (r : Int → Int → mD → Int × mD) (r' : Int → Int → mD → Int × mD) (x k : Int) (D R : mD), (∀ b, ¬ b = 575 → D b = d b) → R 770 = d 770 → k = d 770 8 → (st_139_4 0 r x k D).1 = (st_260_9 769 r' x k R).1 := fun r r' x k D R hD hR hk => by
    have hkk : ¬ k < d 770 8 := by omega
    unfold st_139_4 st_260_9
    rw [n01, show (1 : Int) + 10 = 11 by decide, n57, n7691, hD 11 (by decide), hD 58 (by decide), hR, o8, o10, if_neg hkk, if_neg hkk]
    by_cases z : x = 0
    · rw [if_pos z, if_pos z]
    · rw [if_neg z, if_neg z]
  have step : ∀ (r : Int → Int → mD → Int × mD) (r' : Int → Int → mD → Int × mD) (x k : Int) (D R : mD), (∀ b, ¬ b = 575 → D b = d b) → R 770 = d 770 → k < d 770 8 → (r (x + V_244 k 0 (d 770)) (k + 1) (g_72 1 k 574 D)).1 = (r' (x + V_244 k 0 (d 770)) (k + 1) R).1 → (st_139_4 0 r x k D).1 = (st_260_9 769 r' x k R).1 := fun r r' x k D R hD hR c h => by
    have l := lostAll (d := D) (p := k) (by rw [hD 770 (by decide)]; exact ok575 hk hD)
    rw [hD 770 (by decide)] at l
    unfold st_139_4 st_260_9
    rw [n01, show (1 : Int) + 10 = 11 by decide, n7691, hD 11 (by decide), hR, o8, if_pos c, if_pos c, show (0 : Int) + 574 = 574 by decide, l, m_v_244, hR]
    exact h
  intro n
  induction n with
  | zero =>
    intro m x k D R hD hR h0 h1 h2 h3
    cases m with
    | zero => exact last _ _ x k D R hD hR (by omega)
    | succ m => exact last _ _ x k D R hD hR (by omega)
  | succ n ih =>
    intro m x k D R hD hR h0 h1 h2 h3
    by_cases c : k < d 770 8
    · cases m with
      | zero => omega
      | succ m =>
        refine step _ _ x k D R hD hR c (ih m _ _ _ _ (fun b hb => ?_) hR (by omega) (by omega) (by omega) (by omega))
        rw [f72 (d := D) (by rw [hD 770 (by decide)]; exact ok575 hk hD) b hb, hD b hb]
    · cases m with
      | zero => exact last _ _ x k D R hD hR (by omega)
      | succ m => exact last _ _ x k D R hD hR (by omega)
theorem eqRepaid {d : mD} (hk : OKR 1 d (d 770)) (hf : ∀ b, ¬ b = 575 → g_139 0 d b = d b) : v_139 0 d = v_260 769 (g_139 0 d) := by
  have n8 := hk.1.1.2.1
  exact loop139 hk (16 - 0 : Int).toNat (16 - 0 : Int).toNat 0 0 d (mset (g_139 0 d) 769 0 0) (fun _ _ => rfl) (by rw [o769 (by decide), hf 770 (by decide)]) (by decide) n8.1 (by omega) (by omega)
theorem loop140 {d : mD} (hk : OKR 1 d (d 770)) : ∀ (n m : Nat) (x y k : Int) (D R : mD), (∀ b, ¬ b = 575 → D b = d b) → R 770 = d 770 → 0 ≤ k → k ≤ d 770 8 → d 770 8 - k ≤ (n : Int) → d 770 8 - k ≤ (m : Int) → -1 ≤ x → x ≤ 16 → (lp_140_6 0 n x y k D).1 = (lp_261_11 769 m x y k R).1 ∧ -1 ≤ (lp_140_6 0 n x y k D).1 ∧ (lp_140_6 0 n x y k D).1 ≤ 16 := by
  have o8 : d 11 0 = d 770 8 := hk.2.2.2.2.2.2.2.1.1
  have n8 := hk.1.1.2.1
  have last : ∀ (r : Int → Int → Int → mD → Int × mD) (r' : Int → Int → Int → mD → Int × mD) (x y k : Int) (D R : mD), (∀ b, ¬ b = 575 → D b = d b) → R 770 = d 770 → k = d 770 8 → -1 ≤ x → x ≤ 16 → (st_140_6 0 r x y k D).1 = (st_261_11 769 r' x y k R).1 ∧ -1 ≤ (st_140_6 0 r x y k D).1 ∧ (st_140_6 0 r x y k D).1 ≤ 16 := fun r r' x y k D R hD hR hk a b => by
    unfold st_140_6 st_261_11
    rw [n01, show (1 : Int) + 10 = 11 by decide, n7691, hD 11 (by decide), hR, o8, if_neg (by omega), if_neg (by omega)]
    exact ⟨rfl, a, b⟩
  have step : ∀ (r : Int → Int → Int → mD → Int × mD) (r' : Int → Int → Int → mD → Int × mD) (x y k : Int) (D R : mD), (∀ b, ¬ b = 575 → D b = d b) → R 770 = d 770 → k < d 770 8 → (∀ x y, -1 ≤ x → x ≤ 16 → (r x y (k + 1) (g_72 1 k 574 D)).1 = (r' x y (k + 1) R).1 ∧ -1 ≤ (r x y (k + 1) (g_72 1 k 574 D)).1 ∧ (r x y (k + 1) (g_72 1 k 574 D)).1 ≤ 16) → 0 ≤ k → -1 ≤ x → x ≤ 16 → (st_140_6 0 r x y k D).1 = (st_261_11 769 r' x y k R).1 ∧ -1 ≤ (st_140_6 0 r x y k D).1 ∧ (st_140_6 0 r x y k D).1 ≤ 16 := fun r r' x y k D R hD hR c h k0 a b => by
    have l := lostAll (d := D) (p := k) (by rw [hD 770 (by decide)]; exact ok575 hk hD)
    rw [hD 770 (by decide)] at l
    unfold st_140_6 st_261_11
    rw [n01, show (1 : Int) + 10 = 11 by decide, n7691, hD 11 (by decide), hR, o8, if_pos c, if_pos c, show (0 : Int) + 574 = 574 by decide, l, m_v_244, hR]
    by_cases z : y < V_244 k 0 (d 770)
    · rw [if_pos z, if_pos z]
      exact h k _ (by omega) (by omega)
    · rw [if_neg z, if_neg z]
      exact h x y a b
  intro n
  induction n with
  | zero =>
    intro m x y k D R hD hR h0 h1 h2 h3 a b
    cases m with
    | zero => exact last _ _ x y k D R hD hR (by omega) a b
    | succ m => exact last _ _ x y k D R hD hR (by omega) a b
  | succ n ih =>
    intro m x y k D R hD hR h0 h1 h2 h3 a b
    by_cases c : k < d 770 8
    · cases m with
      | zero => omega
      | succ m =>
        refine step _ _ x y k D R hD hR c (fun x y a b => ih m x y _ _ _ (fun b hb => ?_) hR (by omega) (by omega) (by omega) (by omega) a b) h0 a b
        rw [f72 (d := D) (by rw [hD 770 (by decide)]; exact ok575 hk hD) b hb, hD b hb]
    · cases m with
      | zero => exact last _ _ x y k D R hD hR (by omega) a b
      | succ m => exact last _ _ x y k D R hD hR (by omega) a b
theorem qvUnl {d : mD} (hk : OKR 1 d (d 770)) (hf : ∀ b, ¬ b = 575 → g_140 0 d b = d b) : QV (v_140 0 d) (v_261 769 (g_140 0 d)) := by
  have n8 := hk.1.1.2.1
  obtain ⟨q1, q2, q3⟩ := loop140 hk (16 - 0 : Int).toNat (16 - 0 : Int).toNat (-1) 0 0 d (mset (g_140 0 d) 769 0 0) (fun _ _ => rfl) (by rw [o769 (by decide), hf 770 (by decide)]) (by decide) n8.1 (by omega) (by omega) (by decide) (by decide)
  exact ⟨q1, inI.of ⟨Int.le_trans (by decide) q2, Int.le_trans q3 (by decide)⟩⟩
