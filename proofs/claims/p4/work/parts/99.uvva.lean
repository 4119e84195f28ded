/-! ===== queries: setting, office, queued ===== -/
def QP (d1 d2 : mD) (v vr : Int) : Prop := d2 769 0 = v ∧ (v = 0 → d1 778 0 = vr ∧ inI vr)
theorem QP.fail {d : mD} {c vr : Int} (hc : ¬ c = 0) : QP d (mset d 769 0 c) c vr := ⟨ms_e rfl rfl, fun z => absurd z hc⟩
theorem QP.ok {d : mD} {x vr : Int} (h : x = vr) (hr : -100000 ≤ x ∧ x ≤ 100000) : QP (mset d 778 0 x) (mset (mset d 778 0 x) 769 0 0) 0 vr := ⟨ms_e rfl rfl, fun _ => ⟨by rw [ms_e rfl rfl]; exact h, by rw [← h]; exact inI.of hr⟩⟩
theorem o778 {d : mD} {x : Int} {b : Int} (h : ¬ b = 778) : mset d 778 0 x b = d b := by
  funext j
  exact ms_a h
theorem o769 {d : mD} {x : Int} {b : Int} (h : ¬ b = 769) : mset d 769 0 x b = d b := by
  funext j
  exact ms_a h
theorem v176n {a n : Int} {d : mD} (h : ∃ m, n = m - 1) : v_176 a 0 n d = if 0 ≤ a ∧ a < n + 1 then 1 else 0 := by
  rw [v176]
  by_cases c : 0 ≤ a ∧ a < n + 1
  · rw [if_pos c, if_pos (by omega)]
  · rw [if_neg c, if_neg (by omega)]
theorem qpSetting {d : mD} {a : Int} (hk : OKR 1 d (d 770)) : QP (g_306 0 a 778 d) (g_240 769 a (g_306 0 a 778 d)) (v_306 0 a 778 d) (v_240 769 a (g_306 0 a 778 d)) := by
  unfold v_306 g_306
  rw [n01, show (1 : Int) + 1 = 2 by decide, ifR, ifR]
  have v04 : ∀ D, v_176 a 0 4 D = if 0 ≤ a ∧ a < 5 then 1 else 0 := fun D => by
    rw [v176]
    by_cases c : 0 ≤ a ∧ a < 5
    · rw [if_pos c, if_pos (by omega)]
    · rw [if_neg c, if_neg (by omega)]
  by_cases c : 0 ≤ a ∧ a < 5
  · rw [if_pos c, if_pos c]
    have e : g_240 769 a (mset d 778 0 (d 2 a)) = mset (mset d 778 0 (d 2 a)) 769 0 0 ∧ v_240 769 a (mset d 778 0 (d 2 a)) = d 770 (2 + a) := by
      unfold g_240 v_240
      rw [v04, if_pos c, if_neg (by decide), if_neg (by decide), n7691, ms_a (by decide)]
      exact ⟨rfl, rfl⟩
    rw [e.1, e.2]
    exact QP.ok (hk.2.2.2.2.1.2.2 a c.1 c.2) (oldB hk.1 hk.2.2.2.2 c)
  · rw [if_neg c, if_neg c]
    have e : g_240 769 a d = mset d 769 0 1 := by
      unfold g_240
      rw [v04, if_neg c, if_pos rfl]
    rw [e]
    exact QP.fail (by decide)
theorem v103 {d : mD} {w : Row} {o : Int} (hg : GG w) (h : Rel 1 d w) : v_103 50 o d = csum (fun t => if w (452 + 24 * t + 4) = 1 ∧ w (452 + 24 * t + 1) = o then 1 else 0) (w 9).toNat := by
  obtain ⟨r1, r2⟩ := h.2.2.2.2.1
  have n9 := hg.1.2.2.1
  have r1 : d 50 0 = w 9 := r1
  unfold v_103
  refine cnt0 (L := fun n a k => lp_103_4 50 o n a k d) n9.1 (by omega) (fun n a k hk => ?_) (fun n a k x y => ?_)
  · cases n with
    | zero =>
      show st_103_4 50 o _ a k d = a
      unfold st_103_4
      rw [if_neg (by omega)]
    | succ n =>
      show st_103_4 50 o _ a k d = a
      unfold st_103_4
      rw [if_neg (by omega)]
  · obtain ⟨t1, t2, t3, t4, t5⟩ := r2 k x y
    have t5 : d 55 k = w (452 + 24 * k + 4) := t5
    have t2 : d 52 k = w (452 + 24 * k + 1) := t2
    show st_103_4 50 o _ a k d = _
    unfold st_103_4
    rw [if_pos (by omega), show (50 : Int) + 5 = 55 by decide, show (50 : Int) + 2 = 52 by decide, t5, t2]
    by_cases c1 : w (452 + 24 * k + 4) = 1
    · by_cases c2 : w (452 + 24 * k + 1) = o
      · rw [if_pos c1, if_pos c2, if_pos ⟨c1, c2⟩]
      · rw [if_pos c1, if_neg c2, if_neg (fun z => c2 z.2)]
    · rw [if_neg c1, if_neg (fun z => c1 z.1)]
theorem qpOffice {d : mD} {a b : Int} (hk : OKR 1 d (d 770)) : QP (g_307 0 a b 778 d) (g_241 769 a b (g_307 0 a b 778 d)) (v_307 0 a b 778 d) (v_241 769 a b (g_307 0 a b 778 d)) := by
  obtain ⟨hg, -, -, -, hr⟩ := id hk
  have o7 : d 3 0 = d 770 7 := hr.2.1.1
  unfold v_307 g_307
  rw [n01, n49, show (1 : Int) + 2 = 3 by decide, show (3 : Int) + 2 = 5 by decide, show (3 : Int) + 3 = 6 by decide, show (3 : Int) + 4 = 7 by decide, show (3 : Int) + 5 = 8 by decide, show (3 : Int) + 6 = 9 by decide, o7, ifR, ifR]
  by_cases c : 0 ≤ a ∧ a < d 770 7
  · rw [if_pos c, if_pos c]
    obtain ⟨t0, t1, t2, t3, t4, t5⟩ := hr.2.1.2 a c.1 c.2
    have t1 : d 5 a = d 770 (12 + 68 * a + 1) := t1
    have t2 : d 6 a = d 770 (12 + 68 * a + 2) := t2
    have t3 : d 7 a = d 770 (12 + 68 * a + 3) := t3
    have t4 : d 8 a = d 770 (12 + 68 * a + 4) := t4
    have t5 : d 9 a = d 770 (12 + 68 * a + 5) := t5
    obtain ⟨u1, u2, u3, u4, u5, u6, u7⟩ := hg.2.1 a c.1 c.2
    have e : ∀ x, 0 ≤ b ∧ b ≤ 5 → g_241 769 a b (mset d 778 0 x) = mset (mset d 778 0 x) 769 0 0 ∧ v_241 769 a b (mset d 778 0 x) = d 770 (12 + 68 * a + 1 + b) := fun x hb => by
      unfold g_241 v_241
      rw [v236, o778 (by decide), if_pos c, v176, if_pos hb, if_neg (by decide), if_neg (by decide), if_neg (by decide), if_neg (by decide), n7691, o778 (by decide)]
      exact ⟨rfl, rfl⟩
    by_cases b0 : b = 0
    · subst b0
      rw [if_pos rfl, if_pos rfl, (e _ (by decide)).1, (e _ (by decide)).2]
      refine QP.ok ?_ (by omega)
      rw [t1, Int.add_zero]
    rw [if_neg b0, if_neg b0]
    by_cases b1 : b = 1
    · subst b1
      rw [if_pos rfl, if_pos rfl, (e _ (by decide)).1, (e _ (by decide)).2]
      refine QP.ok ?_ (by omega)
      rw [t2, show 12 + 68 * a + 1 + 1 = 12 + 68 * a + 2 by omega]
    rw [if_neg b1, if_neg b1]
    by_cases b2 : b = 2
    · subst b2
      rw [if_pos rfl, if_pos rfl, (e _ (by decide)).1, (e _ (by decide)).2]
      refine QP.ok ?_ (by omega)
      rw [t3, show 12 + 68 * a + 1 + 2 = 12 + 68 * a + 3 by omega]
    rw [if_neg b2, if_neg b2]
    by_cases b3 : b = 3
    · subst b3
      rw [if_pos rfl, if_pos rfl]
      have e3 : 12 + 68 * a + 1 + 3 = 12 + 68 * a + 4 := by omega
      by_cases z : d 8 a = 0
      · rw [if_pos z, (e _ (by decide)).1, (e _ (by decide)).2]
        refine QP.ok ?_ (by decide)
        rw [e3, ← t4, z]
      · rw [if_neg z, (e _ (by decide)).1, (e _ (by decide)).2]
        refine QP.ok ?_ (by decide)
        rw [e3]
        omega
    rw [if_neg b3, if_neg b3]
    by_cases b4 : b = 4
    · subst b4
      rw [if_pos rfl, if_pos rfl, (e _ (by decide)).1, (e _ (by decide)).2]
      refine QP.ok ?_ (by omega)
      rw [t5, show 12 + 68 * a + 1 + 4 = 12 + 68 * a + 5 by omega]
    rw [if_neg b4, if_neg b4]
    by_cases b5 : b = 5
    · subst b5
      rw [if_pos rfl, if_pos rfl, (e _ (by decide)).1, (e _ (by decide)).2]
      have sv := v103 (o := a) hg hr
      have r := csum_rng (f := fun t => if d 770 (452 + 24 * t + 4) = 1 ∧ d 770 (452 + 24 * t + 1) = a then 1 else 0) (n := (d 770 9).toNat) (B := 1) (fun i x y => by split <;> omega)
      have n9 := hg.1.2.2.1
      refine QP.ok ?_ ?_
      · rw [sv, show 12 + 68 * a + 1 + 5 = 12 + 68 * a + 6 by omega, u7]
      · rw [sv]
        omega
    rw [if_neg b5, if_neg b5]
    have e6 : g_241 769 a b d = mset d 769 0 2 := by
      unfold g_241
      have nb : ¬ (0 ≤ b ∧ b ≤ 5) := by omega
      have n1 : ¬ (1 : Int) = 0 := by decide
      rw [v236, if_pos c, if_neg n1, v176, if_neg nb, if_pos rfl]
    rw [e6]
    exact QP.fail (by decide)
  · rw [if_neg c, if_neg c]
    have e : g_241 769 a b d = mset d 769 0 1 := by
      unfold g_241
      rw [v236, if_neg c, if_pos rfl]
    rw [e]
    exact QP.fail (by decide)
theorem qpQueued {d : mD} {a b : Int} (hk : OKR 1 d (d 770)) : QP (g_308 0 a b 778 d) (g_242 769 a b (g_308 0 a b 778 d)) (v_308 0 a b 778 d) (v_242 769 a b (g_308 0 a b 778 d)) := by
  obtain ⟨hg, -, -, -, hr⟩ := id hk
  have o7 : d 3 0 = d 770 7 := hr.2.1.1
  have n7 := hg.1.1
  have n9 := hg.1.2.2.1
  unfold v_308 g_308
  rw [n01, show (1 : Int) + 2 = 3 by decide, show (3 : Int) + 6 = 9 by decide, o7, ifR, ifR, ifR, ifR]
  by_cases c : 0 ≤ a ∧ a < d 770 7
  · rw [if_pos c, if_pos c]
    have t5 : d 9 a = d 770 (12 + 68 * a + 5) := (hr.2.1.2 a c.1 c.2).2.2.2.2.2
    have u5 := (hg.2.1 a c.1 c.2).2.2.2.2.1
    rw [t5]
    have vb : ∀ D : mD, v_176 b 0 (d 770 (12 + 68 * a + 5) - 1) D = if 0 ≤ b ∧ b < d 770 (12 + 68 * a + 5) then 1 else 0 := fun D => by
      rw [v176]
      by_cases z : 0 ≤ b ∧ b < d 770 (12 + 68 * a + 5)
      · rw [if_pos z, if_pos (by omega)]
      · rw [if_neg z, if_neg (by omega)]
    by_cases c2 : 0 ≤ b ∧ b < d 770 (12 + 68 * a + 5)
    · rw [if_pos c2, if_pos c2]
      have q : d 10 (a * 16 + b) = d 770 (12 + 68 * a + 7 + b) := hr.2.2.1 a c.1 c.2 b c2.1 c2.2
      have q2 := (hg.2.2.1 a c.1 c.2 b c2.1 c2.2).1
      have e38 : v_38 3 a b d = d 10 (a * 16 + b) := by
        unfold v_38
        rw [show (3 : Int) + 7 = 10 by decide]
      have e : g_242 769 a b (mset d 778 0 (v_38 3 a b d)) = mset (mset d 778 0 (v_38 3 a b d)) 769 0 0 ∧ v_242 769 a b (mset d 778 0 (v_38 3 a b d)) = d 770 (12 + 68 * a + 7 + b) := by
        unfold g_242 v_242
        rw [v236, n7691, o778 (by decide), if_pos c, vb, if_pos c2, if_neg (by decide), if_neg (by decide), if_neg (by decide), if_neg (by decide)]
        exact ⟨rfl, rfl⟩
      rw [e.1, e.2]
      refine QP.ok ?_ ?_
      · rw [e38, q]
      · rw [e38, q]
        omega
    · rw [if_neg c2, if_neg c2]
      have e : g_242 769 a b d = mset d 769 0 1 := by
        unfold g_242
        rw [v236, n7691, if_pos c, vb, if_neg c2, if_neg (by decide), if_pos rfl]
      rw [e]
      exact QP.fail (by decide)
  · rw [if_neg c, if_neg c]
    have e : g_242 769 a b d = mset d 769 0 1 := by
      unfold g_242
      rw [v236, if_neg c, if_pos rfl]
    rw [e]
    exact QP.fail (by decide)
/-! ===== queries: count ===== -/
theorem v101 {d : mD} {w : Row} {q : Int} (hg : GG w) (h : Rel 1 d w) : v_101 50 q d = csum (fun t => if w (452 + 24 * t + 4) = q then 1 else 0) (w 9).toNat := by
  obtain ⟨r1, r2⟩ := h.2.2.2.2.1
  have n9 := hg.1.2.2.1
  have r1 : d 50 0 = w 9 := r1
  unfold v_101
  refine cnt0 (L := fun n a k => lp_101_4 50 q n a k d) n9.1 (by omega) (fun n a k hk => ?_) (fun n a k x y => ?_)
  · cases n with
    | zero =>
      show st_101_4 50 q _ a k d = a
      unfold st_101_4
      rw [if_neg (by omega)]
    | succ n =>
      show st_101_4 50 q _ a k d = a
      unfold st_101_4
      rw [if_neg (by omega)]
  · obtain ⟨t1, t2, t3, t4, t5⟩ := r2 k x y
    have t5 : d 55 k = w (452 + 24 * k + 4) := t5
    show st_101_4 50 q _ a k d = _
    unfold st_101_4
    rw [if_pos (by omega), show (50 : Int) + 5 = 55 by decide, t5]
    by_cases c1 : w (452 + 24 * k + 4) = q
    · rw [if_pos c1, if_pos c1]
    · rw [if_neg c1, if_neg c1]
theorem v102 {d : mD} {w : Row} {q : Int} (hg : GG w) (h : Rel 1 d w) : v_102 50 q d = csum (fun t => if w (452 + 24 * t + 5) + w (452 + 24 * t + 6) = q then 1 else 0) (w 9).toNat := by
  obtain ⟨r1, -⟩ := h.2.2.2.2.1
  have r2 := h.2.2.2.2.2.1
  have n9 := hg.1.2.2.1
  have r1 : d 50 0 = w 9 := r1
  unfold v_102
  refine cnt0 (L := fun n a k => lp_102_4 50 q n a k d) n9.1 (by omega) (fun n a k hk => ?_) (fun n a k x y => ?_)
  · cases n with
    | zero =>
      show st_102_4 50 q _ a k d = a
      unfold st_102_4
      rw [if_neg (by omega)]
    | succ n =>
      show st_102_4 50 q _ a k d = a
      unfold st_102_4
      rw [if_neg (by omega)]
  · have t5 : d 56 k = w (452 + 24 * k + 5) + w (452 + 24 * k + 6) := (r2 k x y).1
    show st_102_4 50 q _ a k d = _
    unfold st_102_4
    rw [if_pos (by omega), show (50 : Int) + 6 = 56 by decide, t5]
    by_cases c1 : w (452 + 24 * k + 5) + w (452 + 24 * k + 6) = q
    · rw [if_pos c1, if_pos c1]
    · rw [if_neg c1, if_neg c1]
theorem v110 {d : mD} {w : Row} {q : Int} (hg : GG w) (h : Rel 1 d w) : v_110 58 q d = csum (fun k => if w (1916 + 5 * k + 3) = q then 1 else 0) (w 10).toNat := by
  obtain ⟨r1, r2⟩ := h.2.2.2.2.2.2.1
  have n9 := hg.1.2.2.2.1
  have r1 : d 58 0 = w 10 := r1
  unfold v_110
  refine cnt0 (L := fun n a k => lp_110_4 58 q n a k d) n9.1 (by omega) (fun n a k hk => ?_) (fun n a k x y => ?_)
  · cases n with
    | zero =>
      show st_110_4 58 q _ a k d = a
      unfold st_110_4
      rw [if_neg (by omega)]
    | succ n =>
      show st_110_4 58 q _ a k d = a
      unfold st_110_4
      rw [if_neg (by omega)]
  · have t5 : d 62 k = w (1916 + 5 * k + 3) := (r2 k x y).2.2.2
    show st_110_4 58 q _ a k d = _
    unfold st_110_4
    rw [if_pos (by omega), show (58 : Int) + 4 = 62 by decide, t5]
    by_cases c1 : w (1916 + 5 * k + 3) = q
    · rw [if_pos c1, if_pos c1]
    · rw [if_neg c1, if_neg c1]
theorem fstI {c : Prop} [Decidable c] {a b : Int × mD} {x y : Int} (h1 : a.1 = x) (h2 : b.1 = y) : (if c then a else b).1 = if c then x else y := by
  split
  · exact h1
  · exact h2
theorem sndI {c : Prop} [Decidable c] {a b : Int × mD} {x : mD} (h1 : a.2 = x) (h2 : b.2 = x) : (if c then a else b).2 = x := by
  split
  · exact h1
  · exact h2
def cA (w : Row) (t : Int) : Int := if w (452 + 24 * t + 4) = 0 then 1 else 0
def cB (w : Row) (t : Int) : Int := if w (452 + 24 * t + 5) = 0 then 0 else if w (452 + 24 * t + 6) = 0 then 1 else 0
def cC (w : Row) (t : Int) : Int := w (452 + 24 * t + 6)
def cE (w : Row) (k : Int) : Int := if w (1916 + 5 * k + 3) = 2 then 1 else 0
def fin239 (x1 a b c e : Int) (D : mD) : Int := if x1 = 0 then D 770 7 else if x1 = 1 then D 770 8 else if x1 = 2 then D 770 9 else if x1 = 3 then D 770 0 else if x1 = 4 then 20 - (D 770 0) % 20 else if x1 = 5 then a else if x1 = 6 then b else if x1 = 7 then c else if x1 = 8 then D 770 10 else if x1 = 9 then D 770 11 else if x1 = 10 then e else if x1 = 11 then D 770 1 else D 769 7
theorem l239b {x1 a b c : Int} {D : mD} : ∀ (n : Nat) (e k : Int), 0 ≤ k → k ≤ D 770 10 → D 770 10 - k ≤ (n : Int) → (lp_239_139 769 x1 n a b c e k D).1 = fin239 x1 a b c (e + (csum (cE (D 770)) (D 770 10).toNat - csum (cE (D 770)) k.toNat)) D := by
  have last : ∀ (r : Int → Int → Int → Int → Int → mD → Int × mD) (e k : Int), k = D 770 10 → (st_239_139 769 x1 r a b c e k D).1 = fin239 x1 a b c (e + (csum (cE (D 770)) (D 770 10).toNat - csum (cE (D 770)) k.toNat)) D := fun r e k hk => by
    unfold st_239_139 fin239
    rw [n7691, if_neg (by omega), hk, Int.sub_self, Int.add_zero]
    repeat' apply fstI
    all_goals rfl
  intro n
  induction n with
  | zero =>
    intro e k h0 h1 h2
    exact last _ e k (by omega)
  | succ n ih =>
    intro e k h0 h1 h2
    by_cases q : k < D 770 10
    · have st : lp_239_139 769 x1 (n + 1) a b c e k D = lp_239_139 769 x1 n a b c (e + cE (D 770) k) (k + 1) D := by
        show st_239_139 769 x1 _ a b _ e k D = _
        unfold st_239_139 cE
        rw [n7691, if_pos q]
        by_cases z : D 770 (1916 + 5 * k + 3) = 2
        · rw [if_pos z, if_pos z]
        · rw [if_neg z, if_neg z]
      rw [st, ih _ _ (by omega) (by omega) (by omega), csum_s _ h0, show e + cE (D 770) k + (csum (cE (D 770)) (D 770 10).toNat - (csum (cE (D 770)) k.toNat + cE (D 770) k)) = e + (csum (cE (D 770)) (D 770 10).toNat - csum (cE (D 770)) k.toNat) by omega]
    · exact last _ e k (by omega)
theorem l239 {x1 : Int} {D : mD} (h10 : 0 ≤ D 770 10 ∧ D 770 10 ≤ 200) : ∀ (n : Nat) (a b c k : Int), 0 ≤ k → k ≤ D 770 9 → D 770 9 - k ≤ (n : Int) → (lp_239_40 769 x1 n a b c k D).1 = fin239 x1 (a + (csum (cA (D 770)) (D 770 9).toNat - csum (cA (D 770)) k.toNat)) (b + (csum (cB (D 770)) (D 770 9).toNat - csum (cB (D 770)) k.toNat)) (c + (csum (cC (D 770)) (D 770 9).toNat - csum (cC (D 770)) k.toNat)) (csum (cE (D 770)) (D 770 10).toNat) D := by
  have last : ∀ (r : Int → Int → Int → Int → mD → Int × mD) (a b c k : Int), k = D 770 9 → (st_239_40 769 x1 r a b c k D).1 = fin239 x1 (a + (csum (cA (D 770)) (D 770 9).toNat - csum (cA (D 770)) k.toNat)) (b + (csum (cB (D 770)) (D 770 9).toNat - csum (cB (D 770)) k.toNat)) (c + (csum (cC (D 770)) (D 770 9).toNat - csum (cC (D 770)) k.toNat)) (csum (cE (D 770)) (D 770 10).toNat) D := fun r a b c k hk => by
    unfold st_239_40
    have nk : ¬ k < D 770 9 := by omega
    rw [n7691, if_neg nk, l239b (200 - 0 : Int).toNat 0 0 (by decide) h10.1 (by omega), hk]
    rw [Int.sub_self, Int.sub_self, Int.sub_self, Int.add_zero, Int.add_zero, Int.add_zero, Int.zero_add, show csum (cE (D 770)) (0 : Int).toNat = 0 from rfl, Int.sub_zero]
  intro n
  induction n with
  | zero =>
    intro a b c k h0 h1 h2
    exact last _ a b c k (by omega)
  | succ n ih =>
    intro a b c k h0 h1 h2
    by_cases q : k < D 770 9
    · have st : lp_239_40 769 x1 (n + 1) a b c k D = lp_239_40 769 x1 n (a + cA (D 770) k) (b + cB (D 770) k) (c + cC (D 770) k) (k + 1) D := by
        show st_239_40 769 x1 _ a b c k D = _
        unfold st_239_40 cA cB cC
        rw [n7691, if_pos q]
        by_cases z4 : D 770 (452 + 24 * k + 4) = 0
        · rw [if_pos z4, if_pos z4]
          by_cases z5 : D 770 (452 + 24 * k + 5) = 0
          · rw [if_pos z5, if_pos z5]
          · rw [if_neg z5, if_neg z5]
            by_cases z6 : D 770 (452 + 24 * k + 6) = 0
            · rw [if_pos z6, if_pos z6]
            · rw [if_neg z6, if_neg z6]
        · rw [if_neg z4, if_neg z4]
          by_cases z5 : D 770 (452 + 24 * k + 5) = 0
          · rw [if_pos z5, if_pos z5]
          · rw [if_neg z5, if_neg z5]
            by_cases z6 : D 770 (452 + 24 * k + 6) = 0
            · rw [if_pos z6, if_pos z6]
            · rw [if_neg z6, if_neg z6]
      rw [st, ih _ _ _ _ (by omega) (by omega) (by omega), csum_s _ h0, csum_s _ h0, csum_s _ h0]
      congr 1 <;> omega
    · exact last _ a b c k (by omega)
theorem g239b {x1 a b c : Int} {D : mD} : ∀ (n : Nat) (e k : Int), (lp_239_139 769 x1 n a b c e k D).2 = D := by
  intro n
  induction n with
  | zero =>
    intro e k
    show (st_239_139 769 x1 _ a b c e k D).2 = D
    unfold st_239_139
    repeat' apply sndI
    all_goals rfl
  | succ n ih =>
    intro e k
    show (st_239_139 769 x1 _ a b c e k D).2 = D
    unfold st_239_139
    refine sndI (sndI (ih _ _) (ih _ _)) ?_
    repeat' apply sndI
    all_goals rfl
theorem g239 {x1 : Int} {D : mD} : ∀ (n : Nat) (a b c k : Int), (lp_239_40 769 x1 n a b c k D).2 = D := by
  have st : ∀ (r : Int → Int → Int → Int → mD → Int × mD) (a b c k : Int), (∀ a b c k, (r a b c k D).2 = D) → (st_239_40 769 x1 r a b c k D).2 = D := fun r a b c k hr => by
    unfold st_239_40
    exact sndI (sndI (sndI (hr _ _ _ _) (sndI (hr _ _ _ _) (hr _ _ _ _))) (sndI (hr _ _ _ _) (sndI (hr _ _ _ _) (hr _ _ _ _)))) (g239b _ _ _)
  intro n
  induction n with
  | zero =>
    intro a b c k
    exact st _ a b c k (fun _ _ _ _ => rfl)
  | succ n ih =>
    intro a b c k
    exact st _ a b c k ih
theorem qpCount {d : mD} {a : Int} (hk : OKR 1 d (d 770)) (hh : HistRel d) : QP (g_305 0 a 778 d) (g_239 769 a (g_305 0 a 778 d)) (v_305 0 a 778 d) (v_239 769 a (g_305 0 a 778 d)) := by
  obtain ⟨hg, -, -, ht, hr⟩ := id hk
  obtain ⟨n7, n8, n9, n10, n11, n0, n1, -⟩ := id hg.1
  have f7 : d 3 0 = d 770 7 := hr.2.1.1
  have f8 : d 11 0 = d 770 8 := hr.2.2.2.1.1
  have f9 : d 50 0 = d 770 9 := hr.2.2.2.2.1.1
  have f0 : d 1 2 = d 770 0 := hr.1.2.1
  have f1 : d 1 1 = d 770 1 := hr.1.1
  have f10 : d 58 0 = d 770 10 := hr.2.2.2.2.2.2.1.1
  have fA : v_101 50 0 d = csum (cA (d 770)) (d 770 9).toNat := v101 hg hr
  have fB : v_102 50 1 d = csum (cB (d 770)) (d 770 9).toNat := by
    rw [v102 hg hr]
    refine csum_congr (fun t x y => ?_)
    have g := hg.2.2.2.2.1 t x (by omega)
    unfold cB
    obtain ⟨g1, g2, g3, -⟩ := g
    by_cases z5 : d 770 (452 + 24 * t + 5) = 0
    · rw [if_pos z5, if_neg (by omega)]
    · rw [if_neg z5]
      by_cases z6 : d 770 (452 + 24 * t + 6) = 0
      · rw [if_pos z6, if_pos (by omega)]
      · rw [if_neg z6, if_neg (by omega)]
  have fC : v_102 50 2 d = csum (cC (d 770)) (d 770 9).toNat := by
    rw [v102 hg hr]
    refine csum_congr (fun t x y => ?_)
    obtain ⟨g1, g2, g3, -⟩ := hg.2.2.2.2.1 t x (by omega)
    unfold cC
    by_cases z6 : d 770 (452 + 24 * t + 6) = 0
    · rw [if_neg (by omega), z6]
    · rw [if_pos (by omega)]
      omega
  have fE : v_110 58 2 d = csum (cE (d 770)) (d 770 10).toNat := v110 hg hr
  have fR : v_110 58 1 d = d 770 11 := by
    rw [v110 hg hr]
    exact hg.2.2.2.2.2.2.1.symm
  have fH : d 64 2 = d 769 7 := hh.2.2.1.symm
  have rA := csum_rng (f := cA (d 770)) (n := (d 770 9).toNat) (B := 1) (fun t x y => by unfold cA; split <;> omega)
  have rB := csum_rng (f := cB (d 770)) (n := (d 770 9).toNat) (B := 1) (fun t x y => by unfold cB; repeat' split <;> omega)
  have rC := csum_rng (f := cC (d 770)) (n := (d 770 9).toNat) (B := 1) (fun t x y => by
    obtain ⟨g1, g2, g3, -⟩ := hg.2.2.2.2.1 t x (by omega)
    unfold cC
    omega)
  have rE := csum_rng (f := cE (d 770)) (n := (d 770 10).toNat) (B := 1) (fun t x y => by unfold cE; split <;> omega)
  have e : ∀ x, 0 ≤ a ∧ a ≤ 12 → g_239 769 a (mset d 778 0 x) = mset (mset d 778 0 x) 769 0 0 ∧ v_239 769 a (mset d 778 0 x) = fin239 a (csum (cA (d 770)) (d 770 9).toNat) (csum (cB (d 770)) (d 770 9).toNat) (csum (cC (d 770)) (d 770 9).toNat) (csum (cE (d 770)) (d 770 10).toNat) (mset (mset d 778 0 x) 769 0 0) := fun x ha => by
    have h70 : mset (mset d 778 0 x) 769 0 0 770 = d 770 := by rw [o769 (by decide), o778 (by decide)]
    have l := l239 (x1 := a) (D := mset (mset d 778 0 x) 769 0 0) (by rw [h70]; exact n10) (61 - 0 : Int).toNat 0 0 0 0 (by decide) (by rw [h70]; exact n9.1) (by rw [h70]; omega)
    rw [h70, show csum (cA (d 770)) (0 : Int).toNat = 0 from rfl, show csum (cB (d 770)) (0 : Int).toNat = 0 from rfl, show csum (cC (d 770)) (0 : Int).toNat = 0 from rfl, Int.sub_zero, Int.sub_zero, Int.sub_zero, Int.sub_zero, Int.zero_add, Int.zero_add, Int.zero_add] at l
    have gq := g239 (x1 := a) (D := mset (mset d 778 0 x) 769 0 0) (61 - 0 : Int).toNat 0 0 0 0
    have n1 : ¬ (1 : Int) = 0 := by decide
    constructor
    · unfold g_239 f_239
      rw [v176, if_pos ha, if_neg n1]
      exact gq
    · unfold v_239 f_239
      rw [v176, if_pos ha, if_neg n1]
      exact l
  unfold v_305 g_305
  rw [n01, n49, n57, n641, show (1 : Int) + 2 = 3 by decide, show (1 : Int) + 10 = 11 by decide]
  have h7 : ∀ x, mset (mset d 778 0 x) 769 0 0 769 7 = d 769 7 := fun x => by rw [ms_i (by decide), o778 (by decide)]
  have hD : ∀ x, mset (mset d 778 0 x) 769 0 0 770 = d 770 := fun x => by rw [o769 (by decide), o778 (by decide)]
  have h27 := hh.2.1
  by_cases b0 : a = 0
  · subst b0
    rw [if_pos rfl, if_pos rfl, (e _ (by decide)).1, (e _ (by decide)).2]
    exact QP.ok (by rw [f7]; unfold fin239; rw [hD]; rfl) (by omega)
  rw [if_neg b0, if_neg b0]
  by_cases b1 : a = 1
  · subst b1
    rw [if_pos rfl, if_pos rfl, (e _ (by decide)).1, (e _ (by decide)).2]
    exact QP.ok (by rw [f8]; unfold fin239; rw [hD]; rfl) (by omega)
  rw [if_neg b1, if_neg b1]
  by_cases b2 : a = 2
  · subst b2
    rw [if_pos rfl, if_pos rfl, (e _ (by decide)).1, (e _ (by decide)).2]
    exact QP.ok (by rw [f9]; unfold fin239; rw [hD]; rfl) (by omega)
  rw [if_neg b2, if_neg b2]
  by_cases b3 : a = 3
  · subst b3
    rw [if_pos rfl, if_pos rfl, (e _ (by decide)).1, (e _ (by decide)).2]
    exact QP.ok (by rw [f0]; unfold fin239; rw [hD]; rfl) (by omega)
  rw [if_neg b3, if_neg b3]
  by_cases b4 : a = 4
  · subst b4
    rw [if_pos rfl, if_pos rfl, (e _ (by decide)).1, (e _ (by decide)).2]
    exact QP.ok (by rw [f0]; unfold fin239; rw [hD]; rfl) (by omega)
  rw [if_neg b4, if_neg b4]
  by_cases b5 : a = 5
  · subst b5
    rw [if_pos rfl, if_pos rfl, (e _ (by decide)).1, (e _ (by decide)).2]
    exact QP.ok (by rw [fA]; unfold fin239; rfl) (by rw [fA]; omega)
  rw [if_neg b5, if_neg b5]
  by_cases b6 : a = 6
  · subst b6
    rw [if_pos rfl, if_pos rfl, (e _ (by decide)).1, (e _ (by decide)).2]
    exact QP.ok (by rw [fB]; unfold fin239; rfl) (by rw [fB]; omega)
  rw [if_neg b6, if_neg b6]
  by_cases b7 : a = 7
  · subst b7
    rw [if_pos rfl, if_pos rfl, (e _ (by decide)).1, (e _ (by decide)).2]
    exact QP.ok (by rw [fC]; unfold fin239; rfl) (by rw [fC]; omega)
  rw [if_neg b7, if_neg b7]
  by_cases b8 : a = 8
  · subst b8
    rw [if_pos rfl, if_pos rfl, (e _ (by decide)).1, (e _ (by decide)).2]
    exact QP.ok (by rw [f10]; unfold fin239; rw [hD]; rfl) (by omega)
  rw [if_neg b8, if_neg b8]
  by_cases b9 : a = 9
  · subst b9
    rw [if_pos rfl, if_pos rfl, (e _ (by decide)).1, (e _ (by decide)).2]
    exact QP.ok (by rw [fR]; unfold fin239; rw [hD]; rfl) (by omega)
  rw [if_neg b9, if_neg b9]
  by_cases b10 : a = 10
  · subst b10
    rw [if_pos rfl, if_pos rfl, (e _ (by decide)).1, (e _ (by decide)).2]
    exact QP.ok (by rw [fE]; unfold fin239; rfl) (by rw [fE]; omega)
  rw [if_neg b10, if_neg b10]
  by_cases b11 : a = 11
  · subst b11
    rw [if_pos rfl, if_pos rfl, (e _ (by decide)).1, (e _ (by decide)).2]
    exact QP.ok (by rw [f1]; unfold fin239; rw [hD]; rfl) (by omega)
  rw [if_neg b11, if_neg b11]
  by_cases b12 : a = 12
  · subst b12
    rw [if_pos rfl, if_pos rfl, (e _ (by decide)).1, (e _ (by decide)).2]
    exact QP.ok (by rw [fH]; unfold fin239; rw [h7]; rfl) (by omega)
  rw [if_neg b12, if_neg b12]
  have e6 : g_239 769 a d = mset d 769 0 1 := by
    unfold g_239 f_239
    have nb : ¬ (0 ≤ a ∧ a ≤ 12) := by omega
    rw [v176, if_neg nb, if_pos rfl]
  rw [e6]
  exact QP.fail (by decide)
/-! ===== queries: token, isPaidFor, ticket ===== -/
theorem qpPaid {d : mD} {a b : Int} (hk : OKR 1 d (d 770)) : QP (g_312 0 a b 778 d) (g_249 769 a b (g_312 0 a b 778 d)) (v_312 0 a b 778 d) (v_249 769 a b (g_312 0 a b 778 d)) := by
  obtain ⟨hg, -, -, -, hr⟩ := id hk
  have o8 : d 11 0 = d 770 8 := hr.2.2.2.1.1
  have n10 := hg.1.2.2.2.1
  unfold v_312 g_312
  rw [n01, show (1 : Int) + 10 = 11 by decide, o8, ifR, ifR]
  have n1 : ¬ (1 : Int) = 0 := by decide
  by_cases c : 0 ≤ a ∧ a < d 770 8
  · rw [if_pos c, if_pos c]
    by_cases c2 : 0 ≤ b ∧ b ≤ 999
    · rw [if_neg (show ¬ b < 0 by omega), if_neg (show ¬ (999 : Int) < b by omega), if_neg (show ¬ b < 0 by omega), if_neg (show ¬ (999 : Int) < b by omega)]
      have hh : v_6 (11 + 6 + (1 + 2 * a)) b d = V_216 a b (d 770) := RelH.has hr.2.2.2.2.2.2.2.2.2 n10 c.1 c.2 c2.1 c2.2
      have e : ∀ x, g_249 769 a b (mset d 778 0 x) = mset (mset d 778 0 x) 769 0 0 ∧ v_249 769 a b (mset d 778 0 x) = if V_216 a b (d 770) = 0 then 0 else 1 := fun x => by
        unfold g_249 v_249
        rw [v237, o778 (by decide), if_pos c, v176, if_pos c2, if_neg n1, if_neg n1, if_neg n1, if_neg n1, m_v_216, o769 (by decide), o778 (by decide)]
        exact ⟨rfl, rfl⟩
      rw [hh]
      by_cases z : V_216 a b (d 770) = 0
      · rw [if_pos z, (e _).1, (e _).2, if_pos z]
        exact QP.ok rfl (by decide)
      · rw [if_neg z, (e _).1, (e _).2, if_neg z]
        exact QP.ok rfl (by decide)
    · have ev : (if b < 0 then (2 : Int) else if (999 : Int) < b then 2 else 0) = 2 := by
        by_cases z : b < 0
        · rw [if_pos z]
        · rw [if_neg z, if_pos (by omega)]
      have eg : ∀ u : mD, (if b < 0 then d else if (999 : Int) < b then d else u) = d := fun u => by
        by_cases z : b < 0
        · rw [if_pos z]
        · rw [if_neg z, if_pos (by omega)]
      rw [ev, eg]
      have e : g_249 769 a b d = mset d 769 0 2 := by
        unfold g_249
        rw [v237, if_pos c, if_neg n1, v176, if_neg c2, if_pos rfl]
      rw [e]
      exact QP.fail (by decide)
  · rw [if_neg c, if_neg c]
    have e : g_249 769 a b d = mset d 769 0 1 := by
      unfold g_249
      rw [v237, if_neg c, if_pos rfl]
    rw [e]
    exact QP.fail (by decide)
-- the place in the row of offered tokens
theorem row113 {a : Int} {d : mD} {w : Row} (hr : Rel 1 d w) : ∀ (n : Nat) (k : Int), 0 ≤ k → w 11 - k ≤ (n : Int) → (lp_113_2 58 a n k d = -1 ∧ ∀ j, k ≤ j → j < w 11 → ¬ w (2916 + j) = a) ∨ (k ≤ lp_113_2 58 a n k d ∧ lp_113_2 58 a n k d < w 11 ∧ w (2916 + lp_113_2 58 a n k d) = a) := by
  obtain ⟨r1, r2⟩ := hr.2.2.2.2.2.2.2.1
  have r1 : d 58 5 = w 11 := r1
  intro n
  induction n with
  | zero =>
    intro k h0 hn
    left
    refine ⟨?_, fun j x y => by omega⟩
    show st_113_2 58 a _ k d = -1
    unfold st_113_2
    rw [if_neg (by omega)]
  | succ n ih =>
    intro k h0 hn
    by_cases c : k < w 11
    · have e : d 63 k = w (2916 + k) := r2 k h0 c
      by_cases z : w (2916 + k) = a
      · have st : lp_113_2 58 a (n + 1) k d = k := by
          show st_113_2 58 a _ k d = _
          unfold st_113_2
          rw [if_pos (by omega), show (58 : Int) + 5 = 63 by decide, e, if_pos z]
        rw [st]
        exact Or.inr ⟨by omega, c, z⟩
      · have st : lp_113_2 58 a (n + 1) k d = lp_113_2 58 a n (k + 1) d := by
          show st_113_2 58 a _ k d = _
          unfold st_113_2
          rw [if_pos (by omega), show (58 : Int) + 5 = 63 by decide, e, if_neg z]
        rw [st]
        rcases ih (k + 1) (by omega) (by omega) with ⟨q1, q2⟩ | ⟨q1, q2, q3⟩
        · left
          refine ⟨q1, fun j x y => ?_⟩
          by_cases v : j = k
          · rw [v]; exact z
          · exact q2 j (by omega) y
        · exact Or.inr ⟨by omega, q2, q3⟩
    · left
      refine ⟨?_, fun j x y => by omega⟩
      show st_113_2 58 a _ k d = -1
      unfold st_113_2
      rw [if_neg (by omega)]
theorem row248 {a b : Int} {D : mD} : ∀ (n : Nat) (p k : Int), 0 ≤ k → D 770 11 - k ≤ (n : Int) → (lp_248_75 769 a b n p k D).2 = D ∧ (((lp_248_75 769 a b n p k D).1 = p ∧ ∀ j, k ≤ j → j < D 770 11 → ¬ D 770 (2916 + j) = a) ∨ (k ≤ (lp_248_75 769 a b n p k D).1 ∧ (lp_248_75 769 a b n p k D).1 < D 770 11 ∧ D 770 (2916 + (lp_248_75 769 a b n p k D).1) = a)) := by
  intro n
  induction n with
  | zero =>
    intro p k h0 hn
    have st : lp_248_75 769 a b 0 p k D = (p, D) := by
      show st_248_75 769 a b _ p k D = _
      unfold st_248_75
      rw [n7691, if_neg (by omega)]
    rw [st]
    exact ⟨rfl, Or.inl ⟨rfl, fun j x y => by omega⟩⟩
  | succ n ih =>
    intro p k h0 hn
    by_cases c : k < D 770 11
    · by_cases z : D 770 (2916 + k) = a
      · have st : lp_248_75 769 a b (n + 1) p k D = lp_248_75 769 a b n k (k + 1) D := by
          show st_248_75 769 a b _ p k D = _
          unfold st_248_75
          rw [n7691, if_pos c, if_pos z]
        rw [st]
        obtain ⟨q0, q⟩ := ih k (k + 1) (by omega) (by omega)
        refine ⟨q0, Or.inr ?_⟩
        rcases q with ⟨q1, q2⟩ | ⟨q1, q2, q3⟩
        · rw [q1]
          exact ⟨by omega, c, z⟩
        · exact ⟨by omega, q2, q3⟩
      · have st : lp_248_75 769 a b (n + 1) p k D = lp_248_75 769 a b n p (k + 1) D := by
          show st_248_75 769 a b _ p k D = _
          unfold st_248_75
          rw [n7691, if_pos c, if_neg z]
        rw [st]
        obtain ⟨q0, q⟩ := ih p (k + 1) (by omega) (by omega)
        refine ⟨q0, ?_⟩
        rcases q with ⟨q1, q2⟩ | ⟨q1, q2, q3⟩
        · refine Or.inl ⟨q1, fun j x y => ?_⟩
          by_cases v : j = k
          · rw [v]; exact z
          · exact q2 j (by omega) y
        · exact Or.inr ⟨by omega, q2, q3⟩
    · have st : lp_248_75 769 a b (n + 1) p k D = (p, D) := by
        show st_248_75 769 a b _ p k D = _
        unfold st_248_75
        rw [n7691, if_neg c]
      rw [st]
      exact ⟨rfl, Or.inl ⟨rfl, fun j x y => by omega⟩⟩
theorem qpToken {d : mD} {a b : Int} (hk : OKR 1 d (d 770)) : QP (g_311 0 a b 778 d) (g_248 769 a b (g_311 0 a b 778 d)) (v_311 0 a b 778 d) (v_248 769 a b (g_311 0 a b 778 d)) := by
  obtain ⟨hg, -, -, ht, hr⟩ := id hk
  obtain ⟨n7, n8, n9, n10, n11, n0, -⟩ := id hg.1
  have o10 : d 58 0 = d 770 10 := hr.2.2.2.2.2.2.1.1
  unfold v_311 g_311
  rw [n01, n57, show (58 : Int) + 1 = 59 by decide, show (58 : Int) + 2 = 60 by decide, show (58 : Int) + 3 = 61 by decide, show (58 : Int) + 4 = 62 by decide, o10, ifR, ifR]
  have n1 : ¬ (1 : Int) = 0 := by decide
  have va : ∀ D : mD, v_176 a 0 (d 770 10 - 1) D = if 0 ≤ a ∧ a < d 770 10 then 1 else 0 := fun D => by
    rw [v176]
    by_cases z : 0 ≤ a ∧ a < d 770 10
    · rw [if_pos z, if_pos (by omega)]
    · rw [if_neg z, if_neg (by omega)]
  by_cases c : 0 ≤ a ∧ a < d 770 10
  · rw [if_pos c, if_pos c]
    obtain ⟨t1, t2, t3, t4⟩ := hr.2.2.2.2.2.2.1.2 a c.1 c.2
    have t1 : d 59 a = d 770 (1916 + 5 * a + 0) := t1
    have t2 : d 60 a = d 770 (1916 + 5 * a + 1) := t2
    have t3 : d 61 a = d 770 (1916 + 5 * a + 2) := t3
    have t4 : d 62 a = d 770 (1916 + 5 * a + 3) := t4
    obtain ⟨u1, u2, u3, u4, u5, -⟩ := hg.2.2.2.2.2.1 a c.1 c.2
    have e : ∀ x, 0 ≤ b ∧ b ≤ 3 → f_248 769 a b (mset d 778 0 x) = (d 770 (1916 + 5 * a + b), mset (mset d 778 0 x) 769 0 0) := fun x hb => by
      unfold f_248
      rw [n7691, o778 (by decide), va, if_pos c, v176, if_pos (show 0 ≤ b ∧ b ≤ 4 by omega), if_neg n1, if_neg n1, if_pos (by omega)]
    have eg : ∀ x, 0 ≤ b ∧ b ≤ 3 → g_248 769 a b (mset d 778 0 x) = mset (mset d 778 0 x) 769 0 0 := fun x hb => by
      unfold g_248
      rw [e x hb]
    have ev : ∀ x, 0 ≤ b ∧ b ≤ 3 → v_248 769 a b (mset d 778 0 x) = d 770 (1916 + 5 * a + b) := fun x hb => by
      unfold v_248
      rw [e x hb]
    by_cases b0 : b = 0
    · subst b0
      rw [if_pos rfl, if_pos rfl, eg _ (by decide), ev _ (by decide)]
      exact QP.ok t1 (by omega)
    rw [if_neg b0, if_neg b0]
    by_cases b1 : b = 1
    · subst b1
      rw [if_pos rfl, if_pos rfl, eg _ (by decide), ev _ (by decide)]
      exact QP.ok t2 (by omega)
    rw [if_neg b1, if_neg b1]
    by_cases b2 : b = 2
    · subst b2
      rw [if_pos rfl, if_pos rfl, eg _ (by decide), ev _ (by decide)]
      exact QP.ok t3 (by omega)
    rw [if_neg b2, if_neg b2]
    by_cases b3 : b = 3
    · subst b3
      rw [if_pos rfl, if_pos rfl, eg _ (by decide), ev _ (by decide)]
      exact QP.ok t4 (by omega)
    rw [if_neg b3, if_neg b3]
    by_cases b4 : b = 4
    · subst b4
      rw [if_pos rfl, if_pos rfl]
      have q1 := row113 (a := a) hr (200 - 0 : Int).toNat 0 (by decide) (by omega)
      generalize hx : v_113 58 a d = x
      have hx' : lp_113_2 58 a (200 - 0 : Int).toNat 0 d = x := hx
      rw [hx'] at q1
      have h70 : mset (mset d 778 0 x) 769 0 0 770 = d 770 := by rw [o769 (by decide), o778 (by decide)]
      obtain ⟨q0, q2⟩ := row248 (a := a) (b := 4) (D := mset (mset d 778 0 x) 769 0 0) (200 - 0 : Int).toNat (-1) 0 (by decide) (by rw [h70]; omega)
      rw [h70] at q2
      have e4 : f_248 769 a 4 (mset d 778 0 x) = lp_248_75 769 a 4 (200 - 0 : Int).toNat (-1) 0 (mset (mset d 778 0 x) 769 0 0) := by
        unfold f_248
        have h44 : (0 : Int) ≤ 4 ∧ (4 : Int) ≤ 4 := by decide
        have h4n : ¬ (4 : Int) < 4 := by decide
        rw [n7691, o778 (by decide), va, if_pos c, if_neg n1, v176, if_pos h44, if_neg n1, if_neg h4n]
      unfold g_248 v_248
      rw [e4, q0]
      generalize (lp_248_75 769 a 4 (200 - 0 : Int).toNat (-1) 0 (mset (mset d 778 0 x) 769 0 0)).1 = y at *
      have un := hg.2.2.2.2.2.2.2
      refine QP.ok ?_ (by omega)
      rcases q1 with ⟨a1, a2⟩ | ⟨a1, a2, a3⟩
      · rcases q2 with ⟨b1, b2⟩ | ⟨b1, b2, b3⟩
        · rw [a1, b1]
        · exact absurd b3 (a2 y b1 b2)
      · rcases q2 with ⟨b1, b2⟩ | ⟨b1, b2, b3⟩
        · exact absurd a3 (b2 x a1 a2)
        · by_cases z1 : x < y
          · exact absurd (a3.trans b3.symm) ((un y b1 b2).2.2 x a1 z1)
          · by_cases z2 : y < x
            · exact absurd (b3.trans a3.symm) ((un x a1 a2).2.2 y b1 z2)
            · omega
    rw [if_neg b4, if_neg b4]
    have e6 : g_248 769 a b d = mset d 769 0 2 := by
      unfold g_248 f_248
      have nb : ¬ (0 ≤ b ∧ b ≤ 4) := by omega
      rw [n7691, va, if_pos c, if_neg n1, v176, if_neg nb, if_pos rfl]
    rw [e6]
    exact QP.fail (by decide)
  · rw [if_neg c, if_neg c]
    have e : g_248 769 a b d = mset d 769 0 1 := by
      unfold g_248 f_248
      rw [n7691, va, if_neg c, if_pos rfl]
    rw [e]
    exact QP.fail (by decide)
-- how many tokens a ticket gave
theorem v112 {d : mD} {w : Row} {t : Int} (hg : GG w) (h : Rel 1 d w) : v_112 58 t d = csum (fun k => if w (1916 + 5 * k + 1) = t then 1 else 0) (w 10).toNat := by
  obtain ⟨r1, r2⟩ := h.2.2.2.2.2.2.1
  have n9 := hg.1.2.2.2.1
  have r1 : d 58 0 = w 10 := r1
  unfold v_112
  refine cnt0 (L := fun n a k => lp_112_4 58 t n a k d) n9.1 (by omega) (fun n a k hk => ?_) (fun n a k x y => ?_)
  · cases n with
    | zero =>
      show st_112_4 58 t _ a k d = a
      unfold st_112_4
      rw [if_neg (by omega)]
    | succ n =>
      show st_112_4 58 t _ a k d = a
      unfold st_112_4
      rw [if_neg (by omega)]
  · have t5 : d 60 k = w (1916 + 5 * k + 1) := (r2 k x y).2.1
    show st_112_4 58 t _ a k d = _
    unfold st_112_4
    rw [if_pos (by omega), show (58 : Int) + 2 = 60 by decide, t5]
    by_cases c1 : w (1916 + 5 * k + 1) = t
    · rw [if_pos c1, if_pos c1]
    · rw [if_neg c1, if_neg c1]
def fin247 (t b c : Int) (D : mD) : Int := if b = 8 then v_213 769 t D else if b = 9 then c else v_221 769 t D
theorem l247 {t b : Int} {D : mD} : ∀ (n : Nat) (c k : Int), 0 ≤ k → k ≤ D 770 10 → D 770 10 - k ≤ (n : Int) → lp_247_65 769 t b n c k D = (fin247 t b (c + (csum (fun k => if D 770 (1916 + 5 * k + 1) = t then 1 else 0) (D 770 10).toNat - csum (fun k => if D 770 (1916 + 5 * k + 1) = t then 1 else 0) k.toNat)) D, D) := by
  have last : ∀ (r : Int → Int → mD → Int × mD) (c k : Int), k = D 770 10 → st_247_65 769 t b r c k D = (fin247 t b (c + (csum (fun k => if D 770 (1916 + 5 * k + 1) = t then 1 else 0) (D 770 10).toNat - csum (fun k => if D 770 (1916 + 5 * k + 1) = t then 1 else 0) k.toNat)) D, D) := fun r c k hk => by
    unfold st_247_65 fin247
    rw [n7691, if_neg (by omega), hk, Int.sub_self, Int.add_zero]
    by_cases b8 : b = 8
    · rw [if_pos b8, if_pos b8]
    · rw [if_neg b8, if_neg b8]
      by_cases b9 : b = 9
      · rw [if_pos b9, if_pos b9]
      · rw [if_neg b9, if_neg b9]
  intro n
  induction n with
  | zero =>
    intro c k h0 h1 h2
    exact last _ c k (by omega)
  | succ n ih =>
    intro c k h0 h1 h2
    by_cases q : k < D 770 10
    · have st : lp_247_65 769 t b (n + 1) c k D = lp_247_65 769 t b n (c + (if D 770 (1916 + 5 * k + 1) = t then 1 else 0)) (k + 1) D := by
        show st_247_65 769 t b _ c k D = _
        unfold st_247_65
        rw [n7691, if_pos q]
        by_cases z : D 770 (1916 + 5 * k + 1) = t
        · rw [if_pos z, if_pos z]
        · rw [if_neg z, if_neg z]
      rw [st, ih _ _ (by omega) (by omega) (by omega), csum_s _ h0]
      congr 2
      generalize (if D 770 (1916 + 5 * k + 1) = t then (1 : Int) else 0) = z
      omega
    · exact last _ c k (by omega)
theorem waitEq {d : mD} {w : Row} {t : Int} (hg : GG w) (h : Rel 1 d w) (ht : 0 ≤ t ∧ t < w 9) : v_71 1 t d = V_213 t w ∧ -100000 ≤ v_71 1 t d ∧ v_71 1 t d ≤ 100000 := by
  have u := untilEq h ht
  have u : v_98 50 t (d 1 2) d = V_212 t w := u
  have s0 : d 2 0 = w 2 := h.1.2.2 0 (by decide) (by decide)
  obtain ⟨t1, t2, t3, t4, t5⟩ := h.2.2.2.2.1.2 t ht.1 ht.2
  have t3 : d 53 t = w (452 + 24 * t + 2) := t3
  obtain ⟨g1, g2, g3, g4, g5, g6⟩ := hg.2.2.2.1 t ht.1 ht.2
  obtain ⟨n7, n8, n9, n10, n11, n0, n1, n2, -⟩ := id hg.1
  have rg : -1 ≤ V_212 t w ∧ V_212 t w ≤ 1199 := by
    unfold V_212
    by_cases z : w (452 + 24 * t + 3) = -1
    · rw [if_pos z]
      omega
    · rw [if_neg z]
      by_cases z2 : w (452 + 24 * t + 4) = 0
      · exact absurd (g5 z2).1 z
      · have := g6 z2
        omega
  unfold v_71 V_213 mmax
  rw [n49, show (1 : Int) + 1 = 2 by decide, show (50 : Int) + 3 = 53 by decide, u, t3, s0]
  generalize V_212 t w = x at *
  refine ⟨?_, ?_, ?_⟩
  · by_cases z : x - w (452 + 24 * t + 2) - w 2 < 0
    · rw [if_pos z, if_neg (by omega)]
    · rw [if_neg z]
      by_cases y : (0 : Int) < x - (w (452 + 24 * t + 2) + w 2)
      · rw [if_pos y]
        omega
      · rw [if_neg y]
        omega
  · split <;> omega
  · split <;> omega
/-! ===== queries: ticket ===== -/
theorem qpTicket {d : mD} {a b : Int} (hk : OKR 1 d (d 770)) : QP (g_310 0 a b 778 d) (g_247 769 a b (g_310 0 a b 778 d)) (v_310 0 a b 778 d) (v_247 769 a b (g_310 0 a b 778 d)) := by
  obtain ⟨hg, -, -, ht, hr⟩ := id hk
  obtain ⟨n7, n8, n9, n10, n11, n0, -⟩ := id hg.1
  have o9 : d 50 0 = d 770 9 := hr.2.2.2.2.1.1
  unfold v_310 g_310
  rw [n01, n49, n57, show (1 : Int) + 2 = 3 by decide, show (50 : Int) + 1 = 51 by decide, show (50 : Int) + 2 = 52 by decide, show (50 : Int) + 3 = 53 by decide, show (50 : Int) + 4 = 54 by decide, show (50 : Int) + 5 = 55 by decide, show (50 : Int) + 6 = 56 by decide, show (50 : Int) + 7 = 57 by decide, o9, ifR, ifR]
  have n1 : ¬ (1 : Int) = 0 := by decide
  by_cases c : 0 ≤ a ∧ a < d 770 9
  · rw [if_pos c, if_pos c]
    obtain ⟨t1, t2, t3, t4, t5⟩ := hr.2.2.2.2.1.2 a c.1 c.2
    have t1 : d 51 a = d 770 (452 + 24 * a + 0) := t1
    have t2 : d 52 a = d 770 (452 + 24 * a + 1) := t2
    have t3 : d 53 a = d 770 (452 + 24 * a + 2) := t3
    have t4 : d 54 a = d 770 (452 + 24 * a + 3) := t4
    have t5 : d 55 a = d 770 (452 + 24 * a + 4) := t5
    have t6 : d 56 a = d 770 (452 + 24 * a + 5) + d 770 (452 + 24 * a + 6) := (hr.2.2.2.2.2.1 a c.1 c.2).1
    obtain ⟨g1, g2, g3, g4, g5, g6⟩ := hg.2.2.2.1 a c.1 c.2
    obtain ⟨k1, k2, k3, -⟩ := hg.2.2.2.2.1 a c.1 c.2
    have wc7 : v_298 (d 57 a) d = d 770 (452 + 24 * a + 7) := by
      have := witCount (s := 1) (d2 := d) hr c
      rw [show (1 : Int) + 56 = 57 by decide] at this
      exact this
    have rc7 : 0 ≤ d 770 (452 + 24 * a + 7) ∧ d 770 (452 + 24 * a + 7) ≤ 16 := by
      have e := (hr.2.2.2.2.2.1 a c.1 c.2).2.1
      have r := csum_rng (f := fun p => if d 770 (452 + 24 * a + 8 + p) = 0 then 0 else 1) (n := 16) (B := 1) (fun p x y => by split <;> omega)
      rw [e]
      omega
    have end3 : -1 ≤ d 770 (452 + 24 * a + 3) ∧ d 770 (452 + 24 * a + 3) ≤ 999 := by
      by_cases z : d 770 (452 + 24 * a + 4) = 0
      · have := (g5 z).1
        omega
      · have := g6 z
        omega
    have e : ∀ x, 0 ≤ b ∧ b ≤ 7 → g_247 769 a b (mset d 778 0 x) = mset (mset d 778 0 x) 769 0 0 ∧ v_247 769 a b (mset d 778 0 x) = d 770 (452 + 24 * a + b) := fun x hb => by
      have e : f_247 769 a b (mset d 778 0 x) = (d 770 (452 + 24 * a + b), mset (mset d 778 0 x) 769 0 0) := by
        unfold f_247
        have hb2 : 0 ≤ b ∧ b ≤ 10 := by omega
        have hb3 : b < 8 := by omega
        rw [v238, n7691, o778 (by decide), if_pos c, if_neg n1, v176, if_pos hb2, if_neg n1, if_pos hb3]
      unfold g_247 v_247
      rw [e]
      exact ⟨rfl, rfl⟩
    have e8 : ∀ x, 8 ≤ b ∧ b ≤ 10 → g_247 769 a b (mset d 778 0 x) = mset (mset d 778 0 x) 769 0 0 ∧ v_247 769 a b (mset d 778 0 x) = if b = 8 then V_213 a (d 770) else if b = 9 then csum (fun k => if d 770 (1916 + 5 * k + 1) = a then 1 else 0) (d 770 10).toNat else V_221 a (d 770) := fun x hb => by
      have h70 : mset (mset d 778 0 x) 769 0 0 770 = d 770 := by rw [o769 (by decide), o778 (by decide)]
      have l := l247 (t := a) (b := b) (D := mset (mset d 778 0 x) 769 0 0) (200 - 0 : Int).toNat 0 0 (by decide) (by rw [h70]; exact n10.1) (by rw [h70]; omega)
      have e : f_247 769 a b (mset d 778 0 x) = (fin247 a b (csum (fun k => if d 770 (1916 + 5 * k + 1) = a then 1 else 0) (d 770 10).toNat) (mset (mset d 778 0 x) 769 0 0), mset (mset d 778 0 x) 769 0 0) := by
        unfold f_247
        have hb2 : 0 ≤ b ∧ b ≤ 10 := by omega
        have hb3 : ¬ b < 8 := by omega
        rw [v238, n7691, o778 (by decide), if_pos c, if_neg n1, v176, if_pos hb2, if_neg n1, if_neg hb3, l, h70, Int.zero_add, show csum (fun k => if d 770 (1916 + 5 * k + 1) = a then 1 else 0) (0 : Int).toNat = 0 from rfl, Int.sub_zero]
      unfold g_247 v_247
      rw [e]
      refine ⟨rfl, ?_⟩
      show fin247 a b _ _ = _
      unfold fin247
      rw [m_v_213, m_v_221, h70]
    by_cases b0 : b = 0
    · subst b0
      rw [if_pos rfl, if_pos rfl, (e _ (by decide)).1, (e _ (by decide)).2]
      exact QP.ok t1 (by omega)
    rw [if_neg b0, if_neg b0]
    by_cases b1 : b = 1
    · subst b1
      rw [if_pos rfl, if_pos rfl, (e _ (by decide)).1, (e _ (by decide)).2]
      exact QP.ok t2 (by omega)
    rw [if_neg b1, if_neg b1]
    by_cases b2 : b = 2
    · subst b2
      rw [if_pos rfl, if_pos rfl, (e _ (by decide)).1, (e _ (by decide)).2]
      exact QP.ok t3 (by omega)
    rw [if_neg b2, if_neg b2]
    by_cases b3 : b = 3
    · subst b3
      rw [if_pos rfl, if_pos rfl, (e _ (by decide)).1, (e _ (by decide)).2]
      exact QP.ok t4 (by omega)
    rw [if_neg b3, if_neg b3]
    by_cases b4 : b = 4
    · subst b4
      rw [if_pos rfl, if_pos rfl, (e _ (by decide)).1, (e _ (by decide)).2]
      exact QP.ok t5 (by omega)
    rw [if_neg b4, if_neg b4]
    by_cases b5 : b = 5
    · subst b5
      rw [if_pos rfl, if_pos rfl]
      by_cases z : d 56 a = 0
      · rw [if_pos z, (e _ (by decide)).1, (e _ (by decide)).2]
        exact QP.ok (by omega) (by decide)
      · rw [if_neg z, (e _ (by decide)).1, (e _ (by decide)).2]
        exact QP.ok (by omega) (by decide)
    rw [if_neg b5, if_neg b5]
    by_cases b6 : b = 6
    · subst b6
      rw [if_pos rfl, if_pos rfl]
      by_cases z : d 56 a = 2
      · rw [if_pos z, (e _ (by decide)).1, (e _ (by decide)).2]
        exact QP.ok (by omega) (by decide)
      · rw [if_neg z, (e _ (by decide)).1, (e _ (by decide)).2]
        exact QP.ok (by omega) (by decide)
    rw [if_neg b6, if_neg b6]
    by_cases b7 : b = 7
    · subst b7
      rw [if_pos rfl, if_pos rfl, (e _ (by decide)).1, (e _ (by decide)).2]
      exact QP.ok wc7 (by rw [wc7]; omega)
    rw [if_neg b7, if_neg b7]
    by_cases b8 : b = 8
    · subst b8
      obtain ⟨q1, q2, q3⟩ := waitEq hg hr c
      rw [if_pos rfl, if_pos rfl, (e8 _ (by decide)).1, (e8 _ (by decide)).2, if_pos rfl]
      exact QP.ok q1 ⟨q2, q3⟩
    rw [if_neg b8, if_neg b8]
    by_cases b9 : b = 9
    · subst b9
      have q := v112 (t := a) hg hr
      have r := csum_rng (f := fun k => if d 770 (1916 + 5 * k + 1) = a then 1 else 0) (n := (d 770 10).toNat) (B := 1) (fun p x y => by split <;> omega)
      rw [if_pos rfl, if_pos rfl, (e8 _ (by decide)).1, (e8 _ (by decide)).2, if_neg (by decide), if_pos rfl]
      exact QP.ok q (by rw [q]; omega)
    rw [if_neg b9, if_neg b9]
    by_cases b10 : b = 10
    · subst b10
      obtain ⟨q1, q2⟩ := placeEq hg hr c
      have q1 : v_39 3 (d 770 (452 + 24 * a + 1)) a d = V_221 a (d 770) := q1
      have go := hg.2.1 _ g2.1 g2.2
      rw [if_pos rfl, if_pos rfl, (e8 _ (by decide)).1, (e8 _ (by decide)).2, if_neg (by decide), if_neg (by decide), t2]
      refine QP.ok q1 ?_
      rw [q1]
      rcases q2 with q2 | q2
      · omega
      · omega
    rw [if_neg b10, if_neg b10]
    have e6 : g_247 769 a b d = mset d 769 0 2 := by
      unfold g_247 f_247
      have nb : ¬ (0 ≤ b ∧ b ≤ 10) := by omega
      rw [v238, if_pos c, if_neg n1, v176, if_neg nb, if_pos rfl]
    rw [e6]
    exact QP.fail (by decide)
  · rw [if_neg c, if_neg c]
    have e : g_247 769 a b d = mset d 769 0 1 := by
      unfold g_247 f_247
      rw [v238, if_neg c, if_pos rfl]
    rw [e]
    exact QP.fail (by decide)
/-! ===== queries: whyNot, common, isWitness, witnessFor ===== -/
theorem v250 {a b : Int} {d : mD} : v_250 769 a b d = if 0 ≤ a ∧ a < d 770 9 then (if 0 ≤ b ∧ b < d 770 8 then 1 else 0) else 0 := by
  unfold v_250
  rw [v238, v237]
  have n1 : ¬ (1 : Int) = 0 := by decide
  by_cases c : 0 ≤ a ∧ a < d 770 9
  · rw [if_pos c, if_pos c, if_neg n1]
    by_cases c2 : 0 ≤ b ∧ b < d 770 8
    · rw [if_pos c2, if_neg n1]
    · rw [if_neg c2, if_pos rfl]
  · rw [if_neg c, if_neg c, if_pos rfl]
theorem g250 {a b : Int} {d : mD} : g_250 769 a b d = if 0 ≤ a ∧ a < d 770 9 then (if 0 ≤ b ∧ b < d 770 8 then mset d 769 0 0 else mset d 769 0 1) else mset d 769 0 1 := by
  unfold g_250
  rw [v238, v237]
  have n1 : ¬ (1 : Int) = 0 := by decide
  by_cases c : 0 ≤ a ∧ a < d 770 9
  · rw [if_pos c, if_pos c, if_neg n1]
    by_cases c2 : 0 ≤ b ∧ b < d 770 8
    · rw [if_pos c2, if_pos c2, if_neg n1]
    · rw [if_neg c2, if_neg c2, if_pos rfl]
  · rw [if_neg c, if_neg c, if_pos rfl]
theorem qp250 {d : mD} {a b x vr : Int} (hk : OKR 1 d (d 770)) {v : Int} {d1 d2 : mD} (hv : v = if 0 ≤ a ∧ a < d 770 9 then (if 0 ≤ b ∧ b < d 770 8 then 0 else 1) else 1) (h1 : d1 = if 0 ≤ a ∧ a < d 770 9 then (if 0 ≤ b ∧ b < d 770 8 then mset d 778 0 x else d) else d) (h2 : d2 = g_250 769 a b d1) (hx : (0 ≤ a ∧ a < d 770 9) → (0 ≤ b ∧ b < d 770 8) → x = vr ∧ -100000 ≤ x ∧ x ≤ 100000) : QP d1 d2 v vr := by
  rw [h2, hv, h1]
  by_cases c : 0 ≤ a ∧ a < d 770 9
  · rw [if_pos c, if_pos c]
    by_cases c2 : 0 ≤ b ∧ b < d 770 8
    · rw [if_pos c2, if_pos c2, g250, o778 (by decide), if_pos c, if_pos c2]
      exact QP.ok (hx c c2).1 (hx c c2).2
    · rw [if_neg c2, if_neg c2, g250, if_pos c, if_neg c2]
      exact QP.fail (by decide)
  · rw [if_neg c, if_neg c, g250, if_neg c]
    exact QP.fail (by decide)
theorem qpWhyNot {E : mO × tW} {d : mD} {a b : Int} (hT : TKL E) (hI : Inv E d) : QP (g_313 0 a b 778 d) (g_251 769 a b (g_313 0 a b 778 d)) (v_313 0 a b 778 d) (v_251 769 a b (g_313 0 a b 778 d)) := by
  obtain ⟨hS, hh, hi⟩ := hI
  have hk := hi.1
  obtain ⟨hg, -, -, -, hr⟩ := id hk
  have n8 := hg.1.2.1
  have n9 := hg.1.2.2.1
  have o9 : d 50 0 = d 770 9 := hr.2.2.2.2.1.1
  have o8 : d 11 0 = d 770 8 := hr.2.2.2.1.1
  refine qp250 (a := a) (b := b) (x := v_77 1 a b d) hk ?_ ?_ rfl (fun c c2 => ?_)
  · unfold v_313
    rw [n01, n49, show (1 : Int) + 10 = 11 by decide, o9, o8, ifR, ifR]
  · unfold g_313
    rw [n01, n49, show (1 : Int) + 10 = 11 by decide, o9, o8, ifR, ifR]
  · have r := (p_77 (E := E) (x0 := 1) (x1 := a) (x2 := b) hS s1B (by omega) (by omega) ⟨hT.t 6 1 (by decide), trivial, trivial, trivial⟩ hh).2.1
    have e : g_313 0 a b 778 d = mset d 778 0 (v_77 1 a b d) := by
      unfold g_313
      rw [n01, n49, show (1 : Int) + 10 = 11 by decide, o9, o8, ifR, ifR, if_pos c, if_pos c2]
    refine ⟨?_, by omega, by omega⟩
    have n1 : ¬ (1 : Int) = 0 := by decide
    unfold v_251
    rw [e, v250, o778 (by decide), if_pos c, if_pos c2, if_neg n1, g250, o778 (by decide), if_pos c, if_pos c2, m_v_234, o769 (by decide), o778 (by decide)]
    exact (hinder hg hr c c2).1
theorem qpCommon {E : mO × tW} {d : mD} {a b : Int} (hT : TKL E) (hI : Inv E d) : QP (g_314 0 a b 778 d) (g_252 769 a b (g_314 0 a b 778 d)) (v_314 0 a b 778 d) (v_252 769 a b (g_314 0 a b 778 d)) := by
  obtain ⟨hS, hh, hi⟩ := hI
  have hk := hi.1
  obtain ⟨hg, -, -, -, hr⟩ := id hk
  have n8 := hg.1.2.1
  have n9 := hg.1.2.2.1
  have o9 : d 50 0 = d 770 9 := hr.2.2.2.2.1.1
  have o8 : d 11 0 = d 770 8 := hr.2.2.2.1.1
  refine qp250 (a := a) (b := b) (x := v_78 1 a b d) hk ?_ ?_ rfl (fun c c2 => ?_)
  · unfold v_314
    rw [n01, n49, show (1 : Int) + 10 = 11 by decide, o9, o8, ifR, ifR]
  · unfold g_314
    rw [n01, n49, show (1 : Int) + 10 = 11 by decide, o9, o8, ifR, ifR]
  · have r := (p_78 (E := E) (x0 := 1) (x1 := a) (x2 := b) hS s1B (by omega) (by omega) ⟨hT.t 6 1 (by decide), trivial, trivial, trivial⟩ hh).2
    have e : g_314 0 a b 778 d = mset d 778 0 (v_78 1 a b d) := by
      unfold g_314
      rw [n01, n49, show (1 : Int) + 10 = 11 by decide, o9, o8, ifR, ifR, if_pos c, if_pos c2]
    refine ⟨?_, by omega, by omega⟩
    have n1 : ¬ (1 : Int) = 0 := by decide
    unfold v_252
    rw [e, v250, o778 (by decide), if_pos c, if_pos c2, if_neg n1, g250, o778 (by decide), if_pos c, if_pos c2, m_v_231, o769 (by decide), o778 (by decide)]
    exact common hg hr c
theorem qpIsWit {d : mD} {a b : Int} (hk : OKR 1 d (d 770)) : QP (g_316 0 a b 778 d) (g_254 769 a b (g_316 0 a b 778 d)) (v_316 0 a b 778 d) (v_254 769 a b (g_316 0 a b 778 d)) := by
  obtain ⟨hg, -, -, -, hr⟩ := id hk
  have n8 := hg.1.2.1
  have o9 : d 50 0 = d 770 9 := hr.2.2.2.2.1.1
  have o8 : d 11 0 = d 770 8 := hr.2.2.2.1.1
  refine qp250 (a := a) (b := b) (x := if v_99 50 a b d = 0 then 0 else 1) hk ?_ ?_ rfl (fun c c2 => ?_)
  · unfold v_316
    rw [n01, n49, show (1 : Int) + 10 = 11 by decide, o9, o8, ifR, ifR]
  · unfold g_316
    rw [n01, n49, show (1 : Int) + 10 = 11 by decide, o9, o8, ifR, ifR]
    split
    · split
      · split
        · rfl
        · rfl
      · rfl
    · rfl
  · have e : g_316 0 a b 778 d = mset d 778 0 (if v_99 50 a b d = 0 then 0 else 1) := by
      unfold g_316
      rw [n01, n49, show (1 : Int) + 10 = 11 by decide, o9, o8, ifR, ifR, if_pos c, if_pos c2]
      split
      · rfl
      · rfl
    have n1 : ¬ (1 : Int) = 0 := by decide
    refine ⟨?_, by split <;> decide⟩
    unfold v_254
    rw [e, v250, o778 (by decide), if_pos c, if_pos c2, if_neg n1, n7691, o778 (by decide)]
    have rb := (hr.2.2.2.2.2.1 a c.1 c.2).2.2.1 b c2.1 (by omega)
    have rb : ib (d 57 a) b.toNat = true ↔ ¬ d 770 (452 + 24 * a + 8 + b) = 0 := rb
    have e9 : v_99 50 a b d = if ib (d 57 a) b.toNat = true then 1 else 0 := by
      unfold v_99
      rw [show (50 : Int) + 7 = 57 by decide, ibit c2.1 (by omega)]
      by_cases z : ib (d 57 a) b.toNat = true
      · rw [if_pos z, if_neg n1]
      · rw [if_neg z, if_pos rfl]
    rw [e9]
    by_cases z : d 770 (452 + 24 * a + 8 + b) = 0
    · have y : ¬ ib (d 57 a) b.toNat = true := fun q => rb.1 q z
      rw [if_neg y, if_pos rfl, if_pos z]
    · rw [if_pos (rb.2 z), if_neg n1, if_neg z]
theorem witLoop {d D : mD} {a x2 : Int} (hk : OKR 1 d (d 770)) (h70 : D 770 = d 770) (ha : 0 ≤ a ∧ a < d 770 9) (h2 : 0 ≤ x2) : ∀ (n : Nat) (m k : Int), 0 ≤ k → 0 ≤ m → d 770 8 - k ≤ (n : Int) → (lp_134_10 0 a x2 n m k d = -103 ∧ lp_253_31 769 a x2 n (x2 - m) k D = (0, mset D 769 0 2)) ∨ (0 ≤ lp_134_10 0 a x2 n m k d ∧ lp_134_10 0 a x2 n m k d < d 770 8 ∧ lp_253_31 769 a x2 n (x2 - m) k D = (lp_134_10 0 a x2 n m k d, D)) := by
  obtain ⟨hg, -, -, -, hr⟩ := id hk
  have o8 : d 11 0 = d 770 8 := hr.2.2.2.1.1
  have last : ∀ (r : Int → Int → mD → Int) (r' : Int → Int → mD → Int × mD) (m k : Int), ¬ k < d 770 8 → st_134_10 0 a x2 r m k d = -103 ∧ st_253_31 769 a x2 r' (x2 - m) k D = (0, mset D 769 0 2) := fun r r' m k hk => by
    unfold st_134_10 st_253_31
    rw [n01, show (1 : Int) + 10 = 11 by decide, o8, if_neg hk, n7691, h70, if_neg hk]
    exact ⟨rfl, rfl⟩
  intro n
  induction n with
  | zero =>
    intro m k h0 hm hn
    exact Or.inl (last _ _ m k (by omega))
  | succ n ih =>
    intro m k h0 hm hn
    by_cases c : k < d 770 8
    · have hv : v_77 1 a k d = V_234 a k (d 770) := (hinder hg hr ha ⟨h0, c⟩).1
      have nx : ¬ x2 < 0 := by omega
      by_cases z : V_234 a k (d 770) = 0
      · by_cases y : m = x2
        · have s1 : lp_134_10 0 a x2 (n + 1) m k d = k := by
            show st_134_10 0 a x2 _ m k d = _
            unfold st_134_10
            rw [n01, show (1 : Int) + 10 = 11 by decide, o8, if_pos c, hv, if_pos z, if_pos y]
          have s2 : lp_253_31 769 a x2 (n + 1) (x2 - m) k D = (k, D) := by
            show st_253_31 769 a x2 _ (x2 - m) k D = _
            unfold st_253_31
            rw [n7691, h70, if_pos c, if_neg nx, m_v_234, h70, if_pos z, if_pos (by omega)]
          rw [s1, s2]
          exact Or.inr ⟨h0, c, rfl⟩
        · have s1 : lp_134_10 0 a x2 (n + 1) m k d = lp_134_10 0 a x2 n (m + 1) (k + 1) d := by
            show st_134_10 0 a x2 _ m k d = _
            unfold st_134_10
            rw [n01, show (1 : Int) + 10 = 11 by decide, o8, if_pos c, hv, if_pos z, if_neg y]
          have s2 : lp_253_31 769 a x2 (n + 1) (x2 - m) k D = lp_253_31 769 a x2 n (x2 - (m + 1)) (k + 1) D := by
            show st_253_31 769 a x2 _ (x2 - m) k D = _
            unfold st_253_31
            rw [n7691, h70, if_pos c, if_neg nx, m_v_234, h70, if_pos z, if_neg (by omega), show x2 - m + -1 = x2 - (m + 1) by omega]
          rw [s1, s2]
          exact ih (m + 1) (k + 1) (by omega) (by omega) (by omega)
      · have s1 : lp_134_10 0 a x2 (n + 1) m k d = lp_134_10 0 a x2 n m (k + 1) d := by
          show st_134_10 0 a x2 _ m k d = _
          unfold st_134_10
          rw [n01, show (1 : Int) + 10 = 11 by decide, o8, if_pos c, hv, if_neg z]
        have s2 : lp_253_31 769 a x2 (n + 1) (x2 - m) k D = lp_253_31 769 a x2 n (x2 - m) (k + 1) D := by
          show st_253_31 769 a x2 _ (x2 - m) k D = _
          unfold st_253_31
          rw [n7691, h70, if_pos c, if_neg nx, m_v_234, h70, if_neg z]
        rw [s1, s2]
        exact ih m (k + 1) (by omega) hm (by omega)
    · exact Or.inl (last _ _ m k c)
theorem witNeg {d D : mD} {a x2 : Int} (h2 : x2 < 0) : ∀ (n : Nat) (m k : Int), 0 ≤ m → 0 ≤ k → d 11 0 - k ≤ (n : Int) → lp_134_10 0 a x2 n m k d = -103 := by
  intro n
  induction n with
  | zero =>
    intro m k hm hk hn
    show st_134_10 0 a x2 _ m k d = _
    unfold st_134_10
    rw [n01, show (1 : Int) + 10 = 11 by decide, if_neg (by omega)]
  | succ n ih =>
    intro m k hm hk hn
    show st_134_10 0 a x2 _ m k d = _
    unfold st_134_10
    rw [n01, show (1 : Int) + 10 = 11 by decide]
    split
    · split
      · rw [if_neg (by omega)]
        exact ih _ _ (by omega) (by omega) (by omega)
      · exact ih _ _ (by omega) (by omega) (by omega)
    · rfl
theorem ref253n {D : mD} {a x2 y k : Int} {n : Nat} (h2 : x2 < 0) : lp_253_31 769 a x2 n y k D = (0, mset D 769 0 2) := by
  have st : ∀ r : Int → Int → mD → Int × mD, st_253_31 769 a x2 r y k D = (0, mset D 769 0 2) := fun r => by
    unfold st_253_31
    rw [if_pos h2]
    split <;> rfl
  cases n with
  | zero => exact st _
  | succ n => exact st _
theorem qpWitFor {d : mD} {a b : Int} (hk : OKR 1 d (d 770)) : QP (g_315 0 a b 778 d) (g_253 769 a b (g_315 0 a b 778 d)) (v_315 0 a b 778 d) (v_253 769 a b (g_315 0 a b 778 d)) := by
  obtain ⟨hg, -, -, -, hr⟩ := id hk
  have n8 := hg.1.2.1
  have o9 : d 50 0 = d 770 9 := hr.2.2.2.2.1.1
  have o8 : d 11 0 = d 770 8 := hr.2.2.2.1.1
  have n1 : ¬ (1 : Int) = 0 := by decide
  unfold v_315 g_315
  rw [n01, n49, o9, ifR, ifR]
  have h22 : ∀ D : mD, mset (mset D 769 0 0) 769 0 2 = mset D 769 0 2 := fun D => by
    funext b j
    by_cases e1 : b = 769
    · by_cases e2 : j = 0
      · rw [ms_e e1 e2, ms_e e1 e2]
      · rw [ms_i e2, ms_i e2, ms_i e2]
    · rw [ms_a e1, ms_a e1, ms_a e1]
  by_cases c : 0 ≤ a ∧ a < d 770 9
  · rw [if_pos c, if_pos c]
    have fail : lp_134_10 0 a b (16 - 0 : Int).toNat 0 0 d = -103 → f_253 769 a b d = (0, mset d 769 0 2) → QP (if lp_134_10 0 a b (16 - 0 : Int).toNat 0 0 d < 0 then d else mset d 778 0 (lp_134_10 0 a b (16 - 0 : Int).toNat 0 0 d)) (g_253 769 a b (if lp_134_10 0 a b (16 - 0 : Int).toNat 0 0 d < 0 then d else mset d 778 0 (lp_134_10 0 a b (16 - 0 : Int).toNat 0 0 d))) (if lp_134_10 0 a b (16 - 0 : Int).toNat 0 0 d < 0 then 2 else 0) (v_253 769 a b (if lp_134_10 0 a b (16 - 0 : Int).toNat 0 0 d < 0 then d else mset d 778 0 (lp_134_10 0 a b (16 - 0 : Int).toNat 0 0 d))) := fun e1 e2 => by
      have m103 : (-103 : Int) < 0 := by decide
      rw [e1, if_pos m103, if_pos m103]
      unfold g_253
      rw [e2]
      exact QP.fail (by decide)
    by_cases b0 : 0 ≤ b
    · have l := fun (x : Int) => witLoop (D := mset (mset d 778 0 x) 769 0 0) (x2 := b) hk (by rw [o769 (by decide), o778 (by decide)]) c b0 (16 - 0 : Int).toNat 0 0 (by decide) (by decide) (by omega)
      have l0 := witLoop (D := mset d 769 0 0) (x2 := b) hk (by rw [o769 (by decide)]) c b0 (16 - 0 : Int).toNat 0 0 (by decide) (by decide) (by omega)
      have eb : b - 0 = b := by omega
      rw [eb] at l0
      rcases l0 with ⟨l1, l2⟩ | ⟨l1, l2, l3⟩
      · refine fail l1 ?_
        unfold f_253
        rw [v238, if_pos c, if_neg n1]
        exact l2.trans (by rw [h22])
      · generalize hx : lp_134_10 0 a b (16 - 0 : Int).toNat 0 0 d = x at *
        rw [if_neg (by omega), if_neg (by omega)]
        have lx := l x
        have e : f_253 769 a b (mset d 778 0 x) = (x, mset (mset d 778 0 x) 769 0 0) := by
          unfold f_253
          rw [v238, o778 (by decide), if_pos c, if_neg n1]
          rcases lx with ⟨q1, -⟩ | ⟨-, -, q3⟩
          · omega
          · rw [eb] at q3
            exact q3
        unfold g_253 v_253
        rw [e]
        exact QP.ok rfl (by omega)
    · refine fail (witNeg (D := d) (by omega) _ 0 0 (by decide) (by decide) (by omega)) ?_
      unfold f_253
      rw [v238, if_pos c, if_neg n1, ref253n (by omega), h22]
  · rw [if_neg c, if_neg c]
    have e : g_253 769 a b d = mset d 769 0 1 := by
      unfold g_253 f_253
      rw [v238, if_neg c, if_pos rfl]
    rw [e]
    exact QP.fail (by decide)
/-! ===== queries: debt, gap ===== -/
def QV (v vr : Int) : Prop := v = vr ∧ inI v
theorem l258 {D : mD} : ∀ (n : Nat) (c k : Int), 0 ≤ k → k ≤ D 770 10 → D 770 10 - k ≤ (n : Int) → (lp_258_9 769 n c k D).1 = (c + ((D 770 10 - k) - (csum (fun k => if D 770 (1916 + 5 * k + 3) = 2 then 1 else 0) (D 770 10).toNat - csum (fun k => if D 770 (1916 + 5 * k + 3) = 2 then 1 else 0) k.toNat))) * D 770 6 := by
  have last : ∀ (r : Int → Int → mD → Int × mD) (c k : Int), k = D 770 10 → (st_258_9 769 r c k D).1 = (c + ((D 770 10 - k) - (csum (fun k => if D 770 (1916 + 5 * k + 3) = 2 then 1 else 0) (D 770 10).toNat - csum (fun k => if D 770 (1916 + 5 * k + 3) = 2 then 1 else 0) k.toNat))) * D 770 6 := fun r c k hk => by
    unfold st_258_9
    rw [n7691, if_neg (by omega), hk]
    show c * D 770 6 = _
    rw [show c + (D 770 10 - D 770 10 - (csum (fun k => if D 770 (1916 + 5 * k + 3) = 2 then 1 else 0) (D 770 10).toNat - csum (fun k => if D 770 (1916 + 5 * k + 3) = 2 then 1 else 0) (D 770 10).toNat)) = c by omega]
  intro n
  induction n with
  | zero =>
    intro c k h0 h1 h2
    exact last _ c k (by omega)
  | succ n ih =>
    intro c k h0 h1 h2
    by_cases q : k < D 770 10
    · have st : lp_258_9 769 (n + 1) c k D = lp_258_9 769 n (c + (1 - (if D 770 (1916 + 5 * k + 3) = 2 then 1 else 0))) (k + 1) D := by
        show st_258_9 769 _ c k D = _
        unfold st_258_9
        rw [n7691, if_pos q]
        by_cases z : D 770 (1916 + 5 * k + 3) = 2
        · rw [if_pos z, if_pos z]
          rfl
        · rw [if_neg z, if_neg z]
          rfl
      rw [st, ih _ _ (by omega) (by omega) (by omega), csum_s _ h0]
      congr 1
      generalize (if D 770 (1916 + 5 * k + 3) = 2 then (1 : Int) else 0) = z
      omega
    · exact last _ c k (by omega)
theorem qvDebt {d : mD} (hk : OKR 1 d (d 770)) : QV (v_137 0 d) (v_258 769 d) := by
  obtain ⟨hg, -, -, -, hr⟩ := id hk
  have n10 := hg.1.2.2.2.1
  have o10 : d 58 0 = d 770 10 := hr.2.2.2.2.2.2.1.1
  have s4 : d 2 4 = d 770 6 := hr.1.2.2 4 (by decide) (by decide)
  have n6 := hg.1.2.2.2.2.2.2.2.2.2.2.2
  have c2 := v110 (q := 2) hg hr
  have r := csum_rng (f := fun k => if d 770 (1916 + 5 * k + 3) = 2 then 1 else 0) (n := (d 770 10).toNat) (B := 1) (fun p x y => by split <;> omega)
  have h70 : mset d 769 0 0 770 = d 770 := o769 (by decide)
  have l := l258 (D := mset d 769 0 0) (200 - 0 : Int).toNat 0 0 (by decide) (by rw [h70]; exact n10.1) (by rw [h70]; omega)
  have ev : v_258 769 d = (lp_258_9 769 (200 - 0 : Int).toNat 0 0 (mset d 769 0 0)).1 := rfl
  have ew : v_137 0 d = (d 770 10 - csum (fun k => if d 770 (1916 + 5 * k + 3) = 2 then 1 else 0) (d 770 10).toNat) * d 770 6 := by
    unfold v_137
    rw [n01, n57, show (1 : Int) + 1 = 2 by decide, o10, s4, c2]
  rw [h70, show csum (fun k => if d 770 (1916 + 5 * k + 3) = 2 then 1 else 0) (0 : Int).toNat = 0 from rfl] at l
  unfold QV
  rw [ev, l, ew]
  generalize csum (fun k => if d 770 (1916 + 5 * k + 3) = 2 then 1 else 0) (d 770 10).toNat = c at *
  refine ⟨by congr 1; omega, inI.of ?_⟩
  have a1 : 0 ≤ (d 770 10 - c) := by omega
  have a2 : (d 770 10 - c) * d 770 6 ≤ 200 * 99 := Int.mul_le_mul (by omega) n6.2 (by omega) (by decide)
  have a3 : 0 ≤ (d 770 10 - c) * d 770 6 := Int.mul_nonneg a1 (by omega)
  omega
theorem in84 {d : mD} {w : Row} (hg : GG w) (hr : Rel 1 d w) {r : Int → Int → mD → Int} {x1 x2 : Int} (h2 : 0 ≤ x2 ∧ x2 < w 10) : ∀ (n : Nat) (k : Int), 0 ≤ k → x2 - k ≤ (n : Int) → lp_84_36 1 r n x1 x2 (d 51 (d 60 x2)) k d = r x1 (x2 + 1) d := by
  have per : ∀ k, 0 ≤ k → k < w 10 → d 51 (d 60 k) = perO w k ∧ d 61 k = w (1916 + 5 * k + 2) := fun k a b => by
    obtain ⟨t1, t2, t3, t4⟩ := hr.2.2.2.2.2.2.1.2 k a b
    have t2 : d 60 k = w (1916 + 5 * k + 1) := t2
    have t3 : d 61 k = w (1916 + 5 * k + 2) := t3
    obtain ⟨-, g2, -⟩ := hg.2.2.2.2.2.1 k a b
    have := (hr.2.2.2.2.1.2 (w (1916 + 5 * k + 1)) g2.1 g2.2).1
    have : d 51 (w (1916 + 5 * k + 1)) = w (452 + 24 * w (1916 + 5 * k + 1) + 0) := this
    rw [t2, this]
    exact ⟨rfl, t3⟩
  have un := (hg.2.2.2.2.2.1 x2 h2.1 h2.2).2.2.2.2.2
  have last : ∀ (r' : Int → Int → Int → Int → mD → Int) (k : Int), ¬ k < x2 → st_84_36 1 r r' x1 x2 (d 51 (d 60 x2)) k d = r x1 (x2 + 1) d := fun r' k hk => by
    unfold st_84_36
    rw [if_neg hk]
  intro n
  induction n with
  | zero =>
    intro k h0 hn
    exact last _ k (by omega)
  | succ n ih =>
    intro k h0 hn
    by_cases c : k < x2
    · show st_84_36 1 r _ x1 x2 (d 51 (d 60 x2)) k d = _
      unfold st_84_36
      rw [if_pos c, n57, n49, show (58 : Int) + 3 = 61 by decide, show (50 : Int) + 1 = 51 by decide, show (58 : Int) + 2 = 60 by decide, (per k h0 (by omega)).1, (per k h0 (by omega)).2, (per x2 h2.1 h2.2).1, (per x2 h2.1 h2.2).2]
      have e := (per x2 h2.1 h2.2).1
      by_cases z : w (1916 + 5 * k + 2) = w (1916 + 5 * x2 + 2)
      · rw [if_pos z, if_neg (fun y => un k h0 c ⟨z, y⟩), ← e]
        exact ih (k + 1) (by omega) (by omega)
      · rw [if_neg z, ← e]
        exact ih (k + 1) (by omega) (by omega)
    · exact last _ k c
theorem v84 {d : mD} {w : Row} (hg : GG w) (hr : Rel 1 d w) : ∀ (n : Nat) (x1 k : Int), 0 ≤ k → w 10 - k ≤ (n : Int) → lp_84_4 1 n x1 k d = x1 := by
  have o10 : d 58 0 = w 10 := hr.2.2.2.2.2.2.1.1
  have n10 := hg.1.2.2.2.1
  intro n
  induction n with
  | zero =>
    intro x1 k h0 hn
    show st_84_4 1 _ x1 k d = _
    unfold st_84_4
    rw [n57, if_neg (by omega)]
  | succ n ih =>
    intro x1 k h0 hn
    show st_84_4 1 _ x1 k d = _
    unfold st_84_4
    by_cases c : k < w 10
    · rw [n57, if_pos (by omega), n49, show (50 : Int) + 1 = 51 by decide, show (58 : Int) + 2 = 60 by decide, in84 hg hr ⟨h0, c⟩ _ 0 (by decide) (by omega)]
      exact ih x1 (k + 1) (by omega) (by omega)
    · rw [n57, if_neg (by omega)]
theorem in262 {D : mD} (hg : GG (D 770)) {r : Int → Int → mD → Int × mD} {x1 x2 : Int} (h2 : 0 ≤ x2 ∧ x2 < D 770 10) : ∀ (n : Nat) (k : Int), 0 ≤ k → x2 - k ≤ (n : Int) → lp_262_58 769 r n x1 x2 k D = r x1 (x2 + 1) D := by
  have un := (hg.2.2.2.2.2.1 x2 h2.1 h2.2).2.2.2.2.2
  have v15 : ∀ k, v_215 769 k D = perO (D 770) k := fun k => rfl
  have last : ∀ (r' : Int → Int → Int → mD → Int × mD) (k : Int), ¬ k < x2 → st_262_58 769 r r' x1 x2 k D = r x1 (x2 + 1) D := fun r' k hk => by
    unfold st_262_58
    rw [if_neg hk]
  intro n
  induction n with
  | zero =>
    intro k h0 hn
    exact last _ k (by omega)
  | succ n ih =>
    intro k h0 hn
    by_cases c : k < x2
    · show st_262_58 769 r _ x1 x2 k D = _
      unfold st_262_58
      rw [if_pos c, n7691, v15, v15]
      by_cases z : D 770 (1916 + 5 * x2 + 2) = D 770 (1916 + 5 * k + 2)
      · rw [if_pos z, if_neg (fun y => un k h0 c ⟨z.symm, y.symm⟩), Int.add_zero]
        exact ih (k + 1) (by omega) (by omega)
      · rw [if_neg z, Int.add_zero]
        exact ih (k + 1) (by omega) (by omega)
    · exact last _ k c
theorem l262 {D : mD} (hg : GG (D 770)) : ∀ (n : Nat) (x1 k : Int), 0 ≤ k → k ≤ D 770 10 → D 770 10 - k ≤ (n : Int) → (lp_262_15 769 n x1 k D).1 = x1 - (D 770 10 - k) := by
  have n10 := hg.1.2.2.2.1
  intro n
  induction n with
  | zero =>
    intro x1 k h0 h1 hn
    show (st_262_15 769 _ x1 k D).1 = _
    unfold st_262_15
    rw [n7691, if_neg (by omega)]
    show x1 = _
    omega
  | succ n ih =>
    intro x1 k h0 h1 hn
    by_cases c : k < D 770 10
    · obtain ⟨-, -, -, g4, -⟩ := hg.2.2.2.2.2.1 k h0 c
      show (st_262_15 769 _ x1 k D).1 = _
      unfold st_262_15
      rw [n7691, if_pos c, v176, if_pos g4, if_neg (by decide), in262 hg ⟨h0, c⟩ _ 0 (by decide) (by omega), ih _ _ (by omega) (by omega) (by omega)]
      omega
    · show (st_262_15 769 _ x1 k D).1 = _
      unfold st_262_15
      rw [n7691, if_neg c]
      show x1 = _
      omega
theorem qvGap {d : mD} (hk : OKR 1 d (d 770)) : QV (v_141 0 d) (v_262 769 d) := by
  obtain ⟨hg, -, -, -, hr⟩ := id hk
  have n10 := hg.1.2.2.2.1
  have o10 : d 58 0 = d 770 10 := hr.2.2.2.2.2.2.1.1
  have h70 : mset d 769 0 0 770 = d 770 := o769 (by decide)
  have l := l262 (D := mset d 769 0 0) (by rw [h70]; exact hg) (200 - 0 : Int).toNat (d 770 10) 0 (by decide) (by rw [h70]; exact n10.1) (by rw [h70]; omega)
  rw [h70] at l
  have ev : v_262 769 d = (lp_262_15 769 (200 - 0 : Int).toNat (d 770 10) 0 (mset d 769 0 0)).1 := rfl
  have e84 : v_84 1 d = 0 := v84 hg hr _ 0 0 (by decide) (by omega)
  have c0 := v110 (q := 0) hg hr
  have c1 := v110 (q := 1) hg hr
  have c2 := v110 (q := 2) hg hr
  have sum : csum (fun k => if d 770 (1916 + 5 * k + 3) = 0 then 1 else 0) (d 770 10).toNat + csum (fun k => if d 770 (1916 + 5 * k + 3) = 1 then 1 else 0) (d 770 10).toNat + csum (fun k => if d 770 (1916 + 5 * k + 3) = 2 then 1 else 0) (d 770 10).toNat = d 770 10 := by
    rw [← csum_add, ← csum_add]
    have : csum (fun i => (if d 770 (1916 + 5 * i + 3) = 0 then 1 else 0) + (if d 770 (1916 + 5 * i + 3) = 1 then 1 else 0) + if d 770 (1916 + 5 * i + 3) = 2 then 1 else 0) (d 770 10).toNat = csum (fun _ => 1) (d 770 10).toNat := by
      refine csum_congr (fun i x y => ?_)
      obtain ⟨-, -, -, g4, -⟩ := hg.2.2.2.2.2.1 i x (by omega)
      have : d 770 (1916 + 5 * i + 3) = 0 ∨ d 770 (1916 + 5 * i + 3) = 1 ∨ d 770 (1916 + 5 * i + 3) = 2 := by omega
      rcases this with z | z | z <;> rw [z] <;> decide
    rw [this, csum_const]
    omega
  have ew : v_141 0 d = 0 := by
    unfold v_141
    rw [n01, n57, o10, c0, c1, c2, e84]
    omega
  unfold QV
  rw [ev, l, ew]
  exact ⟨by omega, inI.of (by decide)⟩
/-! ===== queries: worth ===== -/
def unp (X : Int) (d : mD) : Nat → Int → Int
  | 0, _ => 0
  | n + 1, h => (if v_6 X h d = 0 then 1 else 0) + unp X d n (h + 1)
theorem unp_nn {X : Int} {d : mD} : ∀ (n : Nat) (h : Int), 0 ≤ unp X d n h := by
  intro n
  induction n with
  | zero => intro h; exact Int.le_refl 0
  | succ n ih =>
    intro h
    have := ih (h + 1)
    show 0 ≤ (if v_6 X h d = 0 then 1 else 0) + unp X d n (h + 1)
    split <;> omega
theorem unp_c {X : Int} {d d' : mD} : ∀ (n : Nat) (h : Int), (∀ j, h ≤ j → j < h + n → v_6 X j d' = v_6 X j d) → unp X d' n h = unp X d n h := by
  intro n
  induction n with
  | zero => intro h _; rfl
  | succ n ih =>
    intro h e
    show (if v_6 X h d' = 0 then 1 else 0) + unp X d' n (h + 1) = (if v_6 X h d = 0 then 1 else 0) + unp X d n (h + 1)
    rw [e h (by omega) (by omega), ih (h + 1) (fun j x y => e j (by omega) (by omega))]
theorem l80 {t p en : Int} {d : mD} : ∀ (N n : Nat) (c h : Int), en - h ≤ (n : Int) → (en - h).toNat = N → lp_80_41 1 t n p en c h d = mmax 0 (mmin (c + unp (18 + 2 * p) d N h) (v_79 1 p d)) := by
  intro N
  induction N with
  | zero =>
    intro n c h hn hN
    have st : ∀ r : Int → Int → Int → Int → mD → Int, st_80_41 1 t r p en c h d = mmax 0 (mmin (c + unp (18 + 2 * p) d 0 h) (v_79 1 p d)) := fun r => by
      unfold st_80_41
      rw [if_neg (by omega), show unp (18 + 2 * p) d 0 h = 0 from rfl, Int.add_zero]
    cases n with
    | zero => exact st _
    | succ n => exact st _
  | succ N ih =>
    intro n c h hn hN
    cases n with
    | zero => omega
    | succ n =>
      show st_80_41 1 t _ p en c h d = _
      unfold st_80_41
      rw [if_pos (by omega), show 1 + 10 + 6 + (1 + 2 * p) = 18 + 2 * p by omega, show unp (18 + 2 * p) d (N + 1) h = (if v_6 (18 + 2 * p) h d = 0 then 1 else 0) + unp (18 + 2 * p) d N (h + 1) from rfl]
      by_cases z : v_6 (18 + 2 * p) h d = 0
      · rw [if_pos z, if_pos z, ih n _ _ (by omega) (by omega), show c + 1 + unp (18 + 2 * p) d N (h + 1) = c + (1 + unp (18 + 2 * p) d N (h + 1)) by omega]
      · rw [if_neg z, if_neg z, ih n _ _ (by omega) (by omega), show c + 0 + unp (18 + 2 * p) d N (h + 1) = c + (0 + unp (18 + 2 * p) d N (h + 1)) by omega]
theorem l81 {t p en room : Int} (hp : 0 ≤ p ∧ p < 16) (he : en ≤ 999) : ∀ (N n : Nat) (m h : Int) (d : mD), 0 ≤ h → en - h ≤ (n : Int) → (en - h).toNat = N → (lp_81_48 1 t n p en room m h d).1 = m + mmin (unp (18 + 2 * p) d N h) (mmax 0 (room - m)) := by
  intro N
  induction N with
  | zero =>
    intro n m h d h0 hn hN
    have st : ∀ r : Int → Int → Int → Int → Int → mD → Int × mD, (st_81_48 1 t r p en room m h d).1 = m + mmin (unp (18 + 2 * p) d 0 h) (mmax 0 (room - m)) := fun r => by
      unfold st_81_48
      rw [if_neg (by omega), show unp (18 + 2 * p) d 0 h = 0 from rfl]
      unfold mmin mmax
      show m = _
      split
      · split at * <;> omega
      · omega
    cases n with
    | zero => exact st _
    | succ n => exact st _
  | succ N ih =>
    intro n m h d h0 hn hN
    have nn := unp_nn (X := 18 + 2 * p) (d := d) N (h + 1)
    cases n with
    | zero => omega
    | succ n =>
      show (st_81_48 1 t _ p en room m h d).1 = _
      unfold st_81_48
      rw [if_pos (by omega), show 1 + 10 + 6 + (1 + 2 * p) = 18 + 2 * p by omega, show unp (18 + 2 * p) d (N + 1) h = (if v_6 (18 + 2 * p) h d = 0 then 1 else 0) + unp (18 + 2 * p) d N (h + 1) from rfl]
      by_cases c : m < room
      · rw [if_pos c]
        by_cases z : v_6 (18 + 2 * p) h d = 0
        · rw [if_pos z, if_pos z, ih n _ _ _ (by omega) (by omega) (by omega), unp_c (d := d) N (h + 1) (fun j x y => ?_)]
          · generalize unp (18 + 2 * p) d N (h + 1) = u at *
            unfold mmin mmax
            split <;> split <;> split <;> split <;> omega
          · have e : v_6 (18 + 2 * p) j (g_109 (1 + 57) p t h (g_7 (18 + 2 * p) h d)) = v_6 (18 + 2 * p) j (g_7 (18 + 2 * p) h d) := by
              unfold g_109
              split
              · unfold v_6
                rw [ms_a (by omega), ms_a (by omega), ms_a (by omega), ms_a (by omega), ms_a (by omega)]
              · rfl
            rw [e, add_has h0 (by omega) (by omega) (by omega), if_neg (by omega)]
        · rw [if_neg z, if_neg z, ih n _ _ _ (by omega) (by omega) (by omega), Int.zero_add]
      · rw [if_neg c]
        show m = _
        unfold mmin mmax
        generalize unp (18 + 2 * p) d N (h + 1) = u at *
        split <;> split <;> split <;> omega
theorem worthEq {d : mD} {w : Row} {t : Int} (hg : GG w) (h : Rel 1 d w) (ht : 0 ≤ t ∧ t < w 9) (hs : w (452 + 24 * t + 4) = 1) (h9 : w (452 + 24 * t + 3) ≤ 999) : v_80 1 t d = V_218 t w := by
  rw [← (makes hg h ht hs h9).1]
  obtain ⟨t1, t2, t3, t4, t5⟩ := h.2.2.2.2.1.2 t ht.1 ht.2
  have t1 : d 51 t = w (452 + 24 * t + 0) := t1
  have t3 : d 53 t = w (452 + 24 * t + 2) := t3
  have t4 : d 54 t = w (452 + 24 * t + 3) := t4
  have s0 : d 2 0 = w 2 := h.1.2.2 0 (by decide) (by decide)
  obtain ⟨g1, g2, g3, -⟩ := hg.2.2.2.1 t ht.1 ht.2
  obtain ⟨n7, n8, n9, n10, n11, n0, n1, n2, -⟩ := id hg.1
  unfold v_80 v_81 f_81
  rw [n49, show (1 : Int) + 1 = 2 by decide, show (50 : Int) + 1 = 51 by decide, show (50 : Int) + 3 = 53 by decide, show (50 : Int) + 4 = 54 by decide, t1, t3, t4, s0]
  rw [l80 (w (452 + 24 * t + 3) - (w (452 + 24 * t + 2) + w 2)).toNat _ _ _ (by omega) rfl, l81 ⟨by omega, by omega⟩ h9 (w (452 + 24 * t + 3) - (w (452 + 24 * t + 2) + w 2)).toNat _ _ _ _ (by omega) (by omega) rfl]
  have nn := unp_nn (X := 18 + 2 * w (452 + 24 * t + 0)) (d := d) (w (452 + 24 * t + 3) - (w (452 + 24 * t + 2) + w 2)).toNat (w (452 + 24 * t + 2) + w 2)
  generalize unp (18 + 2 * w (452 + 24 * t + 0)) d (w (452 + 24 * t + 3) - (w (452 + 24 * t + 2) + w 2)).toNat (w (452 + 24 * t + 2) + w 2) = u at *
  generalize v_79 1 (w (452 + 24 * t + 0)) d = r at *
  unfold mmin mmax
  split <;> split <;> split <;> split <;> omega
theorem qpWorth {E : mO × tW} {d : mD} {a : Int} (hT : TKL E) (hI : Inv E d) : QP (g_317 0 a 778 d) (g_257 769 a (g_317 0 a 778 d)) (v_317 0 a 778 d) (v_257 769 a (g_317 0 a 778 d)) := by
  obtain ⟨hS, hh, hi⟩ := hI
  have hk := hi.1
  obtain ⟨hg, -, -, htm, hr⟩ := id hk
  have n9 := hg.1.2.2.1
  have o9 : d 50 0 = d 770 9 := hr.2.2.2.2.1.1
  have n1 : ¬ (1 : Int) = 0 := by decide
  unfold v_317 g_317
  rw [n01, n49, show (50 : Int) + 5 = 55 by decide, o9, ifR, ifR]
  by_cases c : 0 ≤ a ∧ a < d 770 9
  · rw [if_pos c, if_pos c]
    have t5 : d 55 a = d 770 (452 + 24 * a + 4) := (hr.2.2.2.2.1.2 a c.1 c.2).2.2.2.2
    rw [t5]
    by_cases z : d 770 (452 + 24 * a + 4) = 1
    · rw [if_pos z]
      have ge := (hg.2.2.2.1 a c.1 c.2).2.2.2.2.2 (by omega)
      have we := worthEq hg hr c z (by omega)
      have rg := (p_80 (E := E) (x0 := 1) (x1 := a) hS s1B (by omega) ⟨hT.t 6 1 (by decide), trivial, trivial⟩ hh).2
      generalize v_80 1 a d = x at *
      have e70 : g_255 769 (mset (mset d 778 0 x) 769 0 0) 770 = d 770 := by rw [(c255 (u := mset (mset d 778 0 x) 769 0 0)).1 770 (by decide), o769 (by decide), o778 (by decide)]
      refine ⟨?_, fun _ => ⟨?_, inI.of ?_⟩⟩
      · unfold g_257
        rw [v238, n7691, o778 (by decide), if_pos c, if_neg n1, if_pos z, (c256 (u := g_218 769 a (g_255 769 (mset (mset d 778 0 x) 769 0 0)))).1 769 (by decide), m_g_218, rset_ne (by decide), (c255 (u := mset (mset d 778 0 x) 769 0 0)).1 769 (by decide), ms_e rfl rfl]
      · unfold v_257
        rw [ms_e rfl rfl, v238, n7691, o778 (by decide), if_pos c, if_neg n1, if_pos z, m_v_218, e70]
        exact we
      · unfold v_257
        rw [v238, n7691, o778 (by decide), if_pos c, if_neg n1, if_pos z, m_v_218, e70, ← we]
        omega
    · rw [if_neg z]
      have e : g_257 769 a (mset d 778 0 0) = mset (mset d 778 0 0) 769 0 0 ∧ v_257 769 a (mset d 778 0 0) = 0 := by
        unfold g_257 v_257
        rw [v238, n7691, o778 (by decide), if_pos c, if_neg n1, if_neg n1, if_neg z, if_neg z]
        exact ⟨rfl, rfl⟩
      rw [e.1, e.2]
      exact QP.ok rfl (by decide)
  · rw [if_neg c, if_neg c]
    have e : g_257 769 a d = mset d 769 0 1 := by
      unfold g_257
      rw [v238, if_neg c, if_pos rfl]
    rw [e]
    exact QP.fail (by decide)
/-! ===== queries: person (but for the hours lost) ===== -/
theorem v104 {d : mD} {w : Row} {p : Int} (hg : GG w) (h : Rel 1 d w) : v_104 50 p d = csum (fun t => if w (452 + 24 * t + 0) = p then 1 else 0) (w 9).toNat := by
  obtain ⟨r1, r2⟩ := h.2.2.2.2.1
  have n9 := hg.1.2.2.1
  have r1 : d 50 0 = w 9 := r1
  unfold v_104
  refine cnt0 (L := fun n a k => lp_104_4 50 p n a k d) n9.1 (by omega) (fun n a k hk => ?_) (fun n a k x y => ?_)
  · cases n with
    | zero =>
      show st_104_4 50 p _ a k d = a
      unfold st_104_4
      rw [if_neg (by omega)]
    | succ n =>
      show st_104_4 50 p _ a k d = a
      unfold st_104_4
      rw [if_neg (by omega)]
  · obtain ⟨t1, t2, t3, t4, t5⟩ := r2 k x y
    have t1 : d 51 k = w (452 + 24 * k + 0) := t1
    show st_104_4 50 p _ a k d = _
    unfold st_104_4
    rw [if_pos (by omega), show (50 : Int) + 1 = 51 by decide, t1]
    by_cases c1 : w (452 + 24 * k + 0) = p
    · rw [if_pos c1, if_pos c1]
    · rw [if_neg c1, if_neg c1]
theorem v105 {d : mD} {w : Row} {p : Int} (hg : GG w) (h : Rel 1 d w) : v_105 50 p d = csum (fun t => if w (452 + 24 * t + 0) = p ∧ w (452 + 24 * t + 4) = 0 then 1 else 0) (w 9).toNat := by
  obtain ⟨r1, r2⟩ := h.2.2.2.2.1
  have n9 := hg.1.2.2.1
  have r1 : d 50 0 = w 9 := r1
  unfold v_105
  refine cnt0 (L := fun n a k => lp_105_4 50 p n a k d) n9.1 (by omega) (fun n a k hk => ?_) (fun n a k x y => ?_)
  · cases n with
    | zero =>
      show st_105_4 50 p _ a k d = a
      unfold st_105_4
      rw [if_neg (by omega)]
    | succ n =>
      show st_105_4 50 p _ a k d = a
      unfold st_105_4
      rw [if_neg (by omega)]
  · obtain ⟨t1, t2, t3, t4, t5⟩ := r2 k x y
    have t1 : d 51 k = w (452 + 24 * k + 0) := t1
    have t5 : d 55 k = w (452 + 24 * k + 4) := t5
    show st_105_4 50 p _ a k d = _
    unfold st_105_4
    rw [if_pos (by omega), show (50 : Int) + 1 = 51 by decide, show (50 : Int) + 5 = 55 by decide, t1, t5]
    by_cases c1 : w (452 + 24 * k + 0) = p
    · by_cases c2 : w (452 + 24 * k + 4) = 0
      · rw [if_pos c1, if_pos c2, if_pos ⟨c1, c2⟩]
      · rw [if_pos c1, if_neg c2, if_neg (fun z => c2 z.2)]
    · rw [if_neg c1, if_neg (fun z => c1 z.1)]
theorem v83 {d : mD} {w : Row} {p : Int} (hg : GG w) (h : Rel 1 d w) : v_83 1 p d = csum (fun k => if perO w k = p then 1 else 0) (w 10).toNat := by
  obtain ⟨r1, r2⟩ := h.2.2.2.2.2.2.1
  have n9 := hg.1.2.2.2.1
  have r1 : d 58 0 = w 10 := r1
  unfold v_83
  refine cnt0 (L := fun n a k => lp_83_4 1 p n a k d) n9.1 (by omega) (fun n a k hk => ?_) (fun n a k x y => ?_)
  · cases n with
    | zero =>
      show st_83_4 1 p _ a k d = a
      unfold st_83_4
      rw [n57, if_neg (by omega)]
    | succ n =>
      show st_83_4 1 p _ a k d = a
      unfold st_83_4
      rw [n57, if_neg (by omega)]
  · have t2 : d 60 k = w (1916 + 5 * k + 1) := (r2 k x y).2.1
    obtain ⟨-, g2, -⟩ := hg.2.2.2.2.2.1 k x y
    have t1 : d 51 (w (1916 + 5 * k + 1)) = w (452 + 24 * w (1916 + 5 * k + 1) + 0) := (h.2.2.2.2.1.2 _ g2.1 g2.2).1
    show st_83_4 1 p _ a k d = _
    unfold st_83_4
    rw [n57, n49, if_pos (by omega), show (50 : Int) + 1 = 51 by decide, show (58 : Int) + 2 = 60 by decide, t2, t1]
    show (if perO w k = p then _ else _) = _
    by_cases c1 : perO w k = p
    · rw [if_pos c1, if_pos c1]
    · rw [if_neg c1, if_neg c1]
def fin246 (p b a c e : Int) (D : mD) : Int := if b = 0 then D 770 (420 + 2 * p + 1) else if b = 1 then a else if b = 2 then c else if b = 3 then v_245 769 p 0 D else if b = 4 then v_245 769 p 1 D else if b = 5 then v_245 769 p 2 D else if b = 6 then e else if b = 7 then v_217 769 p D else if b = 8 then v_233 769 p D else v_244 769 p 1 D
theorem l246b {p b a c : Int} {D : mD} : ∀ (n : Nat) (e k : Int), 0 ≤ k → k ≤ D 770 10 → D 770 10 - k ≤ (n : Int) → (lp_246_140 769 p b n a c e k D).2 = D ∧ (lp_246_140 769 p b n a c e k D).1 = fin246 p b a c (e + (csum (fun k => if perO (D 770) k = p then 1 else 0) (D 770 10).toNat - csum (fun k => if perO (D 770) k = p then 1 else 0) k.toNat)) D := by
  have last : ∀ (r : Int → Int → Int → Int → mD → Int × mD) (e k : Int), k = D 770 10 → (st_246_140 769 p b r a c e k D).2 = D ∧ (st_246_140 769 p b r a c e k D).1 = fin246 p b a c (e + (csum (fun k => if perO (D 770) k = p then 1 else 0) (D 770 10).toNat - csum (fun k => if perO (D 770) k = p then 1 else 0) k.toNat)) D := fun r e k hk => by
    unfold st_246_140 fin246
    rw [n7691, if_neg (by omega), hk, Int.sub_self, Int.add_zero]
    constructor
    · repeat' apply sndI
      all_goals rfl
    · repeat' apply fstI
      all_goals rfl
  intro n
  induction n with
  | zero =>
    intro e k h0 h1 h2
    exact last _ e k (by omega)
  | succ n ih =>
    intro e k h0 h1 h2
    by_cases q : k < D 770 10
    · have st : lp_246_140 769 p b (n + 1) a c e k D = lp_246_140 769 p b n a c (e + (if perO (D 770) k = p then 1 else 0)) (k + 1) D := by
        show st_246_140 769 p b _ a c e k D = _
        unfold st_246_140
        rw [n7691, if_pos q, show v_215 769 k D = perO (D 770) k from rfl]
        by_cases z : perO (D 770) k = p
        · rw [if_pos z, if_pos z]
        · rw [if_neg z, if_neg z]
      rw [st]
      obtain ⟨i1, i2⟩ := ih (e + (if perO (D 770) k = p then 1 else 0)) (k + 1) (by omega) (by omega) (by omega)
      refine ⟨i1, i2.trans ?_⟩
      rw [csum_s _ h0]
      congr 1
      generalize (if perO (D 770) k = p then (1 : Int) else 0) = z
      omega
    · exact last _ e k (by omega)
theorem l246 {p b : Int} {D : mD} (h10 : 0 ≤ D 770 10 ∧ D 770 10 ≤ 200) : ∀ (n : Nat) (a c k : Int), 0 ≤ k → k ≤ D 770 9 → D 770 9 - k ≤ (n : Int) → (lp_246_50 769 p b n a c k D).2 = D ∧ (lp_246_50 769 p b n a c k D).1 = fin246 p b (a + (csum (fun t => if D 770 (452 + 24 * t + 0) = p then 1 else 0) (D 770 9).toNat - csum (fun t => if D 770 (452 + 24 * t + 0) = p then 1 else 0) k.toNat)) (c + (csum (fun t => if D 770 (452 + 24 * t + 0) = p ∧ D 770 (452 + 24 * t + 4) = 0 then 1 else 0) (D 770 9).toNat - csum (fun t => if D 770 (452 + 24 * t + 0) = p ∧ D 770 (452 + 24 * t + 4) = 0 then 1 else 0) k.toNat)) (csum (fun k => if perO (D 770) k = p then 1 else 0) (D 770 10).toNat) D := by
  have last : ∀ (r : Int → Int → Int → mD → Int × mD) (a c k : Int), k = D 770 9 → (st_246_50 769 p b r a c k D).2 = D ∧ (st_246_50 769 p b r a c k D).1 = fin246 p b (a + (csum (fun t => if D 770 (452 + 24 * t + 0) = p then 1 else 0) (D 770 9).toNat - csum (fun t => if D 770 (452 + 24 * t + 0) = p then 1 else 0) k.toNat)) (c + (csum (fun t => if D 770 (452 + 24 * t + 0) = p ∧ D 770 (452 + 24 * t + 4) = 0 then 1 else 0) (D 770 9).toNat - csum (fun t => if D 770 (452 + 24 * t + 0) = p ∧ D 770 (452 + 24 * t + 4) = 0 then 1 else 0) k.toNat)) (csum (fun k => if perO (D 770) k = p then 1 else 0) (D 770 10).toNat) D := fun r a c k hk => by
    have nk : ¬ k < D 770 9 := by omega
    obtain ⟨i1, i2⟩ := l246b (p := p) (b := b) (a := a) (c := c) (D := D) (200 - 0 : Int).toNat 0 0 (by decide) h10.1 (by omega)
    have st : st_246_50 769 p b r a c k D = lp_246_140 769 p b (200 - 0 : Int).toNat a c 0 0 D := by
      unfold st_246_50
      rw [n7691, if_neg nk]
    rw [st]
    refine ⟨i1, i2.trans ?_⟩
    rw [hk, show csum (fun k => if perO (D 770) k = p then 1 else 0) (0 : Int).toNat = 0 from rfl]
    congr 1 <;> omega
  intro n
  induction n with
  | zero =>
    intro a c k h0 h1 h2
    exact last _ a c k (by omega)
  | succ n ih =>
    intro a c k h0 h1 h2
    by_cases q : k < D 770 9
    · have st : lp_246_50 769 p b (n + 1) a c k D = lp_246_50 769 p b n (a + (if D 770 (452 + 24 * k + 0) = p then 1 else 0)) (c + (if D 770 (452 + 24 * k + 0) = p ∧ D 770 (452 + 24 * k + 4) = 0 then 1 else 0)) (k + 1) D := by
        show st_246_50 769 p b _ a c k D = _
        unfold st_246_50
        rw [n7691, if_pos q]
        by_cases z : D 770 (452 + 24 * k + 0) = p
        · by_cases z4 : D 770 (452 + 24 * k + 4) = 0
          · rw [if_pos z, if_pos z4, if_pos z, if_pos ⟨z, z4⟩]
          · rw [if_pos z, if_neg z4, if_pos z, if_neg (fun y => z4 y.2)]
        · rw [if_neg z, if_neg z, if_neg (fun y => z y.1)]
      rw [st]
      obtain ⟨i1, i2⟩ := ih (a + (if D 770 (452 + 24 * k + 0) = p then 1 else 0)) (c + (if D 770 (452 + 24 * k + 0) = p ∧ D 770 (452 + 24 * k + 4) = 0 then 1 else 0)) (k + 1) (by omega) (by omega) (by omega)
      refine ⟨i1, i2.trans ?_⟩
      rw [csum_s _ h0, csum_s _ h0]
      generalize (if D 770 (452 + 24 * k + 0) = p then (1 : Int) else 0) = z
      generalize (if D 770 (452 + 24 * k + 0) = p ∧ D 770 (452 + 24 * k + 4) = 0 then (1 : Int) else 0) = z2
      congr 1 <;> omega
    · exact last _ a c k (by omega)
