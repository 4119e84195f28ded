/-! ===== undo, save, restore ===== -/
def UndoW (d d' : mD) : Prop := (∀ b, ¬ b = 769 → ¬ b = 770 → d' b = d b) ∧ (∀ j, ¬ j = 7 → ¬ j = 0 → d' 769 j = d 769 j) ∧ d' 769 0 = 0 ∧ d' 769 7 = d 769 7 - 1 ∧ ∀ i, 0 ≤ i → i < 3116 → d' 770 i = d 771 (3116 * (d 769 7 - 1) + i)
theorem undo294 {d : mD} (h : 0 < d 769 7) : v_294 769 d = d 769 7 - 1 ∧ UndoW d (g_294 769 d) := by
  obtain ⟨d', q1, q2, q3, q4⟩ := copyLoop (L := lp_294_37 769) (F := fun e => (e 769 7, e)) (I := fun e => e 769 7 = d 769 7 - 1) (A := 770) (B := 0) (C := 771) (D := 3116 * (d 769 7 - 1)) (N := 3116) (by decide) (fun e j v hi => by show mset e 770 j v 769 7 = _; rw [ms_a (by decide)]; exact hi) (fun n x e hi hx => by
    have st : ∀ r, st_294_37 769 r x e = (e 769 7, e) := fun r => by
      unfold st_294_37
      rw [if_neg (by omega)]
    cases n with
    | zero => exact st _
    | succ n => exact st _) (fun n x e hi hx => by
    show st_294_37 769 _ x e = _
    unfold st_294_37
    rw [if_pos hx, hi, Int.zero_add]
    rfl) (3116 - 0 : Int).toNat 0 (mset (mset d 769 0 0) 769 7 (d 769 7 - 1)) (ms_e rfl rfl) (by decide) (by decide)
  have e : f_294 769 d = (d' 769 7, d') := by
    unfold f_294
    rw [if_pos h]
    exact q1
  unfold v_294 g_294
  rw [e]
  have d7 : d' 769 = (mset (mset d 769 0 0) 769 7 (d 769 7 - 1)) 769 := q2 769 (by decide)
  refine ⟨?_, fun b x y => ?_, fun j x y => ?_, ?_, ?_, fun i a b => ?_⟩
  · show d' 769 7 = _
    rw [d7, ms_e rfl rfl]
  · show d' b = d b
    rw [q2 b y]
    funext j
    rw [ms_a x, ms_a x]
  · show d' 769 j = _
    rw [d7, ms_i x, ms_i y]
  · show d' 769 0 = 0
    rw [d7, ms_i (by decide), ms_e rfl rfl]
  · show d' 769 7 = _
    rw [d7, ms_e rfl rfl]
  · show d' 770 i = _
    have := q3 i a b
    rw [Int.zero_add, ms_a (by decide), ms_a (by decide)] at this
    exact this
theorem undoC {d : mD} {w : Row} (hn : 0 ≤ d 64 1 ∧ d 64 1 < 8) (h : OKR (66 + 63 * ((d 64 1 + 8 - 1) % 8)) d w) : OKR 1 (g_3 64 1 d) w ∧ (∀ b, ¬ b = 64 → ¬ (1 ≤ b ∧ b ≤ 63) → g_3 64 1 d b = d b) ∧ g_3 64 1 d 64 1 = (d 64 1 + 8 - 1) % 8 ∧ g_3 64 1 d 64 2 = d 64 2 - 1 := by
  unfold g_3
  have e : ∀ b, ¬ b = 64 → mset (mset d 64 1 ((d 64 1 + 8 - 1) % 8)) 64 2 (d 64 2 - 1) b = d b := fun b x => by
    funext j
    rw [ms_a x, ms_a x]
  have e1 : mset (mset d 64 1 ((d 64 1 + 8 - 1) % 8)) 64 2 (d 64 2 - 1) 64 1 = (d 64 1 + 8 - 1) % 8 := by
    rw [ms_i (by decide), ms_e rfl rfl]
  have e2 : mset (mset d 64 1 ((d 64 1 + 8 - 1) % 8)) 64 2 (d 64 2 - 1) 64 2 = d 64 2 - 1 := ms_e rfl rfl
  rw [show (64 : Int) + 1 + (1 + 63 * ((d 64 1 + 8 - 1) % 8)) = 66 + 63 * ((d 64 1 + 8 - 1) % 8) by omega]
  generalize mset (mset d 64 1 ((d 64 1 + 8 - 1) % 8)) 64 2 (d 64 2 - 1) = d1 at *
  obtain ⟨c1, c2⟩ := (h.fr (d' := d1) (fun b x y => e b (by omega))).copy (a := 1) (by omega)
  refine ⟨c1, fun b x y => by rw [c2 b (by omega), e b x], ?_, ?_⟩
  · rw [c2 64 (by omega), e1]
  · rw [c2 64 (by omega), e2]
theorem undoH {d d' : mD} (hH : HistRel d) (hp : 0 < d 64 2) (hc : ∀ b, 1 ≤ b → b ≤ 569 → d' b = g_3 64 1 d b) {r r' : mD} (hr : UndoW r r') (r7 : r 769 7 = d 769 7) (r1 : r 771 = d 771) (e7 : d' 769 7 = r' 769 7) (e0 : d' 770 = r' 770) (e1 : d' 771 = r' 771) : HistRel d' ∧ OKR 1 d' (d' 770) := by
  obtain ⟨hn, hc2, hu, hk⟩ := hH
  have top := hk (d 64 2 - 1) (by omega) (by omega)
  have et : ksl (d 64 1) (d 64 2) (d 64 2 - 1) = 66 + 63 * ((d 64 1 + 8 - 1) % 8) := by
    unfold ksl
    omega
  rw [et] at top
  obtain ⟨c1, c2, c3, c4⟩ := undoC hn top
  obtain ⟨u1, -, -, u2, u3⟩ := hr
  rw [r7, ← e7, hu] at u2
  rw [r7, r1, ← e0, hu] at u3
  have f1 : d' 64 1 = (d 64 1 + 8 - 1) % 8 := by rw [hc 64 (by decide) (by decide)]; exact c3
  have f2 : d' 64 2 = d 64 2 - 1 := by rw [hc 64 (by decide) (by decide)]; exact c4
  have f3 : d' 771 = d 771 := by rw [e1, u1 771 (by decide) (by decide), r1]
  refine ⟨⟨by omega, by omega, by omega, fun k x y => ?_⟩, ?_⟩
  · rw [f1, f2, f3]
    rw [f2] at y
    have e : ksl ((d 64 1 + 8 - 1) % 8) (d 64 2 - 1) k = ksl (d 64 1) (d 64 2) k := by
      unfold ksl
      omega
    rw [e]
    have r : 66 ≤ ksl (d 64 1) (d 64 2) k ∧ ksl (d 64 1) (d 64 2) k ≤ 507 := by
      unfold ksl
      omega
    exact (hk k x (by omega)).fr (fun b x y => by rw [hc b (by omega) (by omega), c2 b (by omega) (by omega)])
  · refine OKR.row (w := fun i => d 771 (3116 * (d 64 2 - 1) + i)) (fun i a b => u3 i a b) (c1.fr (fun b x y => hc b (by omega) (by omega)))
-- nothing can be undone
theorem noneH {d' : mD} (h1 : 0 ≤ d' 64 1 ∧ d' 64 1 < 8) (h2 : d' 64 2 = 0) (h7 : d' 769 7 = 0) : HistRel d' := ⟨h1, by omega, by omega, fun k x y => by omega⟩
-- save
def SaveW (a : Int) (d d' : mD) : Prop := (∀ b, ¬ b = 772 → ¬ b = 775 → d' b = d b) ∧ d' 775 a = 1 ∧ (∀ j, ¬ j = a → d' 775 j = d 775 j) ∧ (∀ i, 0 ≤ i → i < 3116 → d' 772 (3116 * a + i) = d 770 i) ∧ ∀ j, ¬ (3116 * a ≤ j ∧ j < 3116 * a + 3116) → d' 772 j = d 772 j
theorem save295 {a : Int} {d : mD} : SaveW a d (lp_295_29 769 a (3116 - 0 : Int).toNat 0 d) := by
  obtain ⟨d', q1, q2, q3, q4⟩ := copyLoop (L := lp_295_29 769 a) (F := fun e => mset e 775 a 1) (I := fun _ => True) (A := 772) (B := 3116 * a) (C := 770) (D := 0) (N := 3116) (by decide) (fun _ _ _ _ => trivial) (fun n x e _ hx => by
    have st : ∀ r, st_295_29 769 a r x e = mset e 775 a 1 := fun r => by
      unfold st_295_29
      rw [if_neg (by omega)]
      rfl
    cases n with
    | zero => exact st _
    | succ n => exact st _) (fun n x e _ hx => by
    show st_295_29 769 a _ x e = _
    unfold st_295_29
    rw [if_pos hx, Int.zero_add]
    rfl) (3116 - 0 : Int).toNat 0 d trivial (by decide) (by decide)
  rw [q1]
  refine ⟨fun b x y => ?_, ms_e rfl rfl, fun j hj => ?_, fun i x y => ?_, fun j hj => ?_⟩
  · show mset d' 775 a 1 b = _
    rw [← q2 b x]
    funext j
    exact ms_a y
  · show mset d' 775 a 1 775 j = _
    rw [ms_i hj, q2 775 (by decide)]
  · show mset d' 775 a 1 772 _ = _
    rw [ms_a (by decide), q3 i x y, Int.zero_add]
  · show mset d' 775 a 1 772 _ = _
    rw [ms_a (by decide)]
    exact q4 j (by omega)
theorem saveH {a : Int} {d d' : mD} (ha : a = 0 ∨ a = 1) (hS : SaveRel d) (h : OKR 1 d (d 770)) (hc : ∀ b, 571 ≤ b → b ≤ 768 → d' b = mset (g_59 (643 + 63 * a) 1 d) 571 a 1 b) {r r' : mD} (hr : SaveW a r r') (r0 : r 770 = d 770) (r2 : r 772 = d 772) (r5 : r 775 = d 775) (e2 : d' 772 = r' 772) (e5 : d' 775 = r' 775) : SaveRel d' := by
  obtain ⟨c1, c2⟩ := h.copy (a := 643 + 63 * a) (by omega)
  obtain ⟨-, u1, u2, u3, u4⟩ := hr
  rw [← e5] at u1
  rw [← e5, r5] at u2
  rw [← e2, r0] at u3
  rw [← e2, r2] at u4
  have g571 : g_59 (643 + 63 * a) 1 d 571 = d 571 := c2 571 (by omega)
  intro j hj
  by_cases z : j = a
  · refine ⟨?_, fun _ => ?_⟩
    · rw [hc 571 (by decide) (by decide), z, ms_e rfl rfl, u1]
    · rw [z]
      refine OKR.row (w := d 770) (fun i x y => u3 i x y) (c1.fr (fun b x y => ?_))
      rw [hc b (by omega) (by omega)]
      funext k
      exact ms_a (by omega)
  · obtain ⟨s1, s2⟩ := hS j hj
    refine ⟨?_, fun y => ?_⟩
    · rw [hc 571 (by decide) (by decide), ms_i z, u2 j z, g571]
      exact s1
    · rw [u2 j z] at y
      refine OKR.row (w := fun i => d 772 (3116 * j + i)) (fun i x y => u4 _ (by omega)) ((s2 y).fr (fun b x y => ?_))
      rw [hc b (by omega) (by omega), ← c2 b (by omega)]
      funext k
      exact ms_a (by omega)
-- restore
def RestW (a : Int) (d d' : mD) : Prop := (∀ b, ¬ b = 769 → ¬ b = 770 → d' b = d b) ∧ d' 769 7 = 0 ∧ (∀ j, ¬ j = 7 → d' 769 j = d 769 j) ∧ ∀ i, 0 ≤ i → i < 3116 → d' 770 i = d 772 (3116 * a + i)
theorem rest296 {a : Int} {d : mD} : RestW a d (lp_296_42 769 a (3116 - 0 : Int).toNat 0 d) := by
  obtain ⟨d', q1, q2, q3, q4⟩ := copyLoop (L := lp_296_42 769 a) (F := fun e => mset e 769 7 0) (I := fun _ => True) (A := 770) (B := 0) (C := 772) (D := 3116 * a) (N := 3116) (by decide) (fun _ _ _ _ => trivial) (fun n x e _ hx => by
    have st : ∀ r, st_296_42 769 a r x e = mset e 769 7 0 := fun r => by
      unfold st_296_42
      rw [if_neg (by omega)]
    cases n with
    | zero => exact st _
    | succ n => exact st _) (fun n x e _ hx => by
    show st_296_42 769 a _ x e = _
    unfold st_296_42
    rw [if_pos hx, Int.zero_add]
    rfl) (3116 - 0 : Int).toNat 0 d trivial (by decide) (by decide)
  rw [q1]
  refine ⟨fun b x y => ?_, ms_e rfl rfl, fun j hj => ?_, fun i x y => ?_⟩
  · show mset d' 769 7 0 b = _
    rw [← q2 b y]
    funext j
    exact ms_a x
  · show mset d' 769 7 0 769 j = _
    rw [ms_i hj, q2 769 (by decide)]
  · show mset d' 769 7 0 770 _ = _
    have := q3 i x y
    rw [Int.zero_add] at this
    rw [ms_a (by decide), this]
theorem restH {a : Int} {d d' : mD} (ha : a = 0 ∨ a = 1) (hS : SaveRel d) (hv : ¬ d 775 a = 0) (hn : 0 ≤ d 64 1 ∧ d 64 1 < 8) (hc : ∀ b, 1 ≤ b → b ≤ 65 → d' b = g_4 64 (g_59 1 (643 + 63 * a) d) b) {r r' : mD} (hr : RestW a r r') (r2 : r 772 = d 772) (e7 : d' 769 7 = r' 769 7) (e0 : d' 770 = r' 770) : HistRel d' ∧ OKR 1 d' (d' 770) := by
  obtain ⟨-, u1, -, u2⟩ := hr
  rw [← e7] at u1
  rw [← e0, r2] at u2
  obtain ⟨c1, c2⟩ := ((hS a ha).2 hv).copy (a := 1) (by omega)
  have f64 : d' 64 = g_4 64 (g_59 1 (643 + 63 * a) d) 64 := hc 64 (by decide) (by decide)
  refine ⟨noneH ?_ ?_ u1, OKR.row (w := fun i => d 772 (3116 * a + i)) (fun i x y => u2 i x y) (c1.fr (fun b x y => ?_))⟩
  · rw [f64]
    unfold g_4
    rw [ms_i (by decide), c2 64 (by omega)]
    exact hn
  · rw [f64]
    unfold g_4
    exact ms_e rfl rfl
  · rw [hc b (by omega) (by omega)]
    unfold g_4
    funext k
    exact ms_a (by omega)
