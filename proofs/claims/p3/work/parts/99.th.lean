/-! ===== what is kept: undo's history and the saved states ===== -/
def OKR (s : Int) (d : mD) (w : Row) : Prop := GG w ∧ GWt w ∧ GP w ∧ w 0 ≤ 999 ∧ Rel s d w
theorem GWt.row {w w' : Row} (e : REq w w') (hn : GN w) (h : GWt w) : GWt w' := by
  obtain ⟨n7, n8, n9, n10, -⟩ := hn
  intro t x y q u v
  rw [e 9 (by omega) (by omega)] at y
  rw [e 8 (by omega) (by omega)] at u
  rw [e _ (by omega) (by omega)]
  exact h t x y q u v
theorem GP.row {w w' : Row} (e : REq w w') (hn : GN w) (h : GP w) : GP w' := by
  obtain ⟨n7, n8, n9, n10, -⟩ := hn
  intro p x y
  rw [e 8 (by omega) (by omega)] at y
  rw [e _ (by omega) (by omega), C2_of (e 10 (by omega) (by omega)) (fun k a b => by rw [e _ (by omega) (by omega)])]
  exact h p x y
theorem OKR.row {s : Int} {d : mD} {w w' : Row} (e : REq w w') (h : OKR s d w) : OKR s d w' := by
  obtain ⟨a, b, c, t, r⟩ := h
  exact ⟨a.row e, b.row e a.1, c.row e a.1, by rw [e 0 (by omega) (by omega)]; exact t, r.row e a⟩
theorem OKR.cls {s s' : Int} {d d' : mD} {w : Row} (hc : CEq s d s' d') (h : OKR s d w) : OKR s' d' w := by
  obtain ⟨a, b, c, t, r⟩ := h
  exact ⟨a, b, c, t, r.cls a.1 a.2.1 hc⟩
theorem OKR.fr {s : Int} {d d' : mD} {w : Row} (e : ∀ b, s ≤ b → b ≤ s + 62 → d' b = d b) (h : OKR s d w) : OKR s d' w := by
  obtain ⟨a, b, c, t, r⟩ := h
  have n8 := a.1.2.1
  have p8 := r.2.2.2.1.1
  refine ⟨a, b, c, t, r.cls a.1 a.2.1 ⟨⟨by rw [e s (by omega) (by omega)], by rw [e s (by omega) (by omega)], fun k _ _ => by rw [e _ (by omega) (by omega)]⟩, ⟨by rw [e _ (by omega) (by omega)], fun o _ _ => ?_⟩, fun i _ _ => by rw [e _ (by omega) (by omega)], ⟨by rw [e _ (by omega) (by omega)], fun p _ _ => ?_⟩, fun p _ _ i _ _ => by rw [e _ (by omega) (by omega)], ⟨by rw [e _ (by omega) (by omega)], fun t _ _ => ?_⟩, ⟨by rw [e _ (by omega) (by omega)], fun k _ _ => ?_⟩, by rw [e _ (by omega) (by omega)], fun k _ _ => by rw [e _ (by omega) (by omega)]⟩⟩
  · rw [e (s + 3) (by omega) (by omega), e (s + 4) (by omega) (by omega), e (s + 5) (by omega) (by omega), e (s + 6) (by omega) (by omega), e (s + 7) (by omega) (by omega), e (s + 8) (by omega) (by omega)]
    exact ⟨rfl, rfl, rfl, rfl, rfl, rfl⟩
  · rw [e (s + 11) (by omega) (by omega), e (s + 12) (by omega) (by omega), e (s + 13) (by omega) (by omega), e (s + 14) (by omega) (by omega), e (s + 15) (by omega) (by omega)]
    exact ⟨rfl, rfl, rfl, rfl, rfl⟩
  · rw [e (s + 50) (by omega) (by omega), e (s + 51) (by omega) (by omega), e (s + 52) (by omega) (by omega), e (s + 53) (by omega) (by omega), e (s + 54) (by omega) (by omega), e (s + 55) (by omega) (by omega), e (s + 56) (by omega) (by omega)]
    exact ⟨rfl, rfl, rfl, rfl, rfl, rfl, rfl⟩
  · rw [e (s + 58) (by omega) (by omega), e (s + 59) (by omega) (by omega), e (s + 60) (by omega) (by omega), e (s + 61) (by omega) (by omega)]
    exact ⟨rfl, rfl, rfl, rfl⟩
theorem cpyF {a s : Int} (hx : a + 63 ≤ s ∨ s + 63 ≤ a) (d : mD) (h16 : d (s + 10) 0 ≤ 16) : ∀ b, (b < a ∨ a + 62 < b) → g_59 a s d b = d b := by
  intro b hb
  unfold g_59
  generalize hd1 : (mset (mset (mcopy d (s + 1) 0 (a + 1) 0 5) a 1 (d s 1)) a 2 (d s 2)) = d1
  have f1 : ∀ b, (b < a ∨ a + 1 < b) → d1 b = d b := fun b hb => by
    rw [← hd1]
    funext j
    simp (disch := omega) only [mc_n, ms_a]
  obtain ⟨a1, -⟩ := c34 hx d1
  generalize g_34 (a + 2) (s + 2) d1 = d2 at *
  obtain ⟨b1, -⟩ := c46 hx d2 (by rw [a1 _ (by omega), f1 _ (by omega)]; exact h16)
  generalize g_46 (a + 10) (s + 10) d2 = d3 at *
  obtain ⟨c1, -⟩ := c95 hx d3
  generalize g_95 (a + 49) (s + 49) d3 = d4 at *
  obtain ⟨e1, -⟩ := c108 hx d4
  rw [e1 b (by omega), c1 b (by omega), b1 b (by omega), a1 b (by omega), f1 b (by omega)]
theorem OKR.copy {a s : Int} {d : mD} {w : Row} (hx : a + 63 ≤ s ∨ s + 63 ≤ a) (h : OKR s d w) : OKR a (g_59 a s d) w ∧ ∀ b, (b < a ∨ a + 62 < b) → g_59 a s d b = d b := by
  have n8 := h.1.1.2.1
  have p8 := h.2.2.2.2.2.2.2.1.1
  exact ⟨h.cls (cpy hx d (by omega)), cpyF hx d (by omega)⟩
-- loops that copy rows
theorem copyLoop {α : Type} {L : Nat → Int → mD → α} {F : mD → α} {I : mD → Prop} {A B C D N : Int} (hAC : ¬ A = C) (hI : ∀ d j v, I d → I (mset d A j v)) (hz : ∀ n x d, I d → N ≤ x → L n x d = F d) (hs : ∀ n x d, I d → x < N → L (n + 1) x d = L n (x + 1) (mset d A (B + x) (d C (D + x)))) : ∀ (n : Nat) (x : Int) (d : mD), I d → x ≤ N → N - x ≤ (n : Int) → ∃ d', L n x d = F d' ∧ (∀ b, ¬ b = A → d' b = d b) ∧ (∀ i, x ≤ i → i < N → d' A (B + i) = d C (D + i)) ∧ ∀ j, ¬ (B + x ≤ j ∧ j < B + N) → d' A j = d A j := by
  intro n
  induction n with
  | zero =>
    intro x d hi a b
    exact ⟨d, hz 0 x d hi (by omega), fun _ _ => rfl, fun i u v => by omega, fun _ _ => rfl⟩
  | succ n ih =>
    intro x d hi a b
    by_cases c : x < N
    · obtain ⟨d', q1, q2, q3, q4⟩ := ih (x + 1) (mset d A (B + x) (d C (D + x))) (hI _ _ _ hi) (by omega) (by omega)
      refine ⟨d', (hs n x d hi c).trans q1, fun b hb => ?_, fun i u v => ?_, fun j hj => ?_⟩
      · rw [q2 b hb]
        funext j
        exact ms_a hb
      · by_cases z : i = x
        · rw [z, q4 _ (by omega), ms_e rfl rfl]
        · rw [q3 i (by omega) v, ms_a (fun y => hAC y.symm)]
      · rw [q4 j (by omega), ms_i (by omega)]
    · exact ⟨d, hz (n + 1) x d hi (by omega), fun _ _ => rfl, fun i u v => by omega, fun _ _ => rfl⟩
theorem shiftLoop {α : Type} {L : Nat → Int → mD → α} {F : mD → α} {I : mD → Prop} {A S N : Int} (hS : 0 < S) (hI : ∀ d j v, I d → I (mset d A j v)) (hz : ∀ n x d, I d → N ≤ x → L n x d = F d) (hs : ∀ n x d, I d → x < N → L (n + 1) x d = L n (x + 1) (mset d A (x - S) (d A x))) : ∀ (n : Nat) (x : Int) (d : mD), I d → x ≤ N → N - x ≤ (n : Int) → ∃ d', L n x d = F d' ∧ (∀ b, ¬ b = A → d' b = d b) ∧ (∀ i, x ≤ i → i < N → d' A (i - S) = d A i) ∧ (∀ j, N - S ≤ j → d' A j = d A j) ∧ ∀ j, j < x - S → d' A j = d A j := by
  intro n
  induction n with
  | zero =>
    intro x d hi a b
    exact ⟨d, hz 0 x d hi (by omega), fun _ _ => rfl, fun i u v => by omega, fun _ _ => rfl, fun _ _ => rfl⟩
  | succ n ih =>
    intro x d hi a b
    by_cases c : x < N
    · obtain ⟨d', q1, q2, q3, q4, q5⟩ := ih (x + 1) (mset d A (x - S) (d A x)) (hI _ _ _ hi) (by omega) (by omega)
      refine ⟨d', (hs n x d hi c).trans q1, fun b hb => ?_, fun i u v => ?_, fun j hj => ?_, fun j hj => ?_⟩
      · rw [q2 b hb]
        funext j
        exact ms_a hb
      · by_cases z : i = x
        · rw [z, q5 _ (by omega), ms_e rfl rfl]
        · rw [q3 i (by omega) v, ms_i (by omega)]
      · rw [q4 j hj, ms_i (by omega)]
      · rw [q5 j (by omega), ms_i (by omega)]
    · exact ⟨d, hz (n + 1) x d hi (by omega), fun _ _ => rfl, fun i u v => by omega, fun _ _ => rfl, fun _ _ => rfl⟩
-- keeps: the row behind the others; of eight the oldest goes
def KeepW (d d' : mD) : Prop := (∀ b, ¬ b = 769 → ¬ b = 771 → d' b = d b) ∧ (∀ j, ¬ j = 7 → d' 769 j = d 769 j) ∧ ((¬ d 769 7 = 8 ∧ d' 769 7 = d 769 7 + 1 ∧ (∀ i, 0 ≤ i → i < 3116 → d' 771 (3116 * d 769 7 + i) = d 770 i) ∧ ∀ j, j < 3116 * d 769 7 → d' 771 j = d 771 j) ∨ (d 769 7 = 8 ∧ d' 769 7 = 8 ∧ (∀ i, 0 ≤ i → i < 3116 → d' 771 (3116 * 7 + i) = d 770 i) ∧ ∀ j, 0 ≤ j → j < 21812 → d' 771 j = d 771 (j + 3116)))
theorem lp278 {d : mD} {u : Int} (h : d 769 7 = u) : ∃ d', lp_278_54 769 (3116 - 0 : Int).toNat 0 d = mset d' 769 7 (u + 1) ∧ (∀ b, ¬ b = 771 → d' b = d b) ∧ (∀ i, 0 ≤ i → i < 3116 → d' 771 (3116 * u + i) = d 770 i) ∧ ∀ j, ¬ (3116 * u ≤ j ∧ j < 3116 * u + 3116) → d' 771 j = d 771 j := by
  obtain ⟨d', q1, q2, q3, q4⟩ := copyLoop (L := lp_278_54 769) (F := fun d => mset d 769 7 (u + 1)) (I := fun d => d 769 7 = u) (A := 771) (B := 3116 * u) (C := 770) (D := 0) (N := 3116) (by decide) (fun d j v hi => by show mset d 771 j v 769 7 = u; rw [ms_a (by decide)]; exact hi) (fun n x d hi hx => by
    have st : ∀ r, st_278_54 769 r x d = mset d 769 7 (u + 1) := fun r => by
      unfold st_278_54
      rw [if_neg (by omega), hi]
    cases n with
    | zero => exact st _
    | succ n => exact st _) (fun n x d hi hx => by
    show st_278_54 769 _ x d = _
    unfold st_278_54
    rw [if_pos hx, hi, Int.zero_add]
    rfl) (3116 - 0 : Int).toNat 0 d h (by decide) (by decide)
  refine ⟨d', q1, q2, fun i a b => ?_, fun j hj => q4 j (by omega)⟩
  have := q3 i a b
  rw [Int.zero_add] at this
  exact this
theorem keep278 {d : mD} : KeepW d (g_278 769 d) := by
  unfold g_278
  by_cases c : d 769 7 = 8
  · rw [if_pos c]
    obtain ⟨d1, q1, q2, q3, q4, q5⟩ := shiftLoop (L := lp_278_13 769) (F := fun d => lp_278_54 769 (3116 - 0 : Int).toNat 0 (mset d 769 7 (d 769 7 - 1))) (I := fun _ => True) (A := 771) (S := 3116) (N := 24928) (by decide) (fun _ _ _ _ => trivial) (fun n x d _ hx => by
      have st : ∀ r, st_278_13 769 r x d = lp_278_54 769 (3116 - 0 : Int).toNat 0 (mset d 769 7 (d 769 7 - 1)) := fun r => by
        unfold st_278_13
        rw [if_neg (by omega)]
      cases n with
      | zero => exact st _
      | succ n => exact st _) (fun n x d _ hx => by
      show st_278_13 769 _ x d = _
      unfold st_278_13
      rw [if_pos hx]
      rfl) (24928 - 3116 : Int).toNat 3116 d trivial (by decide) (by decide)
    have e7 : d1 769 7 = 8 := by rw [q2 769 (by decide)]; exact c
    obtain ⟨d2, p1, p2, p3, p4⟩ := lp278 (d := mset d1 769 7 (d1 769 7 - 1)) (u := 7) (by rw [ms_e rfl rfl, e7]; rfl)
    rw [q1]
    show KeepW d (lp_278_54 769 (3116 - 0 : Int).toNat 0 (mset d1 769 7 (d1 769 7 - 1)))
    rw [p1]
    refine ⟨fun b x y => ?_, fun j hj => ?_, Or.inr ⟨c, ms_e rfl rfl, fun i a b => ?_, fun j a b => ?_⟩⟩
    · have e1 : mset d2 769 7 (7 + 1) b = d2 b := by funext j; exact ms_a x
      have e2 : mset d1 769 7 (d1 769 7 - 1) b = d1 b := by funext j; exact ms_a x
      rw [e1, p2 b y, e2, q2 b y]
    · rw [ms_i hj, p2 769 (by decide), ms_i hj, q2 769 (by decide)]
    · rw [ms_a (by decide), p3 i a b, ms_a (by decide), q2 770 (by decide)]
    · rw [ms_a (by decide), p4 j (by omega), ms_a (by decide)]
      have := q3 (j + 3116) (by omega) (by omega)
      rw [show j + 3116 - 3116 = j by omega] at this
      exact this
  · rw [if_neg c]
    obtain ⟨d2, p1, p2, p3, p4⟩ := lp278 (d := d) (u := d 769 7) rfl
    rw [p1]
    refine ⟨fun b x y => ?_, fun j hj => ?_, Or.inl ⟨c, ms_e rfl rfl, fun i a b => ?_, fun j hj => ?_⟩⟩
    · have e1 : mset d2 769 7 (d 769 7 + 1) b = d2 b := by funext j; exact ms_a x
      rw [e1, p2 b y]
    · rw [ms_i hj, p2 769 (by decide)]
    · rw [ms_a (by decide), p3 i a b]
    · rw [ms_a (by decide), p4 j (by omega)]
-- the relation of the two histories
def ksl (n c k : Int) : Int := 66 + 63 * ((n + 8 - c + k) % 8)
def HistRel (d : mD) : Prop := (0 ≤ d 64 1 ∧ d 64 1 < 8) ∧ (0 ≤ d 64 2 ∧ d 64 2 ≤ 8) ∧ d 769 7 = d 64 2 ∧ ∀ k, 0 ≤ k → k < d 64 2 → OKR (ksl (d 64 1) (d 64 2) k) d (fun i => d 771 (3116 * k + i))
def SaveRel (d : mD) : Prop := ∀ j, (j = 0 ∨ j = 1) → d 571 j = d 775 j ∧ (¬ d 775 j = 0 → OKR (643 + 63 * j) d (fun i => d 772 (3116 * j + i)))
theorem HistRel.fr {d d' : mD} (h : HistRel d) (e : ∀ b, 64 ≤ b → b ≤ 569 → d' b = d b) (e7 : d' 769 7 = d 769 7) (e1 : ∀ j, 0 ≤ j → j < 3116 * d 769 7 → d' 771 j = d 771 j) : HistRel d' := by
  obtain ⟨a, b, c, f⟩ := h
  rw [HistRel, e 64 (by decide) (by decide), e7]
  refine ⟨a, b, c, fun k x y => ?_⟩
  have g := f k x y
  have r : 66 ≤ ksl (d 64 1) (d 64 2) k ∧ ksl (d 64 1) (d 64 2) k ≤ 507 := by
    unfold ksl
    omega
  refine OKR.row (w := fun i => d 771 (3116 * k + i)) (fun i i0 i1 => ?_) (g.fr (fun b x y => e b (by omega) (by omega)))
  show d' 771 (3116 * k + i) = d 771 (3116 * k + i)
  exact e1 _ (by omega) (by omega)
theorem SaveRel.fr {d d' : mD} (h : SaveRel d) (e : ∀ b, b = 571 ∨ (643 ≤ b ∧ b ≤ 768) ∨ b = 775 ∨ b = 772 → d' b = d b) : SaveRel d' := by
  intro j hj
  obtain ⟨a, b⟩ := h j hj
  rw [e 571 (by omega), e 775 (by omega), e 772 (by omega)]
  exact ⟨a, fun z => (b z).fr (fun b x y => e b (by omega))⟩
-- the class keeps
theorem keepC {d : mD} {w : Row} (hn : 0 ≤ d 64 1 ∧ d 64 1 < 8) (h : OKR 1 d w) : OKR (66 + 63 * d 64 1) (g_2 64 1 d) w ∧ (∀ b, ¬ b = 64 → ¬ (66 + 63 * d 64 1 ≤ b ∧ b ≤ 66 + 63 * d 64 1 + 62) → g_2 64 1 d b = d b) ∧ g_2 64 1 d 64 1 = (d 64 1 + 1) % 8 ∧ g_2 64 1 d 64 2 = mmin 8 (d 64 2 + 1) := by
  obtain ⟨c1, c2⟩ := h.copy (a := 66 + 63 * d 64 1) (by omega)
  unfold g_2
  rw [show (64 : Int) + 1 + (1 + 63 * d 64 1) = 66 + 63 * d 64 1 by omega]
  generalize g_59 (66 + 63 * d 64 1) 1 d = d1 at *
  have e : ∀ b, ¬ b = 64 → mset (mset d1 64 1 ((d 64 1 + 1) % 8)) 64 2 (mmin 8 (d 64 2 + 1)) b = d1 b := fun b x => by
    funext j
    rw [ms_a x, ms_a x]
  exact ⟨c1.fr (fun b x y => e b (by omega)), fun b x y => by rw [e b x, c2 b (by omega)], by rw [ms_i (by decide), ms_e rfl rfl], ms_e rfl rfl⟩
theorem keepH {d d' : mD} (hH : HistRel d) (h : OKR 1 d (d 770)) (hc : ∀ b, 64 ≤ b → b ≤ 569 → d' b = g_2 64 1 d b) {r r' : mD} (hr : KeepW r r') (r7 : r 769 7 = d 769 7) (r0 : r 770 = d 770) (r1 : r 771 = d 771) (e7 : d' 769 7 = r' 769 7) (e1 : d' 771 = r' 771) : HistRel d' := by
  obtain ⟨hn, hc2, hu, hk⟩ := hH
  obtain ⟨c1, c2, c3, c4⟩ := keepC hn h
  obtain ⟨-, -, kw⟩ := hr
  rw [r7, r0, r1, ← e7, ← e1] at kw
  have hm : mmin 8 (d 64 2 + 1) = if d 64 2 = 8 then 8 else d 64 2 + 1 := by
    have := mmin_r 8 (d 64 2 + 1)
    split <;> omega
  have f1 : d' 64 1 = (d 64 1 + 1) % 8 := by rw [hc 64 (by decide) (by decide)]; exact c3
  have f2 : d' 64 2 = if d 64 2 = 8 then 8 else d 64 2 + 1 := by rw [hc 64 (by decide) (by decide), c4, hm]
  have new : ∀ {w : Row}, REq (d 770) w → OKR (66 + 63 * d 64 1) d' w := fun e => (c1.fr (fun b x y => hc b (by omega) (by omega))).row e
  have old : ∀ {w : Row} {a : Int}, OKR (66 + 63 * a) d w → 0 ≤ a → a < 8 → ¬ a = d 64 1 → OKR (66 + 63 * a) d' w := fun o x y z => o.fr (fun b u v => by
    rw [hc b (by omega) (by omega)]
    exact c2 b (by omega) (by omega))
  rcases kw with ⟨k0, k1, k2, k3⟩ | ⟨k0, k1, k2, k3⟩
  · rw [hu] at k0 k1 k2 k3
    rw [if_neg k0] at f2
    refine ⟨by omega, by omega, by omega, fun k x y => ?_⟩
    rw [f1, f2]
    by_cases z : k = d 64 2
    · have e : ksl ((d 64 1 + 1) % 8) (d 64 2 + 1) k = 66 + 63 * d 64 1 := by
        unfold ksl
        omega
      rw [e]
      refine new (fun i i0 i1 => ?_)
      show d' 771 (3116 * k + i) = d 770 i
      rw [z]
      exact k2 i i0 i1
    · have e : ksl ((d 64 1 + 1) % 8) (d 64 2 + 1) k = 66 + 63 * ((d 64 1 + 8 - d 64 2 + k) % 8) := by
        unfold ksl
        omega
      rw [e]
      refine OKR.row (w := fun i => d 771 (3116 * k + i)) (fun i i0 i1 => ?_) (old (hk k x (by omega)) (by omega) (by omega) (by omega))
      show d' 771 (3116 * k + i) = d 771 (3116 * k + i)
      exact k3 _ (by omega)
  · rw [hu] at k0
    rw [if_pos k0] at f2
    refine ⟨by omega, by omega, by omega, fun k x y => ?_⟩
    rw [f1, f2]
    by_cases z : k = 7
    · have e : ksl ((d 64 1 + 1) % 8) 8 k = 66 + 63 * d 64 1 := by
        unfold ksl
        omega
      rw [e]
      refine new (fun i i0 i1 => ?_)
      show d' 771 (3116 * k + i) = d 770 i
      rw [z]
      exact k2 i i0 i1
    · have e : ksl ((d 64 1 + 1) % 8) 8 k = 66 + 63 * ((d 64 1 + 8 - d 64 2 + (k + 1)) % 8) := by
        unfold ksl
        omega
      rw [e]
      refine OKR.row (w := fun i => d 771 (3116 * (k + 1) + i)) (fun i i0 i1 => ?_) (old (hk (k + 1) (by omega) (by omega)) (by omega) (by omega) (by omega))
      show d' 771 (3116 * k + i) = d 771 (3116 * (k + 1) + i)
      rw [k3 _ (by omega) (by omega), show 3116 * k + i + 3116 = 3116 * (k + 1) + i by omega]
