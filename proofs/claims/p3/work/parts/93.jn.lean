/-! ===== joining a queue ===== -/
theorem csum_add {f g : Int → Int} : ∀ n : Nat, csum (fun i => f i + g i) n = csum f n + csum g n
  | 0 => rfl
  | n + 1 => by
    show csum (fun i => f i + g i) n + (f (n : Int) + g (n : Int)) = csum f n + f (n : Int) + (csum g n + g (n : Int))
    rw [csum_add n]
    omega
theorem csum_swap {h : Int → Int → Int} (N : Nat) : ∀ L : Nat, csum (fun k => csum (fun q => h k q) N) L = csum (fun q => csum (fun k => h k q) L) N
  | 0 => by
    show 0 = csum (fun q => 0) N
    exact (csum_zero (fun _ _ _ => rfl)).symm
  | L + 1 => by
    show csum (fun k => csum (fun q => h k q) N) L + csum (fun q => h (L : Int) q) N = csum (fun q => csum (fun k => h k q) L + h (L : Int) q) N
    rw [csum_swap N L, csum_add]
theorem csum_pt {N : Nat} {x : Int} (h0 : 0 ≤ x) (h1 : x < (N : Int)) : csum (fun q => if x = q then 1 else 0) N = 1 := by
  have h := csum_upd (f := fun q => if x = q then 1 else 0) (g := fun _ => 0) (n := N) (k := x) h0 h1 (fun i a b c => by
    show (if x = i then (1 : Int) else 0) = 0
    rw [if_neg (fun z => c z.symm)])
  rw [h, csum_zero (fun _ _ _ => rfl)]
  simp
theorem csum_const {N : Nat} {c : Int} : csum (fun _ => c) N = (N : Int) * c := by
  induction N with
  | zero => simp [csum]
  | succ n ih =>
    show csum (fun _ => c) n + c = _
    rw [ih, Int.natCast_add, Int.add_mul]
    simp
theorem pigeon {f : Int → Int} {L N : Nat} (hr : ∀ k : Int, 0 ≤ k → k < (L : Int) → 0 ≤ f k ∧ f k < (N : Int)) (hi : ∀ k i : Int, 0 ≤ i → i < k → k < (L : Int) → ¬ f i = f k) {p : Int} (p0 : 0 ≤ p) (p1 : p < (N : Int)) (hp : ∀ k : Int, 0 ≤ k → k < (L : Int) → ¬ f k = p) : (L : Int) + 1 ≤ (N : Int) := by
  have one : ∀ q : Int, ∀ M : Nat, (M : Int) ≤ (L : Int) → 0 ≤ csum (fun k => if f k = q then 1 else 0) M ∧ csum (fun k => if f k = q then 1 else 0) M ≤ 1 := by
    intro q M
    induction M with
    | zero => intro _; exact ⟨by simp [csum], by simp [csum]⟩
    | succ M ih =>
      intro hM
      have i := ih (by omega)
      show 0 ≤ csum (fun k => if f k = q then 1 else 0) M + (if f (M : Int) = q then 1 else 0) ∧ csum (fun k => if f k = q then 1 else 0) M + (if f (M : Int) = q then 1 else 0) ≤ 1
      by_cases c : f (M : Int) = q
      · rw [if_pos c, csum_zero (fun k a b => by
          rw [if_neg (fun z => hi (M : Int) k a b (by omega) (z.trans c.symm))])]
        omega
      · rw [if_neg c]
        omega
  have s1 : csum (fun k => csum (fun q => if f k = q then 1 else 0) N) L = (L : Int) := by
    rw [csum_congr (g := fun _ => 1) (fun k a b => csum_pt (hr k a b).1 (hr k a b).2), csum_const, Int.mul_one]
  rw [csum_swap] at s1
  have s2 := csum_upd (f := fun q => csum (fun k => if f k = q then 1 else 0) L) (g := fun q => if q = p then 1 else csum (fun k => if f k = q then 1 else 0) L) (n := N) (k := p) p0 p1 (fun i a b c => by
    show csum (fun k => if f k = i then (1 : Int) else 0) L = if i = p then 1 else csum (fun k => if f k = i then (1 : Int) else 0) L
    rw [if_neg c])
  have z : csum (fun k => if f k = p then (1 : Int) else 0) L = 0 := csum_zero (fun k a b => by rw [if_neg (hp k a b)])
  have s3 := (csum_rng (f := fun q => if q = p then 1 else csum (fun k => if f k = q then 1 else 0) L) (n := N) (B := 1) (fun i a b => by
    show 0 ≤ (if i = p then (1 : Int) else csum (fun k => if f k = i then 1 else 0) L) ∧ (if i = p then (1 : Int) else csum (fun k => if f k = i then 1 else 0) L) ≤ 1
    split
    · omega
    · exact one i L (by omega))).2
  rw [s2] at s1
  simp only [z, if_true] at s1
  omega
def NewW (p o : Int) (w w' : Row) : Prop := (w' (452 + 24 * w 9 + 0) = p ∧ w' (452 + 24 * w 9 + 1) = o ∧ w' (452 + 24 * w 9 + 2) = w 0 ∧ w' (452 + 24 * w 9 + 3) = -1 ∧ ∀ f, 4 ≤ f → f < 24 → w' (452 + 24 * w 9 + f) = 0) ∧ w' (12 + 68 * o + 7 + w (12 + 68 * o + 5)) = w 9 ∧ w' (12 + 68 * o + 5) = w (12 + 68 * o + 5) + 1 ∧ w' 9 = w 9 + 1
  ∧ ∀ i, ¬ (452 + 24 * w 9 ≤ i ∧ i < 452 + 24 * w 9 + 24) → ¬ i = 12 + 68 * o + 7 + w (12 + 68 * o + 5) → ¬ i = 12 + 68 * o + 5 → ¬ i = 9 → w' i = w i
theorem lp224 {p o T b : Int} : ∀ (n : Nat) (x : Int) (w : Row), 0 ≤ x → 24 - x ≤ (n : Int) → 9 < b → ∃ u : Row, LP_224_17 p o n T b x w = (T, ws (ws (ws (ws (ws (ws (ws u (b + 0) p) (b + 1) o) (b + 2) (u 0)) (b + 3) ((-1))) (((12 + (68 * o)) + 7) + (u ((12 + (68 * o)) + 5))) T) ((12 + (68 * o)) + 5) ((u ((12 + (68 * o)) + 5)) + 1)) 9 ((u 9) + 1)) ∧ (∀ f, x ≤ f → f < 24 → u (b + f) = 0) ∧ ∀ i, ¬ (b + x ≤ i ∧ i < b + 24) → u i = w i := by
  intro n
  induction n with
  | zero =>
    intro x w h0 hn hb
    refine ⟨w, ?_, fun f a c => by omega, fun _ _ => rfl⟩
    show ST_224_17 p o _ T b x w = _
    unfold ST_224_17
    rw [if_neg (by omega)]
  | succ n ih =>
    intro x w h0 hn hb
    by_cases c : x < 24
    · obtain ⟨u, i1, i2, i3⟩ := ih (x + 1) (ws w (b + x) 0) (by omega) (by omega) hb
      refine ⟨u, ?_, fun f a e => ?_, fun i hi => by rw [i3 i (by omega), wsn (by omega)]⟩
      · rw [← i1]
        show ST_224_17 p o _ T b x w = _
        unfold ST_224_17
        rw [if_pos c]
      · by_cases hf : f = x
        · rw [i3 _ (by omega), wse (by omega)]
        · exact i2 f (by omega) e
    · refine ⟨w, ?_, fun f a c => by omega, fun _ _ => rfl⟩
      show ST_224_17 p o _ T b x w = _
      unfold ST_224_17
      rw [if_neg c]
theorem newW {p o : Int} {w : Row} (ho : 0 ≤ o ∧ o ≤ 5) (h9 : 0 ≤ w 9 ∧ w 9 ≤ 60) (hl : 0 ≤ w (12 + 68 * o + 5) ∧ w (12 + 68 * o + 5) ≤ 60) : V_224 p o w = w 9 ∧ NewW p o w (W_224 p o w) := by
  obtain ⟨u, i1, i2, i3⟩ := lp224 (p := p) (o := o) (T := w 9) (b := 452 + 24 * w 9) (24 - 0 : Int).toNat 0 w (by omega) (by decide) (by omega)
  have e : F_224 p o w = _ := i1
  unfold V_224 W_224
  rw [e]
  have u0 : u 0 = w 0 := i3 0 (by omega)
  have u9 : u 9 = w 9 := i3 9 (by omega)
  have uq : u (12 + 68 * o + 5) = w (12 + 68 * o + 5) := i3 _ (by omega)
  refine ⟨rfl, ⟨?_, ?_, ?_, ?_, fun f a b => ?_⟩, ?_, ?_, ?_, fun i h1 h2 h3 h4 => ?_⟩
  · show ws _ _ _ _ = _
    rw [uq, u9, u0]
    simp (disch := omega) only [wse, wsn]
  · show ws _ _ _ _ = _
    rw [uq, u9, u0]
    simp (disch := omega) only [wse, wsn]
  · show ws _ _ _ _ = _
    rw [uq, u9, u0]
    simp (disch := omega) only [wse, wsn]
  · show ws _ _ _ _ = _
    rw [uq, u9, u0]
    simp (disch := omega) only [wse, wsn]
  · show ws _ _ _ _ = _
    rw [uq, u9, u0]
    simp (disch := omega) only [wsn]
    exact i2 f (by omega) b
  · show ws _ _ _ _ = _
    rw [uq, u9, u0]
    simp (disch := omega) only [wse, wsn]
  · show ws _ _ _ _ = _
    rw [uq, u9, u0]
    simp (disch := omega) only [wse, wsn]
  · simp (disch := omega) only [wse, wsn, u9]
  · show ws _ _ _ _ = _
    rw [uq, u9, u0]
    simp (disch := omega) only [wse, wsn]
    exact i3 i (by omega)
-- whether a person can join
theorem lp225 {p o : Int} : ∀ (n : Nat) (a x : Int) (w : Row), 0 ≤ x → w (12 + 68 * o + 5) - x ≤ (n : Int) → (a = 0 ∨ a = 1) → (LP_225_57 p o n (12 + 68 * o) a x w = 0 ∨ LP_225_57 p o n (12 + 68 * o) a x w = 1) ∧ (LP_225_57 p o n (12 + 68 * o) a x w = 1 ↔ a = 1 ∧ ∀ k, x ≤ k → k < w (12 + 68 * o + 5) → ¬ w (452 + 24 * w (12 + 68 * o + 7 + k) + 0) = p) := by
  have m00 : miand 0 0 = 0 := by decide
  have m10 : miand 1 0 = 0 := by decide
  have m01 : miand 0 1 = 0 := by decide
  have m11 : miand 1 1 = 1 := by decide
  intro n
  induction n with
  | zero =>
    intro a x w h0 hn ha
    have e : LP_225_57 p o 0 (12 + 68 * o) a x w = a := by
      show ST_225_57 p o _ (12 + 68 * o) a x w = a
      unfold ST_225_57
      rw [if_neg (by omega)]
    rw [e]
    exact ⟨ha, ⟨fun z => ⟨z, fun k b c => by omega⟩, fun z => z.1⟩⟩
  | succ n ih =>
    intro a x w h0 hn ha
    by_cases c : x < w (12 + 68 * o + 5)
    · by_cases c2 : w (452 + 24 * w (12 + 68 * o + 7 + x) + 0) = p
      · have e : LP_225_57 p o (n + 1) (12 + 68 * o) a x w = LP_225_57 p o n (12 + 68 * o) 0 (x + 1) w := by
          show ST_225_57 p o _ (12 + 68 * o) a x w = _
          unfold ST_225_57
          rw [if_pos c, if_pos c2]
          rcases ha with rfl | rfl
          · rw [m00]
          · rw [m10]
        rw [e]
        obtain ⟨i1, i2⟩ := ih 0 (x + 1) w (by omega) (by omega) (Or.inl rfl)
        refine ⟨i1, i2.trans ⟨fun z => absurd z.1 (by decide), fun z => absurd c2 (z.2 x (by omega) c)⟩⟩
      · have e : LP_225_57 p o (n + 1) (12 + 68 * o) a x w = LP_225_57 p o n (12 + 68 * o) a (x + 1) w := by
          show ST_225_57 p o _ (12 + 68 * o) a x w = _
          unfold ST_225_57
          rw [if_pos c, if_neg c2]
          rcases ha with rfl | rfl
          · rw [m01]
          · rw [m11]
        rw [e]
        obtain ⟨i1, i2⟩ := ih a (x + 1) w (by omega) (by omega) ha
        refine ⟨i1, i2.trans ⟨fun z => ⟨z.1, fun k b c => ?_⟩, fun z => ⟨z.1, fun k b c => z.2 k (by omega) c⟩⟩⟩
        by_cases hk : k = x
        · rw [hk]; exact c2
        · exact z.2 k (by omega) c
    · have e : LP_225_57 p o (n + 1) (12 + 68 * o) a x w = a := by
        show ST_225_57 p o _ (12 + 68 * o) a x w = a
        unfold ST_225_57
        rw [if_neg c]
      rw [e]
      exact ⟨ha, ⟨fun z => ⟨z, fun k b c => by omega⟩, fun z => z.1⟩⟩
def CanJ (p o : Int) (w : Row) : Prop := w 9 < 60 ∧ ¬ w (12 + 68 * o + 4) = 0 ∧ w (12 + 68 * o + 5) < w (12 + 68 * o + 3) ∧ ∀ k, 0 ≤ k → k < w (12 + 68 * o + 5) → ¬ w (452 + 24 * w (12 + 68 * o + 7 + k) + 0) = p
theorem v225 {p o : Int} {w : Row} (hl : w (12 + 68 * o + 5) ≤ 61) : (V_225 p o w = 0 ∨ V_225 p o w = 1) ∧ (V_225 p o w = 1 ↔ CanJ p o w) := by
  have hf : (((61 - 0 : Int).toNat : Nat) : Int) = 61 := by decide
  obtain ⟨a1, a2⟩ := lp225 (p := p) (o := o) (61 - 0 : Int).toNat 0 0 w (by omega) (by rw [hf]; omega) (Or.inl rfl)
  obtain ⟨b1, b2⟩ := lp225 (p := p) (o := o) (61 - 0 : Int).toNat 1 0 w (by omega) (by rw [hf]; omega) (Or.inr rfl)
  unfold V_225 CanJ
  by_cases c1 : w 9 < 60
  · rw [if_pos c1]
    by_cases c2 : w (12 + 68 * o + 4) = 0
    · rw [if_pos c2]
      exact ⟨a1, a2.trans ⟨fun z => absurd z.1 (by decide), fun z => absurd c2 z.2.1⟩⟩
    · rw [if_neg c2]
      by_cases c3 : w (12 + 68 * o + 5) < w (12 + 68 * o + 3)
      · rw [if_pos c3]
        exact ⟨b1, b2.trans ⟨fun z => ⟨c1, c2, c3, z.2⟩, fun z => ⟨rfl, z.2.2.2⟩⟩⟩
      · rw [if_neg c3]
        exact ⟨a1, a2.trans ⟨fun z => absurd z.1 (by decide), fun z => absurd z.2.2.1 c3⟩⟩
  · rw [if_neg c1]
    exact ⟨a1, a2.trans ⟨fun z => absurd z.1 (by decide), fun z => absurd z.1 c1⟩⟩
theorem lp62 {s o p : Int} : ∀ (n : Nat) (x : Int) (d : mD), 0 ≤ x → d (s + 8) o - x ≤ (n : Int) → (lp_62_2 s o p n x d = -1 ∧ (∀ k, x ≤ k → k < d (s + 8) o → ¬ d (s + 50) (d (s + 9) (o * 16 + k)) = p)) ∨ (x ≤ lp_62_2 s o p n x d ∧ lp_62_2 s o p n x d < d (s + 8) o ∧ d (s + 50) (d (s + 9) (o * 16 + lp_62_2 s o p n x d)) = p ∧ ∀ k, x ≤ k → k < lp_62_2 s o p n x d → ¬ d (s + 50) (d (s + 9) (o * 16 + k)) = p) := by
  intro n
  induction n with
  | zero =>
    intro x d h0 hn
    have e : lp_62_2 s o p 0 x d = -1 := by
      show st_62_2 s o p _ x d = -1
      unfold st_62_2
      rw [if_neg (by rw [show s + 2 + 6 = s + 8 by omega]; omega)]
    rw [e]
    exact Or.inl ⟨rfl, fun k a b => by omega⟩
  | succ n ih =>
    intro x d h0 hn
    by_cases c : x < d (s + 8) o
    · by_cases c2 : d (s + 50) (d (s + 9) (o * 16 + x)) = p
      · have e : lp_62_2 s o p (n + 1) x d = x := by
          show st_62_2 s o p _ x d = x
          unfold st_62_2 v_38
          rw [show s + 2 + 6 = s + 8 by omega, show s + 49 + 1 = s + 50 by omega, show s + 2 + 7 = s + 9 by omega, if_pos c, if_pos c2]
        rw [e]
        exact Or.inr ⟨by omega, c, c2, fun k a b => by omega⟩
      · have e : lp_62_2 s o p (n + 1) x d = lp_62_2 s o p n (x + 1) d := by
          show st_62_2 s o p _ x d = _
          unfold st_62_2 v_38
          rw [show s + 2 + 6 = s + 8 by omega, show s + 49 + 1 = s + 50 by omega, show s + 2 + 7 = s + 9 by omega, if_pos c, if_neg c2]
        rw [e]
        rcases ih (x + 1) d (by omega) (by omega) with ⟨i1, i2⟩ | ⟨i1, i2, i3, i4⟩
        · refine Or.inl ⟨i1, fun k a b => ?_⟩
          by_cases hk : k = x
          · rw [hk]; exact c2
          · exact i2 k (by omega) b
        · refine Or.inr ⟨by omega, i2, i3, fun k a b => ?_⟩
          by_cases hk : k = x
          · rw [hk]; exact c2
          · exact i4 k (by omega) b
    · have e : lp_62_2 s o p (n + 1) x d = -1 := by
        show st_62_2 s o p _ x d = -1
        unfold st_62_2
        rw [if_neg (by rw [show s + 2 + 6 = s + 8 by omega]; omega)]
      rw [e]
      exact Or.inl ⟨rfl, fun k a b => by omega⟩
-- a queue's tickets and their persons, on both sides
theorem Rel.qp {s : Int} {d : mD} {w : Row} (hg : GG w) (hQ : RelQ s d w) (hT : RelT s d w) {o k : Int} (ho : 0 ≤ o ∧ o < w 7) (h0 : 0 ≤ k) (h1 : k < w (12 + 68 * o + 5)) : d (s + 9) (o * 16 + k) = w (12 + 68 * o + 7 + k) ∧ d (s + 50) (d (s + 9) (o * 16 + k)) = w (452 + 24 * w (12 + 68 * o + 7 + k) + 0) := by
  have e := hQ o ho.1 ho.2 k h0 h1
  have g := hg.2.2.1 o ho.1 ho.2 k h0 h1
  exact ⟨e, by rw [e]; exact (hT.2 _ g.1.1 g.1.2).1⟩
theorem canQ {s p o : Int} {d : mD} {w : Row} (hg : GG w) (h : Rel s d w) (ho : 0 ≤ o ∧ o < w 7) : v_60 s p o d = V_225 p o w ∧ (V_225 p o w = 0 ∨ V_225 p o w = 1) ∧ (V_225 p o w = 1 ↔ CanJ p o w) := by
  have go := hg.2.1 o ho.1 ho.2
  obtain ⟨b1, b2⟩ := v225 (p := p) (o := o) (w := w) (by omega)
  refine ⟨?_, b1, b2⟩
  obtain ⟨-, ⟨o1, o2⟩, rQ, -, rT, -⟩ := h
  have g := o2 o ho.1 ho.2
  have l := lp62 (s := s) (o := o) (p := p) (16 - 0 : Int).toNat 0 d (by omega) (by rw [show (((16 - 0 : Int).toNat : Nat) : Int) = 16 by decide, g.2.2.2.2.2]; omega)
  have e62 : v_62 s o p d = -1 ↔ ∀ k, 0 ≤ k → k < w (12 + 68 * o + 5) → ¬ w (452 + 24 * w (12 + 68 * o + 7 + k) + 0) = p := by
    unfold v_62
    rw [g.2.2.2.2.2] at l
    constructor
    · intro z k a b
      rcases l with ⟨-, l⟩ | ⟨l1, -⟩
      · have := l k a b
        rw [(Rel.qp hg rQ rT ho a b).2] at this
        exact this
      · omega
    · intro z
      rcases l with ⟨l, -⟩ | ⟨l1, l2, l3, -⟩
      · exact l
      · rw [(Rel.qp hg rQ rT ho l1 l2).2] at l3
        exact absurd l3 (z _ l1 l2)
  unfold v_60
  rw [show s + 2 + 5 = s + 7 by omega, show s + 2 + 6 = s + 8 by omega, show s + 2 + 4 = s + 6 by omega, rT.1, g.2.2.2.2.1, g.2.2.2.2.2, g.2.2.2.1]
  unfold CanJ at b2
  by_cases c1 : w 9 < 60
  · rw [if_pos c1]
    by_cases c2 : w (12 + 68 * o + 4) = 0
    · rw [if_pos c2]
      rcases b1 with z | z
      · exact z.symm
      · exact absurd c2 (b2.mp z).2.1
    · rw [if_neg c2]
      by_cases c3 : w (12 + 68 * o + 5) < w (12 + 68 * o + 3)
      · rw [if_pos c3]
        by_cases c4 : v_62 s o p d = -1
        · rw [if_pos c4]
          exact (b2.mpr ⟨c1, c2, c3, e62.mp c4⟩).symm
        · rw [if_neg c4]
          rcases b1 with z | z
          · exact z.symm
          · exact absurd (e62.mpr (b2.mp z).2.2.2) c4
      · rw [if_neg c3]
        rcases b1 with z | z
        · exact z.symm
        · exact absurd (b2.mp z).2.2.1 c3
  · rw [if_neg c1]
    rcases b1 with z | z
    · exact z.symm
    · exact absurd (b2.mp z).1 c1
theorem joinLen {p o : Int} {w : Row} (hg : GG w) (ho : 0 ≤ o ∧ o < w 7) (hp : 0 ≤ p ∧ p < w 8) (hc : CanJ p o w) : w (12 + 68 * o + 5) + 1 ≤ w 8 := by
  have go := hg.2.1 o ho.1 ho.2
  have n8 := hg.1.2.1
  have h := pigeon (f := fun k => w (452 + 24 * w (12 + 68 * o + 7 + k) + 0)) (L := (w (12 + 68 * o + 5)).toNat) (N := (w 8).toNat) (fun k a b => by
    have g := hg.2.2.1 o ho.1 ho.2 k a (by omega)
    have gt := hg.2.2.2.1 _ g.1.1 g.1.2
    show 0 ≤ w (452 + 24 * w (12 + 68 * o + 7 + k) + 0) ∧ w (452 + 24 * w (12 + 68 * o + 7 + k) + 0) < (((w 8).toNat : Nat) : Int)
    omega) (fun k i a b c => (hg.2.2.1 o ho.1 ho.2 k (by omega) (by omega)).2.2.2 i a b |>.2) hp.1 (by omega) (fun k a b => hc.2.2.2 k a (by omega))
  omega
theorem join1 {s p o : Int} {d : mD} {w w' : Row} (hg : GG w) (h : Rel s d w) (ho : 0 ≤ o ∧ o < w 7) (hp : 0 ≤ p ∧ p < w 8) (hc : CanJ p o w) (hS : NewW p o w w') : GG w' ∧ Rel s (g_61 s p o d) w' ∧ v_61 s p o d = w 9 := by
  have jl := joinLen hg ho hp hc
  obtain ⟨hN, hO, hQ, hT, hC, hK, hR⟩ := id hg
  obtain ⟨n7, n8, n9, n10, n11, n0, n1, n2, n3, n4, n5, n6⟩ := id hN
  obtain ⟨⟨a1, a2, a3⟩, ⟨o1, o2⟩, rQ, rP, ⟨t1, t2⟩, rC, rK, rR, rB, rH⟩ := h
  obtain ⟨c1, c2, c3, c4⟩ := hc
  obtain ⟨⟨s1, s2, s3, s4, s5⟩, s7, s8, s9, s6⟩ := hS
  have go := hO o ho.1 ho.2
  have gc := o2 o ho.1 ho.2
  have e : g_61 s p o d = mset (mset (mset (mset (mset (mset (mset (mset (mset (mset d (s + 50) (w 9) p) (s + 51) (w 9) o) (s + 52) (w 9) (w 0)) (s + 53) (w 9) (-1)) (s + 54) (w 9) 0) (s + 55) (w 9) 0) (s + 56) (w 9) 0) (s + 49) 0 (w 9 + 1)) (s + 9) (o * 16 + w (12 + 68 * o + 5)) (w 9)) (s + 8) o (w (12 + 68 * o + 5) + 1) := by
    unfold g_61
    have e96 : g_96 (s + 49) p o (d s 2) d = mset (mset (mset (mset (mset (mset (mset (mset d (s + 50) (w 9) p) (s + 51) (w 9) o) (s + 52) (w 9) (w 0)) (s + 53) (w 9) (-1)) (s + 54) (w 9) 0) (s + 55) (w 9) 0) (s + 56) (w 9) 0) (s + 49) 0 (w 9 + 1) := by
      unfold g_96
      rw [t1, a2, if_pos c1]
      simp only [Int.add_assoc, Int.reduceAdd]
    rw [e96, t1, show s + 2 + 6 = s + 8 by omega, gc.2.2.2.2.2]
    generalize hd1 : mset (mset (mset (mset (mset (mset (mset (mset d (s + 50) (w 9) p) (s + 51) (w 9) o) (s + 52) (w 9) (w 0)) (s + 53) (w 9) (-1)) (s + 54) (w 9) 0) (s + 55) (w 9) 0) (s + 56) (w 9) 0) (s + 49) 0 (w 9 + 1) = d1
    have e8 : d1 (s + 8) o = w (12 + 68 * o + 5) := by
      rw [← hd1]
      simp (disch := omega) only [ms_a]
      exact gc.2.2.2.2.2
    unfold g_40
    rw [show s + 2 + 6 = s + 8 by omega, e8, if_neg (by omega), if_neg (by omega), if_pos (by omega)]
    have st : ∀ (n : Nat), lp_40_40 (s + 2) o (w (12 + 68 * o + 5)) (w 9) n (o * 16) (w (12 + 68 * o + 5)) d1 = mset (mset d1 (s + 9) (o * 16 + w (12 + 68 * o + 5)) (w 9)) (s + 8) o (w (12 + 68 * o + 5) + 1) := fun n => by
      cases n with
      | zero =>
        show st_40_40 (s + 2) o _ _ _ (o * 16) _ d1 = _
        unfold st_40_40
        rw [if_neg (by omega), show s + 2 + 6 = s + 8 by omega, e8, show s + 2 + 7 = s + 9 by omega]
      | succ n =>
        show st_40_40 (s + 2) o _ _ _ (o * 16) _ d1 = _
        unfold st_40_40
        rw [if_neg (by omega), show s + 2 + 6 = s + 8 by omega, e8, show s + 2 + 7 = s + 9 by omega]
    exact st _
  generalize hd : g_61 s p o d = d' at *
  have fd : ∀ b, ¬ (s + 49 ≤ b ∧ b ≤ s + 56) → ¬ b = s + 9 → ¬ b = s + 8 → d' b = d b := fun b x y z => by
    rw [e]
    funext j
    simp (disch := omega) only [ms_a]
  have ew : ∀ i, (i ≤ 11 ∧ ¬ i = 9) ∨ 1916 ≤ i ∨ (420 ≤ i ∧ i < 452) → w' i = w i := fun i hi => s6 i (by omega) (by omega) (by omega) (by omega)
  have et : ∀ t f, 0 ≤ t → t < w 9 → 0 ≤ f → f < 24 → w' (452 + 24 * t + f) = w (452 + 24 * t + f) := fun t f a b x y => s6 _ (by omega) (by omega) (by omega) (by omega)
  have eo : ∀ o' f, 0 ≤ o' → o' < w 7 → 0 ≤ f → f ≤ 6 → ¬ f = 5 → w' (12 + 68 * o' + f) = w (12 + 68 * o' + f) := fun o' f a b x y z => s6 _ (by omega) (by omega) (by omega) (by omega)
  have pO : ∀ k, 0 ≤ k → k < w 10 → perO w' k = perO w k := fun k a b => by
    have g := hK k a b
    unfold perO
    rw [ew (1916 + 5 * k + 1) (by omega), et _ 0 (by omega) (by omega) (by decide) (by decide)]
  have z8 : ∀ q, 0 ≤ q → q < 16 → w' (452 + 24 * w 9 + 8 + q) = 0 := fun q a b => by
    have := s5 (8 + q) (by omega) (by omega)
    rw [show 452 + 24 * w 9 + (8 + q) = 452 + 24 * w 9 + 8 + q by omega] at this
    exact this
  have e8 : ∀ t q, 0 ≤ t → t < w 9 → 0 ≤ q → q < 16 → w' (452 + 24 * t + 8 + q) = w (452 + 24 * t + 8 + q) := fun t q a b x y => by
    have := et t (8 + q) a b (by omega) (by omega)
    rw [show 452 + 24 * t + (8 + q) = 452 + 24 * t + 8 + q by omega] at this
    exact this
  refine ⟨⟨?_, ?_, ?_, ?_, ?_, ?_, hR.k (fun i hi => ew i (by omega)) hN⟩, ⟨?_, ?_, ?_, rP.k (fun b x y => fd b (by omega) (by omega) (by omega)) (fun i hi => ew i (by omega)) n8, ?_, ?_, rK.k (by rw [fd _ (by omega) (by omega) (by omega)]) (fun b x y => fd b (by omega) (by omega) (by omega)) (fun i hi => ew i (by omega)) n10, rR.k (by rw [fd _ (by omega) (by omega) (by omega)]) (fd _ (by omega) (by omega) (by omega)) (fun i hi => ew i (by omega)) n11, ?_, ?_⟩, ?_⟩
  · unfold GN
    rw [s9, ew 0 (by omega), ew 1 (by omega), ew 2 (by omega), ew 3 (by omega), ew 4 (by omega), ew 5 (by omega), ew 6 (by omega), ew 7 (by omega), ew 8 (by omega), ew 10 (by omega), ew 11 (by omega)]
    omega
  · -- offices
    intro o' x y
    rw [ew 7 (by omega)] at y
    have g := hO o' x y
    rw [eo o' 1 x y (by omega) (by omega) (by omega), eo o' 2 x y (by omega) (by omega) (by omega), eo o' 3 x y (by omega) (by omega) (by omega), eo o' 4 x y (by omega) (by omega) (by omega), eo o' 6 x y (by omega) (by omega) (by omega), s9, csum_s _ n9.1]
    have hs : csum (fun t => if w' (452 + 24 * t + 4) = 1 ∧ w' (452 + 24 * t + 1) = o' then 1 else 0) (w 9).toNat = csum (fun t => if w (452 + 24 * t + 4) = 1 ∧ w (452 + 24 * t + 1) = o' then 1 else 0) (w 9).toNat := csum_congr (fun t a b => by rw [et t 4 a (by omega) (by decide) (by decide), et t 1 a (by omega) (by decide) (by decide)])
    have hz : (if w' (452 + 24 * w 9 + 4) = 1 ∧ w' (452 + 24 * w 9 + 1) = o' then (1 : Int) else 0) = 0 := by
      rw [s5 4 (by omega) (by omega), if_neg (fun z => absurd z.1 (by decide))]
    rw [hs, hz]
    by_cases hoo : o' = o
    · subst hoo
      rw [s8]
      refine ⟨g.1, g.2.1, g.2.2.1, g.2.2.2.1, by omega, fun z => absurd z c2, by omega⟩
    · rw [s6 (12 + 68 * o' + 5) (by omega) (by omega) (by omega) (by omega)]
      exact ⟨g.1, g.2.1, g.2.2.1, g.2.2.2.1, g.2.2.2.2.1, g.2.2.2.2.2.1, by omega⟩
  · -- queues
    intro o' x y k u v
    rw [ew 7 (by omega)] at y
    have go' := hO o' x y
    have old : k < w (12 + 68 * o' + 5) → w' (12 + 68 * o' + 7 + k) = w (12 + 68 * o' + 7 + k) ∧ ((0 ≤ w' (12 + 68 * o' + 7 + k) ∧ w' (12 + 68 * o' + 7 + k) < w' 9) ∧ w' (452 + 24 * w' (12 + 68 * o' + 7 + k) + 1) = o' ∧ w' (452 + 24 * w' (12 + 68 * o' + 7 + k) + 4) = 0
        ∧ ∀ i, 0 ≤ i → i < k → w' (452 + 24 * w' (12 + 68 * o' + 7 + i) + 2) ≤ w' (452 + 24 * w' (12 + 68 * o' + 7 + k) + 2) ∧ ¬ w' (452 + 24 * w' (12 + 68 * o' + 7 + i) + 0) = w' (452 + 24 * w' (12 + 68 * o' + 7 + k) + 0)) := fun hk => by
      have g := hQ o' x y k u hk
      have ek : ∀ i, 0 ≤ i → i < w (12 + 68 * o' + 5) → w' (12 + 68 * o' + 7 + i) = w (12 + 68 * o' + 7 + i) := fun i a b => by
        have hne : ¬ 12 + 68 * o' + 7 + i = 12 + 68 * o + 7 + w (12 + 68 * o + 5) := fun q => by
          by_cases hoo : o' = o
          · rw [hoo] at b q
            omega
          · omega
        exact s6 _ (by omega) hne (by omega) (by omega)
      rw [ek k u hk, s9, et _ 1 g.1.1 g.1.2 (by decide) (by decide), et _ 4 g.1.1 g.1.2 (by decide) (by decide), et _ 2 g.1.1 g.1.2 (by decide) (by decide), et _ 0 g.1.1 g.1.2 (by decide) (by decide)]
      refine ⟨rfl, by omega, g.2.1, g.2.2.1, fun i a b => ?_⟩
      have gi := hQ o' x y i a (by omega)
      rw [ek i a (by omega), et _ 2 gi.1.1 gi.1.2 (by decide) (by decide), et _ 0 gi.1.1 gi.1.2 (by decide) (by decide)]
      exact g.2.2.2 i a b
    by_cases hoo : o' = o
    · subst hoo
      rw [s8] at v
      by_cases hk : k = w (12 + 68 * o' + 5)
      · rw [hk, s7, s9, s2, s5 4 (by omega) (by omega), s3, s1]
        refine ⟨by omega, rfl, rfl, fun i a b => ?_⟩
        have gi := hQ o' x y i a b
        have gt := hT _ gi.1.1 gi.1.2
        rw [s6 (12 + 68 * o' + 7 + i) (by omega) (by omega) (by omega) (by omega), et _ 2 gi.1.1 gi.1.2 (by decide) (by decide), et _ 0 gi.1.1 gi.1.2 (by decide) (by decide)]
        exact ⟨gt.2.2.1.2, c4 i a b⟩
      · exact (old (by omega)).2
    · rw [s6 (12 + 68 * o' + 5) (by omega) (by omega) (by omega) (by omega)] at v
      exact (old v).2
  · -- tickets
    intro t x y
    rw [s9] at y
    rw [ew 0 (by omega), ew 7 (by omega), ew 8 (by omega)]
    by_cases ht : t = w 9
    · rw [ht, s1, s2, s3, s4, s5 4 (by omega) (by omega)]
      refine ⟨hp, ho, by omega, by omega, fun _ => ⟨rfl, w (12 + 68 * o + 5), by omega, by rw [s8]; omega, s7⟩, fun z => absurd rfl z⟩
    · have lt : t < w 9 := by omega
      have g := hT t x lt
      rw [et t 0 x lt (by decide) (by decide), et t 1 x lt (by decide) (by decide), et t 2 x lt (by decide) (by decide), et t 3 x lt (by decide) (by decide), et t 4 x lt (by decide) (by decide)]
      refine ⟨g.1, g.2.1, g.2.2.1, g.2.2.2.1, fun z => ?_, g.2.2.2.2.2⟩
      obtain ⟨z1, k, z2, z3, z4⟩ := g.2.2.2.2.1 z
      have go' := hO _ g.2.1.1 g.2.1.2
      refine ⟨z1, k, z2, ?_, ?_⟩
      · by_cases hoo : w (452 + 24 * t + 1) = o
        · rw [hoo] at z3 ⊢
          rw [s8]
          omega
        · rw [s6 _ (by omega) (by omega) (by omega) (by omega)]
          exact z3
      · have hne : ¬ 12 + 68 * w (452 + 24 * t + 1) + 7 + k = 12 + 68 * o + 7 + w (12 + 68 * o + 5) := fun q => by
          by_cases hoo : w (452 + 24 * t + 1) = o
          · rw [hoo] at z3 q
            omega
          · omega
        rw [s6 _ (by omega) hne (by omega) (by omega)]
        exact z4
  · -- claims
    intro t x y
    rw [s9] at y
    rw [ew 0 (by omega)]
    by_cases ht : t = w 9
    · rw [ht, s5 4 (by omega) (by omega), s5 5 (by omega) (by omega), s5 6 (by omega) (by omega)]
      refine ⟨Or.inl rfl, Or.inl rfl, fun z => absurd z (by decide), fun z => absurd z (by decide), fun q a b => ?_⟩
      rw [z8 q a b]
      omega
    · have lt : t < w 9 := by omega
      have g := hC t x lt
      rw [et t 3 x lt (by decide) (by decide), et t 4 x lt (by decide) (by decide), et t 5 x lt (by decide) (by decide), et t 6 x lt (by decide) (by decide)]
      exact ⟨g.1, g.2.1, g.2.2.1, g.2.2.2.1, fun q a b => by rw [e8 t q x (by omega) a b]; exact g.2.2.2.2 q a b⟩
  · -- tokens
    intro k x y
    rw [ew 10 (by omega)] at y
    have g := hK k x y
    rw [ew (1916 + 5 * k + 0) (by omega), ew (1916 + 5 * k + 1) (by omega), ew (1916 + 5 * k + 2) (by omega), ew (1916 + 5 * k + 3) (by omega), ew (1916 + 5 * k + 4) (by omega), ew 0 (by omega), ew 8 (by omega), s9, pO k x y]
    refine ⟨g.1, by omega, g.2.2.1, g.2.2.2.1, g.2.2.2.2.1, fun i a b => ?_⟩
    rw [ew (1916 + 5 * i + 2) (by omega), pO i a (by omega)]
    exact g.2.2.2.2.2 i a b
  · exact ⟨by rw [fd _ (by omega) (by omega) (by omega), ew 1 (by omega)]; exact a1, by rw [fd _ (by omega) (by omega) (by omega), ew 0 (by omega)]; exact a2, fun k x y => by rw [fd _ (by omega) (by omega) (by omega), ew _ (by omega)]; exact a3 k x y⟩
  · refine ⟨by rw [fd _ (by omega) (by omega) (by omega), ew 7 (by omega)]; exact o1, fun o' x y => ?_⟩
    rw [ew 7 (by omega)] at y
    have g := o2 o' x y
    rw [fd (s + 3) (by omega) (by omega) (by omega), fd (s + 4) (by omega) (by omega) (by omega), fd (s + 5) (by omega) (by omega) (by omega), fd (s + 6) (by omega) (by omega) (by omega), fd (s + 7) (by omega) (by omega) (by omega), eo o' 0 x y (by omega) (by omega) (by omega), eo o' 1 x y (by omega) (by omega) (by omega), eo o' 2 x y (by omega) (by omega) (by omega), eo o' 3 x y (by omega) (by omega) (by omega), eo o' 4 x y (by omega) (by omega) (by omega)]
    refine ⟨g.1, g.2.1, g.2.2.1, g.2.2.2.1, g.2.2.2.2.1, ?_⟩
    rw [e]
    by_cases hoo : o' = o
    · rw [hoo, s8]
      simp (disch := omega) only [ms_e]
    · rw [s6 (12 + 68 * o' + 5) (by omega) (by omega) (by omega) (by omega)]
      simp (disch := omega) only [ms_a, ms_i]
      exact g.2.2.2.2.2
  · intro o' x y k u v
    rw [ew 7 (by omega)] at y
    have go' := hO o' x y
    rw [e]
    by_cases hoo : o' = o
    · subst hoo
      rw [s8] at v
      by_cases hk : k = w (12 + 68 * o' + 5)
      · rw [hk, s7]
        simp (disch := omega) only [ms_a, ms_e]
      · rw [s6 _ (by omega) (by omega) (by omega) (by omega)]
        simp (disch := omega) only [ms_a, ms_i]
        exact rQ o' x y k u (by omega)
    · rw [s6 (12 + 68 * o' + 5) (by omega) (by omega) (by omega) (by omega)] at v
      rw [s6 _ (by omega) (by omega) (by omega) (by omega)]
      simp (disch := omega) only [ms_a, ms_i]
      exact rQ o' x y k u v
  · refine ⟨?_, fun t x y => ?_⟩
    · rw [e, s9]
      simp (disch := omega) only [ms_a, ms_e]
    · rw [s9] at y
      rw [e]
      by_cases ht : t = w 9
      · rw [ht, s1, s2, s3, s4, s5 4 (by omega) (by omega)]
        simp (disch := omega) only [ms_a, ms_e]
        exact ⟨trivial, trivial, trivial, trivial, trivial⟩
      · rw [et t 0 x (by omega) (by decide) (by decide), et t 1 x (by omega) (by decide) (by decide), et t 2 x (by omega) (by decide) (by decide), et t 3 x (by omega) (by decide) (by decide), et t 4 x (by omega) (by decide) (by decide)]
        simp (disch := omega) only [ms_a, ms_i]
        exact t2 t x (by omega)
  · intro t x y
    rw [s9] at y
    rw [e]
    by_cases ht : t = w 9
    · rw [ht, s5 5 (by omega) (by omega), s5 6 (by omega) (by omega), s5 7 (by omega) (by omega)]
      simp (disch := omega) only [ms_a, ms_e]
      refine ⟨by decide, (csum_zero (fun q a b => by rw [if_pos (z8 q a (by omega))])).symm, fun q a b => ?_, by decide⟩
      rw [ib_zero, z8 q a b]
      simp
    · rw [et t 5 x (by omega) (by decide) (by decide), et t 6 x (by omega) (by decide) (by decide), et t 7 x (by omega) (by decide) (by decide)]
      simp (disch := omega) only [ms_a, ms_i]
      obtain ⟨g1, g2, g3, g4⟩ := rC t x (by omega)
      refine ⟨g1, ?_, fun q a b => by rw [e8 t q x (by omega) a b]; exact g3 q a b, g4⟩
      rw [g2]
      exact csum_congr (fun q a b => by rw [e8 t q x (by omega) a (by omega)])
  · intro q x y
    rw [ew 8 (by omega)] at y
    obtain ⟨g1, g2, g3⟩ := rB q x y
    rw [fd (s + 13) (by omega) (by omega) (by omega), fd (s + 14) (by omega) (by omega) (by omega), fd (s + 15) (by omega) (by omega) (by omega)]
    refine ⟨?_, ?_, fun r a b => ?_⟩
    · rw [g1]
      unfold madeR
      rw [ew 10 (by omega), ew 0 (by omega)]
      exact csum_congr (fun k a b => by rw [pO k a (by omega), ew (1916 + 5 * k + 4) (by omega)])
    · rw [g2]
      unfold attR
      rw [s9, csum_s _ n9.1, z8 q x (by omega), ew 0 (by omega), if_neg (fun z => absurd z.1 (by decide)), Int.add_zero]
      exact csum_congr (fun t a b => by rw [e8 t q a (by omega) x (by omega)])
    · rw [g3 r a b]
      unfold attd
      rw [s9, ew 0 (by omega)]
      constructor
      · rintro ⟨t, z1, z2, z3, z4⟩
        exact ⟨t, z1, by omega, by rw [et t 0 z1 z2 (by omega) (by omega)]; exact z3, by rw [e8 t q z1 z2 x (by omega)]; exact z4⟩
      · rintro ⟨t, z1, z2, z3, z4⟩
        by_cases ht : t = w 9
        · rw [ht, z8 q x (by omega)] at z4
          omega
        · rw [et t 0 z1 (by omega) (by decide) (by decide)] at z3
          rw [e8 t q z1 (by omega) x (by omega)] at z4
          exact ⟨t, z1, by omega, z3, z4⟩
  · intro q x y h' u v
    rw [ew 8 (by omega)] at y
    rw [fd _ (by omega) (by omega) (by omega), ew 10 (by omega)]
    refine (rH q x y h' u v).trans ⟨?_, ?_⟩
    · rintro ⟨k, z1, z2, z3, z4⟩
      exact ⟨k, z1, z2, by rw [ew _ (by omega)]; exact z3, by rw [pO k z1 z2]; exact z4⟩
    · rintro ⟨k, z1, z2, z3, z4⟩
      rw [ew _ (by omega)] at z3
      rw [pO k z1 z2] at z4
      exact ⟨k, z1, z2, z3, z4⟩
  · exact t1
theorem join {s p o : Int} {d : mD} {w : Row} (hg : GG w) (h : Rel s d w) (ho : 0 ≤ o ∧ o < w 7) (hp : 0 ≤ p ∧ p < w 8) (hc : CanJ p o w) : v_61 s p o d = V_226 p o w ∧ GG (W_226 p o w) ∧ Rel s (g_61 s p o d) (W_226 p o w) := by
  have n7 := hg.1.1
  have n9 := hg.1.2.2.1
  have go := hg.2.1 o ho.1 ho.2
  obtain ⟨v, hS⟩ := newW (p := p) (o := o) (w := w) (by omega) n9 (by omega)
  obtain ⟨x, y, z⟩ := join1 hg h ho hp hc hS
  unfold V_226 W_226
  exact ⟨by rw [z, v], x, y⟩
