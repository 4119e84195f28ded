/-! ===== sorted queues: two enumerations of one set, the first of each person ===== -/
def incS (κ q : Int → Int) (m : Int) : Prop := ∀ i k, 0 ≤ i → i < k → k < m → κ (q i) < κ (q k)
def memS (q : Int → Int) (m t : Int) : Prop := ∃ k, 0 ≤ k ∧ k < m ∧ q k = t
theorem incS.pt {κ f g : Int → Int} {m n : Int} (hf : incS κ f m) (hg : incS κ g n) (h : ∀ t, memS f m t ↔ memS g n t) : ∀ (N : Nat) (k : Int), 0 ≤ k → k < N → k < m → k < n ∧ f k = g k := by
  intro N
  induction N with
  | zero => intro k a b; omega
  | succ N ih =>
    intro k a b c
    by_cases q : k < N
    · exact ih k a q c
    · obtain ⟨l, l0, l1, l2⟩ := (h (f k)).1 ⟨k, a, c, rfl⟩
      have hl : k ≤ l := by
        by_cases z : l < k
        · have e := (ih l l0 (by omega) (by omega)).2
          have y := hf l k l0 z c
          rw [e, l2] at y
          omega
        · omega
      have kn : k < n := by omega
      refine ⟨kn, ?_⟩
      by_cases z : l = k
      · rw [z] at l2
        exact l2.symm
      · exfalso
        obtain ⟨i, i0, i1, i2⟩ := (h (g k)).2 ⟨k, a, kn, rfl⟩
        have y1 := hg k l a (by omega) l1
        rw [l2, ← i2] at y1
        by_cases zz : i < k
        · have e := (ih i i0 (by omega) i1).2
          have y2 := hg i k i0 zz kn
          rw [← e, i2] at y2
          omega
        · by_cases z3 : i = k
          · rw [z3] at y1; omega
          · have y3 := hf k i a (by omega) i1
            omega
theorem incS.ext {κ f g : Int → Int} {m n : Int} (hf : incS κ f m) (hg : incS κ g n) (h : ∀ t, memS f m t ↔ memS g n t) (hm : 0 ≤ m) (hn : 0 ≤ n) : m = n ∧ ∀ k, 0 ≤ k → k < m → f k = g k := by
  have a : m ≤ n := by
    by_cases z : m = 0
    · omega
    · have := (hf.pt hg h m.toNat (m - 1) (by omega) (by omega) (by omega)).1
      omega
  have b : n ≤ m := by
    by_cases z : n = 0
    · omega
    · have := (hg.pt hf (fun t => (h t).symm) n.toNat (n - 1) (by omega) (by omega) (by omega)).1
      omega
  exact ⟨by omega, fun k x y => (hf.pt hg h m.toNat k x (by omega) y).2⟩
theorem incS.inj {κ q : Int → Int} {m i k : Int} (h : incS κ q m) (i0 : 0 ≤ i) (i1 : i < m) (k0 : 0 ≤ k) (k1 : k < m) (e : q i = q k) : i = k := by
  by_cases a : i < k
  · have := h i k i0 a k1
    rw [e] at this
    omega
  · by_cases b : k < i
    · have := h k i k0 b i1
      rw [e] at this
      omega
    · omega
theorem incS.ins {κ q q' : Int → Int} {m pos t : Int} (h : incS κ q m) (p : 0 ≤ pos ∧ pos ≤ m) (e1 : ∀ k, 0 ≤ k → k < pos → q' k = q k) (e2 : q' pos = t) (e3 : ∀ k, pos < k → k ≤ m → q' k = q (k - 1)) (lo : ∀ k, 0 ≤ k → k < pos → κ (q k) < κ t) (hi : ∀ k, pos ≤ k → k < m → κ t < κ (q k)) : incS κ q' (m + 1) ∧ ∀ x, memS q' (m + 1) x ↔ (x = t ∨ memS q m x) := by
  refine ⟨fun i k a b c => ?_, fun x => ⟨?_, ?_⟩⟩
  · by_cases z1 : k < pos
    · rw [e1 i a (by omega), e1 k (by omega) z1]
      exact h i k a b (by omega)
    · by_cases z2 : k = pos
      · rw [e1 i a (by omega), z2, e2]
        exact lo i a (by omega)
      · rw [e3 k (by omega) (by omega)]
        by_cases z3 : i < pos
        · rw [e1 i a z3]
          exact h i (k - 1) a (by omega) (by omega)
        · by_cases z4 : i = pos
          · rw [z4, e2]
            exact hi (k - 1) (by omega) (by omega)
          · rw [e3 i (by omega) (by omega)]
            exact h (i - 1) (k - 1) (by omega) (by omega) (by omega)
  · rintro ⟨k, a, b, c⟩
    by_cases z1 : k < pos
    · rw [e1 k a z1] at c
      exact Or.inr ⟨k, a, by omega, c⟩
    · by_cases z2 : k = pos
      · rw [z2, e2] at c
        exact Or.inl c.symm
      · rw [e3 k (by omega) (by omega)] at c
        exact Or.inr ⟨k - 1, by omega, by omega, c⟩
  · rintro (c | ⟨k, a, b, c⟩)
    · exact ⟨pos, p.1, by omega, by rw [e2, c]⟩
    · by_cases z1 : k < pos
      · exact ⟨k, a, by omega, by rw [e1 k a z1]; exact c⟩
      · exact ⟨k + 1, by omega, by omega, by rw [e3 (k + 1) (by omega) (by omega), show k + 1 - 1 = k by omega]; exact c⟩
theorem incS.rem {κ q q' : Int → Int} {m pos : Int} (h : incS κ q m) (p : 0 ≤ pos ∧ pos < m) (e1 : ∀ k, 0 ≤ k → k < pos → q' k = q k) (e2 : ∀ k, pos ≤ k → k < m - 1 → q' k = q (k + 1)) : incS κ q' (m - 1) ∧ ∀ x, memS q' (m - 1) x ↔ (memS q m x ∧ ¬ x = q pos) := by
  refine ⟨fun i k a b c => ?_, fun x => ⟨?_, ?_⟩⟩
  · by_cases z1 : k < pos
    · rw [e1 i a (by omega), e1 k (by omega) z1]
      exact h i k a b (by omega)
    · rw [e2 k (by omega) (by omega)]
      by_cases z3 : i < pos
      · rw [e1 i a z3]
        exact h i (k + 1) a (by omega) (by omega)
      · rw [e2 i (by omega) (by omega)]
        exact h (i + 1) (k + 1) (by omega) (by omega) (by omega)
  · rintro ⟨k, a, b, c⟩
    by_cases z1 : k < pos
    · rw [e1 k a z1] at c
      refine ⟨⟨k, a, by omega, c⟩, fun z => ?_⟩
      have := h.inj a (by omega) p.1 p.2 (c.trans z)
      omega
    · rw [e2 k (by omega) (by omega)] at c
      refine ⟨⟨k + 1, by omega, by omega, c⟩, fun z => ?_⟩
      have := h.inj (i := k + 1) (by omega) (by omega) p.1 p.2 (c.trans z)
      omega
  · rintro ⟨⟨k, a, b, c⟩, n⟩
    by_cases z1 : k < pos
    · exact ⟨k, a, by omega, by rw [e1 k a z1]; exact c⟩
    · by_cases z2 : k = pos
      · rw [z2] at c
        exact absurd c.symm n
      · exact ⟨k - 1, by omega, by omega, by rw [e2 (k - 1) (by omega) (by omega), show k - 1 + 1 = k by omega]; exact c⟩
-- the first of each person among the first n
def inU (U : Int → Int) (n t : Int) : Prop := ∃ i, 0 ≤ i ∧ i < n ∧ U i = t
def bestS (κ p U : Int → Int) (n t : Int) : Prop := inU U n t ∧ ∀ x, inU U n x → p x = p t → κ t ≤ κ x
theorem inU_succ {U : Int → Int} {n x : Int} (hn : 0 ≤ n) : inU U (n + 1) x ↔ (inU U n x ∨ x = U n) := by
  constructor
  · rintro ⟨i, a, b, c⟩
    by_cases z : i = n
    · rw [z] at c; exact Or.inr c.symm
    · exact Or.inl ⟨i, a, by omega, c⟩
  · rintro (⟨i, a, b, c⟩ | c)
    · exact ⟨i, a, by omega, c⟩
    · exact ⟨n, hn, by omega, c.symm⟩
theorem minU {κ p U : Int → Int} {c : Int} : ∀ (n : Nat), (∃ x, inU U n x ∧ p x = c) → ∃ y, inU U n y ∧ p y = c ∧ ∀ x, inU U n x → p x = c → κ y ≤ κ x := by
  intro n
  induction n with
  | zero => rintro ⟨x, ⟨i, a, b, -⟩, -⟩; omega
  | succ n ih =>
    intro h
    have e : ∀ x, inU U ((n + 1 : Nat) : Int) x ↔ (inU U n x ∨ x = U n) := fun x => by
      rw [show ((n + 1 : Nat) : Int) = (n : Int) + 1 by omega]
      exact inU_succ (by omega)
    by_cases q : ∃ x, inU U n x ∧ p x = c
    · obtain ⟨y, y1, y2, y3⟩ := ih q
      by_cases z : p (U n) = c ∧ κ (U n) < κ y
      · refine ⟨U n, (e _).2 (Or.inr rfl), z.1, fun x a b => ?_⟩
        rcases (e x).1 a with a | a
        · have := y3 x a b; omega
        · rw [a]; omega
      · refine ⟨y, (e _).2 (Or.inl y1), y2, fun x a b => ?_⟩
        rcases (e x).1 a with a | a
        · exact y3 x a b
        · rw [a] at b ⊢
          by_cases zz : κ (U n) < κ y
          · exact absurd ⟨b, zz⟩ z
          · omega
    · obtain ⟨x, x1, x2⟩ := h
      rcases (e x).1 x1 with a | a
      · exact absurd ⟨x, a, x2⟩ q
      · refine ⟨x, x1, x2, fun z z1 z2 => ?_⟩
        rcases (e z).1 z1 with b | b
        · exact absurd ⟨z, b, z2⟩ q
        · rw [a, b]; omega
theorem bestS.ex {κ p U : Int → Int} {n x : Int} (h : inU U n x) : ∃ y, bestS κ p U n y ∧ p y = p x ∧ κ y ≤ κ x := by
  have hn : ((n.toNat : Nat) : Int) = n := by
    obtain ⟨i, a, b, -⟩ := h
    omega
  have := minU (κ := κ) (p := p) (U := U) (c := p x) n.toNat
  rw [hn] at this
  obtain ⟨y, a, b, c⟩ := this ⟨x, h, rfl⟩
  exact ⟨y, ⟨a, fun z z1 z2 => c z z1 (z2.trans b)⟩, b, c x h rfl⟩
theorem bestStep {κ p U : Int → Int} {n : Int} (hn : 0 ≤ n) (hk : ∀ x, inU U n x → ¬ κ x = κ (U n)) (y : Int) : bestS κ p U (n + 1) y ↔ ((bestS κ p U n y ∧ (p y = p (U n) → κ y < κ (U n))) ∨ (y = U n ∧ ∀ x, bestS κ p U n x → p x = p (U n) → κ (U n) < κ x)) := by
  constructor
  · rintro ⟨a, b⟩
    rcases (inU_succ hn).1 a with a | a
    · refine Or.inl ⟨⟨a, fun x x1 x2 => b x ((inU_succ hn).2 (Or.inl x1)) x2⟩, fun z => ?_⟩
      have z1 := b (U n) ((inU_succ hn).2 (Or.inr rfl)) z.symm
      have z2 := hk y a
      omega
    · refine Or.inr ⟨a, fun x x1 x2 => ?_⟩
      have z1 := b x ((inU_succ hn).2 (Or.inl x1.1)) (by rw [a]; exact x2)
      have z2 := hk x x1.1
      rw [a] at z1
      omega
  · rintro (⟨⟨a, b⟩, c⟩ | ⟨a, b⟩)
    · refine ⟨(inU_succ hn).2 (Or.inl a), fun x x1 x2 => ?_⟩
      rcases (inU_succ hn).1 x1 with x1 | x1
      · exact b x x1 x2
      · rw [x1] at x2 ⊢
        have := c x2.symm
        omega
    · refine ⟨(inU_succ hn).2 (Or.inr a), fun x x1 x2 => ?_⟩
      rw [a] at x2 ⊢
      rcases (inU_succ hn).1 x1 with x1 | x1
      · obtain ⟨z, z1, z2, z3⟩ := bestS.ex (κ := κ) (p := p) x1
        have := b z z1 (z2.trans x2)
        omega
      · rw [x1]; omega
-- a step of the class: nobody of that person yet, or the one that stands ahead stays, or the one behind goes
theorem stNone {κ p U q q' : Int → Int} {n m : Int} (hn : 0 ≤ n) (hk : ∀ x, inU U n x → ¬ κ x = κ (U n)) (h : incS κ q m) (hb : ∀ x, memS q m x ↔ bestS κ p U n x) (hi : incS κ q' (m + 1) ∧ ∀ x, memS q' (m + 1) x ↔ (x = U n ∨ memS q m x)) (no : ∀ k, 0 ≤ k → k < m → ¬ p (q k) = p (U n)) : (∀ x, memS q' (m + 1) x ↔ bestS κ p U (n + 1) x) ∧ ∀ x, (inU U (n + 1) x ∧ ¬ bestS κ p U (n + 1) x) ↔ (inU U n x ∧ ¬ bestS κ p U n x) := by
  have nb : ∀ x, bestS κ p U n x → ¬ p x = p (U n) := fun x a b => by
    obtain ⟨k, k0, k1, k2⟩ := (hb x).2 a
    exact no k k0 k1 (by rw [k2]; exact b)
  have eb : ∀ x, bestS κ p U (n + 1) x ↔ (x = U n ∨ bestS κ p U n x) := fun x => by
    rw [bestStep hn hk]
    constructor
    · rintro (a | a)
      · exact Or.inr a.1
      · exact Or.inl a.1
    · rintro (a | a)
      · exact Or.inr ⟨a, fun z z1 z2 => absurd z2 (nb z z1)⟩
      · exact Or.inl ⟨a, fun z => absurd z (nb x a)⟩
  refine ⟨fun x => by rw [hi.2, hb, eb], fun x => ?_⟩
  rw [eb, inU_succ hn]
  constructor
  · rintro ⟨a | a, b⟩
    · exact ⟨a, fun z => b (Or.inr z)⟩
    · exact absurd (Or.inl a) b
  · rintro ⟨a, b⟩
    refine ⟨Or.inl a, ?_⟩
    rintro (z | z)
    · exact hk x a (by rw [z])
    · exact b z
theorem stKeep {κ p U q : Int → Int} {n m tw : Int} (hn : 0 ≤ n) (hk : ∀ x, inU U n x → ¬ κ x = κ (U n)) (h : incS κ q m) (hb : ∀ x, memS q m x ↔ bestS κ p U n x) (htw : 0 ≤ tw ∧ tw < m) (hp : p (q tw) = p (U n)) (hl : κ (q tw) < κ (U n)) : (∀ x, memS q m x ↔ bestS κ p U (n + 1) x) ∧ ∀ x, (inU U (n + 1) x ∧ ¬ bestS κ p U (n + 1) x) ↔ ((inU U n x ∧ ¬ bestS κ p U n x) ∨ x = U n) := by
  have bt : bestS κ p U n (q tw) := (hb _).1 ⟨tw, htw.1, htw.2, rfl⟩
  have eb : ∀ x, bestS κ p U (n + 1) x ↔ bestS κ p U n x := fun x => by
    rw [bestStep hn hk]
    constructor
    · rintro (a | a)
      · exact a.1
      · have := a.2 _ bt hp
        omega
    · intro a
      refine Or.inl ⟨a, fun z => ?_⟩
      have := a.2 _ bt.1 (by rw [hp, z])
      omega
  refine ⟨fun x => by rw [hb, eb], fun x => ?_⟩
  rw [eb, inU_succ hn]
  constructor
  · rintro ⟨a | a, b⟩
    · exact Or.inl ⟨a, b⟩
    · exact Or.inr a
  · rintro (⟨a, b⟩ | a)
    · exact ⟨Or.inl a, b⟩
    · exact ⟨Or.inr a, fun z => hk x z.1 (by rw [a])⟩
theorem stSwap {κ p U q q1 q' : Int → Int} {n m tw : Int} (hn : 0 ≤ n) (hk : ∀ x, inU U n x → ¬ κ x = κ (U n)) (h : incS κ q m) (hb : ∀ x, memS q m x ↔ bestS κ p U n x) (htw : 0 ≤ tw ∧ tw < m) (hp : p (q tw) = p (U n)) (hl : κ (U n) < κ (q tw)) (hr : ∀ x, memS q1 (m - 1) x ↔ (memS q m x ∧ ¬ x = q tw)) (hi : ∀ x, memS q' (m - 1 + 1) x ↔ (x = U n ∨ memS q1 (m - 1) x)) : (∀ x, memS q' m x ↔ bestS κ p U (n + 1) x) ∧ ∀ x, (inU U (n + 1) x ∧ ¬ bestS κ p U (n + 1) x) ↔ ((inU U n x ∧ ¬ bestS κ p U n x) ∨ x = q tw) := by
  have bt : bestS κ p U n (q tw) := (hb _).1 ⟨tw, htw.1, htw.2, rfl⟩
  have un : ∀ x, bestS κ p U n x → p x = p (U n) → x = q tw := fun x a b => by
    obtain ⟨k, k0, k1, k2⟩ := (hb x).2 a
    have e1 := a.2 _ bt.1 (by rw [hp, b])
    have e2 := bt.2 _ a.1 (by rw [hp, b])
    by_cases z : k = tw
    · rw [← k2, z]
    · exfalso
      by_cases zz : k < tw
      · have := h k tw k0 zz htw.2
        rw [k2] at this; omega
      · have := h tw k htw.1 (by omega) k1
        rw [k2] at this; omega
  have eb : ∀ x, bestS κ p U (n + 1) x ↔ (x = U n ∨ (bestS κ p U n x ∧ ¬ x = q tw)) := fun x => by
    rw [bestStep hn hk]
    constructor
    · rintro (a | a)
      · refine Or.inr ⟨a.1, fun z => ?_⟩
        have := a.2 (by rw [z]; exact hp)
        rw [z] at this
        omega
      · exact Or.inl a.1
    · rintro (a | a)
      · refine Or.inr ⟨a, fun z z1 z2 => ?_⟩
        rw [un z z1 z2]; exact hl
      · exact Or.inl ⟨a.1, fun z => absurd (un x a.1 z) a.2⟩
  refine ⟨fun x => ?_, fun x => ?_⟩
  · have := hi x
    rw [show m - 1 + 1 = m by omega] at this
    rw [this, hr, hb, eb]
  · rw [eb, inU_succ hn]
    constructor
    · rintro ⟨a | a, b⟩
      · by_cases z : x = q tw
        · exact Or.inr z
        · exact Or.inl ⟨a, fun y => b (Or.inr ⟨y, z⟩)⟩
      · exact absurd (Or.inl a) b
    · rintro (⟨a, b⟩ | a)
      · refine ⟨Or.inl a, ?_⟩
        rintro (z | z)
        · exact hk x a (by rw [z])
        · exact b z.1
      · refine ⟨Or.inl (by rw [a]; exact bt.1), ?_⟩
        rintro (z | z)
        · exact hk (q tw) bt.1 (by rw [← a, z])
        · exact z.2 a
