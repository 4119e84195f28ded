/-! ===== both readers side by side: words ===== -/
theorem wc_nn {b : Int → Int} {a : Int} : ∀ n : Nat, (∀ i : Int, 0 ≤ i → i < (n : Int) → isLe (b (a + i))) → 0 ≤ wc b a n ∧ (0 < n → 0 < wc b a n) := by
  intro n
  induction n with
  | zero => intro _; exact ⟨by show (0 : Int) ≤ 0; decide, fun z => absurd z (by omega)⟩
  | succ n ih =>
    intro h
    have h1 := (ih (fun i x y => h i x (by omega))).1
    have h2 := h n (by omega) (by omega)
    unfold isLe at h2
    have e : wc b a (n + 1) = 27 * wc b a n + b (a + n) - 96 := rfl
    rw [e]
    exact ⟨by omega, fun _ => by omega⟩
theorem wc_inj {f g : Int → Int} {a c : Int} : ∀ n m : Nat, (∀ i : Int, 0 ≤ i → i < (n : Int) → isLe (f (a + i))) → (∀ i : Int, 0 ≤ i → i < (m : Int) → isLe (g (c + i))) → wc f a n = wc g c m → n = m ∧ ∀ i : Int, 0 ≤ i → i < (n : Int) → f (a + i) = g (c + i) := by
  intro n
  induction n with
  | zero =>
    intro m hf hg h
    have h : 0 = wc g c m := h
    have := (wc_nn m hg).2
    exact ⟨by omega, fun i x y => by omega⟩
  | succ n ih =>
    intro m hf hg h
    cases m with
    | zero =>
      have := (wc_nn (n + 1) hf).2 (by omega)
      have h : wc f a (n + 1) = 0 := h
      omega
    | succ m =>
      have h1 := hf n (by omega) (by omega)
      have h2 := hg m (by omega) (by omega)
      unfold isLe at h1 h2
      have h : 27 * wc f a n + f (a + n) - 96 = 27 * wc g c m + g (c + m) - 96 := h
      obtain ⟨q1, q2⟩ := ih m (fun i x y => hf i x (by omega)) (fun i x y => hg i x (by omega)) (by omega)
      refine ⟨by omega, fun i x y => ?_⟩
      by_cases z : i = n
      · rw [z]
        subst q1
        omega
      · exact q2 i x (by omega)
def wordOK (w code : Int) : Prop := wc (fun i => tsc w i) 0 (tsl w).toNat = code ∧ (1 ≤ tsl w ∧ tsl w ≤ 8) ∧ ∀ i : Int, 0 ≤ i → i < tsl w → isLe (tsc w i)
theorem mcz {x y : Int} : mcmp x y = 0 ↔ x = y := by
  unfold mcmp
  split
  · omega
  · split <;> omega
theorem BL.self {b : Int → Int} {L i a : Int} (h : BL b L i a) : BL b L a a := ⟨by omega, h.2.1, fun j x y => by omega, h.2.2.2⟩
theorem isWord {d e : mD} {w code : Int} (h : Syn d e) (hw : wordOK w code) : FrR e (g_194 769 code e) ∧ ((v_55 577 w d = 1 ∧ v_194 769 code e = 1 ∧ Syn (g_52 577 d) (g_194 769 code e) ∧ FrC d (g_52 577 d)) ∨ (v_55 577 w d = 0 ∧ v_194 769 code e = 0 ∧ Syn d (g_194 769 code e))) := by
  obtain ⟨tx, b13, bt, bl, tk⟩ := id h
  obtain ⟨hw1, hw2, hw3⟩ := hw
  obtain ⟨a0, e0, o1, o2, o3, o4, o5⟩ := bl189 tx bt.1 bt.2
  have ea0 : a0 = d 577 2 := o2.uni bl
  rw [ea0] at o5
  have f0 : FrR e e0 := ⟨o3, fun j hj => o4 j (by omega)⟩
  have e013 : e0 769 13 = 0 := by rw [o4 13 (by decide)]; exact b13
  have tx0 : TX (d 579) (d 578 1) e0 := tx.fr (o4 9 (by decide)) (o3 776 (by decide))
  have b0 := bl.1
  obtain ⟨a, z, e1, p1, p2, p3, p4, p5, p6, p7⟩ := w193 (lim := 8) (by decide) tx0 (by omega) (by have := bl.2.1; omega)
  rw [o5] at p1
  have ea : a = d 577 2 := p1.uni bl.self
  rw [ea] at p2 p3
  have f1 : FrR e0 e1 := ⟨p4, fun j hj => p5 j (by omega) (by omega)⟩
  have e13 : e1 769 13 = 0 := by rw [p5 13 (by decide) (by decide)]; exact e013
  have v3 : v_193 769 8 e0 = if z - d 577 2 ≤ 8 then wc (d 579) (d 577 2) (z - d 577 2).toNat else -1 := by
    unfold v_193
    rw [p3]
  have g3 : g_193 769 8 e0 = e1 := by
    unfold g_193
    rw [p3]
  have vr : v_194 769 code e = if v_193 769 8 e0 = code then 1 else 0 := by
    unfold v_194
    rw [o1, if_pos e013]
    by_cases c : v_193 769 8 e0 = code
    · rw [if_pos (mcz.2 c), if_pos c]
    · rw [if_neg (fun y => c (mcz.1 y)), if_neg c]
  have gr : g_194 769 code e = if v_193 769 8 e0 = code then e1 else mset e1 769 10 (d 577 2) := by
    unfold g_194
    rw [o1, if_pos e013, g3, o5]
    by_cases c : v_193 769 8 e0 = code
    · rw [if_pos (mcz.2 c), if_pos c]
    · rw [if_neg (fun y => c (mcz.1 y)), if_neg c]
  have lw : ∀ i : Int, 0 ≤ i → i < ((tsl w).toNat : Int) → isLe ((fun i => tsc w i) (0 + i)) := fun i x y => by
    show isLe (tsc w (0 + i))
    rw [Int.zero_add]
    exact hw3 i x (by omega)
  have cpos : 0 < code := by
    rw [← hw1]
    exact (wc_nn _ lw).2 (by omega)
  have ls : ∀ i : Int, 0 ≤ i → i < ((z - d 577 2).toNat : Int) → isLe (d 579 (d 577 2 + i)) := fun i x y => p2.2.2.1 _ (by omega) (by omega)
  have hm : v_193 769 8 e0 = code ↔ (z - d 577 2 = tsl w ∧ ∀ i, 0 ≤ i → i < tsl w → d 579 (d 577 2 + i) = tsc w i) := by
    rw [v3]
    constructor
    · intro y
      by_cases c : z - d 577 2 ≤ 8
      · rw [if_pos c, ← hw1] at y
        obtain ⟨q1, q2⟩ := wc_inj (z - d 577 2).toNat (tsl w).toNat ls lw y
        have := p2.1
        refine ⟨by omega, fun i x u => ?_⟩
        have := q2 i x (by omega)
        rw [Int.zero_add] at this
        exact this
      · rw [if_neg c] at y
        omega
    · rintro ⟨y1, y2⟩
      rw [if_pos (by omega), ← hw1, y1]
      have ext : ∀ n : Nat, (n : Int) ≤ tsl w → wc (d 579) (d 577 2) n = wc (fun i => tsc w i) 0 n := by
        intro n
        induction n with
        | zero => intro _; rfl
        | succ n ih =>
          intro hn
          show 27 * wc (d 579) (d 577 2) n + d 579 (d 577 2 + n) - 96 = 27 * wc (fun i => tsc w i) 0 n + tsc w (0 + n) - 96
          rw [ih (by omega), y2 n (by omega) (by omega), Int.zero_add]
      exact ext _ (by omega)
  by_cases c : v_193 769 8 e0 = code
  · obtain ⟨m1, m2⟩ := hm.1 c
    rw [if_pos c] at vr gr
    have k : d 577 1 = 0 ∧ RU isLe (d 579) (d 578 1) (d 577 2) (d 577 3) := by
      have l0 := m2 0 (by decide) (by omega)
      have ll := p2.2.2.1 (d 577 2) (by omega) (by omega)
      have zz := p2.2.1
      rcases tk with ⟨a1, a2, a3⟩ | ⟨a1, a2, a3, a4⟩ | ⟨a1, a2, a3, a4⟩ | ⟨a1, a2, a3, a4⟩ | ⟨a1, a2, a3, a4, a5, a6⟩
      · omega
      · exact ⟨a3, a4⟩
      · unfold isLe at ll
        unfold isDi at a2
        omega
      · unfold isLe at ll
        omega
      · exact absurd ll a2
    have ez : z = d 577 3 := p2.uni k.2
    have v5 : v_55 577 w d = 1 := by
      unfold v_55
      rw [if_pos k.1, if_pos (by omega), if_pos]
      rw [List.all_eq_true]
      intro i hi
      rw [List.mem_range] at hi
      exact decide_eq_true (m2 i (by omega) (by omega))
    obtain ⟨s1, s2⟩ := h.next (d0 := d) (fun _ _ _ => rfl) rfl (f0.trans f1) e13 (by rw [p6, ez])
    rw [gr]
    exact ⟨f0.trans f1, Or.inl ⟨v5, vr, s1, s2⟩⟩
  · rw [if_neg c] at vr gr
    have v5 : v_55 577 w d = 0 := by
      unfold v_55
      by_cases k : d 577 1 = 0
      · rw [if_pos k]
        by_cases k3 : d 577 3 - d 577 2 = tsl w
        · rw [if_pos k3, if_neg]
          intro y
          rw [List.all_eq_true] at y
          refine c (hm.2 ?_)
          have ru : RU isLe (d 579) (d 578 1) (d 577 2) (d 577 3) := by
            rcases tk with ⟨a1, a2, a3⟩ | ⟨a1, a2, a3, a4⟩ | ⟨a1, a2, a3, a4⟩ | ⟨a1, a2, a3, a4⟩ | ⟨a1, a2, a3, a4, a5, a6⟩
            · omega
            · exact a4
            · omega
            · omega
            · omega
          have ez : z = d 577 3 := p2.uni ru
          refine ⟨by omega, fun i x u => ?_⟩
          have := of_decide_eq_true (y i.toNat (List.mem_range.2 (by omega)))
          rw [show ((i.toNat : Nat) : Int) = i by omega] at this
          exact this
        · rw [if_neg k3]
      · rw [if_neg k]
    have fr := (f0.trans f1).trans (FrR.set (e := e1) (j := 10) (v := d 577 2) (by decide))
    rw [gr]
    refine ⟨fr, Or.inr ⟨v5, vr, tx.fr (fr.2 9 (by decide)) (fr.1 776 (by decide)), by rw [ms_i (by decide)]; exact e13, ?_, ?_, tk⟩⟩
    · rw [ms_e rfl rfl]
      exact ⟨by omega, bl.2.1⟩
    · rw [ms_e rfl rfl]
      exact bl.self
