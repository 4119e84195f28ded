/-! ===== the content of the text as a name ===== -/
theorem neg210 {e : mD} : ∀ (n : Nat) (x1 x2 : Int), x1 < 0 → e 769 9 - x2 ≤ (n : Int) → lp_210_4 769 n x1 x2 e = (0, mset e 769 9 0) := by
  have fin : ∀ r x1 x2, x1 < 0 → ¬ x2 < e 769 9 → st_210_4 769 r x1 x2 e = (0, mset e 769 9 0) := fun r x1 x2 a b => by
    unfold st_210_4
    rw [if_neg b, if_pos a]
  intro n
  induction n with
  | zero => intro x1 x2 a b; exact fin _ x1 x2 a (by omega)
  | succ n ih =>
    intro x1 x2 a b
    by_cases c : x2 < e 769 9
    · show st_210_4 769 _ x1 x2 e = _
      unfold st_210_4
      rw [if_pos c]
      split
      · exact ih (-1) (x2 + 1) (by decide) (by omega)
      · split
        · exact ih (-1) (x2 + 1) (by decide) (by omega)
        · exact ih (-1) (x2 + 1) (by decide) (by omega)
    · exact fin _ x1 x2 a c
theorem long210 {e : mD} (hl : 6 < e 769 9) : ∀ (n : Nat) (x1 x2 : Int), x2 ≤ 6 → e 769 9 - x2 ≤ (n : Int) → lp_210_4 769 n x1 x2 e = (0, mset e 769 9 0) := by
  intro n
  induction n with
  | zero => intro x1 x2 a b; omega
  | succ n ih =>
    intro x1 x2 a b
    show st_210_4 769 _ x1 x2 e = _
    unfold st_210_4
    rw [if_pos (by omega)]
    split
    · exact neg210 n (-1) (x2 + 1) (by decide) (by omega)
    · by_cases c : x2 < 6
      · rw [if_pos c]
        split
        · exact neg210 n (-1) (x2 + 1) (by decide) (by omega)
        · exact ih _ (x2 + 1) (by omega) (by omega)
      · rw [if_neg c]
        exact neg210 n (-1) (x2 + 1) (by decide) (by omega)
def nmB (i c : Int) : Prop := (i = 0 ∧ c < 1) ∨ (i = 1 ∧ c < 32) ∨ (i = 2 ∧ c < 1024) ∨ (i = 3 ∧ c < 32768) ∨ (i = 4 ∧ c < 1048576) ∨ (i = 5 ∧ c < 33554432) ∨ (i = 6 ∧ c < 1073741824)
theorem nm_zero : nm 0 = 0 := by decide
theorem loop210 {d e : mD} (h : TextR d e) (h1 : 1 ≤ d 578 1 ∧ d 578 1 ≤ 6) : ∀ (n nr : Nat) (c i : Int), ((c = 0 ∧ i = 0) ∨ (okN c ∧ 1 ≤ i)) → nmB i c → i ≤ d 578 1 → d 578 1 - i ≤ (n : Int) → d 578 1 - i ≤ (nr : Int) → (lp_93_20 578 0 (d 578 1) n c i d = -1 ∧ lp_210_4 769 nr (nm c) i e = (0, mset e 769 9 0)) ∨ (okN (lp_93_20 578 0 (d 578 1) n c i d) ∧ lp_210_4 769 nr (nm c) i e = (nm (lp_93_20 578 0 (d 578 1) n c i d), mset e 769 9 0)) := by
  have e9 : e 769 9 = d 578 1 := h.2.1
  have fin : ∀ (r : Int → Int → mD → Int) (r' : Int → Int → mD → Int × mD) (c i : Int), ((c = 0 ∧ i = 0) ∨ (okN c ∧ 1 ≤ i)) → ¬ i < d 578 1 → i ≤ d 578 1 → (st_93_20 578 0 (d 578 1) r c i d = -1 ∧ st_210_4 769 r' (nm c) i e = (0, mset e 769 9 0)) ∨ (okN (st_93_20 578 0 (d 578 1) r c i d) ∧ st_210_4 769 r' (nm c) i e = (nm (st_93_20 578 0 (d 578 1) r c i d), mset e 769 9 0)) := fun r r' c i hc a b => by
    have ho : okN c := by
      rcases hc with hc | hc
      · omega
      · exact hc.1
    have hp := nm_pos ho
    unfold st_93_20 st_210_4
    rw [if_neg a, e9, if_neg a, if_neg (by omega)]
    exact Or.inr ⟨ho, rfl⟩
  intro n
  induction n with
  | zero =>
    intro nr c i hc hb a b b'
    cases nr with
    | zero => exact fin _ _ c i hc (by omega) a
    | succ nr => exact fin _ _ c i hc (by omega) a
  | succ n ih =>
    intro nr c i hc hb a b b'
    by_cases q : i < d 578 1
    · cases nr with
      | zero => omega
      | succ nr =>
        have i0 : 0 ≤ i := by
          rcases hc with hc | hc <;> omega
        obtain ⟨l1, l2, l3⟩ := h.letter i0 q
        by_cases z : v_91 578 i d = 0
        · have e1 : lp_93_20 578 0 (d 578 1) (n + 1) c i d = -1 := by
            show st_93_20 578 0 (d 578 1) _ c i d = _
            unfold st_93_20
            rw [if_pos q, if_pos z]
          have e2 : lp_210_4 769 (nr + 1) (nm c) i e = lp_210_4 769 nr (-1) (i + 1) e := by
            show st_210_4 769 _ (nm c) i e = _
            unfold st_210_4
            rw [e9, if_pos q, l2, if_pos z]
          exact Or.inl ⟨e1, by rw [e2]; exact neg210 nr (-1) (i + 1) (by decide) (by omega)⟩
        · have z1 : v_91 578 i d = 1 := by omega
          obtain ⟨b1, b2, b3⟩ := l3 z1
          have hb' : (i = 0 ∧ c < 1) ∨ (i = 1 ∧ c < 32) ∨ (i = 2 ∧ c < 1024) ∨ (i = 3 ∧ c < 32768) ∨ (i = 4 ∧ c < 1048576) ∨ (i = 5 ∧ c < 33554432) := by
            unfold nmB at hb
            omega
          obtain ⟨o1, o2, o3⟩ := okStep (l := d 579 i - 96) hc hb' (by omega)
          have hc0 : 0 ≤ c := by
            rcases hc with hc | hc
            · omega
            · have := hc.1.1
              omega
          have hm : mior (mishl c 5) (d 579 i - 96) = 32 * c + (d 579 i - 96) := by
            rcases mname_or c (d 579 i - 96) with y | y
            · exact y.2.2.2.2
            · omega
          have hn : ¬ nm c < 0 := by
            rcases hc with hc | hc
            · rw [hc.1, nm_zero]; decide
            · have := nm_pos hc.1
              omega
          have e1 : lp_93_20 578 0 (d 578 1) (n + 1) c i d = lp_93_20 578 0 (d 578 1) n (32 * c + (d 579 i - 96)) (i + 1) d := by
            show st_93_20 578 0 (d 578 1) _ c i d = _
            unfold st_93_20
            rw [if_pos q, if_neg z, show (578 : Int) + 1 = 579 by decide, hm]
          have e2 : lp_210_4 769 (nr + 1) (nm c) i e = lp_210_4 769 nr (nm (32 * c + (d 579 i - 96))) (i + 1) e := by
            show st_210_4 769 _ (nm c) i e = _
            unfold st_210_4
            rw [e9, if_pos q, l2, if_neg z, if_pos (by omega), if_neg hn, show (769 : Int) + 7 = 776 by decide, b1, o2, show 27 * nm c + d 579 i - 97 + 1 = d 579 i - 96 + 27 * nm c by omega]
          rw [e1, e2]
          exact ih nr _ (i + 1) (Or.inr ⟨o1, by omega⟩) (by unfold nmB; omega) (by omega) (by omega) (by omega)
    · cases nr with
      | zero => exact fin _ _ c i hc q a
      | succ nr => exact fin _ _ c i hc q a
theorem content {d e : mD} (h : TextR d e) : ((v_93 578 0 (d 578 1) d = -1 ∧ v_210 769 e = 0) ∨ (okN (v_93 578 0 (d 578 1) d) ∧ v_210 769 e = nm (v_93 578 0 (d 578 1) d))) ∧ g_210 769 e = mset e 769 9 0 := by
  have e9 : e 769 9 = d 578 1 := h.2.1
  have hr := h.1
  have fuel : (((1000 - 0 : Int).toNat : Nat) : Int) = 1000 := by decide
  unfold v_93 v_210 g_210 f_210
  by_cases c : 0 < d 578 1
  · rw [if_pos c]
    by_cases c6 : 6 < d 578 1
    · rw [if_pos (by omega), long210 (by omega) (1000 - 0 : Int).toNat 0 0 (by decide) (by omega)]
      exact ⟨Or.inl ⟨rfl, rfl⟩, rfl⟩
    · rw [if_neg (by omega)]
      have := loop210 h (by omega) (d 578 1 - 0 : Int).toNat (1000 - 0 : Int).toNat 0 0 (Or.inl ⟨rfl, rfl⟩) (Or.inl ⟨rfl, by decide⟩) (by omega) (by omega) (by omega)
      rw [nm_zero] at this
      rcases this with ⟨a, b⟩ | ⟨a, b⟩
      · rw [a, b]
        exact ⟨Or.inl ⟨rfl, rfl⟩, rfl⟩
      · rw [b]
        exact ⟨Or.inr ⟨a, rfl⟩, rfl⟩
  · rw [if_neg c]
    have st : lp_210_4 769 (1000 - 0 : Int).toNat 0 0 e = (0, mset e 769 9 0) := by
      have s : ∀ r, st_210_4 769 r 0 0 e = (0, mset e 769 9 0) := fun r => by
        unfold st_210_4
        rw [if_neg (by omega), if_neg (by decide)]
      exact s _
    rw [st]
    exact ⟨Or.inl ⟨rfl, rfl⟩, rfl⟩
