/-! ===== the text of both sides ===== -/
def TextR (d e : mD) : Prop := (0 ≤ d 578 1 ∧ d 578 1 ≤ 1000) ∧ e 769 9 = d 578 1 ∧ ∀ i, 0 ≤ i → i < d 578 1 → d 579 i % 256 = e 776 i ∧ -128 ≤ d 579 i ∧ d 579 i ≤ 127
theorem i2b_rng (X : Int) : -128 ≤ mi2b X ∧ mi2b X ≤ 127 := by
  rw [i2bB]
  have h := ((Int32.ofInt X).toBitVec.setWidth 8).isLt
  rw [BitVec.toInt_eq_toNat_cond]
  split <;> omega
theorem TextR.fr {d d' e e' : mD} (h : TextR d e) (h1 : d' 578 1 = d 578 1) (h2 : d' 579 = d 579) (h3 : e' 769 9 = e 769 9) (h4 : e' 776 = e 776) : TextR d' e' := by
  unfold TextR
  rw [h1, h2, h3, h4]
  exact h
theorem TextR.put {d e : mD} {v u : Int} (h : TextR d e) (hl : d 578 1 < 1000) (hu : mi2b v % 256 = u) : TextR (g_86 578 v d) (mset (mset e 776 (e 769 9) u) 769 9 (e 769 9 + 1)) ∧ g_86 578 v d 578 1 = d 578 1 + 1 ∧ ∀ b, ¬ b = 578 → ¬ b = 579 → g_86 578 v d b = d b := by
  obtain ⟨h1, h2, h3⟩ := h
  have hr := i2b_rng v
  have e1 : g_86 578 v d = mset (mset d 579 (d 578 1) (mi2b v)) 578 1 (d 578 1 + 1) := by
    unfold g_86
    rw [if_pos hl]
    rfl
  rw [e1, h2]
  refine ⟨⟨?_, ?_, fun i a b => ?_⟩, ms_e rfl rfl, fun b x y => ?_⟩
  · rw [ms_e rfl rfl]; omega
  · rw [ms_e rfl rfl, ms_e rfl rfl]
  · rw [ms_e rfl rfl] at b
    have q1 : ∀ j, mset (mset d 579 (d 578 1) (mi2b v)) 578 1 (d 578 1 + 1) 579 j = mset d 579 (d 578 1) (mi2b v) 579 j := fun j => ms_a (by decide)
    have q2 : ∀ j, mset (mset e 776 (d 578 1) u) 769 9 (d 578 1 + 1) 776 j = mset e 776 (d 578 1) u 776 j := fun j => ms_a (by decide)
    rw [q1, q2]
    by_cases z : i = d 578 1
    · rw [z, ms_e rfl rfl, ms_e rfl rfl]
      exact ⟨hu, hr⟩
    · rw [ms_i z, ms_i z]
      exact h3 i a (by omega)
  · funext j
    rw [ms_a x, ms_a y]
def putR (x k : Int) (e : mD) : mD := mset (mset e 776 (e 769 9) (miand (mishr x k) 255)) 769 9 (e 769 9 + 1)
theorem st185 {x : Int} {e : mD} : g_185 769 x e = putR x 0 (putR x 8 (putR x 16 (putR x 24 e))) := by
  have s : ∀ (n : Nat) (k : Int) (e : mD), 0 ≤ k → lp_185_3 769 x (n + 1) k e = lp_185_3 769 x n (k + -8) (putR x k e) := fun n k e hk => by
    show st_185_3 769 x _ k e = _
    unfold st_185_3
    rw [if_neg (by omega)]
    rfl
  have z : ∀ (n : Nat) (k : Int) (e : mD), k < 0 → lp_185_3 769 x n k e = e := fun n k e hk => by
    have st : ∀ r, st_185_3 769 x r k e = e := fun r => by
      unfold st_185_3
      rw [if_pos hk]
    cases n with
    | zero => exact st _
    | succ n => exact st _
  unfold g_185
  rw [show (24 + 8 : Int).toNat = 28 + 1 + 1 + 1 + 1 by decide, s _ 24 e (by decide), s _ (24 + -8) _ (by decide), s _ (24 + -8 + -8) _ (by decide), s _ (24 + -8 + -8 + -8) _ (by decide), z _ _ _ (by decide)]
  rfl
theorem TextR.int {d e : mD} {x : Int} (h : TextR d e) (hl : d 578 1 + 4 ≤ 1000) : TextR (g_87 578 x d) (g_185 769 x e) ∧ g_87 578 x d 578 1 = d 578 1 + 4 ∧ ∀ b, ¬ b = 578 → ¬ b = 579 → g_87 578 x d b = d b := by
  rw [st185]
  unfold g_87
  obtain ⟨a1, a2, a3⟩ := h.put (v := miushr x 24) (u := miand (mishr x 24) 255) (by omega) (byteEq x 24 (by decide))
  obtain ⟨b1, b2, b3⟩ := a1.put (v := miushr x 16) (u := miand (mishr x 16) 255) (by omega) (byteEq x 16 (by decide))
  obtain ⟨c1, c2, c3⟩ := b1.put (v := miushr x 8) (u := miand (mishr x 8) 255) (by omega) (byteEq x 8 (by decide))
  obtain ⟨f1, f2, f3⟩ := c1.put (v := x) (u := miand (mishr x 0) 255) (by omega) (byteEq0 x)
  exact ⟨f1, by omega, fun b x y => by rw [f3 b x y, c3 b x y, b3 b x y, a3 b x y]⟩
theorem putR_f {x k : Int} {e : mD} : (∀ b, ¬ b = 769 → ¬ b = 776 → putR x k e b = e b) ∧ ∀ j, ¬ j = 9 → putR x k e 769 j = e 769 j := by
  unfold putR
  exact ⟨fun b h1 h2 => by funext j; rw [ms_a h1, ms_a h2], fun j hj => by rw [ms_i hj, ms_a (by decide)]⟩
theorem f185 {x : Int} {e : mD} : (∀ b, ¬ b = 769 → ¬ b = 776 → g_185 769 x e b = e b) ∧ ∀ j, ¬ j = 9 → g_185 769 x e 769 j = e 769 j := by
  rw [st185]
  exact ⟨fun b h1 h2 => by rw [putR_f.1 b h1 h2, putR_f.1 b h1 h2, putR_f.1 b h1 h2, putR_f.1 b h1 h2], fun j hj => by rw [putR_f.2 j hj, putR_f.2 j hj, putR_f.2 j hj, putR_f.2 j hj]⟩
theorem TextR.app {d e : mD} {a b c x y : Int} (h : TextR d e) (hl : d 578 1 + 20 ≤ 1000) : TextR (g_87 578 y (g_87 578 x (g_87 578 c (g_87 578 b (g_87 578 a d))))) (g_185 769 y (g_185 769 x (g_185 769 c (g_185 769 b (g_185 769 a e))))) ∧ g_87 578 y (g_87 578 x (g_87 578 c (g_87 578 b (g_87 578 a d)))) 578 1 = d 578 1 + 20 ∧ ∀ k, ¬ k = 578 → ¬ k = 579 → g_87 578 y (g_87 578 x (g_87 578 c (g_87 578 b (g_87 578 a d)))) k = d k := by
  obtain ⟨a1, a2, a3⟩ := h.int (x := a) (by omega)
  obtain ⟨b1, b2, b3⟩ := a1.int (x := b) (by omega)
  obtain ⟨c1, c2, c3⟩ := b1.int (x := c) (by omega)
  obtain ⟨f1, f2, f3⟩ := c1.int (x := x) (by omega)
  obtain ⟨g1, g2, g3⟩ := f1.int (x := y) (by omega)
  exact ⟨g1, by omega, fun k u v => by rw [g3 k u v, f3 k u v, c3 k u v, b3 k u v, a3 k u v]⟩
-- letters, digits, blanks
theorem v176 {x a b : Int} {d : mD} : v_176 x a b d = if a ≤ x ∧ x ≤ b then 1 else 0 := by
  unfold v_176
  have h1 : mcmp x a < 0 ↔ x < a := by
    unfold mcmp
    split
    · omega
    · split <;> omega
  have h2 : 0 < mcmp x b ↔ b < x := by
    unfold mcmp
    split
    · omega
    · split <;> omega
  by_cases c1 : x < a
  · rw [if_pos (h1.2 c1), if_neg (by omega)]
  · rw [if_neg (fun z => c1 (h1.1 z))]
    by_cases c2 : b < x
    · rw [if_pos (h2.2 c2), if_neg (by omega)]
    · rw [if_neg (fun z => c2 (h2.1 z)), if_pos (by omega)]
theorem TextR.letter {d e : mD} {i : Int} (h : TextR d e) (h0 : 0 ≤ i) (h1 : i < d 578 1) : (v_91 578 i d = 0 ∨ v_91 578 i d = 1) ∧ v_190 769 i e = v_91 578 i d ∧ (v_91 578 i d = 1 → e 776 i = d 579 i ∧ 97 ≤ d 579 i ∧ d 579 i ≤ 122) := by
  obtain ⟨a, b, c⟩ := h
  have g := c i h0 h1
  unfold v_190 v_91
  rw [v176, show (769 : Int) + 7 = 776 by decide, show (578 : Int) + 1 = 579 by decide, b, if_pos h1]
  by_cases c1 : d 579 i < 97
  · have zz : ¬ (97 ≤ e 776 i ∧ e 776 i ≤ 122) := by omega
    rw [if_pos c1, if_neg zz, if_pos rfl]
    exact ⟨Or.inl rfl, rfl, fun z => absurd z (by decide)⟩
  · rw [if_neg c1]
    by_cases c2 : 122 < d 579 i
    · have zz : ¬ (97 ≤ e 776 i ∧ e 776 i ≤ 122) := by omega
      rw [if_pos c2, if_neg zz, if_pos rfl]
      exact ⟨Or.inl rfl, rfl, fun z => absurd z (by decide)⟩
    · have zz : 97 ≤ e 776 i ∧ e 776 i ≤ 122 := by omega
      rw [if_neg c2, if_pos zz, if_neg (by decide)]
      exact ⟨Or.inr rfl, rfl, fun _ => by omega⟩
-- the whole text as a name
theorem okStep {c l i : Int} (h : (c = 0 ∧ i = 0) ∨ (okN c ∧ 1 ≤ i)) (hb : (i = 0 ∧ c < 1) ∨ (i = 1 ∧ c < 32) ∨ (i = 2 ∧ c < 1024) ∨ (i = 3 ∧ c < 32768) ∨ (i = 4 ∧ c < 1048576) ∨ (i = 5 ∧ c < 33554432)) (hl : 1 ≤ l ∧ l ≤ 26) : okN (32 * c + l) ∧ nm (32 * c + l) = l + 27 * nm c ∧ ((i = 0 ∧ 32 * c + l < 32) ∨ (i = 1 ∧ 32 * c + l < 1024) ∨ (i = 2 ∧ 32 * c + l < 32768) ∨ (i = 3 ∧ 32 * c + l < 1048576) ∨ (i = 4 ∧ 32 * c + l < 33554432) ∨ (i = 5 ∧ 32 * c + l < 1073741824)) := by
  have c0 : 0 ≤ c := by
    rcases h with h | h
    · omega
    · have := h.1.1
      omega
  have e0 : (32 * c + l) % 32 = l := by omega
  have e1 : (32 * c + l) / 32 % 32 = c % 32 := by omega
  have e2 : (32 * c + l) / 1024 % 32 = c / 32 % 32 := by omega
  have e3 : (32 * c + l) / 32768 % 32 = c / 1024 % 32 := by omega
  have e4 : (32 * c + l) / 1048576 % 32 = c / 32768 % 32 := by omega
  have e5 : (32 * c + l) / 33554432 % 32 = c / 1048576 % 32 := by omega
  have e6 : c / 33554432 % 32 = 0 := by omega
  refine ⟨?_, ?_, by omega⟩
  · unfold okN
    rw [e0, e1, e2, e3, e4, e5]
    rcases h with h | h
    · rw [h.1]
      exact ⟨by omega, by omega, hl, by decide, by decide, by decide, by decide, by decide, fun _ => by decide, fun _ => by decide, fun _ => by decide, fun _ => by decide⟩
    · obtain ⟨o1, o2, o3, o4, o5, o6, o7, o8, o9, o10, o11, o12⟩ := h.1
      exact ⟨by omega, by omega, hl, o3.2, o4, o5, o6, o7, fun z => by omega, o9, o10, o11⟩
  · unfold nm
    rw [e0, e1, e2, e3, e4, e5, e6]
    omega
