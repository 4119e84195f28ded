/-! ===== what the reference's reader finds ===== -/
def TX (b : Int → Int) (L : Int) (e : mD) : Prop := (0 ≤ L ∧ L ≤ 1000) ∧ e 769 9 = L ∧ ∀ i, 0 ≤ i → i < L → b i % 256 = e 776 i ∧ -128 ≤ b i ∧ b i ≤ 127
theorem TX.fr {b : Int → Int} {L : Int} {e e' : mD} (h : TX b L e) (h1 : e' 769 9 = e 769 9) (h2 : e' 776 = e 776) : TX b L e' := by
  unfold TX
  rw [h1, h2]
  exact h
theorem TX.le {b : Int → Int} {L i : Int} {e : mD} (h : TX b L e) (h0 : 0 ≤ i) : (v_190 769 i e = 0 ∧ (i < L → ¬ isLe (b i))) ∨ (v_190 769 i e = 1 ∧ i < L ∧ isLe (b i) ∧ e 776 i = b i) := by
  obtain ⟨h1, h2, h3⟩ := h
  unfold v_190
  rw [v176, show (769 : Int) + 7 = 776 by decide, h2]
  by_cases c : i < L
  · have g := h3 i h0 c
    rw [if_pos c]
    by_cases z : 97 ≤ e 776 i ∧ e 776 i ≤ 122
    · rw [if_pos z, if_neg (by decide)]
      exact Or.inr ⟨rfl, c, by unfold isLe; omega, by omega⟩
    · rw [if_neg z, if_pos rfl]
      exact Or.inl ⟨rfl, fun _ y => by unfold isLe at y; omega⟩
  · rw [if_neg c]
    exact Or.inl ⟨rfl, fun z => absurd z c⟩
theorem TX.di {b : Int → Int} {L i : Int} {e : mD} (h : TX b L e) (h0 : 0 ≤ i) : (v_191 769 i e = 0 ∧ (i < L → ¬ isDi (b i))) ∨ (v_191 769 i e = 1 ∧ i < L ∧ isDi (b i) ∧ e 776 i = b i) := by
  obtain ⟨h1, h2, h3⟩ := h
  unfold v_191
  rw [v176, show (769 : Int) + 7 = 776 by decide, h2]
  by_cases c : i < L
  · have g := h3 i h0 c
    rw [if_pos c]
    by_cases z : 48 ≤ e 776 i ∧ e 776 i ≤ 57
    · rw [if_pos z, if_neg (by decide)]
      exact Or.inr ⟨rfl, c, by unfold isDi; omega, by omega⟩
    · rw [if_neg z, if_pos rfl]
      exact Or.inl ⟨rfl, fun _ y => by unfold isDi at y; omega⟩
  · rw [if_neg c]
    exact Or.inl ⟨rfl, fun z => absurd z c⟩
theorem l189 {b : Int → Int} {L : Int} : ∀ (n : Nat) (e : mD), TX b L e → 0 ≤ e 769 10 → e 769 10 ≤ L → L - e 769 10 ≤ (n : Int) → ∃ a e', lp_189_0 769 n e = e' ∧ BL b L (e 769 10) a ∧ (∀ k, ¬ k = 769 → e' k = e k) ∧ (∀ j, ¬ j = 10 → e' 769 j = e 769 j) ∧ e' 769 10 = a := by
  intro n
  induction n with
  | zero =>
    intro e h h0 h1 hn
    have st : lp_189_0 769 0 e = e := by
      show st_189_0 769 _ e = _
      unfold st_189_0
      rw [h.2.1, if_neg (by omega)]
    exact ⟨e 769 10, e, st, ⟨by omega, h1, fun j x y => by omega, fun z => by omega⟩, fun _ _ => rfl, fun _ _ => rfl, rfl⟩
  | succ n ih =>
    intro e h h0 h1 hn
    have st : lp_189_0 769 (n + 1) e = if e 769 10 < L then (if e 776 (e 769 10) = 10 then lp_189_0 769 n (mset e 769 10 (e 769 10 + 1)) else if e 776 (e 769 10) = 32 then lp_189_0 769 n (mset e 769 10 (e 769 10 + 1)) else e) else e := by
      show st_189_0 769 _ e = _
      unfold st_189_0
      rw [h.2.1, show (769 : Int) + 7 = 776 by decide]
    by_cases c : e 769 10 < L
    · have g := h.2.2 _ h0 c
      rw [if_pos c] at st
      by_cases z : isBl (b (e 769 10))
      · have st2 : lp_189_0 769 (n + 1) e = lp_189_0 769 n (mset e 769 10 (e 769 10 + 1)) := by
          rw [st]
          unfold isBl at z
          by_cases y : e 776 (e 769 10) = 10
          · rw [if_pos y]
          · rw [if_neg y, if_pos (by omega)]
        have e10 : mset e 769 10 (e 769 10 + 1) 769 10 = e 769 10 + 1 := ms_e rfl rfl
        obtain ⟨a, e', q1, q2, q3, q4, q5⟩ := ih (mset e 769 10 (e 769 10 + 1)) (h.fr (ms_i (by decide)) (by funext j; exact ms_a (by decide))) (by omega) (by omega) (by omega)
        rw [e10] at q2
        refine ⟨a, e', st2.trans q1, ⟨by have := q2.1; omega, q2.2.1, fun j x y => ?_, q2.2.2.2⟩, fun k hk => ?_, fun j hj => ?_, q5⟩
        · by_cases y2 : j = e 769 10
          · rw [y2]; exact z
          · exact q2.2.2.1 j (by omega) y
        · rw [q3 k hk]
          funext j
          exact ms_a hk
        · rw [q4 j hj, ms_i hj]
      · have st2 : lp_189_0 769 (n + 1) e = e := by
          rw [st]
          unfold isBl at z
          rw [if_neg (by omega), if_neg (by omega)]
        exact ⟨e 769 10, e, st2, ⟨by omega, h1, fun j x y => by omega, fun _ => z⟩, fun _ _ => rfl, fun _ _ => rfl, rfl⟩
    · rw [if_neg c] at st
      exact ⟨e 769 10, e, st, ⟨by omega, h1, fun j x y => by omega, fun z => absurd z c⟩, fun _ _ => rfl, fun _ _ => rfl, rfl⟩
theorem bl189 {b : Int → Int} {L : Int} {e : mD} (h : TX b L e) (h0 : 0 ≤ e 769 10) (h1 : e 769 10 ≤ L) : ∃ a e', g_189 769 e = e' ∧ BL b L (e 769 10) a ∧ (∀ k, ¬ k = 769 → e' k = e k) ∧ (∀ j, ¬ j = 10 → e' 769 j = e 769 j) ∧ e' 769 10 = a := by
  have := h.1
  exact l189 (1000 - e 769 10 : Int).toNat e h h0 h1 (by omega)
def wc (b : Int → Int) (a : Int) : Nat → Int
  | 0 => 0
  | n + 1 => 27 * wc b a n + b (a + n) - 96
theorem l193 {b : Int → Int} {L a lim : Int} (hl : 0 ≤ lim) : ∀ (n : Nat) (x4 x2 : Int) (e : mD), TX b L e → 0 ≤ x4 → 0 ≤ a → e 769 10 = a + x4 → e 769 10 ≤ L → L - e 769 10 ≤ (n : Int) → (x4 ≤ lim → x2 = wc b a x4.toNat) → (lim < x4 → x2 = -1) → ∃ z e', lp_193_17 769 lim n x2 x4 e = (if z - a ≤ lim then wc b a (z - a).toNat else -1, e') ∧ RU isLe b L (a + x4) z ∧ (∀ k, ¬ k = 769 → e' k = e k) ∧ (∀ j, ¬ j = 10 → e' 769 j = e 769 j) ∧ e' 769 10 = z := by
  have stop : ∀ (x4 x2 : Int) (e : mD), 0 ≤ x4 → e 769 10 = a + x4 → e 769 10 ≤ L → (x4 ≤ lim → x2 = wc b a x4.toNat) → (lim < x4 → x2 = -1) → (a + x4 < L → ¬ isLe (b (a + x4))) → ∃ z e', (x2, e) = (if z - a ≤ lim then wc b a (z - a).toNat else -1, e') ∧ RU isLe b L (a + x4) z ∧ (∀ k, ¬ k = 769 → e' k = e k) ∧ (∀ j, ¬ j = 10 → e' 769 j = e 769 j) ∧ e' 769 10 = z := fun x4 x2 e h0 ha h1 hv hw hs => by
    refine ⟨a + x4, e, ?_, ⟨by omega, by omega, fun j x y => by omega, hs⟩, fun _ _ => rfl, fun _ _ => rfl, ha⟩
    rw [show a + x4 - a = x4 by omega]
    by_cases c : x4 ≤ lim
    · rw [if_pos c, hv c]
    · rw [if_neg c, hw (by omega)]
  intro n
  induction n with
  | zero =>
    intro x4 x2 e h h0 a0 ha h1 hn hv hw
    rcases h.le (i := e 769 10) (by omega) with ⟨v, g⟩ | ⟨v, g, -⟩
    · have st : lp_193_17 769 lim 0 x2 x4 e = (x2, e) := by
        show st_193_17 769 lim _ x2 x4 e = _
        unfold st_193_17
        rw [if_pos v]
      rw [st]
      exact stop x4 x2 e h0 ha h1 hv hw (by rw [← ha]; exact g)
    · omega
  | succ n ih =>
    intro x4 x2 e h h0 a0 ha h1 hn hv hw
    rcases h.le (i := e 769 10) (by omega) with ⟨v, g⟩ | ⟨v, g1, g2, g3⟩
    · have st : lp_193_17 769 lim (n + 1) x2 x4 e = (x2, e) := by
        show st_193_17 769 lim _ x2 x4 e = _
        unfold st_193_17
        rw [if_pos v]
      rw [st]
      exact stop x4 x2 e h0 ha h1 hv hw (by rw [← ha]; exact g)
    · have st : lp_193_17 769 lim (n + 1) x2 x4 e = if x4 < lim then lp_193_17 769 lim n (27 * x2 + e 776 (e 769 10) - 97 + 1) (x4 + 1) (mset e 769 10 (e 769 10 + 1)) else lp_193_17 769 lim n (-1) (x4 + 1) (mset e 769 10 (e 769 10 + 1)) := by
        show st_193_17 769 lim _ x2 x4 e = _
        unfold st_193_17
        rw [if_neg (by omega), show (769 : Int) + 7 = 776 by decide]
      have e10 : mset e 769 10 (e 769 10 + 1) 769 10 = e 769 10 + 1 := ms_e rfl rfl
      have go : ∀ x, (x4 + 1 ≤ lim → x = wc b a (x4 + 1).toNat) → (lim < x4 + 1 → x = -1) → ∃ z e', lp_193_17 769 lim n x (x4 + 1) (mset e 769 10 (e 769 10 + 1)) = (if z - a ≤ lim then wc b a (z - a).toNat else -1, e') ∧ RU isLe b L (a + x4) z ∧ (∀ k, ¬ k = 769 → e' k = e k) ∧ (∀ j, ¬ j = 10 → e' 769 j = e 769 j) ∧ e' 769 10 = z := fun x hx1 hx2 => by
        obtain ⟨z, e', q1, q2, q3, q4, q5⟩ := ih (x4 + 1) x (mset e 769 10 (e 769 10 + 1)) (h.fr (ms_i (by decide)) (by funext j; exact ms_a (by decide))) (by omega) a0 (by omega) (by omega) (by omega) hx1 hx2
        refine ⟨z, e', q1, ⟨by have := q2.1; omega, q2.2.1, fun j u v => ?_, q2.2.2.2⟩, fun k hk => ?_, fun j hj => ?_, q5⟩
        · by_cases y2 : j = a + x4
          · rw [y2, ← ha]; exact g2
          · exact q2.2.2.1 j (by omega) v
        · rw [q3 k hk]
          funext j
          exact ms_a hk
        · rw [q4 j hj, ms_i hj]
      by_cases c : x4 < lim
      · rw [if_pos c] at st
        rw [st]
        refine go _ (fun _ => ?_) (fun z => by omega)
        rw [show (x4 + 1).toNat = x4.toNat + 1 by omega, hv (by omega), g3]
        show _ = 27 * wc b a x4.toNat + b (a + (x4.toNat : Int)) - 96
        rw [show a + (x4.toNat : Int) = e 769 10 by omega]
        omega
      · rw [if_neg c] at st
        rw [st]
        exact go _ (fun z => by omega) (fun _ => rfl)
theorem w193 {b : Int → Int} {L lim : Int} {e : mD} (hl : 0 ≤ lim) (h : TX b L e) (h0 : 0 ≤ e 769 10) (h1 : e 769 10 ≤ L) : ∃ a z e', BL b L (e 769 10) a ∧ RU isLe b L a z ∧ f_193 769 lim e = (if z - a ≤ lim then wc b a (z - a).toNat else -1, e') ∧ (∀ k, ¬ k = 769 → e' k = e k) ∧ (∀ j, ¬ j = 10 → ¬ j = 16 → e' 769 j = e 769 j) ∧ e' 769 10 = z ∧ e' 769 16 = a := by
  obtain ⟨a, e1, p1, p2, p3, p4, p5⟩ := bl189 h h0 h1
  have h1' : TX b L (mset e1 769 16 a) := h.fr (by rw [ms_i (by decide)]; exact p4 9 (by decide)) (by rw [← p3 776 (by decide)]; funext j; exact ms_a (by decide))
  have e10 : mset e1 769 16 a 769 10 = a := by rw [ms_i (by decide)]; exact p5
  have hr := h.1
  have ha := p2.1
  have hb := p2.2.1
  obtain ⟨z, e', q1, q2, q3, q4, q5⟩ := l193 (a := a) hl (1000 - mset e1 769 16 a 769 10 : Int).toNat 0 0 (mset e1 769 16 a) h1' (by omega) (by omega) (by omega) (by omega) (by omega) (fun _ => rfl) (fun z => by omega)
  rw [show a + 0 = a by omega] at q2
  refine ⟨a, z, e', p2, q2, ?_, fun k hk => ?_, fun j x y => ?_, q5, ?_⟩
  · unfold f_193
    rw [p1, p5]
    exact q1
  · rw [q3 k hk, ← p3 k hk]
    funext j
    exact ms_a hk
  · rw [q4 j x, ms_i y, p4 j x]
  · rw [q4 16 (by decide), ms_e rfl rfl]
