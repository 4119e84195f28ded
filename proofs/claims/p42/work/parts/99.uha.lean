/-! ===== the reference's error stays where nothing was found wrong ===== -/
def EF (e X : mD) : Prop := X 769 13 = 0 → e 769 13 = 0 ∧ X 769 11 = e 769 11 ∧ X 769 12 = e 769 12
theorem EF.refl {e : mD} : EF e e := fun h => ⟨h, rfl, rfl⟩
theorem EF.trans {a b c : mD} (h : EF a b) (g : EF b c) : EF a c := fun z => by
  obtain ⟨q1, q2, q3⟩ := g z
  obtain ⟨q4, q5, q6⟩ := h q1
  exact ⟨q4, q2.trans q5, q3.trans q6⟩
theorem efI {P : Prop} [Decidable P] {e a b : mD} (h : EF e a) (g : EF e b) : EF e (if P then a else b) := by
  by_cases c : P
  · rw [if_pos c]; exact h
  · rw [if_neg c]; exact g
theorem efM {e X : mD} {b j v : Int} (hb : ¬ b = 769) (h : EF e X) : EF e (mset X b j v) := h.trans (fun z => by
  have f : ∀ i, mset X b j v 769 i = X 769 i := fun i => ms_a (fun y => hb y.symm)
  rw [f] at z
  exact ⟨z, f 11, f 12⟩)
theorem efJ {e X : mD} {j v : Int} (hj : ¬ j = 11 ∧ ¬ j = 12 ∧ ¬ j = 13) (h : EF e X) : EF e (mset X 769 j v) := h.trans (fun z => by
  rw [ms_i (by omega)] at z
  exact ⟨z, ms_i (by omega), ms_i (by omega)⟩)
theorem efR {e X : mD} {W : Row} (h : EF e X) : EF e (rset X W) := h.trans (fun z => by
  rw [rset_ne (by decide)] at z ⊢
  exact ⟨z, rfl, rfl⟩)
-- the same of a pair's second
def EP (e : mD) (r : Int × mD) : Prop := EF e r.2
theorem epI {P : Prop} [Decidable P] {e : mD} {a b : Int × mD} (h : EP e a) (g : EP e b) : EP e (if P then a else b) := by
  by_cases c : P
  · rw [if_pos c]; exact h
  · rw [if_neg c]; exact g
theorem epM {e X : mD} {v : Int} (h : EF e X) : EP e (v, X) := h
theorem ef188 {e X : mD} {c p : Int} (h : EF e X) : EF e (g_188 769 c p X) := h.trans (by
  unfold g_188
  refine efI (fun z => ?_) EF.refl
  rw [ms_i (by decide), ms_i (by decide), ms_e rfl rfl] at z
  exact absurd z (by decide))
theorem ef189l {e : mD} : ∀ (n : Nat) (X : mD), EF e X → EF e (lp_189_0 769 n X) := by
  have st : ∀ (r : mD → mD) (X : mD), (∀ Y, EF e Y → EF e (r Y)) → EF e X → EF e (st_189_0 769 r X) := fun r X hr h => by
    unfold st_189_0
    repeat' with_reducible first | exact h | apply efI | apply hr | apply efJ (by decide)
  intro n
  induction n with
  | zero => exact fun X h => st _ X (fun _ z => z) h
  | succ n ih => exact fun X h => st _ X ih h
theorem ef189 {e X : mD} (h : EF e X) : EF e (g_189 769 X) := ef189l _ _ h
theorem ef192 {e X : mD} {c : Int} (h : EF e X) : EF e (g_192 769 c X) := ef189 h
theorem ef193l {e : mD} {c : Int} : ∀ (n : Nat) (x y : Int) (X : mD), EF e X → EP e (lp_193_17 769 c n x y X) := by
  have st : ∀ (r : Int → Int → mD → Int × mD) (x y : Int) (X : mD), (∀ x y Y, EF e Y → EP e (r x y Y)) → EF e X → EP e (st_193_17 769 c r x y X) := fun r x y X hr h => by
    unfold st_193_17
    repeat' with_reducible first | exact h | apply epI | apply hr | apply epM | apply efJ (by decide)
  intro n
  induction n with
  | zero => exact fun x y X h => st _ x y X (fun _ _ _ z => z) h
  | succ n ih => exact fun x y X h => st _ x y X ih h
theorem ef193 {e X : mD} {c : Int} (h : EF e X) : EF e (g_193 769 c X) := ef193l _ _ _ _ (efJ (by decide) (ef189 h))
theorem ef194 {e X : mD} {c : Int} (h : EF e X) : EF e (g_194 769 c X) := by
  unfold g_194
  repeat' with_reducible first | exact h | apply efI | apply efJ (by decide) | apply ef193 | apply ef189
theorem ef195 {e X : mD} (h : EF e X) : EF e (g_195 769 X) := by
  unfold g_195
  repeat' with_reducible first | exact h | apply efI | apply efJ (by decide) | apply ef188 | apply ef192
theorem ef196 {e X : mD} {c : Int} (h : EF e X) : EF e (g_196 769 c X) := by
  unfold g_196
  repeat' with_reducible first | exact h | apply efI | apply ef195 | apply ef188 | apply ef192
theorem ef197l {e : mD} {c p : Int} : ∀ (n : Nat) (x : Int) (X : mD), EF e X → EP e (lp_197_28 769 c p n x X) := by
  have st : ∀ (r : Int → mD → Int × mD) (x : Int) (X : mD), (∀ x Y, EF e Y → EP e (r x Y)) → EF e X → EP e (st_197_28 769 c p r x X) := fun r x X hr h => by
    unfold st_197_28
    repeat' with_reducible first | exact h | apply epI | apply hr | apply epM | apply efJ (by decide) | apply ef188
  intro n
  induction n with
  | zero => exact fun x X h => st _ x X (fun _ _ z => z) h
  | succ n ih => exact fun x X h => st _ x X ih h
theorem ef197 {e X : mD} {c p : Int} (h : EF e X) : EF e (g_197 769 c p X) := by
  unfold g_197
  refine epI (e := e) (ef197l _ _ _ (efJ (by decide) (efJ (by decide) (ef189 h)))) (epM h)
theorem ef198 {e X : mD} (h : EF e X) : EF e (g_198 769 X) := by
  unfold g_198
  repeat' with_reducible first | exact h | apply efI | apply ef188 | apply ef193
theorem ef199 {e X : mD} {c : Int} (h : EF e X) : EF e (g_199 769 c X) := by
  unfold g_199
  repeat' with_reducible first | exact h | apply efI | apply ef188 | apply ef198
theorem ef200 {e X : mD} (h : EF e X) : EF e (g_200 769 X) := by
  unfold g_200
  repeat' with_reducible first | exact h | apply efI | apply ef188 | apply ef198
theorem ef181 {e X : mD} {a b c d : Int} (h : EF e X) : EF e (g_181 769 a b c d X) := by
  unfold g_181
  repeat' with_reducible first | exact h | apply efM (by decide)
theorem ef182 {e X : mD} {a : Int} (h : EF e X) : EF e (g_182 769 a X) := by
  unfold g_182
  repeat' with_reducible first | exact h | apply efM (by decide)
theorem ef202 {e X : mD} (h : EF e X) : EF e (g_202 769 X) := by
  unfold g_202
  repeat' with_reducible first | exact h | apply efI | apply ef181 | apply ef195 | apply ef197 | apply ef188 | apply ef198
theorem ef203 {e X : mD} (h : EF e X) : EF e (g_203 769 X) := by
  unfold g_203
  repeat' with_reducible first | exact h | apply efI | apply ef182 | apply ef195 | apply ef188 | apply ef198
theorem ef204l {e : mD} {c : Int} : ∀ (n : Nat) (x : Int) (X : mD), EF e X → EF e (lp_204_13 769 c n x X) := by
  have st : ∀ (r : Int → mD → mD) (x : Int) (X : mD), (∀ x Y, EF e Y → EF e (r x Y)) → EF e X → EF e (st_204_13 769 c r x X) := fun r x X hr h => by
    unfold st_204_13
    repeat' with_reducible first | exact h | apply efI | apply hr | apply ef203 | apply ef202 | apply ef188 | apply ef194 | apply ef189
  intro n
  induction n with
  | zero => exact fun x X h => st _ x X (fun _ _ z => z) h
  | succ n ih => exact fun x X h => st _ x X ih h
theorem ef204 {e X : mD} {c : Int} (h : EF e X) : EF e (g_204 769 c X) := by
  unfold g_204
  exact efI (ef204l _ _ _ h) (ef204l _ _ _ h)
theorem ef223 {e X : mD} (h : EF e X) : EF e (g_223 769 X) := by
  rw [m_g_223]
  exact efR h
theorem ef226 {e X : mD} {a b : Int} (h : EF e X) : EF e (g_226 769 a b X) := by
  rw [m_g_226]
  exact efR h
theorem ef228 {e X : mD} {a : Int} (h : EF e X) : EF e (g_228 769 a X) := by
  rw [m_g_228]
  exact efR h
theorem ef235 {e X : mD} {a b : Int} (h : EF e X) : EF e (g_235 769 a b X) := by
  rw [m_g_235]
  exact efR h
theorem ef205h {e : mD} {q : Int → mD → mD} (hq : ∀ x Y, EF e Y → EF e (q x Y)) : ∀ (n : Nat) (x y z : Int) (X : mD), EF e X → EF e (lp_205_123 769 q n x y z X) := by
  have st : ∀ (r : Int → Int → Int → mD → mD) (x y z : Int) (X : mD), (∀ x y z Y, EF e Y → EF e (r x y z Y)) → EF e X → EF e (st_205_123 769 q r x y z X) := fun r x y z X hr h => by
    unfold st_205_123
    repeat' with_reducible first | exact h | apply efI | apply hr | apply hq | apply ef223
  intro n
  induction n with
  | zero => exact fun x y z X h => st _ x y z X (fun _ _ _ _ z => z) h
  | succ n ih => exact fun x y z X h => st _ x y z X ih h
set_option maxRecDepth 4000 in
theorem ef205l {e : mD} : ∀ (n : Nat) (x : Int) (X : mD), EF e X → EF e (lp_205_13 769 n x X) := by
  have st : ∀ (r : Int → mD → mD) (x : Int) (X : mD), (∀ x Y, EF e Y → EF e (r x Y)) → EF e X → EF e (st_205_13 769 r x X) := fun r x X hr h => by
    unfold st_205_13
    repeat' with_reducible first | exact h | apply efI | apply hr | apply ef205h hr | apply ef196 | apply ef199 | apply ef200 | apply ef197 | apply ef226 | apply ef228 | apply ef235 | apply ef194
  intro n
  induction n with
  | zero => exact fun x X h => st _ x X (fun _ _ z => z) h
  | succ n ih => exact fun x X h => st _ x X ih h
theorem ef205 {e X : mD} (h : EF e X) : EF e (g_205 769 X) := by
  unfold g_205
  exact efI (ef205l _ _ _ h) (ef205l _ _ _ h)
theorem ef206l {e : mD} : ∀ (n : Nat) (x : Int) (X : mD), EF e X → EF e (lp_206_53 769 n x X) := by
  have st : ∀ (r : Int → mD → mD) (x : Int) (X : mD), (∀ x Y, EF e Y → EF e (r x Y)) → EF e X → EF e (st_206_53 769 r x X) := fun r x X hr h => by
    unfold st_206_53
    repeat' with_reducible first | exact h | apply efI | apply hr | apply ef188 | apply ef189 | apply ef205 | apply ef204 | apply ef195 | apply efM (by decide) | apply ef197
  intro n
  induction n with
  | zero => exact fun x X h => st _ x X (fun _ _ z => z) h
  | succ n ih => exact fun x X h => st _ x X ih h
theorem ef206z {e : mD} : ∀ (n : Nat) (x : Int) (X : mD), EF e X → EF e (lp_206_12 769 n x X) := by
  have st : ∀ (r : Int → mD → mD) (x : Int) (X : mD), (∀ x Y, EF e Y → EF e (r x Y)) → EF e X → EF e (st_206_12 769 r x X) := fun r x X hr h => by
    unfold st_206_12
    repeat' with_reducible first | exact h | apply efI | apply hr | apply ef206l | apply ef188 | apply efM (by decide) | apply ef194
  intro n
  induction n with
  | zero => exact fun x X h => st _ x X (fun _ _ z => z) h
  | succ n ih => exact fun x X h => st _ x X ih h
theorem err206 {e : mD} (h : g_206 769 e 769 13 = 0) : g_206 769 e 769 11 = e 769 11 ∧ g_206 769 e 769 12 = e 769 12 := by
  obtain ⟨-, q1, q2⟩ := ef206z (e := mset (mset e 769 10 0) 769 13 0) (3116 - 0 : Int).toNat 0 _ EF.refl h
  refine ⟨Eq.trans q1 ?_, Eq.trans q2 ?_⟩
  · rw [ms_i (by decide), ms_i (by decide)]
  · rw [ms_i (by decide), ms_i (by decide)]
/-! ===== the class's error stays where nothing was found wrong ===== -/
def K2 (d X : mD) : Prop := X 576 2 = d 576 2 ∧ X 576 3 = d 576 3
theorem K2.refl {d : mD} : K2 d d := ⟨rfl, rfl⟩
theorem K2.trans {a b c : mD} (h : K2 a b) (g : K2 b c) : K2 a c := ⟨g.1.trans h.1, g.2.trans h.2⟩
theorem kI {P : Prop} [Decidable P] {e a b : mD} (h : K2 e a) (g : K2 e b) : K2 e (if P then a else b) := by
  by_cases c : P
  · rw [if_pos c]; exact h
  · rw [if_neg c]; exact g
theorem kM {e X : mD} {b j v : Int} (hb : ¬ b = 576) (h : K2 e X) : K2 e (mset X b j v) := h.trans ⟨ms_a (fun y => hb y.symm), ms_a (fun y => hb y.symm)⟩
theorem kJ {e X : mD} {j v : Int} (hj : ¬ j = 2 ∧ ¬ j = 3) (h : K2 e X) : K2 e (mset X 576 j v) := h.trans ⟨ms_i (by omega), ms_i (by omega)⟩
theorem kF {e X Y : mD} (f : Y 576 = X 576) (h : K2 e X) : K2 e Y := h.trans ⟨by rw [f], by rw [f]⟩
-- how many persons are read: never below none
def P9 (X : mD) : Prop := 0 ≤ X 590 0
theorem y9I {P : Prop} [Decidable P] {a b : mD} (h : P9 a) (g : P9 b) : P9 (if P then a else b) := by
  by_cases c : P
  · rw [if_pos c]; exact h
  · rw [if_neg c]; exact g
theorem y9M {X : mD} {b j v : Int} (hb : ¬ b = 590) (h : P9 X) : P9 (mset X b j v) := by
  unfold P9
  rw [ms_a (fun y => hb y.symm)]
  exact h
theorem k53l {e : mD} : ∀ (n : Nat) (X : mD), K2 e X → K2 e (lp_53_0 577 n X) := by
  have st : ∀ (r : mD → mD) (X : mD), (∀ Y, K2 e Y → K2 e (r Y)) → K2 e X → K2 e (st_53_0 577 r X) := fun r X hr h => by
    unfold st_53_0
    repeat' with_reducible first | exact h | apply kI | apply hr | apply kM (by decide)
  intro n
  induction n with
  | zero => exact fun X h => st _ X (fun _ z => z) h
  | succ n ih => exact fun X h => st _ X ih h
theorem k53 {e X : mD} (h : K2 e X) : K2 e (g_53 577 X) := k53l _ _ h
theorem k54l {e : mD} : ∀ (n : Nat) (X : mD), K2 e X → K2 e (lp_54_5 577 n X) := by
  have st : ∀ (r : mD → mD) (X : mD), (∀ Y, K2 e Y → K2 e (r Y)) → K2 e X → K2 e (st_54_5 577 r X) := fun r X hr h => by
    unfold st_54_5
    repeat' with_reducible first | exact h | apply kI | apply hr | apply kM (by decide)
  intro n
  induction n with
  | zero => exact fun X h => st _ X (fun _ z => z) h
  | succ n ih => exact fun X h => st _ X ih h
theorem k54 {e X : mD} (h : K2 e X) : K2 e (g_54 577 X) := k54l _ _ (kM (by decide) h)
theorem k52l {e : mD} : ∀ (n : Nat) (X : mD), K2 e X → K2 e (lp_52_8 577 n X) := by
  have st : ∀ (r : mD → mD) (X : mD), (∀ Y, K2 e Y → K2 e (r Y)) → K2 e X → K2 e (st_52_8 577 r X) := fun r X hr h => by
    unfold st_52_8
    repeat' with_reducible first | exact h | apply kI | apply hr | apply k54 | apply k53 | apply kM (by decide)
  intro n
  induction n with
  | zero => exact fun X h => st _ X (fun _ z => z) h
  | succ n ih => exact fun X h => st _ X ih h
theorem k52 {e X : mD} (h : K2 e X) : K2 e (g_52 577 X) := k52l _ _ (kM (by decide) h)
theorem y953l : ∀ (n : Nat) (X : mD), P9 X → P9 (lp_53_0 577 n X) := by
  have st : ∀ (r : mD → mD) (X : mD), (∀ Y, P9 Y → P9 (r Y)) → P9 X → P9 (st_53_0 577 r X) := fun r X hr h => by
    unfold st_53_0
    repeat' with_reducible first | exact h | apply y9I | apply hr | apply y9M (by decide)
  intro n
  induction n with
  | zero => exact fun X h => st _ X (fun _ z => z) h
  | succ n ih => exact fun X h => st _ X ih h
theorem y953 {X : mD} (h : P9 X) : P9 (g_53 577 X) := y953l _ _ h
theorem y954l : ∀ (n : Nat) (X : mD), P9 X → P9 (lp_54_5 577 n X) := by
  have st : ∀ (r : mD → mD) (X : mD), (∀ Y, P9 Y → P9 (r Y)) → P9 X → P9 (st_54_5 577 r X) := fun r X hr h => by
    unfold st_54_5
    repeat' with_reducible first | exact h | apply y9I | apply hr | apply y9M (by decide)
  intro n
  induction n with
  | zero => exact fun X h => st _ X (fun _ z => z) h
  | succ n ih => exact fun X h => st _ X ih h
theorem y954 {X : mD} (h : P9 X) : P9 (g_54 577 X) := y954l _ _ (y9M (by decide) h)
theorem y952l : ∀ (n : Nat) (X : mD), P9 X → P9 (lp_52_8 577 n X) := by
  have st : ∀ (r : mD → mD) (X : mD), (∀ Y, P9 Y → P9 (r Y)) → P9 X → P9 (st_52_8 577 r X) := fun r X hr h => by
    unfold st_52_8
    repeat' with_reducible first | exact h | apply y9I | apply hr | apply y954 | apply y953 | apply y9M (by decide)
  intro n
  induction n with
  | zero => exact fun X h => st _ X (fun _ z => z) h
  | succ n ih => exact fun X h => st _ X ih h
theorem y952 {X : mD} (h : P9 X) : P9 (g_52 577 X) := y952l _ _ (y9M (by decide) h)
-- a step that may fail
def EG (d : mD) (v : Int) (X : mD) : Prop := ¬ v = 0 → K2 d X
theorem eI {P : Prop} [Decidable P] {d a b : mD} {v w : Int} (h : P → EG d v a) (g : ¬ P → EG d w b) : EG d (if P then v else w) (if P then a else b) := by
  by_cases c : P
  · rw [if_pos c, if_pos c]; exact h c
  · rw [if_neg c, if_neg c]; exact g c
theorem e0 {d X : mD} : EG d 0 X := fun h => absurd rfl h
theorem e1 {d X : mD} {v : Int} (h : K2 d X) : EG d v X := fun _ => h
theorem e32 {d X Y : mD} {c : Int} : EG d (v_32 576 c Y) X := fun h => absurd rfl h
theorem y932 {X : mD} {c : Int} (h : P9 X) : P9 (g_32 576 c X) := by
  unfold g_32
  exact y9M (by decide) (y9M (by decide) h)
theorem e577 : (576 : Int) + 1 = 577 := by decide
theorem e25 {d X : mD} {lo hi : Int} (h : K2 d X) : EG d (v_25 576 lo hi X) (g_25 576 lo hi X) := by
  unfold v_25 g_25
  rw [e577]
  repeat' with_reducible first | exact e32 | refine eI (fun _ => ?_) (fun _ => ?_) | exact h | apply e1 | apply k52 | apply kJ (by decide)
theorem e26 {d X : mD} (h : K2 d X) : EG d (v_26 576 X) (g_26 576 X) := by
  unfold v_26 g_26
  rw [e577]
  repeat' with_reducible first | exact e32 | refine eI (fun _ => ?_) (fun _ => ?_) | exact h | apply e1 | apply k52 | apply kJ (by decide)
theorem e27 {d X : mD} (h : K2 d X) : EG d (v_27 576 X) (g_27 576 X) := by
  unfold v_27 g_27
  repeat' with_reducible first | exact e32 | refine eI (fun _ => ?_) (fun _ => ?_) | exact h | apply e26 | apply kJ (by decide)
theorem e28 {d X : mD} (h : K2 d X) : EG d (v_28 576 X) (g_28 576 X) := by
  unfold v_28 g_28
  repeat' with_reducible first | exact e32 | refine eI (fun _ => ?_) (fun _ => ?_) | exact h | apply e26 | apply kJ (by decide)
theorem e29 {d X : mD} (h : K2 d X) : EG d (v_29 576 X) (g_29 576 X) := by
  unfold v_29 g_29
  repeat' with_reducible first | exact e32 | refine eI (fun _ => ?_) (fun _ => ?_) | exact h | apply e26 | apply kJ (by decide)
theorem e30 {d X : mD} (h : K2 d X) : EG d (v_30 576 X) (g_30 576 X) := by
  unfold v_30 g_30
  refine eI (fun _ => e1 h) (fun _ => ?_)
  rw [if_pos (show v_32 576 1 X = 0 from rfl)]
  exact e0
theorem e31 {d X : mD} (h : K2 d X) : EG d (v_31 576 X) (g_31 576 X) := by
  unfold v_31 g_31
  rw [e577]
  exact eI (fun _ => e0) (fun c => e1 (k52 (e30 h c)))
theorem e24 {d X : mD} {c : Int} (h : K2 d X) : EG d (v_24 576 c X) (g_24 576 c X) := by
  unfold v_24 g_24
  rw [e577]
  exact eI (fun _ => e32) (fun c => e1 (k52 h))
theorem y926 {X : mD} (h : P9 X) : P9 (g_26 576 X) := by
  unfold g_26
  rw [e577]
  repeat' with_reducible first | exact h | apply y9I | apply y952 | apply y932 | apply y9M (by decide)
theorem y930 {X : mD} (h : P9 X) : P9 (g_30 576 X) := by
  unfold g_30
  exact y9I h (y932 h)
theorem y931 {X : mD} (h : P9 X) : P9 (g_31 576 X) := by
  unfold g_31
  rw [e577]
  exact y9I (y930 h) (y952 (y930 h))
theorem k35 {d X : mD} {a b c e : Int} (h : K2 d X) : K2 d (g_35 582 a b c e X) := kF (f35 576 (by decide)) h
theorem k47 {d X : mD} {a : Int} (hn : P9 X) (h : K2 d X) : K2 d (g_47 590 a X) := kF (f47 hn 576 (by decide)) h
theorem y947 {X : mD} {a : Int} (h : P9 X) : P9 (g_47 590 a X) := by
  unfold g_47
  refine y9I ?_ h
  unfold P9
  rw [ms_e rfl rfl]
  exact Int.add_nonneg h (by decide)
theorem k25 {d X : mD} {lo hi : Int} (c : ¬ v_25 576 lo hi X = 0) (h : K2 d X) : K2 d (g_25 576 lo hi X) := e25 h c
theorem k26 {d X : mD} (c : ¬ v_26 576 X = 0) (h : K2 d X) : K2 d (g_26 576 X) := e26 h c
theorem k27 {d X : mD} (c : ¬ v_27 576 X = 0) (h : K2 d X) : K2 d (g_27 576 X) := e27 h c
theorem k28 {d X : mD} (c : ¬ v_28 576 X = 0) (h : K2 d X) : K2 d (g_28 576 X) := e28 h c
theorem k29 {d X : mD} (c : ¬ v_29 576 X = 0) (h : K2 d X) : K2 d (g_29 576 X) := e29 h c
theorem k30 {d X : mD} (c : ¬ v_30 576 X = 0) (h : K2 d X) : K2 d (g_30 576 X) := e30 h c
theorem k31 {d X : mD} (c : ¬ v_31 576 X = 0) (h : K2 d X) : K2 d (g_31 576 X) := e31 h c
theorem e16 {d X : mD} (h : K2 d X) : EG d (v_16 576 X) (g_16 576 X) := by
  unfold v_16 g_16
  rw [e577, show (576 : Int) + 4 + 2 = 582 by decide]
  repeat' with_reducible first | exact e32 | exact e0 | refine eI (fun _ => ?_) (fun _ => ?_) | exact h | apply e1 | apply k35 | apply k31 (by assumption) | apply k25 (by assumption) | apply k26 (by assumption) | apply k52
theorem e18 {d X : mD} (hn : P9 X) (h : K2 d X) : EG d (v_18 576 X) (g_18 576 X) := by
  unfold v_18 g_18
  rw [e577, show (576 : Int) + 4 + 10 = 590 by decide]
  repeat' with_reducible first | exact e32 | exact e0 | refine eI (fun _ => ?_) (fun _ => ?_) | exact h | apply e1 | exact k47 (y931 (y926 (y952 hn))) (k31 (by assumption) (k26 (by assumption) (k52 h)))
theorem y918 {X : mD} (h : P9 X) : P9 (g_18 576 X) := by
  unfold g_18
  rw [e577, show (576 : Int) + 4 + 10 = 590 by decide]
  repeat' with_reducible first | exact h | apply y9I | apply y947 | apply y931 | apply y926 | apply y952 | apply y932
def EQ2 (d : mD) (r : Int × mD) : Prop := EG d r.1 r.2
theorem qI {P : Prop} [Decidable P] {e : mD} {a b : Int × mD} (h : P → EQ2 e a) (g : ¬ P → EQ2 e b) : EQ2 e (if P then a else b) := by
  by_cases c : P
  · rw [if_pos c]; exact h c
  · rw [if_neg c]; exact g c
theorem qP {e X : mD} {v : Int} (h : EG e v X) : EQ2 e (v, X) := h
theorem e14l {d : mD} : ∀ (n : Nat) (x : Int) (X : mD), K2 d X → EQ2 d (lp_14_13 576 n x X) := by
  have st : ∀ (r : Int → mD → Int × mD) (x : Int) (X : mD), (∀ x Y, K2 d Y → EQ2 d (r x Y)) → K2 d X → EQ2 d (st_14_13 576 r x X) := fun r x X hr h => by
    unfold st_14_13
    rw [show (576 : Int) + 4 = 580 by decide, show (580 : Int) + 1 = 581 by decide]
    repeat' with_reducible first | refine qI (fun _ => ?_) (fun _ => ?_) | apply hr | apply qP | exact e0 | apply e31 | exact h | apply kM (by decide) | apply k25 (by assumption)
  intro n
  induction n with
  | zero => exact fun x X h => st _ x X (fun _ _ _ => e0) h
  | succ n ih => exact fun x X h => st _ x X ih h
theorem e14 {d X : mD} (h : K2 d X) : EG d (v_14 576 X) (g_14 576 X) := by
  show EQ2 d (f_14 576 X)
  unfold f_14
  exact qI (fun _ => e0) (fun c => e14l _ _ _ (e24 h c))
theorem e15l {d : mD} : ∀ (n : Nat) (x : Int) (X : mD), K2 d X → EQ2 d (lp_15_20 576 n x X) := by
  have st : ∀ (r : Int → mD → Int × mD) (x : Int) (X : mD), (∀ x Y, K2 d Y → EQ2 d (r x Y)) → K2 d X → EQ2 d (st_15_20 576 r x X) := fun r x X hr h => by
    unfold st_15_20
    exact qI (fun _ => e1 h) (fun _ => qI (fun _ => e1 h) (fun _ => qI (fun _ => e0) (fun c => hr _ _ (e16 h c))))
  intro n
  induction n with
  | zero => exact fun x X h => st _ x X (fun _ _ _ => e0) h
  | succ n ih => exact fun x X h => st _ x X ih h
theorem e15 {d X : mD} (h : K2 d X) : EG d (v_15 576 X) (g_15 576 X) := by
  show EQ2 d (f_15 576 X)
  unfold f_15
  exact qI (fun _ => fun y => absurd rfl y) (fun c => e15l _ _ _ h)
theorem e17l {d : mD} : ∀ (n : Nat) (x : Int) (X : mD), P9 X → K2 d X → EQ2 d (lp_17_2 576 n x X) := by
  have st : ∀ (r : Int → mD → Int × mD) (x : Int) (X : mD), (∀ x Y, P9 Y → K2 d Y → EQ2 d (r x Y)) → P9 X → K2 d X → EQ2 d (st_17_2 576 r x X) := fun r x X hr hn h => by
    unfold st_17_2
    exact qI (fun _ => e1 h) (fun _ => qI (fun _ => e1 h) (fun _ => qI (fun _ => e0) (fun c => hr _ _ (y918 hn) (e18 hn h c))))
  intro n
  induction n with
  | zero => exact fun x X hn h => st _ x X (fun _ _ _ _ => e0) hn h
  | succ n ih => exact fun x X hn h => st _ x X ih hn h
theorem e17 {d X : mD} (hn : P9 X) (h : K2 d X) : EG d (v_17 576 X) (g_17 576 X) := e17l _ _ _ hn h
theorem e20 {d X : mD} (h : K2 d X) : EG d (v_20 576 X) (g_20 576 X) := by
  unfold v_20 g_20
  rw [e577, show (576 : Int) + 4 = 580 by decide]
  refine eI (fun _ => e0) (fun c1 => eI (fun _ => e0) (fun c2 => eI (fun _ => e0) (fun c3 => eI (fun _ => e32) (fun _ => e31 (kF (f61 576 (by decide)) (k30 c3 (k28 c2 (k27 c1 (k52 h)))))))))
theorem e21 {E : mO × tW} {d X : mD} (hT : TKE E) (hl : LSt E X) (h : K2 d X) : EG d (v_21 576 X) (g_21 576 X) := by
  unfold v_21 g_21
  rw [e577, show (576 : Int) + 4 = 580 by decide]
  refine eI (fun _ => e0) (fun c1 => eI (fun _ => e0) (fun c2 => eI (fun _ => e32) (fun _ => e31 ?_)))
  rw [pg30e c2]
  exact kF (hl.F68 hT (v25_1 c1) 576 (by decide)) (k25 c1 (k52 h))
theorem e22 {E : mO × tW} {d X : mD} (hT : TKE E) (hl : LSt E X) (h : K2 d X) : EG d (v_22 576 X) (g_22 576 X) := by
  unfold v_22 g_22
  rw [e577, show (576 : Int) + 4 = 580 by decide]
  refine eI (fun _ => e0) (fun c1 => eI (fun _ => e0) (fun c2 => eI (fun _ => e32) (fun _ => e31 ?_)))
  rw [pg30e c2]
  exact kF (hl.F74 hT (v29_1 c1) 576 (by decide)) (k29 c1 (k52 h))
theorem e23 {E : mO × tW} {d X : mD} (hT : TKE E) (hl : LSt E X) (h : K2 d X) : EG d (v_23 576 X) (g_23 576 X) := by
  unfold v_23 g_23
  rw [e577, show (576 : Int) + 4 = 580 by decide]
  refine eI (fun _ => e0) (fun c0 => eI (fun _ => e0) (fun c1 => eI (fun _ => e0) (fun c2 => eI (fun c3 => e31 ?_) (fun _ => e32))))
  rw [pg30e c2]
  rw [pg30e c2] at c3
  exact kF (hl.F75 hT (v27_1 c0) (v29_1 c1) c3 576 (by decide)) (k29 c1 (k27 c0 (k52 h)))
theorem e19l {E : mO × tW} {d : mD} (hT : TKE E) : ∀ (n : Nat) (x k : Int) (X : mD), (¬ x = 0 → LSt E X ∧ K2 d X) → EQ2 d (lp_19_4 576 n x k X) := by
  have st : ∀ (r : Int → Int → mD → Int × mD) (x k : Int) (X : mD), (∀ x k Y, (¬ x = 0 → LSt E Y ∧ K2 d Y) → EQ2 d (r x k Y)) → (¬ x = 0 → LSt E X ∧ K2 d X) → EQ2 d (st_19_4 576 r x k X) := fun r x k X hr h => by
    unfold st_19_4
    have hh : EQ2 d (x, X) := fun c => (h c).2
    refine qI (fun _ => qI (fun _ => hh) (fun c => qI (fun _ => hh) (fun _ => qI (fun _ => qI (fun _ => qI (fun _ => qI (fun _ => ?_) (fun _ => ?_)) (fun _ => ?_)) (fun _ => ?_)) (fun _ => ?_)))) (fun _ => hh)
    · exact hr _ _ _ (fun y => absurd rfl y)
    · exact hr _ _ _ (fun y => ⟨(h c).1.g23 hT, e23 hT (h c).1 (h c).2 y⟩)
    · exact hr _ _ _ (fun y => ⟨(h c).1.g22 hT, e22 hT (h c).1 (h c).2 y⟩)
    · exact hr _ _ _ (fun y => ⟨(h c).1.g21 hT, e21 hT (h c).1 (h c).2 y⟩)
    · exact hr _ _ _ (fun y => ⟨(h c).1.g20 hT, e20 (h c).2 y⟩)
  intro n
  induction n with
  | zero => exact fun x k X h => st _ x k X (fun _ _ _ _ => e0) h
  | succ n ih => exact fun x k X h => st _ x k X ih h
theorem e19 {E : mO × tW} {d X : mD} (hT : TKE E) (hl : LSt E X) (h : K2 d X) : EG d (v_19 576 X) (g_19 576 X) := e19l hT _ _ _ _ (fun _ => ⟨hl, h⟩)
theorem errAll {E : mO × tW} {d : mD} (hT : TKE E) (h15 : Safe (g_15 576 (g_14 576 (g_13 576 d)))) (hl : LSt E (g_17 576 (g_15 576 (g_14 576 (g_13 576 d))))) (n1 : ¬ v_14 576 (g_13 576 d) = 0) (n2 : ¬ v_15 576 (g_14 576 (g_13 576 d)) = 0) (n3 : ¬ v_17 576 (g_15 576 (g_14 576 (g_13 576 d))) = 0) (n4 : ¬ v_19 576 (g_17 576 (g_15 576 (g_14 576 (g_13 576 d)))) = 0) : g_19 576 (g_17 576 (g_15 576 (g_14 576 (g_13 576 d)))) 576 2 = 0 ∧ g_19 576 (g_17 576 (g_15 576 (g_14 576 (g_13 576 d)))) 576 3 = -1 := by
  have k0 : K2 (mset (mset d 576 2 0) 576 3 (-1)) (g_13 576 d) := by
    unfold g_13 g_51 g_58
    rw [e577, show (576 : Int) + 4 = 580 by decide]
    repeat' with_reducible first | exact K2.refl | apply k52 | apply kM (by decide)
  have k := k0.trans (e19 hT hl (e17 (r_4_f0 (x := 590) h15 (show stB 580 from st580)).1 (e15 (e14 K2.refl n1) n2) n3) n4)
  exact ⟨k.1.trans (by rw [ms_i (by decide), ms_e rfl rfl]), k.2.trans (ms_e rfl rfl)⟩
def ER (d : mD) : Prop := d 576 2 = d 769 11 ∧ d 576 3 = d 769 12
/-! ===== load: the class against the reference ===== -/
theorem loadAll {E : mO × tW} (hE : EOK E) (hT : TKE E) {d e : mD} {y : Int} (ht : TextR d e) (hS : Safe d) (hh : tSh E.2 d) : ∃ D', LdFr d D' e (g_206 769 e) ∧ ((v_303 0 y d = 0 ∧ g_206 769 e 769 13 = 0 ∧ OKR 580 D' (g_206 769 e 770) ∧ (D' 576 2 = 0 ∧ D' 576 3 = -1) ∧ g_303 0 y d = mset (lp_120_95 0 2 1 0 (g_4 64 (g_59 1 580 (mset D' 578 1 0)))).2 y 0 (lp_120_95 0 2 1 0 (g_4 64 (g_59 1 580 (mset D' 578 1 0)))).1) ∨ (v_303 0 y d = 1 ∧ Fail D' (g_206 769 e) ∧ g_303 0 y d = mset D' 578 1 0)) := by
  obtain ⟨p1, p2, p3, p4⟩ := p_13 (E := E) (x0 := 576) hS rfl ⟨hT.2.1, trivial⟩ hh
  obtain ⟨q1, q2, q3, q4, q5⟩ := p_14 (E := E) (x0 := 576) hE hT.1 p4 rfl (by rw [p3]; decide) ⟨hT.2.1, trivial⟩ p1
  obtain ⟨r1, r2, r3, r4, r5⟩ := p_15 (E := E) (x0 := 576) hT.1 q5 rfl q4 ⟨hT.2.1, trivial⟩ q1
  obtain ⟨s1, s2, s3, s4, s5⟩ := p_17 (E := E) (x0 := 576) hT.1 r5 rfl r4 ⟨hT.2.1, trivial⟩ r1
  rw [e580] at s4
  have hl : LSt E (g_17 576 (g_15 576 (g_14 576 (g_13 576 d)))) := ⟨s5, s1, s4⟩
  have er := errAll hT r5 hl
  clear p1 p2 p3 p4 q1 q2 q3 q4 q5 r1 r2 r3 r4 r5 s1 s2 s3 s4 s5
  have t2 := ht.2.1
  have ev : v_303 0 y d = if v_14 576 (g_13 576 d) = 0 then 1 else if v_15 576 (g_14 576 (g_13 576 d)) = 0 then 1 else if v_17 576 (g_15 576 (g_14 576 (g_13 576 d))) = 0 then 1 else if v_19 576 (g_17 576 (g_15 576 (g_14 576 (g_13 576 d)))) = 0 then 1 else 0 := by
    unfold v_303
    rw [show (0 : Int) + 576 = 576 by decide]
  have eg : g_303 0 y d = if v_14 576 (g_13 576 d) = 0 then mset (g_14 576 (g_13 576 d)) 578 1 0 else if v_15 576 (g_14 576 (g_13 576 d)) = 0 then mset (g_15 576 (g_14 576 (g_13 576 d))) 578 1 0 else if v_17 576 (g_15 576 (g_14 576 (g_13 576 d))) = 0 then mset (g_17 576 (g_15 576 (g_14 576 (g_13 576 d)))) 578 1 0 else if v_19 576 (g_17 576 (g_15 576 (g_14 576 (g_13 576 d)))) = 0 then mset (g_19 576 (g_17 576 (g_15 576 (g_14 576 (g_13 576 d))))) 578 1 0 else mset (lp_120_95 0 2 1 0 (g_4 64 (g_59 1 580 (mset (g_19 576 (g_17 576 (g_15 576 (g_14 576 (g_13 576 d))))) 578 1 0)))).2 y 0 (lp_120_95 0 2 1 0 (g_4 64 (g_59 1 580 (mset (g_19 576 (g_17 576 (g_15 576 (g_14 576 (g_13 576 d))))) 578 1 0)))).1 := by
    unfold g_303
    rw [show (0 : Int) + 576 = 576 by decide, show (0 : Int) + 578 = 578 by decide, show (0 : Int) + 64 = 64 by decide, show (0 : Int) + 1 = 1 by decide, show (0 : Int) + 580 = 580 by decide]
    rfl
  rw [ev, eg]
  rcases loadHead ht with ⟨v1, X, f1, r1, lo⟩ | ⟨v1, f1, x1⟩
  · have n1 : ¬ v_14 576 (g_13 576 d) = 0 := by omega
    rw [if_neg n1, if_neg n1, r1]
    unfold rBody
    generalize g_14 576 (g_13 576 d) = D1 at *
    obtain ⟨f2, o2⟩ := loadO lo
    have f2 := f1.trans f2
    rcases o2 with ⟨v2, sy2, k2, h8⟩ | ⟨v2, x2⟩
    · have n2 : ¬ v_15 576 D1 = 0 := by omega
      rw [if_neg n2, if_neg n2]
      generalize g_15 576 D1 = D2 at *
      generalize g_204 769 1 X = X2 at *
      obtain ⟨f3, o3⟩ := loadP sy2 k2 h8
      have f3 := f2.trans f3
      rcases o3 with ⟨v3, sy3, k3⟩ | ⟨v3, x3⟩
      · have n3 : ¬ v_17 576 D2 = 0 := by omega
        rw [if_neg n3, if_neg n3]
        generalize g_17 576 D2 = D3 at *
        generalize g_204 769 0 X2 = X3 at *
        obtain ⟨f4, o4⟩ := loadD hT sy3 k3 hl
        have f4 := f3.trans f4
        generalize v_19 576 D3 = c at *
        generalize g_19 576 D3 = D4 at *
        generalize g_205 769 X3 = X4 at *
        have e8 : ∀ D, LdFr d D e X4 → e 769 9 = D 578 1 := fun D h => by
          rw [h.1 578 (by decide)]
          exact t2
        rcases o4 with ⟨w1, w2, w3, w4⟩ | ⟨w1, w2⟩ | ⟨w1, D, w2, w3, w4⟩
        · obtain ⟨z1, z2, z3⟩ := f4.end w2 w3 (e8 D4 f4)
          have n4 : ¬ c = 0 := by omega
          rw [if_neg n4, if_neg n4]
          exact ⟨D4, z1, Or.inl ⟨rfl, z2, by rw [z3]; exact w4, er n1 n2 n3 n4, rfl⟩⟩
        · rw [if_pos w1, if_pos w1, badEnd w2.ne]
          exact ⟨D4, f4, Or.inr ⟨rfl, w2, rfl⟩⟩
        · have e9 : e 769 9 = D 578 1 := by
            rw [t2, ← f4.1 578 (by decide), w4]
            unfold g_32
            rw [ms_a (by decide), ms_a (by decide)]
          obtain ⟨z1, z2⟩ := endFail w2 w3 e9
          rw [if_pos w1, if_pos w1]
          exact ⟨D4, f4.trans (LdFr.of FrC.refl z1), Or.inr ⟨rfl, by rw [w4]; exact z2, rfl⟩⟩
      · rw [if_pos v3, if_pos v3, bad205 x3.ne, badEnd x3.ne]
        exact ⟨_, f3, Or.inr ⟨rfl, x3, rfl⟩⟩
    · rw [if_pos v2, if_pos v2, bad204 x2.ne, bad205 x2.ne, badEnd x2.ne]
      exact ⟨_, f2, Or.inr ⟨rfl, x2, rfl⟩⟩
  · rw [if_pos v1, if_pos v1]
    exact ⟨_, f1, Or.inr ⟨rfl, x1, rfl⟩⟩
theorem f207 {d : mD} : ∃ e2, (∀ b, ¬ b = 769 → ¬ b = 774 → e2 b = d b) ∧ (∀ j, ¬ j = 11 → ¬ j = 12 → e2 769 j = d 769 j) ∧ (e2 769 11 = 0 ∧ e2 769 12 = -1) ∧ (∀ i, 0 ≤ i → i < 3116 → e2 774 i = d 770 i) ∧ (∀ i, 3116 ≤ i → e2 774 i = d 774 i) ∧ f_207 769 d = (if g_206 769 e2 769 13 = 0 then (g_206 769 e2 770 8, mset (mset (mset (mset (mset (g_206 769 e2) 769 9 0) 769 0 0) 769 7 0) 775 0 0) 775 1 0) else lp_207_71 769 (3116 - 0 : Int).toNat 0 (mset (mset (g_206 769 e2) 769 9 0) 769 0 1)) := by
  obtain ⟨e2, q1, q2, q3, q4⟩ := copyLoop (α := Int × mD) (L := lp_207_12 769) (F := fun d => if g_206 769 d 769 13 = 0 then (g_206 769 d 770 8, mset (mset (mset (mset (mset (g_206 769 d) 769 9 0) 769 0 0) 769 7 0) 775 0 0) 775 1 0) else lp_207_71 769 (3116 - 0 : Int).toNat 0 (mset (mset (g_206 769 d) 769 9 0) 769 0 1)) (I := fun _ => True) (A := 774) (B := 0) (C := 770) (D := 0) (N := 3116) (by decide) (fun _ _ _ _ => trivial) (fun n x d _ hx => by
    cases n with
    | zero =>
      show st_207_12 769 _ x d = _
      unfold st_207_12
      rw [if_neg (by omega)]
      rfl
    | succ n =>
      show st_207_12 769 _ x d = _
      unfold st_207_12
      rw [if_neg (by omega)]
      rfl) (fun n x d _ hx => by
    show st_207_12 769 _ x d = _
    unfold st_207_12
    rw [if_pos hx, Int.zero_add]
    rfl) (3116 - 0 : Int).toNat 0 (mset (mset d 769 11 0) 769 12 (-1)) trivial (by decide) (by decide)
  have e9 : e2 769 = mset (mset d 769 11 0) 769 12 (-1) 769 := q2 769 (by decide)
  refine ⟨e2, fun b x y => ?_, fun j x y => ?_, ⟨?_, ?_⟩, fun i x y => ?_, fun i x => ?_, q1⟩
  · rw [q2 b y]
    funext j
    rw [ms_a x, ms_a x]
  · rw [e9, ms_i y, ms_i x]
  · rw [e9, ms_i (by decide), ms_e rfl rfl]
  · rw [e9, ms_e rfl rfl]
  · have := q3 i x y
    rw [Int.zero_add] at this
    rw [this, ms_a (by decide), ms_a (by decide)]
  · rw [q4 i (by omega), ms_a (by decide), ms_a (by decide)]
theorem back207 {d : mD} : ∃ d', lp_207_71 769 (3116 - 0 : Int).toNat 0 d = (0, d') ∧ (∀ b, ¬ b = 770 → d' b = d b) ∧ ∀ i, 0 ≤ i → i < 3116 → d' 770 i = d 774 i := by
  obtain ⟨d', q1, q2, q3, q4⟩ := copyLoop (α := Int × mD) (L := lp_207_71 769) (F := fun d => (0, d)) (I := fun _ => True) (A := 770) (B := 0) (C := 774) (D := 0) (N := 3116) (by decide) (fun _ _ _ _ => trivial) (fun n x d _ hx => by
    cases n with
    | zero =>
      show st_207_71 769 _ x d = _
      unfold st_207_71
      rw [if_neg (by omega)]
    | succ n =>
      show st_207_71 769 _ x d = _
      unfold st_207_71
      rw [if_neg (by omega)]) (fun n x d _ hx => by
    show st_207_71 769 _ x d = _
    unfold st_207_71
    rw [if_pos hx, Int.zero_add]
    rfl) (3116 - 0 : Int).toNat 0 d trivial (by decide) (by decide)
  refine ⟨d', q1, q2, fun i x y => ?_⟩
  have := q3 i x y
  rw [Int.zero_add] at this
  exact this
-- what class and reference have in common between two calls
def CI (d : mD) : Prop := OKR 1 d (d 770) ∧ HistRel d ∧ SaveRel d ∧ TextR d d
theorem lp120 {u : mD} : (lp_120_95 0 2 1 0 u).1 = u 11 0 ∧ (∀ b, ¬ b = 571 → ¬ b = 572 → (lp_120_95 0 2 1 0 u).2 b = u b) ∧ (lp_120_95 0 2 1 0 u).2 571 0 = 0 ∧ (lp_120_95 0 2 1 0 u).2 571 1 = 0 := by
  have e : lp_120_95 0 2 1 0 u = (mset (mset u 571 0 0) 571 1 0 11 0, mset (mset (mset u 571 0 0) 571 1 0) 572 1 0) := by
    show st_120_95 0 _ 1 0 u = _
    unfold st_120_95
    rw [if_pos (by decide)]
    show st_120_95 0 _ 1 1 (mset u 571 0 0) = _
    unfold st_120_95
    rw [if_pos (by decide)]
    show st_120_95 0 _ 1 2 (mset (mset u 571 0 0) 571 1 0) = _
    unfold st_120_95
    rw [if_neg (by decide)]
    rfl
  rw [e]
  dsimp only
  refine ⟨?_, fun b x y => ?_, ?_, ?_⟩
  · rw [ms_a (by decide), ms_a (by decide)]
  · funext j
    rw [ms_a y, ms_a x, ms_a x]
  · rw [ms_a (by decide), ms_i (by decide), ms_e rfl rfl]
  · rw [ms_a (by decide), ms_e rfl rfl]
theorem load303 {E : mO × tW} (hE : EOK E) (hT : TKE E) {d : mD} (hi : CI d) (hS : Safe d) (hh : tSh E.2 d) (hf : ∀ b, 642 < b → ¬ b = 778 → g_303 0 778 d b = d b) (h64 : 0 ≤ d 64 1 ∧ d 64 1 < 8) : ((v_303 0 778 d = 0 ∧ v_207 769 (g_303 0 778 d) = g_303 0 778 d 778 0 ∧ g_207 769 (g_303 0 778 d) 769 0 = 0 ∧ 0 ≤ v_207 769 (g_303 0 778 d) ∧ v_207 769 (g_303 0 778 d) ≤ 16) ∨ (v_303 0 778 d = 1 ∧ g_207 769 (g_303 0 778 d) 769 0 = 1)) ∧ CI (g_207 769 (g_303 0 778 d)) ∧ (∀ b, b < 769 → g_207 769 (g_303 0 778 d) b = g_303 0 778 d b) ∧ ER (g_207 769 (g_303 0 778 d)) := by
  obtain ⟨i1, i2, i3, i4⟩ := hi
  obtain ⟨e2, a1, a2, a3, a4, -, a5⟩ := f207 (d := g_303 0 778 d)
  have ht : TextR d e2 := i4.fr rfl rfl (by rw [a2 9 (by decide) (by decide), hf 769 (by decide) (by decide)]) (by rw [a1 776 (by decide) (by decide), hf 776 (by decide) (by decide)])
  obtain ⟨D', l1, l2⟩ := loadAll hE hT (y := 778) ht hS hh
  unfold v_207 g_207
  rw [a5]
  have er6 := err206 (e := e2)
  generalize g_206 769 e2 = R at *
  have R7 : ∀ k, 769 < k → ¬ k = 770 → ¬ k = 774 → ¬ k = 778 → R k = d k := fun k x y z u => by rw [l1.2.1 k (by omega) y, a1 k (by omega) z, hf k (by omega) u]
  have RC : ∀ k, k < 769 → R k = g_303 0 778 d k := fun k x => by rw [l1.2.1 k (by omega) (by omega), a1 k (by omega) (by omega)]
  have R9 : ∀ j, j < 10 ∨ 16 < j → R 769 j = d 769 j := fun j hj => by rw [l1.2.2 j hj, a2 j (by omega) (by omega), hf 769 (by decide) (by decide)]
  have G9 : ∀ k, 769 ≤ k → ¬ k = 778 → g_303 0 778 d k = d k := fun k x y => hf k (by omega) y
  rcases l2 with ⟨v1, v2, v3, v5, v4⟩ | ⟨v1, v2, v3⟩
  · rw [if_pos v2]
    dsimp only
    have M1 : OKR 580 (mset D' 578 1 0) (R 770) := v3.fr (fun b x y => by funext j; exact ms_a (by omega))
    have cp := M1.copy (a := 1) (s := 580) (by decide)
    generalize hU : g_4 64 (g_59 1 580 (mset D' 578 1 0)) = U at *
    have U4 : ∀ b, ¬ b = 64 → U b = g_59 1 580 (mset D' 578 1 0) b := fun b hb => by
      rw [← hU]
      unfold g_4
      funext j
      exact ms_a hb
    have okU : OKR 1 U (R 770) := cp.1.fr (fun b x y => U4 b (by omega))
    have Uf : ∀ b, (b < 1 ∨ 63 < b) → ¬ b = 64 → U b = mset D' 578 1 0 b := fun b x y => by rw [U4 b y, cp.2 b (by omega)]
    obtain ⟨c1, c2, c3, c4⟩ := lp120 (u := U)
    have u11 : U 11 0 = R 770 8 := okU.2.2.2.2.2.2.2.1.1
    generalize hP : lp_120_95 0 2 1 0 U = P at *
    have D1 : ∀ b, ¬ b = 778 → ¬ b = 571 → ¬ b = 572 → g_303 0 778 d b = U b := fun b x y z => by
      rw [v4, ← c2 b y z]
      funext j
      exact ms_a x
    have D571 : ∀ j, g_303 0 778 d 571 j = P.2 571 j := fun j => by
      rw [v4]
      exact ms_a (by decide)
    have fin : ∀ b, b < 769 → (mset (mset (mset (mset (mset R 769 9 0) 769 0 0) 769 7 0) 775 0 0) 775 1 0) b = g_303 0 778 d b := fun b hb => by
      rw [← RC b hb]
      funext j
      rw [ms_a (by omega), ms_a (by omega), ms_a (by omega), ms_a (by omega), ms_a (by omega)]
    generalize hZ : mset (mset (mset (mset (mset R 769 9 0) 769 0 0) 769 7 0) 775 0 0) 775 1 0 = Z at *
    have Z9 : ∀ j, Z 769 j = if j = 7 then 0 else if j = 0 then 0 else if j = 9 then 0 else R 769 j := fun j => by
      rw [← hZ, ms_a (by decide), ms_a (by decide)]
      by_cases h7 : j = 7
      · rw [if_pos h7, ms_e rfl h7]
      · rw [if_neg h7, ms_i h7]
        by_cases h0 : j = 0
        · rw [if_pos h0, ms_e rfl h0]
        · rw [if_neg h0, ms_i h0]
          by_cases h9 : j = 9
          · rw [if_pos h9, ms_e rfl h9]
          · rw [if_neg h9, ms_i h9]
    have Z70 : Z 770 = R 770 := by
      rw [← hZ]
      funext j
      rw [ms_a (by decide), ms_a (by decide), ms_a (by decide), ms_a (by decide), ms_a (by decide)]
    have Z75 : Z 775 0 = 0 ∧ Z 775 1 = 0 := by
      rw [← hZ]
      exact ⟨by rw [ms_i (by decide), ms_e rfl rfl], ms_e rfl rfl⟩
    have erz : ER Z := by
      have z6 : ∀ j, Z 576 j = D' 576 j := fun j => by
        rw [fin 576 (by decide), D1 576 (by decide) (by decide) (by decide), Uf 576 (by decide) (by decide)]
        exact ms_a (by decide)
      obtain ⟨q1, q2⟩ := er6 v2
      have z11 : Z 769 11 = 0 := by rw [Z9, if_neg (by decide), if_neg (by decide), if_neg (by decide), q1, a3.1]
      have z12 : Z 769 12 = -1 := by rw [Z9, if_neg (by decide), if_neg (by decide), if_neg (by decide), q2, a3.2]
      exact ⟨by rw [z6, z11]; exact v5.1, by rw [z6, z12]; exact v5.2⟩
    refine ⟨Or.inl ⟨v1, ?_, ?_, v3.1.1.2.1⟩, ⟨?_, ?_, ?_, ?_⟩, fin, erz⟩
    · show R 770 8 = _
      rw [v4, ms_e rfl rfl, c1, u11]
    · show Z 769 0 = 0
      rw [Z9]
      rfl
    · show OKR 1 Z (Z 770)
      rw [Z70]
      exact okU.fr (fun b x y => by rw [fin b (by omega), D1 b (by omega) (by omega) (by omega)])
    · have z64 : ∀ j, Z 64 j = U 64 j := fun j => by rw [fin 64 (by decide), D1 64 (by decide) (by decide) (by decide)]
      have u1 : U 64 1 = d 64 1 := by
        rw [← hU]
        unfold g_4
        rw [ms_i (by decide), cp.2 64 (by decide), ms_a (by decide), l1.1 64 (by decide)]
      have u2 : U 64 2 = 0 := by
        rw [← hU]
        unfold g_4
        exact ms_e rfl rfl
      exact noneH (by rw [z64, u1]; exact h64) (by rw [z64, u2]) (by rw [Z9]; rfl)
    · intro j hj
      have e1 : Z 571 j = 0 := by
        rw [fin 571 (by decide), D571]
        rcases hj with hj | hj
        · rw [hj]; exact c3
        · rw [hj]; exact c4
      have e2 : Z 775 j = 0 := by
        rcases hj with hj | hj
        · rw [hj]; exact Z75.1
        · rw [hj]; exact Z75.2
      exact ⟨by rw [e1, e2], fun h => absurd e2 h⟩
    · have z1 : Z 578 1 = 0 := by
        rw [fin 578 (by decide), D1 578 (by decide) (by decide) (by decide), Uf 578 (by decide) (by decide)]
        exact ms_e rfl rfl
      exact ⟨by omega, by rw [Z9, z1]; rfl, fun i x y => by omega⟩
  · rw [if_neg v2.ne]
    obtain ⟨Z, b1, b2, b3⟩ := back207 (d := mset (mset R 769 9 0) 769 0 1)
    rw [b1]
    dsimp only
    have ZF : ∀ b, ¬ b = 769 → ¬ b = 770 → Z b = R b := fun b x y => by
      rw [b2 b y]
      funext j
      rw [ms_a x, ms_a x]
    have Z9 : ∀ j, ¬ j = 0 → ¬ j = 9 → Z 769 j = R 769 j := fun j x y => by rw [b2 769 (by decide), ms_i x, ms_i y]
    have G : ∀ b, b < 769 → (b < 576 ∨ 642 < b ∨ b = 579) → g_303 0 778 d b = d b := fun b x y => by
      rw [v3, ← l1.1 b (by omega)]
      funext j
      exact ms_a (by omega)
    have G8 : g_303 0 778 d 578 1 = 0 := by
      rw [v3]
      exact ms_e rfl rfl
    have ZC : ∀ b, b < 769 → Z b = g_303 0 778 d b := fun b x => by rw [ZF b (by omega) (by omega), RC b x]
    have erz : ER Z := by
      have z6 : ∀ j, Z 576 j = D' 576 j := fun j => by
        rw [ZC 576 (by decide), v3]
        exact ms_a (by decide)
      obtain ⟨c, p, y1, y2, y3, y4, y5⟩ := v2
      exact ⟨by rw [z6, Z9 11 (by decide) (by decide), y1, y4], by rw [z6, Z9 12 (by decide) (by decide), y2, y5]⟩
    refine ⟨Or.inr ⟨v1, ?_⟩, ⟨?_, ?_, ?_, ?_⟩, ZC, erz⟩
    · show Z 769 0 = 1
      rw [b2 769 (by decide), ms_e rfl rfl]
    · show OKR 1 Z (Z 770)
      have rw' : REq (d 770) (Z 770) := fun i x y => by
        rw [b3 i x y, ms_a (by decide), ms_a (by decide), l1.2.1 774 (by decide) (by decide), a4 i x y, G9 770 (by decide) (by decide)]
      exact (i1.row rw').fr (fun b x y => by rw [ZC b (by omega), G b (by omega) (by omega)])
    · exact i2.fr (fun b x y => by rw [ZC b (by omega), G b (by omega) (by omega)]) (by rw [Z9 7 (by decide) (by decide), R9 7 (by decide)]) (fun j x y => by rw [ZF 771 (by decide) (by decide), R7 771 (by decide) (by decide) (by decide) (by decide)])
    · exact i3.fr (fun b hb => by
        rcases hb with hb | hb | hb | hb
        · rw [ZC b (by omega), G b (by omega) (by omega)]
        · rw [ZC b (by omega), G b (by omega) (by omega)]
        · rw [ZF b (by omega) (by omega), R7 b (by omega) (by omega) (by omega) (by omega)]
        · rw [ZF b (by omega) (by omega), R7 b (by omega) (by omega) (by omega) (by omega)])
    · have z1 : Z 578 1 = 0 := by rw [ZC 578 (by decide), G8]
      have z9 : Z 769 9 = 0 := by rw [b2 769 (by decide), ms_i (by decide), ms_e rfl rfl]
      exact ⟨by omega, by rw [z9, z1], fun i x y => by omega⟩
/-! ===== what the reference's queries leave alone: printed by a program of mine ===== -/
def QF (d d' : mD) : Prop := (∀ b, ¬ b = 769 → ¬ b = 777 → d' b = d b) ∧ ∀ j, ¬ j = 0 → ¬ j = 18 → d' 769 j = d 769 j
theorem QF.refl {d : mD} : QF d d := ⟨fun _ _ _ => rfl, fun _ _ _ => rfl⟩
theorem QF.trans {a b c : mD} (h : QF a b) (g : QF b c) : QF a c := ⟨fun k x y => (g.1 k x y).trans (h.1 k x y), fun k x y => (g.2 k x y).trans (h.2 k x y)⟩
theorem QF.s0 {d : mD} {v : Int} : QF d (mset d 769 0 v) := ⟨fun b x _ => by funext j; exact ms_a x, fun j x _ => ms_i x⟩
theorem QF.ite {d : mD} {c : Prop} [Decidable c] {a b : Int × mD} (h1 : QF d a.2) (h2 : QF d b.2) : QF d (if c then a else b).2 := by split <;> assumption
theorem QF.ite1 {d : mD} {c : Prop} [Decidable c] {a b : mD} (h1 : QF d a) (h2 : QF d b) : QF d (if c then a else b) := by split <;> assumption
theorem QF.s18 {d : mD} {v : Int} : QF d (mset d 769 18 v) := ⟨fun b x _ => by funext j; exact ms_a x, fun j _ x => ms_i x⟩
theorem QF.s77 {d : mD} {i v : Int} : QF d (mset d 777 i v) := ⟨fun b _ x => by funext j; exact ms_a x, fun j _ _ => ms_a (by decide)⟩
theorem ql_239_139 {x1 : Int} : ∀ (n : Nat) (a0 a1 a2 a3 a4 : Int) (d : mD), QF d (lp_239_139 769 x1  n a0 a1 a2 a3 a4 d).2 := by
  intro n
  induction n with
  | zero =>
    intro a0 a1 a2 a3 a4 d
    show QF d (st_239_139 769 x1  _ a0 a1 a2 a3 a4 d).2
    unfold st_239_139
    repeat' apply QF.ite
    all_goals first
      | exact QF.refl
      | exact QF.s0
  | succ n ih =>
    intro a0 a1 a2 a3 a4 d
    show QF d (st_239_139 769 x1  _ a0 a1 a2 a3 a4 d).2
    unfold st_239_139
    repeat' apply QF.ite
    all_goals first
      | exact ih _ _ _ _ _ _
      | exact QF.refl
      | exact QF.s0
theorem ql_239_40 {x1 : Int} : ∀ (n : Nat) (a0 a1 a2 a3 : Int) (d : mD), QF d (lp_239_40 769 x1  n a0 a1 a2 a3 d).2 := by
  intro n
  induction n with
  | zero =>
    intro a0 a1 a2 a3 d
    show QF d (st_239_40 769 x1  _ a0 a1 a2 a3 d).2
    unfold st_239_40
    repeat' split
    all_goals first
      | exact QF.refl
      | exact QF.s0
      | exact ql_239_139 _ _ _ _ _ _ _
  | succ n ih =>
    intro a0 a1 a2 a3 d
    show QF d (st_239_40 769 x1  _ a0 a1 a2 a3 d).2
    unfold st_239_40
    repeat' split
    all_goals first
      | exact ih _ _ _ _ _
      | exact QF.refl
      | exact QF.s0
      | exact ql_239_139 _ _ _ _ _ _ _
theorem q_239 {x1 : Int} {d : mD} : QF d (g_239 769 x1 d) := by
  unfold g_239 f_239
  repeat' split
  all_goals first
    | exact QF.refl
    | exact QF.s0
    | exact QF.s0.trans (ql_239_40 _ _ _ _ _ _)
theorem ql_246_140 {x1 : Int} {x2 : Int} : ∀ (n : Nat) (a0 a1 a2 a3 : Int) (d : mD), QF d (lp_246_140 769 x1 x2  n a0 a1 a2 a3 d).2 := by
  intro n
  induction n with
  | zero =>
    intro a0 a1 a2 a3 d
    show QF d (st_246_140 769 x1 x2  _ a0 a1 a2 a3 d).2
    unfold st_246_140
    repeat' apply QF.ite
    all_goals first
      | exact QF.refl
      | exact QF.s0
  | succ n ih =>
    intro a0 a1 a2 a3 d
    show QF d (st_246_140 769 x1 x2  _ a0 a1 a2 a3 d).2
    unfold st_246_140
    repeat' apply QF.ite
    all_goals first
      | exact ih _ _ _ _ _
      | exact QF.refl
      | exact QF.s0
theorem ql_246_50 {x1 : Int} {x2 : Int} : ∀ (n : Nat) (a0 a1 a2 : Int) (d : mD), QF d (lp_246_50 769 x1 x2  n a0 a1 a2 d).2 := by
  intro n
  induction n with
  | zero =>
    intro a0 a1 a2 d
    show QF d (st_246_50 769 x1 x2  _ a0 a1 a2 d).2
    unfold st_246_50
    repeat' split
    all_goals first
      | exact QF.refl
      | exact QF.s0
      | exact ql_246_140 _ _ _ _ _ _
  | succ n ih =>
    intro a0 a1 a2 d
    show QF d (st_246_50 769 x1 x2  _ a0 a1 a2 d).2
    unfold st_246_50
    repeat' split
    all_goals first
      | exact ih _ _ _ _
      | exact QF.refl
      | exact QF.s0
      | exact ql_246_140 _ _ _ _ _ _
theorem q_246 {x1 : Int} {x2 : Int} {d : mD} : QF d (g_246 769 x1 x2 d) := by
  unfold g_246 f_246
  repeat' split
  all_goals first
    | exact QF.refl
    | exact QF.s0
    | exact QF.s0.trans (ql_246_50 _ _ _ _ _)
theorem ql_247_65 {x1 : Int} {x2 : Int} : ∀ (n : Nat) (a0 a1 : Int) (d : mD), QF d (lp_247_65 769 x1 x2  n a0 a1 d).2 := by
  intro n
  induction n with
  | zero =>
    intro a0 a1 d
    show QF d (st_247_65 769 x1 x2  _ a0 a1 d).2
    unfold st_247_65
    repeat' apply QF.ite
    all_goals first
      | exact QF.refl
      | exact QF.s0
  | succ n ih =>
    intro a0 a1 d
    show QF d (st_247_65 769 x1 x2  _ a0 a1 d).2
    unfold st_247_65
    repeat' apply QF.ite
    all_goals first
      | exact ih _ _ _
      | exact QF.refl
      | exact QF.s0
theorem q_247 {x1 : Int} {x2 : Int} {d : mD} : QF d (g_247 769 x1 x2 d) := by
  unfold g_247 f_247
  repeat' split
  all_goals first
    | exact QF.refl
    | exact QF.s0
    | exact QF.s0.trans (ql_247_65 _ _ _ _)
theorem ql_248_75 {x1 : Int} {x2 : Int} : ∀ (n : Nat) (a0 a1 : Int) (d : mD), QF d (lp_248_75 769 x1 x2  n a0 a1 d).2 := by
  intro n
  induction n with
  | zero =>
    intro a0 a1 d
    show QF d (st_248_75 769 x1 x2  _ a0 a1 d).2
    unfold st_248_75
    repeat' apply QF.ite
    all_goals first
      | exact QF.refl
      | exact QF.s0
  | succ n ih =>
    intro a0 a1 d
    show QF d (st_248_75 769 x1 x2  _ a0 a1 d).2
    unfold st_248_75
    repeat' apply QF.ite
    all_goals first
      | exact ih _ _ _
      | exact QF.refl
      | exact QF.s0
theorem q_248 {x1 : Int} {x2 : Int} {d : mD} : QF d (g_248 769 x1 x2 d) := by
  unfold g_248 f_248
  repeat' split
  all_goals first
    | exact QF.refl
    | exact QF.s0
    | exact QF.s0.trans (ql_248_75 _ _ _ _)
theorem ql_253_31 {x1 : Int} {x2 : Int} : ∀ (n : Nat) (a0 a1 : Int) (d : mD), QF d (lp_253_31 769 x1 x2  n a0 a1 d).2 := by
  intro n
  induction n with
  | zero =>
    intro a0 a1 d
    show QF d (st_253_31 769 x1 x2  _ a0 a1 d).2
    unfold st_253_31
    repeat' apply QF.ite
    all_goals first
      | exact QF.refl
      | exact QF.s0
  | succ n ih =>
    intro a0 a1 d
    show QF d (st_253_31 769 x1 x2  _ a0 a1 d).2
    unfold st_253_31
    repeat' apply QF.ite
    all_goals first
      | exact ih _ _ _
      | exact QF.refl
      | exact QF.s0
theorem q_253 {x1 : Int} {x2 : Int} {d : mD} : QF d (g_253 769 x1 x2 d) := by
  unfold g_253 f_253
  repeat' split
  all_goals first
    | exact QF.refl
    | exact QF.s0
    | exact QF.s0.trans (ql_253_31 _ _ _ _)
theorem ql_258_9 : ∀ (n : Nat) (a0 a1 : Int) (d : mD), QF d (lp_258_9 769   n a0 a1 d).2 := by
  intro n
  induction n with
  | zero =>
    intro a0 a1 d
    show QF d (st_258_9 769   _ a0 a1 d).2
    unfold st_258_9
    repeat' apply QF.ite
    all_goals first
      | exact QF.refl
      | exact QF.s0
  | succ n ih =>
    intro a0 a1 d
    show QF d (st_258_9 769   _ a0 a1 d).2
    unfold st_258_9
    repeat' apply QF.ite
    all_goals first
      | exact ih _ _ _
      | exact QF.refl
      | exact QF.s0
theorem q_258 {d : mD} : QF d (g_258 769 d) := by
  unfold g_258 f_258
  repeat' split
  all_goals first
    | exact QF.refl
    | exact QF.s0
    | exact QF.s0.trans (ql_258_9 _ _ _ _)
theorem ql_259_11 : ∀ (n : Nat) (a0 a1 a2 : Int) (d : mD), QF d (lp_259_11 769   n a0 a1 a2 d).2 := by
  intro n
  induction n with
  | zero =>
    intro a0 a1 a2 d
    show QF d (st_259_11 769   _ a0 a1 a2 d).2
    unfold st_259_11
    repeat' apply QF.ite
    all_goals first
      | exact QF.refl
      | exact QF.s0
  | succ n ih =>
    intro a0 a1 a2 d
    show QF d (st_259_11 769   _ a0 a1 a2 d).2
    unfold st_259_11
    repeat' apply QF.ite
    all_goals first
      | exact ih _ _ _ _
      | exact QF.refl
      | exact QF.s0
theorem q_259 {d : mD} : QF d (g_259 769 d) := by
  unfold g_259 f_259
  repeat' split
  all_goals first
    | exact QF.refl
    | exact QF.s0
    | exact QF.s0.trans (ql_259_11 _ _ _ _ _)
theorem ql_260_9 : ∀ (n : Nat) (a0 a1 : Int) (d : mD), QF d (lp_260_9 769   n a0 a1 d).2 := by
  intro n
  induction n with
  | zero =>
    intro a0 a1 d
    show QF d (st_260_9 769   _ a0 a1 d).2
    unfold st_260_9
    repeat' apply QF.ite
    all_goals first
      | exact QF.refl
      | exact QF.s0
  | succ n ih =>
    intro a0 a1 d
    show QF d (st_260_9 769   _ a0 a1 d).2
    unfold st_260_9
    repeat' apply QF.ite
    all_goals first
      | exact ih _ _ _
      | exact QF.refl
      | exact QF.s0
theorem q_260 {d : mD} : QF d (g_260 769 d) := by
  unfold g_260 f_260
  repeat' split
  all_goals first
    | exact QF.refl
    | exact QF.s0
    | exact QF.s0.trans (ql_260_9 _ _ _ _)
theorem ql_261_11 : ∀ (n : Nat) (a0 a1 a2 : Int) (d : mD), QF d (lp_261_11 769   n a0 a1 a2 d).2 := by
  intro n
  induction n with
  | zero =>
    intro a0 a1 a2 d
    show QF d (st_261_11 769   _ a0 a1 a2 d).2
    unfold st_261_11
    repeat' apply QF.ite
    all_goals first
      | exact QF.refl
      | exact QF.s0
  | succ n ih =>
    intro a0 a1 a2 d
    show QF d (st_261_11 769   _ a0 a1 a2 d).2
    unfold st_261_11
    repeat' apply QF.ite
    all_goals first
      | exact ih _ _ _ _
      | exact QF.refl
      | exact QF.s0
theorem q_261 {d : mD} : QF d (g_261 769 d) := by
  unfold g_261 f_261
  repeat' split
  all_goals first
    | exact QF.refl
    | exact QF.s0
    | exact QF.s0.trans (ql_261_11 _ _ _ _ _)
theorem ql_262_58 {r15 : Int → Int → mD → Int × mD} (hr15 : ∀ (b0 b1 : Int) (d : mD), QF d (r15 b0 b1 d).2) : ∀ (n : Nat) (a0 a1 a2 : Int) (d : mD), QF d (lp_262_58 769  r15 n a0 a1 a2 d).2 := by
  intro n
  induction n with
  | zero =>
    intro a0 a1 a2 d
    show QF d (st_262_58 769  r15 _ a0 a1 a2 d).2
    unfold st_262_58
    repeat' apply QF.ite
    all_goals first
      | exact QF.refl
      | exact QF.s0
      | exact hr15 _ _ _
  | succ n ih =>
    intro a0 a1 a2 d
    show QF d (st_262_58 769  r15 _ a0 a1 a2 d).2
    unfold st_262_58
    repeat' apply QF.ite
    all_goals first
      | exact ih _ _ _ _
      | exact QF.refl
      | exact QF.s0
      | exact hr15 _ _ _
theorem ql_262_15 : ∀ (n : Nat) (a0 a1 : Int) (d : mD), QF d (lp_262_15 769   n a0 a1 d).2 := by
  intro n
  induction n with
  | zero =>
    intro a0 a1 d
    show QF d (st_262_15 769   _ a0 a1 d).2
    unfold st_262_15
    repeat' apply QF.ite
    all_goals first
      | exact QF.refl
      | exact QF.s0
      | exact ql_262_58 (fun _ _ _ => QF.refl) _ _ _ _ _
  | succ n ih =>
    intro a0 a1 d
    show QF d (st_262_15 769   _ a0 a1 d).2
    unfold st_262_15
    repeat' apply QF.ite
    all_goals first
      | exact ih _ _ _
      | exact QF.refl
      | exact QF.s0
      | exact ql_262_58 ih _ _ _ _ _
theorem q_262 {d : mD} : QF d (g_262 769 d) := by
  unfold g_262 f_262
  repeat' split
  all_goals first
    | exact QF.refl
    | exact QF.s0
    | exact QF.s0.trans (ql_262_15 _ _ _ _)
theorem q_208 {d : mD} : QF d (g_208 769 d) := by
  unfold g_208
  repeat' split
  all_goals first
    | exact QF.refl
    | exact QF.s0
theorem q_209 {d : mD} : QF d (g_209 769 d) := by
  unfold g_209
  repeat' split
  all_goals first
    | exact QF.refl
    | exact QF.s0
theorem q_240 {x1 : Int} {d : mD} : QF d (g_240 769 x1 d) := by
  unfold g_240
  repeat' split
  all_goals first
    | exact QF.refl
    | exact QF.s0
theorem q_241 {x1 : Int} {x2 : Int} {d : mD} : QF d (g_241 769 x1 x2 d) := by
  unfold g_241
  repeat' split
  all_goals first
    | exact QF.refl
    | exact QF.s0
theorem q_242 {x1 : Int} {x2 : Int} {d : mD} : QF d (g_242 769 x1 x2 d) := by
  unfold g_242
  repeat' split
  all_goals first
    | exact QF.refl
    | exact QF.s0
theorem q_249 {x1 : Int} {x2 : Int} {d : mD} : QF d (g_249 769 x1 x2 d) := by
  unfold g_249
  repeat' split
  all_goals first
    | exact QF.refl
    | exact QF.s0
theorem q_277 {x1 : Int} {d : mD} : QF d (g_277 769 x1 d) := by
  unfold g_277
  repeat' split
  all_goals first
    | exact QF.refl
    | exact QF.s0
theorem q_250 {x1 : Int} {x2 : Int} {d : mD} : QF d (g_250 769 x1 x2 d) := by
  unfold g_250
  repeat' split
  all_goals first
    | exact QF.refl
    | exact QF.s0
theorem q_251 {x1 x2 : Int} {d : mD} : QF d (g_251 769 x1 x2 d) := q_250
theorem q_252 {x1 x2 : Int} {d : mD} : QF d (g_252 769 x1 x2 d) := q_250
theorem q_254 {x1 x2 : Int} {d : mD} : QF d (g_254 769 x1 x2 d) := q_250
theorem q_273 {x1 : Int} {d : mD} : QF d (g_273 769 x1 d) := by
  unfold g_273
  rw [show (769 : Int) + 8 = 777 by decide]
  exact QF.s77.trans QF.s18
theorem ql_274_18 {x1 : Int} : ∀ (n : Nat) (a0 : Int) (d : mD), QF d (lp_274_18 769 x1  n a0 d) := by
  intro n
  induction n with
  | zero =>
    intro a0 d
    show QF d (st_274_18 769 x1  _ a0 d)
    unfold st_274_18
    repeat' apply QF.ite1
    all_goals first
      | exact QF.refl
      | exact QF.s0
      | exact (q_273 (d := d)).trans QF.refl
  | succ n ih =>
    intro a0 d
    show QF d (st_274_18 769 x1  _ a0 d)
    unfold st_274_18
    repeat' apply QF.ite1
    all_goals first
      | exact ih _ _
      | exact QF.refl
      | exact QF.s0
      | exact (q_273 (d := d)).trans (ih _ _)
theorem ql_274_2 {x1 : Int} : ∀ (n : Nat) (a0 : Int) (d : mD), QF d (lp_274_2 769 x1  n a0 d) := by
  intro n
  induction n with
  | zero =>
    intro a0 d
    show QF d (st_274_2 769 x1  _ a0 d)
    unfold st_274_2
    repeat' apply QF.ite1
    all_goals first
      | exact QF.refl
      | exact QF.s0
      | exact ql_274_18 _ _ _
  | succ n ih =>
    intro a0 d
    show QF d (st_274_2 769 x1  _ a0 d)
    unfold st_274_2
    repeat' apply QF.ite1
    all_goals first
      | exact ih _ _
      | exact QF.refl
      | exact QF.s0
      | exact ql_274_18 _ _ _
theorem q_274 {x1 : Int} {d : mD} : QF d (g_274 769 x1 d) := by
  unfold g_274
  repeat' split
  all_goals first
    | exact QF.refl
    | exact QF.s0
    | exact ql_274_2 _ _ _
theorem ql_275_18 {x1 : Int} : ∀ (n : Nat) (a0 : Int) (d : mD), QF d (lp_275_18 769 x1  n a0 d) := by
  intro n
  induction n with
  | zero =>
    intro a0 d
    show QF d (st_275_18 769 x1  _ a0 d)
    unfold st_275_18
    repeat' apply QF.ite1
    all_goals first
      | exact QF.refl
      | exact QF.s0
      | exact (q_273 (d := d)).trans QF.refl
  | succ n ih =>
    intro a0 d
    show QF d (st_275_18 769 x1  _ a0 d)
    unfold st_275_18
    repeat' apply QF.ite1
    all_goals first
      | exact ih _ _
      | exact QF.refl
      | exact QF.s0
      | exact (q_273 (d := d)).trans (ih _ _)
theorem ql_275_2 {x1 : Int} : ∀ (n : Nat) (a0 : Int) (d : mD), QF d (lp_275_2 769 x1  n a0 d) := by
  intro n
  induction n with
  | zero =>
    intro a0 d
    show QF d (st_275_2 769 x1  _ a0 d)
    unfold st_275_2
    repeat' apply QF.ite1
    all_goals first
      | exact QF.refl
      | exact QF.s0
      | exact ql_275_18 _ _ _
  | succ n ih =>
    intro a0 d
    show QF d (st_275_2 769 x1  _ a0 d)
    unfold st_275_2
    repeat' apply QF.ite1
    all_goals first
      | exact ih _ _
      | exact QF.refl
      | exact QF.s0
      | exact ql_275_18 _ _ _
theorem q_275 {x1 : Int} {d : mD} : QF d (g_275 769 x1 d) := by
  unfold g_275
  repeat' split
  all_goals first
    | exact QF.refl
    | exact QF.s0
    | exact ql_275_2 _ _ _
theorem st276q {x1 x2 x3 : Int} {r : Int → Int → mD → Int × mD} {d : mD} (hr : ∀ a b D, QF D (r a b D).2) : QF d (st_276_38 769 x1 r x2 x3 d).2 := by
  unfold st_276_38
  apply QF.ite
  · apply QF.ite
    · exact (((q_273 (x1 := 32)).trans q_275).trans (q_273.trans q_274)).trans (hr _ _ _)
    · exact (q_275.trans (q_273.trans q_274)).trans (hr _ _ _)
  · apply QF.ite
    · exact q_273
    · exact QF.refl
theorem ql_276_38 {x1 : Int} : ∀ (n : Nat) (a0 a1 : Int) (d : mD), QF d (lp_276_38 769 x1 n a0 a1 d).2 := by
  intro n
  induction n with
  | zero =>
    intro a0 a1 d
    exact st276q (r := fun _ _ d => (0, d)) (fun _ _ _ => QF.refl)
  | succ n ih =>
    intro a0 a1 d
    exact st276q (r := lp_276_38 769 x1 n) ih
theorem q_276 {x1 : Int} {d : mD} : QF d (g_276 769 x1 d) := by
  unfold g_276 f_276
  repeat' split
  all_goals first
    | exact QF.refl
    | exact QF.s0
    | exact (QF.s0.trans QF.s18).trans (ql_276_38 _ _ _ _)
/-! ===== queries of the reference that look ahead put the row back ===== -/
def RO (d d' : mD) : Prop := ∀ b, ¬ b = 770 → d' b = d b
theorem RO.refl {d : mD} : RO d d := fun _ _ => rfl
theorem RO.trans {a b c : mD} (h : RO a b) (g : RO b c) : RO a c := fun k x => (g k x).trans (h k x)
theorem RO.rs {d : mD} {w : Row} : RO d (rset d w) := fun _ hb => rset_ne hb
theorem ro223 {d : mD} : RO d (g_223 769 d) := by rw [m_g_223]; exact RO.rs
def QR (d d' : mD) : Prop := (∀ b, ¬ b = 769 → ¬ b = 770 → ¬ b = 773 → ¬ b = 777 → d' b = d b) ∧ (∀ j, ¬ j = 0 → ¬ j = 18 → d' 769 j = d 769 j) ∧ REq (d 770) (d' 770)
theorem QF.qr {d d' : mD} (h : QF d d') : QR d d' := ⟨fun b x _ _ y => h.1 b x y, h.2, fun i _ _ => by rw [h.1 770 (by decide) (by decide)]⟩
theorem QR.refl {d : mD} : QR d d := QF.refl.qr
theorem QR.trans {a b c : mD} (h : QR a b) (g : QR b c) : QR a c := ⟨fun k x y z u => (g.1 k x y z u).trans (h.1 k x y z u), fun k x y => (g.2.1 k x y).trans (h.2.1 k x y), fun i x y => (g.2.2 i x y).trans (h.2.2 i x y)⟩
theorem QR.s0 {d : mD} {v : Int} : QR d (mset d 769 0 v) := QF.s0.qr
theorem c255 {u : mD} : (∀ b, ¬ b = 773 → g_255 769 u b = u b) ∧ ∀ i, 0 ≤ i → i < 3116 → g_255 769 u 773 i = u 770 i := by
  unfold g_255 mcopy
  refine ⟨fun b hb => ?_, fun i x y => ?_⟩
  · funext j
    rw [if_neg (by omega)]
  · rw [if_pos (by omega)]
    rw [show (769 : Int) + 1 = 770 by decide, show (0 : Int) + (i - 0) = i by omega]
theorem c256 {u : mD} : (∀ b, ¬ b = 770 → g_256 769 u b = u b) ∧ ∀ i, 0 ≤ i → i < 3116 → g_256 769 u 770 i = u 773 i := by
  unfold g_256 mcopy
  refine ⟨fun b hb => ?_, fun i x y => ?_⟩
  · funext j
    rw [if_neg (by omega)]
  · rw [if_pos (by omega)]
    rw [show (769 : Int) + 4 = 773 by decide, show (0 : Int) + (i - 0) = i by omega]
theorem back {u D : mD} (h : ∀ b, ¬ b = 769 → ¬ b = 770 → D b = g_255 769 u b) (h9 : ∀ j, ¬ j = 0 → ¬ j = 18 → D 769 j = u 769 j) : QR u (g_256 769 D) := by
  obtain ⟨a1, a2⟩ := c255 (u := u)
  obtain ⟨b1, b2⟩ := c256 (u := D)
  refine ⟨fun b x y z _ => by rw [b1 b y, h b x y, a1 b z], fun j x y => by rw [b1 769 (by decide)]; exact h9 j x y, fun i x y => ?_⟩
  rw [b2 i x y, h 773 (by decide) (by decide), a2 i x y]
theorem backR {u D : mD} (h : RO (g_255 769 u) D) : QR u (g_256 769 D) := back (fun b _ y => h b y) (fun j _ _ => by rw [h 769 (by decide), (c255 (u := u)).1 769 (by decide)])
theorem l263 {x1 : Int} : ∀ (n : Nat) (x : Int) (d : mD), RO d (lp_263_2 769 x1 n x d).2 := by
  intro n
  induction n with
  | zero =>
    intro x d
    show RO d (st_263_2 769 x1 _ x d).2
    unfold st_263_2
    split
    · exact RO.refl
    · split
      · exact RO.refl
      · exact ro223
  | succ n ih =>
    intro x d
    show RO d (st_263_2 769 x1 _ x d).2
    unfold st_263_2
    split
    · exact RO.refl
    · split
      · exact RO.refl
      · exact ro223.trans (ih _ _)
theorem ro263 {x1 : Int} {d : mD} : RO d (g_263 769 x1 d) := by
  unfold g_263 f_263
  exact l263 _ _ _
theorem q_257 {x1 : Int} {d : mD} : QR d (g_257 769 x1 d) := by
  unfold g_257
  split
  · exact QR.s0
  · split
    · have h : RO (g_255 769 (mset d 769 0 0)) (g_218 769 x1 (g_255 769 (mset d 769 0 0))) := by
        rw [m_g_218]
        exact RO.rs
      exact QR.s0.trans (backR h)
    · exact QR.s0
theorem q_264 {x1 : Int} {d : mD} : QR d (g_264 769 x1 d) := by
  unfold g_264
  split
  · exact QR.s0
  · split
    · exact (QR.s0.trans (backR ro263)).trans QR.s0
    · exact (QR.s0.trans (backR ro263)).trans QR.s0
theorem l265 {x1 x2 : Int} {u : mD} : ∀ (n : Nat) (x : Int) (d : mD), x2 - x ≤ (n : Int) → RO (g_255 769 u) d → QR u (lp_265_48 769 x1 x2 n x d).2 := by
  intro n
  induction n with
  | zero =>
    intro x d hn h
    show QR u (st_265_48 769 x1 x2 _ x d).2
    unfold st_265_48
    rw [if_neg (by omega)]
    exact backR h
  | succ n ih =>
    intro x d hn h
    show QR u (st_265_48 769 x1 x2 _ x d).2
    unfold st_265_48
    split
    · exact ih _ _ (by omega) (h.trans ro223)
    · exact backR h
theorem q_265 {x1 x2 : Int} {d : mD} : QR d (g_265 769 x1 x2 d) := by
  unfold g_265 f_265
  split
  · exact QR.s0
  · split
    · exact QR.s0
    · exact QR.s0.trans (l265 _ _ _ (by omega) RO.refl)
theorem l266 {x1 : Int} {u : mD} : ∀ (n : Nat) (x : Int) (d : mD), x1 - x ≤ (n : Int) → RO (g_255 769 u) d → QR u (lp_266_36 769 x1 n x d).2 := by
  intro n
  induction n with
  | zero =>
    intro x d hn h
    show QR u (st_266_36 769 x1 _ x d).2
    unfold st_266_36
    rw [if_neg (by omega)]
    exact backR h
  | succ n ih =>
    intro x d hn h
    show QR u (st_266_36 769 x1 _ x d).2
    unfold st_266_36
    split
    · exact ih _ _ (by omega) (h.trans ro223)
    · exact backR h
theorem q_266 {x1 : Int} {d : mD} : QR d (g_266 769 x1 d) := by
  unfold g_266 f_266
  split
  · exact QR.s0
  · exact QR.s0.trans (l266 _ _ _ (by omega) RO.refl)
theorem q_267 {x1 : Int} {d : mD} : QR d (g_267 769 x1 d) := by
  unfold g_267
  split
  · exact QR.refl
  · refine backR (RO.trans ?_ ro263)
    rw [m_g_224]
    exact RO.rs
theorem q_268 {x1 : Int} {d : mD} : QR d (g_268 769 x1 d) := by
  unfold g_268
  split
  · exact QR.s0
  · split
    · exact (QR.s0.trans q_267).trans QR.s0
    · exact (QR.s0.trans q_267).trans QR.s0
theorem l269 : ∀ (n : Nat) (a b x : Int) (d : mD), QR d (lp_269_8 769 n a b x d).2 := by
  intro n
  induction n with
  | zero =>
    intro a b x d
    show QR d (st_269_8 769 _ a b x d).2
    unfold st_269_8
    repeat' split
    all_goals first
      | exact q_267
      | exact QR.s0
  | succ n ih =>
    intro a b x d
    show QR d (st_269_8 769 _ a b x d).2
    unfold st_269_8
    repeat' split
    all_goals first
      | exact q_267.trans (ih _ _ _ _)
      | exact QR.s0
theorem q_269 {d : mD} : QR d (g_269 769 d) := by
  unfold g_269 f_269
  exact l269 _ _ _ _ _
theorem back0 {u D : mD} {c : Int} (h : RO (g_255 769 u) D) : QR u (g_256 769 (mset D 769 0 c)) := back (fun b x y => by rw [← h b y]; funext j; exact ms_a x) (fun j x _ => by rw [ms_i x, h 769 (by decide), (c255 (u := u)).1 769 (by decide)])
theorem l272a {x1 x2 : Int} {u : mD} : ∀ (n : Nat) (a b x : Int) (d : mD), d 770 9 - x ≤ (n : Int) → RO (g_255 769 u) d → QR u (lp_272_89 769 x1 x2 n a b x d).2 := by
  intro n
  induction n with
  | zero =>
    intro a b x d hn h
    show QR u (st_272_89 769 x1 x2 _ a b x d).2
    unfold st_272_89
    rw [show (769 : Int) + 1 = 770 by decide, if_neg (by omega)]
    split
    · exact back0 h
    · exact back0 h
  | succ n ih =>
    intro a b x d hn h
    show QR u (st_272_89 769 x1 x2 _ a b x d).2
    unfold st_272_89
    repeat' split
    all_goals first
      | exact ih _ _ _ _ (by omega) h
      | exact back0 h
theorem l272 {x1 x2 : Int} {u : mD} : ∀ (n : Nat) (x : Int) (d cm : mD), 200 - x ≤ (n : Int) → x ≤ 200 → GG (d 770) → Rel 1 cm (d 770) → d 770 0 + (200 - x) ≤ 1199 → RO (g_255 769 u) d → QR u (lp_272_59 769 x1 x2 n x d).2 := by
  have last : ∀ (x : Int) (d : mD), GG (d 770) → RO (g_255 769 u) d → QR u (lp_272_89 769 x1 x2 (61 - 0 : Int).toNat x 0 0 d).2 := fun x d hg h => by
    have := hg.1.2.2.1
    exact l272a _ _ _ _ _ (by omega) h
  intro n
  induction n with
  | zero =>
    intro x d cm hn hx hg hr ht h
    show QR u (st_272_59 769 x1 x2 _ x d).2
    unfold st_272_59
    rw [if_neg (by omega)]
    exact last _ _ hg h
  | succ n ih =>
    intro x d cm hn hx hg hr ht h
    show QR u (st_272_59 769 x1 x2 _ x d).2
    unfold st_272_59
    by_cases c : x < 200
    · rw [if_pos c]
      split
      · obtain ⟨-, p2, p3, p4, -⟩ := passLoop (s := 1) (N := 1) 1 0 0 cm (d 770) hg hr (by decide) (by omega)
        have e : g_223 769 d 770 = hoursW 1 (d 770) := by
          rw [m_g_223, rset_at]
          rfl
        refine ih (x + 1) (g_223 769 d) _ (by omega) (by omega) (by rw [e]; exact p2) (by rw [e]; exact p3) ?_ (h.trans ro223)
        rw [e, p4]
        omega
      · exact last _ _ hg h
    · rw [if_neg c]
      exact last _ _ hg h
theorem q_272 {x1 x2 : Int} {d cm : mD} (hk : OKR 1 cm (d 770)) : QR d (g_272 769 x1 x2 d) := by
  unfold g_272 f_272
  by_cases c1 : v_236 769 x1 d = 0
  · rw [if_pos c1]; exact QR.s0
  · rw [if_neg c1]
    by_cases c2 : v_236 769 x2 d = 0
    · rw [if_pos c2]; exact QR.s0
    · rw [if_neg c2]
      by_cases c3 : v_270 769 x1 x2 d = 0
      · rw [if_pos c3]; exact QR.s0
      · rw [if_neg c3]
        unfold v_236 at c1 c2
        rw [v176, show (769 : Int) + 1 = 770 by decide] at c1 c2
        have h1 : 0 ≤ x1 ∧ x1 < d 770 7 := by
          by_cases z : 0 ≤ x1 ∧ x1 ≤ d 770 7 - 1
          · omega
          · rw [if_neg z] at c1
            exact absurd rfl c1
        have h2 : 0 ≤ x2 ∧ x2 < d 770 7 := by
          by_cases z : 0 ≤ x2 ∧ x2 ≤ d 770 7 - 1
          · omega
          · rw [if_neg z] at c2
            exact absurd rfl c2
        unfold v_270 at c3
        rw [show (769 : Int) + 1 = 770 by decide] at c3
        have h3 : ¬ x1 = x2 := fun z => by rw [if_pos z] at c3; exact absurd rfl c3
        rw [if_neg h3] at c3
        have h4 : ¬ d 770 (12 + 68 * x1 + 4) = 0 := fun z => by rw [if_pos z] at c3; exact absurd rfl c3
        rw [if_neg h4] at c3
        have h5 : ¬ d 770 (12 + 68 * x2 + 4) = 0 := fun z => by rw [if_pos z] at c3; exact absurd rfl c3
        have hg := hk.1
        have o1 : d 770 (12 + 68 * x2 + 4) = 1 := by
          rcases (hg.2.1 x2 h2.1 h2.2).2.2.2.1 with z | z
          · exact absurd z h5
          · exact z
        obtain ⟨m1, m2, m3⟩ := merge hg hk.2.2.2.2 h1 h2 h3 o1
        generalize hu : mset d 769 0 0 = u
        have e0 : g_255 769 u 770 = d 770 := by
          rw [(c255 (u := u)).1 770 (by decide), ← hu]
          funext j
          exact ms_a (by decide)
        have e1 : g_229 769 x1 x2 (g_255 769 u) 770 = W_229 x1 x2 (d 770) := by rw [m_g_229, rset_at, e0]
        have tm : d 770 0 ≤ 999 := hk.2.2.2.1
        have q : QR u (lp_272_59 769 x1 x2 (200 - 0 : Int).toNat 0 (g_229 769 x1 x2 (g_255 769 u))).2 := by
          refine l272 _ 0 _ _ (by omega) (by decide) (by rw [e1]; exact m1) (by rw [e1]; exact m2) ?_ (by rw [m_g_229]; exact RO.rs)
          rw [e1, m3 0 (by decide) (by decide)]
          omega
        have q0 : QR d u := by rw [← hu]; exact QR.s0
        exact q0.trans q
/-! ===== what the reference's rows keep: two witnesses at most where none is valid ===== -/
def RW (d : mD) : Prop := mwP (d 770) ∧ (∀ k, 0 ≤ k → k < d 769 7 → mwP (fun i => d 771 (3116 * k + i))) ∧ ∀ j, (j = 0 ∨ j = 1) → ¬ d 775 j = 0 → mwP (fun i => d 772 (3116 * j + i))
theorem mwP.row {w w' : Row} (e : REq w w') (h : mwP w) : mwP w' := fun t t0 t1 => by
  rw [e (452 + 24 * t + 6) (by omega) (by omega), e (452 + 24 * t + 7) (by omega) (by omega)]
  exact h t t0 t1
theorem mwP.fr {w w' : Row} (e : ∀ t, 0 ≤ t → t ≤ 60 → w' (452 + 24 * t + 6) = w (452 + 24 * t + 6) ∧ w' (452 + 24 * t + 7) = w (452 + 24 * t + 7)) (h : mwP w) : mwP w' := fun t t0 t1 => by
  rw [(e t t0 t1).1, (e t t0 t1).2]
  exact h t t0 t1
theorem RW.q {d d2 : mD} (h : RW d) (hr : REq (d 770) (d2 770)) (h7 : d2 769 7 = d 769 7) (hx : ∀ b, (b = 771 ∨ b = 772 ∨ b = 775) → d2 b = d b) : RW d2 := by
  obtain ⟨h1, h2, h3⟩ := h
  refine ⟨h1.row hr, fun k a b => ?_, fun j hj hn => ?_⟩
  · rw [hx 771 (by decide)]
    exact h2 k a (by omega)
  · rw [hx 775 (by decide)] at hn
    rw [hx 772 (by decide)]
    exact h3 j hj hn
theorem RW.keep {d d2 r r' : mD} (h : RW d) (b7 : 0 ≤ d 769 7 ∧ d 769 7 ≤ 8) (hr : KeepW r r') (r7 : r 769 7 = d 769 7) (r0 : r 770 = d 770) (r1 : r 771 = d 771) (e7 : d2 769 7 = r' 769 7) (e1 : d2 771 = r' 771) (e2 : d2 772 = d 772) (e5 : d2 775 = d 775) (hw : mwP (d2 770)) : RW d2 := by
  obtain ⟨h1, h2, h3⟩ := h
  obtain ⟨-, -, k3⟩ := hr
  refine ⟨hw, fun k a b => ?_, fun j hj hn => ?_⟩
  · rw [e1]
    rw [e7] at b
    rw [r7, r0, r1] at k3
    rcases k3 with ⟨q1, q2, q3, q4⟩ | ⟨q1, q2, q3, q4⟩
    · by_cases c : k = d 769 7
      · refine h1.row (fun i x y => ?_)
        rw [c]
        exact q3 i x y
      · refine (h2 k a (by omega)).row (fun i x y => ?_)
        exact q4 _ (by omega)
    · by_cases c : k = 7
      · refine h1.row (fun i x y => ?_)
        rw [c]
        exact q3 i x y
      · refine (h2 (k + 1) (by omega) (by omega)).row (fun i x y => ?_)
        have := q4 (3116 * k + i) (by omega) (by omega)
        rw [this, show 3116 * k + i + 3116 = 3116 * (k + 1) + i by omega]
  · rw [e5] at hn
    rw [e2]
    exact h3 j hj hn
theorem RW.undo {d d2 r r' : mD} (h : RW d) (b7 : 0 < d 769 7) (hr : UndoW r r') (r7 : r 769 7 = d 769 7) (r1 : r 771 = d 771) (e7 : d2 769 7 = r' 769 7) (e0 : d2 770 = r' 770) (e1 : d2 771 = d 771) (e2 : d2 772 = d 772) (e5 : d2 775 = d 775) : RW d2 := by
  obtain ⟨h1, h2, h3⟩ := h
  obtain ⟨-, -, -, k4, k5⟩ := hr
  refine ⟨?_, fun k a b => ?_, fun j hj hn => ?_⟩
  · rw [e0]
    refine (h2 (d 769 7 - 1) (by omega) (by omega)).row (fun i x y => ?_)
    rw [k5 i x y, r7, r1]
  · rw [e1]
    exact h2 k a (by omega)
  · rw [e5] at hn
    rw [e2]
    exact h3 j hj hn
theorem RW.save {a : Int} {d d2 r r' : mD} (h : RW d) (ha : a = 0 ∨ a = 1) (hr : SaveW a r r') (r0 : r 770 = d 770) (r2 : r 772 = d 772) (r5 : r 775 = d 775) (e0 : d2 770 = d 770) (e7 : d2 769 7 = d 769 7) (e1 : d2 771 = d 771) (e2 : d2 772 = r' 772) (e5 : d2 775 = r' 775) : RW d2 := by
  obtain ⟨h1, h2, h3⟩ := h
  obtain ⟨-, k2, k3, k4, k5⟩ := hr
  refine ⟨by rw [e0]; exact h1, fun k x y => ?_, fun j hj hn => ?_⟩
  · rw [e1]
    exact h2 k x (by omega)
  · rw [e2]
    by_cases c : j = a
    · refine h1.row (fun i x y => ?_)
      rw [c, ← r0]
      exact k4 i x y
    · rw [e5, k3 j c, r5] at hn
      refine (h3 j hj hn).row (fun i x y => ?_)
      rw [k5 _ (by omega), r2]
theorem RW.rest {a : Int} {d d2 r r' : mD} (h : RW d) (ha : a = 0 ∨ a = 1) (hv : ¬ d 775 a = 0) (hr : RestW a r r') (r2 : r 772 = d 772) (e7 : d2 769 7 = r' 769 7) (e0 : d2 770 = r' 770) (e2 : d2 772 = d 772) (e5 : d2 775 = d 775) : RW d2 := by
  obtain ⟨h1, h2, h3⟩ := h
  obtain ⟨-, k2, -, k4⟩ := hr
  refine ⟨?_, fun k x y => by omega, fun j hj hn => ?_⟩
  · rw [e0]
    refine (h3 a ha hv).row (fun i x y => ?_)
    rw [k4 i x y, r2]
  · rw [e5] at hn
    rw [e2]
    exact h3 j hj hn
theorem RW.new {d2 : mD} (hw : mwP (d2 770)) (h7 : d2 769 7 = 0) (h0 : d2 775 0 = 0) (h1 : d2 775 1 = 0) : RW d2 := by
  refine ⟨hw, fun k x y => by omega, fun j hj hn => ?_⟩
  rcases hj with hj | hj
  · rw [hj] at hn
    exact absurd h0 hn
  · rw [hj] at hn
    exact absurd h1 hn
def RP (d : mD) : Prop := RW d ∧ ER d
theorem ER.of {d d2 : mD} (h : ER d) (e6 : d2 576 = d 576) (e1 : d2 769 11 = d 769 11) (e2 : d2 769 12 = d 769 12) : ER d2 := by
  unfold ER
  rw [e6, e1, e2]
  exact h
theorem QR.rp {d d1 d2 : mD} (h : RP d) (h70 : d1 770 = d 770) (h69 : d1 769 = d 769) (hx : ∀ b, (b = 576 ∨ b = 771 ∨ b = 772 ∨ b = 775) → d1 b = d b) (q : QR d1 d2) : RP d2 := by
  refine ⟨h.1.q (fun i x y => ?_) ?_ (fun b hb => ?_), h.2.of ?_ ?_ ?_⟩
  · rw [q.2.2 i x y, h70]
  · rw [q.2.1 7 (by decide) (by decide), h69]
  · rw [q.1 b (by omega) (by omega) (by omega) (by omega), hx b (Or.inr hb)]
  · rw [q.1 576 (by decide) (by decide) (by decide) (by decide), hx 576 (Or.inl rfl)]
  · rw [q.2.1 11 (by decide) (by decide), h69]
  · rw [q.2.1 12 (by decide) (by decide), h69]
/-! ===== one call: class and reference ===== -/
theorem CI.q {d d2 : mD} (h : CI d) (hc : ∀ b, b < 769 → ¬ (572 ≤ b ∧ b ≤ 577) → ¬ (580 ≤ b ∧ b ≤ 642) → d2 b = d b) (h7 : ∀ j, j = 7 ∨ j = 9 → d2 769 j = d 769 j) (hr : REq (d 770) (d2 770)) (hx : ∀ b, (b = 771 ∨ b = 772 ∨ b = 775 ∨ b = 776) → d2 b = d b) : CI d2 := by
  obtain ⟨i1, i2, i3, i4⟩ := h
  refine ⟨(i1.row hr).fr (fun b x y => hc b (by omega) (by omega) (by omega)), i2.fr (fun b x y => hc b (by omega) (by omega) (by omega)) (h7 7 (Or.inl rfl)) (fun j _ _ => by rw [hx 771 (Or.inl rfl)]), i3.fr (fun b hb => ?_), i4.fr (by rw [hc 578 (by decide) (by decide) (by decide)]) (hc 579 (by decide) (by decide) (by decide)) (h7 9 (Or.inr rfl)) (hx 776 (by decide))⟩
  rcases hb with hb | hb | hb | hb
  · exact hc b (by omega) (by omega) (by omega)
  · exact hc b (by omega) (by omega) (by omega)
  · exact hx b (by omega)
  · exact hx b (by omega)
def QC (d d1 : mD) : Prop := ∀ b, ¬ (572 ≤ b ∧ b ≤ 577) → ¬ (580 ≤ b ∧ b ≤ 642) → ¬ b = 778 → d1 b = d b
theorem CI.qr {d d1 d2 : mD} (h : CI d) (hc : QC d d1) (hq : QR d1 d2) : CI d2 := by
  refine h.q (fun b x y z => ?_) (fun j hj => ?_) (fun i x y => ?_) (fun b hb => ?_)
  · rw [hq.1 b (by omega) (by omega) (by omega) (by omega), hc b y z (by omega)]
  · rw [hq.2.1 j (by omega) (by omega), hc 769 (by decide) (by decide) (by decide)]
  · rw [hq.2.2 i x y, hc 770 (by decide) (by decide) (by decide)]
  · rw [hq.1 b (by omega) (by omega) (by omega) (by omega), hc b (by omega) (by omega) (by omega)]
theorem CI.change {d c2 D r' d2 : mD} (h : CI d) (hc : ∀ b, (b < 1 ∨ 63 < b) → c2 b = g_2 64 1 d b) (hD : ∀ b, ¬ b = 778 → D b = c2 b) (hk : KeepW (mset D 769 0 0) r') (hd : ∀ b, ¬ b = 770 → d2 b = r' b) (ok : OKR 1 c2 (d2 770)) : CI d2 ∧ d2 769 0 = 0 := by
  obtain ⟨i1, i2, i3, i4⟩ := h
  obtain ⟨k1, k2, -, -⟩ := keepC i2.1 i1
  obtain ⟨w1, w2, w3⟩ := id hk
  have hn := i2.1
  have G : ∀ b, 569 < b → g_2 64 1 d b = d b := fun b hb => k2 b (by omega) (by omega)
  have Db : ∀ b, 63 < b → ¬ b = 778 → D b = g_2 64 1 d b := fun b x y => by rw [hD b y, hc b (by omega)]
  have Dc : ∀ b, 569 < b → ¬ b = 778 → D b = d b := fun b x y => by rw [Db b (by omega) y, G b x]
  have rb : ∀ b, ¬ b = 769 → ¬ b = 770 → ¬ b = 771 → d2 b = D b := fun b x y z => by
    rw [hd b y, w1 b x z]
    funext j
    exact ms_a x
  have r9 : ∀ j, ¬ j = 7 → ¬ j = 0 → d2 769 j = d 769 j := fun j x y => by rw [hd 769 (by decide), w2 j x, ms_i y, Dc 769 (by decide) (by decide)]
  refine ⟨⟨ok.fr (fun b x y => by rw [rb b (by omega) (by omega) (by omega), hD b (by omega)]), ?_, ?_, ?_⟩, ?_⟩
  · refine keepH i2 i1 (fun b x y => by rw [rb b (by omega) (by omega) (by omega), Db b (by omega) (by omega)]) hk ?_ ?_ ?_ ?_ (hd 771 (by decide))
    · rw [ms_i (by decide), Dc 769 (by decide) (by decide)]
    · rw [← Dc 770 (by decide) (by decide)]
      funext j
      exact ms_a (by decide)
    · rw [← Dc 771 (by decide) (by decide)]
      funext j
      exact ms_a (by decide)
    · rw [hd 769 (by decide)]
  · refine i3.fr (fun b hb => ?_)
    rw [rb b (by omega) (by omega) (by omega), Dc b (by omega) (by omega)]
  · refine i4.fr ?_ ?_ (r9 9 (by decide) (by decide)) ?_
    · rw [rb 578 (by decide) (by decide) (by decide), Dc 578 (by decide) (by decide)]
    · rw [rb 579 (by decide) (by decide) (by decide), Dc 579 (by decide) (by decide)]
    · rw [rb 776 (by decide) (by decide) (by decide), Dc 776 (by decide) (by decide)]
  · rw [hd 769 (by decide), w2 0 (by decide), ms_e rfl rfl]
def toks : List (Nat × Int) := [(0, 64), (2, 576), (3, 3), (4, 11), (5, 577), (6, 1), (6, 580), (7, 578), (8, 50), (9, 58), (10, 0), (11, 769), (30, 778)]
def TKL (E : mO × tW) : Prop := EOK E ∧ W55 E ∧ ∀ p, p ∈ toks → tokV E.2 (.inr p)
theorem TKL.t {E : mO × tW} (h : TKL E) (k : Nat) (a : Int) (hm : (k, a) ∈ toks) : tokV E.2 (.inr (k, a)) := h.2.2 _ hm
theorem TKL.k {E : mO × tW} (h : TKL E) : TKE E := ⟨h.2.1, h.t 2 576 (by decide), h.t 5 577 (by decide), h.t 6 580 (by decide)⟩
def Inv (E : mO × tW) (d : mD) : Prop := Safe d ∧ tSh E.2 d ∧ CI d
def inI (x : Int) : Prop := -2147483648 ≤ x ∧ x ≤ 2147483647
theorem inI.of {x : Int} (h : -100000 ≤ x ∧ x ≤ 100000) : inI x := ⟨by omega, by omega⟩
def OPR (d d1 d2 : mD) (v vr : Int) : Prop := CI d2 ∧ d2 769 0 = v ∧ (v = 0 → d1 778 0 = vr ∧ inI vr) ∧ (RP d → RP d2)
theorem OPR.fail {d : mD} {c vr : Int} (h : CI d) (hc : ¬ c = 0) : OPR d d (mset d 769 0 c) c vr := ⟨h.qr (d1 := d) (fun _ _ _ _ => rfl) QR.s0, ms_e rfl rfl, fun z => absurd z hc, fun r => QR.s0.rp r rfl rfl (fun _ _ => rfl)⟩
theorem v236 {x : Int} {d : mD} : v_236 769 x d = if 0 ≤ x ∧ x < d 770 7 then 1 else 0 := by
  unfold v_236
  rw [v176, show (769 : Int) + 1 = 770 by decide]
  by_cases c : 0 ≤ x ∧ x < d 770 7
  · rw [if_pos c, if_pos (by omega)]
  · rw [if_neg c, if_neg (by omega)]
theorem v237 {x : Int} {d : mD} : v_237 769 x d = if 0 ≤ x ∧ x < d 770 8 then 1 else 0 := by
  unfold v_237
  rw [v176, show (769 : Int) + 1 = 770 by decide]
  by_cases c : 0 ≤ x ∧ x < d 770 8
  · rw [if_pos c, if_pos (by omega)]
  · rw [if_neg c, if_neg (by omega)]
theorem v238 {x : Int} {d : mD} : v_238 769 x d = if 0 ≤ x ∧ x < d 770 9 then 1 else 0 := by
  unfold v_238
  rw [v176, show (769 : Int) + 1 = 770 by decide]
  by_cases c : 0 ≤ x ∧ x < d 770 9
  · rw [if_pos c, if_pos (by omega)]
  · rw [if_neg c, if_neg (by omega)]
-- the history's copy on the class's side
theorem Inv.keep {E : mO × tW} {d : mD} (hT : TKL E) (h : Inv E d) : Safe (g_2 64 1 d) ∧ tSh E.2 (g_2 64 1 d) ∧ OKR 1 (g_2 64 1 d) (d 770) ∧ ∀ b, (b < 64 ∨ 569 < b) → g_2 64 1 d b = d b := by
  obtain ⟨hS, hh, hi⟩ := h
  have t : d 1 2 ≤ 999 := by
    have := hi.1.2.2.2.2.1.2.1
    have := hi.1.2.2.2.1
    omega
  obtain ⟨q1, q2, q3⟩ := p_2 (E := E) (x0 := 64) (x1 := 1) hS rfl (Or.inl rfl) t ⟨hT.t 0 64 (by decide), hT.t 6 1 (by decide), trivial⟩ hh
  have f : ∀ b, (b < 64 ∨ 569 < b) → g_2 64 1 d b = d b := fun b hb => q2 b (by omega)
  exact ⟨q3, q1, hi.1.fr (fun b x y => f b (by omega)), f⟩
theorem n641 : (0 : Int) + 64 = 64 := by decide
theorem n01 : (0 : Int) + 1 = 1 := by decide
theorem s1B : stB 1 := Or.inl rfl
theorem ifR {α : Type} {a n : Int} {x y : α} : (if a < 0 then y else if a < n then x else y) = if 0 ≤ a ∧ a < n then x else y := by
  by_cases c : 0 ≤ a ∧ a < n
  · rw [if_pos c, if_neg (by omega), if_pos c.2]
  · rw [if_neg c]
    by_cases z : a < 0
    · rw [if_pos z]
    · rw [if_neg z, if_neg (by omega)]
theorem rowK {E : mO × tW} {d U : mD} (hT : TKL E) (hI : Inv E d) (hU : ∀ b, (b < 1 ∨ 63 < b) → U b = g_2 64 1 d b) (v : Int) : mset U 778 0 v 770 = d 770 ∧ g_278 769 (mset (mset U 778 0 v) 769 0 0) 770 = d 770 := by
  obtain ⟨-, -, -, kf⟩ := hI.keep hT
  have r0 : mset U 778 0 v 770 = d 770 := by
    rw [← kf 770 (by decide), ← hU 770 (by decide)]
    funext j
    exact ms_a (by decide)
  refine ⟨r0, ?_⟩
  rw [(keep278 (d := mset (mset U 778 0 v) 769 0 0)).1 770 (by decide) (by decide), ← r0]
  funext j
  exact ms_a (by decide)
theorem OPR.ok {E : mO × tW} {d U d2 : mD} {W : Row} {v vr : Int} (hI : Inv E d) (hU : ∀ b, (b < 1 ∨ 63 < b) → U b = g_2 64 1 d b) (ok : OKR 1 U W) (hm : mwP (d 770) → mwP W) (h2 : d2 = rset (g_278 769 (mset (mset U 778 0 v) 769 0 0)) W) (hv : v = vr) (hr : -100000 ≤ v ∧ v ≤ 100000) : OPR d (mset U 778 0 v) d2 0 vr := by
  have ch := hI.2.2.change (c2 := U) (D := mset U 778 0 v) (r' := g_278 769 (mset (mset U 778 0 v) 769 0 0)) (d2 := d2) hU (fun b hb => by funext j; exact ms_a hb) keep278 (fun b hb => by rw [h2]; exact rset_ne hb) (by rw [h2, rset_at]; exact ok)
  refine ⟨ch.1, ch.2, fun _ => ⟨by rw [ms_e rfl rfl]; exact hv, by rw [← hv]; exact inI.of hr⟩, fun r => ?_⟩
  obtain ⟨i1, i2, -, -⟩ := hI.2.2
  obtain ⟨-, k2, -, -⟩ := keepC i2.1 i1
  have hn := i2.1
  have hc := i2.2.1
  have hc7 := i2.2.2.1
  have Dd : ∀ b, 569 < b → ¬ b = 769 → ¬ b = 778 → mset (mset U 778 0 v) 769 0 0 b = d b := fun b x y z => by
    rw [← k2 b (by omega) (by omega), ← hU b (by omega)]
    funext j
    rw [ms_a y, ms_a z]
  have kw := keep278 (d := mset (mset U 778 0 v) 769 0 0)
  have d9 : mset (mset U 778 0 v) 769 0 0 769 7 = d 769 7 := by rw [ms_i (by decide), ms_a (by decide), hU 769 (by decide), k2 769 (by decide) (by omega)]
  have rn : ∀ b, ¬ b = 770 → d2 b = g_278 769 (mset (mset U 778 0 v) 769 0 0) b := fun b hb => by rw [h2]; exact rset_ne hb
  have e9 : ∀ j, ¬ j = 0 → ¬ j = 7 → d2 769 j = d 769 j := fun j x y => by rw [rn 769 (by decide), kw.2.1 j y, ms_i x, ms_a (by decide), hU 769 (by decide), k2 769 (by decide) (by omega)]
  refine ⟨r.1.keep (by omega) kw d9 (Dd 770 (by decide) (by decide) (by decide)) (Dd 771 (by decide) (by decide) (by decide)) (by rw [rn 769 (by decide)]) (rn 771 (by decide)) ?_ ?_ (by rw [h2, rset_at]; exact hm r.1.1), r.2.of ?_ (e9 11 (by decide) (by decide)) (e9 12 (by decide) (by decide))⟩
  · rw [rn 772 (by decide), kw.1 772 (by decide) (by decide), Dd 772 (by decide) (by decide) (by decide)]
  · rw [rn 775 (by decide), kw.1 775 (by decide) (by decide), Dd 775 (by decide) (by decide) (by decide)]
  · rw [rn 576 (by decide), kw.1 576 (by decide) (by decide), Dd 576 (by decide) (by decide) (by decide)]
/-! ===== join ===== -/
theorem opJoin {E : mO × tW} {d : mD} {a b : Int} (hT : TKL E) (hI : Inv E d) : OPR d (g_326 0 a b 778 d) (g_279 769 a b (g_326 0 a b 778 d)) (v_326 0 a b 778 d) (v_279 769 a b (g_326 0 a b 778 d)) := by
  obtain ⟨hS, hh, hi⟩ := id hI
  have hk := hi.1
  obtain ⟨hg, hw, hp, ht, hr⟩ := id hk
  have o7 : d 3 0 = d 770 7 := hr.2.1.1
  have o8 : d 11 0 = d 770 8 := hr.2.2.2.1.1
  have n7 := hg.1.1
  have n8 := hg.1.2.1
  unfold v_326 g_326
  rw [n641, n01, show (1 : Int) + 10 = 11 by decide, show (1 : Int) + 2 = 3 by decide, o7, o8, ifR, ifR, ifR, ifR]
  by_cases c1 : 0 ≤ a ∧ a < d 770 8
  · rw [if_pos c1, if_pos c1]
    by_cases c2 : 0 ≤ b ∧ b < d 770 7
    · rw [if_pos c2, if_pos c2]
      obtain ⟨q1, q2, q3⟩ := canQ (p := a) hg hr c2
      rw [q1]
      by_cases c3 : V_225 a b (d 770) = 0
      · rw [if_pos c3, if_pos c3]
        have e : g_279 769 a b d = mset d 769 0 2 := by
          unfold g_279
          rw [v237, if_pos c1, if_neg (by decide), v236, if_pos c2, if_neg (by decide), m_v_225, if_pos c3]
        rw [e]
        exact OPR.fail hi (by decide)
      · rw [if_neg c3, if_neg c3]
        obtain ⟨kS, kh, kk, kf⟩ := hI.keep hT
        have cj := q3.1 (by omega)
        obtain ⟨j0, j1, j2⟩ := join hg kk.2.2.2.2 c2 c1 cj
        have xr := joinX (p := a) hg c2 cj.1
        obtain ⟨x1, x2⟩ := xr.1 hw hp
        have e49 : g_2 64 1 d (1 + 49) 0 ≤ 59 := by
          rw [kf (1 + 49) (by decide), show (1 : Int) + 49 = 50 by decide]
          have : d 50 0 = d 770 9 := hr.2.2.2.2.1.1
          have := cj.1
          omega
        have e2 : g_2 64 1 d 1 2 ≤ 999 := by
          rw [kf 1 (by decide)]
          have := hr.1.2.1
          omega
        obtain ⟨-, fv, f1, -⟩ := p_61 (E := E) (x0 := 1) (x1 := a) (x2 := b) kS s1B (by omega) (by omega) e49 e2 ⟨hT.t 6 1 (by decide), trivial, trivial, trivial⟩ kh
        have hU : ∀ k, (k < 1 ∨ 63 < k) → g_61 1 a b (g_2 64 1 d) k = g_2 64 1 d k := fun k hk => f1 k (by omega)
        obtain ⟨r0, r1⟩ := rowK hT hI hU (v_61 1 a b (g_2 64 1 d))
        refine OPR.ok hI hU (W := W_226 a b (d 770)) ⟨j1, x1, x2, by rw [xr.2]; exact ht, j2⟩ (fun m => ?_) ?_ ?_ (by omega)
        · have n9 := hg.1.2.2.1
          have go := (hg.2.1 b c2.1 c2.2).2.2.2.2.1
          have e := mw_226 (x0 := 769) (x1 := a) (x2 := b) hS rfl (by omega) n9.2 (Int.le_trans go.2 (by decide)) m
          rw [show (769 : Int) + 1 = 770 by decide] at e
          rw [m_g_226, rset_at] at e
          exact e
        · unfold g_279
          rw [v237, v236, m_v_225, r0, if_pos c1, if_neg (by decide), if_pos c2, if_neg (by decide), if_neg c3, m_g_226, r1]
        · unfold v_279
          rw [v237, v236, m_v_225, r0, if_pos c1, if_neg (by decide), if_pos c2, if_neg (by decide), if_neg c3, m_v_226, r1]
          exact j0
    · rw [if_neg c2, if_neg c2]
      have e : g_279 769 a b d = mset d 769 0 1 := by
        unfold g_279
        rw [v237, if_pos c1, if_neg (by decide), v236, if_neg c2, if_pos rfl]
      rw [e]
      exact OPR.fail hi (by decide)
  · rw [if_neg c1, if_neg c1]
    have e : g_279 769 a b d = mset d 769 0 1 := by
      unfold g_279
      rw [v237, if_neg c1, if_pos rfl]
    rw [e]
    exact OPR.fail hi (by decide)
/-! ===== leave ===== -/
theorem mpI {w : Row} (hg : GG w) : mpP w := fun o a b => (hg.2.1 o a b).2.1.1
theorem n49 : (1 : Int) + 49 = 50 := by decide
theorem opLeave {E : mO × tW} {d : mD} {t : Int} (hT : TKL E) (hI : Inv E d) : OPR d (g_327 0 t 778 d) (g_280 769 t (g_327 0 t 778 d)) (v_327 0 t 778 d) (v_280 769 t (g_327 0 t 778 d)) := by
  obtain ⟨hS, hh, hi⟩ := id hI
  have hk := hi.1
  obtain ⟨hg, hw, hp, ht, hr⟩ := id hk
  have o9 : d 50 0 = d 770 9 := hr.2.2.2.2.1.1
  have n9 := hg.1.2.2.1
  unfold v_327 g_327
  rw [n641, n01, n49, show (50 : Int) + 5 = 55 by decide, show (1 : Int) + 2 = 3 by decide, show (50 : Int) + 2 = 52 by decide, show (50 : Int) + 3 = 53 by decide, o9, ifR, ifR]
  by_cases c1 : 0 ≤ t ∧ t < d 770 9
  · rw [if_pos c1, if_pos c1]
    obtain ⟨u1, u2, u3, u4, u5⟩ := hr.2.2.2.2.1.2 t c1.1 c1.2
    have u5 : d 55 t = d 770 (452 + 24 * t + 4) := u5
    have u2 : d 52 t = d 770 (452 + 24 * t + 1) := u2
    have u3 : d 53 t = d 770 (452 + 24 * t + 2) := u3
    rw [u5, u2, u3]
    by_cases c2 : d 770 (452 + 24 * t + 4) = 0
    · rw [if_pos c2, if_pos c2]
      obtain ⟨kS, kh, kk, kf⟩ := hI.keep hT
      have gt := hg.2.2.2.1 t c1.1 c1.2
      obtain ⟨p1, p2, p3, p4⟩ := placeIn hg kk.2.2.2.2 c1 c2
      have p1 : v_39 3 (d 770 (452 + 24 * t + 1)) t (g_2 64 1 d) = V_221 t (d 770) := p1
      obtain ⟨j1, j2⟩ := leave hg kk.2.2.2.2 c1 c2
      have j2 : Rel 1 (mset (mset (g_41 3 (d 770 (452 + 24 * t + 1)) (V_221 t (d 770)) (g_2 64 1 d)) 55 t 2) 54 t (d 770 0)) _ := j2
      have go := hg.2.1 _ gt.2.1.1 gt.2.1.2
      have xr := leaveX (p := V_221 t (d 770)) hg c1 ⟨p2, by omega⟩
      obtain ⟨x1, x2⟩ := xr.1 hw hp
      have tm : d 1 2 = d 770 0 := hr.1.2.1
      have n7 := hg.1.1
      have tk := take220 (o := d 770 (452 + 24 * t + 1)) (w := d 770) p2 (by omega) (by omega)
      obtain ⟨-, f1, -⟩ := p_41 (E := E) (x0 := 3) (x1 := d 770 (452 + 24 * t + 1)) (x2 := V_221 t (d 770)) kS s1B (by omega) (by omega) ⟨hT.t 3 3 (by decide), trivial, trivial, trivial⟩ kh
      have eU : g_97 50 t 2 (d 1 2) (g_41 3 (d 770 (452 + 24 * t + 1)) (v_39 3 (d 770 (452 + 24 * t + 1)) t (g_2 64 1 d)) (g_2 64 1 d)) = mset (mset (g_41 3 (d 770 (452 + 24 * t + 1)) (V_221 t (d 770)) (g_2 64 1 d)) 55 t 2) 54 t (d 770 0) := by
        rw [p1, tm]
        rfl
      rw [eU]
      have hU : ∀ k, (k < 1 ∨ 63 < k) → mset (mset (g_41 3 (d 770 (452 + 24 * t + 1)) (V_221 t (d 770)) (g_2 64 1 d)) 55 t 2) 54 t (d 770 0) k = g_2 64 1 d k := fun k hk => by
        rw [← f1 k (by omega)]
        funext j
        rw [ms_a (by omega), ms_a (by omega)]
      obtain ⟨r0, r1⟩ := rowK hT hI hU (d 1 2 - d 770 (452 + 24 * t + 2))
      have n0 := hg.1.2.2.2.2.2.1
      refine OPR.ok hI hU ⟨j1, x1, x2, by rw [xr.2]; exact ht, j2⟩ (fun m => ?_) ?_ ?_ (by have := gt.2.2.1; omega)
      · refine m.fr (fun u u0 u1 => ?_)
        have t1 := tk.2.2 (452 + 24 * u + 6) (by omega) (by omega)
        have t2 := tk.2.2 (452 + 24 * u + 7) (by omega) (by omega)
        exact ⟨by rw [wsn (by omega), wsn (by omega), t1], by rw [wsn (by omega), wsn (by omega), t2]⟩
      · unfold g_280
        rw [v238, show (769 : Int) + 1 = 770 by decide, r0, if_pos c1, if_neg (by decide), if_pos c2, m_v_221, m_g_220, r1]
        simp only [mset_row, rset_at, rset_rset]
        rw [show W_220 (d 770 (452 + 24 * t + 1)) (V_221 t (d 770)) (d 770) 0 = d 770 0 from tk.2.2 0 (by omega) (by omega)]
      · unfold v_280
        rw [v238, show (769 : Int) + 1 = 770 by decide, r0, if_pos c1, if_neg (by decide), if_pos c2, m_v_221, m_g_220, r1]
        simp only [rset_at]
        rw [show W_220 (d 770 (452 + 24 * t + 1)) (V_221 t (d 770)) (d 770) 0 = d 770 0 from tk.2.2 0 (by omega) (by omega), show W_220 (d 770 (452 + 24 * t + 1)) (V_221 t (d 770)) (d 770) (452 + 24 * t + 2) = d 770 (452 + 24 * t + 2) from tk.2.2 _ (by omega) (by omega), tm]
    · rw [if_neg c2, if_neg c2]
      have e : g_280 769 t d = mset d 769 0 2 := by
        unfold g_280
        rw [v238, show (769 : Int) + 1 = 770 by decide, if_pos c1, if_neg (by decide), if_neg c2]
      rw [e]
      exact OPR.fail hi (by decide)
  · rw [if_neg c1, if_neg c1]
    have e : g_280 769 t d = mset d 769 0 1 := by
      unfold g_280
      rw [v238, if_neg c1, if_pos rfl]
    rw [e]
    exact OPR.fail hi (by decide)
/-! ===== claim ===== -/
theorem opClaim {E : mO × tW} {d : mD} {t : Int} (hT : TKL E) (hI : Inv E d) : OPR d (g_329 0 t 778 d) (g_283 769 t (g_329 0 t 778 d)) (v_329 0 t 778 d) (v_283 769 t (g_329 0 t 778 d)) := by
  obtain ⟨hS, hh, hi⟩ := id hI
  have hk := hi.1
  obtain ⟨hg, hw, hp, ht, hr⟩ := id hk
  have o9 : d 50 0 = d 770 9 := hr.2.2.2.2.1.1
  have n9 := hg.1.2.2.1
  unfold v_329 g_329
  rw [n641, n01, n49, o9, ifR, ifR]
  by_cases c1 : 0 ≤ t ∧ t < d 770 9
  · rw [if_pos c1, if_pos c1]
    obtain ⟨q1, q2, q3⟩ := canClaim hg hr c1
    rw [q1]
    by_cases c2 : V_227 t (d 770) = 0
    · rw [if_pos c2, if_pos c2]
      have e : g_283 769 t d = mset d 769 0 2 := by
        unfold g_283
        rw [v238, if_pos c1, if_neg (by decide), m_v_227, if_pos c2]
      rw [e]
      exact OPR.fail hi (by decide)
    · rw [if_neg c2, if_neg c2]
      obtain ⟨kS, kh, kk, kf⟩ := hI.keep hT
      have cj := q3.1 (by omega)
      obtain ⟨j0, j1, j2, -⟩ := claim hg kk.2.2.2.2 c1 cj.1 cj.2 ht
      have xr := claimX hg c1
      obtain ⟨x1, x2⟩ := xr.1 hw hp
      obtain ⟨-, fv, f1, -⟩ := p_74 (E := E) (x0 := 1) (x1 := t) kS s1B (by omega) ⟨hT.t 6 1 (by decide), trivial, trivial⟩ kh
      have hU : ∀ k, (k < 1 ∨ 63 < k) → g_74 1 t (g_2 64 1 d) k = g_2 64 1 d k := fun k hk => f1 k (by omega)
      obtain ⟨r0, r1⟩ := rowK hT hI hU (v_74 1 t (g_2 64 1 d))
      refine OPR.ok hI hU (W := W_228 t (d 770)) ⟨j1, x1, x2, by rw [xr.2]; exact ht, j2⟩ (fun m => ?_) ?_ ?_ (by omega)
      · have e := (p_228 (E := E) (x0 := 769) (x1 := t) hS rfl (by omega) (mpI hg) m ⟨hT.t 11 769 (by decide), trivial, trivial⟩ hh).2.2.2.2.2.1
        rw [m_g_228, show (769 : Int) + 1 = 770 by decide, rset_at] at e
        exact e
      · unfold g_283
        rw [v238, m_v_227, r0, if_pos c1, if_neg (by decide), if_neg c2, m_g_228, r1]
      · unfold v_283
        rw [v238, m_v_227, r0, if_pos c1, if_neg (by decide), if_neg c2, m_v_228, r1]
        exact j0
  · rw [if_neg c1, if_neg c1]
    have e : g_283 769 t d = mset d 769 0 1 := by
      unfold g_283
      rw [v238, if_neg c1, if_pos rfl]
    rw [e]
    exact OPR.fail hi (by decide)
/-! ===== witness ===== -/
theorem opWit {E : mO × tW} {d : mD} {t p : Int} (hT : TKL E) (hI : Inv E d) : OPR d (g_330 0 t p 778 d) (g_284 769 t p (g_330 0 t p 778 d)) (v_330 0 t p 778 d) (v_284 769 t p (g_330 0 t p 778 d)) := by
  obtain ⟨hS, hh, hi⟩ := id hI
  have hk := hi.1
  obtain ⟨hg, hw, hp, ht, hr⟩ := id hk
  have o9 : d 50 0 = d 770 9 := hr.2.2.2.2.1.1
  have o8 : d 11 0 = d 770 8 := hr.2.2.2.1.1
  have n9 := hg.1.2.2.1
  have n8 := hg.1.2.1
  unfold v_330 g_330
  rw [n641, n01, n49, show (1 : Int) + 10 = 11 by decide, o9, o8, ifR, ifR, ifR, ifR]
  by_cases c1 : 0 ≤ t ∧ t < d 770 9
  · rw [if_pos c1, if_pos c1]
    by_cases c2 : 0 ≤ p ∧ p < d 770 8
    · rw [if_pos c2, if_pos c2]
      obtain ⟨q1, q2⟩ := hinder hg hr c1 c2
      rw [q1]
      by_cases c3 : V_234 t p (d 770) = 0
      · rw [if_pos c3, if_pos c3]
        have q4 := q2 c3
        obtain ⟨kS, kh, kk, kf⟩ := hI.keep hT
        obtain ⟨j0, j1, j2, -⟩ := attest hg kk.2.2.2.2 c1 c2 c3 ht
        have xr := attestX (p := p) hg c1 c2
        obtain ⟨x1, x2⟩ := xr.1 hw hp
        have w2 : g_2 64 1 d (1 + 10 + 4) p ≤ 2 := by
          rw [kf (1 + 10 + 4) (by decide)]
          rcases (p_77 (E := E) (x0 := 1) (x1 := t) (x2 := p) hS s1B (by omega) (by omega) ⟨hT.t 6 1 (by decide), trivial, trivial, trivial⟩ hh).2.2 with z | z
          · exact absurd (q1.trans c3) z
          · exact z
        obtain ⟨-, fv, f1, -⟩ := p_75 (E := E) (x0 := 1) (x1 := t) (x2 := p) kS s1B (by omega) (by omega) w2 ⟨hT.t 6 1 (by decide), trivial, trivial, trivial⟩ kh
        have hU : ∀ k, (k < 1 ∨ 63 < k) → g_75 1 t p (g_2 64 1 d) k = g_2 64 1 d k := fun k hk => f1 k (by omega)
        obtain ⟨r0, r1⟩ := rowK hT hI hU (v_75 1 t p (g_2 64 1 d))
        refine OPR.ok hI hU (W := W_235 t p (d 770)) ⟨j1, x1, x2, by rw [xr.2]; exact ht, j2⟩ (fun m => ?_) ?_ ?_ (by omega)
        · have e := (p_235 (E := E) (x0 := 769) (x1 := t) (x2 := p) hS rfl (by omega) (by omega) (mpI hg) m q4.2.1 ⟨hT.t 11 769 (by decide), trivial, trivial, trivial⟩ hh).2.2.2.2.2.1
          rw [m_g_235, show (769 : Int) + 1 = 770 by decide, rset_at] at e
          exact e
        · unfold g_284
          rw [v238, v237, m_v_234, r0, if_pos c1, if_neg (by decide), if_pos c2, if_neg (by decide), if_pos c3, m_g_235, r1]
        · unfold v_284
          rw [v238, v237, m_v_234, r0, if_pos c1, if_neg (by decide), if_pos c2, if_neg (by decide), if_pos c3, m_v_235, r1]
          exact j0
      · rw [if_neg c3, if_neg c3]
        have e : g_284 769 t p d = mset d 769 0 2 := by
          unfold g_284
          rw [v238, v237, m_v_234, if_pos c1, if_neg (by decide), if_pos c2, if_neg (by decide), if_neg c3]
        rw [e]
        exact OPR.fail hi (by decide)
    · rw [if_neg c2, if_neg c2]
      have e : g_284 769 t p d = mset d 769 0 1 := by
        unfold g_284
        rw [v238, v237, if_pos c1, if_neg (by decide), if_neg c2, if_pos rfl]
      rw [e]
      exact OPR.fail hi (by decide)
  · rw [if_neg c1, if_neg c1]
    have e : g_284 769 t p d = mset d 769 0 1 := by
      unfold g_284
      rw [v238, if_neg c1, if_pos rfl]
    rw [e]
    exact OPR.fail hi (by decide)
/-! ===== pass ===== -/
theorem v281 {w : Row} (h9 : 0 ≤ w 9 ∧ w 9 ≤ 60) : V_281 w = srvN w := by
  unfold V_281 srvN
  refine cnt0 (L := fun n a k => LP_281_4 n a k w) h9.1 (by omega) (fun n a k h => ?_) (fun n a k x y => ?_)
  · cases n with
    | zero =>
      show ST_281_4 _ a k w = a
      unfold ST_281_4
      rw [if_neg (by omega)]
    | succ n =>
      show ST_281_4 _ a k w = a
      unfold ST_281_4
      rw [if_neg (by omega)]
  · show ST_281_4 _ a k w = _
    unfold ST_281_4
    rw [if_pos y]
    split
    · rfl
    · rfl
theorem lp282 {x a : Int} : ∀ (n : Nat) (k : Int) (w : Row), x - k = (n : Int) → LP_282_59 x n a k w = (V_281 (hoursW n w) - a, hoursW n w) := by
  intro n
  induction n with
  | zero =>
    intro k w h
    show ST_282_59 x _ a k w = _
    unfold ST_282_59
    rw [if_neg (by omega)]
    rfl
  | succ n ih =>
    intro k w h
    show ST_282_59 x _ a k w = _
    unfold ST_282_59
    rw [if_pos (by omega), ih (k + 1) _ (by omega)]
    rfl
theorem if12 {α : Type} {n N : Int} {x y : α} : (if n < 1 then y else if N < n then y else x) = if 1 ≤ n ∧ n ≤ N then x else y := by
  by_cases c : 1 ≤ n ∧ n ≤ N
  · rw [if_pos c, if_neg (by omega), if_neg (by omega)]
  · rw [if_neg c]
    by_cases z : n < 1
    · rw [if_pos z]
    · rw [if_neg z, if_pos (by omega)]
theorem opPass {E : mO × tW} {d : mD} {n : Int} (hT : TKL E) (hI : Inv E d) : OPR d (g_328 0 n 778 d) (g_282 769 n (g_328 0 n 778 d)) (v_328 0 n 778 d) (v_282 769 n (g_328 0 n 778 d)) := by
  obtain ⟨hS, hh, hi⟩ := id hI
  have hk := hi.1
  obtain ⟨hg, hw, hp, ht, hr⟩ := id hk
  have tm : d 1 2 = d 770 0 := hr.1.2.1
  have n0 := hg.1.2.2.2.2.2.1
  unfold v_328 g_328
  rw [n641, n01, if12, if12]
  by_cases c1 : 1 ≤ n ∧ n ≤ 99
  · rw [if_pos c1, if_pos c1]
    have vc : v_67 1 n d = if (999 : Int) < d 770 0 + n then 0 else 1 := by
      unfold v_67
      rw [tm]
    by_cases c2 : (999 : Int) < d 770 0 + n
    · rw [if_pos c2] at vc
      rw [if_pos vc, if_pos vc]
      have e : g_282 769 n d = mset d 769 0 2 := by
        unfold g_282 f_282
        rw [v176, if_pos c1, if_neg (by decide), show (769 : Int) + 1 = 770 by decide, if_pos c2]
      rw [e]
      exact OPR.fail hi (by decide)
    · rw [if_neg c2] at vc
      have vc : ¬ v_67 1 n d = 0 := by omega
      rw [if_neg vc, if_neg vc]
      obtain ⟨kS, kh, kk, kf⟩ := hI.keep hT
      obtain ⟨j0, j1, j2, j3, j4, j5⟩ := passHours (s := 1) (N := n) (by omega) hg kk.2.2.2.2 (by omega)
      obtain ⟨x1, x2⟩ := j5 hw hp
      have tk : g_2 64 1 d 1 2 = d 770 0 := by rw [kf 1 (by decide), tm]
      obtain ⟨-, fv, f1, -⟩ := p_68 (E := E) (x0 := 1) (x1 := n) kS s1B (by omega) (by omega) (Or.inr (by omega)) ⟨hT.t 6 1 (by decide), trivial, trivial⟩ kh
      have hU : ∀ k, (k < 1 ∨ 63 < k) → g_68 1 n (g_2 64 1 d) k = g_2 64 1 d k := fun k hk => f1 k (by omega)
      obtain ⟨r0, r1⟩ := rowK hT hI hU (v_68 1 n (g_2 64 1 d))
      have e : f_282 769 n (mset (g_68 1 n (g_2 64 1 d)) 778 0 (v_68 1 n (g_2 64 1 d))) = (srvN (hoursW n.toNat (d 770)) - srvN (d 770), rset (g_278 769 (mset (mset (g_68 1 n (g_2 64 1 d)) 778 0 (v_68 1 n (g_2 64 1 d))) 769 0 0)) (hoursW n.toNat (d 770))) := by
        unfold f_282
        rw [v176, if_pos c1, if_neg (by decide), show (769 : Int) + 1 = 770 by decide, r0, if_neg c2, m_lp_282_59, m_v_281, r1, show n - 0 = n by omega, lp282 n.toNat 0 _ (by omega), v281 j1.1.2.2.1, v281 hg.1.2.2.1]
        rfl
      refine OPR.ok hI hU (W := hoursW n.toNat (d 770)) ⟨j1, x1, x2, by omega, j2⟩ (fun m => m.fr (fun u u0 u1 => ⟨j4 _ (Or.inr ⟨by omega, by omega, by omega⟩), j4 _ (Or.inr ⟨by omega, by omega, by omega⟩)⟩)) ?_ ?_ (by omega)
      · unfold g_282
        rw [e]
      · unfold v_282
        rw [e]
        exact j0
  · rw [if_neg c1, if_neg c1]
    have e : g_282 769 n d = mset d 769 0 1 := by
      unfold g_282 f_282
      rw [v176, if_neg c1, if_pos rfl]
    rw [e]
    exact OPR.fail hi (by decide)
/-! ===== give, offer ===== -/
theorem n57 : (1 : Int) + 57 = 58 := by decide
theorem lp285f {p o m0 : Int} : ∀ (n : Nat) (m k : Int) (w : Row), 0 ≤ k → ∀ i, i < 1916 → (LP_285_79 p o m0 n m k w).2 i = w i := by
  intro n
  induction n with
  | zero =>
    intro m k w h0 i hi
    show (ST_285_79 p o m0 _ m k w).2 i = w i
    unfold ST_285_79
    repeat' split
    all_goals first
      | rfl
      | exact wsn (by omega)
  | succ n ih =>
    intro m k w h0 i hi
    show (ST_285_79 p o m0 _ m k w).2 i = w i
    unfold ST_285_79
    repeat' split
    all_goals first
      | rfl
      | exact ih _ _ _ (by omega) i hi
      | exact (ih _ _ _ (by omega) i hi).trans (wsn (by omega))
theorem opGive {E : mO × tW} {d : mD} {a b n : Int} (hT : TKL E) (hI : Inv E d) : OPR d (g_331 0 a b n 778 d) (g_285 769 a b n (g_331 0 a b n 778 d)) (v_331 0 a b n 778 d) (v_285 769 a b n (g_331 0 a b n 778 d)) := by
  obtain ⟨hS, hh, hi⟩ := id hI
  have hk := hi.1
  obtain ⟨hg, hw, hp, ht, hr⟩ := id hk
  have o8 : d 11 0 = d 770 8 := hr.2.2.2.1.1
  have n8 := hg.1.2.1
  have n10 := hg.1.2.2.2.1
  unfold v_331 g_331
  rw [n641, n01, n57, show (1 : Int) + 10 = 11 by decide, o8, ifR, ifR, ifR, ifR, if12, if12]
  by_cases c1 : 0 ≤ a ∧ a < d 770 8
  · rw [if_pos c1, if_pos c1]
    by_cases c2 : 0 ≤ b ∧ b < d 770 8
    · rw [if_pos c2, if_pos c2]
      by_cases c3 : 1 ≤ n ∧ n ≤ 200
      · rw [if_pos c3, if_pos c3]
        by_cases c4 : a = b
        · rw [if_pos c4, if_pos c4]
          have e : g_285 769 a b n d = mset d 769 0 3 := by
            unfold g_285 f_285
            rw [v237, v237, v176, if_pos c1, if_neg (by decide), if_pos c2, if_neg (by decide), if_pos c3, if_neg (by decide), if_pos c4]
          rw [e]
          exact OPR.fail hi (by decide)
        · rw [if_neg c4, if_neg c4]
          have ow : v_111 58 a 0 d = V_245 a 0 (d 770) := owned hg hr
          rw [ow]
          by_cases c5 : V_245 a 0 (d 770) < n
          · rw [if_pos c5, if_pos c5]
            have e : g_285 769 a b n d = mset d 769 0 3 := by
              unfold g_285 f_285
              rw [v237, v237, v176, if_pos c1, if_neg (by decide), if_pos c2, if_neg (by decide), if_pos c3, if_neg (by decide), if_neg c4, m_v_245, if_pos c5]
            rw [e]
            exact OPR.fail hi (by decide)
          · rw [if_neg c5, if_neg c5]
            obtain ⟨kS, kh, kk, kf⟩ := hI.keep hT
            obtain ⟨w', j0, j1, j2, xr⟩ := giveLoop (s := 1) (p := a) (o := b) (m0 := n) (200 - 0 : Int).toNat (200 - 0 : Int).toNat n 0 (g_2 64 1 d) (d 770) (by decide) hg kk.2.2.2.2 c2 (by omega) (by omega)
            rw [n57] at j2
            have j2 : Rel 1 (g_114 58 a b n (g_2 64 1 d)) w' := j2
            obtain ⟨x1, x2⟩ := xr.1 hw hp
            obtain ⟨fh, f1, fS⟩ := p_114 (E := E) (x0 := 58) (x1 := a) (x2 := b) (x3 := n) kS s1B (by omega) (by omega) (by omega) ⟨hT.t 9 58 (by decide), trivial, trivial, trivial, trivial⟩ kh
            have hU : ∀ k, (k < 1 ∨ 63 < k) → g_114 58 a b n (g_2 64 1 d) k = g_2 64 1 d k := fun k hk => f1 k (by omega)
            obtain ⟨r0, r1⟩ := rowK hT hI hU (v_111 58 b 0 (g_114 58 a b n (g_2 64 1 d)))
            have ow2 : v_111 58 b 0 (g_114 58 a b n (g_2 64 1 d)) = V_245 b 0 w' := owned j1 j2
            have e : f_285 769 a b n (mset (g_114 58 a b n (g_2 64 1 d)) 778 0 (v_111 58 b 0 (g_114 58 a b n (g_2 64 1 d)))) = (V_245 b 0 w', rset (g_278 769 (mset (mset (g_114 58 a b n (g_2 64 1 d)) 778 0 (v_111 58 b 0 (g_114 58 a b n (g_2 64 1 d)))) 769 0 0)) w') := by
              unfold f_285
              rw [v237, v237, v176, r0, if_pos c1, if_neg (by decide), if_pos c2, if_neg (by decide), if_pos c3, if_neg (by decide), if_neg c4, m_v_245, r0, if_neg c5, m_lp_285_79, r1, j0]
              rfl
            refine OPR.ok hI hU (W := w') ⟨j1, x1, x2, by rw [xr.2]; exact ht, j2⟩ (fun m => m.fr (fun u u0 u1 => ?_)) ?_ ?_ (by have := (p_111 (E := E) (x0 := 58) (x1 := b) (x2 := 0) fS s1B ⟨by omega, by omega⟩ (by decide) ⟨hT.t 9 58 (by decide), trivial, trivial, trivial⟩ fh).2; omega)
            · have e := lp285f (p := a) (o := b) (m0 := n) (200 - 0 : Int).toNat n 0 (d 770) (by decide)
              rw [j0] at e
              exact ⟨e _ (by omega), e _ (by omega)⟩
            · unfold g_285
              rw [e]
            · unfold v_285
              rw [e]
              exact ow2
      · rw [if_neg c3, if_neg c3]
        have e : g_285 769 a b n d = mset d 769 0 2 := by
          unfold g_285 f_285
          rw [v237, v237, v176, if_pos c1, if_neg (by decide), if_pos c2, if_neg (by decide), if_neg c3, if_pos rfl]
        rw [e]
        exact OPR.fail hi (by decide)
    · rw [if_neg c2, if_neg c2]
      have e : g_285 769 a b n d = mset d 769 0 1 := by
        unfold g_285 f_285
        rw [v237, v237, if_pos c1, if_neg (by decide), if_neg c2, if_pos rfl]
      rw [e]
      exact OPR.fail hi (by decide)
  · rw [if_neg c1, if_neg c1]
    have e : g_285 769 a b n d = mset d 769 0 1 := by
      unfold g_285 f_285
      rw [v237, if_neg c1, if_pos rfl]
    rw [e]
    exact OPR.fail hi (by decide)
theorem offLoop2 {s p m0 : Int} : ∀ (nc nr : Nat) (m k : Int) (d : mD) (w : Row), 0 ≤ k → GG w → Rel s d w → w 10 - k ≤ (nc : Int) → w 10 - k ≤ (nr : Int) →
    ∃ w', LP_286_65 p m0 nr m k w = (V_219 w', W_219 w') ∧ GG w' ∧ Rel s (lp_115_5 (s + 57) p m0 nc m k d) w' ∧ XR w w' ∧ ∀ i, ¬ i = 11 → i < 1916 → w' i = w i := by
  intro nc
  induction nc with
  | zero =>
    intro nr m k d w h0 hg h h1 h2
    have k1 := h.2.2.2.2.2.2.1.1
    have e : lp_115_5 (s + 57) p m0 0 m k d = d := by
      show st_115_5 (s + 57) p m0 _ m k d = d
      unfold st_115_5
      rw [if_neg (by omega)]
    refine ⟨w, ?_, hg, by rw [e]; exact h, XR.refl, fun _ _ _ => rfl⟩
    cases nr with
    | zero =>
      show ST_286_65 p m0 _ m k w = _
      unfold ST_286_65
      rw [if_neg (by omega)]
    | succ nr =>
      show ST_286_65 p m0 _ m k w = _
      unfold ST_286_65
      rw [if_neg (by omega)]
  | succ nc ih =>
    intro nr m k d w h0 hg h h1 h2
    obtain ⟨k1, k2⟩ := h.2.2.2.2.2.2.1
    have r1 := h.2.2.2.2.2.2.2.1.1
    by_cases c1 : k < w 10
    · cases nr with
      | zero => omega
      | succ nr =>
        have g := k2 k h0 c1
        by_cases c2 : 0 < m
        · by_cases c5 : w 11 < 200
          · by_cases c3 : w (1916 + 5 * k + 0) = p
            · by_cases c4 : w (1916 + 5 * k + 3) = 0
              · obtain ⟨-, g', r'⟩ := offStep hg h ⟨h0, c1⟩ c4
                have e : lp_115_5 (s + 57) p m0 (nc + 1) m k d = lp_115_5 (s + 57) p m0 nc (m + -1) (k + 1) (mset (mset (mset d (s + 61) k 1) (s + 62) (w 11) k) (s + 57) 5 (w 11 + 1)) := by
                  show st_115_5 (s + 57) p m0 _ m k d = _
                  unfold st_115_5
                  rw [if_pos (by omega), if_pos c2, if_pos (by rw [r1]; exact c5), show s + 57 + 1 = s + 58 by omega, show s + 57 + 4 = s + 61 by omega, show s + 57 + 5 = s + 62 by omega, if_pos (by rw [g.1]; exact c3), if_pos (by rw [g.2.2.2]; exact c4), r1]
                have e2 : LP_286_65 p m0 (nr + 1) m k w = LP_286_65 p m0 nr (m + -1) (k + 1) (ws (ws (ws w ((1916 + (5 * k)) + 3) 1) (2916 + (w 11)) k) 11 ((w 11) + 1)) := by
                  show ST_286_65 p m0 _ m k w = _
                  unfold ST_286_65
                  rw [if_pos c1, if_pos c2, if_pos c3, if_pos c4]
                rw [e, e2]
                have n11 := hg.1.2.2.2.2.1
                have e10 : (ws (ws (ws w ((1916 + (5 * k)) + 3) 1) (2916 + (w 11)) k) 11 ((w 11) + 1)) 10 = w 10 := by
                  simp (disch := omega) only [wsn]
                obtain ⟨w', q1, q2, q3, q4, q5⟩ := ih nr (m + -1) (k + 1) _ _ (by omega) g' r' (by rw [e10]; omega) (by rw [e10]; omega)
                refine ⟨w', q1, q2, q3, XR.trans ?_ q4, fun i a b => (q5 i a b).trans (by simp (disch := omega) only [wsn])⟩
                have n8 := hg.1.2.1
                have n9 := hg.1.2.2.1
                have n10 := hg.1.2.2.2.1
                generalize hu : (ws (ws (ws w ((1916 + (5 * k)) + 3) 1) (2916 + (w 11)) k) 11 ((w 11) + 1)) = u at *
                have ue : ∀ i, ¬ i = 11 → ¬ i = 1916 + 5 * k + 3 → ¬ i = 2916 + w 11 → u i = w i := fun i a b c => by
                  rw [← hu]
                  simp (disch := omega) only [wsn]
                have u3 : u (1916 + 5 * k + 3) = 1 := by
                  rw [← hu]
                  simp (disch := omega) only [wsn, wse]
                refine ⟨GXI.keep hg.1.2.1 (ue 8 (by omega) (by omega) (by omega)) (ue 9 (by omega) (by omega) (by omega)) (fun t q a b x y => ue _ (by omega) (by omega) (by omega)) (fun p a b => ue _ (by omega) (by omega) (by omega)) (Int.le_of_eq (C2_of e10 (fun j a b => ?_)).symm), ue 0 (by omega) (by omega) (by omega)⟩
                by_cases z : j = k
                · rw [z, u3, c4]
                  exact ⟨fun y => absurd y (by decide), fun y => absurd y (by decide)⟩
                · rw [ue _ (by omega) (by omega) (by omega)]
              · have e : lp_115_5 (s + 57) p m0 (nc + 1) m k d = lp_115_5 (s + 57) p m0 nc m (k + 1) d := by
                  show st_115_5 (s + 57) p m0 _ m k d = _
                  unfold st_115_5
                  rw [if_pos (by omega), if_pos c2, if_pos (by rw [r1]; exact c5), show s + 57 + 1 = s + 58 by omega, show s + 57 + 4 = s + 61 by omega, if_pos (by rw [g.1]; exact c3), if_neg (by rw [g.2.2.2]; exact c4)]
                have e2 : LP_286_65 p m0 (nr + 1) m k w = LP_286_65 p m0 nr m (k + 1) w := by
                  show ST_286_65 p m0 _ m k w = _
                  unfold ST_286_65
                  rw [if_pos c1, if_pos c2, if_pos c3, if_neg c4]
                rw [e, e2]
                exact ih nr m (k + 1) d w (by omega) hg h (by omega) (by omega)
            · have e : lp_115_5 (s + 57) p m0 (nc + 1) m k d = lp_115_5 (s + 57) p m0 nc m (k + 1) d := by
                show st_115_5 (s + 57) p m0 _ m k d = _
                unfold st_115_5
                rw [if_pos (by omega), if_pos c2, if_pos (by rw [r1]; exact c5), show s + 57 + 1 = s + 58 by omega, if_neg (by rw [g.1]; exact c3)]
              have e2 : LP_286_65 p m0 (nr + 1) m k w = LP_286_65 p m0 nr m (k + 1) w := by
                show ST_286_65 p m0 _ m k w = _
                unfold ST_286_65
                rw [if_pos c1, if_pos c2, if_neg c3]
              rw [e, e2]
              exact ih nr m (k + 1) d w (by omega) hg h (by omega) (by omega)
          · have e : lp_115_5 (s + 57) p m0 (nc + 1) m k d = d := by
              show st_115_5 (s + 57) p m0 _ m k d = d
              unfold st_115_5
              rw [if_pos (by omega), if_pos c2, if_neg (by rw [r1]; exact c5)]
            refine ⟨w, offIdle (nr + 1) m k w (by omega) h0 (fun j a b z => ?_), hg, by rw [e]; exact h, XR.refl, fun _ _ _ => rfl⟩
            exact absurd (offStep hg h ⟨a, b⟩ z).1 c5
        · have e : lp_115_5 (s + 57) p m0 (nc + 1) m k d = d := by
            show st_115_5 (s + 57) p m0 _ m k d = d
            unfold st_115_5
            rw [if_pos (by omega), if_neg c2]
          refine ⟨w, ?_, hg, by rw [e]; exact h, XR.refl, fun _ _ _ => rfl⟩
          show ST_286_65 p m0 _ m k w = _
          unfold ST_286_65
          rw [if_pos c1, if_neg c2]
    · have e : lp_115_5 (s + 57) p m0 (nc + 1) m k d = d := by
        show st_115_5 (s + 57) p m0 _ m k d = d
        unfold st_115_5
        rw [if_neg (by omega)]
      refine ⟨w, ?_, hg, by rw [e]; exact h, XR.refl, fun _ _ _ => rfl⟩
      cases nr with
      | zero =>
        show ST_286_65 p m0 _ m k w = _
        unfold ST_286_65
        rw [if_neg (by omega)]
      | succ nr =>
        show ST_286_65 p m0 _ m k w = _
        unfold ST_286_65
        rw [if_neg (by omega)]
theorem opOffer {E : mO × tW} {d : mD} {a n : Int} (hT : TKL E) (hI : Inv E d) : OPR d (g_332 0 a n 778 d) (g_286 769 a n (g_332 0 a n 778 d)) (v_332 0 a n 778 d) (v_286 769 a n (g_332 0 a n 778 d)) := by
  obtain ⟨hS, hh, hi⟩ := id hI
  have hk := hi.1
  obtain ⟨hg, hw, hp, ht, hr⟩ := id hk
  have o8 : d 11 0 = d 770 8 := hr.2.2.2.1.1
  have n8 := hg.1.2.1
  have n10 := hg.1.2.2.2.1
  unfold v_332 g_332
  rw [n641, n01, n57, show (1 : Int) + 10 = 11 by decide, o8, ifR, ifR, if12, if12]
  by_cases c1 : 0 ≤ a ∧ a < d 770 8
  · rw [if_pos c1, if_pos c1]
    by_cases c3 : 1 ≤ n ∧ n ≤ 200
    · rw [if_pos c3, if_pos c3]
      have ow : v_111 58 a 0 d = V_245 a 0 (d 770) := owned hg hr
      rw [ow]
      by_cases c5 : V_245 a 0 (d 770) < n
      · rw [if_pos c5, if_pos c5]
        have e : g_286 769 a n d = mset d 769 0 3 := by
          unfold g_286 f_286
          rw [v237, v176, if_pos c1, if_neg (by decide), if_pos c3, if_neg (by decide), m_v_245, if_pos c5]
        rw [e]
        exact OPR.fail hi (by decide)
      · rw [if_neg c5, if_neg c5]
        obtain ⟨kS, kh, kk, kf⟩ := hI.keep hT
        obtain ⟨w', j0, j1, j2, xr, j6⟩ := offLoop2 (s := 1) (p := a) (m0 := n) (200 - 0 : Int).toNat (200 - 0 : Int).toNat n 0 (g_2 64 1 d) (d 770) (by decide) hg kk.2.2.2.2 (by omega) (by omega)
        rw [n57] at j2
        have j2 : Rel 1 (g_115 58 a n (g_2 64 1 d)) w' := j2
        obtain ⟨x1, x2⟩ := xr.1 hw hp
        obtain ⟨s0, s1, s2, s3⟩ := settle j1 j2
        have xr2 := settleX j1 j2
        obtain ⟨y1, y2⟩ := xr2.1 x1 x2
        obtain ⟨fh, f1, fS⟩ := p_115 (E := E) (x0 := 58) (x1 := a) (x2 := n) kS s1B (by omega) (by omega) ⟨hT.t 9 58 (by decide), trivial, trivial, trivial⟩ kh
        obtain ⟨-, fv, f2, -⟩ := p_82 (E := E) (x0 := 1) fS s1B ⟨hT.t 6 1 (by decide), trivial⟩ fh
        have hU : ∀ k, (k < 1 ∨ 63 < k) → g_82 1 (g_115 58 a n (g_2 64 1 d)) k = g_2 64 1 d k := fun k hk => by rw [f2 k (by omega), f1 k (by omega)]
        obtain ⟨r0, r1⟩ := rowK hT hI hU (v_82 1 (g_115 58 a n (g_2 64 1 d)))
        have e : f_286 769 a n (mset (g_82 1 (g_115 58 a n (g_2 64 1 d))) 778 0 (v_82 1 (g_115 58 a n (g_2 64 1 d)))) = (V_219 w', rset (g_278 769 (mset (mset (g_82 1 (g_115 58 a n (g_2 64 1 d))) 778 0 (v_82 1 (g_115 58 a n (g_2 64 1 d)))) 769 0 0)) (W_219 w')) := by
          unfold f_286
          rw [v237, v176, r0, if_pos c1, if_neg (by decide), if_pos c3, if_neg (by decide), m_v_245, r0, if_neg c5, m_lp_286_65, r1, j0]
          rfl
        refine OPR.ok hI hU (W := W_219 w') ⟨s1, y1, y2, by rw [xr2.2, xr.2]; exact ht, s2⟩ (fun m => ?_) ?_ ?_ (by omega)
        · exact m.fr (fun u u0 u1 => ⟨by rw [s3 _ (by omega) (by omega) (by omega) (by omega), j6 _ (by omega) (by omega)], by rw [s3 _ (by omega) (by omega) (by omega) (by omega), j6 _ (by omega) (by omega)]⟩)
        · unfold g_286
          rw [e]
        · unfold v_286
          rw [e]
          exact s0
    · rw [if_neg c3, if_neg c3]
      have e : g_286 769 a n d = mset d 769 0 2 := by
        unfold g_286 f_286
        rw [v237, v176, if_pos c1, if_neg (by decide), if_neg c3, if_pos rfl]
      rw [e]
      exact OPR.fail hi (by decide)
  · rw [if_neg c1, if_neg c1]
    have e : g_286 769 a n d = mset d 769 0 1 := by
      unfold g_286 f_286
      rw [v237, if_neg c1, if_pos rfl]
    rw [e]
    exact OPR.fail hi (by decide)
/-! ===== deposit ===== -/
theorem fr116 {m : Int} : ∀ (n : Nat) (x : Int) (d : mD) (b : Int), ¬ b = 58 → ¬ b = 63 → lp_116_2 58 m n x d b = d b := by
  intro n
  induction n with
  | zero =>
    intro x d b h1 h2
    show st_116_2 58 m _ x d b = d b
    unfold st_116_2
    split
    · funext j
      exact ms_a (by omega)
    · funext j
      exact ms_a h1
  | succ n ih =>
    intro x d b h1 h2
    show st_116_2 58 m _ x d b = d b
    unfold st_116_2
    split
    · rw [ih _ _ b h1 h2]
      funext j
      exact ms_a (by omega)
    · funext j
      exact ms_a h1
theorem fr82l : ∀ (n : Nat) (m y : Int) (d : mD) (b : Int), (b < 1 ∨ 63 < b) → (lp_82_9 1 n m y d).2 b = d b := by
  have g116 : ∀ (m : Int) (d : mD) (b : Int), (b < 1 ∨ 63 < b) → g_116 (1 + 57) m d b = d b := fun m d b hb => by
    rw [n57]
    exact fr116 _ _ _ b (by omega) (by omega)
  intro n
  induction n with
  | zero =>
    intro m y d b hb
    show (st_82_9 1 _ m y d).2 b = d b
    unfold st_82_9
    split
    · split
      · exact g116 _ _ b hb
      · funext j
        show mset _ _ _ _ b j = d b j
        rw [ms_a (by omega), ms_a (by omega), ms_a (by omega)]
    · exact g116 _ _ b hb
  | succ n ih =>
    intro m y d b hb
    show (st_82_9 1 _ m y d).2 b = d b
    unfold st_82_9
    split
    · split
      · exact g116 _ _ b hb
      · rw [ih _ _ _ b hb]
        funext j
        rw [ms_a (by omega), ms_a (by omega), ms_a (by omega)]
    · exact g116 _ _ b hb
theorem fr82 {d : mD} : ∀ b, (b < 1 ∨ 63 < b) → g_82 1 d b = d b := fun b hb => by
  unfold g_82 f_82
  exact fr82l _ _ _ _ b hb
theorem opDep {E : mO × tW} {d : mD} {n : Int} (hT : TKL E) (hI : Inv E d) : OPR d (g_333 0 n 778 d) (g_287 769 n (g_333 0 n 778 d)) (v_333 0 n 778 d) (v_287 769 n (g_333 0 n 778 d)) := by
  obtain ⟨hS, hh, hi⟩ := id hI
  have hk := hi.1
  obtain ⟨hg, hw, hp, ht, hr⟩ := id hk
  have fu : d 1 1 = d 770 1 := hr.1.1
  have n1 := hg.1.2.2.2.2.2.2.1
  unfold v_333 g_333
  rw [n641, n01, if12, if12, fu]
  by_cases c1 : 1 ≤ n ∧ n ≤ 9999
  · rw [if_pos c1, if_pos c1]
    by_cases c2 : (99999 : Int) < d 770 1 + n
    · rw [if_pos c2, if_pos c2]
      have e : g_287 769 n d = mset d 769 0 2 := by
        unfold g_287
        rw [v176, if_pos c1, if_neg (by decide), show (769 : Int) + 1 = 770 by decide, if_pos c2]
      rw [e]
      exact OPR.fail hi (by decide)
    · rw [if_neg c2, if_neg c2]
      obtain ⟨kS, kh, kk, kf⟩ := hI.keep hT
      obtain ⟨a1, a2⟩ := setFund (v := d 770 1 + n) hg kk.2.2.2.2 (by omega)
      have xa := wsX (i := 1) (v := d 770 1 + n) hg.1 (Or.inl (by decide))
      obtain ⟨w1, w2⟩ := xa.1 hw hp
      obtain ⟨s0, s1, s2, s3⟩ := settle a1 a2
      have xr := settleX a1 a2
      obtain ⟨y1, y2⟩ := xr.1 w1 w2
      have f2 : ∀ b, (b < 1 ∨ 63 < b) → g_82 1 (mset (g_2 64 1 d) 1 1 (d 770 1 + n)) b = mset (g_2 64 1 d) 1 1 (d 770 1 + n) b := fr82
      have hU : ∀ k, (k < 1 ∨ 63 < k) → g_82 1 (mset (g_2 64 1 d) 1 1 (d 770 1 + n)) k = g_2 64 1 d k := fun k hk => by
        rw [f2 k hk]
        funext j
        exact ms_a (by omega)
      obtain ⟨r0, r1⟩ := rowK hT hI hU (g_82 1 (mset (g_2 64 1 d) 1 1 (d 770 1 + n)) 1 1)
      refine OPR.ok hI hU (W := W_219 (ws (d 770) 1 (d 770 1 + n))) ⟨s1, y1, y2, by rw [xr.2, xa.2]; exact ht, s2⟩ (fun m => m.fr (fun u u0 u1 => ⟨by rw [s3 _ (by omega) (by omega) (by omega) (by omega), wsn (by omega)], by rw [s3 _ (by omega) (by omega) (by omega) (by omega), wsn (by omega)]⟩)) ?_ ?_ (by have a := s2.1.1; have b := s1.1.2.2.2.2.2.2.1; rw [a]; omega)
      · unfold g_287
        rw [v176, if_pos c1, if_neg (by decide), show (769 : Int) + 1 = 770 by decide, r0, if_neg c2, mset_row, r1, m_g_219, rset_rset, rset_at]
      · unfold v_287
        rw [v176, if_pos c1, if_neg (by decide), show (769 : Int) + 1 = 770 by decide, r0, if_neg c2, mset_row, r1, m_g_219, rset_at, rset_at]
        exact s2.1.1
  · rw [if_neg c1, if_neg c1]
    have e : g_287 769 n d = mset d 769 0 1 := by
      unfold g_287
      rw [v176, if_neg c1, if_pos rfl]
    rw [e]
    exact OPR.fail hi (by decide)
/-! ===== merge ===== -/
theorem pairLe {x y : Int} (a : x = y) (e : 0 ≤ y ∧ y ≤ 16) : -100000 ≤ x ∧ x ≤ 100000 := by omega
theorem opMerge {E : mO × tW} {d : mD} {a b : Int} (hT : TKL E) (hI : Inv E d) : OPR d (g_334 0 a b 778 d) (g_288 769 a b (g_334 0 a b 778 d)) (v_334 0 a b 778 d) (v_288 769 a b (g_334 0 a b 778 d)) := by
  obtain ⟨hS, hh, hi⟩ := id hI
  have hk := hi.1
  obtain ⟨hg, hw, hp, ht, hr⟩ := id hk
  have o7 : d 3 0 = d 770 7 := hr.2.1.1
  have n7 := hg.1.1
  unfold v_334 g_334
  rw [n641, n01, show (1 : Int) + 2 = 3 by decide, show (3 : Int) + 5 = 8 by decide, show (3 : Int) + 6 = 9 by decide, o7, ifR, ifR, ifR, ifR]
  by_cases c1 : 0 ≤ a ∧ a < d 770 7
  · rw [if_pos c1, if_pos c1]
    by_cases c2 : 0 ≤ b ∧ b < d 770 7
    · rw [if_pos c2, if_pos c2]
      have oa : d 8 a = d 770 (12 + 68 * a + 4) := (hr.2.1.2 a c1.1 c1.2).2.2.2.2.1
      have ob : d 8 b = d 770 (12 + 68 * b + 4) := (hr.2.1.2 b c2.1 c2.2).2.2.2.2.1
      rw [oa, ob]
      have v270 : ∀ D : mD, D 770 = d 770 → v_270 769 a b D = if a = b then 0 else if d 770 (12 + 68 * a + 4) = 0 then 0 else if d 770 (12 + 68 * b + 4) = 0 then 0 else 1 := fun D hD => by
        unfold v_270
        rw [show (769 : Int) + 1 = 770 by decide, hD]
      by_cases c3 : ¬ a = b ∧ ¬ d 770 (12 + 68 * a + 4) = 0 ∧ ¬ d 770 (12 + 68 * b + 4) = 0
      · obtain ⟨c3, c4, c5⟩ := c3
        rw [if_neg c3, if_neg c4, if_neg c5, if_neg c3, if_neg c4, if_neg c5]
        obtain ⟨kS, kh, kk, kf⟩ := hI.keep hT
        have oo : d 770 (12 + 68 * b + 4) = 1 := by
          rcases (hg.2.1 b c2.1 c2.2).2.2.2.1 with z | z
          · exact absurd z c5
          · exact z
        obtain ⟨j1, j2, j3⟩ := merge hg kk.2.2.2.2 c1 c2 c3 oo
        have xr := mergeX hg j3
        obtain ⟨x1, x2⟩ := xr.1 hw hp
        obtain ⟨-, f1, -⟩ := p_63 (E := E) (x0 := 1) (x1 := a) (x2 := b) kS s1B (by omega) (by omega) ⟨hT.t 6 1 (by decide), trivial, trivial, trivial⟩ kh
        have hU : ∀ k, (k < 1 ∨ 63 < k) → g_63 1 a b (g_2 64 1 d) k = g_2 64 1 d k := fun k hk => f1 k (by omega)
        obtain ⟨r0, r1⟩ := rowK hT hI hU (g_63 1 a b (g_2 64 1 d) 9 b)
        have w7 : W_229 a b (d 770) 7 = d 770 7 := j3 7 (by decide) (by decide)
        refine OPR.ok hI hU (W := W_229 a b (d 770)) ⟨j1, x1, x2, by rw [xr.2]; exact ht, j2⟩ (fun m => m.fr (fun u u0 u1 => ⟨j3 _ (by omega) (by omega), j3 _ (by omega) (by omega)⟩)) ?_ ?_ (by have a := (j2.2.1.2 b c2.1 (by omega)).2.2.2.2.2; have e := (j1.2.1 b c2.1 (by omega)).2.2.2.2.1; exact pairLe a e)
        · unfold g_288
          rw [v236, v236, v270 _ r0, r0, if_pos c1, if_neg (by decide), if_pos c2, if_neg (by decide), if_neg c3, if_neg c4, if_neg c5, if_neg (by decide), m_g_229, r1]
        · unfold v_288
          rw [v236, v236, v270 _ r0, r0, if_pos c1, if_neg (by decide), if_pos c2, if_neg (by decide), if_neg c3, if_neg c4, if_neg c5, if_neg (by decide), m_g_229, r1, show (769 : Int) + 1 = 770 by decide, rset_at]
          exact (j2.2.1.2 b c2.1 (by omega)).2.2.2.2.2
      · have ev : (if a = b then (2 : Int) else if d 770 (12 + 68 * a + 4) = 0 then 2 else if d 770 (12 + 68 * b + 4) = 0 then 2 else 0) = 2 := by
          by_cases z : a = b
          · rw [if_pos z]
          · rw [if_neg z]
            by_cases z2 : d 770 (12 + 68 * a + 4) = 0
            · rw [if_pos z2]
            · rw [if_neg z2]
              by_cases z3 : d 770 (12 + 68 * b + 4) = 0
              · rw [if_pos z3]
              · exact absurd ⟨z, z2, z3⟩ c3
        have eg : ∀ u : mD, (if a = b then d else if d 770 (12 + 68 * a + 4) = 0 then d else if d 770 (12 + 68 * b + 4) = 0 then d else u) = d := fun u => by
          by_cases z : a = b
          · rw [if_pos z]
          · rw [if_neg z]
            by_cases z2 : d 770 (12 + 68 * a + 4) = 0
            · rw [if_pos z2]
            · rw [if_neg z2]
              by_cases z3 : d 770 (12 + 68 * b + 4) = 0
              · rw [if_pos z3]
              · exact absurd ⟨z, z2, z3⟩ c3
        have er : (if a = b then (0 : Int) else if d 770 (12 + 68 * a + 4) = 0 then 0 else if d 770 (12 + 68 * b + 4) = 0 then 0 else 1) = 0 := by
          by_cases z : a = b
          · rw [if_pos z]
          · rw [if_neg z]
            by_cases z2 : d 770 (12 + 68 * a + 4) = 0
            · rw [if_pos z2]
            · rw [if_neg z2]
              by_cases z3 : d 770 (12 + 68 * b + 4) = 0
              · rw [if_pos z3]
              · exact absurd ⟨z, z2, z3⟩ c3
        rw [ev, eg]
        have e : g_288 769 a b d = mset d 769 0 2 := by
          unfold g_288
          rw [v236, v236, v270 d rfl, if_pos c1, if_neg (by decide), if_pos c2, if_neg (by decide), er, if_pos rfl]
        rw [e]
        exact OPR.fail hi (by decide)
    · rw [if_neg c2, if_neg c2]
      have e : g_288 769 a b d = mset d 769 0 1 := by
        unfold g_288
        rw [v236, v236, if_pos c1, if_neg (by decide), if_neg c2, if_pos rfl]
      rw [e]
      exact OPR.fail hi (by decide)
  · rw [if_neg c1, if_neg c1]
    have e : g_288 769 a b d = mset d 769 0 1 := by
      unfold g_288
      rw [v236, if_neg c1, if_pos rfl]
    rw [e]
    exact OPR.fail hi (by decide)
/-! ===== reopen ===== -/
theorem openCnt {d : mD} {w : Row} {x1 : Int} (hg : GG w) (h : Rel 1 d w) : ∀ (n : Nat) (a x : Int), 0 ≤ x → w 7 - x ≤ (n : Int) → (LP_289_64 x1 n a x w) = (lp_37_4 3 n a x d, w) := by
  have o7 : d 3 0 = w 7 := h.2.1.1
  intro n
  induction n with
  | zero =>
    intro a x h0 hn
    show ST_289_64 x1 _ a x w = (st_37_4 3 _ a x d, w)
    unfold ST_289_64 st_37_4
    rw [o7, if_neg (by omega), if_neg (by omega)]
  | succ n ih =>
    intro a x h0 hn
    show ST_289_64 x1 _ a x w = (st_37_4 3 _ a x d, w)
    unfold ST_289_64 st_37_4
    rw [o7, show (3 : Int) + 5 = 8 by decide]
    by_cases c : x < w 7
    · rw [if_pos c, if_pos c]
      have oa : d 8 x = w (12 + 68 * x + 4) := (h.2.1.2 x h0 c).2.2.2.2.1
      rw [oa]
      rcases (hg.2.1 x h0 c).2.2.2.1 with z | z
      · rw [z, if_pos rfl]
        exact ih _ _ (by omega) (by omega)
      · rw [z, if_neg (by decide)]
        exact ih _ _ (by omega) (by omega)
    · rw [if_neg c, if_neg c]
theorem b37 {d : mD} : ∀ (n : Nat) (a x : Int), 0 ≤ a → 0 ≤ lp_37_4 3 n a x d ∧ lp_37_4 3 n a x d ≤ a + n := by
  intro n
  induction n with
  | zero =>
    intro a x h
    show 0 ≤ st_37_4 3 _ a x d ∧ st_37_4 3 _ a x d ≤ _
    unfold st_37_4
    repeat' split
    · show 0 ≤ (0 : Int) ∧ (0 : Int) ≤ _
      omega
    · show 0 ≤ (0 : Int) ∧ (0 : Int) ≤ _
      omega
    · omega
  | succ n ih =>
    intro a x h
    show 0 ≤ st_37_4 3 _ a x d ∧ st_37_4 3 _ a x d ≤ _
    unfold st_37_4
    split
    · split
      · have := ih (a + 0) (x + 1) (by omega)
        omega
      · have := ih (a + 1) (x + 1) (by omega)
        omega
    · omega
theorem opOpen {E : mO × tW} {d : mD} {o : Int} (hT : TKL E) (hI : Inv E d) : OPR d (g_335 0 o 778 d) (g_289 769 o (g_335 0 o 778 d)) (v_335 0 o 778 d) (v_289 769 o (g_335 0 o 778 d)) := by
  obtain ⟨hS, hh, hi⟩ := id hI
  have hk := hi.1
  obtain ⟨hg, hw, hp, ht, hr⟩ := id hk
  have o7 : d 3 0 = d 770 7 := hr.2.1.1
  have n7 := hg.1.1
  unfold v_335 g_335
  rw [n641, n01, show (1 : Int) + 2 = 3 by decide, show (3 : Int) + 5 = 8 by decide, o7, ifR, ifR]
  by_cases c1 : 0 ≤ o ∧ o < d 770 7
  · rw [if_pos c1, if_pos c1]
    have oa : d 8 o = d 770 (12 + 68 * o + 4) := (hr.2.1.2 o c1.1 c1.2).2.2.2.2.1
    rw [oa]
    by_cases c2 : d 770 (12 + 68 * o + 4) = 0
    · rw [if_pos c2, if_pos c2]
      obtain ⟨kS, kh, kk, kf⟩ := hI.keep hT
      obtain ⟨j1, j2⟩ := setOpen hg kk.2.2.2.2 c1
      have j2 : Rel 1 (mset (g_2 64 1 d) 8 o 1) (ws (d 770) (12 + 68 * o + 4) 1) := j2
      have xr := wsX (i := 12 + 68 * o + 4) (v := 1) hg.1 (Or.inr (Or.inl (by omega)))
      obtain ⟨x1, x2⟩ := xr.1 hw hp
      have hU : ∀ k, (k < 1 ∨ 63 < k) → mset (g_2 64 1 d) 8 o 1 k = g_2 64 1 d k := fun k hk => by
        funext j
        exact ms_a (by omega)
      obtain ⟨r0, r1⟩ := rowK hT hI hU (v_37 3 (mset (g_2 64 1 d) 8 o 1))
      have n7' := j1.1.1
      have oc := openCnt (x1 := o) j1 j2 (6 - 0 : Int).toNat 0 0 (by decide) (by omega)
      have e : f_289 769 o (mset (mset (g_2 64 1 d) 8 o 1) 778 0 (v_37 3 (mset (g_2 64 1 d) 8 o 1))) = (v_37 3 (mset (g_2 64 1 d) 8 o 1), rset (g_278 769 (mset (mset (mset (g_2 64 1 d) 8 o 1) 778 0 (v_37 3 (mset (g_2 64 1 d) 8 o 1))) 769 0 0)) (ws (d 770) (12 + 68 * o + 4) 1)) := by
        unfold f_289
        rw [v236, show (769 : Int) + 1 = 770 by decide, r0, if_pos c1, if_neg (by decide), if_pos c2, mset_row, r1, m_lp_289_64, rset_at, oc]
        unfold pr
        rw [rset_rset]
        rfl
      refine OPR.ok hI hU (W := ws (d 770) (12 + 68 * o + 4) 1) ⟨j1, x1, x2, by rw [xr.2]; exact ht, j2⟩ (fun m => m.fr (fun u u0 u1 => ⟨wsn (by omega), wsn (by omega)⟩)) ?_ ?_ (by have := b37 (d := mset (g_2 64 1 d) 8 o 1) (6 - 0 : Int).toNat 0 0 (by decide); unfold v_37; omega)
      · unfold g_289
        rw [e]
      · unfold v_289
        rw [e]
    · rw [if_neg c2, if_neg c2]
      have e : g_289 769 o d = mset d 769 0 2 := by
        unfold g_289 f_289
        rw [v236, show (769 : Int) + 1 = 770 by decide, if_pos c1, if_neg (by decide), if_neg c2]
      rw [e]
      exact OPR.fail hi (by decide)
  · rw [if_neg c1, if_neg c1]
    have e : g_289 769 o d = mset d 769 0 1 := by
      unfold g_289 f_289
      rw [v236, if_neg c1, if_pos rfl]
    rw [e]
    exact OPR.fail hi (by decide)
/-! ===== set ===== -/
theorem olds_r {k : Int} (h : 0 ≤ k ∧ k < 5) : (k = 0 ∧ olds 0 k = 0 ∧ olds 1 k = 9) ∨ (k = 1 ∧ olds 0 k = 0 ∧ olds 1 k = 3) ∨ (k = 2 ∧ olds 0 k = 1 ∧ olds 1 k = 9) ∨ (k = 3 ∧ olds 0 k = 1 ∧ olds 1 k = 20) ∨ (k = 4 ∧ olds 0 k = 1 ∧ olds 1 k = 99) := by
  have : k = 0 ∨ k = 1 ∨ k = 2 ∨ k = 3 ∨ k = 4 := by omega
  rcases this with h | h | h | h | h <;> subst h <;> decide
theorem GN.set {w : Row} {k v : Int} (hg : GN w) (hk : 0 ≤ k ∧ k < 5) (hv : olds 0 k ≤ v ∧ v ≤ olds 1 k) : GN (ws w (2 + k) v) := by
  unfold GN at hg ⊢
  obtain ⟨h1, h2, h3, h4, h5, h6, h7, h8, h9, h10, h11, h12, h13⟩ := hg
  unfold ws
  rcases olds_r hk with ⟨z, a, b⟩ | ⟨z, a, b⟩ | ⟨z, a, b⟩ | ⟨z, a, b⟩ | ⟨z, a, b⟩ <;> subst z <;> rw [a, b] at hv <;> simp <;> omega
theorem oldB {d : mD} {w : Row} {k : Int} (hg : GG w) (h : Rel 1 d w) (hk : 0 ≤ k ∧ k < 5) : -100000 ≤ d 2 k ∧ d 2 k ≤ 100000 := by
  have e : d 2 k = w (2 + k) := h.1.2.2 k hk.1 hk.2
  obtain ⟨-, -, -, -, -, -, -, g2, g3, g4, g5, g6, g7⟩ := hg.1
  have : k = 0 ∨ k = 1 ∨ k = 2 ∨ k = 3 ∨ k = 4 := by omega
  rcases this with z | z | z | z | z
  · subst z
    have e : d 2 0 = w 2 := e
    omega
  · subst z
    have e : d 2 1 = w 3 := e
    omega
  · subst z
    have e : d 2 2 = w 4 := e
    omega
  · subst z
    have e : d 2 3 = w 5 := e
    omega
  · subst z
    have e : d 2 4 = w 6 := e
    omega
theorem opSet {E : mO × tW} {d : mD} {k v : Int} (hT : TKL E) (hI : Inv E d) : OPR d (g_337 0 k v 778 d) (g_293 769 k v (g_337 0 k v 778 d)) (v_337 0 k v 778 d) (v_293 769 k v (g_337 0 k v 778 d)) := by
  obtain ⟨hS, hh, hi⟩ := id hI
  have hk := hi.1
  obtain ⟨hg, hw, hp, ht, hr⟩ := id hk
  unfold v_337 g_337
  rw [n641, n01, show (1 : Int) + 1 = 2 by decide, ifR, ifR]
  have v04 : ∀ D, v_176 k 0 4 D = if 0 ≤ k ∧ k < 5 then 1 else 0 := fun D => by
    rw [v176]
    by_cases c : 0 ≤ k ∧ k < 5
    · rw [if_pos c, if_pos (by omega)]
    · rw [if_neg c, if_neg (by omega)]
  by_cases c1 : 0 ≤ k ∧ k < 5
  · rw [if_pos c1, if_pos c1]
    by_cases c2 : olds 0 k ≤ v ∧ v ≤ olds 1 k
    · rw [if_neg (by omega), if_neg (by omega), if_neg (by omega), if_neg (by omega)]
      obtain ⟨kS, kh, kk, kf⟩ := hI.keep hT
      obtain ⟨j1, j2⟩ := setSet hg kk.2.2.2.2 c1 (hg.1.set c1 c2)
      have j2 : Rel 1 (mset (g_2 64 1 d) 2 k v) (ws (d 770) (2 + k) v) := j2
      have xr := wsX (i := 2 + k) (v := v) hg.1 (Or.inl (by omega))
      obtain ⟨x1, x2⟩ := xr.1 hw hp
      have hU : ∀ i, (i < 1 ∨ 63 < i) → mset (g_2 64 1 d) 2 k v i = g_2 64 1 d i := fun i hi => by
        funext j
        exact ms_a (by omega)
      obtain ⟨r0, r1⟩ := rowK hT hI hU (d 2 k)
      refine OPR.ok hI hU (W := ws (d 770) (2 + k) v) ⟨j1, x1, x2, by rw [xr.2]; exact ht, j2⟩ (fun m => m.fr (fun u u0 u1 => ⟨wsn (by omega), wsn (by omega)⟩)) ?_ ?_ (oldB hg hr c1)
      · unfold g_293
        rw [v04, if_pos c1, if_neg (by decide), old0 c1, old1 c1, v176, if_pos c2, if_neg (by decide), show (769 : Int) + 1 = 770 by decide, mset_row, r1]
      · unfold v_293
        rw [v04, if_pos c1, if_neg (by decide), old0 c1, old1 c1, v176, if_pos c2, if_neg (by decide), show (769 : Int) + 1 = 770 by decide, r0]
        exact hr.1.2.2 k c1.1 c1.2
    · have ev : (if v < olds 0 k then (1 : Int) else if olds 1 k < v then 1 else 0) = 1 := by
        by_cases z : v < olds 0 k
        · rw [if_pos z]
        · rw [if_neg z, if_pos (by omega)]
      have eg : ∀ u : mD, (if v < olds 0 k then d else if olds 1 k < v then d else u) = d := fun u => by
        by_cases z : v < olds 0 k
        · rw [if_pos z]
        · rw [if_neg z, if_pos (by omega)]
      rw [ev, eg]
      have e : g_293 769 k v d = mset d 769 0 1 := by
        unfold g_293
        rw [v04, if_pos c1, if_neg (by decide), old0 c1, old1 c1, v176, if_neg c2, if_pos rfl]
      rw [e]
      exact OPR.fail hi (by decide)
  · rw [if_neg c1, if_neg c1]
    have e : g_293 769 k v d = mset d 769 0 1 := by
      unfold g_293
      rw [v04, if_neg c1, if_pos rfl]
    rw [e]
    exact OPR.fail hi (by decide)
