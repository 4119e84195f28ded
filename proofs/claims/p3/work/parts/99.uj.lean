/-! ===== what the reference's queries leave alone: printed by a program of mine ===== -/
def QF (d d' : mD) : Prop := (∀ b, ¬ b = 769 → ¬ b = 777 → d' b = d b) ∧ ∀ j, ¬ j = 0 → ¬ j = 18 → d' 769 j = d 769 j
theorem QF.refl {d : mD} : QF d d := ⟨fun _ _ _ => rfl, fun _ _ _ => rfl⟩
theorem QF.trans {a b c : mD} (h : QF a b) (g : QF b c) : QF a c := ⟨fun k x y => (g.1 k x y).trans (h.1 k x y), fun k x y => (g.2 k x y).trans (h.2 k x y)⟩
theorem QF.s0 {d : mD} {v : Int} : QF d (mset d 769 0 v) := ⟨fun b x _ => by funext j; exact ms_a x, fun j x _ => ms_i x⟩
theorem QF.ite {d : mD} {c : Prop} [Decidable c] {a b : Int × mD} (h1 : QF d a.2) (h2 : QF d b.2) : QF d (if c then a else b).2 := by split <;> assumption
theorem QF.ite1 {d : mD} {c : Prop} [Decidable c] {a b : mD} (h1 : QF d a) (h2 : QF d b) : QF d (if c then a else b) := by split <;> assumption
theorem QF.s18 {d : mD} {v : Int} : QF d (mset d 769 18 v) := ⟨fun b x _ => by funext j; exact ms_a x, fun j _ x => ms_i x⟩
theorem QF.s77 {d : mD} {i v : Int} : QF d (mset d 777 i v) := ⟨fun b _ x => by funext j; exact ms_a x, fun j _ _ => ms_a (by decide)⟩
theorem ql_239_139 {x1 : Int} : ∀ (n : Nat) (a0 a1 a2 a3 a4 : Int) (d : mD), QF d (lp_239_139 769 x1  n a0 a1 a2 a3 a4 d).2 := by
  intro n
  induction n with
  | zero =>
    intro a0 a1 a2 a3 a4 d
    show QF d (st_239_139 769 x1  _ a0 a1 a2 a3 a4 d).2
    unfold st_239_139
    repeat' apply QF.ite
    all_goals first
      | exact QF.refl
      | exact QF.s0
  | succ n ih =>
    intro a0 a1 a2 a3 a4 d
    show QF d (st_239_139 769 x1  _ a0 a1 a2 a3 a4 d).2
    unfold st_239_139
    repeat' apply QF.ite
    all_goals first
      | exact ih _ _ _ _ _ _
      | exact QF.refl
      | exact QF.s0
theorem ql_239_40 {x1 : Int} : ∀ (n : Nat) (a0 a1 a2 a3 : Int) (d : mD), QF d (lp_239_40 769 x1  n a0 a1 a2 a3 d).2 := by
  intro n
  induction n with
  | zero =>
    intro a0 a1 a2 a3 d
    show QF d (st_239_40 769 x1  _ a0 a1 a2 a3 d).2
    unfold st_239_40
    repeat' split
    all_goals first
      | exact QF.refl
      | exact QF.s0
      | exact ql_239_139 _ _ _ _ _ _ _
  | succ n ih =>
    intro a0 a1 a2 a3 d
    show QF d (st_239_40 769 x1  _ a0 a1 a2 a3 d).2
    unfold st_239_40
    repeat' split
    all_goals first
      | exact ih _ _ _ _ _
      | exact QF.refl
      | exact QF.s0
      | exact ql_239_139 _ _ _ _ _ _ _
theorem q_239 {x1 : Int} {d : mD} : QF d (g_239 769 x1 d) := by
  unfold g_239 f_239
  repeat' split
  all_goals first
    | exact QF.refl
    | exact QF.s0
    | exact QF.s0.trans (ql_239_40 _ _ _ _ _ _)
theorem ql_246_140 {x1 : Int} {x2 : Int} : ∀ (n : Nat) (a0 a1 a2 a3 : Int) (d : mD), QF d (lp_246_140 769 x1 x2  n a0 a1 a2 a3 d).2 := by
  intro n
  induction n with
  | zero =>
    intro a0 a1 a2 a3 d
    show QF d (st_246_140 769 x1 x2  _ a0 a1 a2 a3 d).2
    unfold st_246_140
    repeat' apply QF.ite
    all_goals first
      | exact QF.refl
      | exact QF.s0
  | succ n ih =>
    intro a0 a1 a2 a3 d
    show QF d (st_246_140 769 x1 x2  _ a0 a1 a2 a3 d).2
    unfold st_246_140
    repeat' apply QF.ite
    all_goals first
      | exact ih _ _ _ _ _
      | exact QF.refl
      | exact QF.s0
theorem ql_246_50 {x1 : Int} {x2 : Int} : ∀ (n : Nat) (a0 a1 a2 : Int) (d : mD), QF d (lp_246_50 769 x1 x2  n a0 a1 a2 d).2 := by
  intro n
  induction n with
  | zero =>
    intro a0 a1 a2 d
    show QF d (st_246_50 769 x1 x2  _ a0 a1 a2 d).2
    unfold st_246_50
    repeat' split
    all_goals first
      | exact QF.refl
      | exact QF.s0
      | exact ql_246_140 _ _ _ _ _ _
  | succ n ih =>
    intro a0 a1 a2 d
    show QF d (st_246_50 769 x1 x2  _ a0 a1 a2 d).2
    unfold st_246_50
    repeat' split
    all_goals first
      | exact ih _ _ _ _
      | exact QF.refl
      | exact QF.s0
      | exact ql_246_140 _ _ _ _ _ _
theorem q_246 {x1 : Int} {x2 : Int} {d : mD} : QF d (g_246 769 x1 x2 d) := by
  unfold g_246 f_246
  repeat' split
  all_goals first
    | exact QF.refl
    | exact QF.s0
    | exact QF.s0.trans (ql_246_50 _ _ _ _ _)
theorem ql_247_65 {x1 : Int} {x2 : Int} : ∀ (n : Nat) (a0 a1 : Int) (d : mD), QF d (lp_247_65 769 x1 x2  n a0 a1 d).2 := by
  intro n
  induction n with
  | zero =>
    intro a0 a1 d
    show QF d (st_247_65 769 x1 x2  _ a0 a1 d).2
    unfold st_247_65
    repeat' apply QF.ite
    all_goals first
      | exact QF.refl
      | exact QF.s0
  | succ n ih =>
    intro a0 a1 d
    show QF d (st_247_65 769 x1 x2  _ a0 a1 d).2
    unfold st_247_65
    repeat' apply QF.ite
    all_goals first
      | exact ih _ _ _
      | exact QF.refl
      | exact QF.s0
theorem q_247 {x1 : Int} {x2 : Int} {d : mD} : QF d (g_247 769 x1 x2 d) := by
  unfold g_247 f_247
  repeat' split
  all_goals first
    | exact QF.refl
    | exact QF.s0
    | exact QF.s0.trans (ql_247_65 _ _ _ _)
theorem ql_248_75 {x1 : Int} {x2 : Int} : ∀ (n : Nat) (a0 a1 : Int) (d : mD), QF d (lp_248_75 769 x1 x2  n a0 a1 d).2 := by
  intro n
  induction n with
  | zero =>
    intro a0 a1 d
    show QF d (st_248_75 769 x1 x2  _ a0 a1 d).2
    unfold st_248_75
    repeat' apply QF.ite
    all_goals first
      | exact QF.refl
      | exact QF.s0
  | succ n ih =>
    intro a0 a1 d
    show QF d (st_248_75 769 x1 x2  _ a0 a1 d).2
    unfold st_248_75
    repeat' apply QF.ite
    all_goals first
      | exact ih _ _ _
      | exact QF.refl
      | exact QF.s0
theorem q_248 {x1 : Int} {x2 : Int} {d : mD} : QF d (g_248 769 x1 x2 d) := by
  unfold g_248 f_248
  repeat' split
  all_goals first
    | exact QF.refl
    | exact QF.s0
    | exact QF.s0.trans (ql_248_75 _ _ _ _)
theorem ql_253_31 {x1 : Int} {x2 : Int} : ∀ (n : Nat) (a0 a1 : Int) (d : mD), QF d (lp_253_31 769 x1 x2  n a0 a1 d).2 := by
  intro n
  induction n with
  | zero =>
    intro a0 a1 d
    show QF d (st_253_31 769 x1 x2  _ a0 a1 d).2
    unfold st_253_31
    repeat' apply QF.ite
    all_goals first
      | exact QF.refl
      | exact QF.s0
  | succ n ih =>
    intro a0 a1 d
    show QF d (st_253_31 769 x1 x2  _ a0 a1 d).2
    unfold st_253_31
    repeat' apply QF.ite
    all_goals first
      | exact ih _ _ _
      | exact QF.refl
      | exact QF.s0
theorem q_253 {x1 : Int} {x2 : Int} {d : mD} : QF d (g_253 769 x1 x2 d) := by
  unfold g_253 f_253
  repeat' split
  all_goals first
    | exact QF.refl
    | exact QF.s0
    | exact QF.s0.trans (ql_253_31 _ _ _ _)
theorem ql_258_9 : ∀ (n : Nat) (a0 a1 : Int) (d : mD), QF d (lp_258_9 769   n a0 a1 d).2 := by
  intro n
  induction n with
  | zero =>
    intro a0 a1 d
    show QF d (st_258_9 769   _ a0 a1 d).2
    unfold st_258_9
    repeat' apply QF.ite
    all_goals first
      | exact QF.refl
      | exact QF.s0
  | succ n ih =>
    intro a0 a1 d
    show QF d (st_258_9 769   _ a0 a1 d).2
    unfold st_258_9
    repeat' apply QF.ite
    all_goals first
      | exact ih _ _ _
      | exact QF.refl
      | exact QF.s0
theorem q_258 {d : mD} : QF d (g_258 769 d) := by
  unfold g_258 f_258
  repeat' split
  all_goals first
    | exact QF.refl
    | exact QF.s0
    | exact QF.s0.trans (ql_258_9 _ _ _ _)
theorem ql_259_11 : ∀ (n : Nat) (a0 a1 a2 : Int) (d : mD), QF d (lp_259_11 769   n a0 a1 a2 d).2 := by
  intro n
  induction n with
  | zero =>
    intro a0 a1 a2 d
    show QF d (st_259_11 769   _ a0 a1 a2 d).2
    unfold st_259_11
    repeat' apply QF.ite
    all_goals first
      | exact QF.refl
      | exact QF.s0
  | succ n ih =>
    intro a0 a1 a2 d
    show QF d (st_259_11 769   _ a0 a1 a2 d).2
    unfold st_259_11
    repeat' apply QF.ite
    all_goals first
      | exact ih _ _ _ _
      | exact QF.refl
      | exact QF.s0
theorem q_259 {d : mD} : QF d (g_259 769 d) := by
  unfold g_259 f_259
  repeat' split
  all_goals first
    | exact QF.refl
    | exact QF.s0
    | exact QF.s0.trans (ql_259_11 _ _ _ _ _)
theorem ql_260_9 : ∀ (n : Nat) (a0 a1 : Int) (d : mD), QF d (lp_260_9 769   n a0 a1 d).2 := by
  intro n
  induction n with
  | zero =>
    intro a0 a1 d
    show QF d (st_260_9 769   _ a0 a1 d).2
    unfold st_260_9
    repeat' apply QF.ite
    all_goals first
      | exact QF.refl
      | exact QF.s0
  | succ n ih =>
    intro a0 a1 d
    show QF d (st_260_9 769   _ a0 a1 d).2
    unfold st_260_9
    repeat' apply QF.ite
    all_goals first
      | exact ih _ _ _
      | exact QF.refl
      | exact QF.s0
theorem q_260 {d : mD} : QF d (g_260 769 d) := by
  unfold g_260 f_260
  repeat' split
  all_goals first
    | exact QF.refl
    | exact QF.s0
    | exact QF.s0.trans (ql_260_9 _ _ _ _)
theorem ql_261_11 : ∀ (n : Nat) (a0 a1 a2 : Int) (d : mD), QF d (lp_261_11 769   n a0 a1 a2 d).2 := by
  intro n
  induction n with
  | zero =>
    intro a0 a1 a2 d
    show QF d (st_261_11 769   _ a0 a1 a2 d).2
    unfold st_261_11
    repeat' apply QF.ite
    all_goals first
      | exact QF.refl
      | exact QF.s0
  | succ n ih =>
    intro a0 a1 a2 d
    show QF d (st_261_11 769   _ a0 a1 a2 d).2
    unfold st_261_11
    repeat' apply QF.ite
    all_goals first
      | exact ih _ _ _ _
      | exact QF.refl
      | exact QF.s0
theorem q_261 {d : mD} : QF d (g_261 769 d) := by
  unfold g_261 f_261
  repeat' split
  all_goals first
    | exact QF.refl
    | exact QF.s0
    | exact QF.s0.trans (ql_261_11 _ _ _ _ _)
theorem ql_262_58 {r15 : Int → Int → mD → Int × mD} (hr15 : ∀ (b0 b1 : Int) (d : mD), QF d (r15 b0 b1 d).2) : ∀ (n : Nat) (a0 a1 a2 : Int) (d : mD), QF d (lp_262_58 769  r15 n a0 a1 a2 d).2 := by
  intro n
  induction n with
  | zero =>
    intro a0 a1 a2 d
    show QF d (st_262_58 769  r15 _ a0 a1 a2 d).2
    unfold st_262_58
    repeat' apply QF.ite
    all_goals first
      | exact QF.refl
      | exact QF.s0
      | exact hr15 _ _ _
  | succ n ih =>
    intro a0 a1 a2 d
    show QF d (st_262_58 769  r15 _ a0 a1 a2 d).2
    unfold st_262_58
    repeat' apply QF.ite
    all_goals first
      | exact ih _ _ _ _
      | exact QF.refl
      | exact QF.s0
      | exact hr15 _ _ _
theorem ql_262_15 : ∀ (n : Nat) (a0 a1 : Int) (d : mD), QF d (lp_262_15 769   n a0 a1 d).2 := by
  intro n
  induction n with
  | zero =>
    intro a0 a1 d
    show QF d (st_262_15 769   _ a0 a1 d).2
    unfold st_262_15
    repeat' apply QF.ite
    all_goals first
      | exact QF.refl
      | exact QF.s0
      | exact ql_262_58 (fun _ _ _ => QF.refl) _ _ _ _ _
  | succ n ih =>
    intro a0 a1 d
    show QF d (st_262_15 769   _ a0 a1 d).2
    unfold st_262_15
    repeat' apply QF.ite
    all_goals first
      | exact ih _ _ _
      | exact QF.refl
      | exact QF.s0
      | exact ql_262_58 ih _ _ _ _ _
theorem q_262 {d : mD} : QF d (g_262 769 d) := by
  unfold g_262 f_262
  repeat' split
  all_goals first
    | exact QF.refl
    | exact QF.s0
    | exact QF.s0.trans (ql_262_15 _ _ _ _)
theorem q_208 {d : mD} : QF d (g_208 769 d) := by
  unfold g_208
  repeat' split
  all_goals first
    | exact QF.refl
    | exact QF.s0
theorem q_209 {d : mD} : QF d (g_209 769 d) := by
  unfold g_209
  repeat' split
  all_goals first
    | exact QF.refl
    | exact QF.s0
theorem q_240 {x1 : Int} {d : mD} : QF d (g_240 769 x1 d) := by
  unfold g_240
  repeat' split
  all_goals first
    | exact QF.refl
    | exact QF.s0
theorem q_241 {x1 : Int} {x2 : Int} {d : mD} : QF d (g_241 769 x1 x2 d) := by
  unfold g_241
  repeat' split
  all_goals first
    | exact QF.refl
    | exact QF.s0
theorem q_242 {x1 : Int} {x2 : Int} {d : mD} : QF d (g_242 769 x1 x2 d) := by
  unfold g_242
  repeat' split
  all_goals first
    | exact QF.refl
    | exact QF.s0
theorem q_249 {x1 : Int} {x2 : Int} {d : mD} : QF d (g_249 769 x1 x2 d) := by
  unfold g_249
  repeat' split
  all_goals first
    | exact QF.refl
    | exact QF.s0
theorem q_277 {x1 : Int} {d : mD} : QF d (g_277 769 x1 d) := by
  unfold g_277
  repeat' split
  all_goals first
    | exact QF.refl
    | exact QF.s0
theorem q_250 {x1 : Int} {x2 : Int} {d : mD} : QF d (g_250 769 x1 x2 d) := by
  unfold g_250
  repeat' split
  all_goals first
    | exact QF.refl
    | exact QF.s0
theorem q_251 {x1 x2 : Int} {d : mD} : QF d (g_251 769 x1 x2 d) := q_250
theorem q_252 {x1 x2 : Int} {d : mD} : QF d (g_252 769 x1 x2 d) := q_250
theorem q_254 {x1 x2 : Int} {d : mD} : QF d (g_254 769 x1 x2 d) := q_250
theorem q_273 {x1 : Int} {d : mD} : QF d (g_273 769 x1 d) := by
  unfold g_273
  rw [show (769 : Int) + 8 = 777 by decide]
  exact QF.s77.trans QF.s18
theorem ql_274_18 {x1 : Int} : ∀ (n : Nat) (a0 : Int) (d : mD), QF d (lp_274_18 769 x1  n a0 d) := by
  intro n
  induction n with
  | zero =>
    intro a0 d
    show QF d (st_274_18 769 x1  _ a0 d)
    unfold st_274_18
    repeat' apply QF.ite1
    all_goals first
      | exact QF.refl
      | exact QF.s0
      | exact (q_273 (d := d)).trans QF.refl
  | succ n ih =>
    intro a0 d
    show QF d (st_274_18 769 x1  _ a0 d)
    unfold st_274_18
    repeat' apply QF.ite1
    all_goals first
      | exact ih _ _
      | exact QF.refl
      | exact QF.s0
      | exact (q_273 (d := d)).trans (ih _ _)
theorem ql_274_2 {x1 : Int} : ∀ (n : Nat) (a0 : Int) (d : mD), QF d (lp_274_2 769 x1  n a0 d) := by
  intro n
  induction n with
  | zero =>
    intro a0 d
    show QF d (st_274_2 769 x1  _ a0 d)
    unfold st_274_2
    repeat' apply QF.ite1
    all_goals first
      | exact QF.refl
      | exact QF.s0
      | exact ql_274_18 _ _ _
  | succ n ih =>
    intro a0 d
    show QF d (st_274_2 769 x1  _ a0 d)
    unfold st_274_2
    repeat' apply QF.ite1
    all_goals first
      | exact ih _ _
      | exact QF.refl
      | exact QF.s0
      | exact ql_274_18 _ _ _
theorem q_274 {x1 : Int} {d : mD} : QF d (g_274 769 x1 d) := by
  unfold g_274
  repeat' split
  all_goals first
    | exact QF.refl
    | exact QF.s0
    | exact ql_274_2 _ _ _
theorem ql_275_18 {x1 : Int} : ∀ (n : Nat) (a0 : Int) (d : mD), QF d (lp_275_18 769 x1  n a0 d) := by
  intro n
  induction n with
  | zero =>
    intro a0 d
    show QF d (st_275_18 769 x1  _ a0 d)
    unfold st_275_18
    repeat' apply QF.ite1
    all_goals first
      | exact QF.refl
      | exact QF.s0
      | exact (q_273 (d := d)).trans QF.refl
  | succ n ih =>
    intro a0 d
    show QF d (st_275_18 769 x1  _ a0 d)
    unfold st_275_18
    repeat' apply QF.ite1
    all_goals first
      | exact ih _ _
      | exact QF.refl
      | exact QF.s0
      | exact (q_273 (d := d)).trans (ih _ _)
theorem ql_275_2 {x1 : Int} : ∀ (n : Nat) (a0 : Int) (d : mD), QF d (lp_275_2 769 x1  n a0 d) := by
  intro n
  induction n with
  | zero =>
    intro a0 d
    show QF d (st_275_2 769 x1  _ a0 d)
    unfold st_275_2
    repeat' apply QF.ite1
    all_goals first
      | exact QF.refl
      | exact QF.s0
      | exact ql_275_18 _ _ _
  | succ n ih =>
    intro a0 d
    show QF d (st_275_2 769 x1  _ a0 d)
    unfold st_275_2
    repeat' apply QF.ite1
    all_goals first
      | exact ih _ _
      | exact QF.refl
      | exact QF.s0
      | exact ql_275_18 _ _ _
theorem q_275 {x1 : Int} {d : mD} : QF d (g_275 769 x1 d) := by
  unfold g_275
  repeat' split
  all_goals first
    | exact QF.refl
    | exact QF.s0
    | exact ql_275_2 _ _ _
theorem st276q {x1 x2 x3 : Int} {r : Int → Int → mD → Int × mD} {d : mD} (hr : ∀ a b D, QF D (r a b D).2) : QF d (st_276_38 769 x1 r x2 x3 d).2 := by
  unfold st_276_38
  apply QF.ite
  · apply QF.ite
    · exact (((q_273 (x1 := 32)).trans q_275).trans (q_273.trans q_274)).trans (hr _ _ _)
    · exact (q_275.trans (q_273.trans q_274)).trans (hr _ _ _)
  · apply QF.ite
    · exact q_273
    · exact QF.refl
theorem ql_276_38 {x1 : Int} : ∀ (n : Nat) (a0 a1 : Int) (d : mD), QF d (lp_276_38 769 x1 n a0 a1 d).2 := by
  intro n
  induction n with
  | zero =>
    intro a0 a1 d
    exact st276q (r := fun _ _ d => (0, d)) (fun _ _ _ => QF.refl)
  | succ n ih =>
    intro a0 a1 d
    exact st276q (r := lp_276_38 769 x1 n) ih
theorem q_276 {x1 : Int} {d : mD} : QF d (g_276 769 x1 d) := by
  unfold g_276 f_276
  repeat' split
  all_goals first
    | exact QF.refl
    | exact QF.s0
    | exact (QF.s0.trans QF.s18).trans (ql_276_38 _ _ _ _)
