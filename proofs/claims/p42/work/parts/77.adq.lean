/-! ===== what a run's end may claim of the numbers it began with: adequacy ===== -/
theorem mlen_hi (j : Nat) (h : 341 ≤ j) : mlen j = 0 := by
  unfold mlen
  rw [show Nat.ble 170 j = true from Nat.ble_eq_true_of_le (by omega)]
  dsimp only [cond]
  rw [show Nat.ble 255 j = true from Nat.ble_eq_true_of_le (by omega)]
  dsimp only [cond]
  rw [show Nat.ble 298 j = true from Nat.ble_eq_true_of_le (by omega)]
  dsimp only [cond]
  rw [show Nat.ble 319 j = true from Nat.ble_eq_true_of_le (by omega)]
  dsimp only [cond]
  rw [show Nat.ble 330 j = true from Nat.ble_eq_true_of_le (by omega)]
  dsimp only [cond]
  rw [show Nat.ble 335 j = true from Nat.ble_eq_true_of_le (by omega)]
  dsimp only [cond]
  rw [show Nat.ble 338 j = true from Nat.ble_eq_true_of_le (by omega)]
  dsimp only [cond]
  rw [show Nat.ble 339 j = true from Nat.ble_eq_true_of_le (by omega)]
  dsimp only [cond]
  rw [show Nat.ble 340 j = true from Nat.ble_eq_true_of_le (by omega)]
  dsimp only [cond]
  rw [show Nat.beq j 340 = false from by cases hb : Nat.beq j 340 with | false => rfl | true => exact absurd (Nat.eq_of_beq_eq_true hb) (by omega)]
def swOK (i : Instr) : Bool := match i with
  | .tableswitch _ lo hi ts => decide ((ts.toList.length : Int) = hi - lo + 1)
  | _ => true
def swM (m pc : Nat) : Bool := match mfetch m pc with
  | some (i, _) => swOK i
  | none => true
set_option maxRecDepth 100000 in
theorem sw_all : (List.range 341).all (fun j => (List.range (mlen j)).all (fun pc => swM j pc)) = true := by decide +kernel
theorem swf {m pc len : Nat} {i : Instr} (h : mfetch m pc = some (i, len)) : swOK i = true := by
  have hl : pc < mlen m := by
    rcases Nat.lt_or_ge pc (mlen m) with c | c
    · exact c
    · unfold mfetch at h
      rw [Nat.ble_eq_true_of_le c] at h
      cases h
  have hm : m < 341 := by
    rcases Nat.lt_or_ge m 341 with c | c
    · exact c
    · rw [mlen_hi m c] at hl
      omega
  have k := List.all_eq_true.mp (List.all_eq_true.mp sw_all m (List.mem_range.mpr hm)) pc (List.mem_range.mpr hl)
  unfold swM at k
  rw [h] at k
  exact k
theorem mall_mem {B : mSt → Prop} : ∀ {bs : List (Prop × mSt)} {q : Prop} {st : mSt}, mall B bs → (q, st) ∈ bs → q → B st
  | [], _, _, _, hm, _ => absurd hm (by simp)
  | [(p, s0)], q, st, h, hm, hq => by
    have e := List.mem_singleton.mp hm
    cases e
    exact h hq
  | (p, s0) :: (b :: r), q, st, h, hm, hq => by
    rcases List.mem_cons.mp hm with e | e
    · cases e
      exact h.1 hq
    · exact mall_mem h.2 e hq
theorem mncond_of (o : ClassFile.Cond) (x y : Int) (h : ¬ mcond o x y) : mncond o x y := by
  cases o <;> simp only [mcond, mncond] at h ⊢ <;> omega
theorem msw_mem (x : Int) (f : Nat → mSt) : ∀ (ts : List Int) (k : Int), k ≤ x → x < k + (ts.length : Int) → ∃ q st, (q, st) ∈ msw x f k ts ∧ q
  | [], k, h0, h1 => by simp at h1; omega
  | t :: ts, k, h0, h1 => by
    by_cases c : x = k
    · exact ⟨x = k, f t.toNat, List.mem_cons_self .., c⟩
    · obtain ⟨q, st, hm, hq⟩ := msw_mem x f ts (k + 1) (by omega) (by simp at h1; omega)
      exact ⟨q, st, List.mem_cons_of_mem _ hm, hq⟩
set_option maxHeartbeats 4000000 in
theorem mX_ex {O : mO} {m len pc c s : Nat} {i : Instr} {L S : List mV} {G : mG} {d : mD} {p : Prop} {bs : List (Prop × mSt)} (hs : swOK i = true) (e : mX O m len i pc L S c s G d = .inr (.inr (.inl (p, bs)))) : ∃ q st, (q, st) ∈ bs ∧ q := by
  unfold mX at e
  split at e
  all_goals first
    | (cases e; done)
    | (split at e <;> first | (cases e; done) | skip)
    | skip
  all_goals first
    | (rename_i o t _ x S'
       cases e
       by_cases h : mcond o x 0
       · exact ⟨_, _, List.mem_cons_self .., h⟩
       · exact ⟨_, _, List.mem_cons_of_mem _ (List.mem_cons_self ..), mncond_of _ _ _ h⟩)
    | (rename_i o t _ y x S'
       cases e
       by_cases h : mcond o x y
       · exact ⟨_, _, List.mem_cons_self .., h⟩
       · exact ⟨_, _, List.mem_cons_of_mem _ (List.mem_cons_self ..), mncond_of _ _ _ h⟩)
    | (rename_i t lo hi ts _ x S'
       cases e
       by_cases h : x < lo ∨ hi < x
       · exact ⟨_, _, List.mem_append_right _ (List.mem_singleton.mpr rfl), h⟩
       · have hn := of_decide_eq_true hs
         obtain ⟨q, st, hm, hq⟩ := msw_mem x _ ts.toList lo (by omega) (by omega)
         exact ⟨q, st, List.mem_append_left _ hm, hq⟩)
    | (split at e <;> first | (cases e; done) | (split at e <;> cases e))
theorem mAdq {O : mO} {P : Prop} {m : Nat} {st : mSt} {K : mK} (h : mRun O m st K) (hk : ∀ r G d, K r G d → P) : P := by
  refine h (fun m st K => (∀ r G d, K r G d → P) → P) ?_ hk
  intro m st K hs hk
  obtain ⟨pc, L, S, c, s, G, d⟩ := st
  simp only [mstep, mstp] at hs
  split at hs
  · rename_i i len hf
    generalize e : mX O m len i pc L S c s G d = nx at hs
    match nx, e, hs with
    | .inl st, _, hs => exact hs hk
    | .inr (.inl (p, st)), _, hs => exact hs.2 hk
    | .inr (.inr (.inl (p, bs))), e, hs =>
      obtain ⟨q, st, hm, hq⟩ := mX_ex (swf hf) e
      exact mall_mem hs.2 hm hq hk
    | .inr (.inr (.inr (.inl (p, j, as, pc, L, S, c, s, G, d)))), _, hs =>
      refine hs.2 (fun r G d hr => ?_)
      match r, hr with
      | .inl (some v), hr => exact hr hk
      | .inl none, hr => exact hr hk
      | .inr e, hr =>
        simp only [mback] at hr
        split at hr
        · exact hk _ _ _ hr.2
        · exact hk _ _ _ hr.2
    | .inr (.inr (.inr (.inr (p, r, G, d)))), _, hs => exact hk _ _ _ hs.2
  · exact hs.elim
-- what a contract tells of its answer and its memory, out of the machine: P is free of both
theorem tAdq {E : mO × tW} {P : Prop} {j : Nat} {as : List tV} {d : mD} (ha : tokL E.2 as) (hd : tSh E.2 d) (h : tCall E j as d (fun _ d' => tSh E.2 d' → P)) : P :=
  mAdq (h 0 (fun _ _ _ => P) (ok_pad _ (ok_lay ha)) trivial hd (fun _ _ _ hs k => k hs)) (fun _ _ _ k => k)
