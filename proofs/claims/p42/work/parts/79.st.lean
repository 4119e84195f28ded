/-! ===== the ranges hold behind the constructors ===== -/
def rkDec (n : Nat) (v : Int) : Decidable (rk n v) := by
  unfold rk
  split <;> infer_instance
def rgDec (k : Nat) (i v : Int) : Decidable (rg k i v) := by
  unfold rg
  split <;> first
    | infer_instance
    | exact rkDec _ _
theorem rk_z (n : Nat) : rk n 0 := by
  unfold rk
  split <;> (first | trivial | exact ⟨by decide, by decide⟩)
theorem rg_z (k : Nat) (i : Int) : rg k i 0 := by
  unfold rg
  split
  all_goals first
    | trivial
    | exact ⟨by decide, by decide⟩
    | exact rk_z _
    | exact fun _ => ⟨by decide, by decide⟩
    | (refine ⟨?_, ?_⟩ <;> exact fun _ => ⟨by decide, by decide⟩)
    | (refine ⟨?_, ?_, ?_, ?_⟩ <;> exact fun _ => ⟨by decide, by decide⟩)
    | (refine ⟨?_, ?_, ?_, ?_, ?_⟩ <;> exact fun _ => ⟨by decide, by decide⟩)
    | (refine ⟨?_, ?_, ?_, ?_, ?_, ?_, ?_, ?_, ?_, ?_, ?_⟩ <;> exact fun _ => ⟨by decide, by decide⟩)
theorem rg_hi {k : Nat} (h : 779 ≤ k) (i v : Int) : rg k i v := by
  unfold rg
  split
  all_goals first
    | trivial
    | omega
def rgAny (k : Nat) : Bool := match k with
  | 12 => true
  | 15 => true
  | 16 => true
  | 17 => true
  | 18 => true
  | 19 => true
  | 20 => true
  | 21 => true
  | 22 => true
  | 23 => true
  | 24 => true
  | 25 => true
  | 26 => true
  | 27 => true
  | 28 => true
  | 29 => true
  | 30 => true
  | 31 => true
  | 32 => true
  | 33 => true
  | 34 => true
  | 35 => true
  | 36 => true
  | 37 => true
  | 38 => true
  | 39 => true
  | 40 => true
  | 41 => true
  | 42 => true
  | 43 => true
  | 44 => true
  | 45 => true
  | 46 => true
  | 47 => true
  | 48 => true
  | 56 => true
  | 65 => true
  | 570 => true
  | 574 => true
  | 575 => true
  | 778 => true
  | 999 => true
  | _ => false
theorem rgAny_ok {k : Nat} (h0 : rgAny k = true) (i v : Int) : rg k i v := by
  revert h0
  unfold rgAny
  split
  all_goals intro h
  all_goals first
    | trivial
    | cases h
noncomputable def rgFree (k : Nat) (i : Int) : Bool := match k with
  | 0 => !zeq i 1 && !zeq i 2
  | 63 => !zeq i 1 && !zeq i 2
  | 2 => !zeq i 0
  | 10 => !zeq i 0
  | 49 => !zeq i 0
  | 57 => !zeq i 0 && !zeq i 5
  | 64 => !zeq i 1 && !zeq i 2
  | 572 => !zeq i 1
  | 578 => !zeq i 1
  | 576 => !zeq i 2 && !zeq i 3 && !zeq i 4 && !zeq i 5 && !zeq i 6
  | 577 => !zeq i 1 && !zeq i 2 && !zeq i 3 && !zeq i 4
  | 769 => !zeq i 0 && !zeq i 7 && !zeq i 9 && !zeq i 10 && !zeq i 11 && !zeq i 12 && !zeq i 13 && !zeq i 14 && !zeq i 15 && !zeq i 16 && !zeq i 18
  | _ => false
theorem rgFree_ok {k : Nat} {i : Int} (h0 : rgFree k i = true) (v : Int) : rg k i v := by
  revert h0
  unfold rgFree
  split
  all_goals intro h
  · exact ⟨fun e => by subst e; exact absurd h (by decide), fun e => by subst e; exact absurd h (by decide)⟩
  · exact ⟨fun e => by subst e; exact absurd h (by decide), fun e => by subst e; exact absurd h (by decide)⟩
  · exact fun e => by subst e; exact absurd h (by decide)
  · exact fun e => by subst e; exact absurd h (by decide)
  · exact fun e => by subst e; exact absurd h (by decide)
  · exact ⟨fun e => by subst e; exact absurd h (by decide), fun e => by subst e; exact absurd h (by decide)⟩
  · exact ⟨fun e => by subst e; exact absurd h (by decide), fun e => by subst e; exact absurd h (by decide)⟩
  · exact fun e => by subst e; exact absurd h (by decide)
  · exact fun e => by subst e; exact absurd h (by decide)
  · exact ⟨fun e => by subst e; exact absurd h (by decide), fun e => by subst e; exact absurd h (by decide), fun e => by subst e; exact absurd h (by decide), fun e => by subst e; exact absurd h (by decide), fun e => by subst e; exact absurd h (by decide)⟩
  · exact ⟨fun e => by subst e; exact absurd h (by decide), fun e => by subst e; exact absurd h (by decide), fun e => by subst e; exact absurd h (by decide), fun e => by subst e; exact absurd h (by decide)⟩
  · exact ⟨fun e => by subst e; exact absurd h (by decide), fun e => by subst e; exact absurd h (by decide), fun e => by subst e; exact absurd h (by decide), fun e => by subst e; exact absurd h (by decide), fun e => by subst e; exact absurd h (by decide), fun e => by subst e; exact absurd h (by decide), fun e => by subst e; exact absurd h (by decide), fun e => by subst e; exact absurd h (by decide), fun e => by subst e; exact absurd h (by decide), fun e => by subst e; exact absurd h (by decide), fun e => by subst e; exact absurd h (by decide)⟩
  · cases h
def isObj (k : Nat) : Bool := match k with
  | 0 => true
  | 63 => true
  | 2 => true
  | 10 => true
  | 49 => true
  | 57 => true
  | 64 => true
  | 572 => true
  | 578 => true
  | 576 => true
  | 577 => true
  | 769 => true
  | _ => false
theorem isObj_ok {k : Nat} {i : Int} (h0 : isObj k = true) (hi : 32 ≤ i) (v : Int) : rg k i v := by
  revert h0
  unfold isObj
  split
  all_goals intro h
  · exact ⟨fun e => by omega, fun e => by omega⟩
  · exact ⟨fun e => by omega, fun e => by omega⟩
  · exact fun e => by omega
  · exact fun e => by omega
  · exact fun e => by omega
  · exact ⟨fun e => by omega, fun e => by omega⟩
  · exact ⟨fun e => by omega, fun e => by omega⟩
  · exact fun e => by omega
  · exact fun e => by omega
  · exact ⟨fun e => by omega, fun e => by omega, fun e => by omega, fun e => by omega, fun e => by omega⟩
  · exact ⟨fun e => by omega, fun e => by omega, fun e => by omega, fun e => by omega⟩
  · exact ⟨fun e => by omega, fun e => by omega, fun e => by omega, fun e => by omega, fun e => by omega, fun e => by omega, fun e => by omega, fun e => by omega, fun e => by omega, fun e => by omega, fun e => by omega⟩
  · cases h
noncomputable def stV (k : Nat) (i : Int) (x : aN) : Bool := match x with
  | (0, v) => zeq v 0 || @decide (rg k i v) (rgDec k i v)
  | _ => rgAny k || rgFree k i
noncomputable def stD (k n : Nat) (x : aN) : Bool := rgAny k || (isObj k && Nat.ble 1 n) || (match x with
  | (0, v) => zeq v 0
  | _ => false)
noncomputable def stC1 (a : Nat) (c : aC) : Bool := match c with
  | (k, n, x, l) => !Nat.beq k 999 && stD (tcd (a : Int)) l.length x && (List.range (32 * l.length)).all (fun i => stV (tcd (a : Int)) (i : Int) (aget (k, n, x, l) i))
theorem stC1_eq (a : Nat) (c : aC) : stC1 a c = (!Nat.beq c.1 999 && stD (tcd (a : Int)) c.2.2.2.length c.2.2.1 && (List.range (32 * c.2.2.2.length)).all (fun i => stV (tcd (a : Int)) (i : Int) (aget c i))) := rfl
noncomputable def stC (a : Nat) : Bool := stC1 a (acell aM1 a)
set_option maxRecDepth 100000 in
theorem st_ok : (List.range 779).all (fun a => stC a) = true := by decide +kernel
theorem lget_out {α : Type} (z : α) : ∀ (l : List α) (i : Nat), l.length ≤ i → lget z l i = z
  | [], _, _ => rfl
  | a :: l, 0, h => by simp at h
  | a :: l, i + 1, h => by
    rw [lget_s]
    exact lget_out z l i (by simp at h; omega)
theorem safe_start {ρ : Nat → Int} {kn : Bool} {G : mG} {d : mD} (hM : gM ρ aM1 779 kn G d) : Safe d := by
  intro a i hi
  by_cases h0 : a < 0
  · have e : tcd a = 999 := by unfold tcd; rw [if_pos (by omega)]
    rw [e]; trivial
  · by_cases h1 : 779 ≤ a
    · have e : tcd a = a.toNat := by unfold tcd; (repeat' split) <;> omega
      rw [e]
      exact rg_hi (by omega) i _
    · obtain ⟨n, rfl⟩ := Int.eq_ofNat_of_zero_le (show 0 ≤ a by omega)
      obtain ⟨q, rfl⟩ := Int.eq_ofNat_of_zero_le hi
      have hn : n < 779 := by omega
      have k := List.all_eq_true.mp st_ok n (List.mem_range.mpr hn)
      unfold stC at k
      rw [stC1_eq] at k
      simp only [Bool.and_eq_true] at k
      obtain ⟨⟨k1, k2⟩, k3⟩ := k
      have h9 : (acell aM1 n).1 ≠ 999 := fun e => by
        rw [e] at k1
        cases k1
      obtain ⟨-, -, g3⟩ := hM.2 n hn h9
      have g := g3 q
      rcases Nat.lt_or_ge q (32 * (acell aM1 n).2.2.2.length) with hq | hq
      · have k4 := List.all_eq_true.mp k3 q (List.mem_range.mpr hq)
        unfold stV at k4
        split at k4
        · rename_i v hv
          rw [hv] at g
          have g : d (n : Int) (q : Int) = v := g
          rw [g]
          rw [Bool.or_eq_true] at k4
          rcases k4 with k4 | k4
          · have ez : v = 0 := of_decide_eq_true k4
            rw [ez]
            exact rg_z _ _
          · exact @of_decide_eq_true _ (rgDec _ _ _) k4
        · rw [Bool.or_eq_true] at k4
          rcases k4 with k4 | k4
          · exact rgAny_ok k4 _ _
          · exact rgFree_ok k4 _
      · unfold stD at k2
        rw [Bool.or_eq_true, Bool.or_eq_true] at k2
        rcases k2 with (k2 | k2) | k2
        · exact rgAny_ok k2 _ _
        · rw [Bool.and_eq_true] at k2
          have k5 := Nat.le_of_ble_eq_true k2.2
          exact isObj_ok k2.1 (by omega) _
        · have e : aget (acell aM1 n) q = (acell aM1 n).2.2.1 := by
            unfold aget
            rw [lget_out [] _ (q / 32) (by omega)]
            rfl
          rw [e] at g
          split at k2
          · rename_i v hv
            rw [hv] at g
            have g : d (n : Int) (q : Int) = v := g
            have ez : v = 0 := of_decide_eq_true k2
            rw [g, ez]
            exact rg_z _ _
          · cases k2
