/-! ===== the shape of the cells behind the two constructors ===== -/
noncomputable def shT (a t : Nat) : Bool := Nat.blt a 779 && Nat.beq (acell aM1 a).1 (tk t) && (Nat.blt t 12 || zeq ((acell aM1 a).2.1 : Int) (tl t))
noncomputable def shE (x : aN) (z : Int) (t : Nat) : Bool := match x with
  | (0, .ofNat q) => zeq (.ofNat q) z && shT q t
  | _ => false
noncomputable def shF (a : Nat) : Bool := !Nat.beq (acell aM1 a).1 999 && (Nat.ble 12 (acell aM1 a).1 || (List.range 32).all (fun f => !Nat.beq (mfty (32 * (acell aM1 a).1 + f)) 4 || shE (aget (acell aM1 a) f) ((a : Int) + tpo (32 * (acell aM1 a).1 + f)) (tpy (32 * (acell aM1 a).1 + f))))
noncomputable def shA1 (a t : Nat) : Bool := !(Nat.beq (acell aM1 a).1 (tk t) && zeq ((acell aM1 a).2.1 : Int) (tl t)) || (List.range (acell aM1 a).2.1).all (fun i => shE (aget (acell aM1 a) i) ((a : Int) + (teb t + tes t * (i : Int))) (tec t))
noncomputable def shA (a : Nat) : Bool := Nat.blt (acell aM1 a).1 200 || (shA1 a 12 && shA1 a 19 && shA1 a 23)
set_option maxRecDepth 100000 in
theorem sh_ok : (List.range 779).all (fun a => shF a && shA a) = true := by decide +kernel
theorem tk_200 : ∀ t, t < 31 → 200 ≤ tk t → t = 12 ∨ t = 19 ∨ t = 23 := by decide
theorem shT_ok {ρ : Nat → Int} {kn : Bool} {G : mG} {d : mD} (hM : gM ρ aM1 779 kn G d) {q t : Nat} (h : shT q t = true) (h9 : ∀ a, a < 779 → (acell aM1 a).1 ≠ 999) : tokV (G.1, G.2.1) (.inr (t, (q : Int))) := by
  unfold shT at h
  rw [Bool.and_eq_true, Bool.and_eq_true, Nat.blt_eq] at h
  obtain ⟨⟨h1, h2⟩, h3⟩ := h
  obtain ⟨g1, g2, -⟩ := hM.2 q h1 (h9 q h1)
  refine ⟨⟨by omega, by omega⟩, ?_, fun ht => ?_⟩
  · show G.1 (q : Int) = _
    rw [g1, Nat.eq_of_beq_eq_true h2]
  · show G.2.1 (q : Int) = _
    rw [Bool.or_eq_true, Nat.blt_eq] at h3
    rcases h3 with h3 | h3
    · omega
    · rw [g2]
      exact of_decide_eq_true h3
theorem shE_ok {ρ : Nat → Int} {kn : Bool} {G : mG} {d : mD} (hM : gM ρ aM1 779 kn G d) (h9 : ∀ a, a < 779 → (acell aM1 a).1 ≠ 999) {x : aN} {y z : Int} {t : Nat} (hx : gN ρ x y) (h : shE x z t = true) : y = z ∧ tokV (G.1, G.2.1) (.inr (t, z)) := by
  unfold shE at h
  split at h
  · rename_i q
    rw [Bool.and_eq_true] at h
    have e : (Int.ofNat q) = z := of_decide_eq_true h.1
    have hx : y = Int.ofNat q := hx
    rw [← e]
    exact ⟨hx, shT_ok hM h.2 h9⟩
  · cases h
theorem tSh_of {ρ : Nat → Int} {kn : Bool} {G : mG} {d : mD} (hM : gM ρ aM1 779 kn G d) : tSh (G.1, G.2.1) d := by
  have hk : ∀ a, a < 779 → shF a = true ∧ shA a = true := fun a ha => by
    have h := List.all_eq_true.mp sh_ok a (List.mem_range.mpr ha)
    rwa [Bool.and_eq_true] at h
  have h9 : ∀ a, a < 779 → (acell aM1 a).1 ≠ 999 := fun a ha e => by
    have h := (hk a ha).1
    unfold shF at h
    rw [e] at h
    cases h
  refine ⟨fun a g h0 h1 hg h4 => ?_, fun a t i hv ht h0 h1 => ?_⟩
  · obtain ⟨n, rfl⟩ := Int.eq_ofNat_of_zero_le h0
    have hn : n < 779 := by omega
    obtain ⟨g1, g2, g3⟩ := hM.2 n hn (h9 n hn)
    have hg : G.1 (n : Int) = ((g / 32 : Nat) : Int) := hg
    rw [g1] at hg
    have hc : (acell aM1 n).1 = g / 32 := by omega
    have h := (hk n hn).1
    unfold shF at h
    rw [hc] at h
    have h12 := tfg_lt g h4
    simp only [Bool.and_eq_true, Bool.or_eq_true] at h
    rcases h.2 with h | h
    · have := Nat.le_of_ble_eq_true h
      omega
    · have h5 := List.all_eq_true.mp h (g % 32) (List.mem_range.mpr (by omega))
      have e : 32 * (g / 32) + g % 32 = g := by omega
      rw [e, h4] at h5
      simp only [Bool.or_eq_true] at h5
      rcases h5 with h5 | h5
      · cases h5
      · exact shE_ok hM h9 (g3 (g % 32)) h5
  · obtain ⟨n, rfl⟩ := Int.eq_ofNat_of_zero_le hv.1.1
    have hn : n < 779 := by have := hv.1.2; omega
    obtain ⟨g1, g2, g3⟩ := hM.2 n hn (h9 n hn)
    obtain ⟨-, v1, v2⟩ := trow hv (by omega)
    have v1 : G.1 (n : Int) = _ := v1
    have v2 : G.2.1 (n : Int) = _ := v2
    rw [g1] at v1
    rw [g2] at v2
    have hc : (acell aM1 n).1 = tk t := by omega
    have ht31 : t < 31 := by
      rcases Nat.lt_or_ge t 31 with h | h
      · exact h
      · rw [tk_hi t h] at ht
        omega
    have h := (hk n hn).2
    unfold shA at h
    rw [Bool.or_eq_true, Nat.blt_eq, hc] at h
    rcases h with h | h
    · omega
    · rw [Bool.and_eq_true, Bool.and_eq_true] at h
      have hx : shA1 n t = true := by
        rcases tk_200 t ht31 ht with rfl | rfl | rfl
        · exact h.1.1
        · exact h.1.2
        · exact h.2
      unfold shA1 at hx
      have hz : zeq ((acell aM1 n).2.1 : Int) (tl t) = true := decide_eq_true v2
      rw [hz, hc, Nat.beq_refl] at hx
      obtain ⟨k, rfl⟩ := Int.eq_ofNat_of_zero_le h0
      have h5 := List.all_eq_true.mp hx k (List.mem_range.mpr (by omega))
      exact shE_ok hM h9 (g3 k) h5
