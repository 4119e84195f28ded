/-! ===== behind the constructors class and reference are in step ===== -/
noncomputable def ckc (a i : Nat) (c : Int) : Bool := (Nat.blt a 779 && !(Nat.beq (acell aM1 a).1 999)) && (Nat.beq (aget (acell aM1 a) i).1 0 && decide ((aget (acell aM1 a) i).2 = c))
theorem cell {ρ : Nat → Int} {kn : Bool} {G : mG} {d : mD} (hM : gM ρ aM1 779 kn G d) {a i : Nat} {c : Int} (h : ckc a i c = true) : d (a : Int) (i : Int) = c := by
  unfold ckc at h
  simp only [Bool.and_eq_true] at h
  obtain ⟨⟨h1, h2⟩, h3, h4⟩ := h
  have h9 : (acell aM1 a).1 ≠ 999 := fun e => by
    rw [e] at h2
    cases h2
  obtain ⟨-, -, g⟩ := hM.2 a (Nat.blt_eq.mp h1) h9
  have g := g i
  have e : aget (acell aM1 a) i = (0, c) := Prod.ext (Nat.eq_of_beq_eq_true h3) (of_decide_eq_true h4)
  rw [e] at g
  exact g
noncomputable def tokC (p : Nat × Int) : Bool := (decide (0 ≤ p.2) && Nat.blt p.2.toNat 779) && (Nat.beq (acell aM1 p.2.toNat).1 (tk p.1) && !(Nat.beq (acell aM1 p.2.toNat).1 999)) && (Nat.blt p.1 12 || decide (((acell aM1 p.2.toNat).2.1 : Int) = tl p.1))
theorem toks_ok : toks.all tokC = true := by decide +kernel
theorem tok_start {ρ : Nat → Int} {kn : Bool} {G : mG} {d : mD} (hM : gM ρ aM1 779 kn G d) : ∀ p, p ∈ toks → tokV (G.1, G.2.1) (.inr p) := fun p hp => by
  have h := List.all_eq_true.mp toks_ok p hp
  unfold tokC at h
  simp only [Bool.and_eq_true, Bool.or_eq_true] at h
  obtain ⟨⟨⟨h1, h2⟩, h3, h4⟩, h5⟩ := h
  have h1 := of_decide_eq_true h1
  have h2 := Nat.blt_eq.mp h2
  have h9 : (acell aM1 p.2.toNat).1 ≠ 999 := fun e => by
    rw [e] at h4
    cases h4
  obtain ⟨g1, g2, -⟩ := hM.2 p.2.toNat h2 h9
  have e : ((p.2.toNat : Nat) : Int) = p.2 := by omega
  rw [e] at g1 g2
  refine ⟨⟨h1, by omega⟩, ?_, fun h12 => ?_⟩
  · show G.1 p.2 = _
    rw [g1, Nat.eq_of_beq_eq_true h3]
  · show G.2.1 p.2 = _
    rw [g2]
    rcases h5 with h5 | h5
    · have := Nat.blt_eq.mp h5
      omega
    · exact of_decide_eq_true h5
theorem row0a : (List.range 12).all (fun i => ckc 770 i (if i = 1 then 20 else if i = 2 then 1 else if i = 3 then 1 else if i = 4 then 2 else if i = 5 then 5 else if i = 6 then 3 else if i = 7 then 2 else if i = 8 then 3 else 0)) = true := by decide +kernel
theorem row0t : (List.range 61).all (fun t => ckc 770 (452 + 24 * t + 7) 0) = true := by decide +kernel
theorem row0h : (List.range 3).all (fun p => (List.range 16).all (fun i => ckc (19 + 2 * p) i 0)) = true := by decide +kernel
theorem ci_start {ρ : Nat → Int} {kn : Bool} {G : mG} {d : mD} (hM : gM ρ aM1 779 kn G d) : CI d ∧ RP d := by
  have w0 : d 770 0 = 0 := cell hM (a := 770) (i := 0) (by decide +kernel)
  have w1 : d 770 1 = 20 := cell hM (a := 770) (i := 1) (by decide +kernel)
  have w2 : d 770 2 = 1 := cell hM (a := 770) (i := 2) (by decide +kernel)
  have w3 : d 770 3 = 1 := cell hM (a := 770) (i := 3) (by decide +kernel)
  have w4 : d 770 4 = 2 := cell hM (a := 770) (i := 4) (by decide +kernel)
  have w5 : d 770 5 = 5 := cell hM (a := 770) (i := 5) (by decide +kernel)
  have w6 : d 770 6 = 3 := cell hM (a := 770) (i := 6) (by decide +kernel)
  have w7 : d 770 7 = 2 := cell hM (a := 770) (i := 7) (by decide +kernel)
  have w8 : d 770 8 = 3 := cell hM (a := 770) (i := 8) (by decide +kernel)
  have w9 : d 770 9 = 0 := cell hM (a := 770) (i := 9) (by decide +kernel)
  have w10 : d 770 10 = 0 := cell hM (a := 770) (i := 10) (by decide +kernel)
  have w11 : d 770 11 = 0 := cell hM (a := 770) (i := 11) (by decide +kernel)
  have o0 : d 770 12 = 1 ∧ d 770 13 = 1 ∧ d 770 14 = 2 ∧ d 770 15 = 6 ∧ d 770 16 = 1 ∧ d 770 17 = 0 := ⟨cell hM (a := 770) (i := 12) (by decide +kernel), cell hM (a := 770) (i := 13) (by decide +kernel), cell hM (a := 770) (i := 14) (by decide +kernel), cell hM (a := 770) (i := 15) (by decide +kernel), cell hM (a := 770) (i := 16) (by decide +kernel), cell hM (a := 770) (i := 17) (by decide +kernel)⟩
  have o1 : d 770 80 = 2 ∧ d 770 81 = 1 ∧ d 770 82 = 1 ∧ d 770 83 = 4 ∧ d 770 84 = 1 ∧ d 770 85 = 0 := ⟨cell hM (a := 770) (i := 80) (by decide +kernel), cell hM (a := 770) (i := 81) (by decide +kernel), cell hM (a := 770) (i := 82) (by decide +kernel), cell hM (a := 770) (i := 83) (by decide +kernel), cell hM (a := 770) (i := 84) (by decide +kernel), cell hM (a := 770) (i := 85) (by decide +kernel)⟩
  have o18 : d 770 18 = 0 := cell hM (a := 770) (i := 18) (by decide +kernel)
  have o86 : d 770 86 = 0 := cell hM (a := 770) (i := 86) (by decide +kernel)
  have c0 : d 4 0 = 1 ∧ d 5 0 = 1 ∧ d 6 0 = 2 ∧ d 7 0 = 6 ∧ d 8 0 = 1 ∧ d 9 0 = 0 := ⟨cell hM (a := 4) (i := 0) (by decide +kernel), cell hM (a := 5) (i := 0) (by decide +kernel), cell hM (a := 6) (i := 0) (by decide +kernel), cell hM (a := 7) (i := 0) (by decide +kernel), cell hM (a := 8) (i := 0) (by decide +kernel), cell hM (a := 9) (i := 0) (by decide +kernel)⟩
  have c1 : d 4 1 = 2 ∧ d 5 1 = 1 ∧ d 6 1 = 1 ∧ d 7 1 = 4 ∧ d 8 1 = 1 ∧ d 9 1 = 0 := ⟨cell hM (a := 4) (i := 1) (by decide +kernel), cell hM (a := 5) (i := 1) (by decide +kernel), cell hM (a := 6) (i := 1) (by decide +kernel), cell hM (a := 7) (i := 1) (by decide +kernel), cell hM (a := 8) (i := 1) (by decide +kernel), cell hM (a := 9) (i := 1) (by decide +kernel)⟩
  have p0 : d 770 420 = 24 ∧ d 770 421 = 0 ∧ d 770 422 = 25 ∧ d 770 423 = 0 ∧ d 770 424 = 26 ∧ d 770 425 = 0 := ⟨cell hM (a := 770) (i := 420) (by decide +kernel), cell hM (a := 770) (i := 421) (by decide +kernel), cell hM (a := 770) (i := 422) (by decide +kernel), cell hM (a := 770) (i := 423) (by decide +kernel), cell hM (a := 770) (i := 424) (by decide +kernel), cell hM (a := 770) (i := 425) (by decide +kernel)⟩
  have q0 : d 12 0 = 24 ∧ d 12 1 = 25 ∧ d 12 2 = 26 ∧ d 13 0 = 0 ∧ d 13 1 = 0 ∧ d 13 2 = 0 := ⟨cell hM (a := 12) (i := 0) (by decide +kernel), cell hM (a := 12) (i := 1) (by decide +kernel), cell hM (a := 12) (i := 2) (by decide +kernel), cell hM (a := 13) (i := 0) (by decide +kernel), cell hM (a := 13) (i := 1) (by decide +kernel), cell hM (a := 13) (i := 2) (by decide +kernel)⟩
  have q1 : d 14 0 = 0 ∧ d 14 1 = 0 ∧ d 14 2 = 0 ∧ d 15 0 = 0 ∧ d 15 1 = 0 ∧ d 15 2 = 0 ∧ d 16 0 = 0 ∧ d 16 1 = 0 ∧ d 16 2 = 0 := ⟨cell hM (a := 14) (i := 0) (by decide +kernel), cell hM (a := 14) (i := 1) (by decide +kernel), cell hM (a := 14) (i := 2) (by decide +kernel), cell hM (a := 15) (i := 0) (by decide +kernel), cell hM (a := 15) (i := 1) (by decide +kernel), cell hM (a := 15) (i := 2) (by decide +kernel), cell hM (a := 16) (i := 0) (by decide +kernel), cell hM (a := 16) (i := 1) (by decide +kernel), cell hM (a := 16) (i := 2) (by decide +kernel)⟩
  have s0 : d 1 1 = 20 ∧ d 1 2 = 0 := ⟨cell hM (a := 1) (i := 1) (by decide +kernel), cell hM (a := 1) (i := 2) (by decide +kernel)⟩
  have s1 : d 2 0 = 1 ∧ d 2 1 = 1 ∧ d 2 2 = 2 ∧ d 2 3 = 5 ∧ d 2 4 = 3 := ⟨cell hM (a := 2) (i := 0) (by decide +kernel), cell hM (a := 2) (i := 1) (by decide +kernel), cell hM (a := 2) (i := 2) (by decide +kernel), cell hM (a := 2) (i := 3) (by decide +kernel), cell hM (a := 2) (i := 4) (by decide +kernel)⟩
  have z1 : d 3 0 = 2 ∧ d 11 0 = 3 ∧ d 50 0 = 0 ∧ d 58 0 = 0 ∧ d 58 5 = 0 := ⟨cell hM (a := 3) (i := 0) (by decide +kernel), cell hM (a := 11) (i := 0) (by decide +kernel), cell hM (a := 50) (i := 0) (by decide +kernel), cell hM (a := 58) (i := 0) (by decide +kernel), cell hM (a := 58) (i := 5) (by decide +kernel)⟩
  have z2 : d 64 1 = 0 ∧ d 64 2 = 0 ∧ d 769 7 = 0 ∧ d 769 9 = 0 ∧ d 578 1 = 0 := ⟨cell hM (a := 64) (i := 1) (by decide +kernel), cell hM (a := 64) (i := 2) (by decide +kernel), cell hM (a := 769) (i := 7) (by decide +kernel), cell hM (a := 769) (i := 9) (by decide +kernel), cell hM (a := 578) (i := 1) (by decide +kernel)⟩
  have z3 : d 571 0 = 0 ∧ d 571 1 = 0 ∧ d 775 0 = 0 ∧ d 775 1 = 0 := ⟨cell hM (a := 571) (i := 0) (by decide +kernel), cell hM (a := 571) (i := 1) (by decide +kernel), cell hM (a := 775) (i := 0) (by decide +kernel), cell hM (a := 775) (i := 1) (by decide +kernel)⟩
  have t0 : ∀ t : Int, 0 ≤ t → t ≤ 60 → d 770 (452 + 24 * t + 7) = 0 := fun t a b => by
    obtain ⟨n, rfl⟩ := Int.eq_ofNat_of_zero_le a
    have := cell hM (List.all_eq_true.mp row0t n (List.mem_range.mpr (by omega)))
    rw [show (452 + 24 * (n : Int) + 7) = ((452 + 24 * n + 7 : Nat) : Int) by omega]
    exact this
  have h0 : ∀ p i : Int, 0 ≤ p → p < 3 → 0 ≤ i → i < 16 → d (19 + 2 * p) i = 0 := fun p i a b x y => by
    obtain ⟨n, rfl⟩ := Int.eq_ofNat_of_zero_le a
    obtain ⟨m, rfl⟩ := Int.eq_ofNat_of_zero_le x
    have := cell hM (List.all_eq_true.mp (List.all_eq_true.mp row0h n (List.mem_range.mpr (by omega))) m (List.mem_range.mpr (by omega)))
    rw [show (19 + 2 * (n : Int)) = ((19 + 2 * n : Nat) : Int) by omega]
    exact this
  have two : ∀ o : Int, 0 ≤ o → o < 2 → o = 0 ∨ o = 1 := fun o a b => by omega
  have thr : ∀ p : Int, 0 ≤ p → p < 3 → p = 0 ∨ p = 1 ∨ p = 2 := fun p a b => by omega
  have ib0 : ∀ q : Nat, ib 0 q = true → False := fun q h => by
    rw [ib_zero] at h
    cases h
  have lb0 : ∀ q : Nat, lb 0 q = true → False := fun q h => by
    rw [lb_zero] at h
    cases h
  refine ⟨⟨⟨⟨⟨by omega, by omega, by omega, by omega, by omega, by omega, by omega, by omega, by omega, by omega, by omega, by omega⟩, ?_, ?_, fun t a b => by omega, fun t a b => by omega, fun k a b => by omega, ?_, fun k a b => by omega⟩, fun t a b => by omega, ?_, by omega, ?_⟩, noneH (by omega) z2.2.1 z2.2.2.1, ?_, by omega, by omega, fun i a b => by omega⟩, ?_⟩
  · intro o a b
    rw [w7] at b
    rcases two o a b with h | h
    · subst h
      show (1 ≤ d 770 13 ∧ d 770 13 ≤ 4) ∧ (1 ≤ d 770 14 ∧ d 770 14 ≤ 6) ∧ (1 ≤ d 770 15 ∧ d 770 15 ≤ 20) ∧ (d 770 16 = 0 ∨ d 770 16 = 1) ∧ (0 ≤ d 770 17 ∧ d 770 17 ≤ 16) ∧ (d 770 16 = 0 → d 770 17 = 0) ∧ d 770 18 = csum (fun t => if d 770 (452 + 24 * t + 4) = 1 ∧ d 770 (452 + 24 * t + 1) = 0 then 1 else 0) (d 770 9).toNat
      have e : csum (fun t => if d 770 (452 + 24 * t + 4) = 1 ∧ d 770 (452 + 24 * t + 1) = 0 then 1 else 0) (d 770 9).toNat = 0 := by rw [w9]; rfl
      rw [e]
      omega
    · subst h
      show (1 ≤ d 770 81 ∧ d 770 81 ≤ 4) ∧ (1 ≤ d 770 82 ∧ d 770 82 ≤ 6) ∧ (1 ≤ d 770 83 ∧ d 770 83 ≤ 20) ∧ (d 770 84 = 0 ∨ d 770 84 = 1) ∧ (0 ≤ d 770 85 ∧ d 770 85 ≤ 16) ∧ (d 770 84 = 0 → d 770 85 = 0) ∧ d 770 86 = csum (fun t => if d 770 (452 + 24 * t + 4) = 1 ∧ d 770 (452 + 24 * t + 1) = 1 then 1 else 0) (d 770 9).toNat
      have e : csum (fun t => if d 770 (452 + 24 * t + 4) = 1 ∧ d 770 (452 + 24 * t + 1) = 1 then 1 else 0) (d 770 9).toNat = 0 := by rw [w9]; rfl
      rw [e]
      omega
  · intro o a b k x y
    rw [w7] at b
    rcases two o a b with h | h
    · subst h
      have y : k < d 770 17 := y
      omega
    · subst h
      have y : k < d 770 85 := y
      omega
  · rw [w10, w11]
    rfl
  · intro p a b
    rw [w8] at b
    have e : C2 (d 770) = 0 := by
      unfold C2
      rw [w10]
      rfl
    rw [e]
    rcases thr p a b with h | h | h
    · subst h
      show 0 ≤ d 770 421 ∧ d 770 421 ≤ 99 * 0
      omega
    · subst h
      show 0 ≤ d 770 423 ∧ d 770 423 ≤ 99 * 0
      omega
    · subst h
      show 0 ≤ d 770 425 ∧ d 770 425 ≤ 99 * 0
      omega
  · refine ⟨⟨?_, ?_, ?_⟩, ⟨?_, ?_⟩, ?_, ⟨?_, ?_⟩, ⟨?_, fun t a b => by omega⟩, fun t a b => by omega, ⟨?_, fun k a b => by omega⟩, ⟨?_, fun k a b => by omega⟩, ?_, ?_⟩
    · rw [s0.1, w1]
    · rw [s0.2, w0]
    · intro k a b
      have hk : k = 0 ∨ k = 1 ∨ k = 2 ∨ k = 3 ∨ k = 4 := by omega
      rcases hk with h | h | h | h | h
      · subst h
        show d 2 0 = d 770 2
        omega
      · subst h
        show d 2 1 = d 770 3
        omega
      · subst h
        show d 2 2 = d 770 4
        omega
      · subst h
        show d 2 3 = d 770 5
        omega
      · subst h
        show d 2 4 = d 770 6
        omega
    · show d 3 0 = d 770 7
      omega
    · intro o a b
      rw [w7] at b
      rcases two o a b with h | h
      · subst h
        show (okN (d 4 0) ∧ nm (d 4 0) = d 770 12) ∧ d 5 0 = d 770 13 ∧ d 6 0 = d 770 14 ∧ d 7 0 = d 770 15 ∧ d 8 0 = d 770 16 ∧ d 9 0 = d 770 17
        rw [c0.1, o0.1]
        exact ⟨⟨by unfold okN; decide, by decide⟩, by omega, by omega, by omega, by omega, by omega⟩
      · subst h
        show (okN (d 4 1) ∧ nm (d 4 1) = d 770 80) ∧ d 5 1 = d 770 81 ∧ d 6 1 = d 770 82 ∧ d 7 1 = d 770 83 ∧ d 8 1 = d 770 84 ∧ d 9 1 = d 770 85
        rw [c1.1, o1.1]
        exact ⟨⟨by unfold okN; decide, by decide⟩, by omega, by omega, by omega, by omega, by omega⟩
    · intro o a b k x y
      rw [w7] at b
      rcases two o a b with h | h
      · subst h
        have y : k < d 770 17 := y
        omega
      · subst h
        have y : k < d 770 85 := y
        omega
    · show d 11 0 = d 770 8
      omega
    · intro p a b
      rw [w8] at b
      rcases thr p a b with h | h | h
      · subst h
        show (okN (d 12 0) ∧ nm (d 12 0) = d 770 420) ∧ d 13 0 = d 770 421
        rw [q0.1, p0.1]
        exact ⟨⟨by unfold okN; decide, by decide⟩, by omega⟩
      · subst h
        show (okN (d 12 1) ∧ nm (d 12 1) = d 770 422) ∧ d 13 1 = d 770 423
        rw [q0.2.1, p0.2.2.1]
        exact ⟨⟨by unfold okN; decide, by decide⟩, by omega⟩
      · subst h
        show (okN (d 12 2) ∧ nm (d 12 2) = d 770 424) ∧ d 13 2 = d 770 425
        rw [q0.2.2.1, p0.2.2.2.2.1]
        exact ⟨⟨by unfold okN; decide, by decide⟩, by omega⟩
    · show d 50 0 = d 770 9
      omega
    · show d 58 0 = d 770 10
      omega
    · show d 58 5 = d 770 11
      omega
    · intro p a b
      rw [w8] at b
      have e1 : madeR (d 770) p = 0 := by
        unfold madeR
        rw [w10]
        rfl
      have e2 : attR (d 770) p = 0 := by
        unfold attR
        rw [w9]
        rfl
      rw [e1, e2]
      have e3 : d (1 + 13) p = 0 ∧ d (1 + 14) p = 0 ∧ d (1 + 15) p = 0 := by
        show d 14 p = 0 ∧ d 15 p = 0 ∧ d 16 p = 0
        rcases thr p a b with h | h | h
        · subst h; omega
        · subst h; omega
        · subst h; omega
      refine ⟨e3.1, e3.2.1, fun q x y => ?_⟩
      rw [e3.2.2]
      exact ⟨fun h => (ib0 _ h).elim, fun ⟨t, u, v, _⟩ => by omega⟩
    · intro p a b h x y
      rw [w8] at b
      have e : d (1 + 18 + 2 * p) (h / 64) = 0 := by
        rw [show (1 : Int) + 18 = 19 by decide]
        exact h0 p (h / 64) a b (by omega) (by omega)
      rw [e]
      exact ⟨fun h => (lb0 _ h).elim, fun ⟨t, u, v, _⟩ => by omega⟩
  · intro j hj
    rcases hj with h | h
    · subst h
      exact ⟨by omega, fun h => absurd z3.2.2.1 h⟩
    · subst h
      exact ⟨by omega, fun h => absurd z3.2.2.2 h⟩
  · have r1 : d 576 2 = 0 := cell hM (a := 576) (i := 2) (by decide +kernel)
    have r2 : d 576 3 = -1 := cell hM (a := 576) (i := 3) (by decide +kernel)
    have r3 : d 769 11 = 0 := cell hM (a := 769) (i := 11) (by decide +kernel)
    have r4 : d 769 12 = -1 := cell hM (a := 769) (i := 12) (by decide +kernel)
    exact ⟨RW.new (fun t a b => Or.inr (by rw [t0 t a b]; decide)) z2.2.2.1 z3.2.2.1 z3.2.2.2, by omega, by omega⟩
