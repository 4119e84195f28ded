/-! ===== contracts of the reader and the loader: printed by a program of mine ===== -/
def v_55 (x0 x1 : Int) (d : mD) : Int := if d x0 1 = 0 then (if d x0 3 - d x0 2 = tsl x1 then (if (List.range (tsl x1).toNat).all (fun i => decide (d (x0 + 1 + 1) (d x0 2 + (i : Int)) = tsc x1 (i : Int))) = true then 1 else 0) else 0) else 0
def W55 (E : mO × tW) : Prop := ∀ {K : tK} {d : mD} {x0 x1 : Int}, Safe d → reB x0 → 0 ≤ x1 ∧ x1 ≤ 6 → ((0 ≤ v_55 x0 x1 d ∧ v_55 x0 x1 d ≤ 1) → K (.inl (some (0, v_55 x0 x1 d))) d) → tCall E 55 [.inr (5, x0), .inl (5, x1)] d K
theorem k_55 {E : mO × tW} {K : tK} {d : mD} {x0 x1 : Int} (hW : W55 E) (hS : Safe d) (hx0 : reB x0) (hk : 0 ≤ x1 ∧ x1 ≤ 6) (h : (0 ≤ v_55 x0 x1 d ∧ v_55 x0 x1 d ≤ 1) → K (.inl (some (0, v_55 x0 x1 d))) d) : tCall E 55 [.inr (5, x0), .inl (5, x1)] d K := hW hS hx0 hk h
theorem irng {c : Prop} [Decidable c] {a b : Int} (ha : 0 ≤ a ∧ a ≤ 127) (hb : 0 ≤ b ∧ b ≤ 127) : 0 ≤ (if c then a else b) ∧ (if c then a else b) ≤ 127 := by
  split
  · exact ha
  · exact hb
theorem tsc_r (k i : Int) : 0 ≤ tsc k i ∧ tsc k i ≤ 127 := by
  unfold tsc
  repeat' (refine irng ?_ ?_)
  all_goals exact ⟨by decide, by decide⟩
theorem w55l {E : mO × tW} {K : tK} {d : mD} {x0 x1 : Int} (hS : Safe d) (hx0 : reB x0) (hk : 0 ≤ x1 ∧ x1 ≤ 6) (hl : d x0 3 - d x0 2 = tsl x1) (k1 : (∀ j, 0 ≤ j → j < tsl x1 → d (x0 + 1 + 1) (d x0 2 + j) = tsc x1 j) → K (.inl (some (0, 1))) d) (k0 : ¬ (∀ j, 0 ≤ j → j < tsl x1 → d (x0 + 1 + 1) (d x0 2 + j) = tsc x1 j) → K (.inl (some (0, 0))) d) : ∀ (n : Nat) (x2 : Int), 0 ≤ x2 → tsl x1 - x2 = (n : Int) → (∀ j, 0 ≤ j → j < x2 → d (x0 + 1 + 1) (d x0 2 + j) = tsc x1 j) → tRun E 55 (27, [.inr (5, x0), .inl (5, x1), .inl (0, x2)], [], 0, 0, d) K := by
  have ht := tsl_rng x1 hk.1 (by omega)
  have w2 := r_5_f2 hS hx0
  have w3 := r_5_f3 hS hx0
  intro n
  induction n with
  | zero =>
    intro x2 h0 hn hj
    exact t_55_27 ⟨by omega, ⟨m_inR (by omega) (by omega), m_inR (by omega) (by omega)⟩, fun _ => ⟨Or.inr rfl, k1 (fun j a b => hj j a (by omega))⟩, fun c => absurd c (by omega)⟩
  | succ n ih =>
    intro x2 h0 hn hj
    have w := r_7_1 hS (reB.tx hx0) (d x0 2 + x2) (by omega)
    have u := tsc_r x1 x2
    refine t_55_27 ⟨by omega, ⟨m_inR (by omega) (by omega), m_inR (by omega) (by omega)⟩, fun c => absurd c (by omega), fun _ => ⟨by omega, by omega, ⟨m_inR (by omega) (by omega), m_inR (by omega) (by omega)⟩, fun e => ?_, fun ne => ⟨Or.inl rfl, k0 (fun a => ne (a x2 h0 (by omega)))⟩⟩⟩
    refine ih (x2 + 1) (by omega) (by omega) (fun j a b => ?_)
    by_cases c : j = x2
    · rw [c]; exact e
    · exact hj j a (by omega)
theorem v55_1 {d : mD} {x0 x1 : Int} (h0 : d x0 1 = 0) (hl : d x0 3 - d x0 2 = tsl x1) (h : ∀ j, 0 ≤ j → j < tsl x1 → d (x0 + 1 + 1) (d x0 2 + j) = tsc x1 j) : v_55 x0 x1 d = 1 := by
  unfold v_55
  rw [if_pos h0, if_pos hl, if_pos]
  refine List.all_eq_true.mpr (fun i hi => ?_)
  have := List.mem_range.mp hi
  exact decide_eq_true (h i (by omega) (by omega))
theorem v55_0 {d : mD} {x0 x1 : Int} (h : ¬ (d x0 1 = 0 ∧ d x0 3 - d x0 2 = tsl x1 ∧ ∀ j, 0 ≤ j → j < tsl x1 → d (x0 + 1 + 1) (d x0 2 + j) = tsc x1 j)) : v_55 x0 x1 d = 0 := by
  unfold v_55
  split
  · rename_i h0
    split
    · rename_i hl
      split
      · rename_i ha
        refine absurd ⟨h0, hl, fun j a b => ?_⟩ h
        have := of_decide_eq_true (List.all_eq_true.mp ha j.toNat (List.mem_range.mpr (by omega)))
        rw [show ((j.toNat : Nat) : Int) = j by omega] at this
        exact this
      · rfl
    · rfl
  · rfl
theorem w55 {E : mO × tW} : W55 E := by
  intro K d x0 x1 hS hx0 hk h
  have ht := tsl_rng x1 hk.1 (by omega)
  have w1 := r_5_f1 hS hx0
  have w2 := r_5_f2 hS hx0
  have w3 := r_5_f3 hS hx0
  have z : ¬ (d x0 1 = 0 ∧ d x0 3 - d x0 2 = tsl x1 ∧ ∀ j, 0 ≤ j → j < tsl x1 → d (x0 + 1 + 1) (d x0 2 + j) = tsc x1 j) → K (.inl (some (0, 0))) d := fun n => by
    have e := v55_0 n
    rw [e] at h
    exact h ⟨by decide, by decide⟩
  refine t_55_0 ⟨m_inR (by omega) (by omega), fun n => ⟨Or.inl rfl, z (fun a => n a.1)⟩, fun h0 => ⟨by omega, ⟨m_inR (by omega) (by omega), m_inR (by omega) (by omega)⟩, fun hl => ?_, fun n => ⟨Or.inl rfl, z (fun a => n a.2.1)⟩⟩⟩
  refine w55l hS hx0 hk hl (fun a => ?_) (fun n => z (fun a => n a.2.2)) (tsl x1).toNat 0 (by decide) (by omega) (fun j a b => absurd b (by omega))
  have e := v55_1 h0 hl a
  rw [e] at h
  exact h ⟨by decide, by decide⟩
def st_53_0 (x0 : Int) (r0 : mD → mD) (d : mD) : mD := if d x0 3 < d (x0 + 1) 1 then (if v_91 (x0 + 1) (d x0 3) d = 0 then mset d x0 1 0 else r0 (mset d x0 3 ((d x0 3) + 1))) else mset d x0 1 0
def lp_53_0 (x0 : Int) : Nat → mD → mD
  | 0 => st_53_0 x0 (fun d => d)
  | n + 1 => st_53_0 x0 (lp_53_0 x0 n)
theorem ls_53_0 {E : mO × tW} {K : tK} {x0 : Int} (hx0 : reB x0) (N0 : Int) (r0 : mD → mD) (ih0 : ∀ (d : mD), Safe d → 0 ≤ 1000 - d x0 3 → 1000 - d x0 3 < N0 → ((∀ b : Int, (b < x0 ∨ x0 < b) → (r0  d) b = d b) → Safe (r0  d) → K (.inl none) (r0  d)) → tRun E 53 (0, [.inr (5, x0)], [], 0, 0, d) K) (d : mD) (hS : Safe d) (hm : 1000 - d x0 3 ≤ N0) (h : (∀ b : Int, (b < x0 ∨ x0 < b) → (st_53_0 x0 r0 d) b = d b) → Safe (st_53_0 x0 r0 d) → K (.inl none) (st_53_0 x0 r0 d)) : tRun E 53 (0, [.inr (5, x0)], [], 0, 0, d) K := by
  refine t_53_0 ?_
  have w8 := r_5_f2 hS hx0
  have w9 := r_5_f3 hS hx0
  have w7 := r_7_f1 hS (reB.tx hx0)
  have q1 := r_5_f3 hS hx0
  have q2 := r_7_f1 hS (reB.tx hx0)
  refine ⟨⟨m_inR (by omega) (by omega), m_inR (by omega) (by omega)⟩, fun c0 => ?_, fun c0 => ?_⟩
  · have hS1 : Safe (mset d x0 1 0) := s_5_f1 hS hx0 (by omega)
    have y0 : st_53_0 x0 r0 d = mset d x0 1 0 := by simp only [st_53_0, if_neg (show ¬ d x0 3 < d (x0 + 1) 1 from Int.not_lt.mpr c0)]
    rw [y0] at h
    exact h (show ∀ b : Int, (b < x0 ∨ x0 < b) → (mset d x0 1 0) b = d b from fun b hb => mset_ne (by omega)) hS1
  · refine k_91 hS (reB.tx hx0) (by omega) (fun e1 => ?_)
    refine t_53_25 ?_
    have w8 := r_5_f2 hS hx0
    have w9 := r_5_f3 hS hx0
    have w7 := r_7_f1 hS (reB.tx hx0)
    refine ⟨m_inR (by omega) (by omega), fun c1 => ?_, fun c1 => ?_⟩
    · have hS2 : Safe (mset d x0 1 0) := s_5_f1 hS hx0 (by omega)
      have y0 : st_53_0 x0 r0 d = mset d x0 1 0 := by simp only [st_53_0, if_pos (show d x0 3 < d (x0 + 1) 1 from c0), if_pos (show v_91 (x0 + 1) (d x0 3) d = 0 from c1)]
      rw [y0] at h
      exact h (show ∀ b : Int, (b < x0 ∨ x0 < b) → (mset d x0 1 0) b = d b from fun b hb => mset_ne (by omega)) hS2
    · have hS3 : Safe (mset d x0 3 ((d x0 3) + 1)) := s_5_f3 hS hx0 (by omega)
      have q3 := r_5_f3 hS3 hx0
      have q4 : (mset d x0 3 ((d x0 3) + 1)) x0 3 = (d x0 3) + 1 := mset_eq
      refine ih0   (mset d x0 3 ((d x0 3) + 1)) hS3 (by omega) (by omega) ?_
      intro F hS_
      have y0 : st_53_0 x0 r0 d = r0 (mset d x0 3 ((d x0 3) + 1)) := by simp only [st_53_0, if_pos (show d x0 3 < d (x0 + 1) 1 from c0), if_neg (show ¬ v_91 (x0 + 1) (d x0 3) d = 0 from c1)]
      rw [y0] at h
      exact h (fun b hb => (F b hb).trans ((show ∀ b : Int, (b < x0 ∨ x0 < b) → (mset d x0 3 ((d x0 3) + 1)) b = d b from fun b hb => mset_ne (by omega)) b hb)) hS_
theorem l_53_0 {E : mO × tW} {K : tK} {x0 : Int} (hx0 : reB x0) : ∀ (n : Nat) (d : mD), Safe d → 1000 - d x0 3 ≤ (n : Int) → ((∀ b : Int, (b < x0 ∨ x0 < b) → (lp_53_0 x0 n d) b = d b) → Safe (lp_53_0 x0 n d) → K (.inl none) (lp_53_0 x0 n d)) → tRun E 53 (0, [.inr (5, x0)], [], 0, 0, d) K := by
  intro n
  induction n with
  | zero =>
    intro   d hS  hm  h
    exact ls_53_0 hx0 0 _ (fun   _ _  m0 m1 _ => absurd m1 (by omega))   d hS  hm  h
  | succ n ih =>
    intro   d hS  hm  h
    exact ls_53_0 hx0 ((n + 1 : Nat) : Int) _ (fun   d hS   m0 m1 h => ih   d hS  (by omega)  h)   d hS  hm  h
def g_53 (x0 : Int) (d : mD) : mD := lp_53_0 x0 (1000 - d x0 3 : Int).toNat d
theorem k_53 {E : mO × tW} {K : tK} {d : mD} {x0 : Int} (hS : Safe d) (hx0 : reB x0) (h : (∀ b : Int, (b < x0 ∨ x0 < b) → (g_53 x0 d) b = d b) → Safe (g_53 x0 d) → K (.inl none) (g_53 x0 d)) : tCall E 53 [.inr (5, x0)] d K := by
  have q5 := r_5_f3 hS hx0
  refine l_53_0 hx0 (1000 - d x0 3 : Int).toNat   d hS (by omega) ?_
  intro F hS_
  have y0 : g_53 x0 d = lp_53_0 x0 (1000 - d x0 3 : Int).toNat d := by simp only [g_53]
  rw [y0] at h
  exact h F hS_
def st_54_5 (x0 : Int) (r5 : mD → mD) (d : mD) : mD := if d x0 3 < d (x0 + 1) 1 then (if v_92 (x0 + 1) (d x0 3) d = 0 then (if (5 : Int) < (d x0 3) - (d x0 2) then mset d x0 1 4 else mset d x0 1 1) else if (d x0 3) - (d x0 2) < 5 then r5 (mset (mset d x0 4 ((((d x0 4) * 10) + (d (x0 + 1 + 1) (d x0 3))) - 48)) x0 3 ((d x0 3) + 1)) else r5 (mset d x0 3 ((d x0 3) + 1))) else if (5 : Int) < (d x0 3) - (d x0 2) then mset d x0 1 4 else mset d x0 1 1
def lp_54_5 (x0 : Int) : Nat → mD → mD
  | 0 => st_54_5 x0 (fun d => d)
  | n + 1 => st_54_5 x0 (lp_54_5 x0 n)
theorem ls_54_5 {E : mO × tW} {K : tK} {x0 : Int} (hx0 : reB x0) (N5 : Int) (r5 : mD → mD) (ih5 : ∀ (d : mD), Safe d → (0 ≤ d x0 4) → ((d x0 3 = d x0 2 + 0 ∧ d x0 4 ≤ 0) ∨ (d x0 3 = d x0 2 + 1 ∧ d x0 4 ≤ 9) ∨ (d x0 3 = d x0 2 + 2 ∧ d x0 4 ≤ 99) ∨ (d x0 3 = d x0 2 + 3 ∧ d x0 4 ≤ 999) ∨ (d x0 3 = d x0 2 + 4 ∧ d x0 4 ≤ 9999) ∨ (d x0 2 + 5 ≤ d x0 3 ∧ d x0 4 ≤ 99999)) → 0 ≤ 1000 - d x0 3 → 1000 - d x0 3 < N5 → ((∀ b : Int, (b < x0 ∨ x0 < b) → (r5  d) b = d b) → Safe (r5  d) → K (.inl none) (r5  d)) → tRun E 54 (5, [.inr (5, x0)], [], 0, 0, d) K) (d : mD) (hS : Safe d) (i0 : 0 ≤ d x0 4) (i1 : (d x0 3 = d x0 2 + 0 ∧ d x0 4 ≤ 0) ∨ (d x0 3 = d x0 2 + 1 ∧ d x0 4 ≤ 9) ∨ (d x0 3 = d x0 2 + 2 ∧ d x0 4 ≤ 99) ∨ (d x0 3 = d x0 2 + 3 ∧ d x0 4 ≤ 999) ∨ (d x0 3 = d x0 2 + 4 ∧ d x0 4 ≤ 9999) ∨ (d x0 2 + 5 ≤ d x0 3 ∧ d x0 4 ≤ 99999)) (hm : 1000 - d x0 3 ≤ N5) (h : (∀ b : Int, (b < x0 ∨ x0 < b) → (st_54_5 x0 r5 d) b = d b) → Safe (st_54_5 x0 r5 d) → K (.inl none) (st_54_5 x0 r5 d)) : tRun E 54 (5, [.inr (5, x0)], [], 0, 0, d) K := by
  refine t_54_5 ?_
  have w8 := r_5_f2 hS hx0
  have w9 := r_5_f3 hS hx0
  have w7 := r_7_f1 hS (reB.tx hx0)
  have q1 := r_5_f3 hS hx0
  have q2 := r_7_f1 hS (reB.tx hx0)
  refine ⟨⟨m_inR (by omega) (by omega), m_inR (by omega) (by omega)⟩, fun c0 => ?_, fun c0 => ?_⟩
  · have q3 := r_5_f2 hS hx0
    refine ⟨⟨m_inR (by omega) (by omega), m_inR (by omega) (by omega)⟩, fun c1 => ?_, fun c1 => ?_⟩
    · have hS1 : Safe (mset d x0 1 1) := s_5_f1 hS hx0 (by omega)
      have y0 : st_54_5 x0 r5 d = mset d x0 1 1 := by simp only [st_54_5, if_neg (show ¬ d x0 3 < d (x0 + 1) 1 from Int.not_lt.mpr c0), if_neg (show ¬ (5 : Int) < (d x0 3) - (d x0 2) from Int.not_lt.mpr c1)]
      rw [y0] at h
      exact h (show ∀ b : Int, (b < x0 ∨ x0 < b) → (mset d x0 1 1) b = d b from fun b hb => mset_ne (by omega)) hS1
    · have hS2 : Safe (mset d x0 1 4) := s_5_f1 hS hx0 (by omega)
      have y0 : st_54_5 x0 r5 d = mset d x0 1 4 := by simp only [st_54_5, if_neg (show ¬ d x0 3 < d (x0 + 1) 1 from Int.not_lt.mpr c0), if_pos (show (5 : Int) < (d x0 3) - (d x0 2) from c1)]
      rw [y0] at h
      exact h (show ∀ b : Int, (b < x0 ∨ x0 < b) → (mset d x0 1 4) b = d b from fun b hb => mset_ne (by omega)) hS2
  · refine k_92 hS (reB.tx hx0) (by omega) (fun e1 => ?_)
    refine t_54_30 ?_
    have w8 := r_5_f2 hS hx0
    have w9 := r_5_f3 hS hx0
    have w7 := r_7_f1 hS (reB.tx hx0)
    refine ⟨m_inR (by omega) (by omega), fun c1 => ?_, fun c1 => ?_⟩
    · have q4 := r_5_f2 hS hx0
      refine ⟨⟨m_inR (by omega) (by omega), m_inR (by omega) (by omega)⟩, fun c2 => ?_, fun c2 => ?_⟩
      · have hS3 : Safe (mset d x0 1 1) := s_5_f1 hS hx0 (by omega)
        have y0 : st_54_5 x0 r5 d = mset d x0 1 1 := by simp only [st_54_5, if_pos (show d x0 3 < d (x0 + 1) 1 from c0), if_pos (show v_92 (x0 + 1) (d x0 3) d = 0 from c1), if_neg (show ¬ (5 : Int) < (d x0 3) - (d x0 2) from Int.not_lt.mpr c2)]
        rw [y0] at h
        exact h (show ∀ b : Int, (b < x0 ∨ x0 < b) → (mset d x0 1 1) b = d b from fun b hb => mset_ne (by omega)) hS3
      · have hS4 : Safe (mset d x0 1 4) := s_5_f1 hS hx0 (by omega)
        have y0 : st_54_5 x0 r5 d = mset d x0 1 4 := by simp only [st_54_5, if_pos (show d x0 3 < d (x0 + 1) 1 from c0), if_pos (show v_92 (x0 + 1) (d x0 3) d = 0 from c1), if_pos (show (5 : Int) < (d x0 3) - (d x0 2) from c2)]
        rw [y0] at h
        exact h (show ∀ b : Int, (b < x0 ∨ x0 < b) → (mset d x0 1 4) b = d b from fun b hb => mset_ne (by omega)) hS4
    · have q5 := r_5_f2 hS hx0
      refine ⟨⟨m_inR (by omega) (by omega), m_inR (by omega) (by omega)⟩, fun c2 => ?_, fun c2 => ?_⟩
      · have hS5 : Safe (mset d x0 3 ((d x0 3) + 1)) := s_5_f3 hS hx0 (by omega)
        have q6 := r_5_f3 hS5 hx0
        have q7 : (mset d x0 3 ((d x0 3) + 1)) x0 4 = d x0 4 := mset_ni (by omega)
        have q8 : (mset d x0 3 ((d x0 3) + 1)) x0 3 = (d x0 3) + 1 := mset_eq
        have q9 : (mset d x0 3 ((d x0 3) + 1)) x0 2 = d x0 2 := mset_ni (by omega)
        refine ih5   (mset d x0 3 ((d x0 3) + 1)) hS5 (by omega) (by omega) (by omega) (by omega) ?_
        intro F hS_
        have y0 : st_54_5 x0 r5 d = r5 (mset d x0 3 ((d x0 3) + 1)) := by simp only [st_54_5, if_pos (show d x0 3 < d (x0 + 1) 1 from c0), if_neg (show ¬ v_92 (x0 + 1) (d x0 3) d = 0 from c1), if_neg (show ¬ (d x0 3) - (d x0 2) < 5 from Int.not_lt.mpr c2)]
        rw [y0] at h
        exact h (fun b hb => (F b hb).trans ((show ∀ b : Int, (b < x0 ∨ x0 < b) → (mset d x0 3 ((d x0 3) + 1)) b = d b from fun b hb => mset_ne (by omega)) b hb)) hS_
      · have q10 := r_5_f4 hS hx0
        have q11 := r_7_1 hS (reB.tx hx0) (d x0 3)
        refine ⟨by omega, ?_⟩
        have hS6 : Safe (mset d x0 4 ((((d x0 4) * 10) + (d (x0 + 1 + 1) (d x0 3))) - 48)) := s_5_f4 hS hx0 (by omega)
        try rw [mset_ni (d := d) (a := x0) (i := (4 : Int)) (v := (((d x0 4) * 10) + (d (x0 + 1 + 1) (d x0 3))) - 48) (b := x0) (j := (3 : Int)) (by omega)]
        have hS7 : Safe (mset (mset d x0 4 ((((d x0 4) * 10) + (d (x0 + 1 + 1) (d x0 3))) - 48)) x0 3 ((d x0 3) + 1)) := s_5_f3 hS6 hx0 (by omega)
        have q12 := r_5_f3 hS7 hx0
        have q13 : (mset (mset d x0 4 ((((d x0 4) * 10) + (d (x0 + 1 + 1) (d x0 3))) - 48)) x0 3 ((d x0 3) + 1)) x0 4 = (((d x0 4) * 10) + (d (x0 + 1 + 1) (d x0 3))) - 48 := (mset_ni (by omega)).trans (mset_eq)
        have q14 : (mset (mset d x0 4 ((((d x0 4) * 10) + (d (x0 + 1 + 1) (d x0 3))) - 48)) x0 3 ((d x0 3) + 1)) x0 3 = (d x0 3) + 1 := mset_eq
        have q15 : (mset (mset d x0 4 ((((d x0 4) * 10) + (d (x0 + 1 + 1) (d x0 3))) - 48)) x0 3 ((d x0 3) + 1)) x0 2 = d x0 2 := (mset_ni (by omega)).trans (mset_ni (by omega))
        refine ih5   (mset (mset d x0 4 ((((d x0 4) * 10) + (d (x0 + 1 + 1) (d x0 3))) - 48)) x0 3 ((d x0 3) + 1)) hS7 (by omega) (by omega) (by omega) (by omega) ?_
        intro F hS_
        have y0 : st_54_5 x0 r5 d = r5 (mset (mset d x0 4 ((((d x0 4) * 10) + (d (x0 + 1 + 1) (d x0 3))) - 48)) x0 3 ((d x0 3) + 1)) := by simp only [st_54_5, if_pos (show d x0 3 < d (x0 + 1) 1 from c0), if_neg (show ¬ v_92 (x0 + 1) (d x0 3) d = 0 from c1), if_pos (show (d x0 3) - (d x0 2) < 5 from c2)]
        rw [y0] at h
        exact h (fun b hb => (F b hb).trans ((show ∀ b : Int, (b < x0 ∨ x0 < b) → (mset (mset d x0 4 ((((d x0 4) * 10) + (d (x0 + 1 + 1) (d x0 3))) - 48)) x0 3 ((d x0 3) + 1)) b = d b from fun b hb => (mset_ne (by omega)).trans (mset_ne (by omega))) b hb)) hS_
theorem l_54_5 {E : mO × tW} {K : tK} {x0 : Int} (hx0 : reB x0) : ∀ (n : Nat) (d : mD), Safe d → (0 ≤ d x0 4) → ((d x0 3 = d x0 2 + 0 ∧ d x0 4 ≤ 0) ∨ (d x0 3 = d x0 2 + 1 ∧ d x0 4 ≤ 9) ∨ (d x0 3 = d x0 2 + 2 ∧ d x0 4 ≤ 99) ∨ (d x0 3 = d x0 2 + 3 ∧ d x0 4 ≤ 999) ∨ (d x0 3 = d x0 2 + 4 ∧ d x0 4 ≤ 9999) ∨ (d x0 2 + 5 ≤ d x0 3 ∧ d x0 4 ≤ 99999)) → 1000 - d x0 3 ≤ (n : Int) → ((∀ b : Int, (b < x0 ∨ x0 < b) → (lp_54_5 x0 n d) b = d b) → Safe (lp_54_5 x0 n d) → K (.inl none) (lp_54_5 x0 n d)) → tRun E 54 (5, [.inr (5, x0)], [], 0, 0, d) K := by
  intro n
  induction n with
  | zero =>
    intro   d hS i0 i1 hm  h
    exact ls_54_5 hx0 0 _ (fun   _ _ _ _ m0 m1 _ => absurd m1 (by omega))   d hS i0 i1 hm  h
  | succ n ih =>
    intro   d hS i0 i1 hm  h
    exact ls_54_5 hx0 ((n + 1 : Nat) : Int) _ (fun   d hS i0 i1  m0 m1 h => ih   d hS i0 i1 (by omega)  h)   d hS i0 i1 hm  h
def g_54 (x0 : Int) (d : mD) : mD := lp_54_5 x0 (1000 - (mset d x0 4 0) x0 3 : Int).toNat (mset d x0 4 0)
theorem k_54 {E : mO × tW} {K : tK} {d : mD} {x0 : Int} (hS : Safe d) (hx0 : reB x0) (hze : d x0 3 = d x0 2) (h : (∀ b : Int, (b < x0 ∨ x0 < b) → (g_54 x0 d) b = d b) → Safe (g_54 x0 d) → K (.inl none) (g_54 x0 d)) : tCall E 54 [.inr (5, x0)] d K := by
  refine t_54_0 ?_
  have w8 := r_5_f2 hS hx0
  have w9 := r_5_f3 hS hx0
  have w7 := r_7_f1 hS (reB.tx hx0)
  have hS8 : Safe (mset d x0 4 0) := s_5_f4 hS hx0 (by omega)
  have q16 := r_5_f3 hS8 hx0
  have q17 : (mset d x0 4 0) x0 4 = 0 := mset_eq
  have q18 : (mset d x0 4 0) x0 3 = d x0 3 := mset_ni (by omega)
  have q19 : (mset d x0 4 0) x0 2 = d x0 2 := mset_ni (by omega)
  refine l_54_5 hx0 (1000 - (mset d x0 4 0) x0 3 : Int).toNat   (mset d x0 4 0) hS8 (by omega) (by omega) (by omega) ?_
  intro F hS_
  have y0 : g_54 x0 d = lp_54_5 x0 (1000 - (mset d x0 4 0) x0 3 : Int).toNat (mset d x0 4 0) := by simp only [g_54]
  rw [y0] at h
  exact h (fun b hb => (F b hb).trans ((show ∀ b : Int, (b < x0 ∨ x0 < b) → (mset d x0 4 0) b = d b from fun b hb => mset_ne (by omega)) b hb)) hS_
def st_52_8 (x0 : Int) (r8 : mD → mD) (d : mD) : mD := if d x0 2 < d (x0 + 1) 1 then (if v_90 (x0 + 1) (d x0 2) d = 0 then (if v_91 (x0 + 1) (d x0 2) (mset d x0 3 (d x0 2)) = 0 then (if v_92 (x0 + 1) (d x0 2) (mset d x0 3 (d x0 2)) = 0 then (if d (x0 + 1 + 1) (d x0 2) = 59 then mset (mset (mset d x0 3 (d x0 2)) x0 1 2) x0 3 ((d x0 2) + 1) else mset (mset (mset d x0 3 (d x0 2)) x0 1 4) x0 3 ((d x0 2) + 1)) else g_54 x0 (mset d x0 3 (d x0 2))) else g_53 x0 (mset d x0 3 (d x0 2))) else r8 (mset d x0 2 ((d x0 2) + 1))) else mset (mset d x0 3 (d x0 2)) x0 1 3
def lp_52_8 (x0 : Int) : Nat → mD → mD
  | 0 => st_52_8 x0 (fun d => d)
  | n + 1 => st_52_8 x0 (lp_52_8 x0 n)
theorem ls_52_8 {E : mO × tW} {K : tK} {x0 : Int} (hx0 : reB x0) (N8 : Int) (r8 : mD → mD) (ih8 : ∀ (d : mD), Safe d → 0 ≤ 1000 - d x0 2 → 1000 - d x0 2 < N8 → ((∀ b : Int, (b < x0 ∨ x0 < b) → (r8  d) b = d b) → Safe (r8  d) → K (.inl none) (r8  d)) → tRun E 52 (8, [.inr (5, x0)], [], 0, 0, d) K) (d : mD) (hS : Safe d) (hm : 1000 - d x0 2 ≤ N8) (h : (∀ b : Int, (b < x0 ∨ x0 < b) → (st_52_8 x0 r8 d) b = d b) → Safe (st_52_8 x0 r8 d) → K (.inl none) (st_52_8 x0 r8 d)) : tRun E 52 (8, [.inr (5, x0)], [], 0, 0, d) K := by
  refine t_52_8 ?_
  have w8 := r_5_f2 hS hx0
  have w9 := r_5_f3 hS hx0
  have w7 := r_7_f1 hS (reB.tx hx0)
  have q1 := r_5_f2 hS hx0
  have q2 := r_7_f1 hS (reB.tx hx0)
  refine ⟨⟨m_inR (by omega) (by omega), m_inR (by omega) (by omega)⟩, fun c0 => ?_, fun c0 => ?_⟩
  · have hS1 : Safe (mset d x0 3 (d x0 2)) := s_5_f3 hS hx0 (by omega)
    try rw [mset_ni (d := d) (a := x0) (i := (3 : Int)) (v := d x0 2) (b := x0) (j := (2 : Int)) (by omega)]
    try rw [mset_ni (d := d) (a := x0) (i := (3 : Int)) (v := d x0 2) (b := x0 + 1) (j := (1 : Int)) (by omega)]
    refine ⟨⟨m_inR (by omega) (by omega), m_inR (by omega) (by omega)⟩, fun c1 => ?_, fun c1 => ?_⟩
    · exact (show False by omega).elim
    · have hS2 : Safe (mset (mset d x0 3 (d x0 2)) x0 1 3) := s_5_f1 hS1 hx0 (by omega)
      have y0 : st_52_8 x0 r8 d = mset (mset d x0 3 (d x0 2)) x0 1 3 := by simp only [st_52_8, if_neg (show ¬ d x0 2 < d (x0 + 1) 1 from Int.not_lt.mpr c0), if_neg (show ¬ d x0 2 < d (x0 + 1) 1 from Int.not_lt.mpr c1)]
      rw [y0] at h
      exact h (show ∀ b : Int, (b < x0 ∨ x0 < b) → (mset (mset d x0 3 (d x0 2)) x0 1 3) b = d b from fun b hb => (mset_ne (by omega)).trans (mset_ne (by omega))) hS2
  · refine k_90 hS (reB.tx hx0) (by omega) (fun e1 => ?_)
    refine t_52_33 ?_
    have w8 := r_5_f2 hS hx0
    have w9 := r_5_f3 hS hx0
    have w7 := r_7_f1 hS (reB.tx hx0)
    refine ⟨m_inR (by omega) (by omega), fun c1 => ?_, fun c1 => ?_⟩
    · have hS3 : Safe (mset d x0 3 (d x0 2)) := s_5_f3 hS hx0 (by omega)
      try rw [mset_ni (d := d) (a := x0) (i := (3 : Int)) (v := d x0 2) (b := x0) (j := (2 : Int)) (by omega)]
      try rw [mset_ni (d := d) (a := x0) (i := (3 : Int)) (v := d x0 2) (b := x0 + 1) (j := (1 : Int)) (by omega)]
      refine ⟨⟨m_inR (by omega) (by omega), m_inR (by omega) (by omega)⟩, fun c2 => ?_, fun c2 => ?_⟩
      · try rw [mset_ni (d := d) (a := x0) (i := (3 : Int)) (v := d x0 2) (b := x0) (j := (2 : Int)) (by omega)]
        refine k_91 hS3 (reB.tx hx0) (by omega) (fun e2 => ?_)
        refine t_52_90 ?_
        have w8 := r_5_f2 hS3 hx0
        have w9 := r_5_f3 hS3 hx0
        have w7 := r_7_f1 hS3 (reB.tx hx0)
        refine ⟨m_inR (by omega) (by omega), fun c3 => ?_, fun c3 => ?_⟩
        · try rw [mset_ni (d := d) (a := x0) (i := (3 : Int)) (v := d x0 2) (b := x0) (j := (2 : Int)) (by omega)]
          refine k_92 hS3 (reB.tx hx0) (by omega) (fun e3 => ?_)
          refine t_52_111 ?_
          have w8 := r_5_f2 hS3 hx0
          have w9 := r_5_f3 hS3 hx0
          have w7 := r_7_f1 hS3 (reB.tx hx0)
          refine ⟨m_inR (by omega) (by omega), fun c4 => ?_, fun c4 => ?_⟩
          · try rw [mset_ni (d := d) (a := x0) (i := (3 : Int)) (v := d x0 2) (b := x0) (j := (2 : Int)) (by omega)]
            try rw [mset_ne (d := d) (a := x0) (i := (3 : Int)) (v := d x0 2) (b := x0 + 1 + 1) (by omega)]
            have q3 := r_7_1 hS (reB.tx hx0) (d x0 2)
            refine ⟨by omega, ⟨m_inR (by omega) (by omega), m_inR (by omega) (by omega)⟩, fun c5 => ?_, fun c5 => ?_⟩
            · have hS4 : Safe (mset (mset d x0 3 (d x0 2)) x0 1 4) := s_5_f1 hS3 hx0 (by omega)
              try rw [mset_ni (d := mset d x0 3 (d x0 2)) (a := x0) (i := (1 : Int)) (v := (4 : Int)) (b := x0) (j := (3 : Int)) (by omega)]
              try rw [mset_eq (d := d) (a := x0) (i := (3 : Int)) (v := d x0 2)]
              have hS5 : Safe (mset (mset (mset d x0 3 (d x0 2)) x0 1 4) x0 3 ((d x0 2) + 1)) := s_5_f3 hS4 hx0 (by omega)
              have y0 : st_52_8 x0 r8 d = mset (mset (mset d x0 3 (d x0 2)) x0 1 4) x0 3 ((d x0 2) + 1) := by simp only [st_52_8, if_pos (show d x0 2 < d (x0 + 1) 1 from c0), if_pos (show v_90 (x0 + 1) (d x0 2) d = 0 from c1), if_pos (show d x0 2 < d (x0 + 1) 1 from c2), if_pos (show v_91 (x0 + 1) (d x0 2) (mset d x0 3 (d x0 2)) = 0 from c3), if_pos (show v_92 (x0 + 1) (d x0 2) (mset d x0 3 (d x0 2)) = 0 from c4), if_neg (show ¬ d (x0 + 1 + 1) (d x0 2) = 59 from c5)]
              rw [y0] at h
              exact h (show ∀ b : Int, (b < x0 ∨ x0 < b) → (mset (mset (mset d x0 3 (d x0 2)) x0 1 4) x0 3 ((d x0 2) + 1)) b = d b from fun b hb => (mset_ne (by omega)).trans ((mset_ne (by omega)).trans (mset_ne (by omega)))) hS5
            · have hS6 : Safe (mset (mset d x0 3 (d x0 2)) x0 1 2) := s_5_f1 hS3 hx0 (by omega)
              try rw [mset_ni (d := mset d x0 3 (d x0 2)) (a := x0) (i := (1 : Int)) (v := (2 : Int)) (b := x0) (j := (3 : Int)) (by omega)]
              try rw [mset_eq (d := d) (a := x0) (i := (3 : Int)) (v := d x0 2)]
              have hS7 : Safe (mset (mset (mset d x0 3 (d x0 2)) x0 1 2) x0 3 ((d x0 2) + 1)) := s_5_f3 hS6 hx0 (by omega)
              have y0 : st_52_8 x0 r8 d = mset (mset (mset d x0 3 (d x0 2)) x0 1 2) x0 3 ((d x0 2) + 1) := by simp only [st_52_8, if_pos (show d x0 2 < d (x0 + 1) 1 from c0), if_pos (show v_90 (x0 + 1) (d x0 2) d = 0 from c1), if_pos (show d x0 2 < d (x0 + 1) 1 from c2), if_pos (show v_91 (x0 + 1) (d x0 2) (mset d x0 3 (d x0 2)) = 0 from c3), if_pos (show v_92 (x0 + 1) (d x0 2) (mset d x0 3 (d x0 2)) = 0 from c4), if_pos (show d (x0 + 1 + 1) (d x0 2) = 59 from c5)]
              rw [y0] at h
              exact h (show ∀ b : Int, (b < x0 ∨ x0 < b) → (mset (mset (mset d x0 3 (d x0 2)) x0 1 2) x0 3 ((d x0 2) + 1)) b = d b from fun b hb => (mset_ne (by omega)).trans ((mset_ne (by omega)).trans (mset_ne (by omega)))) hS7
          · have q4 : (mset d x0 3 (d x0 2)) x0 3 = d x0 2 := mset_eq
            have q5 : (mset d x0 3 (d x0 2)) x0 2 = d x0 2 := mset_ni (by omega)
            refine k_54 hS3 hx0 (by omega) (fun F1 hS8 => ?_)
            refine t_52_118 ?_
            have w8 := r_5_f2 hS8 hx0
            have w9 := r_5_f3 hS8 hx0
            have w7 := r_7_f1 hS8 (reB.tx hx0)
            have y0 : st_52_8 x0 r8 d = g_54 x0 (mset d x0 3 (d x0 2)) := by simp only [st_52_8, if_pos (show d x0 2 < d (x0 + 1) 1 from c0), if_pos (show v_90 (x0 + 1) (d x0 2) d = 0 from c1), if_pos (show d x0 2 < d (x0 + 1) 1 from c2), if_pos (show v_91 (x0 + 1) (d x0 2) (mset d x0 3 (d x0 2)) = 0 from c3), if_neg (show ¬ v_92 (x0 + 1) (d x0 2) (mset d x0 3 (d x0 2)) = 0 from c4)]
            rw [y0] at h
            exact h (show ∀ b : Int, (b < x0 ∨ x0 < b) → (g_54 x0 (mset d x0 3 (d x0 2))) b = d b from fun b hb => (F1 b (by omega)).trans (mset_ne (by omega))) hS8
        · refine k_53 hS3 hx0 (fun F2 hS9 => ?_)
          refine t_52_97 ?_
          have w8 := r_5_f2 hS9 hx0
          have w9 := r_5_f3 hS9 hx0
          have w7 := r_7_f1 hS9 (reB.tx hx0)
          have y0 : st_52_8 x0 r8 d = g_53 x0 (mset d x0 3 (d x0 2)) := by simp only [st_52_8, if_pos (show d x0 2 < d (x0 + 1) 1 from c0), if_pos (show v_90 (x0 + 1) (d x0 2) d = 0 from c1), if_pos (show d x0 2 < d (x0 + 1) 1 from c2), if_neg (show ¬ v_91 (x0 + 1) (d x0 2) (mset d x0 3 (d x0 2)) = 0 from c3)]
          rw [y0] at h
          exact h (show ∀ b : Int, (b < x0 ∨ x0 < b) → (g_53 x0 (mset d x0 3 (d x0 2))) b = d b from fun b hb => (F2 b (by omega)).trans (mset_ne (by omega))) hS9
      · exact (show False by omega).elim
    · have hS10 : Safe (mset d x0 2 ((d x0 2) + 1)) := s_5_f2 hS hx0 (by omega)
      have q6 := r_5_f2 hS10 hx0
      have q7 : (mset d x0 2 ((d x0 2) + 1)) x0 2 = (d x0 2) + 1 := mset_eq
      refine ih8   (mset d x0 2 ((d x0 2) + 1)) hS10 (by omega) (by omega) ?_
      intro F hS_
      have y0 : st_52_8 x0 r8 d = r8 (mset d x0 2 ((d x0 2) + 1)) := by simp only [st_52_8, if_pos (show d x0 2 < d (x0 + 1) 1 from c0), if_neg (show ¬ v_90 (x0 + 1) (d x0 2) d = 0 from c1)]
      rw [y0] at h
      exact h (fun b hb => (F b hb).trans ((show ∀ b : Int, (b < x0 ∨ x0 < b) → (mset d x0 2 ((d x0 2) + 1)) b = d b from fun b hb => mset_ne (by omega)) b hb)) hS_
theorem l_52_8 {E : mO × tW} {K : tK} {x0 : Int} (hx0 : reB x0) : ∀ (n : Nat) (d : mD), Safe d → 1000 - d x0 2 ≤ (n : Int) → ((∀ b : Int, (b < x0 ∨ x0 < b) → (lp_52_8 x0 n d) b = d b) → Safe (lp_52_8 x0 n d) → K (.inl none) (lp_52_8 x0 n d)) → tRun E 52 (8, [.inr (5, x0)], [], 0, 0, d) K := by
  intro n
  induction n with
  | zero =>
    intro   d hS  hm  h
    exact ls_52_8 hx0 0 _ (fun   _ _  m0 m1 _ => absurd m1 (by omega))   d hS  hm  h
  | succ n ih =>
    intro   d hS  hm  h
    exact ls_52_8 hx0 ((n + 1 : Nat) : Int) _ (fun   d hS   m0 m1 h => ih   d hS  (by omega)  h)   d hS  hm  h
def g_52 (x0 : Int) (d : mD) : mD := lp_52_8 x0 (1000 - (mset d x0 2 (d x0 3)) x0 2 : Int).toNat (mset d x0 2 (d x0 3))
theorem k_52 {E : mO × tW} {K : tK} {d : mD} {x0 : Int} (hS : Safe d) (hx0 : reB x0) (h : (∀ b : Int, (b < x0 ∨ x0 < b) → (g_52 x0 d) b = d b) → Safe (g_52 x0 d) → K (.inl none) (g_52 x0 d)) : tCall E 52 [.inr (5, x0)] d K := by
  refine t_52_0 ?_
  have w8 := r_5_f2 hS hx0
  have w9 := r_5_f3 hS hx0
  have w7 := r_7_f1 hS (reB.tx hx0)
  have q8 := r_5_f3 hS hx0
  have hS11 : Safe (mset d x0 2 (d x0 3)) := s_5_f2 hS hx0 (by omega)
  have q9 := r_5_f2 hS11 hx0
  have q10 : (mset d x0 2 (d x0 3)) x0 2 = d x0 3 := mset_eq
  refine l_52_8 hx0 (1000 - (mset d x0 2 (d x0 3)) x0 2 : Int).toNat   (mset d x0 2 (d x0 3)) hS11 (by omega) ?_
  intro F hS_
  have y0 : g_52 x0 d = lp_52_8 x0 (1000 - (mset d x0 2 (d x0 3)) x0 2 : Int).toNat (mset d x0 2 (d x0 3)) := by simp only [g_52]
  rw [y0] at h
  exact h (fun b hb => (F b hb).trans ((show ∀ b : Int, (b < x0 ∨ x0 < b) → (mset d x0 2 (d x0 3)) b = d b from fun b hb => mset_ne (by omega)) b hb)) hS_
def g_51 (x0 : Int) (d : mD) : mD := g_52 x0 (mset d x0 3 0)
theorem k_51 {E : mO × tW} {K : tK} {d : mD} {x0 : Int} (hS : Safe d) (hx0 : reB x0) (h : (∀ b : Int, (b < x0 ∨ x0 < b) → (g_51 x0 d) b = d b) → Safe (g_51 x0 d) → K (.inl none) (g_51 x0 d)) : tCall E 51 [.inr (5, x0)] d K := by
  refine t_51_0 ?_
  have w8 := r_5_f2 hS hx0
  have w9 := r_5_f3 hS hx0
  have w7 := r_7_f1 hS (reB.tx hx0)
  have hS1 : Safe (mset d x0 3 0) := s_5_f3 hS hx0 (by omega)
  refine k_52 hS1 hx0 (fun F1 hS2 => ?_)
  refine t_51_9 ?_
  have w8 := r_5_f2 hS2 hx0
  have w9 := r_5_f3 hS2 hx0
  have w7 := r_7_f1 hS2 (reB.tx hx0)
  have y0 : g_51 x0 d = g_52 x0 (mset d x0 3 0) := by simp only [g_51]
  rw [y0] at h
  exact h (show ∀ b : Int, (b < x0 ∨ x0 < b) → (g_52 x0 (mset d x0 3 0)) b = d b from fun b hb => (F1 b (by omega)).trans (mset_ne (by omega))) hS2
def v_56 (x0 : Int) (d : mD) : Int := if d x0 1 = 0 then v_93 (x0 + 1) (d x0 2) (d x0 3) d else (-1)
theorem k_56 {E : mO × tW} {K : tK} {d : mD} {x0 : Int} (hS : Safe d) (hx0 : reB x0) (h : (-1 ≤ (v_56 x0 d) ∧ (v_56 x0 d) ≤ 1073741823) → K (.inl (some (0, (v_56 x0 d)))) d) : tCall E 56 [.inr (5, x0)] d K := by
  refine t_56_0 ?_
  have w8 := r_5_f2 hS hx0
  have w9 := r_5_f3 hS hx0
  have w7 := r_7_f1 hS (reB.tx hx0)
  have q1 := r_5_f1 hS hx0
  refine ⟨m_inR (by omega) (by omega), fun c0 => ?_, fun c0 => ?_⟩
  · have y0 : v_56 x0 d = (-1) := by simp only [v_56, if_neg (show ¬ d x0 1 = 0 from c0)]
    rw [y0] at h
    exact h (show -1 ≤ ((-1 : Int)) ∧ ((-1 : Int)) ≤ 1073741823 from (by omega))
  · have q2 := r_5_f2 hS hx0
    have q3 := r_5_f3 hS hx0
    refine k_93 hS (reB.tx hx0) (by omega) (by omega) (fun e1 => ?_)
    refine t_56_22 ?_
    have w8 := r_5_f2 hS hx0
    have w9 := r_5_f3 hS hx0
    have w7 := r_7_f1 hS (reB.tx hx0)
    have y0 : v_56 x0 d = v_93 (x0 + 1) (d x0 2) (d x0 3) d := by simp only [v_56, if_pos (show d x0 1 = 0 from c0)]
    rw [y0] at h
    exact h (show -1 ≤ (v_93 (x0 + 1) (d x0 2) (d x0 3) d) ∧ (v_93 (x0 + 1) (d x0 2) (d x0 3) d) ≤ 1073741823 from (by omega))
