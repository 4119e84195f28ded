/-! ===== World.make ===== -/
theorem SW.set {b : Int} {d : mD} (h : SW b d) {a i v : Int} (hv : -1000000 ≤ v ∧ v ≤ 1000000) : SW b (mset d a i v) := by
  intro c j h1 h2
  unfold mset
  split
  · exact hv
  · exact h c j h1 h2
def mkD (x0 x1 h : Int) (d : mD) : mD := mset (mset (mset (mset (mset (mset (mset d (x0 + 18) (1300 * d (x0 + 10) x1 + h) 1) (x0 + 19) (d x0 5) (d (x0 + 10) x1)) (x0 + 20) (d x0 5) x1) (x0 + 21) (d x0 5) h) (x0 + 22) (d x0 5) 0) (x0 + 23) (d x0 5) (d x0 0 / 20)) x0 5 (d x0 5 + 1)
abbrev mkC (x0 x1 h : Int) (d : mD) : Prop := d (x0 + 18) (1300 * d (x0 + 10) x1 + h) = 0 ∧ d x0 5 < 200 ∧ csum (wMadeF x0 (d (x0 + 10) x1) d) (d x0 5).toNat < d (x0 + 1) 3
def wMk (x0 x1 : Int) : Nat → Int → Int × mD → Int × mD
  | 0, _, s => s
  | n + 1, h, s => wMk x0 x1 n (h + 1) (if mkC x0 x1 h s.2 then (s.1 + 1, mkD x0 x1 h s.2) else s)
-- what a World must be for it
def MKI (x0 x1 : Int) (d : mD) : Prop := SW x0 d ∧ (0 ≤ d (x0 + 10) x1 ∧ d (x0 + 10) x1 < 16) ∧ 0 ≤ d x0 0 ∧ (0 ≤ d x0 5 ∧ d x0 5 ≤ 200) ∧ (∀ k, 0 ≤ k → k < d x0 5 → 0 ≤ d (x0 + 20) k ∧ d (x0 + 20) k < 61) ∧ d (x0 + 13) x1 ≤ 1300
theorem MKI.step {x0 x1 h : Int} {d : mD} (h1 : 0 ≤ x1 ∧ x1 < 61) (hi : MKI x0 x1 d) (hh : 0 ≤ h ∧ h < 1300) (hc : mkC x0 x1 h d) : MKI x0 x1 (mkD x0 x1 h d) ∧ mkD x0 x1 h d (x0 + 13) x1 = d (x0 + 13) x1 := by
  obtain ⟨a, b, c, e, f, g⟩ := hi
  obtain ⟨c1, c2, c3⟩ := hc
  have t := a x0 0 (by omega) (by omega)
  have e5 : mkD x0 x1 h d x0 5 = d x0 5 + 1 := by
    unfold mkD
    exact mz_e rfl rfl
  have e13 : mkD x0 x1 h d (x0 + 13) x1 = d (x0 + 13) x1 := by
    unfold mkD
    simp (disch := omega) only [mz_a]
  have e10 : mkD x0 x1 h d (x0 + 10) x1 = d (x0 + 10) x1 := by
    unfold mkD
    simp (disch := omega) only [mz_a]
  have e0 : mkD x0 x1 h d x0 0 = d x0 0 := by
    unfold mkD
    simp (disch := omega) only [mz_a, mz_i]
  refine ⟨⟨?_, by rw [e10]; exact b, by rw [e0]; exact c, by rw [e5]; omega, fun k k0 k1 => ?_, by rw [e13]; exact g⟩, e13⟩
  · unfold mkD
    exact ((((((a.set (by omega)).set (by omega)).set (by omega)).set (by omega)).set (by omega)).set (by omega)).set (by omega)
  · rw [e5] at k1
    by_cases q : k = d x0 5
    · have : mkD x0 x1 h d (x0 + 20) k = x1 := by
        unfold mkD
        simp (disch := omega) only [mz_a]
        exact mz_e rfl q
      rw [this]
      exact h1
    · have : mkD x0 x1 h d (x0 + 20) k = d (x0 + 20) k := by
        unfold mkD
        simp (disch := omega) only [mz_a, mz_i]
      rw [this]
      exact f k k0 (by omega)
theorem wMade_r {x0 x1 : Int} {d : mD} {n : Nat} : 0 ≤ csum (wMadeF x0 x1 d) n ∧ csum (wMadeF x0 x1 d) n ≤ (n : Int) * 1 := csum_rng (fun i _ _ => by unfold wMadeF; split <;> omega)
theorem mk_run {E : mO × tW} {K : tK} {x0 x1 : Int} (h1 : 0 ≤ x1 ∧ x1 < 61) : ∀ (n : Nat) (h m : Int) (d : mD), MKI x0 x1 d → 0 ≤ h → h ≤ 3000000 → n = (d (x0 + 13) x1 - h).toNat → K (.inl (some (0, (wMk x0 x1 n h (m, d)).1))) (wMk x0 x1 n h (m, d)).2 → tRun E 349 (16, [.inr (41, x0), .inl (0, x1), .inl (0, m), .inl (0, h)], [], 0, 0, d) K
  | 0, h, m, d, hi, h0, h9, hn, k => by
    refine t_349_16 ?_
    exact ⟨h1, ⟨m_inR (by omega) (by omega), hi.1.m (by omega) (by omega)⟩, fun _ => k, fun c => absurd c (by omega)⟩
  | n + 1, h, m, d, hi, h0, h9, hn, k => by
    obtain ⟨a, b, c, e, f, g⟩ := id hi
    have t := a x0 0 (by omega) (by omega)
    have k0 : ∀ s, (if mkC x0 x1 h d then (m + 1, mkD x0 x1 h d) else (m, d)) = s → K (.inl (some (0, (wMk x0 x1 n (h + 1) s).1))) (wMk x0 x1 n (h + 1) s).2 := fun s hs => by
      rw [← hs]
      exact k
    have no : ¬ mkC x0 x1 h d → tRun E 349 (16, [.inr (41, x0), .inl (0, x1), .inl (0, m), .inl (0, h + 1)], [], 0, 0, d) K := fun hc => mk_run h1 n (h + 1) m d hi (by omega) (by omega) (by omega) (k0 _ (if_neg hc))
    refine t_349_16 ?_
    refine ⟨h1, ⟨m_inR (by omega) (by omega), a.m (by omega) (by omega)⟩, fun c => absurd c (by omega), fun _ => ⟨h1, ⟨by omega, by omega⟩, a.m (by omega) (by omega), fun u => no (fun z => u z.1), fun u => ⟨⟨a.m (by omega) (by omega), m_inR (by omega) (by omega)⟩, fun v => no (fun z => by have := z.2.1; omega), fun v => ⟨h1, ?_⟩⟩⟩⟩
    refine k_348 a (m_inR (by omega) (by omega)) c e f ?_
    have r := wMade_r (x0 := x0) (x1 := d (x0 + 10) x1) (d := d) (n := (d x0 5).toNat)
    refine t_349_66 ?_
    refine ⟨by decide, ⟨m_inR (by omega) (by omega), a.m (by omega) (by omega)⟩, fun w => no (fun z => by have := z.2.2; omega), fun w => ?_⟩
    have hc : mkC x0 x1 h d := ⟨u, v, w⟩
    obtain ⟨s1, s2⟩ := hi.step h1 ⟨h0, by omega⟩ hc
    have k1 := mk_run (E := E) h1 n (h + 1) (m + 1) (mkD x0 x1 h d) s1 (by omega) (by omega) (by rw [s2]; omega) (k0 _ (if_pos hc))
    unfold mkD at k1
    simp (disch := omega) only [mz_e, mz_i, mz_a]
    repeat' apply And.intro
    all_goals first
      | exact k1
      | exact Or.inr trivial
      | omega
def wMake (x0 x1 : Int) (d : mD) : Int × mD := wMk x0 x1 (d (x0 + 13) x1 - (d (x0 + 12) x1 + d (x0 + 1) 0)).toNat (d (x0 + 12) x1 + d (x0 + 1) 0) (0, d)
theorem k_349 {E : mO × tW} {K : tK} {d : mD} {x0 x1 : Int} (h1 : 0 ≤ x1 ∧ x1 < 61) (hi : MKI x0 x1 d) (hj : 0 ≤ d (x0 + 12) x1 + d (x0 + 1) 0) (h : K (.inl (some (0, (wMake x0 x1 d).1))) (wMake x0 x1 d).2) : tCall E 349 [.inr (41, x0), .inl (0, x1)] d K := by
  have a := hi.1 (x0 + 12) x1 (by omega) (by omega)
  have b := hi.1 (x0 + 1) 0 (by omega) (by omega)
  exact t_349_0 ⟨h1, by decide, mk_run h1 _ _ _ _ hi hj (by omega) rfl h⟩
