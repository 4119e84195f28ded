/-! ===== calls ===== -/
theorem mpop_out : ∀ (n : Nat) (S a0 as S' : List mV), mpop n S a0 = some (as, S') → ∃ ts, as = ts ++ a0 ∧ S = ts.reverse ++ S' ∧ ts.length = n
  | 0, S, a0, as, S', h => by
    simp only [mpop, Option.some.injEq, Prod.mk.injEq] at h
    exact ⟨[], by simp [h.1], by simp [h.2], rfl⟩
  | n + 1, [], a0, as, S', h => by cases h
  | n + 1, v :: S, a0, as, S', h => by
    obtain ⟨ts, h1, h2, h3⟩ := mpop_out n S (v :: a0) as S' h
    exact ⟨ts ++ [v], by simp [h1], by simp [h2], by simp [h3]⟩
theorem mML_rng : (List.range 16).all (fun o => (mML o).all (fun e => Nat.blt 0 e.2.1 && Nat.blt e.2.1 341)) = true := by decide +kernel
theorem mNL_rng : (List.range 16).all (fun o => (mNL o).all (fun e => Nat.blt 0 e.2.1 && Nat.blt e.2.1 341)) = true := by decide +kernel
theorem mkhh_ok : (List.range 341).all (fun j => Nat.beq (mkd j) 0 || (mhh j).isEmpty) = true := by decide +kernel
theorem mkhh {j : Nat} (hj : j < 341) (h : mkd j ≠ 0) : mhh j = [] := by
  have h1 := List.all_eq_true.mp mkhh_ok j (List.mem_range.mpr hj)
  rw [Bool.or_eq_true] at h1
  rcases h1 with h1 | h1
  · exact absurd (Nat.eq_of_beq_eq_true h1) h
  · exact List.isEmpty_iff.mp h1
theorem mML_use {o i g : Nat} (ho : o < 16) (h : mlk (mML o) i = some g) : Jvm.Cond.methodLink (mR o) i (my g) ∈ GW ∧ 0 < g ∧ g < 341 := by
  obtain ⟨p, hp⟩ := mlk_in h
  have h1 := m_all16 mML_ok ho hp
  have h2 := m_all16 mML_rng ho hp
  simp only [Bool.and_eq_true, Nat.blt_eq] at h2
  exact ⟨mG1_in h1, h2.1, h2.2⟩
theorem mNL_use {o i g : Nat} (ho : o < 16) (h : mlk (mNL o) i = some g) : (∃ e ∈ mNL o, e.1 = i ∧ e.2.1 = g) ∧ 0 < g ∧ g < 341 := by
  obtain ⟨p, hp⟩ := mlk_in h
  have h2 := m_all16 mNL_rng ho hp
  simp only [Bool.and_eq_true, Nat.blt_eq] at h2
  exact ⟨⟨_, hp, rfl, rfl⟩, h2.1, h2.2⟩
theorem m_good {w : Jvm.Cond} (h : w ∈ GW) : w ∈ GW ∧ ((w.onTables && w.keeps) = true ∨ ∃ ty, w = .arrayClass ty) := ⟨h, good_of_word (List.mem_filter.mp h).2⟩
theorem mws_in {j : Nat} (h0 : 0 < j) (hj : j < 341) : ∀ w ∈ mws j, w ∈ GW := by
  intro w hw
  rcases List.mem_cons.mp hw with rfl | hw
  · exact mcode_in h0 hj
  · exact hw
theorem mJ_all {j : Nat} (h0 : 0 < j) (hj : j < 341) : Jvm.Cond.initialized (my j).cls ∈ GW ∧ (my j).cls ≠ "java/lang/invoke/MethodHandle" ∧ (my j).cls ≠ "java/lang/invoke/VarHandle" ∧ (my j).cls = mR (mown j)
    ∧ (mkd j = 0 → Jvm.Cond.static (my j) ∈ GW ∧ (parseMethodDescriptor (my j).desc).map (fun d => d.parameters.length) = some (mnp j))
    ∧ (mkd j ≠ 0 → Jvm.Cond.instanceMethod (my j) ∈ GW ∧ (parseMethodDescriptor (my j).desc).map (fun d => d.parameters.length + 1) = some (mnp j) ∧ (my j).cls = mCn (mcl j) ∧ mcl j < 12)
    ∧ (mkd j = 1 → Jvm.Cond.selects (my j).cls (my j) (my j) ∈ GW) ∧ (mkd j ≠ 0 → mkd j ≠ 1 → (my j).name = "<init>" ∧ mret j = 0) := by
  have hJ := mJ_of h0 hj
  unfold mJm at hJ
  simp only [Bool.and_eq_true, bne_iff_ne, decide_eq_true_eq] at hJ
  obtain ⟨⟨⟨⟨⟨h1, h2⟩, h3⟩, h4⟩, h5⟩, h6⟩ := hJ
  refine ⟨mG1_in h1, h3, h4, h5, ?_, ?_, ?_, ?_⟩
  · intro hk
    rw [hk] at h6
    simp only [Bool.and_eq_true, decide_eq_true_eq] at h6
    exact ⟨mG1_in h6.1, h6.2⟩
  · intro hk
    split at h6
    · exact absurd (by assumption) hk
    · simp only [Bool.and_eq_true, decide_eq_true_eq, Nat.blt_eq] at h6
      exact ⟨mG1_in h6.1.1.1.1, h6.1.1.2, h6.1.2, h6.2⟩
    · simp only [Bool.and_eq_true, decide_eq_true_eq, Nat.blt_eq] at h6
      exact ⟨mG1_in h6.1.1.1.1.1, h6.1.1.1.2, h6.1.1.2, h6.1.2⟩
  · intro hk
    rw [hk] at h6
    simp only [Bool.and_eq_true, decide_eq_true_eq] at h6
    exact mG1_in h6.1.1.1.2
  · intro hk hk1
    split at h6
    · exact absurd (by assumption) hk
    · exact absurd (by assumption) hk1
    · simp only [Bool.and_eq_true, decide_eq_true_eq] at h6
      exact ⟨h6.1.1.1.1.2, Nat.eq_of_beq_eq_true h6.2⟩
theorem m_len1 {d : String} {n : Nat} (h : (parseMethodDescriptor d).map (fun d => d.parameters.length + 1) = some n) : (parseMethodDescriptor d).map (fun d => d.parameters.length) = some (n - 1) ∧ 0 < n := by
  cases hp : parseMethodDescriptor d with
  | none => rw [hp] at h; cases h
  | some q =>
    rw [hp] at h
    have h := Option.some.inj h
    simp only at h
    simp only [Option.map_some, Option.some.injEq]
    omega
theorem mcode_plain {j : Nat} (h : mhh j = []) : mws j = Jvm.Cond.code (my j) (mb j) (mmaxL j) (mrt j) :: GW := by
  unfold mws mcode
  rw [h]
theorem mcode_with {j : Nat} {a : Nat × Nat × Nat × Nat} {t : List (Nat × Nat × Nat × Nat)} (h : mhh j = a :: t) : mws j = Jvm.Cond.codeWith (my j) (mb j) (mmaxL j) (mrt j) (a :: t) :: GW := by
  unfold mws mcode
  rw [h]
theorem mrt0 {j : Nat} (h : mret j = 0) : mrt j = none := by
  unfold mrt
  rw [h]
  rfl
-- handlers of the wrappers
def mhcn (j q : Nat) (n : Int) : Bool := match mdec j q with
  | some (.iconst m, 1) => decide (m = n) && (match mdec j (q + 1) with
    | some (.ireturn, 1) => true
    | _ => false)
  | _ => false
def mhck (j pc e : Nat) : Bool := match mhnd j pc e with
  | none => true
  | some n => match (mhh j)[mhix j e]? with
    | none => false
    | some x => Nat.ble x.1 pc && Nat.blt pc x.2.1 && !Nat.beq x.2.2.2 0 && (mEL (mown j)).any (fun z => Nat.beq z.1 x.2.2.2 && Nat.beq z.2.1 e)
      && ((mhh j).take (mhix j e)).all (fun y => !Nat.beq y.2.2.2 0 && (mEL (mown j)).any (fun z => Nat.beq z.1 y.2.2.2 && !Nat.beq z.2.1 e && Nat.blt z.2.1 4))
      && (match mdec j x.2.2.1 with
        | some (.astore_n k, 1) => Nat.blt k (mmaxL j) && mhcn j (x.2.2.1 + 1) n
        | some (.astore k, 2) => Nat.blt k (mmaxL j) && mhcn j (x.2.2.1 + 2) n
        | _ => false)
theorem mhck_ok : (List.range 341).all (fun j => (List.range (mlen j)).all (fun pc => (List.range 4).all (fun e => mhck j pc e))) = true := by decide +kernel
