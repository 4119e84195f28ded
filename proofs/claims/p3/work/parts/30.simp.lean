/-! ===== the law's start ===== -/
def mw1 (l : List Jvm.Cond) (q : List Nat) : Bool := Nat.beq l.length q.length && (l.zip q).all (fun e => mT1 e.2 e.1)
theorem mw1_in {l : List Jvm.Cond} {q : List Nat} (h : mw1 l q = true) : ∀ w ∈ l, w ∈ lw_tbl := by
  intro w hw
  simp only [mw1, Bool.and_eq_true] at h
  obtain ⟨p, hp⟩ := mzip_in _ _ (Nat.eq_of_beq_eq_true h.1) w hw
  exact mT1_in (List.all_eq_true.mp h.2 _ hp)
theorem mnw_ok : mw1 mNW mp_nw = true := by decide +kernel
def mSTW : List Jvm.Cond := [.laysStatic Bundle.tN "UNASSIGNED_STACK" Bundle.steD, .laysStatic Bundle.tN "SUPPRESSED_SENTINEL" Bundle.listD, .initialized Bundle.tN, .laysStatic mnest (mStn 0) "[I", .laysStatic mnest (mStn 1) "[I", .initialized mnest, .laysStatic "java/lang/String" "COMPACT_STRINGS" "Z", .initialized "java/lang/String", .laysStatic "jdk/internal/util/Preconditions" "SIOOBE_FORMATTER" "Ljava/util/function/BiFunction;", .initialized "jdk/internal/util/Preconditions"]
theorem mst_ok : mw1 mSTW mp_st = true := by decide +kernel
def mARW : List Jvm.Cond := [.arrayClass .int, .arrayClass .long, .arrayClass .byte, .arrayClass .boolean, .arrayOver (.object "WaitingBureau$HourSet"), .arrayOver (.object "WaitingBureau$State")]
theorem mar_ok : mw1 mARW mp_ar = true := by decide +kernel
def mFL0 : List Jvm.Cond := flatC (Jvm.Cond.and given_1 narrow_1)
theorem mnc_ok : (List.range 4).all (fun a => (List.range 4).all (fun b => Nat.beq a b || decide (Jvm.Cond.not (.castable (mEn a) (mEn b)) ∈ mFL0))) = true := by decide +kernel
def mStt (k : Nat) : Jvm.Term := .static mnest (mStn k) "[I"
def mStv (k i : Nat) : Int := (match k with
  | 0 => mlowL
  | _ => mhighL).getD i 0
theorem msr_ok : (List.range 2).all (fun k => decide (Jvm.Cond.arrayOf (mStt k) .int ∈ mFL0) && decide (Jvm.Cond.eq (.length (mStt k)) (.int 5) ∈ mFL0) && (List.range 5).all (fun i => decide (Jvm.Cond.eq (.elem (mStt k) (.int (Int32.ofNat i))) (.int (Int32.ofInt (mStv k i))) ∈ mFL0))) = true := by decide +kernel
theorem mur_ok : decide (Jvm.Cond.isRef (.static Bundle.tN "UNASSIGNED_STACK" Bundle.steD) ∈ mFL0) && decide (Jvm.Cond.isRef (.static Bundle.tN "SUPPRESSED_SENTINEL" Bundle.listD) ∈ mFL0) = true := by decide +kernel
theorem msu_ok : (List.range 16).all (fun o => (mSL o).all (fun e => (List.range 16).all (fun o' => (mSL o').all (fun e' => !Nat.beq e.2.1 e'.2.1 || (Nat.beq o o' && Nat.beq e.1 e'.1))))) = true := by decide +kernel
theorem mhnd0 (pc e : Nat) : mhnd 0 pc e = none := rfl
theorem m_strR {own tx : String} {k : Nat} {A : Array Value} {s : State} (h : (Jvm.Cond.stringRef own k tx).before A s = true) : ∃ a, vk_R own k tx a s := by
  cases hc : s.vm.findClass own with
  | none =>
    simp [Cond.before, Cond.holds, Cond.value, hc] at h
  | some cur =>
    have h0 : (Jvm.Cond.stringRef own k tx).before #[] s = true := h
    obtain ⟨k9, cf, i, a, -, -, -, -, -, hev⟩ := Cond.stringRef_spec hc h0
    exact ⟨a, vk_R.of h0 hev⟩
theorem m_knows {s : State} {args : Array Value} (hts : ∀ w ∈ lw_tbl, w.before args s = true) : ∃ (D : va_G) (tc : Int → ClassId), va_K D vwCl (mtys tc) s := by
  have hG : ∀ w ∈ GW, w.before args s = true := fun w hw => hts w (List.mem_filter.mp hw).1
  have h1 : ∀ c : Nat, ∃ x : ClassId × (Nat → Nat), ∀ q, vwCl[c]? = some q → u_Kn s q.1 q.2.1 q.2.2 x.1 x.2 := by
    intro c
    by_cases hc : c < 12
    · obtain ⟨T, ty, hcl⟩ := mcls hc
      have hi := List.all_eq_true.mp mnew_ok c (List.mem_range.mpr hc)
      simp only [Bool.and_eq_true] at hi
      obtain ⟨cC, iS, hk⟩ := u_known (C := mCn c) (T := T) (N := mnf c) (n := mnf c) hG (mcls_ws hc hcl) (hG _ (mG1_in hi.1))
      refine ⟨(cC, iS), fun q hq => ?_⟩
      rw [hcl.1] at hq
      cases hq
      exact hk
    · refine ⟨(0, fun _ => 0), fun q hq => ?_⟩
      have h9 : c < vwCl.length := (List.getElem?_eq_some_iff.mp hq).1
      have h8 : vwCl.length = 12 := rfl
      omega
  have hA : ∀ ty : FieldType, (Jvm.Cond.arrayClass ty).before args s = true → (∀ C, ty ≠ .object C) → ∃ cA : ClassId, ArrOfT s cA ty ∧ va_RA s cA ty := by
    intro ty h hno
    obtain ⟨c, k, comp, e1, e2, e3⟩ := Cond.arrayClass_spec h
    refine ⟨c, fun n z => ⟨fun k h => (by cases h), k, e2, comp, e3⟩, ?_⟩
    cases ty with
    | object C => exact absurd rfl (hno C)
    | _ => exact e1
  have hB : ∀ C : String, (Jvm.Cond.arrayOver (.object C)).before args s = true → ∃ cA : ClassId, ArrOfT s cA (.object C) ∧ va_RA s cA (.object C) := by
    intro C h
    obtain ⟨comp, c, k, e1, e2, e3, e4, e5⟩ := Cond.arrayOver_spec h
    exact ⟨c, fun n z => ⟨fun k h => (by cases h), k, e3, comp, e4⟩, k, comp, e3, e4, e1, e5⟩
  have hw : ∀ w ∈ mARW, w.before args s = true := fun w hw => hts w (mw1_in mar_ok w hw)
  have h2 : ∀ k : Int, ∃ cA : ClassId, k ∈ mkinds → ArrOfT s cA (metyF k) ∧ va_RA s cA (metyF k) := by
    intro k
    by_cases hk : k ∈ mkinds
    · have hk9 := hk
      unfold mkinds at hk
      simp only [List.mem_cons, List.not_mem_nil, or_false] at hk
      have go : ∃ cA : ClassId, ArrOfT s cA (metyF k) ∧ va_RA s cA (metyF k) := by
        rcases hk with rfl | rfl | rfl | rfl | rfl | rfl
        · exact hA .int (hw _ (by simp [mARW])) (fun C h => by cases h)
        · exact hA .long (hw _ (by simp [mARW])) (fun C h => by cases h)
        · exact hA .byte (hw _ (by simp [mARW])) (fun C h => by cases h)
        · exact hA .boolean (hw _ (by simp [mARW])) (fun C h => by cases h)
        · exact hB _ (hw _ (by simp [mARW]))
        · exact hB _ (hw _ (by simp [mARW]))
      obtain ⟨cA, h⟩ := go
      exact ⟨cA, fun _ => h⟩
    · exact ⟨0, fun h => absurd h hk⟩
  refine ⟨(fun c => (Classical.choose (h1 c)).1, fun c => (Classical.choose (h1 c)).2), fun k => Classical.choose (h2 k), fun c q hq => Classical.choose_spec (h1 c) q hq, fun i q hq => ?_⟩
  obtain ⟨k, hk, rfl⟩ := List.mem_map.mp (List.mem_of_getElem? hq)
  exact Classical.choose_spec (h2 k) hk
def mtxk (k : Nat) : Bool := match (mSL 3).find? (fun e => Nat.beq e.2.1 k) with
  | some e => Nat.beq e.2.1 k && decide (Jvm.Cond.exactly (.string (mR 3) e.1) "java/lang/String" ∈ mFL0) && decide (Jvm.Cond.eq (.field (.string (mR 3) e.1) "java/lang/String" "coder" "B") (.int 0) ∈ mFL0)
    && decide (Jvm.Cond.arrayOf (.field (.string (mR 3) e.1) "java/lang/String" "value" "[B") .byte ∈ mFL0) && decide (Jvm.Cond.eq (.length (.field (.string (mR 3) e.1) "java/lang/String" "value" "[B")) (.int (Int32.ofNat (tsl (k : Int)).toNat)) ∈ mFL0)
    && (List.range (tsl (k : Int)).toNat).all (fun i => decide (Jvm.Cond.eq (.elem (.field (.string (mR 3) e.1) "java/lang/String" "value" "[B") (.int (Int32.ofNat i))) (.int (Int32.ofInt (tsc (k : Int) (i : Int)))) ∈ mFL0))
  | none => false
theorem mtx_ok : (List.range 7).all mtxk = true := by decide +kernel
theorem mxs_ok : (decide (Jvm.Cond.eq (.static "java/lang/String" "COMPACT_STRINGS" "Z") (.int 1) ∈ mFL0) && decide (Jvm.Cond.isRef (.static "jdk/internal/util/Preconditions" "SIOOBE_FORMATTER" "Ljava/util/function/BiFunction;") ∈ mFL0)) = true := by decide +kernel
def mO0 (L : Nat) (xs : Nat → Int32) : mO := (fun k => if k = 2 then (L : Int) else 5, fun k i => if k = 2 then (xs i.toNat).toInt else mStv k.toNat i.toNat)
theorem m_olds {s : State} {b L : Nat} {xs : Nat → Int32} (hL : L ≤ 100000) (hts : ∀ w ∈ lw_tbl, w.before #[Value.ref b] s = true) (hgv : (Jvm.Cond.and given_1 narrow_1).before #[Value.ref b] s = true) (hX : va_X b L xs s s.heap) (hb : b < s.heap.size) :
    ∃ aT aS : Nat → Nat, aT 2 = b ∧ mOld (s.heap.size, aT, aS) (mO0 L xs) (mAr (s.heap.size, aT, aS)) s s.heap := by
  have hf := flat_of_before _ hgv
  have hA : ∀ a : Nat, a < s.heap.size → ¬ s.heap.size ≤ a := fun a h => by omega
  have hS := fun w hw => hts w (mw1_in mst_ok w hw)
  have hR := fun w hw => hts w (mw1_in mar_ok w hw)
  have h5 : ∀ k, k < 2 → ∃ t : Nat, va_Z mnest (mStn k) "[I" (.ref t) (fun q => s.heap.size ≤ q) s s.heap ∧ va_T .int t 5 (fun i => .int (Int32.ofInt (mStv k i))) (fun q => s.heap.size ≤ q) s s.heap := by
    intro k hk
    have h := List.all_eq_true.mp msr_ok k (List.mem_range.mpr hk)
    simp only [Bool.and_eq_true, decide_eq_true_eq] at h
    obtain ⟨⟨e1, e2⟩, e3⟩ := h
    obtain ⟨t, ht, hT⟩ := va_Tof (args := #[Value.ref b]) (s := s) (tm := mStt k) (ty := .int) (N := 5) (f := fun i => .int (Int32.ofInt (mStv k i))) (A := fun q => s.heap.size ≤ q) (by decide) (hf _ e1) (va_eqt (hf _ e2)) (fun j hj => va_eqt (hf _ (of_decide_eq_true (List.all_eq_true.mp e3 j (List.mem_range.mpr hj))))) hA
    refine ⟨t, va_Zref ?_ (hS (.initialized mnest) (by simp [mSTW])) ht hA, hT⟩
    match k, hk with
    | 0, _ => exact hS (.laysStatic mnest (mStn 0) "[I") (by simp [mSTW])
    | 1, _ => exact hS (.laysStatic mnest (mStn 1) "[I") (by simp [mSTW])
    | k + 2, h => exact absurd h (by omega)
  obtain ⟨t0, hz0, ht0⟩ := h5 0 (by omega)
  obtain ⟨t1, hz1, ht1⟩ := h5 1 (by omega)
  have h10 : ∀ k : Nat, ∃ a : Nat, ∀ o, o < 16 → ∀ e ∈ mSL o, e.2.1 = k → vk_R (mR o) e.1 (mtx e.2.1) a s := by
    intro k
    by_cases hex : ∃ o e, o < 16 ∧ e ∈ mSL o ∧ e.2.1 = k
    · obtain ⟨o, e, ho, he, hk⟩ := hex
      have hw := hts _ (mT1_in (m_all16 mSL_ok ho he))
      obtain ⟨a, ha⟩ := m_strR hw
      refine ⟨a, fun o' ho' e' he' hk' => ?_⟩
      have h9 := m_all16 (f := mSL) (q := fun o e => (List.range 16).all (fun o' => (mSL o').all (fun e' => !Nat.beq e.2.1 e'.2.1 || (Nat.beq o o' && Nat.beq e.1 e'.1)))) msu_ok ho he
      have h8 := List.all_eq_true.mp (List.all_eq_true.mp h9 o' (List.mem_range.mpr ho')) e' he'
      rw [hk, hk', Nat.beq_refl] at h8
      simp only [Bool.not_true, Bool.false_or, Bool.and_eq_true] at h8
      rw [← Nat.eq_of_beq_eq_true h8.1, ← Nat.eq_of_beq_eq_true h8.2, hk', ← hk]
      exact ha
    · exact ⟨0, fun o ho e he hk => absurd ⟨o, e, ho, he, hk⟩ hex⟩
  have h15 : ∀ (w : Jvm.Cond), w.onTables = true → w.before #[Value.ref b] s = true → va_Nw w s := fun w hw h => va_tabs hw rfl h
  have hX1 : va_Z "java/lang/String" "COMPACT_STRINGS" "Z" (.int 1) (fun q => s.heap.size ≤ q) s s.heap := va_Zof (hS (.laysStatic "java/lang/String" "COMPACT_STRINGS" "Z") (by simp [mSTW])) (hS (.initialized "java/lang/String") (by simp [mSTW])) (va_eqt (hf _ (of_decide_eq_true (Bool.and_eq_true_iff.mp mxs_ok).1))) hA
  have hX2 : va_Zq "jdk/internal/util/Preconditions" "SIOOBE_FORMATTER" "Ljava/util/function/BiFunction;" (fun q => s.heap.size ≤ q) s s.heap := (vx_Zqof (hS (.laysStatic "jdk/internal/util/Preconditions" "SIOOBE_FORMATTER" "Ljava/util/function/BiFunction;") (by simp [mSTW])) (hS (.initialized "jdk/internal/util/Preconditions") (by simp [mSTW])) (hf _ (of_decide_eq_true (Bool.and_eq_true_iff.mp mxs_ok).2)) hA).1
  have h12 : ∀ k : Nat, ∃ aV : Nat, k < 7 → va_O "java/lang/String" (Classical.choose (h10 k)) (fun q => s.heap.size ≤ q) s s.heap ∧ va_OF "java/lang/String" "coder" "B" (.int 0) (Classical.choose (h10 k)) (fun q => s.heap.size ≤ q) s s.heap ∧ va_OF "java/lang/String" "value" "[B" (.ref aV) (Classical.choose (h10 k)) (fun q => s.heap.size ≤ q) s s.heap ∧ va_T .byte aV (tsl (k : Int)).toNat (fun i => .int (Int32.ofInt (tsc (k : Int) (i : Int)))) (fun q => s.heap.size ≤ q) s s.heap := by
    intro k
    by_cases hk : k < 7
    · have h := List.all_eq_true.mp mtx_ok k (List.mem_range.mpr hk)
      unfold mtxk at h
      cases hf9 : (mSL 3).find? (fun e => Nat.beq e.2.1 k) with
      | none => rw [hf9] at h; cases h
      | some e9 =>
        rw [hf9] at h
        simp only [Bool.and_eq_true, decide_eq_true_eq] at h
        obtain ⟨⟨⟨⟨⟨hbe, e1⟩, e2⟩, e3⟩, e4⟩, e5⟩ := h
        have hin : e9 ∈ mSL 3 := List.mem_of_find?_eq_some hf9
        have hek : e9.2.1 = k := Nat.eq_of_beq_eq_true hbe
        have hc := Classical.choose_spec (h10 k) 3 (by omega) e9 hin hek
        obtain ⟨a, cC, cA, kA, q1, q2, q3, q4, q5, q6, -⟩ := Cond.exactly_spec (args := #[Value.ref b]) (first := s) (o := none) (s := s) (idx := []) (t := Term.string (mR 3) e9.1) (cls := "java/lang/String") (hf _ e1)
        have ea : a = Classical.choose (h10 k) := by
          have h2 := hc.2
          have h3 : (Term.string (mR 3) e9.1).eval #[] s none [] s = some (.ref a) := q1
          rw [h3] at h2
          cases h2
          rfl
        subst ea
        have hlen := tsl_rng (k : Int) (by omega) (by omega)
        obtain ⟨t, ht, hT⟩ := va_Tof (args := #[Value.ref b]) (s := s) (tm := .field (.string (mR 3) e9.1) "java/lang/String" "value" "[B") (ty := .byte) (N := (tsl (k : Int)).toNat) (f := fun i => .int (Int32.ofInt (tsc (k : Int) (i : Int)))) (A := fun q => s.heap.size ≤ q) (by omega) (hf _ e3) (va_eqt (hf _ e4)) (fun j hj => va_eqt (hf _ (of_decide_eq_true (List.all_eq_true.mp e5 j (List.mem_range.mpr hj))))) hA
        exact ⟨t, fun _ => ⟨⟨cA, q3, q5, by rw [q6]; exact q2, hA _ (Array.getElem?_eq_some_iff.mp q3).1⟩, vk_OFof q1 (va_eqt (hf _ e2)) hA, vk_OFof q1 ht hA, hT⟩⟩
    · exact ⟨0, fun h => absurd h hk⟩
  refine ⟨fun k => if k = 0 then t0 else if k = 1 then t1 else b, fun k => Classical.choose (h10 k), rfl, ?_, ?_, ?_, ⟨va_AO.of (hR _ (by simp [mARW])), va_AO.of (hR _ (by simp [mARW]))⟩, ?_, ?_, ?_, ?_, ?_, ?_, ?_, ⟨fun k => Classical.choose (h12 k), fun k hk => Classical.choose_spec (h12 k) hk⟩, hX1, hX2⟩
  · intro w hw
    have h := hts w (mw1_in mnw_ok w hw)
    simp only [mNW, List.mem_cons, List.not_mem_nil, or_false] at hw
    rcases hw with rfl | rfl | rfl | rfl | rfl | rfl | rfl | rfl <;> exact h15 _ rfl h
  · exact fun o ho e he => h15 _ rfl (hts _ (mT1_in (m_all16 mNL_ok ho he)))
  · exact fun o ho e he => h15 _ rfl (hts _ (mT1_in (m_all16 mTN_ok ho he)))
  · intro k hk
    match k, hk with
    | 0, _ => exact ⟨hz0, ht0, rfl⟩
    | 1, _ => exact ⟨hz1, ht1, rfl⟩
    | k + 2, h => exact absurd h (by omega)
  · refine ⟨by simp [mO0], by simp [mO0]; omega, ?_, hb, by show ¬ s.heap.size ≤ b; omega⟩
    have e : (fun i : Nat => Int32.ofInt ((mO0 L xs).2 2 (i : Int))) = xs := by
      funext i
      simp [mO0]
    have e2 : ((mO0 L xs).1 2).toNat = L := by simp [mO0]
    rw [e2, e]
    exact hX
  · exact vx_Zqof (hS (.laysStatic Bundle.tN "UNASSIGNED_STACK" Bundle.steD) (by simp [mSTW])) (hS (.initialized Bundle.tN) (by simp [mSTW])) (hf _ (of_decide_eq_true (Bool.and_eq_true_iff.mp mur_ok).1)) hA
  · exact vx_Zqof (hS (.laysStatic Bundle.tN "SUPPRESSED_SENTINEL" Bundle.listD) (by simp [mSTW])) (hS (.initialized Bundle.tN) (by simp [mSTW])) (hf _ (of_decide_eq_true (Bool.and_eq_true_iff.mp mur_ok).2)) hA
  · exact fun e he => m_strR (hts _ (mT1_in (List.all_eq_true.mp mXT_ok e he)))
  · exact fun o ho e he => Classical.choose_spec (h10 e.2.1) o ho e he rfl
  · intro a ha b' hb' hne
    have h := List.all_eq_true.mp (List.all_eq_true.mp mnc_ok a (List.mem_range.mpr ha)) b' (List.mem_range.mpr hb')
    rw [Bool.or_eq_true] at h
    rcases h with h | h
    · exact absurd (Nat.eq_of_beq_eq_true h) hne
    · exact va_Nc.of (hf _ (of_decide_eq_true h))
