/-! ===== what lies outside our cells and stays ===== -/
def mNW : List Jvm.Cond := [.superclass "java/lang/Throwable" "java/lang/Object", .declares (Bundle.initS "java/lang/RuntimeException"), .declares (Bundle.initS "java/lang/Exception"), .declares (Bundle.initS "java/lang/Throwable"),
  .castable (mEn 0) (mEn 0), .castable (mEn 1) (mEn 1), .castable (mEn 2) (mEn 2), .castable (mEn 3) (mEn 3)]
-- the seven texts, and what String's methods look at
def mTXS (E : mE) (A : Nat → Prop) (U : State) (H : Heap) : Prop :=
  (∃ aV : Nat → Nat, ∀ k, k < 7 → va_O "java/lang/String" (E.2.2 k) A U H ∧ va_OF "java/lang/String" "coder" "B" (.int 0) (E.2.2 k) A U H ∧ va_OF "java/lang/String" "value" "[B" (.ref (aV k)) (E.2.2 k) A U H ∧ va_T .byte (aV k) (tsl (k : Int)).toNat (fun i => .int (Int32.ofInt (tsc (k : Int) (i : Int)))) A U H)
  ∧ va_Z "java/lang/String" "COMPACT_STRINGS" "Z" (.int 1) A U H ∧ va_Zq "jdk/internal/util/Preconditions" "SIOOBE_FORMATTER" "Ljava/util/function/BiFunction;" A U H
def mOld (E : mE) (O : mO) (A : Nat → Prop) (U : State) (H : Heap) : Prop :=
  (∀ w ∈ mNW, va_Nw w U) ∧ (∀ o, o < 16 → ∀ e ∈ mNL o, va_Nw (.methodLinkNest (mR o) e.1 (my e.2.1) mnest) U) ∧ (∀ o, o < 16 → ∀ e ∈ mTN o, va_Nw (.fieldLinkNest (mR o) e.1 mnest (mStn e.2.1) "[I" mnest) U)
  ∧ (va_AO "WaitingBureau$HourSet" U ∧ va_AO "WaitingBureau$State" U)
  ∧ (∀ k, k < 2 → va_Z mnest (mStn k) "[I" (.ref (E.2.1 k)) A U H ∧ va_T .int (E.2.1 k) 5 (fun i => .int (Int32.ofInt (O.2 (k : Int) (i : Int)))) A U H ∧ O.1 (k : Int) = 5)
  ∧ (0 ≤ O.1 2 ∧ O.1 2 ≤ 100000 ∧ va_X (E.2.1 2) (O.1 2).toNat (fun i => Int32.ofInt (O.2 2 (i : Int))) U H ∧ E.2.1 2 < H.size ∧ ¬ A (E.2.1 2))
  ∧ vx_Zq Bundle.tN "UNASSIGNED_STACK" Bundle.steD A U H ∧ vx_Zq Bundle.tN "SUPPRESSED_SENTINEL" Bundle.listD A U H
  ∧ (∀ e ∈ mXTL, ∃ sa, vk_R (mR e.1) e.2.1 e.2.2.1 sa U)
  ∧ (∀ o, o < 16 → ∀ e ∈ mSL o, vk_R (mR o) e.1 (mtx e.2.1) (E.2.2 e.2.1) U)
  ∧ (∀ a, a < 4 → ∀ b, b < 4 → a ≠ b → va_Nc (mEn a) (mEn b) U) ∧ mTXS E A U H
theorem m_superW {a b : String} {s U : State} (hW : s.WarmedH U.vm) (h : va_Nw (.superclass a b) s) : va_Nw (.superclass a b) U := by
  refine va_tabs rfl (rfl : (s.setVm U.vm).vm = U.vm) (A := #[]) (u := s.setVm U.vm) ?_
  have hA := hW.alike
  have h1 : (Jvm.Cond.superclass a b).holds #[] s none s [] = true := h
  show (Jvm.Cond.superclass a b).holds #[] (s.setVm U.vm) none (s.setVm U.vm) [] = true
  cases hc : s.vm.findClass a with
  | none => simp [Jvm.Cond.holds, Jvm.Cond.value, hc] at h1
  | some c =>
    obtain ⟨p, k, kp, e1, e2, e3, e4, e5, e6, e7⟩ := Cond.superclass_spec (args := #[]) (first := s) (o := none) (idx := []) hc h1
    obtain ⟨k', f1, f2⟩ := hA.2.2 _ _ e2
    obtain ⟨kp', f3, f4⟩ := hA.2.2 _ _ e3
    have g1 : (s.setVm U.vm).vm.findClass a = some c := by show U.vm.findClass a = some c; rw [hA.findClass]; exact hc
    have g2 : (s.setVm U.vm).vm.findClass b = some p := by show U.vm.findClass b = some p; rw [hA.findClass]; exact e1
    have g3 : (s.setVm U.vm).vm.classes[c]? = some k' := f1
    have g4 : (s.setVm U.vm).vm.classes[p]? = some kp' := f3
    simp only [Jvm.Cond.holds, Jvm.Cond.value, hc, e1, e2, e3] at h1
    simp only [Jvm.Cond.holds, Jvm.Cond.value, g1, g2, g3, g4]
    rw [f2, f4]
    exact h1
theorem mOld_to {E : mE} {O : mO} {A : Nat → Prop} {s U : State} {H H' : Heap} (h : mOld E O A s H) (hW : s.WarmedH U.vm) (hz : H.size ≤ H'.size) (hq : ∀ a : Nat, a < H.size → ¬ A a → H'[a]? = H[a]?) : mOld E O A U H' := by
  have hA := hW.alike
  obtain ⟨h1, h2, h3, h4, h5, h6, h7, h8, h9, h10, h11, ⟨aV, h12⟩, h13, h14⟩ := h
  refine ⟨fun w hw => ?_, fun o ho e he => va_Nw.warmM hW (h2 o ho e he), fun o ho e he => va_Nw.warmF hW (h3 o ho e he), ⟨va_AO.moved hA h4.1, va_AO.moved hA h4.2⟩,
    fun k hk => ⟨va_Z.moved hA ((h5 k hk).1.kept hq), va_T.moved hA ((h5 k hk).2.1.kept hq), (h5 k hk).2.2⟩, ⟨h6.1, h6.2.1, va_X.moved hA (h6.2.2.1.kept (hq _ h6.2.2.2.1 h6.2.2.2.2)), Nat.lt_of_lt_of_le h6.2.2.2.1 hz, h6.2.2.2.2⟩,
    vx_Zq.moved hA (h7.kept hq), vx_Zq.moved hA (h8.kept hq), fun e he => ?_, fun o ho e he => vk_R.warm hW (h10 o ho e he), fun a ha b hb hne => va_Nc.moved hA (h11 a ha b hb hne),
    ⟨aV, fun k hk => ⟨va_O.moved hA ((h12 k hk).1.kept hq), va_OF.moved hA ((h12 k hk).2.1.kept hq), va_OF.moved hA ((h12 k hk).2.2.1.kept hq), va_T.moved hA ((h12 k hk).2.2.2.kept hq)⟩⟩, va_Z.moved hA (h13.kept hq), va_Zq.moved hA (h14.kept hq)⟩
  · have hh := h1 w hw
    simp only [mNW, List.mem_cons, List.not_mem_nil, or_false] at hw
    rcases hw with rfl | rfl | rfl | rfl | rfl | rfl | rfl | rfl
    · exact m_superW hW hh
    · exact va_Nw.warmD hW hh
    · exact va_Nw.warmD hW hh
    · exact va_Nw.warmD hW hh
    · exact va_Nw.warmC hW hh
    · exact va_Nw.warmC hW hh
    · exact va_Nw.warmC hW hh
    · exact va_Nw.warmC hW hh
  · obtain ⟨sa, hs⟩ := h9 e he
    exact ⟨sa, vk_R.warm hW hs⟩
