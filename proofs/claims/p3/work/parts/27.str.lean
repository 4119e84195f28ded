/-! ===== texts: String.length and String.charAt ===== -/
def mJKW : List Jvm.Cond := [.code yJ3_checkIndex_8e157 cJ3_checkIndex_8e157 3 (some .int), .fieldLink RJ0 1053 "jdk/internal/util/Preconditions" "SIOOBE_FORMATTER" "Ljava/util/function/BiFunction;", .methodLink RJ0 1059 yJ3_checkIndex_8e157, .static yJ3_checkIndex_8e157, .initialized RJ3,
  .code yJ0_checkIndex_df160 cJ0_checkIndex_df160 2 none, .methodLink RJ1 9 yJ0_checkIndex_df160, .static yJ0_checkIndex_df160, .initialized RJ0, .code yJ1_charAt_3b067 cJ1_charAt_3b067 2 (some .char), .methodLink RJ0 495 yJ1_charAt_3b067, .static yJ1_charAt_3b067, .initialized RJ1,
  .code yJ0_coder_7d493 cJ0_coder_7d493 1 (some .byte), .fieldLink RJ0 38 "java/lang/String" "COMPACT_STRINGS" "Z", .fieldLink RJ0 15 "java/lang/String" "coder" "B", .methodLink RJ0 335 yJ0_coder_7d493, .instanceMethod yJ0_coder_7d493, .selects RJ0 yJ0_coder_7d493 yJ0_coder_7d493,
  .code yJ0_isLatin1_aae02 cJ0_isLatin1_aae02 1 (some .boolean), .methodLink RJ0 492 yJ0_isLatin1_aae02, .instanceMethod yJ0_isLatin1_aae02, .selects RJ0 yJ0_isLatin1_aae02 yJ0_isLatin1_aae02,
  .code yJ0_length_8abf5 cJ0_length_8abf5 1 (some .int), .fieldLink RJ0 9 "java/lang/String" "value" "[B", .instanceMethod yJ0_length_8abf5, .selects RJ0 yJ0_length_8abf5 yJ0_length_8abf5,
  .code yJ0_charAt_5068e cJ0_charAt_5068e 2 (some .char), .instanceMethod yJ0_charAt_5068e, .selects RJ0 yJ0_charAt_5068e yJ0_charAt_5068e]
theorem mjk_ok : (Nat.beq mJKW.length mp_jk.length && (mJKW.zip mp_jk).all (fun e => mG1 e.2 e.1)) = true := by decide +kernel
theorem mjk {w : Jvm.Cond} (i : Nat) (h : mJKW[i]? = some w) : w ∈ GW := by
  have k := mjk_ok
  rw [Bool.and_eq_true] at k
  obtain ⟨p, hp⟩ := mzip_in _ _ (Nat.eq_of_beq_eq_true k.1) w (List.mem_of_getElem? h)
  exact mG1_in (List.all_eq_true.mp k.2 _ hp)
theorem jd_len_0 : decode cJ0_length_8abf5 0 = .ok (.aload_n 0, 1) := by decide +kernel
theorem jd_len_1 : decode cJ0_length_8abf5 1 = .ok (.getfield 9, 3) := by decide +kernel
theorem jd_len_4 : decode cJ0_length_8abf5 4 = .ok (.arraylength, 1) := by decide +kernel
theorem jd_len_5 : decode cJ0_length_8abf5 5 = .ok (.aload_n 0, 1) := by decide +kernel
theorem jd_len_6 : decode cJ0_length_8abf5 6 = .ok (.invokevirtual 335, 3) := by decide +kernel
theorem jd_len_9 : decode cJ0_length_8abf5 9 = .ok (.ishr, 1) := by decide +kernel
theorem jd_len_10 : decode cJ0_length_8abf5 10 = .ok (.ireturn, 1) := by decide +kernel
theorem jd_cha_0 : decode cJ0_charAt_5068e 0 = .ok (.aload_n 0, 1) := by decide +kernel
theorem jd_cha_1 : decode cJ0_charAt_5068e 1 = .ok (.invokevirtual 492, 3) := by decide +kernel
theorem jd_cha_4 : decode cJ0_charAt_5068e 4 = .ok (.ifCond .eq 12, 3) := by decide +kernel
theorem jd_cha_7 : decode cJ0_charAt_5068e 7 = .ok (.aload_n 0, 1) := by decide +kernel
theorem jd_cha_8 : decode cJ0_charAt_5068e 8 = .ok (.getfield 9, 3) := by decide +kernel
theorem jd_cha_11 : decode cJ0_charAt_5068e 11 = .ok (.iload_n 1, 1) := by decide +kernel
theorem jd_cha_12 : decode cJ0_charAt_5068e 12 = .ok (.invokestatic 495, 3) := by decide +kernel
theorem jd_cha_15 : decode cJ0_charAt_5068e 15 = .ok (.ireturn, 1) := by decide +kernel
theorem jd_cha_16 : decode cJ0_charAt_5068e 16 = .ok (.aload_n 0, 1) := by decide +kernel
theorem jd_cha_17 : decode cJ0_charAt_5068e 17 = .ok (.getfield 9, 3) := by decide +kernel
theorem jd_cha_20 : decode cJ0_charAt_5068e 20 = .ok (.iload_n 1, 1) := by decide +kernel
theorem jd_cha_21 : decode cJ0_charAt_5068e 21 = .ok (.invokestatic 498, 3) := by decide +kernel
theorem jd_cha_24 : decode cJ0_charAt_5068e 24 = .ok (.ireturn, 1) := by decide +kernel
theorem jd_cod_0 : decode cJ0_coder_7d493 0 = .ok (.getstatic 38, 3) := by decide +kernel
theorem jd_cod_3 : decode cJ0_coder_7d493 3 = .ok (.ifCond .eq 10, 3) := by decide +kernel
theorem jd_cod_6 : decode cJ0_coder_7d493 6 = .ok (.aload_n 0, 1) := by decide +kernel
theorem jd_cod_7 : decode cJ0_coder_7d493 7 = .ok (.getfield 15, 3) := by decide +kernel
theorem jd_cod_10 : decode cJ0_coder_7d493 10 = .ok (.goto 4, 3) := by decide +kernel
theorem jd_cod_13 : decode cJ0_coder_7d493 13 = .ok (.iconst 1, 1) := by decide +kernel
theorem jd_cod_14 : decode cJ0_coder_7d493 14 = .ok (.ireturn, 1) := by decide +kernel
theorem jd_lat_0 : decode cJ0_isLatin1_aae02 0 = .ok (.getstatic 38, 3) := by decide +kernel
theorem jd_lat_3 : decode cJ0_isLatin1_aae02 3 = .ok (.ifCond .eq 14, 3) := by decide +kernel
theorem jd_lat_6 : decode cJ0_isLatin1_aae02 6 = .ok (.aload_n 0, 1) := by decide +kernel
theorem jd_lat_7 : decode cJ0_isLatin1_aae02 7 = .ok (.getfield 15, 3) := by decide +kernel
theorem jd_lat_10 : decode cJ0_isLatin1_aae02 10 = .ok (.ifCond .ne 7, 3) := by decide +kernel
theorem jd_lat_13 : decode cJ0_isLatin1_aae02 13 = .ok (.iconst 1, 1) := by decide +kernel
theorem jd_lat_14 : decode cJ0_isLatin1_aae02 14 = .ok (.goto 4, 3) := by decide +kernel
theorem jd_lat_17 : decode cJ0_isLatin1_aae02 17 = .ok (.iconst 0, 1) := by decide +kernel
theorem jd_lat_18 : decode cJ0_isLatin1_aae02 18 = .ok (.ireturn, 1) := by decide +kernel
theorem jd_chk_0 : decode cJ0_checkIndex_df160 0 = .ok (.iload_n 0, 1) := by decide +kernel
theorem jd_chk_1 : decode cJ0_checkIndex_df160 1 = .ok (.iload_n 1, 1) := by decide +kernel
theorem jd_chk_2 : decode cJ0_checkIndex_df160 2 = .ok (.getstatic 1053, 3) := by decide +kernel
theorem jd_chk_5 : decode cJ0_checkIndex_df160 5 = .ok (.invokestatic 1059, 3) := by decide +kernel
theorem jd_chk_8 : decode cJ0_checkIndex_df160 8 = .ok (.pop, 1) := by decide +kernel
theorem jd_chk_9 : decode cJ0_checkIndex_df160 9 = .ok (.return_, 1) := by decide +kernel
theorem jd_lch_0 : decode cJ1_charAt_3b067 0 = .ok (.iload_n 1, 1) := by decide +kernel
theorem jd_lch_1 : decode cJ1_charAt_3b067 1 = .ok (.aload_n 0, 1) := by decide +kernel
theorem jd_lch_2 : decode cJ1_charAt_3b067 2 = .ok (.arraylength, 1) := by decide +kernel
theorem jd_lch_3 : decode cJ1_charAt_3b067 3 = .ok (.invokestatic 9, 3) := by decide +kernel
theorem jd_lch_6 : decode cJ1_charAt_3b067 6 = .ok (.aload_n 0, 1) := by decide +kernel
theorem jd_lch_7 : decode cJ1_charAt_3b067 7 = .ok (.iload_n 1, 1) := by decide +kernel
theorem jd_lch_8 : decode cJ1_charAt_3b067 8 = .ok (.baload, 1) := by decide +kernel
theorem jd_lch_9 : decode cJ1_charAt_3b067 9 = .ok (.sipush 255, 3) := by decide +kernel
theorem jd_lch_12 : decode cJ1_charAt_3b067 12 = .ok (.iand, 1) := by decide +kernel
theorem jd_lch_13 : decode cJ1_charAt_3b067 13 = .ok (.i2c, 1) := by decide +kernel
theorem jd_lch_14 : decode cJ1_charAt_3b067 14 = .ok (.ireturn, 1) := by decide +kernel
theorem jd_pre_0 : decode cJ3_checkIndex_8e157 0 = .ok (.iload_n 0, 1) := by decide +kernel
theorem jd_pre_1 : decode cJ3_checkIndex_8e157 1 = .ok (.ifCond .lt 8, 3) := by decide +kernel
theorem jd_pre_4 : decode cJ3_checkIndex_8e157 4 = .ok (.iload_n 0, 1) := by decide +kernel
theorem jd_pre_5 : decode cJ3_checkIndex_8e157 5 = .ok (.iload_n 1, 1) := by decide +kernel
theorem jd_pre_6 : decode cJ3_checkIndex_8e157 6 = .ok (.if_icmp .lt 10, 3) := by decide +kernel
theorem jd_pre_9 : decode cJ3_checkIndex_8e157 9 = .ok (.aload_n 2, 1) := by decide +kernel
theorem jd_pre_10 : decode cJ3_checkIndex_8e157 10 = .ok (.iload_n 0, 1) := by decide +kernel
theorem jd_pre_11 : decode cJ3_checkIndex_8e157 11 = .ok (.iload_n 1, 1) := by decide +kernel
theorem jd_pre_12 : decode cJ3_checkIndex_8e157 12 = .ok (.invokestatic 95, 3) := by decide +kernel
theorem jd_pre_15 : decode cJ3_checkIndex_8e157 15 = .ok (.athrow, 1) := by decide +kernel
theorem jd_pre_16 : decode cJ3_checkIndex_8e157 16 = .ok (.iload_n 0, 1) := by decide +kernel
theorem jd_pre_17 : decode cJ3_checkIndex_8e157 17 = .ok (.ireturn, 1) := by decide +kernel
theorem jgoodS {own : String} {i : Nat} {y : MethodName} {b : ByteArray} {n : Nat} {r : Option FieldType} (h1 : Jvm.Cond.methodLink own i y ∈ GW) (h2 : Jvm.Cond.static y ∈ GW) (h3 : Jvm.Cond.initialized y.cls ∈ GW) (h4 : Jvm.Cond.code y b n r ∈ GW) : GoodIn GW (va_wsS own i y (Jvm.Cond.code y b n r :: GW)) := by
  intro w hw
  unfold va_wsS at hw
  simp only [List.cons_append, List.nil_append, List.mem_cons] at hw
  rcases hw with rfl | rfl | rfl | rfl | hw
  · exact m_good h1
  · exact m_good h2
  · exact m_good h3
  · exact m_good h4
  · exact m_good hw
theorem jgoodV {own C : String} {i : Nat} {y : MethodName} {b : ByteArray} {n : Nat} {r : Option FieldType} (h1 : Jvm.Cond.methodLink own i y ∈ GW) (h2 : Jvm.Cond.instanceMethod y ∈ GW) (h3 : Jvm.Cond.selects C y y ∈ GW) (h5 : Jvm.Cond.initialized C ∈ GW) (h4 : Jvm.Cond.code y b n r ∈ GW) : GoodIn GW (wsV own i C y (Jvm.Cond.code y b n r :: GW)) := by
  intro w hw
  unfold wsV at hw
  simp only [List.cons_append, List.nil_append, List.mem_cons] at hw
  rcases hw with rfl | rfl | rfl | rfl | rfl | hw
  · exact m_good h1
  · exact m_good h2
  · exact m_good h3
  · exact m_good h5
  · exact m_good h4
  · exact m_good hw
abbrev jN : Nat → Prop := fun _ => False
abbrev jZ (U : State) : Prop := va_Zq "jdk/internal/util/Preconditions" "SIOOBE_FORMATTER" "Ljava/util/function/BiFunction;" jN U U.heap
abbrev jCS (U : State) : Prop := va_Z "java/lang/String" "COMPACT_STRINGS" "Z" (.int 1) jN U U.heap
abbrev jR (n : Nat) (k : Nat) : Room := { frames := n, cells := 0, slots := 0, locals := k }
set_option maxHeartbeats 4000000 in
set_option maxRecDepth 100000 in
theorem j_pre (l : Launch) {i n : Int32} {fv : Value} (hfv : fv = .null ∨ ∃ t, fv = .ref t) (h0 : ¬ i < 0) (h1 : i < n) (H : Heap) : Met l yJ3_checkIndex_8e157 (Jvm.Cond.code yJ3_checkIndex_8e157 cJ3_checkIndex_8e157 3 (some .int) :: GW) (jR 0 0) (va_Pc [.int i, .int n, fv] (fun U => U.heap = H)) (va_Qi (fun (r : Int32) (_ : Unit) => r = i) (fun _ t => t.heap = H) jN) 0 0 jN := by
  refine Met.ofW (cc := cJ3_checkIndex_8e157) (maxL := 3) (ret := some .int) (by decide) rfl ?_
  intro p e s m args below meth c s₁ B hml hq
  obtain ⟨rfl, rfl⟩ := hq
  have hx := B.exec
  have hb := B.bytes
  have hr := B.returns
  have hlocks := B.notSynchronized
  rcases hfv with rfl | ⟨t, rfl⟩
  · have hl := lv_entry ([.int i, .int n, .null]) (n := 3) (Nat.le_of_ble_eq_true rfl)
    rw [lg_entry_eq]
    generalize (lg_sl ([.int i, .int n, .null]) ++ List.replicate (3 - (lg_sl ([.int i, .int n, .null])).length) Slot.unset).toArray = ls at hl ⊢
    have hl : lv_has ls 3 [(0, .int i), (1, .int n), (2, .null)] := hl
    refine lv_iload_n hx hb jd_pre_0 rfl (lv_at hl 0 rfl) ?_
    refine lv_if_lt hx hb jd_pre_1 (tgt := 9) rfl (fun h => absurd h h0) (fun _ => ?_)
    refine lv_iload_n hx hb jd_pre_4 rfl (lv_at hl 0 rfl) ?_
    refine lv_iload_n hx hb jd_pre_5 rfl (lv_at hl 1 rfl) ?_
    refine lv_icmp_lt hx hb jd_pre_6 (tgt := 16) rfl (fun _ => ?_) (fun h => absurd h1 h)
    refine lv_iload_n hx hb jd_pre_16 rfl (lv_at hl 0 rfl) ?_
    exact W.iret (v := i) hx hb hr (fun t ht hW => ⟨⟨i, (), rfl, rfl, ht⟩, va_S.rf.F ht⟩) (fun q hq => by cases hq) jd_pre_17
  · have hl := lv_entry ([.int i, .int n, .ref t]) (n := 3) (Nat.le_of_ble_eq_true rfl)
    rw [lg_entry_eq]
    generalize (lg_sl ([.int i, .int n, .ref t]) ++ List.replicate (3 - (lg_sl ([.int i, .int n, .ref t])).length) Slot.unset).toArray = ls at hl ⊢
    have hl : lv_has ls 3 [(0, .int i), (1, .int n), (2, .ref t)] := hl
    refine lv_iload_n hx hb jd_pre_0 rfl (lv_at hl 0 rfl) ?_
    refine lv_if_lt hx hb jd_pre_1 (tgt := 9) rfl (fun h => absurd h h0) (fun _ => ?_)
    refine lv_iload_n hx hb jd_pre_4 rfl (lv_at hl 0 rfl) ?_
    refine lv_iload_n hx hb jd_pre_5 rfl (lv_at hl 1 rfl) ?_
    refine lv_icmp_lt hx hb jd_pre_6 (tgt := 16) rfl (fun _ => ?_) (fun h => absurd h1 h)
    refine lv_iload_n hx hb jd_pre_16 rfl (lv_at hl 0 rfl) ?_
    exact W.iret (v := i) hx hb hr (fun t ht hW => ⟨⟨i, (), rfl, rfl, ht⟩, va_S.rf.F ht⟩) (fun q hq => by cases hq) jd_pre_17
set_option maxHeartbeats 4000000 in
set_option maxRecDepth 100000 in
theorem j_chk (l : Launch) {i n : Int32} (h0 : ¬ i < 0) (h1 : i < n) (H : Heap) : Met l yJ0_checkIndex_df160 (Jvm.Cond.code yJ0_checkIndex_df160 cJ0_checkIndex_df160 2 none :: GW) (jR 1 22) (va_Pc [.int i, .int n] (fun U => U.heap = H ∧ jZ U)) (va_Qv (fun (_ : Unit) => True) (fun _ t => t.heap = H) jN) 0 0 jN := by
  refine Met.ofW (cc := cJ0_checkIndex_df160) (maxL := 2) (ret := none) (by decide) rfl ?_
  intro p e s m args below meth c s₁ B hml hq
  obtain ⟨rfl, rfl, hZ⟩ := hq
  have hx := B.exec
  have hb := B.bytes
  have hr := B.returns
  have hlocks := B.notSynchronized
  have hts := atoms_spec (ws := Jvm.Cond.code yJ0_checkIndex_df160 cJ0_checkIndex_df160 2 none :: GW) B.pre
  have hG : ∀ w ∈ GW, w.before _ s = true := fun w hw => hts w (List.mem_cons_of_mem _ hw)
  have hown : s.vm.findClass RJ0 = some m.cls := findClass_of_methodNamed B.named
  have hl := lv_entry ([.int i, .int n]) (n := 2) (Nat.le_of_ble_eq_true rfl)
  rw [lg_entry_eq]
  generalize (lg_sl ([.int i, .int n]) ++ List.replicate (2 - (lg_sl ([.int i, .int n])).length) Slot.unset).toArray = ls at hl ⊢
  have hl : lv_has ls 2 [(0, .int i), (1, .int n)] := hl
  refine lv_iload_n hx hb jd_chk_0 rfl (lv_at hl 0 rfl) ?_
  refine lv_iload_n hx hb jd_chk_1 rfl (lv_at hl 1 rfl) ?_
  have go : ∀ fv : Value, (fv = .null ∨ ∃ t, fv = .ref t) → va_Z "jdk/internal/util/Preconditions" "SIOOBE_FORMATTER" "Ljava/util/function/BiFunction;" fv jN s s.heap → W p l e (headSpec (Jvm.Cond.code yJ0_checkIndex_df160 cJ0_checkIndex_df160 2 none :: GW) (jR 1 22)).room s m [Value.int i, .int n].toArray below meth c s.heap [] 0 0 (MQ below (va_Qv (fun (_ : Unit) => True) (fun _ t => t.heap = s.heap) jN) [Value.int i, .int n].toArray s 0 0 jN) (F0 m 2 ls [.int n, .int i]) := by
    intro fv hfv hz
    refine va_gets hx hb hz va_S.rf hown (hG _ (mjk 1 rfl)) (fun _ h => h) jd_chk_2 ?_
    refine va_calli (va_runS (As := [.int i, .int n, fv]) (rest := []) ⟨hx, hb, hml, hown, hG⟩ (j_pre l hfv h0 h1 s.heap) (va_cwS 3 hG (jgoodS (mjk 2 rfl) (mjk 3 rfl) (mjk 4 rfl) (mjk 0 rfl)) rfl rfl rfl ⟨by decide, by decide, by decide +kernel⟩ ⟨Nat.le_of_ble_eq_true rfl, Nat.le_of_ble_eq_true rfl⟩) ⟨fun a U g mk q => q, fun U hU hW => ⟨rfl, hU⟩⟩ rfl rfl hl.1 rfl (lv_room (Nat.le_of_ble_eq_true rfl)) jd_chk_5 ⟨Nat.zero_le _, Nat.zero_le _⟩) (va_S.rf (A := jN)) (fun _ _ h => h.elim) (fun _ h => h.elim) (fun r u t H1 locs1 ht hvm hw hB hz9 hk1 hS => ?_)
    have e : H1 = s.heap := ht.symm.trans hB
    subst e
    refine lv_pop hx hb jd_chk_8 rfl ?_
    exact W.vret hx hb hr (fun t ht hW => ⟨⟨(), rfl, trivial, ht⟩, hS.F ht⟩) hS.2.2 jd_chk_9
  rcases hZ with hz | ⟨t, hz⟩
  · exact go .null (Or.inl rfl) hz
  · exact go (.ref t) (Or.inr ⟨t, rfl⟩) hz
def jch (b : Int32) : Int32 := ((b &&& 255).toUInt32 % 65536).toInt32
set_option maxHeartbeats 4000000 in
set_option maxRecDepth 100000 in
theorem j_lch (l : Launch) {i : Int32} {a N : Nat} {f : Nat → Int32} (hN : N < 2147483648) (hi : vp_in i N) (hn : narrow .char (.int (jch (f i.toNatClampNeg))) = .int (jch (f i.toNatClampNeg))) (H : Heap) : Met l yJ1_charAt_3b067 (Jvm.Cond.code yJ1_charAt_3b067 cJ1_charAt_3b067 2 (some .char) :: GW) (jR 2 43) (va_Pc [.ref a, .int i] (fun U => U.heap = H ∧ jZ U ∧ va_T .byte a N (fun j => .int (f j)) jN U U.heap)) (va_Qi (fun (r : Int32) (_ : Unit) => r = jch (f i.toNatClampNeg)) (fun _ t => t.heap = H) jN) 0 0 jN := by
  refine Met.ofW (cc := cJ1_charAt_3b067) (maxL := 2) (ret := some .char) (by decide) rfl ?_
  intro p e s m args below meth c s₁ B hml hq
  obtain ⟨rfl, rfl, hZ, hT⟩ := hq
  have hx := B.exec
  have hb := B.bytes
  have hr := B.returns
  have hlocks := B.notSynchronized
  have hts := atoms_spec (ws := Jvm.Cond.code yJ1_charAt_3b067 cJ1_charAt_3b067 2 (some .char) :: GW) B.pre
  have hG : ∀ w ∈ GW, w.before _ s = true := fun w hw => hts w (List.mem_cons_of_mem _ hw)
  have hown : s.vm.findClass RJ1 = some m.cls := findClass_of_methodNamed B.named
  have hl := lv_entry ([.ref a, .int i]) (n := 2) (Nat.le_of_ble_eq_true rfl)
  rw [lg_entry_eq]
  generalize (lg_sl ([.ref a, .int i]) ++ List.replicate (2 - (lg_sl ([.ref a, .int i])).length) Slot.unset).toArray = ls at hl ⊢
  have hl : lv_has ls 2 [(0, .ref a), (1, .int i)] := hl
  have hi0 : ¬ i < 0 := fun h => hi (Or.inl h)
  have hi1 : i < Int32.ofNat N := by
    have h9 : i.toNatClampNeg < N := Nat.not_le.mp fun q => hi (Or.inr q)
    have h8 : (0 : Int) ≤ i.toInt := by
      have := Int32.not_lt.mp hi0
      simpa using Int32.le_iff_toInt_le.mp this
    have h7 : i.toInt = (i.toNatClampNeg : Int) := by
      show i.toInt = ((i.toInt.toNat : Nat) : Int)
      omega
    rw [Int32.lt_iff_toInt_lt, h7]
    have e : (Int32.ofNat N).toInt = (N : Int) := by
      have := m_toInt (x := (N : Int)) ⟨by omega, by omega⟩
      exact this
    rw [e]
    omega
  refine lv_iload_n hx hb jd_lch_0 rfl (lv_at hl 1 rfl) ?_
  refine lv_aload_n hx hb jd_lch_1 rfl (lv_at hl 0 rfl) ?_
  refine va_tlen hx hb hT va_S.rf rfl jd_lch_2 ?_
  refine va_callv (va_runS (As := [.int i, .int (Int32.ofNat N)]) (rest := []) ⟨hx, hb, hml, hown, hG⟩ (j_chk l hi0 hi1 s.heap) (va_cwS 2 hG (jgoodS (mjk 6 rfl) (mjk 7 rfl) (mjk 8 rfl) (mjk 5 rfl)) rfl rfl rfl ⟨by decide, by decide, by decide +kernel⟩ ⟨Nat.le_of_ble_eq_true rfl, Nat.le_of_ble_eq_true rfl⟩) ⟨fun a U g mk q => q, fun U hU hW => ⟨rfl, hU, by show va_Zq _ _ _ jN U U.heap; rw [hU]; exact va_Zq.moved hW.alike hZ⟩⟩ rfl rfl hl.1 rfl (lv_room (Nat.le_of_ble_eq_true rfl)) jd_lch_3 ⟨Nat.zero_le _, Nat.zero_le _⟩) (va_S.rf (A := jN)) (fun _ _ h => h.elim) (fun _ h => h.elim) (fun u t H1 locs1 ht hvm hw hB hz9 hk1 hS => ?_)
  have e : H1 = s.heap := ht.symm.trans hB
  subst e
  refine lv_aload_n hx hb jd_lch_6 rfl (lv_at hl 0 rfl) ?_
  refine lv_iload_n hx hb jd_lch_7 rfl (lv_at hl 1 rfl) ?_
  refine va_tb hx hb hT hS hi rfl jd_lch_8 ?_
  refine lv_sipush (v := 255) hx hb jd_lch_9 (by decide) ?_
  refine lv_iand hx hb jd_lch_12 ?_
  refine lv_i2c (v := jch (f i.toNatClampNeg)) hx hb jd_lch_13 rfl ?_
  exact W.zret (v := jch (f i.toNatClampNeg)) hx hb hr hn (fun t ht hW => ⟨⟨_, (), rfl, rfl, ht⟩, hS.F ht⟩) hS.2.2 jd_lch_14
set_option maxHeartbeats 4000000 in
set_option maxRecDepth 100000 in
theorem j_cod (l : Launch) {a : Nat} (H : Heap) : Met l yJ0_coder_7d493 (Jvm.Cond.code yJ0_coder_7d493 cJ0_coder_7d493 1 (some .byte) :: GW) (jR 0 0) (va_Pc [.ref a] (fun U => U.heap = H ∧ jCS U ∧ va_OF "java/lang/String" "coder" "B" (.int 0) a jN U U.heap)) (va_Qi (fun (r : Int32) (_ : Unit) => r = 0) (fun _ t => t.heap = H) jN) 0 0 jN := by
  refine Met.ofW (cc := cJ0_coder_7d493) (maxL := 1) (ret := some .byte) (by decide) rfl ?_
  intro p e s m args below meth c s₁ B hml hq
  obtain ⟨rfl, rfl, hC, hE⟩ := hq
  have hx := B.exec
  have hb := B.bytes
  have hr := B.returns
  have hlocks := B.notSynchronized
  have hts := atoms_spec (ws := Jvm.Cond.code yJ0_coder_7d493 cJ0_coder_7d493 1 (some .byte) :: GW) B.pre
  have hG : ∀ w ∈ GW, w.before _ s = true := fun w hw => hts w (List.mem_cons_of_mem _ hw)
  have hown : s.vm.findClass RJ0 = some m.cls := findClass_of_methodNamed B.named
  have hl := lv_entry ([.ref a]) (n := 1) (Nat.le_of_ble_eq_true rfl)
  rw [lg_entry_eq]
  generalize (lg_sl ([.ref a]) ++ List.replicate (1 - (lg_sl ([.ref a])).length) Slot.unset).toArray = ls at hl ⊢
  have hl : lv_has ls 1 [(0, .ref a)] := hl
  refine va_gets hx hb hC va_S.rf hown (hG _ (mjk 14 rfl)) (fun _ h => h) jd_cod_0 ?_
  refine lv_if_eq hx hb jd_cod_3 (tgt := 13) rfl (fun h => absurd h (by decide)) (fun _ => ?_)
  refine lv_aload_n hx hb jd_cod_6 rfl (lv_at hl 0 rfl) ?_
  refine vk_getf hx hb hE va_S.rf hown (hG _ (mjk 15 rfl)) (fun _ h => h) jd_cod_7 ?_
  refine lv_goto hx hb jd_cod_10 (tgt := 14) rfl ?_
  exact W.zret (v := 0) hx hb hr rfl (fun t ht hW => ⟨⟨0, (), rfl, rfl, ht⟩, va_S.rf.F ht⟩) (fun q hq => by cases hq) jd_cod_14
set_option maxHeartbeats 4000000 in
set_option maxRecDepth 100000 in
theorem j_lat (l : Launch) {a : Nat} (H : Heap) : Met l yJ0_isLatin1_aae02 (Jvm.Cond.code yJ0_isLatin1_aae02 cJ0_isLatin1_aae02 1 (some .boolean) :: GW) (jR 0 0) (va_Pc [.ref a] (fun U => U.heap = H ∧ jCS U ∧ va_OF "java/lang/String" "coder" "B" (.int 0) a jN U U.heap)) (va_Qi (fun (r : Int32) (_ : Unit) => r = 1) (fun _ t => t.heap = H) jN) 0 0 jN := by
  refine Met.ofW (cc := cJ0_isLatin1_aae02) (maxL := 1) (ret := some .boolean) (by decide) rfl ?_
  intro p e s m args below meth c s₁ B hml hq
  obtain ⟨rfl, rfl, hC, hE⟩ := hq
  have hx := B.exec
  have hb := B.bytes
  have hr := B.returns
  have hlocks := B.notSynchronized
  have hts := atoms_spec (ws := Jvm.Cond.code yJ0_isLatin1_aae02 cJ0_isLatin1_aae02 1 (some .boolean) :: GW) B.pre
  have hG : ∀ w ∈ GW, w.before _ s = true := fun w hw => hts w (List.mem_cons_of_mem _ hw)
  have hown : s.vm.findClass RJ0 = some m.cls := findClass_of_methodNamed B.named
  have hl := lv_entry ([.ref a]) (n := 1) (Nat.le_of_ble_eq_true rfl)
  rw [lg_entry_eq]
  generalize (lg_sl ([.ref a]) ++ List.replicate (1 - (lg_sl ([.ref a])).length) Slot.unset).toArray = ls at hl ⊢
  have hl : lv_has ls 1 [(0, .ref a)] := hl
  refine va_gets hx hb hC va_S.rf hown (hG _ (mjk 14 rfl)) (fun _ h => h) jd_lat_0 ?_
  refine lv_if_eq hx hb jd_lat_3 (tgt := 17) rfl (fun h => absurd h (by decide)) (fun _ => ?_)
  refine lv_aload_n hx hb jd_lat_6 rfl (lv_at hl 0 rfl) ?_
  refine vk_getf hx hb hE va_S.rf hown (hG _ (mjk 15 rfl)) (fun _ h => h) jd_lat_7 ?_
  refine lv_if_ne hx hb jd_lat_10 (tgt := 17) rfl (fun h => absurd rfl h) (fun _ => ?_)
  refine lv_iconst (v := 1) hx hb jd_lat_13 (by decide) ?_
  refine lv_goto hx hb jd_lat_14 (tgt := 18) rfl ?_
  exact W.zret (v := 1) hx hb hr rfl (fun t ht hW => ⟨⟨1, (), rfl, rfl, ht⟩, va_S.rf.F ht⟩) (fun q hq => by cases hq) jd_lat_18
set_option maxHeartbeats 4000000 in
set_option maxRecDepth 100000 in
theorem j_len (l : Launch) {a aV N : Nat} {f : Nat → Value} (H : Heap) : Met l yJ0_length_8abf5 (Jvm.Cond.code yJ0_length_8abf5 cJ0_length_8abf5 1 (some .int) :: GW) (jR 1 20) (va_Pc [.ref a] (fun U => U.heap = H ∧ jCS U ∧ va_O "java/lang/String" a jN U U.heap ∧ va_OF "java/lang/String" "coder" "B" (.int 0) a jN U U.heap ∧ va_OF "java/lang/String" "value" "[B" (.ref aV) a jN U U.heap ∧ va_T .byte aV N f jN U U.heap)) (va_Qi (fun (r : Int32) (_ : Unit) => r = Int32.ofNat N) (fun _ t => t.heap = H) jN) 0 0 jN := by
  refine Met.ofW (cc := cJ0_length_8abf5) (maxL := 1) (ret := some .int) (by decide) rfl ?_
  intro p e s m args below meth c s₁ B hml hq
  obtain ⟨rfl, rfl, hC, hO, hE, hV, hT⟩ := hq
  have hx := B.exec
  have hb := B.bytes
  have hr := B.returns
  have hlocks := B.notSynchronized
  have hts := atoms_spec (ws := Jvm.Cond.code yJ0_length_8abf5 cJ0_length_8abf5 1 (some .int) :: GW) B.pre
  have hG : ∀ w ∈ GW, w.before _ s = true := fun w hw => hts w (List.mem_cons_of_mem _ hw)
  have hown : s.vm.findClass RJ0 = some m.cls := findClass_of_methodNamed B.named
  have hl := lv_entry ([.ref a]) (n := 1) (Nat.le_of_ble_eq_true rfl)
  rw [lg_entry_eq]
  generalize (lg_sl ([.ref a]) ++ List.replicate (1 - (lg_sl ([.ref a])).length) Slot.unset).toArray = ls at hl ⊢
  have hl : lv_has ls 1 [(0, .ref a)] := hl
  refine lv_aload_n hx hb jd_len_0 rfl (lv_at hl 0 rfl) ?_
  refine vk_getf hx hb hV va_S.rf hown (hG _ (mjk 24 rfl)) (fun _ h => h) jd_len_1 ?_
  refine va_tlen hx hb hT va_S.rf rfl jd_len_4 ?_
  refine lv_aload_n hx hb jd_len_5 rfl (lv_at hl 0 rfl) ?_
  refine va_calli (va_runV (As := []) (rest := [.int (Int32.ofNat N)]) ⟨hx, hb, hml, hown, hG⟩ (j_cod l (a := a) s.heap) (cwV (C := RJ0) 0 hG (jgoodV (mjk 16 rfl) (mjk 17 rfl) (mjk 18 rfl) (mjk 8 rfl) (mjk 13 rfl)) rfl rfl rfl ⟨rfl, by decide, by decide, by decide +kernel⟩ ⟨Nat.le_of_ble_eq_true rfl, Nat.le_of_ble_eq_true rfl⟩) ⟨fun a U g mk q => q, (by obtain ⟨cell, g1, g2, g3, -⟩ := hO; exact ⟨cell, g1, g2, g3⟩), fun U hU hW => ⟨rfl, hU, by show va_Z _ _ _ _ jN U U.heap; rw [hU]; exact va_Z.moved hW.alike hC, by rw [hU]; exact va_OF.moved hW.alike hE⟩⟩ rfl rfl hl.1 rfl (lv_room (Nat.le_of_ble_eq_true rfl)) jd_len_6 ⟨Nat.zero_le _, Nat.zero_le _⟩) (va_S.rf (A := jN)) (fun _ _ h => h.elim) (fun _ h => h.elim) (fun r u t H1 locs1 ht hvm hw hB hz9 hk1 hS => ?_)
  have e : H1 = s.heap := ht.symm.trans hB
  subst e
  subst hw
  refine lv_ishr hx hb jd_len_9 ?_
  have e0 : Int32.ofNat N >>> ((0 : Int32) &&& 31) = Int32.ofNat N := by
    rw [show ((0 : Int32) &&& 31) = 0 by decide]
    simp
  rw [e0]
  exact W.iret (v := Int32.ofNat N) hx hb hr (fun t ht hW => ⟨⟨_, (), rfl, rfl, ht⟩, hS.F ht⟩) hS.2.2 jd_len_10
set_option maxHeartbeats 4000000 in
set_option maxRecDepth 100000 in
theorem j_cha (l : Launch) {i : Int32} {a aV N : Nat} {f : Nat → Int32} (hN : N < 2147483648) (hi : vp_in i N) (hn : narrow .char (.int (jch (f i.toNatClampNeg))) = .int (jch (f i.toNatClampNeg))) (H : Heap) : Met l yJ0_charAt_5068e (Jvm.Cond.code yJ0_charAt_5068e cJ0_charAt_5068e 2 (some .char) :: GW) (jR 3 64) (va_Pc [.ref a, .int i] (fun U => U.heap = H ∧ jZ U ∧ jCS U ∧ va_O "java/lang/String" a jN U U.heap ∧ va_OF "java/lang/String" "coder" "B" (.int 0) a jN U U.heap ∧ va_OF "java/lang/String" "value" "[B" (.ref aV) a jN U U.heap ∧ va_T .byte aV N (fun j => .int (f j)) jN U U.heap)) (va_Qi (fun (r : Int32) (_ : Unit) => r = jch (f i.toNatClampNeg)) (fun _ t => t.heap = H) jN) 0 0 jN := by
  refine Met.ofW (cc := cJ0_charAt_5068e) (maxL := 2) (ret := some .char) (by decide) rfl ?_
  intro p e s m args below meth c s₁ B hml hq
  obtain ⟨rfl, rfl, hZ, hC, hO, hE, hV, hT⟩ := hq
  have hx := B.exec
  have hb := B.bytes
  have hr := B.returns
  have hlocks := B.notSynchronized
  have hts := atoms_spec (ws := Jvm.Cond.code yJ0_charAt_5068e cJ0_charAt_5068e 2 (some .char) :: GW) B.pre
  have hG : ∀ w ∈ GW, w.before _ s = true := fun w hw => hts w (List.mem_cons_of_mem _ hw)
  have hown : s.vm.findClass RJ0 = some m.cls := findClass_of_methodNamed B.named
  have hl := lv_entry ([.ref a, .int i]) (n := 2) (Nat.le_of_ble_eq_true rfl)
  rw [lg_entry_eq]
  generalize (lg_sl ([.ref a, .int i]) ++ List.replicate (2 - (lg_sl ([.ref a, .int i])).length) Slot.unset).toArray = ls at hl ⊢
  have hl : lv_has ls 2 [(0, .ref a), (1, .int i)] := hl
  refine lv_aload_n hx hb jd_cha_0 rfl (lv_at hl 0 rfl) ?_
  refine va_calli (va_runV (As := []) (rest := []) ⟨hx, hb, hml, hown, hG⟩ (j_lat l (a := a) s.heap) (cwV (C := RJ0) 0 hG (jgoodV (mjk 20 rfl) (mjk 21 rfl) (mjk 22 rfl) (mjk 8 rfl) (mjk 19 rfl)) rfl rfl rfl ⟨rfl, by decide, by decide, by decide +kernel⟩ ⟨Nat.le_of_ble_eq_true rfl, Nat.le_of_ble_eq_true rfl⟩) ⟨fun a U g mk q => q, (by obtain ⟨cell, g1, g2, g3, -⟩ := hO; exact ⟨cell, g1, g2, g3⟩), fun U hU hW => ⟨rfl, hU, by show va_Z _ _ _ _ jN U U.heap; rw [hU]; exact va_Z.moved hW.alike hC, by rw [hU]; exact va_OF.moved hW.alike hE⟩⟩ rfl rfl hl.1 rfl (lv_room (Nat.le_of_ble_eq_true rfl)) jd_cha_1 ⟨Nat.zero_le _, Nat.zero_le _⟩) (va_S.rf (A := jN)) (fun _ _ h => h.elim) (fun _ h => h.elim) (fun r u t H1 locs1 ht hvm hw hB hz9 hk1 hS => ?_)
  have e : H1 = s.heap := ht.symm.trans hB
  subst e
  subst hw
  refine lv_if_eq hx hb jd_cha_4 (tgt := 16) rfl (fun h => absurd h (by decide)) (fun _ => ?_)
  refine lv_aload_n hx hb jd_cha_7 rfl (lv_at hl 0 rfl) ?_
  refine vk_getf hx hb hV hS hown (hG _ (mjk 24 rfl)) (fun _ h => h) jd_cha_8 ?_
  refine lv_iload_n hx hb jd_cha_11 rfl (lv_at hl 1 rfl) ?_
  refine va_calli (va_runS (As := [.ref aV, .int i]) (rest := []) ⟨hx, hb, hml, hown, hG⟩ (j_lch l (a := aV) (f := f) hN hi hn s.heap) (va_cwS 2 hG (jgoodS (mjk 10 rfl) (mjk 11 rfl) (mjk 12 rfl) (mjk 9 rfl)) rfl rfl rfl ⟨by decide, by decide, by decide +kernel⟩ ⟨Nat.le_of_ble_eq_true rfl, Nat.le_of_ble_eq_true rfl⟩) ⟨fun a U g mk q => q, fun U hU hW => ⟨rfl, hU, by show va_Zq _ _ _ jN U U.heap; rw [hU]; exact va_Zq.moved hW.alike hZ, by rw [hU]; exact va_T.moved hW.alike hT⟩⟩ rfl rfl hl.1 rfl (lv_room (Nat.le_of_ble_eq_true rfl)) jd_cha_12 ⟨Nat.zero_le _, Nat.zero_le _⟩) hS (fun _ _ h => h.elim) (fun _ h => h.elim) (fun r u t H1 locs1 ht hvm hw hB hz9 hk1 hS => ?_)
  have e : H1 = s.heap := ht.symm.trans hB
  subst e
  subst hw
  exact W.zret (v := jch (f i.toNatClampNeg)) hx hb hr hn (fun t ht hW => ⟨⟨_, (), rfl, rfl, ht⟩, hS.F ht⟩) hS.2.2 jd_cha_15
theorem tsl_rng (k : Int) (h0 : 0 ≤ k) (h1 : k < 7) : 4 ≤ tsl k ∧ tsl k ≤ 7 := by
  have h : k = 0 ∨ k = 1 ∨ k = 2 ∨ k = 3 ∨ k = 4 ∨ k = 5 ∨ k = 6 := by omega
  rcases h with rfl | rfl | rfl | rfl | rfl | rfl | rfl <;> decide
theorem jch_ok : ∀ k : Nat, k < 7 → ∀ i : Nat, i < 7 → (i : Int) < tsl (k : Int) → jch (Int32.ofInt (tsc (k : Int) (i : Int))) = Int32.ofInt (tsc (k : Int) (i : Int)) ∧ narrow .char (.int (jch (Int32.ofInt (tsc (k : Int) (i : Int))))) = .int (jch (Int32.ofInt (tsc (k : Int) (i : Int)))) := by decide +kernel
section SSTR
variable {p : Program} {l : Launch} {e : Env} {s : State} {mid : MethodId} {args : Array Value} {below : List Frame} {meth : Method} {c : Code} {Q : State → Prop}
variable {E : mE} {D : va_G} {tc : Int → ClassId} {O : mO} {j : Nat}
variable {C : Nat → List mV → mG → mD → mK → Prop} {K : mK} {pc : Nat} {L S : List mV} {cs ss : Nat} {G : mG} {d : mD}
theorem m_texts (hO : mOld E O (mAr E) s s.heap) {H : Heap} {locs : List Loc} (hs : va_S (mAr E) s.heap H locs) {k : Nat} (hk : k < 7) : ∃ aV : Nat, ∀ U : State, U.heap = H → s.WarmedH U.vm → (jZ U ∧ jCS U) ∧ va_O "java/lang/String" (E.2.2 k) jN U U.heap ∧ va_OF "java/lang/String" "coder" "B" (.int 0) (E.2.2 k) jN U U.heap ∧ va_OF "java/lang/String" "value" "[B" (.ref aV) (E.2.2 k) jN U U.heap ∧ va_T .byte aV (tsl (k : Int)).toNat (fun i => .int (Int32.ofInt (tsc (k : Int) (i : Int)))) jN U U.heap := by
  obtain ⟨-, -, -, -, -, -, -, -, -, -, -, ⟨aV, h12⟩, h13, h14⟩ := hO
  obtain ⟨g1, g2, g3, g4⟩ := h12 k hk
  refine ⟨aV k, fun U hU hW => ?_⟩
  have hA := hW.alike
  have n : ∀ q, jN q → mAr E q := fun q h => h.elim
  subst hU
  exact ⟨⟨va_Zq.narrow (va_Zq.moved hA (h14.kept hs.2.1)) n, va_Z.narrow (va_Z.moved hA (h13.kept hs.2.1)) n⟩, va_O.narrow (va_O.moved hA (g1.kept hs.2.1)) n, va_OF.narrow (va_OF.moved hA (g2.kept hs.2.1)) n, va_OF.narrow (va_OF.moved hA (g3.kept hs.2.1)) n, va_T.narrow (va_T.moved hA (g4.kept hs.2.1)) n⟩
theorem m_recvS {H : Heap} {k : Nat} (h : ∀ U : State, U.heap = H → s.WarmedH U.vm → va_O "java/lang/String" (E.2.2 k) jN U U.heap) : ∃ cellB : Cell, H[E.2.2 k]? = some cellB ∧ cellB.vm.isStatics = false ∧ s.vm.findClass RJ0 = some cellB.cls := by
  have h9 := h { s with heap := H } rfl (State.WarmedH.refl s)
  obtain ⟨cell, g1, g2, g3, -⟩ := h9
  exact ⟨cell, g1, g2, g3⟩
theorem s_strlen (hj : j < 341) (hF : mFrame l E D tc O j p s mid args meth c) {i : Nat} (hlk : mlk (mSP (mown j)) i = some 4) (hd : decode (mb j) pc = .ok (.invokevirtual i, 3)) (h : mint (mW p l e s mid args below meth c Q E D tc j) C j K (mX O j 3 (.invokespecial 4) pc L S cs ss G d)) : mW p l e s mid args below meth c Q E D tc j (pc, L, S, cs, ss, G, d) := by
  have hw : Jvm.Cond.methodLink (mR (mown j)) i yJ0_length_8abf5 ∈ GW := mSP_use (mown_lt hj) hlk
  have hGW := hF.2.2.2.2.2.1
  simp only [mX] at h
  split at h
  case h_5 =>
    rename_i k S' e0
    obtain ⟨⟨⟨q0, q1⟩, q2, q3, q4⟩, h⟩ := h
    intro H locs ls hl hrep hs h1 h2
    obtain ⟨k, rfl⟩ := Int.eq_ofNat_of_zero_le q0
    obtain ⟨aV, hU⟩ := m_texts hF.2.2.2.2.2.2.2.2.2.2.1 hs (k := k) (by omega)
    refine va_calli (va_runV (As := []) (rest := mst E S') (g := F0 mid pc ls (mst E ((5, (k : Int)) :: S'))) (m_cfix hF) (j_len l (a := E.2.2 k) (aV := aV) (N := (tsl (k : Int)).toNat) (f := fun i => .int (Int32.ofInt (tsc (k : Int) (i : Int)))) H) (cwV (C := RJ0) 0 hGW (jgoodV hw (mjk 25 rfl) (mjk 26 rfl) (mjk 8 rfl) (mjk 23 rfl)) rfl rfl rfl ⟨rfl, by decide, by decide, by decide +kernel⟩ ⟨by show 1 + 1 ≤ mdep j; omega, by show 8 + (1 + 11) + 20 ≤ mneed j; omega⟩) ⟨fun a U g mk q => q, m_recvS (fun U a b => (hU U a b).2.1), fun U hu hW => ⟨rfl, hu, (hU U hu hW).1.2, (hU U hu hW).2⟩⟩ rfl rfl hl.1 rfl (by show 2 * 0 + _ ≤ 8; rw [Nat.mul_zero, Nat.zero_add, m_cats]; exact q3) hd ⟨h1, h2⟩) hs (fun _ _ h => h.elim) (fun _ h => h.elim) (fun r u t H1 locs1 ht hvm hw hB hz9 hk1 hS => ?_)
    have e9 : H1 = H := ht.symm.trans hB
    subst e9
    subst hw
    have e8 : Int32.ofNat (tsl (k : Int)).toNat = Int32.ofInt (tsl (k : Int)) := by
      have := tsl_rng (k : Int) q0 q1
      rw [show tsl (k : Int) = (((tsl (k : Int)).toNat : Nat) : Int) by omega]
      rfl
    rw [e8]
    exact h H1 locs1 ls hl hrep hS h1 h2
  all_goals first | exact absurd h.1 id | (rename_i e0 e1; exact absurd e0 (by decide)) | (simp at *; done)
theorem s_strch (hj : j < 341) (hF : mFrame l E D tc O j p s mid args meth c) {i : Nat} (hlk : mlk (mSP (mown j)) i = some 5) (hd : decode (mb j) pc = .ok (.invokevirtual i, 3)) (h : mint (mW p l e s mid args below meth c Q E D tc j) C j K (mX O j 3 (.invokespecial 5) pc L S cs ss G d)) : mW p l e s mid args below meth c Q E D tc j (pc, L, S, cs, ss, G, d) := by
  have hw : Jvm.Cond.methodLink (mR (mown j)) i yJ0_charAt_5068e ∈ GW := mSP_use (mown_lt hj) hlk
  have hGW := hF.2.2.2.2.2.1
  simp only [mX] at h
  split at h
  case h_6 =>
    rename_i x k S' e0
    obtain ⟨⟨⟨q0, q1, q5, q6⟩, q2, q3, q4⟩, h⟩ := h
    intro H locs ls hl hrep hs h1 h2
    obtain ⟨k, rfl⟩ := Int.eq_ofNat_of_zero_le q0
    obtain ⟨x, rfl⟩ := Int.eq_ofNat_of_zero_le q5
    obtain ⟨aV, hU⟩ := m_texts hF.2.2.2.2.2.2.2.2.2.2.1 hs (k := k) (by omega)
    have hr := tsl_rng (k : Int) q0 q1
    have hx9 : (Int32.ofInt (x : Int)).toNatClampNeg = x := by rw [m_nat (by omega) (by omega)]; rfl
    have hjc := jch_ok k (by omega) x (by omega) q6
    refine va_calli (va_runV (As := [.int (Int32.ofInt (x : Int))]) (rest := mst E S') (g := F0 mid pc ls (mst E ((0, (x : Int)) :: (5, (k : Int)) :: S'))) (m_cfix hF) (j_cha l (i := Int32.ofInt (x : Int)) (a := E.2.2 k) (aV := aV) (N := (tsl (k : Int)).toNat) (f := fun i => Int32.ofInt (tsc (k : Int) (i : Int))) (by omega) (m_in (n := tsl (k : Int)) (by omega) q6 (by omega)) (by rw [hx9]; exact hjc.2) H) (cwV (C := RJ0) 1 hGW (jgoodV hw (mjk 28 rfl) (mjk 29 rfl) (mjk 8 rfl) (mjk 27 rfl)) rfl rfl rfl ⟨rfl, by decide, by decide, by decide +kernel⟩ ⟨by show 3 + 1 ≤ mdep j; omega, by show 8 + (2 + 11) + 64 ≤ mneed j; omega⟩) ⟨fun a U g mk q => q, m_recvS (fun U a b => (hU U a b).2.1), fun U hu hW => ⟨rfl, hu, (hU U hu hW).1.1, (hU U hu hW).1.2, (hU U hu hW).2⟩⟩ rfl rfl hl.1 rfl (by show 2 * 0 + _ ≤ 8; rw [Nat.mul_zero, Nat.zero_add, m_cats]; exact q3) hd ⟨h1, h2⟩) hs (fun _ _ h => h.elim) (fun _ h => h.elim) (fun r u t H1 locs1 ht hvm hw hB hz9 hk1 hS => ?_)
    have e9 : H1 = H := ht.symm.trans hB
    subst e9
    subst hw
    rw [hx9, hjc.1]
    exact h H1 locs1 ls hl hrep hS h1 h2
  all_goals first | exact absurd h.1 id | (rename_i e0 e1; exact absurd e0 (by decide)) | (simp at *; done)
end SSTR
