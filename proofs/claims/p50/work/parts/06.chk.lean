/-! ===== the methods' bytes and links, checked against the tables ===== -/
-- the builder's private methods, chosen by a receiver of the class StringBuilder
def mSB : List Jvm.Cond := ([yJ5_ensureCapacityInternal_d00df, yJ5_newCapacity_0f7a4, yJ5_putStringAt_47b60, yJ5_inflateIfNeededFor_a7421] : List MethodName).map (fun y => .selects "java/lang/StringBuilder" y y)
def lw_t5 : List Jvm.Cond := mSB ++ lw_tbl
def GW : List Jvm.Cond := lw_t5.filter goodWord
def mtk (k : Nat) : List Jvm.Cond := match k with
  | 0 => k2_sels lw_privs
  | 1 => tables_1_1
  | 2 => tables_1_2
  | 3 => tables_1_3
  | 4 => tables_1_4
  | 5 => tables_1_5
  | 6 => tables_1_6
  | 7 => tables_1_7
  | 8 => tables_1_8
  | 90 => mSB
  | _ => []
theorem mtk_in {k : Nat} {w : Jvm.Cond} (h : w ∈ mtk k) : w ∈ lw_t5 := by
  unfold lw_t5 lw_tbl tables_1
  simp only [List.mem_append]
  unfold mtk at h
  split at h <;> first | (simp only [h, true_or, or_true]; done) | (cases h; done)
def mG1 (p : Nat) (w : Jvm.Cond) : Bool := decide ((mtk (p / 1000))[p % 1000]? = some w) && goodWord w
def mT1 (p : Nat) (w : Jvm.Cond) : Bool := decide ((mtk (p / 1000))[p % 1000]? = some w)
theorem mG1_in {p : Nat} {w : Jvm.Cond} (h : mG1 p w = true) : w ∈ GW := by
  simp only [mG1, Bool.and_eq_true, decide_eq_true_eq] at h
  exact List.mem_filter.mpr ⟨mtk_in (List.mem_of_getElem? h.1), h.2⟩
theorem mT1_in {p : Nat} {w : Jvm.Cond} (h : mT1 p w = true) : w ∈ lw_t5 := by
  simp only [mT1, decide_eq_true_eq] at h
  exact mtk_in (List.mem_of_getElem? h)
def mfw (o i g : Nat) : Jvm.Cond := .fieldLink (mR o) i (mFn g).1 (mFn g).2.1 (mFn g).2.2.1
def mSpn (k : Nat) : MethodName := match k with
  | 0 => Lib.objectInit
  | 1 => Lib.Math.max.name
  | 2 => Lib.Math.min.name
  | 3 => arraycopyName
  | 4 => ⟨"java/lang/String", "length", "()I"⟩
  | 5 => ⟨"java/lang/String", "charAt", "(I)C"⟩
  | 6 => ⟨"java/lang/String", "coder", "()B"⟩
  | 7 => ⟨"java/lang/String", "getBytes", "([BIB)V"⟩
  | 8 => ⟨"[B", "clone", "()Ljava/lang/Object;"⟩
  | _ => ⟨"java/lang/String", "checkIndex", "(II)V"⟩
def mStn (k : Nat) : String := match k with
  | 0 => "LOWEST"
  | _ => "HIGHEST"
def mnest : String := "WaitingBureau"
def mstw (k : Nat) : String × String × String := match k with
  | 0 => ("WaitingBureau", "LOWEST", "[I")
  | 1 => ("WaitingBureau", "HIGHEST", "[I")
  | 3 => ("java/lang/Integer", "DigitOnes", "[B")
  | 4 => ("java/lang/Integer", "DigitTens", "[B")
  | _ => ("java/lang/String", "COMPACT_STRINGS", "Z")
def mhost (o : Nat) : String := bif Nat.beq o 0 || Nat.beq o 23 then "WaitingBureauLaw" else "WaitingBureau"
def mcr (k : Nat) : Bool := Nat.blt k 16 && !Nat.beq k 11
def mfwN (o i g : Nat) : Jvm.Cond := .fieldLinkNest (mR o) i (mFn g).1 (mFn g).2.1 (mFn g).2.2.1 (mhost o)
def mtx (k : Nat) : String := ["bureau", "office", "person", "join", "pass", "claim", "witness", "bureau", "office o", ";\n", "person p", "pass ", "join p", " o", " ;", "p"].getD k ""
def mEs : List String := ["java/lang/RuntimeException", "java/lang/Exception"]
theorem mFL_ok : (List.range 32).all (fun o => (mFL o).all (fun e => mG1 e.2.2 (mfw o e.1 e.2.1))) = true := by decide +kernel
theorem mML_ok : (List.range 32).all (fun o => (mML o).all (fun e => mG1 e.2.2 (.methodLink (mR o) e.1 (my e.2.1)))) = true := by decide +kernel
theorem mNL_ok : (List.range 32).all (fun o => (mNL o).all (fun e => mT1 e.2.2 (.methodLinkNest (mR o) e.1 (my e.2.1) (mhost o)))) = true := by decide +kernel
theorem mSP_ok : (List.range 32).all (fun o => (mSP o).all (fun e => mG1 e.2.2 (.methodLink (mR o) e.1 (mSpn e.2.1)))) = true := by decide +kernel
theorem mFN_ok : (List.range 32).all (fun o => (mFN o).all (fun e => mT1 e.2.2 (mfwN o e.1 e.2.1))) = true := by decide +kernel
theorem mOL_ok : (List.range 32).all (fun o => (mOL o).all (fun e => mG1 e.2.2 (.methodLink (mR o) e.1 (mox e.2.1)))) = true := by decide +kernel
theorem mCL_ok : (List.range 32).all (fun o => (mCL o).all (fun e => mG1 e.2.2 (.classLink (mR o) e.1 (mCn e.2.1)))) = true := by decide +kernel
theorem mKL_ok : (List.range 32).all (fun o => (mKL o).all (fun e => mG1 e.2.2 (.constant (mR o) e.1 (Int32.ofInt e.2.1)))) = true := by decide +kernel
theorem mQL_ok : (List.range 32).all (fun o => (mQL o).all (fun e => mG1 e.2.2 (.constantLong (mR o) e.1 (Int64.ofInt e.2.1)))) = true := by decide +kernel
theorem mTL_ok : (List.range 32).all (fun o => (mTL o).all (fun e => mG1 e.2.2 (.fieldLink (mR o) e.1 (mstw e.2.1).1 (mstw e.2.1).2.1 (mstw e.2.1).2.2))) = true := by decide +kernel
theorem mTN_ok : (List.range 32).all (fun o => (mTN o).all (fun e => mT1 e.2.2 (.fieldLinkNest (mR o) e.1 mnest (mStn e.2.1) "[I" mnest))) = true := by decide +kernel
theorem mSL_ok : (List.range 32).all (fun o => (mSL o).all (fun e => mT1 e.2.2 (.stringRef (mR o) e.1 (mtx e.2.1)))) = true := by decide +kernel
theorem mXT_ok : mXTL.all (fun e => mT1 e.2.2.2 (.stringRef (mR e.1) e.2.1 e.2.2.1)) = true := by decide +kernel
theorem mnew_ok : (List.range 16).all (fun k => bif mcr k then mG1 (mp_new.getD k 0) (.instantiable (mCn k) (mnf k)) && mG1 (mp_ci.getD k 0) (.initialized (mCn k)) else true) = true := by decide +kernel
theorem mlay_ok : mp_lay.all (fun e => mG1 e.2 (u_lay (mCn (e.1 / 64)) (fun k => mFn (64 * (e.1 / 64) + k)) (e.1 % 64))) = true := by decide +kernel
-- the methods that the claim reaches, the law's own apart
def mreL : List Nat := [1, 2, 3, 4, 5, 6, 7, 8, 10, 11, 12, 13, 14, 15, 16, 17, 18, 19, 20, 21, 22, 23, 24, 25, 26, 27, 28, 29, 30, 31, 32, 33, 34, 35, 36, 37, 38, 39, 40, 41, 42, 45, 46, 47, 48, 49, 50, 51, 52, 53, 54, 55, 56, 57, 58, 59, 60, 61, 62, 63, 64, 65, 67, 68, 69, 70, 71, 72, 73, 74, 75, 76, 77, 78, 79, 81, 82, 83, 84, 85, 86, 87, 90, 91, 92, 93, 94, 95, 96, 97, 98, 99, 100, 101, 102, 103, 104, 105, 107, 108, 109, 110, 111, 112, 113, 114, 115, 116, 117, 118, 119, 120, 124, 126, 127, 128, 129, 130, 141, 150, 151, 152, 153, 154, 155, 156, 157, 158, 159, 160, 161, 162, 165, 166, 167, 169, 171, 172, 174, 297, 298, 299, 300, 341, 342, 343, 344, 345, 346, 347, 348, 349, 350, 351, 352, 353, 354, 355, 356, 357, 358, 359, 360, 361, 362, 363, 364, 365, 366, 367, 368, 369, 370, 371, 372, 373, 374, 375, 376, 377, 378, 379, 380, 381, 382, 383, 384, 385, 386, 387, 388, 389, 390, 391, 392, 393, 394, 395, 396, 397, 398, 399, 400, 401, 402, 403, 404, 405, 406, 407, 408, 409, 410, 411, 412, 413, 414, 415, 416, 417, 418, 419]
theorem mreL_ok : (List.range 420).all (fun j => bif mre j && !Nat.beq j 0 then mreL.contains j else true) = true := by decide +kernel
theorem mre_lt {j : Nat} (h : mre j = true) : j < 420 := by
  unfold mre at h
  rw [Bool.and_eq_true, Nat.blt_eq] at h
  exact h.1
theorem mreL_in {j : Nat} (h0 : 0 < j) (h : mre j = true) : j ∈ mreL := by
  have h1 := List.all_eq_true.mp mreL_ok j (List.mem_range.mpr (mre_lt h))
  have h2 : Nat.beq j 0 = false := by
    cases j with
    | zero => omega
    | succ n => rfl
  rw [h, h2] at h1
  simpa using h1
theorem mexc_ok : mp_exc.all (fun e => mG1 e.2 (.initialized (mEn e.1))) = true := by decide +kernel
-- a method's own words
def mJm (j : Nat) : Bool := mG1 (mp_init.getD j 0) (.initialized (my j).cls) && plainName (my j).cls && (my j).cls != "java/lang/invoke/MethodHandle" && (my j).cls != "java/lang/invoke/VarHandle"
  && decide ((my j).cls = mR (mown j))
  && (match mkd j with
    | 0 => mG1 (mp_inst.getD j 0) (.static (my j)) && decide ((parseMethodDescriptor (my j).desc).map (fun d => d.parameters.length) = some (mnp j))
    | 1 => mG1 (mp_inst.getD j 0) (.instanceMethod (my j)) && mG1 (mp_sel.getD j 0) (.selects (mCn (mcl j)) (my j) (my j)) && decide ((parseMethodDescriptor (my j).desc).map (fun d => d.parameters.length + 1) = some (mnp j)) && mcr (mcl j) && decide ((my j).cls = mCn (mcl j))
    | 6 => mG1 (mp_inst.getD j 0) (.instanceMethod (my j)) && mG1 (mp_sel.getD j 0) (.selects (mCn (mcl j)) (my j) (my j)) && decide ((parseMethodDescriptor (my j).desc).map (fun d => d.parameters.length + 1) = some (mnp j)) && mcr (mcl j) && mG1 (mp_sam.getD j 0) (.sameMethod (my j).cls (my j).cls (my j).name (my j).desc)
    | 2 => mG1 (mp_inst.getD j 0) (.instanceMethod (my j)) && decide ((my j).name = "<init>") && decide ((parseMethodDescriptor (my j).desc).map (fun d => d.parameters.length + 1) = some (mnp j)) && mcr (mcl j) && Nat.beq (mret j) 0
    | 4 => mG1 (mp_inst.getD j 0) (.instanceMethod (my j)) && mG1 (mp_sel.getD j 0) (.sameMethod (my j).cls (my j).cls (my j).name (my j).desc) && decide ((parseMethodDescriptor (my j).desc).map (fun d => d.parameters.length + 1) = some (mnp j)) && mcr (mcl j) && (my j).name != "<init>"
    | _ => mG1 (mp_inst.getD j 0) (.instanceMethod (my j)) && mG1 (mp_sel.getD j 0) (.selects (mCn (mcl j)) (mox j) (my j)) && decide ((parseMethodDescriptor (my j).desc).map (fun d => d.parameters.length + 1) = some (mnp j)) && mcr (mcl j) && decide ((mox j).desc = (my j).desc ∧ (mox j).name = (my j).name))
theorem mJm_ok : mreL.all mJm = true := by decide +kernel
def mcws : List Jvm.Cond := mreL.map mcode
def mp_codR : List Nat := [2028, 6173, 7069, 4125, 1102, 3189, 3193, 2134, 7190, 4110, 2067, 2173, 2209, 3052, 3057, 3079, 3084, 3093, 3098, 3135, 3210, 3235, 2214, 3039, 3074, 3102, 3106, 3214, 3048, 3044, 3030, 1051, 4100, 2126, 3070, 7040, 3118, 6190, 3130, 3165, 3151, 1095, 4105, 2130, 3088, 3173, 2073, 2181, 2185, 2197, 2205, 2218, 3061, 1045, 2177, 4093, 3110, 3122, 3114, 7023, 7027, 7031, 3139, 3143, 3147, 3169, 7229, 7185, 3222, 3226, 4016, 3230, 3239, 4007, 3184, 3180, 3201, 7181, 7212, 2048, 6128, 6124, 2189, 2193, 2201, 3065, 1147, 4115, 3126, 3161, 4012, 4003, 3218, 7141, 7145, 7158, 7173, 7177, 1194, 4120, 3197, 7149, 6228, 7233, 8003, 6233, 7002, 3205, 1037, 6104, 6132, 2169, 7137, 7154, 7163, 7169, 7224, 7238, 7208, 6157, 6180, 6197, 6205, 6212, 6219, 6237, 7007, 7014, 7035, 7044, 7052, 7064, 6166, 6161, 6184, 7056, 6223, 7018, 4130, 7194, 4019, 3176, 2137, 4130, 5183, 4140, 5040, 5043, 7098, 7219, 6007, 6003, 6011, 5239, 5235, 5231, 6019, 6015, 7082, 7094, 7104, 7090, 7086, 7108, 7112, 7116, 7121, 7125, 7204, 6099, 6095, 5047, 6151, 7074, 7077, 7128, 7215, 7133, 6066, 5056, 5089, 5093, 5081, 5191, 5204, 6040, 5118, 5142, 5138, 5210, 5207, 6031, 2222, 2232, 6034, 2226, 2236, 6063, 5053, 5078, 5074, 5188, 5201, 6026, 6046, 6048, 2239, 5194, 5104, 6052, 6055, 6058, 5096, 7137, 7154, 7163, 7169, 7224, 7238, 6166, 6161, 6184]
set_option maxRecDepth 200000 in
theorem mcws_eq : mcws = mp_codR.filterMap (fun p => (mtk (p / 1000))[p % 1000]?) := rfl
theorem mcode_good (j : Nat) : goodWord (mcode j) = true := by
  unfold mcode
  split <;> rfl
theorem mcode_in {j : Nat} (h0 : 0 < j) (h : mre j = true) : mcode j ∈ GW := by
  have h1 : mcode j ∈ mcws := List.mem_map.mpr ⟨j, mreL_in h0 h, rfl⟩
  rw [mcws_eq] at h1
  obtain ⟨p, -, hp⟩ := List.mem_filterMap.mp h1
  exact List.mem_filter.mpr ⟨mtk_in (List.mem_of_getElem? hp), mcode_good j⟩
theorem mJ_of {j : Nat} (h0 : 0 < j) (h : mre j = true) : mJm j = true := List.all_eq_true.mp mJm_ok j (mreL_in h0 h)
