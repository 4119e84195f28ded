/-! ===== the methods' bytes and links, checked against the tables ===== -/
def GW : List Jvm.Cond := lw_tbl.filter goodWord
def mtk (k : Nat) : List Jvm.Cond := match k with
  | 0 => k2_sels lw_privs
  | 1 => tables_1_1
  | 2 => tables_1_2
  | 3 => tables_1_3
  | 4 => tables_1_4
  | 5 => tables_1_5
  | 6 => tables_1_6
  | 7 => tables_1_7
  | 8 => tables_1_8
  | 9 => tables_1_9
  | _ => []
theorem mtk_in {k : Nat} {w : Jvm.Cond} (h : w ∈ mtk k) : w ∈ lw_tbl := by
  unfold lw_tbl tables_1
  simp only [List.mem_append]
  unfold mtk at h
  split at h <;> first | (simp only [h, true_or, or_true]; done) | (cases h; done)
def mG1 (p : Nat) (w : Jvm.Cond) : Bool := decide ((mtk (p / 1000))[p % 1000]? = some w) && goodWord w
def mT1 (p : Nat) (w : Jvm.Cond) : Bool := decide ((mtk (p / 1000))[p % 1000]? = some w)
theorem mG1_in {p : Nat} {w : Jvm.Cond} (h : mG1 p w = true) : w ∈ GW := by
  simp only [mG1, Bool.and_eq_true, decide_eq_true_eq] at h
  exact List.mem_filter.mpr ⟨mtk_in (List.mem_of_getElem? h.1), h.2⟩
theorem mT1_in {p : Nat} {w : Jvm.Cond} (h : mT1 p w = true) : w ∈ lw_tbl := by
  simp only [mT1, decide_eq_true_eq] at h
  exact mtk_in (List.mem_of_getElem? h)
def mfw (o i g : Nat) : Jvm.Cond := .fieldLink (mR o) i (mFn g).1 (mFn g).2.1 (mFn g).2.2.1
def mSpn (k : Nat) : MethodName := match k with
  | 0 => Lib.objectInit
  | 1 => Lib.Math.max.name
  | 2 => Lib.Math.min.name
  | 3 => arraycopyName
  | 4 => ⟨"java/lang/String", "length", "()I"⟩
  | _ => ⟨"java/lang/String", "charAt", "(I)C"⟩
def mStn (k : Nat) : String := match k with
  | 0 => "LOWEST"
  | _ => "HIGHEST"
def mnest : String := "WaitingBureau"
def mtx (k : Nat) : String := ["bureau", "office", "person", "join", "pass", "claim", "witness"].getD k ""
def mEs : List String := ["java/lang/RuntimeException", "java/lang/Exception"]
theorem mFL_ok : (List.range 16).all (fun o => (mFL o).all (fun e => mG1 e.2.2 (mfw o e.1 e.2.1))) = true := by decide +kernel
theorem mML_ok : (List.range 16).all (fun o => (mML o).all (fun e => mG1 e.2.2 (.methodLink (mR o) e.1 (my e.2.1)))) = true := by decide +kernel
theorem mNL_ok : (List.range 16).all (fun o => (mNL o).all (fun e => mT1 e.2.2 (.methodLinkNest (mR o) e.1 (my e.2.1) mnest))) = true := by decide +kernel
theorem mSP_ok : (List.range 16).all (fun o => (mSP o).all (fun e => mG1 e.2.2 (.methodLink (mR o) e.1 (mSpn e.2.1)))) = true := by decide +kernel
theorem mCL_ok : (List.range 16).all (fun o => (mCL o).all (fun e => mG1 e.2.2 (.classLink (mR o) e.1 (mCn e.2.1)))) = true := by decide +kernel
theorem mKL_ok : (List.range 16).all (fun o => (mKL o).all (fun e => mG1 e.2.2 (.constant (mR o) e.1 (Int32.ofInt e.2.1)))) = true := by decide +kernel
theorem mQL_ok : (List.range 16).all (fun o => (mQL o).all (fun e => mG1 e.2.2 (.constantLong (mR o) e.1 (Int64.ofInt e.2.1)))) = true := by decide +kernel
theorem mTL_ok : (List.range 16).all (fun o => (mTL o).all (fun e => mG1 e.2.2 (.fieldLink (mR o) e.1 mnest (mStn e.2.1) "[I"))) = true := by decide +kernel
theorem mTN_ok : (List.range 16).all (fun o => (mTN o).all (fun e => mT1 e.2.2 (.fieldLinkNest (mR o) e.1 mnest (mStn e.2.1) "[I" mnest))) = true := by decide +kernel
theorem mSL_ok : (List.range 16).all (fun o => (mSL o).all (fun e => mT1 e.2.2 (.stringRef (mR o) e.1 (mtx e.2.1)))) = true := by decide +kernel
theorem mXT_ok : mXTL.all (fun e => mT1 e.2.2.2 (.stringRef (mR e.1) e.2.1 e.2.2.1)) = true := by decide +kernel
theorem mnew_ok : (List.range 12).all (fun k => mG1 (mp_new.getD k 0) (.instantiable (mCn k) (mnf k)) && mG1 (mp_ci.getD k 0) (.initialized (mCn k))) = true := by decide +kernel
theorem mlay_ok : mp_lay.all (fun e => mG1 e.2 (u_lay (mCn (e.1 / 32)) (fun k => mFn (32 * (e.1 / 32) + k)) (e.1 % 32))) = true := by decide +kernel
theorem mexc_ok : mp_exc.all (fun e => mG1 e.2 (.initialized (mEn e.1))) = true := by decide +kernel
