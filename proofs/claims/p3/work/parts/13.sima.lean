/-! ===== one step of the machine for one of the small machine: what doesn't touch the cells ===== -/
def mRm (j : Nat) : Room := { frames := mdep j, cells := mmc j, slots := mms j, locals := mneed j }
theorem m_i8 {n : Int} (h1 : -128 ≤ n) (h2 : n ≤ 127) : (Int8.ofInt n).toInt32 = Int32.ofInt n := by
  rw [← Int32.toInt_inj, Int8.toInt_toInt32, m_toInt ⟨by omega, by omega⟩, Int8.toInt_ofInt]
  have e : ((Int8.size : Nat) : Int) = 256 := rfl
  exact Int.bmod_eq_of_le (by rw [e]; omega) (by rw [e]; omega)
theorem m_i16 {n : Int} (h1 : -32768 ≤ n) (h2 : n ≤ 32767) : (Int16.ofInt n).toInt32 = Int32.ofInt n := by
  rw [← Int32.toInt_inj, Int16.toInt_toInt32, m_toInt ⟨by omega, by omega⟩, Int16.toInt_ofInt]
  have e : ((Int16.size : Nat) : Int) = 65536 := rfl
  exact Int.bmod_eq_of_le (by rw [e]; omega) (by rw [e]; omega)
theorem m_lc (n : Fin 2) : Int64.ofNat (n : Nat) = Int64.ofInt ((n : Nat) : Int) := by
  match n with
  | ⟨0, _⟩ => rfl
  | ⟨1, _⟩ => rfl
theorem m_bit (x : UInt64) : mbit (mof x) = x := by
  unfold mbit mof
  simp
theorem m_cmp {x y : Int} (hx : mInL x) (hy : mInL y) : lg_cmp (Int64.ofInt x) (Int64.ofInt y) = Int32.ofInt (mcmp x y) := by
  unfold lg_cmp mcmp
  simp only [gt_iff_lt, Int64.lt_iff_toInt_lt, ← Int64.toInt_inj, m_toIntL hx, m_toIntL hy]
  by_cases h1 : x < y
  · rw [if_pos h1, if_neg (by omega), if_neg (by omega)]; rfl
  · by_cases h2 : x = y
    · rw [if_neg h1, if_pos h2, if_neg (by omega), if_pos h2]; rfl
    · rw [if_neg h1, if_pos (show y < x by omega), if_neg h2]; rfl
section SA
variable {p : Program} {l : Launch} {e : Env} {s : State} {mid : MethodId} {args : Array Value} {below : List Frame} {meth : Method} {c : Code} {Q : State → Prop}
variable {E : mE} {D : va_G} {tc : Int → ClassId} {O : mO} {j : Nat}
def mW (p : Program) (l : Launch) (e : Env) (s : State) (mid : MethodId) (args : Array Value) (below : List Frame) (meth : Method) (c : Code) (Q : State → Prop) (E : mE) (D : va_G) (tc : Int → ClassId) (j : Nat) : mSt → Prop
  | (pc, L, S, cs, ss, G, d) => ∀ (H : Heap) (locs : List Loc) (ls : Array Slot), mLoc E ls (mmaxL j) L → mRep E D tc G d H → va_S (mAr E) s.heap H locs → cs ≤ mmc j → ss ≤ mms j →
      W p l e (mRm j) s mid args below meth c H locs cs ss Q (F0 mid pc ls (mst E S))
variable {C : Nat → List mV → mG → mD → mK → Prop} {K : mK} {pc len : Nat} {L S : List mV} {cs ss : Nat} {G : mG} {d : mD}
theorem mW_go (hx : p.tables.exec = Jvm.exec) (hb : c.code = mb j) {st' : List mV} {pc' : Nat} (h : mW p l e s mid args below meth c Q E D tc j (pc', L, st', cs, ss, G, d))
    (k : ∀ (H : Heap) (locs : List Loc) (ls : Array Slot), mLoc E ls (mmaxL j) L → W p l e (mRm j) s mid args below meth c H locs cs ss Q (F0 mid pc' ls (mst E st')) → W p l e (mRm j) s mid args below meth c H locs cs ss Q (F0 mid pc ls (mst E S))) :
    mW p l e s mid args below meth c Q E D tc j (pc, L, S, cs, ss, G, d) := fun H locs ls hl hr hs h1 h2 => k H locs ls hl (h H locs ls hl hr hs h1 h2)

theorem s_iconst (hx : p.tables.exec = Jvm.exec) (hb : c.code = mb j) {n : Int} (hd : decode (mb j) pc = .ok (.iconst n, 1)) (h : mint (mW p l e s mid args below meth c Q E D tc j) C j K (mX O j 1 (.iconst n) pc L S cs ss G d)) : mW p l e s mid args below meth c Q E D tc j (pc, L, S, cs, ss, G, d) := by
  exact mW_go hx hb h (fun H locs ls hl k => lv_iconst hx hb hd rfl k)
theorem s_bipush (hx : p.tables.exec = Jvm.exec) (hb : c.code = mb j) {n : Int} (h1 : -128 ≤ n) (h2 : n ≤ 127) (hd : decode (mb j) pc = .ok (.bipush n, 2)) (h : mint (mW p l e s mid args below meth c Q E D tc j) C j K (mX O j 2 (.bipush n) pc L S cs ss G d)) : mW p l e s mid args below meth c Q E D tc j (pc, L, S, cs, ss, G, d) := by
  exact mW_go hx hb h (fun H locs ls hl k => lv_bipush (v := Int32.ofInt n) hx hb hd (m_i8 h1 h2) k)
theorem s_sipush (hx : p.tables.exec = Jvm.exec) (hb : c.code = mb j) {n : Int} (h1 : -32768 ≤ n) (h2 : n ≤ 32767) (hd : decode (mb j) pc = .ok (.sipush n, 3)) (h : mint (mW p l e s mid args below meth c Q E D tc j) C j K (mX O j 3 (.sipush n) pc L S cs ss G d)) : mW p l e s mid args below meth c Q E D tc j (pc, L, S, cs, ss, G, d) := by
  exact mW_go hx hb h (fun H locs ls hl k => lv_sipush (v := Int32.ofInt n) hx hb hd (m_i16 h1 h2) k)
theorem s_lconst (hx : p.tables.exec = Jvm.exec) (hb : c.code = mb j) {n : Fin 2} (hd : decode (mb j) pc = .ok (.lconst n, 1)) (h : mint (mW p l e s mid args below meth c Q E D tc j) C j K (mX O j 1 (.lconst n) pc L S cs ss G d)) : mW p l e s mid args below meth c Q E D tc j (pc, L, S, cs, ss, G, d) := by
  exact mW_go hx hb h (fun H locs ls hl k => lv_lconst hx hb hd (m_lc n) k)
theorem s_dconst (hx : p.tables.exec = Jvm.exec) (hb : c.code = mb j)  (hd : decode (mb j) pc = .ok (.dconst 0, 1)) (h : mint (mW p l e s mid args below meth c Q E D tc j) C j K (mX O j 1 (.dconst 0) pc L S cs ss G d)) : mW p l e s mid args below meth c Q E D tc j (pc, L, S, cs, ss, G, d) := by
  exact mW_go hx hb h (fun H locs ls hl k => lv_dconst0 hx hb hd k)
theorem s_iadd (hx : p.tables.exec = Jvm.exec) (hb : c.code = mb j)  (hd : decode (mb j) pc = .ok (.iadd, 1)) (h : mint (mW p l e s mid args below meth c Q E D tc j) C j K (mX O j 1 (.iadd) pc L S cs ss G d)) : mW p l e s mid args below meth c Q E D tc j (pc, L, S, cs, ss, G, d) := by
  simp only [mX] at h
  split at h
  · exact mW_go hx hb h (fun H locs ls hl k => lv_iadd hx hb hd (by have k := k; simp only [mst, List.map_cons, mval] at k ⊢; rw [← Int32.ofInt_add]; exact k))
  · exact absurd h.1 id
theorem s_isub (hx : p.tables.exec = Jvm.exec) (hb : c.code = mb j)  (hd : decode (mb j) pc = .ok (.isub, 1)) (h : mint (mW p l e s mid args below meth c Q E D tc j) C j K (mX O j 1 (.isub) pc L S cs ss G d)) : mW p l e s mid args below meth c Q E D tc j (pc, L, S, cs, ss, G, d) := by
  simp only [mX] at h
  split at h
  · exact mW_go hx hb h (fun H locs ls hl k => lv_isub hx hb hd (by have k := k; simp only [mst, List.map_cons, mval] at k ⊢; rw [← Int32.ofInt_sub]; exact k))
  · exact absurd h.1 id
theorem s_imul (hx : p.tables.exec = Jvm.exec) (hb : c.code = mb j)  (hd : decode (mb j) pc = .ok (.imul, 1)) (h : mint (mW p l e s mid args below meth c Q E D tc j) C j K (mX O j 1 (.imul) pc L S cs ss G d)) : mW p l e s mid args below meth c Q E D tc j (pc, L, S, cs, ss, G, d) := by
  simp only [mX] at h
  split at h
  · exact mW_go hx hb h (fun H locs ls hl k => lv_imul hx hb hd (by have k := k; simp only [mst, List.map_cons, mval] at k ⊢; rw [← Int32.ofInt_mul]; exact k))
  · exact absurd h.1 id
theorem s_ladd (hx : p.tables.exec = Jvm.exec) (hb : c.code = mb j)  (hd : decode (mb j) pc = .ok (.ladd, 1)) (h : mint (mW p l e s mid args below meth c Q E D tc j) C j K (mX O j 1 (.ladd) pc L S cs ss G d)) : mW p l e s mid args below meth c Q E D tc j (pc, L, S, cs, ss, G, d) := by
  simp only [mX] at h
  split at h
  · exact mW_go hx hb h (fun H locs ls hl k => lv_ladd hx hb hd (by have k := k; simp only [mst, List.map_cons, mval] at k ⊢; rw [← Int64.ofInt_add]; exact k))
  · exact absurd h.1 id
theorem s_lsub (hx : p.tables.exec = Jvm.exec) (hb : c.code = mb j)  (hd : decode (mb j) pc = .ok (.lsub, 1)) (h : mint (mW p l e s mid args below meth c Q E D tc j) C j K (mX O j 1 (.lsub) pc L S cs ss G d)) : mW p l e s mid args below meth c Q E D tc j (pc, L, S, cs, ss, G, d) := by
  simp only [mX] at h
  split at h
  · exact mW_go hx hb h (fun H locs ls hl k => lv_lsub hx hb hd (by have k := k; simp only [mst, List.map_cons, mval] at k ⊢; rw [← Int64.ofInt_sub]; exact k))
  · exact absurd h.1 id
theorem s_lmul (hx : p.tables.exec = Jvm.exec) (hb : c.code = mb j)  (hd : decode (mb j) pc = .ok (.lmul, 1)) (h : mint (mW p l e s mid args below meth c Q E D tc j) C j K (mX O j 1 (.lmul) pc L S cs ss G d)) : mW p l e s mid args below meth c Q E D tc j (pc, L, S, cs, ss, G, d) := by
  simp only [mX] at h
  split at h
  · exact mW_go hx hb h (fun H locs ls hl k => lv_lmul hx hb hd (by have k := k; simp only [mst, List.map_cons, mval] at k ⊢; rw [← Int64.ofInt_mul]; exact k))
  · exact absurd h.1 id
theorem s_iand (hx : p.tables.exec = Jvm.exec) (hb : c.code = mb j)  (hd : decode (mb j) pc = .ok (.iand, 1)) (h : mint (mW p l e s mid args below meth c Q E D tc j) C j K (mX O j 1 (.iand) pc L S cs ss G d)) : mW p l e s mid args below meth c Q E D tc j (pc, L, S, cs, ss, G, d) := by
  simp only [mX] at h
  split at h
  · exact mW_go hx hb h (fun H locs ls hl k => lv_iand hx hb hd (by have k := k; simp only [mst, List.map_cons, mval] at k ⊢; rw [show Int32.ofInt (miand _ _) = _ from m_back _] at k; exact k))
  · exact absurd h.1 id
theorem s_ior (hx : p.tables.exec = Jvm.exec) (hb : c.code = mb j)  (hd : decode (mb j) pc = .ok (.ior, 1)) (h : mint (mW p l e s mid args below meth c Q E D tc j) C j K (mX O j 1 (.ior) pc L S cs ss G d)) : mW p l e s mid args below meth c Q E D tc j (pc, L, S, cs, ss, G, d) := by
  simp only [mX] at h
  split at h
  · exact mW_go hx hb h (fun H locs ls hl k => lv_ior hx hb hd (by have k := k; simp only [mst, List.map_cons, mval] at k ⊢; rw [show Int32.ofInt (mior _ _) = _ from m_back _] at k; exact k))
  · exact absurd h.1 id
theorem s_ishl (hx : p.tables.exec = Jvm.exec) (hb : c.code = mb j)  (hd : decode (mb j) pc = .ok (.ishl, 1)) (h : mint (mW p l e s mid args below meth c Q E D tc j) C j K (mX O j 1 (.ishl) pc L S cs ss G d)) : mW p l e s mid args below meth c Q E D tc j (pc, L, S, cs, ss, G, d) := by
  simp only [mX] at h
  split at h
  · exact mW_go hx hb h (fun H locs ls hl k => lv_ishl hx hb hd (by have k := k; simp only [mst, List.map_cons, mval] at k ⊢; rw [show Int32.ofInt (mishl _ _) = _ from m_back _] at k; exact k))
  · exact absurd h.1 id
theorem s_ishr (hx : p.tables.exec = Jvm.exec) (hb : c.code = mb j)  (hd : decode (mb j) pc = .ok (.ishr, 1)) (h : mint (mW p l e s mid args below meth c Q E D tc j) C j K (mX O j 1 (.ishr) pc L S cs ss G d)) : mW p l e s mid args below meth c Q E D tc j (pc, L, S, cs, ss, G, d) := by
  simp only [mX] at h
  split at h
  · exact mW_go hx hb h (fun H locs ls hl k => lv_ishr hx hb hd (by have k := k; simp only [mst, List.map_cons, mval] at k ⊢; rw [show Int32.ofInt (mishr _ _) = _ from m_back _] at k; exact k))
  · exact absurd h.1 id
theorem s_land (hx : p.tables.exec = Jvm.exec) (hb : c.code = mb j)  (hd : decode (mb j) pc = .ok (.land, 1)) (h : mint (mW p l e s mid args below meth c Q E D tc j) C j K (mX O j 1 (.land) pc L S cs ss G d)) : mW p l e s mid args below meth c Q E D tc j (pc, L, S, cs, ss, G, d) := by
  simp only [mX] at h
  split at h
  · exact mW_go hx hb h (fun H locs ls hl k => lv_land hx hb hd (by have k := k; simp only [mst, List.map_cons, mval] at k ⊢; rw [show Int64.ofInt (mland _ _) = _ from m_backL _] at k; exact k))
  · exact absurd h.1 id
theorem s_lor (hx : p.tables.exec = Jvm.exec) (hb : c.code = mb j)  (hd : decode (mb j) pc = .ok (.lor, 1)) (h : mint (mW p l e s mid args below meth c Q E D tc j) C j K (mX O j 1 (.lor) pc L S cs ss G d)) : mW p l e s mid args below meth c Q E D tc j (pc, L, S, cs, ss, G, d) := by
  simp only [mX] at h
  split at h
  · exact mW_go hx hb h (fun H locs ls hl k => lv_lor hx hb hd (by have k := k; simp only [mst, List.map_cons, mval] at k ⊢; rw [show Int64.ofInt (mlor _ _) = _ from m_backL _] at k; exact k))
  · exact absurd h.1 id
theorem s_lxor (hx : p.tables.exec = Jvm.exec) (hb : c.code = mb j)  (hd : decode (mb j) pc = .ok (.lxor, 1)) (h : mint (mW p l e s mid args below meth c Q E D tc j) C j K (mX O j 1 (.lxor) pc L S cs ss G d)) : mW p l e s mid args below meth c Q E D tc j (pc, L, S, cs, ss, G, d) := by
  simp only [mX] at h
  split at h
  · exact mW_go hx hb h (fun H locs ls hl k => lv_lxor hx hb hd (by have k := k; simp only [mst, List.map_cons, mval] at k ⊢; rw [show Int64.ofInt (mlxor _ _) = _ from m_backL _] at k; exact k))
  · exact absurd h.1 id
theorem s_iushr (hx : p.tables.exec = Jvm.exec) (hb : c.code = mb j)  (hd : decode (mb j) pc = .ok (.iushr, 1)) (h : mint (mW p l e s mid args below meth c Q E D tc j) C j K (mX O j 1 (.iushr) pc L S cs ss G d)) : mW p l e s mid args below meth c Q E D tc j (pc, L, S, cs, ss, G, d) := by
  simp only [mX] at h
  split at h
  · exact mW_go hx hb h (fun H locs ls hl k => lv_iushr hx hb hd rfl (by simp only [mst, List.map_cons, mval] at k ⊢; rw [show Int32.ofInt (miushr _ _) = _ from m_back _] at k; exact k))
  · exact absurd h.1 id
theorem s_lushr (hx : p.tables.exec = Jvm.exec) (hb : c.code = mb j)  (hd : decode (mb j) pc = .ok (.lushr, 1)) (h : mint (mW p l e s mid args below meth c Q E D tc j) C j K (mX O j 1 (.lushr) pc L S cs ss G d)) : mW p l e s mid args below meth c Q E D tc j (pc, L, S, cs, ss, G, d) := by
  simp only [mX] at h
  split at h
  · exact mW_go hx hb h (fun H locs ls hl k => lv_lushr hx hb hd rfl (by simp only [mst, List.map_cons, mval] at k ⊢; rw [show Int64.ofInt (mlushr _ _) = _ from m_backL _] at k; exact k))
  · exact absurd h.1 id
theorem s_lshl (hx : p.tables.exec = Jvm.exec) (hb : c.code = mb j)  (hd : decode (mb j) pc = .ok (.lshl, 1)) (h : mint (mW p l e s mid args below meth c Q E D tc j) C j K (mX O j 1 (.lshl) pc L S cs ss G d)) : mW p l e s mid args below meth c Q E D tc j (pc, L, S, cs, ss, G, d) := by
  simp only [mX] at h
  split at h
  · exact mW_go hx hb h (fun H locs ls hl k => lv_lshl hx hb hd rfl (by simp only [mst, List.map_cons, mval] at k ⊢; rw [show Int64.ofInt (mlshl _ _) = _ from m_backL _] at k; exact k))
  · exact absurd h.1 id
theorem s_i2b (hx : p.tables.exec = Jvm.exec) (hb : c.code = mb j)  (hd : decode (mb j) pc = .ok (.i2b, 1)) (h : mint (mW p l e s mid args below meth c Q E D tc j) C j K (mX O j 1 (.i2b) pc L S cs ss G d)) : mW p l e s mid args below meth c Q E D tc j (pc, L, S, cs, ss, G, d) := by
  simp only [mX] at h
  split at h
  · exact mW_go hx hb h (fun H locs ls hl k => lv_i2b hx hb hd (m_back _).symm k)
  · exact absurd h.1 id
theorem s_l2i (hx : p.tables.exec = Jvm.exec) (hb : c.code = mb j)  (hd : decode (mb j) pc = .ok (.l2i, 1)) (h : mint (mW p l e s mid args below meth c Q E D tc j) C j K (mX O j 1 (.l2i) pc L S cs ss G d)) : mW p l e s mid args below meth c Q E D tc j (pc, L, S, cs, ss, G, d) := by
  simp only [mX] at h
  split at h
  · exact mW_go hx hb h (fun H locs ls hl k => lv_l2i hx hb hd (m_l2i _) k)
  · exact absurd h.1 id
theorem s_i2d (hx : p.tables.exec = Jvm.exec) (hb : c.code = mb j)  (hd : decode (mb j) pc = .ok (.i2d, 1)) (h : mint (mW p l e s mid args below meth c Q E D tc j) C j K (mX O j 1 (.i2d) pc L S cs ss G d)) : mW p l e s mid args below meth c Q E D tc j (pc, L, S, cs, ss, G, d) := by
  simp only [mX] at h
  split at h
  · exact mW_go hx hb h (fun H locs ls hl k => lv_i2d hx hb hd (by simp only [mst, List.map_cons, mval] at k ⊢; rw [show mbit (mi2d _) = _ from m_bit _] at k; exact k))
  · exact absurd h.1 id
theorem s_pop (hx : p.tables.exec = Jvm.exec) (hb : c.code = mb j)  (hd : decode (mb j) pc = .ok (.pop, 1)) (h : mint (mW p l e s mid args below meth c Q E D tc j) C j K (mX O j 1 (.pop) pc L S cs ss G d)) : mW p l e s mid args below meth c Q E D tc j (pc, L, S, cs, ss, G, d) := by
  simp only [mX] at h
  split at h
  · exact mW_go hx hb h (fun H locs ls hl k => lv_pop hx hb hd rfl k)
  · exact absurd h.1 id
theorem s_dup2 (hx : p.tables.exec = Jvm.exec) (hb : c.code = mb j)  (hd : decode (mb j) pc = .ok (.dup2, 1)) (h : mint (mW p l e s mid args below meth c Q E D tc j) C j K (mX O j 1 (.dup2) pc L S cs ss G d)) : mW p l e s mid args below meth c Q E D tc j (pc, L, S, cs, ss, G, d) := by
  simp only [mX] at h
  split at h
  · exact mW_go hx hb h (fun H locs ls hl k => lv_dup2_11 hx hb hd rfl (by simp only [mval]; split <;> rfl) k)
  · exact absurd h.1 id
theorem s_idiv (hx : p.tables.exec = Jvm.exec) (hb : c.code = mb j)  (hd : decode (mb j) pc = .ok (.idiv, 1)) (h : mint (mW p l e s mid args below meth c Q E D tc j) C j K (mX O j 1 (.idiv) pc L S cs ss G d)) : mW p l e s mid args below meth c Q E D tc j (pc, L, S, cs, ss, G, d) := by
  simp only [mX] at h
  split at h
  · obtain ⟨q, h⟩ := h
    exact mW_go hx hb h (fun H locs ls hl k => lv_idiv hx hb hd (m_nneg0 q.2.2.1 q.2.2.2) (by simp only [mst, List.map_cons, mval] at k ⊢; rw [m_div q.1 q.2.1 q.2.2.1 q.2.2.2]; exact k))
  · exact absurd h.1 id
theorem s_irem (hx : p.tables.exec = Jvm.exec) (hb : c.code = mb j)  (hd : decode (mb j) pc = .ok (.irem, 1)) (h : mint (mW p l e s mid args below meth c Q E D tc j) C j K (mX O j 1 (.irem) pc L S cs ss G d)) : mW p l e s mid args below meth c Q E D tc j (pc, L, S, cs, ss, G, d) := by
  simp only [mX] at h
  split at h
  · obtain ⟨q, h⟩ := h
    exact mW_go hx hb h (fun H locs ls hl k => lv_irem hx hb hd (m_nneg0 q.2.2.1 q.2.2.2) (by simp only [mst, List.map_cons, mval] at k ⊢; rw [m_rem q.1 q.2.1 q.2.2.1 q.2.2.2]; exact k))
  · exact absurd h.1 id
theorem s_i2l (hx : p.tables.exec = Jvm.exec) (hb : c.code = mb j)  (hd : decode (mb j) pc = .ok (.i2l, 1)) (h : mint (mW p l e s mid args below meth c Q E D tc j) C j K (mX O j 1 (.i2l) pc L S cs ss G d)) : mW p l e s mid args below meth c Q E D tc j (pc, L, S, cs, ss, G, d) := by
  simp only [mX] at h
  split at h
  · obtain ⟨q, h⟩ := h
    exact mW_go hx hb h (fun H locs ls hl k => lv_i2l hx hb hd (m_i2l q) k)
  · exact absurd h.1 id
theorem s_lcmp (hx : p.tables.exec = Jvm.exec) (hb : c.code = mb j)  (hd : decode (mb j) pc = .ok (.lcmp, 1)) (h : mint (mW p l e s mid args below meth c Q E D tc j) C j K (mX O j 1 (.lcmp) pc L S cs ss G d)) : mW p l e s mid args below meth c Q E D tc j (pc, L, S, cs, ss, G, d) := by
  simp only [mX] at h
  split at h
  · obtain ⟨q, h⟩ := h
    exact mW_go hx hb h (fun H locs ls hl k => W.lcmp hx hb hd (by simp only [mst, List.map_cons, mval] at k ⊢; rw [m_cmp q.1 q.2]; exact k))
  · exact absurd h.1 id
theorem s_ddiv (hx : p.tables.exec = Jvm.exec) (hb : c.code = mb j)  (hd : decode (mb j) pc = .ok (.ddiv, 1)) (h : mint (mW p l e s mid args below meth c Q E D tc j) C j K (mX O j 1 (.ddiv) pc L S cs ss G d)) : mW p l e s mid args below meth c Q E D tc j (pc, L, S, cs, ss, G, d) := by
  simp only [mX] at h
  split at h
  · obtain ⟨q, h⟩ := h
    exact mW_go hx hb h (fun H locs ls hl k => lv_ddiv hx hb hd q (by simp only [mst, List.map_cons, mval] at k ⊢; rw [show mbit (mddiv _ _) = _ from m_bit _] at k; exact k))
  · exact absurd h.1 id
theorem s_dcmp (hx : p.tables.exec = Jvm.exec) (hb : c.code = mb j) {op : CmpOp} (hd : decode (mb j) pc = .ok (.dcmp op, 1)) (h : mint (mW p l e s mid args below meth c Q E D tc j) C j K (mX O j 1 (.dcmp op) pc L S cs ss G d)) : mW p l e s mid args below meth c Q E D tc j (pc, L, S, cs, ss, G, d) := by
  simp only [mX] at h
  split at h
  · exact mW_go hx hb h (fun H locs ls hl k => lv_dcmp hx hb hd (by simp only [mst, List.map_cons, mval] at k ⊢; rw [show Int32.ofInt (mdcmp _ _ _) = _ from m_back _] at k; exact k))
  · exact absurd h.1 id
theorem s_dup (hx : p.tables.exec = Jvm.exec) (hb : c.code = mb j)  (hd : decode (mb j) pc = .ok (.dup, 1)) (h : mint (mW p l e s mid args below meth c Q E D tc j) C j K (mX O j 1 (.dup) pc L S cs ss G d)) : mW p l e s mid args below meth c Q E D tc j (pc, L, S, cs, ss, G, d) := by
  simp only [mX] at h
  split at h
  · exact mW_go hx hb h (fun H locs ls hl k => lv_dup hx hb hd rfl k)
  · exact mW_go hx hb h (fun H locs ls hl k => lv_dup hx hb hd (by simp only [mval]; split <;> rfl) k)
  · exact absurd h.1 id
theorem s_iload (hx : p.tables.exec = Jvm.exec) (hb : c.code = mb j) {n9 : Nat} (hd : decode (mb j) pc = .ok (.iload n9, 2)) (h : mint (mW p l e s mid args below meth c Q E D tc j) C j K (mX O j 2 (.iload n9) pc L S cs ss G d)) : mW p l e s mid args below meth c Q E D tc j (pc, L, S, cs, ss, G, d) := by
  simp only [mX] at h
  split at h
  · rename_i x hg
    exact mW_go hx hb h (fun H locs ls hl k => lv_iload hx hb hd (by have q := hl.2.2.2 n9 (by rw [hg]; exact Nat.le_of_ble_eq_true rfl); rw [hg] at q; exact q) k)
  · exact absurd h.1 id
theorem s_iload_n (hx : p.tables.exec = Jvm.exec) (hb : c.code = mb j) {n9 : Fin 4} (hd : decode (mb j) pc = .ok (.iload_n n9, 1)) (h : mint (mW p l e s mid args below meth c Q E D tc j) C j K (mX O j 1 (.iload (n9 : Nat)) pc L S cs ss G d)) : mW p l e s mid args below meth c Q E D tc j (pc, L, S, cs, ss, G, d) := by
  simp only [mX] at h
  split at h
  · rename_i x hg
    exact mW_go hx hb h (fun H locs ls hl k => lv_iload_n hx hb hd rfl (by have q := hl.2.2.2 n9 (by rw [hg]; exact Nat.le_of_ble_eq_true rfl); rw [hg] at q; exact q) k)
  · exact absurd h.1 id
theorem s_lload (hx : p.tables.exec = Jvm.exec) (hb : c.code = mb j) {n9 : Nat} (hd : decode (mb j) pc = .ok (.lload n9, 2)) (h : mint (mW p l e s mid args below meth c Q E D tc j) C j K (mX O j 2 (.lload n9) pc L S cs ss G d)) : mW p l e s mid args below meth c Q E D tc j (pc, L, S, cs, ss, G, d) := by
  simp only [mX] at h
  split at h
  · rename_i x hg
    exact mW_go hx hb h (fun H locs ls hl k => lv_lload hx hb hd (by have q := hl.2.2.2 n9 (by rw [hg]; exact Nat.le_of_ble_eq_true rfl); rw [hg] at q; exact q) k)
  · exact absurd h.1 id
theorem s_lload_n (hx : p.tables.exec = Jvm.exec) (hb : c.code = mb j) {n9 : Fin 4} (hd : decode (mb j) pc = .ok (.lload_n n9, 1)) (h : mint (mW p l e s mid args below meth c Q E D tc j) C j K (mX O j 1 (.lload (n9 : Nat)) pc L S cs ss G d)) : mW p l e s mid args below meth c Q E D tc j (pc, L, S, cs, ss, G, d) := by
  simp only [mX] at h
  split at h
  · rename_i x hg
    exact mW_go hx hb h (fun H locs ls hl k => lv_lload_n hx hb hd rfl (by have q := hl.2.2.2 n9 (by rw [hg]; exact Nat.le_of_ble_eq_true rfl); rw [hg] at q; exact q) k)
  · exact absurd h.1 id
theorem s_dload (hx : p.tables.exec = Jvm.exec) (hb : c.code = mb j) {n9 : Nat} (hd : decode (mb j) pc = .ok (.dload n9, 2)) (h : mint (mW p l e s mid args below meth c Q E D tc j) C j K (mX O j 2 (.dload n9) pc L S cs ss G d)) : mW p l e s mid args below meth c Q E D tc j (pc, L, S, cs, ss, G, d) := by
  simp only [mX] at h
  split at h
  · rename_i x hg
    exact mW_go hx hb h (fun H locs ls hl k => lv_dload hx hb hd (by have q := hl.2.2.2 n9 (by rw [hg]; exact Nat.le_of_ble_eq_true rfl); rw [hg] at q; exact q) k)
  · exact absurd h.1 id
theorem s_dload_n (hx : p.tables.exec = Jvm.exec) (hb : c.code = mb j) {n9 : Fin 4} (hd : decode (mb j) pc = .ok (.dload_n n9, 1)) (h : mint (mW p l e s mid args below meth c Q E D tc j) C j K (mX O j 1 (.dload (n9 : Nat)) pc L S cs ss G d)) : mW p l e s mid args below meth c Q E D tc j (pc, L, S, cs, ss, G, d) := by
  simp only [mX] at h
  split at h
  · rename_i x hg
    exact mW_go hx hb h (fun H locs ls hl k => lv_dload_n hx hb hd rfl (by have q := hl.2.2.2 n9 (by rw [hg]; exact Nat.le_of_ble_eq_true rfl); rw [hg] at q; exact q) k)
  · exact absurd h.1 id
theorem s_aload (hx : p.tables.exec = Jvm.exec) (hb : c.code = mb j) {n9 : Nat} (hd : decode (mb j) pc = .ok (.aload n9, 2)) (h : mint (mW p l e s mid args below meth c Q E D tc j) C j K (mX O j 2 (.aload n9) pc L S cs ss G d)) : mW p l e s mid args below meth c Q E D tc j (pc, L, S, cs, ss, G, d) := by
  simp only [mX] at h
  split at h
  · rename_i x hg
    refine mW_go hx hb h (fun H locs ls hl k => ?_)
    have q := hl.2.2.2 n9 (by rw [hg]; exact Nat.le_of_ble_eq_true rfl)
    rw [hg] at q
    simp only [mst, List.map_cons, mval] at k q ⊢
    by_cases h0 : x < 0
    · rw [if_pos h0] at k q
      exact lv_aloadN hx hb hd q k
    · rw [if_neg h0] at k q
      exact lv_aload hx hb hd q k
  · rename_i x hg
    exact mW_go hx hb h (fun H locs ls hl k => lv_aload hx hb hd (by have q := hl.2.2.2 n9 (by rw [hg]; exact Nat.le_of_ble_eq_true rfl); rw [hg] at q; exact q) k)
  · rename_i x hg
    exact mW_go hx hb h (fun H locs ls hl k => lv_aload hx hb hd (by have q := hl.2.2.2 n9 (by rw [hg]; exact Nat.le_of_ble_eq_true rfl); rw [hg] at q; exact q) k)
  · exact absurd h.1 id
theorem s_aload_n (hx : p.tables.exec = Jvm.exec) (hb : c.code = mb j) {n9 : Fin 4} (hd : decode (mb j) pc = .ok (.aload_n n9, 1)) (h : mint (mW p l e s mid args below meth c Q E D tc j) C j K (mX O j 1 (.aload (n9 : Nat)) pc L S cs ss G d)) : mW p l e s mid args below meth c Q E D tc j (pc, L, S, cs, ss, G, d) := by
  simp only [mX] at h
  split at h
  · rename_i x hg
    refine mW_go hx hb h (fun H locs ls hl k => ?_)
    have q := hl.2.2.2 n9 (by rw [hg]; exact Nat.le_of_ble_eq_true rfl)
    rw [hg] at q
    simp only [mst, List.map_cons, mval] at k q ⊢
    by_cases h0 : x < 0
    · rw [if_pos h0] at k q
      exact lv_aload_nN hx hb hd rfl q k
    · rw [if_neg h0] at k q
      exact lv_aload_n hx hb hd rfl q k
  · rename_i x hg
    exact mW_go hx hb h (fun H locs ls hl k => lv_aload_n hx hb hd rfl (by have q := hl.2.2.2 n9 (by rw [hg]; exact Nat.le_of_ble_eq_true rfl); rw [hg] at q; exact q) k)
  · rename_i x hg
    exact mW_go hx hb h (fun H locs ls hl k => lv_aload_n hx hb hd rfl (by have q := hl.2.2.2 n9 (by rw [hg]; exact Nat.le_of_ble_eq_true rfl); rw [hg] at q; exact q) k)
  · exact absurd h.1 id
end SA
