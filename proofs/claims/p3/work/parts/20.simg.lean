/-! ===== the machine's own helpers: Object's constructor, max, min, copies of rows ===== -/
theorem mlib_ok : (mG1 (mp_lib.getD 0 0) (.instanceMethod Lib.objectInit) && mG1 (mp_lib.getD 1 0) (.code Lib.objectInit ⟨#[0xb1]⟩ 1 none) && mG1 (mp_lib.getD 2 0) (.static Lib.Math.max.name) && mG1 (mp_lib.getD 3 0) (.code Lib.Math.max.name Lib.Math.max.code 2 (some .int))
  && mG1 (mp_lib.getD 4 0) (.static Lib.Math.min.name) && mG1 (mp_lib.getD 5 0) (.code Lib.Math.min.name Lib.Math.min.code 2 (some .int)) && mG1 (mp_lib.getD 6 0) (.initialized "java/lang/Math") && mG1 (mp_lib.getD 7 0) (.native arraycopyName) && mG1 (mp_lib.getD 8 0) (.static arraycopyName) && mG1 (mp_lib.getD 9 0) (.initialized "java/lang/System")) = true := by decide +kernel
theorem mlib : Jvm.Cond.instanceMethod Lib.objectInit ∈ GW ∧ Jvm.Cond.code Lib.objectInit ⟨#[0xb1]⟩ 1 none ∈ GW ∧ Jvm.Cond.static Lib.Math.max.name ∈ GW ∧ Jvm.Cond.code Lib.Math.max.name Lib.Math.max.code 2 (some .int) ∈ GW
  ∧ Jvm.Cond.static Lib.Math.min.name ∈ GW ∧ Jvm.Cond.code Lib.Math.min.name Lib.Math.min.code 2 (some .int) ∈ GW ∧ Jvm.Cond.initialized "java/lang/Math" ∈ GW ∧ Jvm.Cond.native arraycopyName ∈ GW ∧ Jvm.Cond.static arraycopyName ∈ GW ∧ Jvm.Cond.initialized "java/lang/System" ∈ GW := by
  have h := mlib_ok
  simp only [Bool.and_eq_true] at h
  obtain ⟨⟨⟨⟨⟨⟨⟨⟨⟨h0, h1⟩, h2⟩, h3⟩, h4⟩, h5⟩, h6⟩, h7⟩, h8⟩, h9⟩ := h
  exact ⟨mG1_in h0, mG1_in h1, mG1_in h2, mG1_in h3, mG1_in h4, mG1_in h5, mG1_in h6, mG1_in h7, mG1_in h8, mG1_in h9⟩
theorem mSP_use {o i g : Nat} (ho : o < 16) (h : mlk (mSP o) i = some g) : Jvm.Cond.methodLink (mR o) i (mSpn g) ∈ GW := by
  obtain ⟨p, hp⟩ := mlk_in h
  exact mG1_in (m_all16 mSP_ok ho hp)
theorem m_cat1 (E : mE) (v : mV) : (mval E v).category = (bif mc2 v then 2 else 1) := by
  obtain ⟨t, x⟩ := v
  match t with
  | 0 => rfl
  | 1 => rfl
  | 2 => rfl
  | 3 => simp only [mval]; split <;> rfl
  | 4 => rfl
  | 5 => rfl
  | n + 6 =>
    have e : mc2 (n + 6, x) = false := rfl
    rw [e]
    rfl
theorem m_cats (E : mE) : ∀ S : List mV, ((mst E S).map fun v => v.category).sum = mcats S
  | [] => rfl
  | v :: S => by
    have := m_cats E S
    simp only [mst, List.map_cons, List.sum_cons, mcats] at this ⊢
    rw [this, m_cat1]
theorem m_maxI {x y : Int} (hx : mInR x) (hy : mInR y) : (if Int32.ofInt x < Int32.ofInt y then Int32.ofInt y else Int32.ofInt x) = Int32.ofInt (mmax x y) := by
  unfold mmax
  by_cases h : x < y
  · rw [if_pos h, if_pos ((m_lt hx hy).mpr h)]
  · rw [if_neg h, if_neg (fun w => h ((m_lt hx hy).mp w))]
theorem m_minI {x y : Int} (hx : mInR x) (hy : mInR y) : (if Int32.ofInt y < Int32.ofInt x then Int32.ofInt y else Int32.ofInt x) = Int32.ofInt (mmin x y) := by
  unfold mmin
  by_cases h : y < x
  · rw [if_pos h, if_pos ((m_lt hy hx).mpr h)]
  · rw [if_neg h, if_neg (fun w => h ((m_lt hy hx).mp w))]
theorem m_cpyf (B t : Nat) (d : mD) {x sp y dp n : Int} (h1 : 0 ≤ sp) (h2 : 0 ≤ dp) (h3 : 0 ≤ n) : va_cpy (fun z : Nat => mslot B t (d x (z : Int))) (fun z : Nat => mslot B t (d y (z : Int))) sp.toNat dp.toNat n.toNat = fun z : Nat => mslot B t (mcopy d x sp y dp n y (z : Int)) := by
  funext z
  simp only [va_cpy, mcopy]
  by_cases h : dp.toNat ≤ z ∧ z < dp.toNat + n.toNat
  · rw [if_pos h, if_pos ⟨trivial, by omega, by omega⟩]
    congr 2
    omega
  · rw [if_neg h, if_neg (by omega)]
theorem mcopy_ne {d : mD} {x sp y dp n b : Int} (h : b ≠ y) : mcopy d x sp y dp n b = d b := by
  funext j
  simp [mcopy, h]
section SF
variable {p : Program} {l : Launch} {e : Env} {s : State} {mid : MethodId} {args : Array Value} {below : List Frame} {meth : Method} {c : Code} {Q : State → Prop}
variable {E : mE} {D : va_G} {tc : Int → ClassId} {O : mO} {j : Nat}
variable {C : Nat → List mV → mG → mD → mK → Prop} {K : mK} {pc len : Nat} {L S : List mV} {cs ss : Nat} {G : mG} {d : mD} {H : Heap} {o : Nat}

theorem m_copyi {R : Room} {cells slots : Nat} {locs : List Loc} {cc : ByteArray} {ls : Array Slot} {rest : List Value} (hexec : p.tables.exec = Jvm.exec) (hb : c.code = cc) (hml : c.maxLocals = ls.size) {own : String} {index : Nat} (hown : s.vm.findClass own = some mid.cls) (hlink : (Jvm.Cond.methodLink own index arraycopyName).before args s = true) (hnat : (Jvm.Cond.native arraycopyName).before args s = true) (hstat : (Jvm.Cond.static arraycopyName).before args s = true) (hini : (Jvm.Cond.initialized "java/lang/System").before args s = true)
    {c0 : ClassId} {a0 a n0 n1 : Nat} {f g : Nat → Int} (hA : ArrOfT s c0 .int) (ha0 : H[a0]? = some (arrV c0 n0 (fun z => (fun x : Int => Value.int (Int32.ofInt x)) (f z)))) (ha1 : H[a]? = some (arrV c0 n1 (fun z => (fun x : Int => Value.int (Int32.ofInt x)) (g z))))
    {sp dp n : Int32} (h1 : ¬ sp < 0) (h2 : ¬ dp < 0) (h3 : ¬ n < 0) (h4 : sp.toNatClampNeg + n.toNatClampNeg ≤ n0) (h5 : dp.toNatClampNeg + n.toNatClampNeg ≤ n1)
    (hframes : 1 ≤ R.frames) (hlocals : (rest.map fun v => v.category).sum + 18 ≤ R.locals) (hdg : decode cc pc = .ok (.invokestatic index, 3)) (hAr : mAr E a) (hs : va_S (mAr E) s.heap H locs)
    (kk : ∀ (H1 : Heap) (locs1 : List Loc), H1[a]? = some (arrV c0 n1 (va_cpy (fun z => (fun x : Int => Value.int (Int32.ofInt x)) (f z)) (fun z => (fun x : Int => Value.int (Int32.ofInt x)) (g z)) sp.toNatClampNeg dp.toNatClampNeg n.toNatClampNeg)) → H1.size = H.size → (∀ q : Nat, q ≠ a → H1[q]? = H[q]?) → va_S (mAr E) s.heap H1 locs1 → W p l e R s mid args below meth c H1 locs1 cells slots Q (F0 mid (pc + 3) ls rest)) : W p l e R s mid args below meth c H locs cells slots Q (F0 mid pc ls (.int n :: .int dp :: .ref a :: .int sp :: .ref a0 :: rest)) := by
  have nn : ∀ z : Int32, ¬ z < 0 → z.toInt = (z.toNatClampNeg : Int) := by
    intro z hz
    have hz0 : (0 : Int) ≤ z.toInt := by
      have := Int32.not_lt.mp hz
      simpa using Int32.le_iff_toInt_le.mp this
    show z.toInt = ((z.toInt.toNat : Nat) : Int)
    omega
  intro T hT X
  obtain ⟨-, k0, hk0, cm0, hkk0⟩ := hA n0 (fun z => (fun x : Int => Value.int (Int32.ofInt x)) (f z))
  obtain ⟨-, k1, hk1, cm1, hkk1⟩ := hA n1 (fun z => (fun x : Int => Value.int (Int32.ofInt x)) (g z))
  obtain ⟨vm', X', step⟩ := X.arraycopy hexec hown hlink hnat hstat hini (src := a0) (dst := a) (cs := arrV c0 n0 (fun z => (fun x : Int => Value.int (Int32.ofInt x)) (f z))) (cd := arrV c0 n1 (fun z => (fun x : Int => Value.int (Int32.ofInt x)) (g z))) (srcPos := sp) (destPos := dp) (n := n) (by rw [hT]; exact ha0) (by rw [hT]; exact ha1)
    (fun _ h => by cases h) (fun _ h => by cases h) (fun h => by cases h) (fun h => by cases h) hk0 hk1 hkk0 hkk1 (by decide) h1 h2 h3
    (by rw [nn sp h1, nn n h3, arrV_size]; omega)
    (by rw [nn dp h2, nn n h3, arrV_size]; omega)
    (fun vm₁ _ i hi => by
      have e : (arrV c0 n0 (fun z => (fun x : Int => Value.int (Int32.ofInt x)) (f z))).slots.getD (sp.toNatClampNeg + i) .null = (fun x : Int => Value.int (Int32.ofInt x)) (f (sp.toNatClampNeg + i)) := by
        rw [Array.getD_eq_getD_getElem?, arrV_read _ _ (by omega)]
        rfl
      refine ⟨?_, ?_⟩
      · rw [e]
        rfl
      · rw [e]
        exact trivial)
    (g := F0 mid pc ls (.int n :: .int dp :: .ref a :: .int sp :: .ref a0 :: rest)) rfl (by rw [hml]) (rest := rest) rfl (by rw [hb]; exact hdg) hframes (by show 2 * 0 + _ + _ ≤ _; rw [show nativeFrameWords "java/lang/System" "arraycopy" 5 = 7 by decide]; omega)
  have e1 : copied (arrV c0 n0 (fun z => (fun x : Int => Value.int (Int32.ofInt x)) (f z))) (arrV c0 n1 (fun z => (fun x : Int => Value.int (Int32.ofInt x)) (g z))) sp dp n = arrV c0 n1 (fun z => (fun x : Int => Value.int (Int32.ofInt x)) (va_cpy f g sp.toNatClampNeg dp.toNatClampNeg n.toNatClampNeg z)) := va_copied (fun x : Int => Value.int (Int32.ofInt x)) c0 c0 f g h4
  have e2 : (fun z => (fun x : Int => Value.int (Int32.ofInt x)) (va_cpy f g sp.toNatClampNeg dp.toNatClampNeg n.toNatClampNeg z)) = va_cpy (fun z => (fun x : Int => Value.int (Int32.ofInt x)) (f z)) (fun z => (fun x : Int => Value.int (Int32.ofInt x)) (g z)) sp.toNatClampNeg dp.toNatClampNeg n.toNatClampNeg := by
    funext z
    simp only [va_cpy]
    split <;> rfl
  rw [e1, e2] at X' step
  have hl : a < H.size := (Array.getElem?_eq_some_iff.mp ha1).1
  obtain ⟨new, hnew⟩ : ∃ new, new = arrV c0 n1 (va_cpy (fun z => (fun x : Int => Value.int (Int32.ofInt x)) (f z)) (fun z => (fun x : Int => Value.int (Int32.ofInt x)) (g z)) sp.toNatClampNeg dp.toNatClampNeg n.toNatClampNeg) := ⟨_, rfl⟩
  rw [← hnew] at X' step kk
  have hheap : ((T.setVm vm').setCell a new).heap = H.setIfInBounds a new := by rw [← hT]; rfl
  have oq : ∀ q : Nat, q ≠ a → (H.setIfInBounds a new)[q]? = H[q]? := fun q hq => by simp [Array.getElem?_setIfInBounds, Ne.symm hq]
  obtain ⟨t, a1, b1⟩ := kk _ _ (show (H.setIfInBounds a _)[a]? = some _ by simp [Array.getElem?_setIfInBounds, hl]) (by simp) oq ⟨by simp; exact hs.1, fun q g1 g2 => by
      rw [oq q (fun e => g2 (by rw [e]; exact hAr))]
      exact hs.2.1 q g1 g2, fun q hq => by
      rcases List.mem_append.mp hq with h | h
      · exact hs.2.2 q h
      · obtain ⟨z, -, hz⟩ := List.mem_map.mp h
        rw [← hz]
        exact hAr⟩ _ hheap X'
  exact ⟨t, step t a1, b1⟩
theorem m_copyl {R : Room} {cells slots : Nat} {locs : List Loc} {cc : ByteArray} {ls : Array Slot} {rest : List Value} (hexec : p.tables.exec = Jvm.exec) (hb : c.code = cc) (hml : c.maxLocals = ls.size) {own : String} {index : Nat} (hown : s.vm.findClass own = some mid.cls) (hlink : (Jvm.Cond.methodLink own index arraycopyName).before args s = true) (hnat : (Jvm.Cond.native arraycopyName).before args s = true) (hstat : (Jvm.Cond.static arraycopyName).before args s = true) (hini : (Jvm.Cond.initialized "java/lang/System").before args s = true)
    {c0 : ClassId} {a0 a n0 n1 : Nat} {f g : Nat → Int} (hA : ArrOfT s c0 .long) (ha0 : H[a0]? = some (arrV c0 n0 (fun z => (fun x : Int => Value.long (Int64.ofInt x)) (f z)))) (ha1 : H[a]? = some (arrV c0 n1 (fun z => (fun x : Int => Value.long (Int64.ofInt x)) (g z))))
    {sp dp n : Int32} (h1 : ¬ sp < 0) (h2 : ¬ dp < 0) (h3 : ¬ n < 0) (h4 : sp.toNatClampNeg + n.toNatClampNeg ≤ n0) (h5 : dp.toNatClampNeg + n.toNatClampNeg ≤ n1)
    (hframes : 1 ≤ R.frames) (hlocals : (rest.map fun v => v.category).sum + 18 ≤ R.locals) (hdg : decode cc pc = .ok (.invokestatic index, 3)) (hAr : mAr E a) (hs : va_S (mAr E) s.heap H locs)
    (kk : ∀ (H1 : Heap) (locs1 : List Loc), H1[a]? = some (arrV c0 n1 (va_cpy (fun z => (fun x : Int => Value.long (Int64.ofInt x)) (f z)) (fun z => (fun x : Int => Value.long (Int64.ofInt x)) (g z)) sp.toNatClampNeg dp.toNatClampNeg n.toNatClampNeg)) → H1.size = H.size → (∀ q : Nat, q ≠ a → H1[q]? = H[q]?) → va_S (mAr E) s.heap H1 locs1 → W p l e R s mid args below meth c H1 locs1 cells slots Q (F0 mid (pc + 3) ls rest)) : W p l e R s mid args below meth c H locs cells slots Q (F0 mid pc ls (.int n :: .int dp :: .ref a :: .int sp :: .ref a0 :: rest)) := by
  have nn : ∀ z : Int32, ¬ z < 0 → z.toInt = (z.toNatClampNeg : Int) := by
    intro z hz
    have hz0 : (0 : Int) ≤ z.toInt := by
      have := Int32.not_lt.mp hz
      simpa using Int32.le_iff_toInt_le.mp this
    show z.toInt = ((z.toInt.toNat : Nat) : Int)
    omega
  intro T hT X
  obtain ⟨-, k0, hk0, cm0, hkk0⟩ := hA n0 (fun z => (fun x : Int => Value.long (Int64.ofInt x)) (f z))
  obtain ⟨-, k1, hk1, cm1, hkk1⟩ := hA n1 (fun z => (fun x : Int => Value.long (Int64.ofInt x)) (g z))
  obtain ⟨vm', X', step⟩ := X.arraycopy hexec hown hlink hnat hstat hini (src := a0) (dst := a) (cs := arrV c0 n0 (fun z => (fun x : Int => Value.long (Int64.ofInt x)) (f z))) (cd := arrV c0 n1 (fun z => (fun x : Int => Value.long (Int64.ofInt x)) (g z))) (srcPos := sp) (destPos := dp) (n := n) (by rw [hT]; exact ha0) (by rw [hT]; exact ha1)
    (fun _ h => by cases h) (fun _ h => by cases h) (fun h => by cases h) (fun h => by cases h) hk0 hk1 hkk0 hkk1 (by decide) h1 h2 h3
    (by rw [nn sp h1, nn n h3, arrV_size]; omega)
    (by rw [nn dp h2, nn n h3, arrV_size]; omega)
    (fun vm₁ _ i hi => by
      have e : (arrV c0 n0 (fun z => (fun x : Int => Value.long (Int64.ofInt x)) (f z))).slots.getD (sp.toNatClampNeg + i) .null = (fun x : Int => Value.long (Int64.ofInt x)) (f (sp.toNatClampNeg + i)) := by
        rw [Array.getD_eq_getD_getElem?, arrV_read _ _ (by omega)]
        rfl
      refine ⟨?_, ?_⟩
      · rw [e]
        rfl
      · rw [e]
        exact trivial)
    (g := F0 mid pc ls (.int n :: .int dp :: .ref a :: .int sp :: .ref a0 :: rest)) rfl (by rw [hml]) (rest := rest) rfl (by rw [hb]; exact hdg) hframes (by show 2 * 0 + _ + _ ≤ _; rw [show nativeFrameWords "java/lang/System" "arraycopy" 5 = 7 by decide]; omega)
  have e1 : copied (arrV c0 n0 (fun z => (fun x : Int => Value.long (Int64.ofInt x)) (f z))) (arrV c0 n1 (fun z => (fun x : Int => Value.long (Int64.ofInt x)) (g z))) sp dp n = arrV c0 n1 (fun z => (fun x : Int => Value.long (Int64.ofInt x)) (va_cpy f g sp.toNatClampNeg dp.toNatClampNeg n.toNatClampNeg z)) := va_copied (fun x : Int => Value.long (Int64.ofInt x)) c0 c0 f g h4
  have e2 : (fun z => (fun x : Int => Value.long (Int64.ofInt x)) (va_cpy f g sp.toNatClampNeg dp.toNatClampNeg n.toNatClampNeg z)) = va_cpy (fun z => (fun x : Int => Value.long (Int64.ofInt x)) (f z)) (fun z => (fun x : Int => Value.long (Int64.ofInt x)) (g z)) sp.toNatClampNeg dp.toNatClampNeg n.toNatClampNeg := by
    funext z
    simp only [va_cpy]
    split <;> rfl
  rw [e1, e2] at X' step
  have hl : a < H.size := (Array.getElem?_eq_some_iff.mp ha1).1
  obtain ⟨new, hnew⟩ : ∃ new, new = arrV c0 n1 (va_cpy (fun z => (fun x : Int => Value.long (Int64.ofInt x)) (f z)) (fun z => (fun x : Int => Value.long (Int64.ofInt x)) (g z)) sp.toNatClampNeg dp.toNatClampNeg n.toNatClampNeg) := ⟨_, rfl⟩
  rw [← hnew] at X' step kk
  have hheap : ((T.setVm vm').setCell a new).heap = H.setIfInBounds a new := by rw [← hT]; rfl
  have oq : ∀ q : Nat, q ≠ a → (H.setIfInBounds a new)[q]? = H[q]? := fun q hq => by simp [Array.getElem?_setIfInBounds, Ne.symm hq]
  obtain ⟨t, a1, b1⟩ := kk _ _ (show (H.setIfInBounds a _)[a]? = some _ by simp [Array.getElem?_setIfInBounds, hl]) (by simp) oq ⟨by simp; exact hs.1, fun q g1 g2 => by
      rw [oq q (fun e => g2 (by rw [e]; exact hAr))]
      exact hs.2.1 q g1 g2, fun q hq => by
      rcases List.mem_append.mp hq with h | h
      · exact hs.2.2 q h
      · obtain ⟨z, -, hz⟩ := List.mem_map.mp h
        rw [← hz]
        exact hAr⟩ _ hheap X'
  exact ⟨t, step t a1, b1⟩
theorem s_objInit (hx : p.tables.exec = Jvm.exec) (hb : c.code = mb j) {idx : Nat} (hml : c.maxLocals = mmaxL j) (hG : ∀ w ∈ GW, w.before args s = true) (ho : o < 16) (hown : s.vm.findClass (mR o) = some mid.cls) (hlk : mlk (mSP o) idx = some 0) (hd : decode (mb j) pc = .ok (.invokespecial idx, 3)) (h : mint (mW p l e s mid args below meth c Q E D tc j) C j K (mX O j 3 (.invokespecial 0) pc L S cs ss G d)) : mW p l e s mid args below meth c Q E D tc j (pc, L, S, cs, ss, G, d) := by
  have hw := mSP_use ho hlk
  have lib := mlib
  simp only [mX] at h
  split at h
  case h_1 =>
    rename_i a S' e0
    obtain ⟨⟨q0, q1, q2⟩, h⟩ := h
    intro H locs ls hl hr hs h1 h2
    rw [mval_own q0]
    exact W.objInit hx hb hown (hG _ hw) (hG _ lib.1) (hG _ lib.2.1) rfl (by show ls.size = _; rw [hl.1, hml]) rfl hd q1 (by show 2 * 0 + _ + 12 ≤ _; rw [m_cats]; show _ ≤ mneed j; omega) (h H locs ls hl hr hs h1 h2)
  all_goals first | exact absurd h.1 id | (rename_i e0 e1; exact absurd e0 (by decide)) | (simp at *; done)
theorem s_mmax (hx : p.tables.exec = Jvm.exec) (hb : c.code = mb j) {idx : Nat} (hml : c.maxLocals = mmaxL j) (hG : ∀ w ∈ GW, w.before args s = true) (ho : o < 16) (hown : s.vm.findClass (mR o) = some mid.cls) (hlk : mlk (mSP o) idx = some 1) (hd : decode (mb j) pc = .ok (.invokestatic idx, 3)) (h : mint (mW p l e s mid args below meth c Q E D tc j) C j K (mX O j 3 (.invokespecial 1) pc L S cs ss G d)) : mW p l e s mid args below meth c Q E D tc j (pc, L, S, cs, ss, G, d) := by
  have hw := mSP_use ho hlk
  have lib := mlib
  simp only [mX] at h
  split at h
  case h_2 =>
    rename_i y x S' e0
    obtain ⟨⟨q0, q1, q2, q3⟩, h⟩ := h
    intro H locs ls hl hr hs h1 h2
    have kk := h H locs ls hl hr hs h1 h2
    refine va_mmax hx hb (by rw [hl.1, hml]) hown (hG _ hw) (hG _ lib.2.2.1) (hG _ lib.2.2.2.2.2.2.1) (hG _ lib.2.2.2.1) q2 (by rw [m_cats]; exact q3) h1 h2 hd ?_
    rw [m_maxI q0 q1]
    exact kk
  all_goals first | exact absurd h.1 id | (rename_i e0 e1; exact absurd e0 (by decide)) | (simp at *; done)
theorem s_mmin (hx : p.tables.exec = Jvm.exec) (hb : c.code = mb j) {idx : Nat} (hml : c.maxLocals = mmaxL j) (hG : ∀ w ∈ GW, w.before args s = true) (ho : o < 16) (hown : s.vm.findClass (mR o) = some mid.cls) (hlk : mlk (mSP o) idx = some 2) (hd : decode (mb j) pc = .ok (.invokestatic idx, 3)) (h : mint (mW p l e s mid args below meth c Q E D tc j) C j K (mX O j 3 (.invokespecial 2) pc L S cs ss G d)) : mW p l e s mid args below meth c Q E D tc j (pc, L, S, cs, ss, G, d) := by
  have hw := mSP_use ho hlk
  have lib := mlib
  simp only [mX] at h
  split at h
  case h_3 =>
    rename_i y x S' e0
    obtain ⟨⟨q0, q1, q2, q3⟩, h⟩ := h
    intro H locs ls hl hr hs h1 h2
    have kk := h H locs ls hl hr hs h1 h2
    refine va_mmin hx hb (by rw [hl.1, hml]) hown (hG _ hw) (hG _ lib.2.2.2.2.1) (hG _ lib.2.2.2.2.2.2.1) (hG _ lib.2.2.2.2.2.1) q2 (by rw [m_cats]; exact q3) h1 h2 hd ?_
    rw [m_minI q0 q1]
    exact kk
  all_goals first | exact absurd h.1 id | (rename_i e0 e1; exact absurd e0 (by decide)) | (simp at *; done)
theorem s_copy (hx : p.tables.exec = Jvm.exec) (hb : c.code = mb j) {idx : Nat} (hml : c.maxLocals = mmaxL j) (hG : ∀ w ∈ GW, w.before args s = true) (ho : o < 16) (hown : s.vm.findClass (mR o) = some mid.cls) (hK : va_K D vwCl (mtys tc) s) (hlk : mlk (mSP o) idx = some 3) (hd : decode (mb j) pc = .ok (.invokestatic idx, 3)) (h : mint (mW p l e s mid args below meth c Q E D tc j) C j K (mX O j 3 (.invokespecial 3) pc L S cs ss G d)) : mW p l e s mid args below meth c Q E D tc j (pc, L, S, cs, ss, G, d) := by
  have hw := mSP_use ho hlk
  obtain ⟨-, -, -, -, -, -, -, lb1, lb2, lb3⟩ := mlib
  simp only [mX] at h
  split at h
  case h_4 =>
    rename_i n dp y sp x S' e0
    obtain ⟨⟨q0, q1, q2, q3, q4, q5, q6, q7, q8, q9, q10⟩, h⟩ := h
    intro H locs ls hl hr hs h1 h2
    have kk := fun H locs hr hs => h H locs ls hl hr hs h1 h2
    rcases q0 with q0 | q0
    · obtain ⟨hx0, hmx, hnx, hnx2, hcx⟩ := mRep_row hr (by decide) q0
      obtain ⟨hy0, hmy, hny, hny2, hcy⟩ := mRep_row hr (by decide) (q1.trans q0)
      have e9 : mst E ((0, n) :: (0, dp) :: (3, y) :: (0, sp) :: (3, x) :: S') = .int (Int32.ofInt n) :: .int (Int32.ofInt dp) :: .ref (E.1 + y.toNat) :: .int (Int32.ofInt sp) :: .ref (E.1 + x.toNat) :: mst E S' := by
        simp only [mst, List.map_cons, mval]
        rw [if_neg (by omega), if_neg (by omega)]
      rw [e9]
      refine m_copyi (E := E) hx hb (by rw [hl.1, hml]) hown (hG _ hw) (hG _ lb1) (hG _ lb2) (hG _ lb3) (m_tys hK hmx).1 hcx hcy (m_nneg q2 (by omega)) (m_nneg q3 (by omega)) (m_nneg q4 (by omega)) (by rw [m_nat q2 (by omega), m_nat q4 (by omega)]; omega) (by rw [m_nat q3 (by omega), m_nat q4 (by omega)]; omega) q10.1 (by rw [m_cats]; exact q10.2) hd (by show E.1 ≤ _; omega) hs (fun H' locs' e1 e2 e3 hs' => ?_)
      refine kk H' locs' (mRep_upd hr (by omega) e2 e3 (fun b hb9 => mcopy_ne hb9) (fun h9 => by omega) (fun _ => ?_)) hs'
      rw [q1, q0]
      refine ⟨hmy, hny, hny2, ?_⟩
      rw [e1, m_nat q2 (by omega), m_nat q3 (by omega), m_nat q4 (by omega)]
      congr 2
      exact m_cpyf E.1 0 d q2 q3 q4
    · obtain ⟨hx0, hmx, hnx, hnx2, hcx⟩ := mRep_row hr (by decide) q0
      obtain ⟨hy0, hmy, hny, hny2, hcy⟩ := mRep_row hr (by decide) (q1.trans q0)
      have e9 : mst E ((0, n) :: (0, dp) :: (3, y) :: (0, sp) :: (3, x) :: S') = .int (Int32.ofInt n) :: .int (Int32.ofInt dp) :: .ref (E.1 + y.toNat) :: .int (Int32.ofInt sp) :: .ref (E.1 + x.toNat) :: mst E S' := by
        simp only [mst, List.map_cons, mval]
        rw [if_neg (by omega), if_neg (by omega)]
      rw [e9]
      refine m_copyl (E := E) hx hb (by rw [hl.1, hml]) hown (hG _ hw) (hG _ lb1) (hG _ lb2) (hG _ lb3) (m_tys hK hmx).1 hcx hcy (m_nneg q2 (by omega)) (m_nneg q3 (by omega)) (m_nneg q4 (by omega)) (by rw [m_nat q2 (by omega), m_nat q4 (by omega)]; omega) (by rw [m_nat q3 (by omega), m_nat q4 (by omega)]; omega) q10.1 (by rw [m_cats]; exact q10.2) hd (by show E.1 ≤ _; omega) hs (fun H' locs' e1 e2 e3 hs' => ?_)
      refine kk H' locs' (mRep_upd hr (by omega) e2 e3 (fun b hb9 => mcopy_ne hb9) (fun h9 => by omega) (fun _ => ?_)) hs'
      rw [q1, q0]
      refine ⟨hmy, hny, hny2, ?_⟩
      rw [e1, m_nat q2 (by omega), m_nat q3 (by omega), m_nat q4 (by omega)]
      congr 2
      exact m_cpyf E.1 3 d q2 q3 q4
  all_goals first | exact absurd h.1 id | (rename_i e0 e1; exact absurd e0 (by decide)) | (simp at *; done)
end SF
