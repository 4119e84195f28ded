/-! ===== the machine's own helpers: Object's constructor, max, min, copies of rows ===== -/
theorem mlib_ok : (mG1 (mp_lib.getD 0 0) (.instanceMethod Lib.objectInit) && mG1 (mp_lib.getD 1 0) (.code Lib.objectInit ⟨#[0xb1]⟩ 1 none) && mG1 (mp_lib.getD 2 0) (.static Lib.Math.max.name) && mG1 (mp_lib.getD 3 0) (.code Lib.Math.max.name Lib.Math.max.code 2 (some .int))
  && mG1 (mp_lib.getD 4 0) (.static Lib.Math.min.name) && mG1 (mp_lib.getD 5 0) (.code Lib.Math.min.name Lib.Math.min.code 2 (some .int)) && mG1 (mp_lib.getD 6 0) (.initialized "java/lang/Math") && mG1 (mp_lib.getD 7 0) (.native arraycopyName) && mG1 (mp_lib.getD 8 0) (.static arraycopyName) && mG1 (mp_lib.getD 9 0) (.initialized "java/lang/System")) = true := by decide +kernel
theorem mlib : Jvm.Cond.instanceMethod Lib.objectInit ∈ GW ∧ Jvm.Cond.code Lib.objectInit ⟨#[0xb1]⟩ 1 none ∈ GW ∧ Jvm.Cond.static Lib.Math.max.name ∈ GW ∧ Jvm.Cond.code Lib.Math.max.name Lib.Math.max.code 2 (some .int) ∈ GW
  ∧ Jvm.Cond.static Lib.Math.min.name ∈ GW ∧ Jvm.Cond.code Lib.Math.min.name Lib.Math.min.code 2 (some .int) ∈ GW ∧ Jvm.Cond.initialized "java/lang/Math" ∈ GW ∧ Jvm.Cond.native arraycopyName ∈ GW ∧ Jvm.Cond.static arraycopyName ∈ GW ∧ Jvm.Cond.initialized "java/lang/System" ∈ GW := by
  have h := mlib_ok
  simp only [Bool.and_eq_true] at h
  obtain ⟨⟨⟨⟨⟨⟨⟨⟨⟨h0, h1⟩, h2⟩, h3⟩, h4⟩, h5⟩, h6⟩, h7⟩, h8⟩, h9⟩ := h
  exact ⟨mG1_in h0, mG1_in h1, mG1_in h2, mG1_in h3, mG1_in h4, mG1_in h5, mG1_in h6, mG1_in h7, mG1_in h8, mG1_in h9⟩
theorem mSP_use {o i g : Nat} (ho : o < 16) (h : mlk (mSP o) i = some g) : Jvm.Cond.methodLink (mR o) i (mSpn g) ∈ GW := by
  obtain ⟨p, hp⟩ := mlk_in h
  exact mG1_in (m_all16 mSP_ok ho hp)
theorem m_cat1 (E : mE) (v : mV) : (mval E v).category = (bif mc2 v then 2 else 1) := by
  obtain ⟨t, x⟩ := v
  match t with
  | 0 => rfl
  | 1 => rfl
  | 2 => rfl
  | 3 => simp only [mval]; split <;> rfl
  | 4 => rfl
  | 5 => rfl
  | n + 6 =>
    have e : mc2 (n + 6, x) = false := rfl
    rw [e]
    rfl
theorem m_cats (E : mE) : ∀ S : List mV, ((mst E S).map fun v => v.category).sum = mcats S
  | [] => rfl
  | v :: S => by
    have := m_cats E S
    simp only [mst, List.map_cons, List.sum_cons, mcats] at this ⊢
    rw [this, m_cat1]
theorem m_maxI {x y : Int} (hx : mInR x) (hy : mInR y) : (if Int32.ofInt x < Int32.ofInt y then Int32.ofInt y else Int32.ofInt x) = Int32.ofInt (mmax x y) := by
  unfold mmax
  by_cases h : x < y
  · rw [if_pos h, if_pos ((m_lt hx hy).mpr h)]
  · rw [if_neg h, if_neg (fun w => h ((m_lt hx hy).mp w))]
theorem m_minI {x y : Int} (hx : mInR x) (hy : mInR y) : (if Int32.ofInt y < Int32.ofInt x then Int32.ofInt y else Int32.ofInt x) = Int32.ofInt (mmin x y) := by
  unfold mmin
  by_cases h : y < x
  · rw [if_pos h, if_pos ((m_lt hy hx).mpr h)]
  · rw [if_neg h, if_neg (fun w => h ((m_lt hy hx).mp w))]
theorem m_cpyf (B t : Nat) (d : mD) {x sp y dp n : Int} (h1 : 0 ≤ sp) (h2 : 0 ≤ dp) (h3 : 0 ≤ n) : va_cpy (fun z : Nat => mslot B t (d x (z : Int))) (fun z : Nat => mslot B t (d y (z : Int))) sp.toNat dp.toNat n.toNat = fun z : Nat => mslot B t (mcopy d x sp y dp n y (z : Int)) := by
  funext z
  simp only [va_cpy, mcopy]
  by_cases h : dp.toNat ≤ z ∧ z < dp.toNat + n.toNat
  · rw [if_pos h, if_pos ⟨trivial, by omega, by omega⟩]
    congr 2
    omega
  · rw [if_neg h, if_neg (by omega)]
theorem mcopy_ne {d : mD} {x sp y dp n b : Int} (h : b ≠ y) : mcopy d x sp y dp n b = d b := by
  funext j
  simp [mcopy, h]
section SF
variable {p : Program} {l : Launch} {e : Env} {s : State} {mid : MethodId} {args : Array Value} {below : List Frame} {meth : Method} {c : Code} {Q : State → Prop}
variable {E : mE} {D : va_G} {tc : Int → ClassId} {O : mO} {j : Nat}
variable {C : Nat → List mV → mG → mD → mK → Prop} {K : mK} {pc len : Nat} {L S : List mV} {cs ss : Nat} {G : mG} {d : mD} {H : Heap} {o : Nat}

theorem m_copyi {R : Room} {cells slots : Nat} {locs : List Loc} {cc : ByteArray} {ls : Array Slot} {rest : List Value} (hexec : p.tables.exec = Jvm.exec) (hb : c.code = cc) (hml : c.maxLocals = ls.size) {own : String} {index : Nat} (hown : s.vm.findClass own = some mid.cls) (hlink : (Jvm.Cond.methodLink own index arraycopyName).before args s = true) (hnat : (Jvm.Cond.native arraycopyName).before args s = true) (hstat : (Jvm.Cond.static arraycopyName).before args s = true) (hini : (Jvm.Cond.initialized "java/lang/System").before args s = true)
    {c0 : ClassId} {a0 a n0 n1 : Nat} {f g : Nat → Int} (hA : ArrOfT s c0 .int) (ha0 : H[a0]? = some (arrV c0 n0 (fun z => (fun x : Int => Value.int (Int32.ofInt x)) (f z)))) (ha1 : H[a]? = some (arrV c0 n1 (fun z => (fun x : Int => Value.int (Int32.ofInt x)) (g z))))
    {sp dp n : Int32} (h1 : ¬ sp < 0) (h2 : ¬ dp < 0) (h3 : ¬ n < 0) (h4 : sp.toNatClampNeg + n.toNatClampNeg ≤ n0) (h5 : dp.toNatClampNeg + n.toNatClampNeg ≤ n1)
    (hframes : 1 ≤ R.frames) (hlocals : (rest.map fun v => v.category).sum + 18 ≤ R.locals) (hdg : decode cc pc = .ok (.invokestatic index, 3)) (hAr : mAr E a) (hs : va_S (mAr E) s.heap H locs)
    (kk : ∀ (H1 : Heap) (locs1 : List Loc), H1[a]? = some (arrV c0 n1 (va_cpy (fun z => (fun x : Int => Value.int (Int32.ofInt x)) (f z)) (fun z => (fun x : Int => Value.int (Int32.ofInt x)) (g z)) sp.toNatClampNeg dp.toNatClampNeg n.toNatClampNeg)) → H1.size = H.size → (∀ q : Nat, q ≠ a → H1[q]? = H[q]?) → va_S (mAr E) s.heap H1 locs1 → W p l e R s mid args below meth c H1 locs1 cells slots Q (F0 mid (pc + 3) ls rest)) : W p l e R s mid args below meth c H locs cells slots Q (F0 mid pc ls (.int n :: .int dp :: .ref a :: .int sp :: .ref a0 :: rest)) := by
  have nn : ∀ z : Int32, ¬ z < 0 → z.toInt = (z.toNatClampNeg : Int) := by
    intro z hz
    have hz0 : (0 : Int) ≤ z.toInt := by
      have := Int32.not_lt.mp hz
      simpa using Int32.le_iff_toInt_le.mp this
    show z.toInt = ((z.toInt.toNat : Nat) : Int)
    omega
  intro T hT X
  obtain ⟨-, k0, hk0, cm0, hkk0⟩ := hA n0 (fun z => (fun x : Int => Value.int (Int32.ofInt x)) (f z))
  obtain ⟨-, k1, hk1, cm1, hkk1⟩ := hA n1 (fun z => (fun x : Int => Value.int (Int32.ofInt x)) (g z))
  obtain ⟨vm', X', step⟩ := X.arraycopy hexec hown hlink hnat hstat hini (src := a0) (dst := a) (cs := arrV c0 n0 (fun z => (fun x : Int => Value.int (Int32.ofInt x)) (f z))) (cd := arrV c0 n1 (fun z => (fun x : Int => Value.int (Int32.ofInt x)) (g z))) (srcPos := sp) (destPos := dp) (n := n) (by rw [hT]; exact ha0) (by rw [hT]; exact ha1)
    (fun _ h => by cases h) (fun _ h => by cases h) (fun h => by cases h) (fun h => by cases h) hk0 hk1 hkk0 hkk1 (by decide) h1 h2 h3
    (by rw [nn sp h1, nn n h3, arrV_size]; omega)
    (by rw [nn dp h2, nn n h3, arrV_size]; omega)
    (fun vm₁ _ i hi => by
      have e : (arrV c0 n0 (fun z => (fun x : Int => Value.int (Int32.ofInt x)) (f z))).slots.getD (sp.toNatClampNeg + i) .null = (fun x : Int => Value.int (Int32.ofInt x)) (f (sp.toNatClampNeg + i)) := by
        rw [Array.getD_eq_getD_getElem?, arrV_read _ _ (by omega)]
        rfl
      refine ⟨?_, ?_⟩
      · rw [e]
        rfl
      · rw [e]
        exact trivial)
    (g := F0 mid pc ls (.int n :: .int dp :: .ref a :: .int sp :: .ref a0 :: rest)) rfl (by rw [hml]) (rest := rest) rfl (by rw [hb]; exact hdg) hframes (by show 2 * 0 + _ + _ ≤ _; rw [show nativeFrameWords "java/lang/System" "arraycopy" 5 = 7 by decide]; omega)
  have e1 : copied (arrV c0 n0 (fun z => (fun x : Int => Value.int (Int32.ofInt x)) (f z))) (arrV c0 n1 (fun z => (fun x : Int => Value.int (Int32.ofInt x)) (g z))) sp dp n = arrV c0 n1 (fun z => (fun x : Int => Value.int (Int32.ofInt x)) (va_cpy f g sp.toNatClampNeg dp.toNatClampNeg n.toNatClampNeg z)) := va_copied (fun x : Int => Value.int (Int32.ofInt x)) c0 c0 f g h4
  have e2 : (fun z => (fun x : Int => Value.int (Int32.ofInt x)) (va_cpy f g sp.toNatClampNeg dp.toNatClampNeg n.toNatClampNeg z)) = va_cpy (fun z => (fun x : Int => Value.int (Int32.ofInt x)) (f z)) (fun z => (fun x : Int => Value.int (Int32.ofInt x)) (g z)) sp.toNatClampNeg dp.toNatClampNeg n.toNatClampNeg := by
    funext z
    simp only [va_cpy]
    split <;> rfl
  rw [e1, e2] at X' step
  have hl : a < H.size := (Array.getElem?_eq_some_iff.mp ha1).1
  obtain ⟨new, hnew⟩ : ∃ new, new = arrV c0 n1 (va_cpy (fun z => (fun x : Int => Value.int (Int32.ofInt x)) (f z)) (fun z => (fun x : Int => Value.int (Int32.ofInt x)) (g z)) sp.toNatClampNeg dp.toNatClampNeg n.toNatClampNeg) := ⟨_, rfl⟩
  rw [← hnew] at X' step kk
  have hheap : ((T.setVm vm').setCell a new).heap = H.setIfInBounds a new := by rw [← hT]; rfl
  have oq : ∀ q : Nat, q ≠ a → (H.setIfInBounds a new)[q]? = H[q]? := fun q hq => by simp [Array.getElem?_setIfInBounds, Ne.symm hq]
  obtain ⟨t, a1, b1⟩ := kk _ _ (show (H.setIfInBounds a _)[a]? = some _ by simp [Array.getElem?_setIfInBounds, hl]) (by simp) oq ⟨by simp; exact hs.1, fun q g1 g2 => by
      rw [oq q (fun e => g2 (by rw [e]; exact hAr))]
      exact hs.2.1 q g1 g2, fun q hq => by
      rcases List.mem_append.mp hq with h | h
      · exact hs.2.2 q h
      · obtain ⟨z, -, hz⟩ := List.mem_map.mp h
        rw [← hz]
        exact hAr⟩ _ hheap X'
  exact ⟨t, step t a1, b1⟩
theorem m_copyl {R : Room} {cells slots : Nat} {locs : List Loc} {cc : ByteArray} {ls : Array Slot} {rest : List Value} (hexec : p.tables.exec = Jvm.exec) (hb : c.code = cc) (hml : c.maxLocals = ls.size) {own : String} {index : Nat} (hown : s.vm.findClass own = some mid.cls) (hlink : (Jvm.Cond.methodLink own index arraycopyName).before args s = true) (hnat : (Jvm.Cond.native arraycopyName).before args s = true) (hstat : (Jvm.Cond.static arraycopyName).before args s = true) (hini : (Jvm.Cond.initialized "java/lang/System").before args s = true)
    {c0 : ClassId} {a0 a n0 n1 : Nat} {f g : Nat → Int} (hA : ArrOfT s c0 .long) (ha0 : H[a0]? = some (arrV c0 n0 (fun z => (fun x : Int => Value.long (Int64.ofInt x)) (f z)))) (ha1 : H[a]? = some (arrV c0 n1 (fun z => (fun x : Int => Value.long (Int64.ofInt x)) (g z))))
    {sp dp n : Int32} (h1 : ¬ sp < 0) (h2 : ¬ dp < 0) (h3 : ¬ n < 0) (h4 : sp.toNatClampNeg + n.toNatClampNeg ≤ n0) (h5 : dp.toNatClampNeg + n.toNatClampNeg ≤ n1)
    (hframes : 1 ≤ R.frames) (hlocals : (rest.map fun v => v.category).sum + 18 ≤ R.locals) (hdg : decode cc pc = .ok (.invokestatic index, 3)) (hAr : mAr E a) (hs : va_S (mAr E) s.heap H locs)
    (kk : ∀ (H1 : Heap) (locs1 : List Loc), H1[a]? = some (arrV c0 n1 (va_cpy (fun z => (fun x : Int => Value.long (Int64.ofInt x)) (f z)) (fun z => (fun x : Int => Value.long (Int64.ofInt x)) (g z)) sp.toNatClampNeg dp.toNatClampNeg n.toNatClampNeg)) → H1.size = H.size → (∀ q : Nat, q ≠ a → H1[q]? = H[q]?) → va_S (mAr E) s.heap H1 locs1 → W p l e R s mid args below meth c H1 locs1 cells slots Q (F0 mid (pc + 3) ls rest)) : W p l e R s mid args below meth c H locs cells slots Q (F0 mid pc ls (.int n :: .int dp :: .ref a :: .int sp :: .ref a0 :: rest)) := by
  have nn : ∀ z : Int32, ¬ z < 0 → z.toInt = (z.toNatClampNeg : Int) := by
    intro z hz
    have hz0 : (0 : Int) ≤ z.toInt := by
      have := Int32.not_lt.mp hz
      simpa using Int32.le_iff_toInt_le.mp this
    show z.toInt = ((z.toInt.toNat : Nat) : Int)
    omega
  intro T hT X
  obtain ⟨-, k0, hk0, cm0, hkk0⟩ := hA n0 (fun z => (fun x : Int => Value.long (Int64.ofInt x)) (f z))
  obtain ⟨-, k1, hk1, cm1, hkk1⟩ := hA n1 (fun z => (fun x : Int => Value.long (Int64.ofInt x)) (g z))
  obtain ⟨vm', X', step⟩ := X.arraycopy hexec hown hlink hnat hstat hini (src := a0) (dst := a) (cs := arrV c0 n0 (fun z => (fun x : Int => Value.long (Int64.ofInt x)) (f z))) (cd := arrV c0 n1 (fun z => (fun x : Int => Value.long (Int64.ofInt x)) (g z))) (srcPos := sp) (destPos := dp) (n := n) (by rw [hT]; exact ha0) (by rw [hT]; exact ha1)
    (fun _ h => by cases h) (fun _ h => by cases h) (fun h => by cases h) (fun h => by cases h) hk0 hk1 hkk0 hkk1 (by decide) h1 h2 h3
    (by rw [nn sp h1, nn n h3, arrV_size]; omega)
    (by rw [nn dp h2, nn n h3, arrV_size]; omega)
    (fun vm₁ _ i hi => by
      have e : (arrV c0 n0 (fun z => (fun x : Int => Value.long (Int64.ofInt x)) (f z))).slots.getD (sp.toNatClampNeg + i) .null = (fun x : Int => Value.long (Int64.ofInt x)) (f (sp.toNatClampNeg + i)) := by
        rw [Array.getD_eq_getD_getElem?, arrV_read _ _ (by omega)]
        rfl
      refine ⟨?_, ?_⟩
      · rw [e]
        rfl
      · rw [e]
        exact trivial)
    (g := F0 mid pc ls (.int n :: .int dp :: .ref a :: .int sp :: .ref a0 :: rest)) rfl (by rw [hml]) (rest := rest) rfl (by rw [hb]; exact hdg) hframes (by show 2 * 0 + _ + _ ≤ _; rw [show nativeFrameWords "java/lang/System" "arraycopy" 5 = 7 by decide]; omega)
  have e1 : copied (arrV c0 n0 (fun z => (fun x : Int => Value.long (Int64.ofInt x)) (f z))) (arrV c0 n1 (fun z => (fun x : Int => Value.long (Int64.ofInt x)) (g z))) sp dp n = arrV c0 n1 (fun z => (fun x : Int => Value.long (Int64.ofInt x)) (va_cpy f g sp.toNatClampNeg dp.toNatClampNeg n.toNatClampNeg z)) := va_copied (fun x : Int => Value.long (Int64.ofInt x)) c0 c0 f g h4
  have e2 : (fun z => (fun x : Int => Value.long (Int64.ofInt x)) (va_cpy f g sp.toNatClampNeg dp.toNatClampNeg n.toNatClampNeg z)) = va_cpy (fun z => (fun x : Int => Value.long (Int64.ofInt x)) (f z)) (fun z => (fun x : Int => Value.long (Int64.ofInt x)) (g z)) sp.toNatClampNeg dp.toNatClampNeg n.toNatClampNeg := by
    funext z
    simp only [va_cpy]
    split <;> rfl
  rw [e1, e2] at X' step
  have hl : a < H.size := (Array.getElem?_eq_some_iff.mp ha1).1
  obtain ⟨new, hnew⟩ : ∃ new, new = arrV c0 n1 (va_cpy (fun z => (fun x : Int => Value.long (Int64.ofInt x)) (f z)) (fun z => (fun x : Int => Value.long (Int64.ofInt x)) (g z)) sp.toNatClampNeg dp.toNatClampNeg n.toNatClampNeg) := ⟨_, rfl⟩
  rw [← hnew] at X' step kk
  have hheap : ((T.setVm vm').setCell a new).heap = H.setIfInBounds a new := by rw [← hT]; rfl
  have oq : ∀ q : Nat, q ≠ a → (H.setIfInBounds a new)[q]? = H[q]? := fun q hq => by simp [Array.getElem?_setIfInBounds, Ne.symm hq]
  obtain ⟨t, a1, b1⟩ := kk _ _ (show (H.setIfInBounds a _)[a]? = some _ by simp [Array.getElem?_setIfInBounds, hl]) (by simp) oq ⟨by simp; exact hs.1, fun q g1 g2 => by
      rw [oq q (fun e => g2 (by rw [e]; exact hAr))]
      exact hs.2.1 q g1 g2, fun q hq => by
      rcases List.mem_append.mp hq with h | h
      · exact hs.2.2 q h
      · obtain ⟨z, -, hz⟩ := List.mem_map.mp h
        rw [← hz]
        exact hAr⟩ _ hheap X'
  exact ⟨t, step t a1, b1⟩
theorem s_objInit (hx : p.tables.exec = Jvm.exec) (hb : c.code = mb j) {idx : Nat} (hml : c.maxLocals = mmaxL j) (hG : ∀ w ∈ GW, w.before args s = true) (ho : o < 16) (hown : s.vm.findClass (mR o) = some mid.cls) (hlk : mlk (mSP o) idx = some 0) (hd : decode (mb j) pc = .ok (.invokespecial idx, 3)) (h : mint (mW p l e s mid args below meth c Q E D tc j) C j K (mX O j 3 (.invokespecial 0) pc L S cs ss G d)) : mW p l e s mid args below meth c Q E D tc j (pc, L, S, cs, ss, G, d) := by
  have hw := mSP_use ho hlk
  have lib := mlib
  simp only [mX] at h
  split at h
  case h_1 =>
    rename_i a S' e0
    obtain ⟨⟨q0, q1, q2⟩, h⟩ := h
    intro H locs ls hl hr hs h1 h2
    rw [mval_own q0]
    exact W.objInit hx hb hown (hG _ hw) (hG _ lib.1) (hG _ lib.2.1) rfl (by show ls.size = _; rw [hl.1, hml]) rfl hd q1 (by show 2 * 0 + _ + 12 ≤ _; rw [m_cats]; show _ ≤ mneed j; omega) (h H locs ls hl hr hs h1 h2)
  all_goals first | exact absurd h.1 id | (rename_i e0 e1; exact absurd e0 (by decide)) | (simp at *; done)
theorem s_mmax (hx : p.tables.exec = Jvm.exec) (hb : c.code = mb j) {idx : Nat} (hml : c.maxLocals = mmaxL j) (hG : ∀ w ∈ GW, w.before args s = true) (ho : o < 16) (hown : s.vm.findClass (mR o) = some mid.cls) (hlk : mlk (mSP o) idx = some 1) (hd : decode (mb j) pc = .ok (.invokestatic idx, 3)) (h : mint (mW p l e s mid args below meth c Q E D tc j) C j K (mX O j 3 (.invokespecial 1) pc L S cs ss G d)) : mW p l e s mid args below meth c Q E D tc j (pc, L, S, cs, ss, G, d) := by
  have hw := mSP_use ho hlk
  have lib := mlib
  simp only [mX] at h
  split at h
  case h_2 =>
    rename_i y x S' e0
    obtain ⟨⟨q0, q1, q2, q3⟩, h⟩ := h
    intro H locs ls hl hr hs h1 h2
    have kk := h H locs ls hl hr hs h1 h2
    refine va_mmax hx hb (by rw [hl.1, hml]) hown (hG _ hw) (hG _ lib.2.2.1) (hG _ lib.2.2.2.2.2.2.1) (hG _ lib.2.2.2.1) q2 (by rw [m_cats]; exact q3) h1 h2 hd ?_
    rw [m_maxI q0 q1]
    exact kk
  all_goals first | exact absurd h.1 id | (rename_i e0 e1; exact absurd e0 (by decide)) | (simp at *; done)
theorem s_mmin (hx : p.tables.exec = Jvm.exec) (hb : c.code = mb j) {idx : Nat} (hml : c.maxLocals = mmaxL j) (hG : ∀ w ∈ GW, w.before args s = true) (ho : o < 16) (hown : s.vm.findClass (mR o) = some mid.cls) (hlk : mlk (mSP o) idx = some 2) (hd : decode (mb j) pc = .ok (.invokestatic idx, 3)) (h : mint (mW p l e s mid args below meth c Q E D tc j) C j K (mX O j 3 (.invokespecial 2) pc L S cs ss G d)) : mW p l e s mid args below meth c Q E D tc j (pc, L, S, cs, ss, G, d) := by
  have hw := mSP_use ho hlk
  have lib := mlib
  simp only [mX] at h
  split at h
  case h_3 =>
    rename_i y x S' e0
    obtain ⟨⟨q0, q1, q2, q3⟩, h⟩ := h
    intro H locs ls hl hr hs h1 h2
    have kk := h H locs ls hl hr hs h1 h2
    refine va_mmin hx hb (by rw [hl.1, hml]) hown (hG _ hw) (hG _ lib.2.2.2.2.1) (hG _ lib.2.2.2.2.2.2.1) (hG _ lib.2.2.2.2.2.1) q2 (by rw [m_cats]; exact q3) h1 h2 hd ?_
    rw [m_minI q0 q1]
    exact kk
  all_goals first | exact absurd h.1 id | (rename_i e0 e1; exact absurd e0 (by decide)) | (simp at *; done)
theorem s_copy (hx : p.tables.exec = Jvm.exec) (hb : c.code = mb j) {idx : Nat} (hml : c.maxLocals = mmaxL j) (hG : ∀ w ∈ GW, w.before args s = true) (ho : o < 16) (hown : s.vm.findClass (mR o) = some mid.cls) (hK : va_K D vwCl (mtys tc) s) (hlk : mlk (mSP o) idx = some 3) (hd : decode (mb j) pc = .ok (.invokestatic idx, 3)) (h : mint (mW p l e s mid args below meth c Q E D tc j) C j K (mX O j 3 (.invokespecial 3) pc L S cs ss G d)) : mW p l e s mid args below meth c Q E D tc j (pc, L, S, cs, ss, G, d) := by
  have hw := mSP_use ho hlk
  obtain ⟨-, -, -, -, -, -, -, lb1, lb2, lb3⟩ := mlib
  simp only [mX] at h
  split at h
  case h_4 =>
    rename_i n dp y sp x S' e0
    obtain ⟨⟨q0, q1, q2, q3, q4, q5, q6, q7, q8, q9, q10⟩, h⟩ := h
    intro H locs ls hl hr hs h1 h2
    have kk := fun H locs hr hs => h H locs ls hl hr hs h1 h2
    rcases q0 with q0 | q0
    · obtain ⟨hx0, hmx, hnx, hnx2, hcx⟩ := mRep_row hr (by decide) q0
      obtain ⟨hy0, hmy, hny, hny2, hcy⟩ := mRep_row hr (by decide) (q1.trans q0)
      have e9 : mst E ((0, n) :: (0, dp) :: (3, y) :: (0, sp) :: (3, x) :: S') = .int (Int32.ofInt n) :: .int (Int32.ofInt dp) :: .ref (E.1 + y.toNat) :: .int (Int32.ofInt sp) :: .ref (E.1 + x.toNat) :: mst E S' := by
        simp only [mst, List.map_cons, mval]
        rw [if_neg (by omega), if_neg (by omega)]
      rw [e9]
      refine m_copyi (E := E) hx hb (by rw [hl.1, hml]) hown (hG _ hw) (hG _ lb1) (hG _ lb2) (hG _ lb3) (m_tys hK hmx).1 hcx hcy (m_nneg q2 (by omega)) (m_nneg q3 (by omega)) (m_nneg q4 (by omega)) (by rw [m_nat q2 (by omega), m_nat q4 (by omega)]; omega) (by rw [m_nat q3 (by omega), m_nat q4 (by omega)]; omega) q10.1 (by rw [m_cats]; exact q10.2) hd (by show E.1 ≤ _; omega) hs (fun H' locs' e1 e2 e3 hs' => ?_)
      refine kk H' locs' (mRep_upd hr (by omega) e2 e3 (fun b hb9 => mcopy_ne hb9) (fun h9 => by omega) (fun _ => ?_)) hs'
      rw [q1, q0]
      refine ⟨hmy, hny, hny2, ?_⟩
      rw [e1, m_nat q2 (by omega), m_nat q3 (by omega), m_nat q4 (by omega)]
      congr 2
      exact m_cpyf E.1 0 d q2 q3 q4
    · obtain ⟨hx0, hmx, hnx, hnx2, hcx⟩ := mRep_row hr (by decide) q0
      obtain ⟨hy0, hmy, hny, hny2, hcy⟩ := mRep_row hr (by decide) (q1.trans q0)
      have e9 : mst E ((0, n) :: (0, dp) :: (3, y) :: (0, sp) :: (3, x) :: S') = .int (Int32.ofInt n) :: .int (Int32.ofInt dp) :: .ref (E.1 + y.toNat) :: .int (Int32.ofInt sp) :: .ref (E.1 + x.toNat) :: mst E S' := by
        simp only [mst, List.map_cons, mval]
        rw [if_neg (by omega), if_neg (by omega)]
      rw [e9]
      refine m_copyl (E := E) hx hb (by rw [hl.1, hml]) hown (hG _ hw) (hG _ lb1) (hG _ lb2) (hG _ lb3) (m_tys hK hmx).1 hcx hcy (m_nneg q2 (by omega)) (m_nneg q3 (by omega)) (m_nneg q4 (by omega)) (by rw [m_nat q2 (by omega), m_nat q4 (by omega)]; omega) (by rw [m_nat q3 (by omega), m_nat q4 (by omega)]; omega) q10.1 (by rw [m_cats]; exact q10.2) hd (by show E.1 ≤ _; omega) hs (fun H' locs' e1 e2 e3 hs' => ?_)
      refine kk H' locs' (mRep_upd hr (by omega) e2 e3 (fun b hb9 => mcopy_ne hb9) (fun h9 => by omega) (fun _ => ?_)) hs'
      rw [q1, q0]
      refine ⟨hmy, hny, hny2, ?_⟩
      rw [e1, m_nat q2 (by omega), m_nat q3 (by omega), m_nat q4 (by omega)]
      congr 2
      exact m_cpyf E.1 3 d q2 q3 q4
  all_goals first | exact absurd h.1 id | (rename_i e0 e1; exact absurd e0 (by decide)) | (simp at *; done)
end SF
/-! ===== a method of the small machine as a contract of the machine ===== -/
def mws (j : Nat) : List Jvm.Cond := mcode j :: GW
def mRetOk (j : Nat) : Instr → Option mV → Prop
  | .ireturn, some (0, x) => mret1 j x
  | .lreturn, some (1, _) => mret j = 3
  | .dreturn, some (2, _) => mret j = 4
  | .return_, none => mret j = 0
  | _, _ => False
def mFrame (l : Launch) (E : mE) (D : va_G) (tc : Int → ClassId) (O : mO) (j : Nat) (p : Program) (s : State) (mid : MethodId) (args : Array Value) (meth : Method) (c : Code) : Prop :=
  p.tables.exec = Jvm.exec ∧ c.code = mb j ∧ c.maxLocals = mmaxL j ∧ meth.sig.returnType = mrt j ∧ s.vm.findClass (mR (mown j)) = some mid.cls ∧ (∀ w ∈ GW, w.before args s = true) ∧ meth.locks = false
    ∧ ((my j).name = "<init>" → meth.name = "<init>") ∧ (0 < j → c.exceptionTable.toList = tableOf (mhh j)) ∧ va_K D vwCl (mtys tc) s ∧ mOld E O (mAr E) s s.heap ∧ l.stackTraces = false
section SH
variable (p : Program) (l : Launch) (e : Env) (s : State) (mid : MethodId) (args : Array Value) (below : List Frame) (meth : Method) (c : Code) (Q : State → Prop)
variable (E : mE) (D : va_G) (tc : Int → ClassId) (O : mO) (j : Nat) (K : mK)
def mHret : Prop := ∀ (op : Instr) (v : Option mV) (G : mG) (d : mD) (H : Heap) (locs : List Loc) (cs ss pc : Nat) (ls : Array Slot), K (.inl v) G d → mRep E D tc G d H → va_S (mAr E) s.heap H locs → cs ≤ mmc j → ss ≤ mms j →
  decode (mb j) pc = .ok (op, 1) → mRetOk j op v → W p l e (mRm j) s mid args below meth c H locs cs ss Q (F0 mid pc ls (mst E v.toList))
def mHthr : Prop := ∀ (ex : Nat) (G : mG) (d : mD) (H : Heap) (locs : List Loc) (cs ss pc : Nat) (ls : Array Slot) (S : List mV), K (.inr ex) (G.1, G.2.1, -1) d → mRep E D tc G d H → va_S (mAr E) s.heap H locs →
  mthr j (mown j) pc ex = true → mhh j = [] → mroomT j S cs ss → ls.size = mmaxL j → W p l e (mRm j) s mid args below meth c H locs cs ss Q (F0 mid pc ls (mst E S))
def mHcat : Prop := ∀ (ex : Nat) (G : mG) (d : mD) (H : Heap) (locs : List Loc) (cs ss pc : Nat) (ls : Array Slot) (S : List Value) (q : Addr) (ce : Cell), ex < 4 → K (.inr ex) G d → mRep E D tc G d H → va_S (mAr E) s.heap H locs → cs ≤ mmc j → ss ≤ mms j → mhh j = [] →
  H[q]? = some ce → ce.vm = .none → s.vm.findClass (mEn ex) = some ce.cls → vx_W p l e (mRm j) s mid args below meth c H locs cs ss Q (F0 mid pc ls S) q
def mEnds : Prop := mHret p l e s mid args below meth c Q E D tc j K ∧ mHthr p l e s mid args below meth c Q E D tc j K ∧ mHcat p l e s mid args below meth c Q E D tc j K
end SH
def mSim (l : Launch) (E : mE) (D : va_G) (tc : Int → ClassId) (O : mO) : mP := fun j st K => j < 341 → ∀ (p : Program) (e : Env) (s : State) (mid : MethodId) (args : Array Value) (below : List Frame) (meth : Method) (c : Code) (Q : State → Prop),
  mFrame l E D tc O j p s mid args meth c → mEnds p l e s mid args below meth c Q E D tc j K → mW p l e s mid args below meth c Q E D tc j st
def mPc (E : mE) (D : va_G) (tc : Int → ClassId) (O : mO) (as : List mV) (G : mG) (d : mD) : Array Value → State → Prop := va_Pc (as.map (mval E)) (fun U => mRep E D tc G d U.heap ∧ va_K D vwCl (mtys tc) U ∧ mOld E O (mAr E) U U.heap)
def mQc (E : mE) (D : va_G) (tc : Int → ClassId) (K : mK) : Array Value → State → Outcome → State → Prop := fun _ st oc t => (∃ (v : Option mV) (G : mG) (d : mD), oc = .returned (v.map (mval E)) ∧ K (.inl v) G d ∧ mRep E D tc G d t.heap) ∧ va_F (mAr E) st t
def mXc (E : mE) (D : va_G) (tc : Int → ClassId) (K : mK) : String → State → State → Prop := fun n st t => (∃ (ex : Nat) (G : mG) (d : mD), n = mEn ex ∧ ex < 4 ∧ K (.inr ex) G d ∧ mRep E D tc G d t.heap) ∧ va_F (mAr E) st t
-- the locals at a method's entry
theorem mget_pad : ∀ (n : Nat) (l : List mV) (i : Nat), i < n → mget (mpad n l) i = mget l i
  | n + 1, [], 0, _ => rfl
  | n + 1, [], i + 1, h => by
    show mget (mpad n []) i = mu
    rw [mget_pad n [] i (by omega)]
    rfl
  | n + 1, v :: l, 0, _ => rfl
  | n + 1, v :: l, i + 1, h => mget_pad n l i (by omega)
theorem mpad_len : ∀ (n : Nat) (l : List mV), (mpad n l).length = n
  | 0, _ => rfl
  | n + 1, [] => by simp [mpad, mpad_len n []]
  | n + 1, v :: l => by simp [mpad, mpad_len n l]
theorem mlay_in (E : mE) : ∀ (as : List mV) (off i : Nat), (mget (mlay as) i).1 < 6 → (off + i, mval E (mget (mlay as) i)) ∈ lv_args off (as.map (mval E))
  | [], _, _, h => absurd (show 7 < 6 from h) (by omega)
  | v :: as, off, i, h => by
    have hc := m_cat1 E v
    cases h2 : mc2 v with
    | true =>
      rw [h2] at hc
      have e : mlay (v :: as) = v :: mu :: mlay as := by simp [mlay, h2]
      have hc : (mval E v).category = 2 := hc
      rw [e] at h ⊢
      simp only [List.map_cons, lv_args, hc, if_true]
      match i with
      | 0 => exact List.mem_cons_self
      | 1 => exact absurd (show 7 < 6 from h) (by omega)
      | i + 2 =>
        refine List.mem_cons_of_mem _ ?_
        have := mlay_in E as (off + 2) i h
        rw [show off + (i + 2) = off + 2 + i by omega]
        exact this
    | false =>
      rw [h2] at hc
      have e : mlay (v :: as) = v :: mlay as := by simp [mlay, h2]
      have hc : (mval E v).category = 1 := hc
      rw [e] at h ⊢
      simp only [List.map_cons, lv_args, hc]
      match i with
      | 0 => exact List.mem_cons_self
      | i + 1 =>
        refine List.mem_cons_of_mem _ ?_
        have := mlay_in E as (off + 1) i h
        rw [show off + (i + 1) = off + 1 + i by omega]
        exact this
theorem mlay_len (E : mE) : ∀ as : List mV, (lg_sl (as.map (mval E))).length = (mlay as).length
  | [] => rfl
  | v :: as => by
    have ih := mlay_len E as
    have hc := m_cat1 E v
    unfold lg_sl at ih ⊢
    cases h2 : mc2 v with
    | true =>
      rw [h2] at hc
      have hc : (mval E v).category = 2 := hc
      simp [mlay, h2, hc, ih]
    | false =>
      rw [h2] at hc
      have hc : (mval E v).category = 1 := hc
      simp [mlay, h2, hc, ih]
theorem mLoc_entry {E : mE} {j : Nat} {as : List mV} (h : Nat.ble (mlay as).length (mmaxL j) = true) : mLoc E ((lg_sl (as.map (mval E)) ++ List.replicate (mmaxL j - (lg_sl (as.map (mval E))).length) Slot.unset).toArray) (mmaxL j) (mloc j as) := by
  have hl := lv_entry (as.map (mval E)) (n := mmaxL j) (by rw [mlay_len]; exact Nat.le_of_ble_eq_true h)
  refine ⟨hl.1, hl.2.1, mpad_len _ _, fun i hi => ?_⟩
  unfold mloc at hi ⊢
  by_cases h1 : i < mmaxL j
  · rw [mget_pad _ _ _ h1] at hi ⊢
    have h2 := mlay_in E as 0 i hi
    rw [Nat.zero_add] at h2
    exact hl.2.2 _ h2
  · rw [mget_out _ _ (by rw [mpad_len]; omega)] at hi
    exact absurd hi (by decide)
theorem mFrameBlind {E : mE} {D : va_G} {tc : Int → ClassId} {O : mO} {as : List mV} {G : mG} {d : mD} : FrameBlind (mPc E D tc O as G d) := by
  intro a U g mk q
  obtain ⟨q0, q1, q2, q3⟩ := q
  exact ⟨q0, q1, va_K.moved (u := U) (U := U.calling g mk a) (Vm.Alike.refl U.vm) q2, mOld_to (U := U.calling g mk a) q3 (State.WarmedH.refl U) (Nat.le_refl _) (fun _ _ _ => rfl)⟩
theorem m_retw {p : Program} {l : Launch} {e : Env} {s : State} {mid : MethodId} {args : Array Value} {below : List Frame} {meth : Method} {c : Code} {E : mE} {D : va_G} {tc : Int → ClassId} {j : Nat} {K : mK}
    (hx : p.tables.exec = Jvm.exec) (hb : c.code = mb j) (hr : meth.sig.returnType = mrt j) (hlocks : meth.locks = false) : mHret p l e s mid args below meth c (vx_MQ below (mQc E D tc K) (mXc E D tc K) args s (mmc j) (mms j) (mAr E)) E D tc j K := by
  intro op v G d H locs cs ss pc ls hk hrep hs h1 h2 hd hok
  refine W.widen (k := mmc j) (n := mms j) h1 h2 (vx_ret ?_)
  unfold mrt at hr
  match op, v, hok with
  | .ireturn, some (0, x), hok =>
    have hq : ∀ t : State, t.heap = H → s.WarmedH t.vm → mQc E D tc K args s (.returned (some (.int (Int32.ofInt x)))) t := fun t ht hW => ⟨⟨some (0, x), G, d, rfl, hk, by rw [ht]; exact hrep⟩, hs.F ht⟩
    simp only [mRetOk, mret1] at hok
    split at hok
    · rename_i hm
      rw [hm] at hr
      exact W.iret hx hb hr hq hs.2.2 hd hlocks
    · rename_i hm
      rw [hm] at hr
      exact W.zret hx hb hr (m_zb hok) hq hs.2.2 hd hlocks
    · exact hok.elim
  | .lreturn, some (1, x), hok =>
    have hm : mret j = 3 := hok
    rw [hm] at hr
    exact W.lret hx hb hr (fun t ht hW => ⟨⟨some (1, x), G, d, rfl, hk, by rw [ht]; exact hrep⟩, hs.F ht⟩) hs.2.2 hd hlocks
  | .dreturn, some (2, x), hok =>
    have hm : mret j = 4 := hok
    rw [hm] at hr
    exact W.dret hx hb hr (fun t ht hW => ⟨⟨some (2, x), G, d, rfl, hk, by rw [ht]; exact hrep⟩, hs.F ht⟩) hs.2.2 hd hlocks
  | .return_, none, hok =>
    have hm : mret j = 0 := hok
    rw [hm] at hr
    exact W.vret hx hb hr (fun t ht hW => ⟨⟨none, G, d, rfl, hk, by rw [ht]; exact hrep⟩, hs.F ht⟩) hs.2.2 hd hlocks
theorem mRep_forget {E : mE} {D : va_G} {tc : Int → ClassId} {G : mG} {d : mD} {H H' : Heap} (h : mRep E D tc G d H) (hz : H.size ≤ H'.size) (ho : ∀ q : Nat, q < H.size → H'[q]? = H[q]?) : mRep E D tc (G.1, G.2.1, -1) d H' := by
  refine ⟨Nat.le_trans h.1 hz, fun h9 => absurd h9 (by show ¬ (0 : Int) ≤ -1; omega), fun b hb => ?_⟩
  obtain ⟨h1, h2, h3⟩ := h.2.2 b hb
  have hlt : E.1 + b.toNat < H.size := by
    by_cases h9 : G.1 b < 100
    · obtain ⟨-, cell, hc, -⟩ := h2 h9
      exact (Array.getElem?_eq_some_iff.mp hc).1
    · obtain ⟨-, -, -, hc⟩ := h3 (by omega)
      exact (Array.getElem?_eq_some_iff.mp hc).1
  have hq := ho _ hlt
  exact ⟨h1, fun h => ⟨(h2 h).1, (h2 h).2.kept hq⟩, fun h => ⟨(h3 h).1, (h3 h).2.1, (h3 h).2.2.1, by rw [hq]; exact (h3 h).2.2.2⟩⟩
theorem m_catw {p : Program} {l : Launch} {e : Env} {s : State} {mid : MethodId} {args : Array Value} {below : List Frame} {meth : Method} {c : Code} {E : mE} {D : va_G} {tc : Int → ClassId} {j : Nat} {K : mK}
    (ht : mhh j = [] → c.exceptionTable.toList = []) (hlocks : meth.locks = false) : mHcat p l e s mid args below meth c (vx_MQ below (mQc E D tc K) (mXc E D tc K) args s (mmc j) (mms j) (mAr E)) E D tc j K := by
  intro ex G d H locs cs ss pc ls S q ce hex hk hrep hs h1 h2 hh hc hv hcl
  have ht := ht hh
  exact vx_out (E := mEn ex) (fun x hx => by rw [ht] at hx; cases hx) hlocks hc hv hcl (fun t ht hA => ⟨⟨ex, G, d, rfl, hex, hk, by rw [ht]; exact hrep⟩, hs.F ht⟩) hs.2.2 h1 h2
/-! ===== 'throw new E("..")' without stack traces, the class's own constructor at any index (after the library's ctorThrowS and ctorThrowSVX) ===== -/
section MX
variable {p : Program} {l : Launch} {e : Env} {R : Room} {s : State} {m : MethodId} {args : Array Value} {below : List Frame} {meth : Method} {c : Code}
set_option maxHeartbeats 1000000 in
theorem m_ctorSX {Wt : State} {locs : List Loc} {cells slots : Nat} (X : Stand p l e R s m args below meth c Wt locs cells slots) (hexec : p.tables.exec = Jvm.exec) (htr : e.platform.stackTraces = false) {own cls : String} {names : List String} {ic : Nat}
    {ix : Nat} {rx : ByteArray} (x0 : decode rx 0 = .ok (.aload_n 0, 1)) (x1 : decode rx 1 = .ok (.aload_n 1, 1)) (x2 : decode rx 2 = .ok (.invokespecial ix, 3)) (x5 : decode rx 5 = .ok (.return_, 1))
    (hown : s.vm.findClass own = some m.cls) (hcls : Bundle.fit cls = true) (hnames : ∀ n ∈ names, Bundle.fit n = true)
    (h : ∀ a ∈ Bundle.ownAtomsX own ic cls ix rx names, a.before args s = true)
    (hlocs : ∀ x ∈ locs, ∀ cell, s.heap[x.base]? = some cell → cell.vm.isStatics = false)
    {a : Addr} {cX : ClassId} {kX : Class} (hfoundX : s.vm.findClass cls = some cX) (hkX : s.vm.classes[cX]? = some kX) (hcell : Wt.heap[a]? = some (freshCell cX kX)) (hnew : s.heap.size ≤ a)
    {msg : Value} (hmsg : msg.isRef = true)
    {g : JFrame} (hg : g.method = m) (hsize : g.locals.size = c.maxLocals) (hlocked : g.locked = none) (hentered : g.entered = []) {rest : List Value} (hstack : g.stack = msg :: .ref a :: .ref a :: rest)
    (hd6 : decode c.code g.pc = .ok (.invokespecial ic, 3)) (hd9 : decode c.code (g.pc + 3) = .ok (.athrow, 1)) (hout : ∀ x ∈ c.exceptionTable.toList, covers x (g.pc + 3) = false)
    (hRframes : names.length + 3 < R.frames) (hRlocals : 2 * g.monitorRoom + ((Value.ref a :: rest).map fun v => v.category).sum + (13 * (names.length + 1) + 42) ≤ R.locals) (hlocks : meth.locks = false) :
    ∃ U : State, Steps p.tables e below (Wt.setTop g) U ∧ U.status = .running ∧ Ended U below (.threw a) ∧ s.WarmedH U.vm ∧ s.sameButNew ({ U with vm := s.vm } : State) locs cells slots ∧
      ∃ ce, U.heap[a]? = some ce ∧ ce.cls = cX ∧ ce.vm = .none := by
  have howns : e.platform.frameOwnsMonitors = true := by rw [X.admits.platform]
  have hfin : e.platform.finalization = false := by rw [X.admits.platform]
  have hpl : e.platform.magicAccessors = ({} : Platform).magicAccessors := by rw [X.admits.platform]
  have a' : ∀ x, x ∈ Bundle.ownAtomsX own ic cls ix rx names → x.holds args s none s [] = true := fun x hx => h x hx
  obtain ⟨T, Z0, L, -, Y⟩ := ThrowableC.of_atoms (args := args) howns hfin hpl (fun x hx => h x (by simp [Bundle.ownAtomsX, hx]))
  obtain ⟨Z, M, LZ, LM, hnZ⟩ := Init0T.ofS_atoms (args := args) hpl L Y (fun x hx => h x (by simp [Bundle.ownAtomsX, hx]))
  obtain ⟨P1, Ps, hlen, L1, hL, hP1m, hlink1, hlink⟩ := Bundle.chainSX (args := args) hpl hnZ x0 x1 x2 x5 names cls hcls hnames (fun x hx => h x (by simp [Bundle.ownAtomsX, hx]))
  have hfound : s.vm.findClass cls = some P1.m.cls := findClass_of_methodNamed hP1m
  cases Option.some.inj (hfoundX.symm.trans hfound)
  obtain ⟨c1, kX', hc1, hk, hord, -, -, hn6⟩ := Cond.instantiable_spec (a' (.instantiable cls 6) (by simp [Bundle.ownAtomsX]))
  cases Option.some.inj (hc1.symm.trans hfound)
  cases Option.some.inj (hkX.symm.trans hk)
  have hsel0 : selectMethod e.platform s.vm P1.m.cls T.fill0 = .method T.fill0 := by
    obtain ⟨c2, r2, m2, q1, q2, q3, q4, -⟩ := Cond.selects_spec (a' (.selects cls Bundle.tFill0 Bundle.tFill0) (by simp [Bundle.ownAtomsX]))
    cases Option.some.inj (q1.symm.trans hfound)
    cases Option.some.inj (q2.symm.trans (State.methodFound?_of_named Y.fill0 (by decide)))
    cases Option.some.inj (q3.symm.trans Y.fill0)
    rw [Launch.admits_selectMethod X.admits]; exact q4
  have hselF : selectMethod e.platform s.vm P1.m.cls T.fill = .method T.fill := by
    obtain ⟨c2, r2, m2, q1, q2, q3, q4, -⟩ := Cond.selects_spec (a' (.selects cls Bundle.tFill Bundle.tFill) (by simp [Bundle.ownAtomsX]))
    cases Option.some.inj (q1.symm.trans hfound)
    cases Option.some.inj (q2.symm.trans (State.methodFound?_of_named Y.fill (by decide)))
    cases Option.some.inj (q3.symm.trans Y.fill)
    rw [Launch.admits_selectMethod X.admits]; exact q4
  obtain ⟨cellS0, hcS0, hiss⟩ := Y.statics
  obtain ⟨u0, hu0⟩ := Cond.staticRefV Y.unassigned L.unassignedStatic L.statics hcS0 hiss (a' (.isRef (.static Bundle.tN "UNASSIGNED_STACK" Bundle.steD)) (by simp [Bundle.ownAtomsX]))
  obtain ⟨sen, hsen⟩ := Cond.staticRefV Y.sentinel L.sentinelStatic L.statics hcS0 hiss (a' (.isRef (.static Bundle.tN "SUPPRESSED_SENTINEL" Bundle.listD)) (by simp [Bundle.ownAtomsX]))
  obtain ⟨ci198, i198, fB, hk198, hg198, ha198, hsB, -, hnB, htB, hffB⟩ := Cond.ownField (t := .object "java/lang/Object") Y.found L.cls (by decide +kernel) (a' (.fieldLink Bundle.tN 198 Bundle.tN "backtrace" "Ljava/lang/Object;") (by simp [Bundle.ownAtomsX])) (a' (.lays Bundle.tN Bundle.tN "backtrace" "Ljava/lang/Object;") (by simp [Bundle.ownAtomsX])) e.platform hpl
  obtain ⟨cellS, hcS', heS, -, hkeep⟩ := X.same.2.2.2.2.2 T.aS cellS0 hcS0
  have hcellS : Wt.heap[T.aS]? = some cellS := hcS'
  have hout' : ∀ i, (⟨T.aS, i⟩ : Loc) ∉ locs := fun i hmem => by
    have := hlocs _ hmem cellS0 hcS0
    rw [hiss] at this; cases this
  have hknownS : cellS.vm ≠ .unknown := by
    rw [heS]; intro hu
    rw [show cellS0.vm = .unknown from hu] at hiss
    cases hiss
  have hneS : T.aS ≠ a := Nat.ne_of_lt (Nat.lt_of_lt_of_le (Array.getElem?_eq_some_iff.mp hcS0).1 hnew)
  obtain ⟨iM, hffM⟩ := Y.msg
  obtain ⟨tyC, dC, hdC, hdnC⟩ := Cond.laysAt hfound hk Y.cause (a' (.lays cls Bundle.tN "cause" "Ljava/lang/Throwable;") (by simp [Bundle.ownAtomsX]))
  obtain ⟨tyS, dS, hdS, hdnS⟩ := Cond.laysAt hfound hk Y.stack (a' (.lays cls Bundle.tN "stackTrace" Bundle.steD) (by simp [Bundle.ownAtomsX]))
  obtain ⟨tyP, dP, hdP, hdnP⟩ := Cond.laysAt hfound hk Y.supp (a' (.lays cls Bundle.tN "suppressedExceptions" Bundle.listD) (by simp [Bundle.ownAtomsX]))
  obtain ⟨tyM, dM, hdM, hdnM⟩ := Cond.laysAt hfound hk hffM (a' (.lays cls Bundle.tN "detailMessage" "Ljava/lang/String;") (by simp [Bundle.ownAtomsX]))
  obtain ⟨tyB, dB, hdB, hdnB⟩ := Cond.laysAt hfound hk hffB (a' (.lays cls Bundle.tN "backtrace" "Ljava/lang/Object;") (by simp [Bundle.ownAtomsX]))
  have bC := Cond.laysApart hdB hdC hdnB hdnC (by rw [hnB, Y.causeName]; decide)
  have bS := Cond.laysApart hdB hdS hdnB hdnS (by rw [hnB, Y.stackName]; decide)
  have bP := Cond.laysApart hdB hdP hdnB hdnP (by rw [hnB, Y.suppName]; decide)
  have hskip : SkipFacts T e.platform s (fun u => u) u0 ((preparedCellV T.toThrowableT (freshCell P1.m.cls kX) a u0 sen).withEntry Wt.cur) :=
    ⟨{ ci198 := ci198, i198 := i198, fBack := fB }, ⟨hk198, hg198, ha198, hsB⟩, by
      have := fresh_default (c := P1.m.cls) tyB
      rw [htB] at this
      simpa [preparedCellV, Cell.setSlot, Cell.withEntry, Array.getElem?_setIfInBounds, bC, bS, bP, bC.symm, bS.symm, bP.symm, defaultValue] using this, fun _ _ => rfl⟩
  obtain ⟨tm, methC, cdC, kC, vm₁, hnC, -, -, -, -, -, -, -, hW₁, st1⟩ := Steps.initColdS (tb := p.tables) (e := e) (below := below) (s := s) (U := Wt) X.here hexec X.warmed hpl hown (t := Bundle.initS cls) rfl rfl (Bundle.fit_spec hcls).2
    (a' (.methodLink own ic (Bundle.initS cls)) (by simp [Bundle.ownAtomsX])) (h (.instanceMethod (Bundle.initS cls)) (by cases names <;> simp [Bundle.ownAtomsX, Bundle.chainSAtomsX, Bundle.passSAtoms])) (bytes := rx) (maxL := 2) (h (.code (Bundle.initS cls) rx 2 none) (by cases names <;> simp [Bundle.ownAtomsX, Bundle.chainSAtomsX, Bundle.passSAtoms]))
    (f := g) hg (a := a) (msg := msg) (rest := .ref a :: rest) hstack hd6
  cases Option.some.inj (hnC.symm.trans hP1m)
  have X₁ := X.noted hW₁
  obtain ⟨vm₂, X₂, st2⟩ := X₁.ctorMessageOffV hexec (g := { g with stack := .ref a :: rest }) hg hsize T L Z LZ M LM (P1 :: Ps)
    (fun P hP => by rcases List.mem_cons.mp hP with rfl | hP; exact L1; exact hL P hP) ⟨hlink1, hlink⟩ (u0 := u0) (sen := sen) (self := a) hmsg (cell := freshCell P1.m.cls kX) (cellS := cellS)
    hcell (fun _ => by simp) (by simp) rfl rfl hsel0 hselF hcellS hneS hknownS (by rw [hkeep _ (hout' _)]; exact hu0) (by rw [hkeep _ (hout' _)]; exact hsen)
    (Takes.of_laid hk hord tyC (by rw [Y.causeType]; rfl)) (Takes.of_laid hk hord tyS (by rw [Y.stackType]; exact fits_refV_array _ u0)) (Takes.of_laid hk hord tyP (by rw [Y.suppType]; exact fits_refV_object _ sen))
    (Takes.of_laid hk hord tyM (by rw [Y.msgType]; exact fits_refV_object _ ⟨msg, hmsg⟩)) Y.objLocals hskip htr [] hd6
    (by simp only [List.length_cons, hlen]; omega) (by simp only [List.length_cons, hlen]; exact hRlocals)
  obtain ⟨hwalk, hrun, hended, hWU, hsame⟩ := X₂.athrowLeaves hexec (g := { g with stack := .ref a :: rest, pc := g.pc + 3 }) hg hlocked hentered hout (a := a) (rest := rest) rfl hd9
  have hlt : a < ((Wt.setVm vm₁).setVm vm₂).heap.size := (Array.getElem?_eq_some_iff.mp hcell).1
  have hU := heapAt_setCell_self (s := (Wt.setVm vm₁).setVm vm₂) (plainBareV T.toThrowableT (freshCell P1.m.cls kX) a u0 sen msg) hlt
  refine ⟨_, st1 _ (fun acts => ?_), hrun, hended, hWU, hsame.weaken (fun y hy hlt' => ?_) (Nat.le_refl _) (Nat.le_refl _), _, hU, rfl, rfl⟩
  · rw [doInvoke_state]
    exact st2 _ hwalk
  · rcases List.mem_append.mp hy with h1 | h1
    · exact h1
    · exfalso
      have hb : y.base = a := by
        simp only [List.mem_cons, List.not_mem_nil, or_false] at h1
        rcases h1 with rfl | rfl | rfl | rfl | rfl <;> rfl
      rw [hb] at hlt'
      exact Nat.not_lt.mpr hnew hlt'
theorem m_own {args : Array Value} {s : State} {L : List Cond} (h1 : ∀ w ∈ L.filter vx_no, w.before args s = true)
    (h2 : (Cond.isRef (.static Bundle.tN "UNASSIGNED_STACK" Bundle.steD)).before args s = true) (h3 : (Cond.isRef (.static Bundle.tN "SUPPRESSED_SENTINEL" Bundle.listD)).before args s = true)
    (h4 : (Cond.laysStatic Bundle.tN "UNASSIGNED_STACK" Bundle.steD).before args s = true) (h5 : (Cond.laysStatic Bundle.tN "SUPPRESSED_SENTINEL" Bundle.listD).before args s = true) : ∀ w ∈ L, w.before args s = true := vx_own h1 h2 h3 h4 h5
variable {H : Heap} {locs : List Loc} {cells slots : Nat} {free : Addr → Prop} {ls : Array Slot} {rest : List Value} {Qc : Array Value → State → Outcome → State → Prop} {XC : String → State → State → Prop}
theorem m_throwX {cc : ByteArray} {pc k : Nat} (hexec : p.tables.exec = Jvm.exec) (hb : c.code = cc) (hl : l.stackTraces = false) {own cls text : String} {names : List String} {ik is ic mc ms sa : Nat} {A : Nat → Prop}
    {ix : Nat} {rx : ByteArray} (x0 : decode rx 0 = .ok (.aload_n 0, 1)) (x1 : decode rx 1 = .ok (.aload_n 1, 1)) (x2 : decode rx 2 = .ok (.invokespecial ix, 3)) (x5 : decode rx 5 = .ok (.return_, 1))
    (hown : s.vm.findClass own = some m.cls) (hcls : Bundle.fit cls = true) (hnames : ∀ n ∈ names, Bundle.fit n = true)
    (hk : (Cond.classLink own ik cls).before args s = true) (hini : (Cond.initialized cls).before args s = true) (hstr : vk_R own is text sa s) (hat : ∀ w ∈ (Bundle.ownAtomsX own ic cls ix rx names).filter vx_no, w.before args s = true)
    (hgood : ∀ w ∈ Cond.classLink own ik cls :: Cond.initialized cls :: (Bundle.ownAtomsX own ic cls ix rx names).filter vx_no, vx_ot w = true)
    (hU : vx_Zq Bundle.tN "UNASSIGNED_STACK" Bundle.steD A s s.heap) (hN : vx_Zq Bundle.tN "SUPPRESSED_SENTINEL" Bundle.listD A s s.heap) (hS : va_S A s.heap H locs) (hsize : ls.size = c.maxLocals)
    (d0 : decode cc pc = .ok (.new ik, 3)) (d3 : decode cc (pc + 3) = .ok (.dup, 1)) (d4 : (decode cc (pc + 4) = .ok (.ldc is, 2) ∧ k = 2) ∨ (decode cc (pc + 4) = .ok (.ldc_w is, 3) ∧ k = 3)) (d6 : decode cc (pc + 4 + k) = .ok (.invokespecial ic, 3)) (d9 : decode cc (pc + 4 + k + 3) = .ok (.athrow, 1))
    (hout : ∀ x ∈ c.exceptionTable.toList, covers x (pc + 4 + k + 3) = false)
    (hRframes : names.length + 3 < R.frames) (hRlocals : (rest.map fun v => v.category).sum + (13 * (names.length + 1) + 43) ≤ R.locals) (hRcells : cells + 1 ≤ R.cells) (hRslots : slots + 6 ≤ R.slots) (hlocks : meth.locks = false)
    (hx : ∀ t : State, s.vm.Alike t.vm → H.size ≤ t.heap.size → (∀ q : Nat, q < H.size → t.heap[q]? = H[q]?) → XC cls s t)
    (hf : ∀ z ∈ locs, free z.base) (hc : cells + 1 ≤ mc) (hs : slots + 6 ≤ ms) :
    W p l e R s m args below meth c H locs cells slots (vx_MQ below Qc XC args s mc ms free) (F0 m pc ls rest) := by
  intro T hT X
  have htr : e.platform.stackTraces = false := (show e.platform.stackTraces = l.stackTraces by rw [X.admits.platform]).trans hl
  have Y := vx_rebase X (R' := { frames := R.frames, locals := R.locals, cells := 1, slots := 6 }) (Nat.le_refl _) (Nat.le_refl _) hRcells hRslots
  obtain ⟨s', hA⟩ : ∃ z, z = (T.setVm s.vm).setFrames (.invoking m args :: below) := ⟨_, rfl⟩
  rw [← hA] at Y
  have hvm : s'.vm = s.vm := by rw [hA]; rfl
  have hhp : s'.heap = H := by rw [hA]; exact hT
  have hW0 : s.WarmedH s'.vm := by rw [hvm]; exact State.WarmedH.refl s
  have hat' : ∀ w ∈ (Bundle.ownAtomsX own ic cls ix rx names).filter vx_no, w.before args s' = true := fun w hw => vx_ot_at hW0 hvm.symm (hgood w (List.mem_cons_of_mem _ (List.mem_cons_of_mem _ hw))) (hat w hw)
  have hk' : (Cond.classLink own ik cls).before args s' = true := vx_ot_at hW0 hvm.symm (hgood _ List.mem_cons_self) hk
  have hini' : (Cond.initialized cls).before args s' = true := vx_ot_at hW0 hvm.symm (hgood _ (List.mem_cons_of_mem _ List.mem_cons_self)) hini
  have hU' : vx_Zq Bundle.tN "UNASSIGNED_STACK" Bundle.steD A s' s'.heap := by rw [hhp]; exact vx_Zq.moved hW0.alike (hU.kept hS.2.1)
  have hN' : vx_Zq Bundle.tN "SUPPRESSED_SENTINEL" Bundle.listD A s' s'.heap := by rw [hhp]; exact vx_Zq.moved hW0.alike (hN.kept hS.2.1)
  have h : ∀ w ∈ Bundle.ownAtomsX own ic cls ix rx names, w.before args s' = true := m_own hat' (vx_isRefq hU'.1) (vx_isRefq hN'.1) hU'.2.word hN'.2.word
  have hown' : s'.vm.findClass own = some m.cls := by rw [hvm]; exact hown
  have hins : (Cond.instantiable cls 6).before args s' = true := h _ (by simp [Bundle.ownAtomsX])
  obtain ⟨vm₁, cX, kX, hfX, hkX, -, -, X₁, st1⟩ := Y.newCold hexec (own := own) (C := cls) (index := ik) (n := 6) hown' hk' hins hini'
    (g := F0 m pc ls rest) rfl (by rw [hb]; exact d0) (Nat.le_refl _) (Nat.le_refl _)
  generalize hT1 : (T.setVm vm₁).pushCell { cls := cX, slots := kX.instanceTypes.map defaultValue, vm := .none } = T1 at X₁ st1
  have hcat : (Value.ref T.heap.size).category = 1 := rfl
  have hcellA : T1.heap[T.heap.size]? = some (freshCell cX kX) := by rw [← hT1]; exact State.heap_pushCell_size _ _
  have d3' : decode c.code (pc + 3) = .ok (.dup, 1) := by rw [hb]; exact d3
  have hstr' : vk_R own is text sa s' := vk_R.warm hW0 hstr
  obtain ⟨U, hsteps, hrun, hend, hW, hsame, ce, hce, hOc, hOv⟩ := m_ctorSX X₁ hexec htr (own := own) (cls := cls) (names := names) (ic := ic) x0 x1 x2 x5 hown' hcls hnames h (fun x hx => nomatch hx) hfX hkX hcellA (by rw [hhp, hT]; exact Nat.le_refl _) (msg := .ref sa) rfl
    (g := { method := m, pc := pc + 4 + k, locals := ls, stack := .ref sa :: .ref T.heap.size :: .ref T.heap.size :: rest, locked := none }) rfl hsize rfl rfl (rest := rest) rfl
    (by rw [hb]; exact d6) (by rw [hb]; exact d9) hout hRframes (by simp only [List.map_cons, List.sum_cons, hcat]; omega) hlocks
  obtain ⟨f1, f2⟩ := vx_frame hsame
  rw [hhp] at f1 f2
  have hWs : s.WarmedH U.vm := State.WarmedH.trans hW0 hW
  have hcl : s.vm.findClass cls = some ce.cls := by
    rw [hOc, ← hvm]
    exact hfX
  have hall : s.sameButNew ({ U with vm := s.vm } : State) locs mc ms := by
    subst hA
    obtain ⟨e1, e2⟩ := hsame
    rw [State.setFrames_setFrames] at e1
    have h2 : (T.setVm s.vm).sameButNew ({ U with vm := s.vm } : State) [] (0 + 1) (0 + 6) := ⟨e1, e2⟩
    have h3 := X.same.trans h2
    rw [List.append_nil] at h3
    exact h3.mono hc hs
  refine ⟨U, ?_, .threw T.heap.size, hrun, hend, Or.inr ⟨T.heap.size, rfl, cls, ce, locs, hx U hWs.alike f1 (fun q hq => f2 q hq (fun z hz => nomatch hz)), hce, hOv, hcl, hWs, hall, hf⟩⟩
  refine st1 _ ?_
  show Steps p.tables e below (T1.setTop { method := m, pc := pc + 3, locals := ls, stack := .ref T.heap.size :: rest, locked := none }) _
  jvm_step X₁.here [X₁.here.top, hexec, d3', Value.category]
  rcases d4 with ⟨d4, rfl⟩ | ⟨d4, rfl⟩
  · have d4' : decode c.code (pc + 4) = .ok (.ldc is, 2) := by rw [hb]; exact d4
    exact X₁.ldcString hexec (own := own) (text := text) (index := is) (a := sa) hown' hstr'.1 hstr'.2
      (g := { method := m, pc := pc + 4, locals := ls, stack := .ref T.heap.size :: .ref T.heap.size :: rest, locked := none }) rfl d4' _ hsteps
  · have d4' : decode c.code (pc + 4) = .ok (.ldc_w is, 3) := by rw [hb]; exact d4
    exact X₁.ldcStringW hexec (own := own) (text := text) (index := is) (a := sa) hown' hstr'.1 hstr'.2
      (g := { method := m, pc := pc + 4, locals := ls, stack := .ref T.heap.size :: .ref T.heap.size :: rest, locked := none }) rfl d4' _ hsteps
end MX
/-! ===== its words ===== -/
def mix (e : Nat) : Nat := match e with
  | 3 => 13
  | _ => 7
def mrx (e : Nat) : ByteArray := match e with
  | 3 => ⟨#[0x2a, 0x2b, 0xb7, 0x00, 0x0d, 0xb1]⟩
  | _ => Bundle.six
def mxa (e : Nat) : List Jvm.Cond := (Bundle.ownAtomsX (mR 11) (mic e) (mEn e) (mix e) (mrx e) mEs).filter vx_no
def mxck (e : Nat) : Bool := Nat.beq (mxa e).length (mp_xa e).length && ((mxa e).zip (mp_xa e)).all (fun q => vx_ot q.1 && (bif Nat.beq q.2 0 then decide (q.1 ∈ mNW) else mG1 q.2 q.1)) && Bundle.fit (mEn e)
  && decide (decode (mrx e) 0 = .ok (.aload_n 0, 1)) && decide (decode (mrx e) 1 = .ok (.aload_n 1, 1)) && decide (decode (mrx e) 2 = .ok (.invokespecial (mix e), 3)) && decide (decode (mrx e) 5 = .ok (.return_, 1))
theorem mxck_ok : (List.range 4).all mxck = true := by decide +kernel
theorem mEs_fit : ∀ n ∈ mEs, Bundle.fit n = true := by decide +kernel
theorem mEL_ok : (List.range 16).all (fun o => (mEL o).all (fun e => mG1 e.2.2 (.classLink (mR o) e.1 (mEn e.2.1)))) = true := by decide +kernel
theorem mXL_ok : (List.range 16).all (fun o => (mXL o).all (fun e => Nat.beq o 11 && Nat.blt e.2.2.2 4 && Nat.beq e.1 (mik e.2.2.2) && Nat.beq e.2.2.1 (mic e.2.2.2) && (mEL 11).any (fun z => Nat.beq z.1 e.1 && Nat.beq z.2.1 e.2.2.2) && mXTL.any (fun z => Nat.beq z.1 11 && Nat.beq z.2.1 e.2.1))) = true := by decide +kernel
theorem mzip_in {A B : Type} : ∀ (l : List A) (r : List B), l.length = r.length → ∀ w ∈ l, ∃ p, (w, p) ∈ l.zip r
  | [], _, _, w, h => absurd h (by simp)
  | _ :: _, [], h, _, _ => absurd h (by simp)
  | a :: l, b :: r, h, w, hw => by
    rcases List.mem_cons.mp hw with rfl | hw
    · exact ⟨b, by simp⟩
    · obtain ⟨p, hp⟩ := mzip_in l r (by simpa using h) w hw
      exact ⟨p, by simp [hp]⟩
theorem mxa_in {e : Nat} (he : e < 4) : (∀ w ∈ mxa e, vx_ot w = true ∧ (w ∈ mNW ∨ w ∈ GW)) ∧ Bundle.fit (mEn e) = true ∧ decode (mrx e) 0 = .ok (.aload_n 0, 1) ∧ decode (mrx e) 1 = .ok (.aload_n 1, 1) ∧ decode (mrx e) 2 = .ok (.invokespecial (mix e), 3) ∧ decode (mrx e) 5 = .ok (.return_, 1) := by
  have h := List.all_eq_true.mp mxck_ok e (List.mem_range.mpr he)
  simp only [mxck, Bool.and_eq_true, decide_eq_true_eq] at h
  obtain ⟨⟨⟨⟨⟨⟨h1, h2⟩, h3⟩, h4⟩, h5⟩, h6⟩, h7⟩ := h
  refine ⟨fun w hw => ?_, h3, h4, h5, h6, h7⟩
  obtain ⟨q, hq⟩ := mzip_in _ _ (Nat.eq_of_beq_eq_true h1) w hw
  have h8 := List.all_eq_true.mp h2 _ hq
  simp only [Bool.and_eq_true] at h8
  refine ⟨h8.1, ?_⟩
  have h9 := h8.2
  cases hc : Nat.beq q 0 with
  | true => rw [hc] at h9; exact Or.inl (of_decide_eq_true h9)
  | false => rw [hc] at h9; exact Or.inr (mG1_in h9)
/-! ===== a callee's contract out of the small machine ===== -/
theorem mown_ok : (List.range 341).all (fun j => Nat.blt (mown j) 16) = true := by decide +kernel
theorem mown_lt {j : Nat} (h : j < 341) : mown j < 16 := by
  have h1 := List.all_eq_true.mp mown_ok j (List.mem_range.mpr h)
  simpa only [Nat.blt_eq] using h1
theorem mdec_ok {j pc : Nat} {r : Instr × Nat} (h : mdec j pc = some r) : decode (mb j) pc = .ok r := by
  unfold mdec at h
  split at h
  · rename_i q hq
    cases h
    exact hq
  · cases h
theorem mthr_out {j o pc e : Nat} (h : mthr j o pc e = true) : ∃ ik is ic k, decode (mb j) pc = .ok (.new ik, 3) ∧ decode (mb j) (pc + 3) = .ok (.dup, 1) ∧ ((decode (mb j) (pc + 4) = .ok (.ldc is, 2) ∧ k = 2) ∨ (decode (mb j) (pc + 4) = .ok (.ldc_w is, 3) ∧ k = 3))
    ∧ decode (mb j) (pc + 4 + k) = .ok (.invokespecial ic, 3) ∧ decode (mb j) (pc + 4 + k + 3) = .ok (.athrow, 1) ∧ (ik, is, ic, e) ∈ mXL o := by
  unfold mthr at h
  split at h
  · rename_i ik is h0 h3 h4
    split at h
    · rename_i ic h6 h9
      exact ⟨ik, is, ic, 2, mdec_ok h0, mdec_ok h3, Or.inl ⟨mdec_ok h4, rfl⟩, mdec_ok h6, mdec_ok h9, List.contains_iff_mem.mp h⟩
    · cases h
  · rename_i ik is h0 h3 h4
    split at h
    · rename_i ic h6 h9
      exact ⟨ik, is, ic, 3, mdec_ok h0, mdec_ok h3, Or.inr ⟨mdec_ok h4, rfl⟩, mdec_ok h6, mdec_ok h9, List.contains_iff_mem.mp h⟩
    · cases h
  · cases h
theorem mexc4 : (List.range 4).all (fun e => mp_exc.any (fun z => mG1 z.2 (.initialized (mEn e)))) = true := by decide +kernel
section SJ
variable {p : Program} {l : Launch} {e : Env} {s : State} {mid : MethodId} {args : Array Value} {below : List Frame} {meth : Method} {c : Code}
variable {E : mE} {D : va_G} {tc : Int → ClassId} {O : mO} {j : Nat} {K : mK}
theorem m_thrw (h0 : 0 < j) (hj : j < 341) (hF : mFrame l E D tc O j p s mid args meth c) : mHthr p l e s mid args below meth c (vx_MQ below (mQc E D tc K) (mXc E D tc K) args s (mmc j) (mms j) (mAr E)) E D tc j K := by
  obtain ⟨hx, hb, hm, hr, hown, hGW, hlocks, hname, htab, hK, hO, hl⟩ := hF
  intro ex G d H locs cs ss pc ls S hk hrep hs hthr hh hroom hsz
  obtain ⟨ik, is, ic, k, d0, d3, d4, d6, d9, hXL⟩ := mthr_out hthr
  have h1 := m_all16 mXL_ok (mown_lt hj) hXL
  simp only [Bool.and_eq_true, Nat.blt_eq] at h1
  obtain ⟨⟨⟨⟨⟨h11, h4⟩, hik⟩, hic⟩, hEL⟩, hTL⟩ := h1
  have h11 := Nat.eq_of_beq_eq_true h11
  have hik := Nat.eq_of_beq_eq_true hik
  have hic := Nat.eq_of_beq_eq_true hic
  obtain ⟨z, hz, hz2⟩ := List.any_eq_true.mp hEL
  simp only [Bool.and_eq_true] at hz2
  have hz3 := m_all16 mEL_ok (o := 11) (by omega) hz
  rw [Nat.eq_of_beq_eq_true hz2.1, Nat.eq_of_beq_eq_true hz2.2] at hz3
  obtain ⟨y, hy, hy2⟩ := List.any_eq_true.mp hTL
  simp only [Bool.and_eq_true] at hy2
  obtain ⟨hO1, hO2, hO3, hO4, hO5, hO6, hO7, hO8, hO9, hO10, hO11, -⟩ := hO
  obtain ⟨sa, hsa⟩ := hO9 y hy
  rw [Nat.eq_of_beq_eq_true hy2.1, Nat.eq_of_beq_eq_true hy2.2] at hsa
  obtain ⟨hat, hfit, x0, x1, x2, x5⟩ := mxa_in h4
  have hexc : Jvm.Cond.initialized (mEn ex) ∈ GW := by
    obtain ⟨y9, -, hy9⟩ := List.any_eq_true.mp (List.all_eq_true.mp mexc4 ex (List.mem_range.mpr h4))
    exact mG1_in hy9
  have hgw : ∀ w ∈ GW, vx_ot w = true := fun w hw => by
    have := (List.mem_filter.mp hw).2
    simp [vx_ot, this]
  have htab : c.exceptionTable.toList = [] := by rw [htab h0, hh]; rfl
  rw [hik] at d0
  rw [hic] at d6
  have hcl : Jvm.Cond.classLink (mR 11) (mik ex) (mEn ex) ∈ GW := by rw [← hik]; exact mG1_in hz3
  exact m_throwX (own := mR 11) (cls := mEn ex) (names := mEs) (ik := mik ex) (is := is) (ic := mic ex) (ix := mix ex) (rx := mrx ex) hx hb hl x0 x1 x2 x5 (by rw [← h11]; exact hown) hfit mEs_fit (hGW _ hcl) (hGW _ hexc) hsa
    (fun w hw => by
      obtain ⟨hot, hw9⟩ := hat w hw
      rcases hw9 with hw9 | hw9
      · exact vx_ot_at (State.WarmedH.refl s) rfl hot (hO1 w hw9)
      · exact hGW w hw9)
    (fun w hw => by
      rcases List.mem_cons.mp hw with rfl | hw
      · exact hgw _ hcl
      · rcases List.mem_cons.mp hw with rfl | hw
        · exact hgw _ hexc
        · exact (hat w hw).1)
    hO7 hO8 hs (by rw [hm]; exact hsz) d0 d3 d4 d6 d9 (fun x hx => by rw [htab] at hx; cases hx) hroom.1
    (by
      have h5 := m_cats E S
      have h6 : mcats S + 82 ≤ (mRm j).locals := hroom.2.1
      have h7 : mEs.length = 2 := rfl
      rw [h5, h7]
      omega)
    hroom.2.2.1 hroom.2.2.2 hlocks
    (fun t hA h5 h6 => ⟨⟨ex, (G.1, G.2.1, -1), d, rfl, h4, hk, mRep_forget hrep h5 h6⟩, Nat.le_trans hs.1 h5, fun q hq hn => by rw [h6 q (Nat.lt_of_lt_of_le hq hs.1)]; exact hs.2.1 q hq hn⟩)
    hs.2.2 hroom.2.2.1 hroom.2.2.2
theorem m_contract (hl : l.stackTraces = false) (h0 : 0 < j) (hj : j < 341) {as : List mV} {G : mG} {d : mD} (hlay : Nat.ble (mlay as).length (mmaxL j) = true) (hsim : mSim l E D tc O j (ment j as G d) K) :
    vx_Met l (my j) (mws j) (mRm j) (mPc E D tc O as G d) (mQc E D tc K) (mXc E D tc K) (mmc j) (mms j) (mAr E) := by
  have hJ := mJ_of h0 hj
  unfold mJm at hJ
  simp only [Bool.and_eq_true, decide_eq_true_eq] at hJ
  obtain ⟨⟨⟨⟨⟨-, hplain⟩, -⟩, -⟩, hcls⟩, -⟩ := hJ
  have go : ∀ p e s m args below meth c s₁, BodyLoose p l (my j) (headSpec (mws j) (mRm j)) (mb j) (mmaxL j) (mrt j) e s m args below meth c s₁ → c.maxLocals = mmaxL j → c.exceptionTable.toList = tableOf (mhh j) → mPc E D tc O as G d args s →
      W p l e (headSpec (mws j) (mRm j)).room s m args below meth c s.heap [] 0 0 (vx_MQ below (mQc E D tc K) (mXc E D tc K) args s (mmc j) (mms j) (mAr E)) (entryFrame m args (mmaxL j)) := by
    intro p e s m args below meth c s₁ B hml ht hP
    obtain ⟨rfl, hrep, hK, hO⟩ := hP
    have hts := atoms_spec (ws := mws j) B.pre
    have hF : mFrame l E D tc O j p s m (as.map (mval E)).toArray meth c := ⟨B.exec, B.bytes, hml, B.returns, by rw [← hcls]; exact findClass_of_methodNamed B.named, fun w hw => hts w (List.mem_cons_of_mem _ hw), B.notSynchronized, fun hn => (name_of_methodNamed B.named B.method).1.trans hn, fun _ => ht, hK, hO, hl⟩
    rw [lg_entry_eq]
    exact hsim hj p e s m _ below meth c _ hF ⟨m_retw B.exec B.bytes B.returns B.notSynchronized, m_thrw h0 hj hF, m_catw (fun hh => by rw [ht, hh]; rfl) B.notSynchronized⟩ s.heap [] _ (mLoc_entry hlay) hrep va_S.rf (Nat.zero_le _) (Nat.zero_le _)
  cases hh : mhh j with
  | nil =>
    refine vx_ofW (cc := mb j) (maxL := mmaxL j) (ret := mrt j) hplain (ws' := GW) (by unfold mws mcode; rw [hh]) (fun p e s m args below meth c s₁ B hml ht hP => go p e s m args below meth c s₁ B hml ?_ hP)
    rw [hh]
    exact List.eq_nil_iff_forall_not_mem.mpr (fun x hx => ht x hx)
  | cons a t =>
    have hw : mws j = Cond.codeWith (my j) (mb j) (mmaxL j) (mrt j) (a :: t) :: GW := by unfold mws mcode; rw [hh]
    refine vx_ofWH (cc := mb j) (maxL := mmaxL j) (ret := mrt j) (hh := a :: t) hplain (ws' := GW) hw (fun p e s m args below meth c s₁ B hml hP => go p e s m args below meth c s₁ B hml ?_ hP)
    rw [hh]
    exact vx_table (x := my j) B (atoms_spec (ws := mws j) B.pre _ (by rw [hw]; exact List.mem_cons_self))
end SJ
/-! ===== BEGIN a constructor that throws (launches without stack traces) ===== -/
section VXIA
variable {p : Program} {l : Launch} {e : Env} {R : Room} {s : State} {m : MethodId} {args : Array Value} {below : List Frame} {meth : Method} {c : Code} {T : State} {locs : List Loc} {cells slots : Nat}
theorem vx_callI (X : Stand p l e R s m args below meth c T locs cells slots) (hexec : p.tables.exec = Jvm.exec) {own : String} {index : Nat} {y : MethodName} {bytes : ByteArray} {maxL : Nat}
    (hown : s.vm.findClass own = some m.cls) (hy1 : y.name = "<init>") (hlink : (Cond.methodLink own index y).before args s = true) (hinst : (Cond.instanceMethod y).before args s = true)
    (hcode : (Cond.code y bytes maxL none).before args s = true) (hy : y.cls ≠ "java/lang/invoke/MethodHandle" ∧ y.cls ≠ "java/lang/invoke/VarHandle")
    {W9 : Nat} {Pre : Pt → Array Value → Prop} {Post : Pt → Array Value → Option Value → Pt → Prop} {PostX : Pt → Array Value → Addr → Pt → Prop} (hK : vx_Back l R p e below s args y 3 W9 Pre Post PostX)
    {g : JFrame} (hg : g.method = m) (hsize : g.locals.size = c.maxLocals) {a : Addr} {argsL rest : List Value} (hlen : ∀ sig, parseMethodDescriptor y.desc = some sig → argsL.length = sig.parameters.length)
    (hstack : g.stack = argsL.reverse ++ .ref a :: rest) (hW : 2 * g.monitorRoom + (rest.map fun v => v.category).sum ≤ W9) (hdg : decode c.code g.pc = .ok (.invokespecial index, 3))
    (hpre : ∀ vm₁, s.WarmedH vm₁ → Pre ⟨T.setVm vm₁, locs, cells, slots⟩ (Value.ref a :: argsL).toArray) :
    (∃ (v : Option Value) (vm₁ : Vm) (B : Pt), s.WarmedH vm₁ ∧ Stand p l e R s m args below meth c B.U B.locs B.cells B.slots ∧ Post ⟨T.setVm vm₁, locs, cells, slots⟩ (Value.ref a :: argsL).toArray v B ∧
      ∀ target, Steps p.tables e below (B.U.setTop { g with pc := g.pc + 3, stack := v.toList ++ rest }) target → Steps p.tables e below (T.setTop g) target) ∨
    (∃ (q : Addr) (vm₁ : Vm) (B : Pt), s.WarmedH vm₁ ∧ Stand p l e R s m args below meth c B.U B.locs B.cells B.slots ∧ PostX ⟨T.setVm vm₁, locs, cells, slots⟩ (Value.ref a :: argsL).toArray q B ∧
      Steps p.tables e below (T.setTop g) ((B.U.setTop { g with stack := rest }).pushFrame (.throwing q))) := by
  subst hg
  have hpl : e.platform.magicAccessors = ({} : Platform).magicAccessors := by rw [X.admits.platform]
  obtain ⟨mk, methM, cM, kP, vm₁, hnamed, hmethM, hcodeM, -, hlocalsM, -, hkP, -, hW₁, hstep₁⟩ := Steps.initColdArgs (e := e) X.here hexec X.warmed hpl hown hy1 hy hlink hinst hcode (f := g) rfl hlen hstack hdg
  have X₁ := X.noted hW₁
  rcases hK g.method meth c ⟨T.setVm vm₁, locs, cells, slots⟩ { g with stack := rest } (.invokespecial index) mk (Value.ref a :: argsL).toArray X₁ rfl hsize hdg hW (X₁.named hnamed) (hpre vm₁ X₁.warmed) with ⟨v, B, X', hpost, hsteps⟩ | ⟨q, B, X', hpost, hsteps⟩
  · exact Or.inl ⟨v, vm₁, B, X₁.warmed, X', hpost, fun target h => hstep₁ _ fun acts => by rw [doInvoke_state]; exact hsteps.trans h⟩
  · exact Or.inr ⟨q, vm₁, B, X₁.warmed, X', hpost, hstep₁ _ fun acts => by rw [doInvoke_state]; exact hsteps⟩
end VXIA
section VXIB
variable {p : Program} {l : Launch} {e : Env} {R : Room} {s : State} {m : MethodId} {args : Array Value} {below : List Frame} {meth : Method} {c : Code} {H : Heap} {locs : List Loc} {cells slots : Nat}
variable {y : MethodName} {bytes cc : ByteArray} {maxL nL mc ms n index : Nat} {ret : Option FieldType} {ws : List Cond} {rm : Room} {Pc : Array Value → State → Prop} {Qc : Array Value → State → Outcome → State → Prop} {XC : String → State → State → Prop} {free : Addr → Prop} {Ts : List Cond} {own C : String} {b : Addr} {As rest : List Value} {g : JFrame}
theorem vx_runI (S : CallFix p m c cc nL s args Ts own) (hM : vx_Met l y ws rm Pc Qc XC mc ms free) (cw : CallB R s args own index y bytes maxL none ws rm mc ms n ∧ y.name = "<init>" ∧ (Cond.instanceMethod y).before args s = true) (hp : PreS s H Pc (.ref b :: As))
    (hg : g.method = m) (hn : As.length = n) (hsize : g.locals.size = nL) (hstack : g.stack = As.reverse ++ .ref b :: rest) (hW : 2 * g.monitorRoom + (rest.map fun v => v.category).sum ≤ 8) (hdg : decode cc g.pc = .ok (.invokespecial index, 3)) (hf : cells + mc ≤ R.cells ∧ slots + ms ≤ R.slots) :
    vx_Run p l e R s m args below meth c H locs cells slots mc ms g rest (Qc (Value.ref b :: As).toArray) XC free := by
  have hK : vx_Back l R p e below s args y 3 8 (PreOf R mc ms Pc) (PostOf Qc mc ms free) (vx_Post XC mc ms free) := vx_callBack cw.1 hM hp.1
  obtain ⟨⟨-, -, -, -, -, -, hcode, -, hy, hlen, hl⟩, hy1, hin⟩ := cw
  obtain ⟨hx, hb, hml, ho, -⟩ := S
  have hPc := hp.2
  intro T hT X
  rcases vx_callI X hx (bytes := bytes) (maxL := maxL) ho hy1 hl hin hcode hy hK hg (hsize.trans hml.symm) (a := b) (argsL := As) (rest := rest) (fun sig h => hn.trans (hlen sig h)) hstack hW (by rw [hb]; exact hdg)
    (fun vm₁ hW₁ => ⟨hf.1, hf.2, hPc (T.setVm vm₁) hT hW₁⟩) with ⟨v, vm₁, ⟨U', l2, c2, s2⟩, hW₁, X', ⟨g', mk, t, L, e1, e2, hq, h1, hL, h2, h3⟩, st⟩ | ⟨q, vm₁, ⟨U', l2, c2, s2⟩, hW₁, X', ⟨g', mk, t, L, E, ce, e1, e2, hq, hce, hcv, hcl, h1, hL, h2, h3⟩, st⟩
  · dsimp only [Pt.U, Pt.locs, Pt.cells, Pt.slots] at X' e1 e2 h1 h2 h3 st
    subst h1; subst h2; subst h3
    exact Or.inl ⟨v, (T.setVm vm₁).calling g' mk (Value.ref b :: As).toArray, t, U', L, hT, X', hL, e1, e2, hq, st⟩
  · dsimp only [Pt.U, Pt.locs, Pt.cells, Pt.slots] at X' e1 e2 h1 h2 h3 st hcl
    subst h1; subst h2; subst h3
    exact Or.inr ⟨q, (T.setVm vm₁).calling g' mk (Value.ref b :: As).toArray, t, U', L, E, ce, hT, X', hL, e1, e2, hq, hce, hcv, vx_cls hW₁ hcl, st⟩
end VXIB
/-! ===== END ===== -/
/-! ===== BEGIN a private constructor of a nest mate that throws ===== -/
section VXIC
variable {p : Program} {l : Launch} {e : Env} {R : Room} {s : State} {m : MethodId} {args : Array Value} {below : List Frame} {meth : Method} {c : Code} {T : State} {locs : List Loc} {cells slots : Nat}
theorem vx_callIN (X : Stand p l e R s m args below meth c T locs cells slots) (hexec : p.tables.exec = Jvm.exec) {own : String} {index : Nat} {host : String} {y : MethodName} {bytes : ByteArray} {maxL : Nat}
    (hown : s.vm.findClass own = some m.cls) (hy1 : y.name = "<init>") (hlink : (Cond.methodLinkNest own index y host).before args s = true) (hinst : (Cond.instanceMethod y).before args s = true)
    (hcode : (Cond.code y bytes maxL none).before args s = true) (hy : y.cls ≠ "java/lang/invoke/MethodHandle" ∧ y.cls ≠ "java/lang/invoke/VarHandle")
    {W9 : Nat} {Pre : Pt → Array Value → Prop} {Post : Pt → Array Value → Option Value → Pt → Prop} {PostX : Pt → Array Value → Addr → Pt → Prop} (hK : vx_Back l R p e below s args y 3 W9 Pre Post PostX)
    {g : JFrame} (hg : g.method = m) (hsize : g.locals.size = c.maxLocals) {a : Addr} {argsL rest : List Value} (hlen : ∀ sig, parseMethodDescriptor y.desc = some sig → argsL.length = sig.parameters.length)
    (hstack : g.stack = argsL.reverse ++ .ref a :: rest) (hW : 2 * g.monitorRoom + (rest.map fun v => v.category).sum ≤ W9) (hdg : decode c.code g.pc = .ok (.invokespecial index, 3))
    (hpre : ∀ vm₁, s.WarmedH vm₁ → Pre ⟨T.setVm vm₁, locs, cells, slots⟩ (Value.ref a :: argsL).toArray) :
    (∃ (v : Option Value) (vm₁ : Vm) (B : Pt), s.WarmedH vm₁ ∧ Stand p l e R s m args below meth c B.U B.locs B.cells B.slots ∧ Post ⟨T.setVm vm₁, locs, cells, slots⟩ (Value.ref a :: argsL).toArray v B ∧
      ∀ target, Steps p.tables e below (B.U.setTop { g with pc := g.pc + 3, stack := v.toList ++ rest }) target → Steps p.tables e below (T.setTop g) target) ∨
    (∃ (q : Addr) (vm₁ : Vm) (B : Pt), s.WarmedH vm₁ ∧ Stand p l e R s m args below meth c B.U B.locs B.cells B.slots ∧ PostX ⟨T.setVm vm₁, locs, cells, slots⟩ (Value.ref a :: argsL).toArray q B ∧
      Steps p.tables e below (T.setTop g) ((B.U.setTop { g with stack := rest }).pushFrame (.throwing q))) := by
  subst hg
  have hpl : e.platform.magicAccessors = ({} : Platform).magicAccessors := by rw [X.admits.platform]
  obtain ⟨mk, methM, cM, kP, vm₁, hnamed, hmethM, hcodeM, -, hlocalsM, -, hkP, -, hW₁, hstep₁⟩ := Steps.initColdArgsNest (e := e) X.here hexec X.warmed hpl hown hy1 hy hlink hinst hcode (f := g) rfl hlen hstack hdg
  have X₁ := X.noted hW₁
  rcases hK g.method meth c ⟨T.setVm vm₁, locs, cells, slots⟩ { g with stack := rest } (.invokespecial index) mk (Value.ref a :: argsL).toArray X₁ rfl hsize hdg hW (X₁.named hnamed) (hpre vm₁ X₁.warmed) with ⟨v, B, X', hpost, hsteps⟩ | ⟨q, B, X', hpost, hsteps⟩
  · exact Or.inl ⟨v, vm₁, B, X₁.warmed, X', hpost, fun target h => hstep₁ _ fun acts => by rw [doInvoke_state]; exact hsteps.trans h⟩
  · exact Or.inr ⟨q, vm₁, B, X₁.warmed, X', hpost, hstep₁ _ fun acts => by rw [doInvoke_state]; exact hsteps⟩
end VXIC
section VXID
variable {p : Program} {l : Launch} {e : Env} {R : Room} {s : State} {m : MethodId} {args : Array Value} {below : List Frame} {meth : Method} {c : Code} {H : Heap} {locs : List Loc} {cells slots : Nat}
theorem vx_runIN {y : MethodName} {bytes cc : ByteArray} {maxL nL mc ms n index : Nat} {ws : List Cond} {rm : Room} {Pc : Array Value → State → Prop} {Qc : Array Value → State → Outcome → State → Prop} {XC : String → State → State → Prop} {free : Addr → Prop} {Ts : List Cond} {own host : String} {b : Addr} {As rest : List Value} {g : JFrame}
    (S : CallFix p m c cc nL s args Ts own) (hM : vx_Met l y ws rm Pc Qc XC mc ms free) (cw : va_CN R s args own index y host bytes maxL none ws rm mc ms n ∧ y.name = "<init>" ∧ (Cond.instanceMethod y).before args s = true) (hp : PreS s H Pc (.ref b :: As))
    (hg : g.method = m) (hn : As.length = n) (hsize : g.locals.size = nL) (hstack : g.stack = As.reverse ++ .ref b :: rest) (hW : 2 * g.monitorRoom + (rest.map fun v => v.category).sum ≤ 8) (hdg : decode cc g.pc = .ok (.invokespecial index, 3)) (hf : cells + mc ≤ R.cells ∧ slots + ms ≤ R.slots) :
    vx_Run p l e R s m args below meth c H locs cells slots mc ms g rest (Qc (Value.ref b :: As).toArray) XC free := by
  obtain ⟨⟨⟨hrc, hrs, hfr, hlo, hws, hcw⟩, hcode, hini, hy, hlen, hl⟩, hx1, hx2⟩ := cw
  have hK : vx_Back l R p e below s args y 3 8 (PreOf R mc ms Pc) (PostOf Qc mc ms free) (vx_Post XC mc ms free) := vx_back (bytes := bytes) (maxL := maxL) (ret := none) hM hp.1 hrc hrs hfr hlo hws hcw (fun a' U hW => word_at hW (Or.inl (by first | rfl | simp [Cond.onTables, Cond.keeps, Cond.steady])) hini)
  obtain ⟨hx, hb, hml, ho, -⟩ := S
  have hPc := hp.2
  intro T hT X
  rcases vx_callIN X hx (bytes := bytes) (maxL := maxL) ho hx1 hl hx2 hcode hy hK hg (hsize.trans hml.symm) (a := b) (argsL := As) (rest := rest) (fun sig h => hn.trans (hlen sig h)) hstack hW (by rw [hb]; exact hdg)
    (fun vm₁ hW₁ => ⟨hf.1, hf.2, hPc (T.setVm vm₁) hT hW₁⟩) with ⟨v, vm₁, ⟨U', l2, c2, s2⟩, hW₁, X', ⟨g', mk, t, L, e1, e2, hq, h1, hL, h2, h3⟩, st⟩ | ⟨q, vm₁, ⟨U', l2, c2, s2⟩, hW₁, X', ⟨g', mk, t, L, E, ce, e1, e2, hq, hce, hcv, hcl, h1, hL, h2, h3⟩, st⟩
  · dsimp only [Pt.U, Pt.locs, Pt.cells, Pt.slots] at X' e1 e2 h1 h2 h3 st
    subst h1; subst h2; subst h3
    exact Or.inl ⟨v, (T.setVm vm₁).calling g' mk (Value.ref b :: As).toArray, t, U', L, hT, X', hL, e1, e2, hq, st⟩
  · dsimp only [Pt.U, Pt.locs, Pt.cells, Pt.slots] at X' e1 e2 h1 h2 h3 st hcl
    subst h1; subst h2; subst h3
    exact Or.inr ⟨q, (T.setVm vm₁).calling g' mk (Value.ref b :: As).toArray, t, U', L, E, ce, hT, X', hL, e1, e2, hq, hce, hcv, vx_cls hW₁ hcl, st⟩
end VXID
/-! ===== END ===== -/
/-! ===== calls ===== -/
theorem mpop_out : ∀ (n : Nat) (S a0 as S' : List mV), mpop n S a0 = some (as, S') → ∃ ts, as = ts ++ a0 ∧ S = ts.reverse ++ S' ∧ ts.length = n
  | 0, S, a0, as, S', h => by
    simp only [mpop, Option.some.injEq, Prod.mk.injEq] at h
    exact ⟨[], by simp [h.1], by simp [h.2], rfl⟩
  | n + 1, [], a0, as, S', h => by cases h
  | n + 1, v :: S, a0, as, S', h => by
    obtain ⟨ts, h1, h2, h3⟩ := mpop_out n S (v :: a0) as S' h
    exact ⟨ts ++ [v], by simp [h1], by simp [h2], by simp [h3]⟩
theorem mML_rng : (List.range 16).all (fun o => (mML o).all (fun e => Nat.blt 0 e.2.1 && Nat.blt e.2.1 341)) = true := by decide +kernel
theorem mNL_rng : (List.range 16).all (fun o => (mNL o).all (fun e => Nat.blt 0 e.2.1 && Nat.blt e.2.1 341)) = true := by decide +kernel
theorem mkhh_ok : (List.range 341).all (fun j => Nat.beq (mkd j) 0 || (mhh j).isEmpty) = true := by decide +kernel
theorem mkhh {j : Nat} (hj : j < 341) (h : mkd j ≠ 0) : mhh j = [] := by
  have h1 := List.all_eq_true.mp mkhh_ok j (List.mem_range.mpr hj)
  rw [Bool.or_eq_true] at h1
  rcases h1 with h1 | h1
  · exact absurd (Nat.eq_of_beq_eq_true h1) h
  · exact List.isEmpty_iff.mp h1
theorem mML_use {o i g : Nat} (ho : o < 16) (h : mlk (mML o) i = some g) : Jvm.Cond.methodLink (mR o) i (my g) ∈ GW ∧ 0 < g ∧ g < 341 := by
  obtain ⟨p, hp⟩ := mlk_in h
  have h1 := m_all16 mML_ok ho hp
  have h2 := m_all16 mML_rng ho hp
  simp only [Bool.and_eq_true, Nat.blt_eq] at h2
  exact ⟨mG1_in h1, h2.1, h2.2⟩
theorem mNL_use {o i g : Nat} (ho : o < 16) (h : mlk (mNL o) i = some g) : (∃ e ∈ mNL o, e.1 = i ∧ e.2.1 = g) ∧ 0 < g ∧ g < 341 := by
  obtain ⟨p, hp⟩ := mlk_in h
  have h2 := m_all16 mNL_rng ho hp
  simp only [Bool.and_eq_true, Nat.blt_eq] at h2
  exact ⟨⟨_, hp, rfl, rfl⟩, h2.1, h2.2⟩
theorem m_good {w : Jvm.Cond} (h : w ∈ GW) : w ∈ GW ∧ ((w.onTables && w.keeps) = true ∨ ∃ ty, w = .arrayClass ty) := ⟨h, good_of_word (List.mem_filter.mp h).2⟩
theorem mws_in {j : Nat} (h0 : 0 < j) (hj : j < 341) : ∀ w ∈ mws j, w ∈ GW := by
  intro w hw
  rcases List.mem_cons.mp hw with rfl | hw
  · exact mcode_in h0 hj
  · exact hw
theorem mJ_all {j : Nat} (h0 : 0 < j) (hj : j < 341) : Jvm.Cond.initialized (my j).cls ∈ GW ∧ (my j).cls ≠ "java/lang/invoke/MethodHandle" ∧ (my j).cls ≠ "java/lang/invoke/VarHandle" ∧ (my j).cls = mR (mown j)
    ∧ (mkd j = 0 → Jvm.Cond.static (my j) ∈ GW ∧ (parseMethodDescriptor (my j).desc).map (fun d => d.parameters.length) = some (mnp j))
    ∧ (mkd j ≠ 0 → Jvm.Cond.instanceMethod (my j) ∈ GW ∧ (parseMethodDescriptor (my j).desc).map (fun d => d.parameters.length + 1) = some (mnp j) ∧ (my j).cls = mCn (mcl j) ∧ mcl j < 12)
    ∧ (mkd j = 1 → Jvm.Cond.selects (my j).cls (my j) (my j) ∈ GW) ∧ (mkd j ≠ 0 → mkd j ≠ 1 → (my j).name = "<init>" ∧ mret j = 0) := by
  have hJ := mJ_of h0 hj
  unfold mJm at hJ
  simp only [Bool.and_eq_true, bne_iff_ne, decide_eq_true_eq] at hJ
  obtain ⟨⟨⟨⟨⟨h1, h2⟩, h3⟩, h4⟩, h5⟩, h6⟩ := hJ
  refine ⟨mG1_in h1, h3, h4, h5, ?_, ?_, ?_, ?_⟩
  · intro hk
    rw [hk] at h6
    simp only [Bool.and_eq_true, decide_eq_true_eq] at h6
    exact ⟨mG1_in h6.1, h6.2⟩
  · intro hk
    split at h6
    · exact absurd (by assumption) hk
    · simp only [Bool.and_eq_true, decide_eq_true_eq, Nat.blt_eq] at h6
      exact ⟨mG1_in h6.1.1.1.1, h6.1.1.2, h6.1.2, h6.2⟩
    · simp only [Bool.and_eq_true, decide_eq_true_eq, Nat.blt_eq] at h6
      exact ⟨mG1_in h6.1.1.1.1.1, h6.1.1.1.2, h6.1.1.2, h6.1.2⟩
  · intro hk
    rw [hk] at h6
    simp only [Bool.and_eq_true, decide_eq_true_eq] at h6
    exact mG1_in h6.1.1.1.2
  · intro hk hk1
    split at h6
    · exact absurd (by assumption) hk
    · exact absurd (by assumption) hk1
    · simp only [Bool.and_eq_true, decide_eq_true_eq] at h6
      exact ⟨h6.1.1.1.1.2, Nat.eq_of_beq_eq_true h6.2⟩
theorem m_len1 {d : String} {n : Nat} (h : (parseMethodDescriptor d).map (fun d => d.parameters.length + 1) = some n) : (parseMethodDescriptor d).map (fun d => d.parameters.length) = some (n - 1) ∧ 0 < n := by
  cases hp : parseMethodDescriptor d with
  | none => rw [hp] at h; cases h
  | some q =>
    rw [hp] at h
    have h := Option.some.inj h
    simp only at h
    simp only [Option.map_some, Option.some.injEq]
    omega
theorem mcode_plain {j : Nat} (h : mhh j = []) : mws j = Jvm.Cond.code (my j) (mb j) (mmaxL j) (mrt j) :: GW := by
  unfold mws mcode
  rw [h]
theorem mcode_with {j : Nat} {a : Nat × Nat × Nat × Nat} {t : List (Nat × Nat × Nat × Nat)} (h : mhh j = a :: t) : mws j = Jvm.Cond.codeWith (my j) (mb j) (mmaxL j) (mrt j) (a :: t) :: GW := by
  unfold mws mcode
  rw [h]
theorem mrt0 {j : Nat} (h : mret j = 0) : mrt j = none := by
  unfold mrt
  rw [h]
  rfl
-- handlers of the wrappers
def mhcn (j q : Nat) (n : Int) : Bool := match mdec j q with
  | some (.iconst m, 1) => decide (m = n) && (match mdec j (q + 1) with
    | some (.ireturn, 1) => true
    | _ => false)
  | _ => false
def mhck (j pc e : Nat) : Bool := match mhnd j pc e with
  | none => true
  | some n => match (mhh j)[mhix j e]? with
    | none => false
    | some x => Nat.ble x.1 pc && Nat.blt pc x.2.1 && !Nat.beq x.2.2.2 0 && (mEL (mown j)).any (fun z => Nat.beq z.1 x.2.2.2 && Nat.beq z.2.1 e)
      && ((mhh j).take (mhix j e)).all (fun y => !Nat.beq y.2.2.2 0 && (mEL (mown j)).any (fun z => Nat.beq z.1 y.2.2.2 && !Nat.beq z.2.1 e && Nat.blt z.2.1 4))
      && (match mdec j x.2.2.1 with
        | some (.astore_n k, 1) => Nat.blt k (mmaxL j) && mhcn j (x.2.2.1 + 1) n
        | some (.astore k, 2) => Nat.blt k (mmaxL j) && mhcn j (x.2.2.1 + 2) n
        | _ => false)
theorem mhckT_ok : (List.range 341).all (fun j => bif mhas j then (List.range (mlen j)).all (fun pc => (List.range 4).all (fun e => mhck j pc e)) else true) = true := by decide +kernel
theorem mhck_ok {j pc e : Nat} (hj : j < 341) (hp : pc < mlen j) (he : e < 4) : mhck j pc e = true := by
  have h := List.all_eq_true.mp mhckT_ok j (List.mem_range.mpr hj)
  cases hc : mhas j with
  | true =>
    rw [hc] at h
    exact List.all_eq_true.mp (List.all_eq_true.mp h pc (List.mem_range.mpr hp)) e (List.mem_range.mpr he)
  | false =>
    have h2 : mhnd j pc e = none := by
      unfold mhnd
      rw [hc]
      rfl
    unfold mhck
    rw [h2]
def mp_jk : List Nat := [3182, 3178, 3180, 3181, 1021, 3177, 3175, 3176, 1019, 3174, 3172, 3173, 1020, 3161, 3162, 9114, 3158, 3159, 3160, 3171, 3168, 3169, 3170, 3157, 9113, 3155, 3156, 3167, 3165, 3166]
theorem mcast_in {e : Nat} (h : e < 4) : Jvm.Cond.castable (mEn e) (mEn e) ∈ mNW := by
  match e, h with
  | 0, _ => exact List.mem_of_getElem? (i := 4) rfl
  | 1, _ => exact List.mem_of_getElem? (i := 5) rfl
  | 2, _ => exact List.mem_of_getElem? (i := 6) rfl
  | 3, _ => exact List.mem_of_getElem? (i := 7) rfl
  | e + 4, h => exact absurd h (by omega)
theorem m_splitAt {α : Type} : ∀ (l : List α) (i : Nat) (a : α), l[i]? = some a → l = l.take i ++ a :: l.drop (i + 1)
  | [], i, a, h => by simp at h
  | b :: l, 0, a, h => by
    simp at h
    subst h
    rfl
  | b :: l, i + 1, a, h => by
    have ih := m_splitAt l i a (by simpa using h)
    show b :: l = b :: (l.take i ++ a :: l.drop (i + 1))
    rw [← ih]
theorem mEL_use {o : Nat} (ho : o < 16) {z : Nat × Nat × Nat} (hz : z ∈ mEL o) : Jvm.Cond.classLink (mR o) z.1 (mEn z.2.1) ∈ GW := mG1_in (m_all16 mEL_ok ho hz)
section SK
variable {p : Program} {l : Launch} {e : Env} {s : State} {mid : MethodId} {args : Array Value} {below : List Frame} {meth : Method} {c : Code} {Q : State → Prop}
variable {E : mE} {D : va_G} {tc : Int → ClassId} {O : mO} {j : Nat} {K : mK} {pc : Nat} {L S : List mV} {cs ss : Nat} {G : mG} {d : mD} {H : Heap} {locs : List Loc} {ls : Array Slot}
theorem m_hcn (hF : mFrame l E D tc O j p s mid args meth c) (hE : mHret p l e s mid args below meth c Q E D tc j K) {n : Int} {q : Nat} (hck : mhcn j q n = true) (hk : K (.inl (some (0, n))) G d) (hret : mret1 j n)
    (hrep : mRep E D tc G d H) (hs : va_S (mAr E) s.heap H locs) (h1 : cs ≤ mmc j) (h2 : ss ≤ mms j) : W p l e (mRm j) s mid args below meth c H locs cs ss Q (F0 mid q ls []) := by
  unfold mhcn at hck
  split at hck
  · rename_i m hd0
    simp only [Bool.and_eq_true, decide_eq_true_eq] at hck
    obtain ⟨rfl, hck⟩ := hck
    split at hck
    · rename_i hd1
      refine lv_iconst hF.1 hF.2.1 (mdec_ok hd0) rfl ?_
      exact hE .ireturn (some (0, m)) G d H locs cs ss (q + 1) ls hk hrep hs h1 h2 (mdec_ok hd1) hret
    · cases hck
  · cases hck
theorem m_hnd (hj : j < 341) (hF : mFrame l E D tc O j p s mid args meth c) (hE : mHret p l e s mid args below meth c Q E D tc j K) {n : Int} {ex : Nat} (hpc : pc < mlen j) (hex : ex < 4) (hn : mhnd j pc ex = some n) (hk : K (.inl (some (0, n))) G d) (hret : mret1 j n)
    (hl : mLoc E ls (mmaxL j) L) (hrep : mRep E D tc G d H) (hs : va_S (mAr E) s.heap H locs) (h1 : cs ≤ mmc j) (h2 : ss ≤ mms j) {q : Addr} {ce : Cell} (hce : H[q]? = some ce) (hcv : ce.vm = .none) (hcl : s.vm.findClass (mEn ex) = some ce.cls) (rest : List Value) :
    vx_W p l e (mRm j) s mid args below meth c H locs cs ss Q (F0 mid pc ls rest) q := by
  have hF9 := hF
  obtain ⟨hx, hb, hm, hr, hown, hGW, hlocks, hname, htab, hK, hO, hll⟩ := hF
  have hck := mhck_ok hj hpc hex
  unfold mhck at hck
  rw [hn] at hck
  dsimp only at hck
  have ho := mown_lt hj
  have h00 : 0 < j := by
    rcases Nat.eq_zero_or_pos j with h | h
    · subst h
      exact absurd (show none = some n from hn) (by simp)
    · exact h
  cases hx9 : (mhh j)[mhix j ex]? with
  | none => rw [hx9] at hck; cases hck
  | some x =>
    rw [hx9] at hck
    dsimp only at hck
    simp only [Bool.and_eq_true, Bool.not_eq_true'] at hck
    obtain ⟨⟨⟨⟨⟨c1, c2⟩, c3⟩, c4⟩, c5⟩, c6⟩ := hck
    have hsp : c.exceptionTable.toList = tableOf ((mhh j).take (mhix j ex)) ++ ⟨x.1, x.2.1, x.2.2.1, x.2.2.2⟩ :: tableOf ((mhh j).drop (mhix j ex + 1)) := by
      have h9 := congrArg tableOf (m_splitAt _ _ _ hx9)
      rw [htab h00, h9]
      unfold tableOf
      rw [List.map_append, List.map_cons]
    have hcast := vx_ot_at (args := #[]) (a' := args) (State.WarmedH.refl s) rfl rfl (hO.1 _ (mcast_in hex))
    obtain ⟨z, hz, hz2⟩ := List.any_eq_true.mp c4
    simp only [Bool.and_eq_true] at hz2
    have hlink := hGW _ (mEL_use ho hz)
    rw [Nat.eq_of_beq_eq_true hz2.1, Nat.eq_of_beq_eq_true hz2.2] at hlink
    refine vx_catch (own := mR (mown j)) (name := mEn ex) (E := mEn ex) hown _ _ _ hsp (fun y hy => ?_) (by simp only [covers, Bool.and_eq_true, decide_eq_true_eq]; exact ⟨Nat.le_of_ble_eq_true c1, by simpa only [Nat.blt_eq] using c2⟩) (fun h0 => by have h0 : x.2.2.2 = 0 := h0; rw [h0] at c3; cases c3) hlink hcast hce hcv hcl ?_
    · obtain ⟨y9, hy9, rfl⟩ := List.mem_map.mp hy
      have h5 := List.all_eq_true.mp c5 y9 hy9
      simp only [Bool.and_eq_true, Bool.not_eq_true'] at h5
      obtain ⟨h5, h6⟩ := h5
      obtain ⟨w, hw, hw2⟩ := List.any_eq_true.mp h6
      simp only [Bool.and_eq_true, Bool.not_eq_true', Nat.blt_eq] at hw2
      obtain ⟨⟨hw2, hw3⟩, hw4⟩ := hw2
      have hl9 := hGW _ (mEL_use ho hw)
      rw [Nat.eq_of_beq_eq_true hw2] at hl9
      refine Or.inr ⟨fun h0 => ?_, mEn w.2.1, hl9, hO.2.2.2.2.2.2.2.2.2.2.1 ex hex w.2.1 hw4 (fun hh => ?_)⟩
      · have h0 : y9.2.2.2 = 0 := h0
        rw [h0] at h5
        cases h5
      · rw [← hh] at hw3
        rw [Nat.beq_refl] at hw3
        cases hw3
    · split at c6
      · rename_i k hd0
        simp only [Bool.and_eq_true, Nat.blt_eq] at c6
        exact lv_astore_n hx hb (mdec_ok hd0) rfl (mLoc_has hl) c6.1 rfl (fun ls' hl' => m_hcn hF9 hE c6.2 hk hret hrep hs h1 h2)
      · rename_i k hd0
        simp only [Bool.and_eq_true, Nat.blt_eq] at c6
        exact lv_astore hx hb (mdec_ok hd0) (mLoc_has hl) c6.1 rfl (fun ls' hl' => m_hcn hF9 hE c6.2 hk hret hrep hs h1 h2)
      · cases c6
theorem m_after (hj : j < 341) (hF : mFrame l E D tc O j p s mid args meth c) (hE : mEnds p l e s mid args below meth c Q E D tc j K) (hpc : pc < mlen j) {mc ms : Nat} {A : Array Value} {st0 : List Value}
    (hr : vx_Run p l e (mRm j) s mid args below meth c H locs cs ss mc ms (F0 mid pc ls st0) (mst E S) (mQc E D tc (mback j pc L S (cs + mc) (ss + ms) (mW p l e s mid args below meth c Q E D tc j) K) A) (mXc E D tc (mback j pc L S (cs + mc) (ss + ms) (mW p l e s mid args below meth c Q E D tc j) K)) (mAr E))
    (hl : mLoc E ls (mmaxL j) L) (hs : va_S (mAr E) s.heap H locs) (h1 : cs + mc ≤ mmc j) (h2 : ss + ms ≤ mms j) : W p l e (mRm j) s mid args below meth c H locs cs ss Q (F0 mid pc ls st0) := by
  intro T hT X
  rcases hr T hT X with ⟨v, st₀, t, T', L9, h0, X', hL, e1, e2, ⟨⟨v', G', d', hv, hk, hrep'⟩, hFF⟩, st⟩ | ⟨q, st₀, t, T', L9, En, ce, h0, X', hL, e1, e2, ⟨⟨ex, G', d', hen, hex, hk, hrep'⟩, hFF⟩, hce, hcv, hcl, st⟩
  · cases hv
    obtain ⟨k1, k2, k3⟩ := vx_keep h0 e1 hs (fun _ _ h => h) (fun _ h => h) hL hFF
    match v', hk with
    | some w, hk =>
      obtain ⟨t2, a1, b1⟩ := hk T'.heap (locs ++ L9) ls hl (by rw [e1]; exact hrep') k3 h1 h2 T' rfl X'
      exact ⟨t2, st t2 a1, b1⟩
    | none, hk =>
      obtain ⟨t2, a1, b1⟩ := hk T'.heap (locs ++ L9) ls hl (by rw [e1]; exact hrep') k3 h1 h2 T' rfl X'
      exact ⟨t2, st t2 a1, b1⟩
  · subst hen
    obtain ⟨k1, k2, k3⟩ := vx_keep h0 e1 hs (fun _ _ h => h) (fun _ h => h) hL hFF
    have hrep2 : mRep E D tc G' d' T'.heap := by rw [e1]; exact hrep'
    have hce2 : T'.heap[q]? = some ce := by rw [e1]; exact hce
    simp only [mback] at hk
    split at hk
    · rename_i n hn
      obtain ⟨t2, a1, b1⟩ := m_hnd hj hF hE.1 hpc hex hn hk.2 hk.1 hl hrep2 k3 h1 h2 hce2 hcv hcl (mst E S) T' rfl X'
      exact ⟨t2, st.trans a1, b1⟩
    · have hnoh : mhh j = [] := List.isEmpty_iff.mp hk.1
      obtain ⟨t2, a1, b1⟩ := hE.2.2 ex G' d' T'.heap (locs ++ L9) (cs + mc) (ss + ms) pc ls (mst E S) q ce hex hk.2 hrep2 k3 h1 h2 hnoh hce2 hcv hcl T' rfl X'
      exact ⟨t2, st.trans a1, b1⟩
end SK
/-! ===== the four kinds of calls ===== -/
section SM
variable {p : Program} {l : Launch} {e : Env} {s : State} {mid : MethodId} {args : Array Value} {below : List Frame} {meth : Method} {c : Code} {Q : State → Prop}
variable {E : mE} {D : va_G} {tc : Int → ClassId} {O : mO} {j : Nat} {K : mK} {pc : Nat} {L S : List mV} {cs ss : Nat} {G : mG} {d : mD} {H : Heap} {locs : List Loc} {ls : Array Slot}
theorem m_pre (hF : mFrame l E D tc O j p s mid args meth c) (hs : va_S (mAr E) s.heap H locs) (hrep : mRep E D tc G d H) {as : List mV} {A : Array Value} (hA : A = (as.map (mval E)).toArray) : FrameBlind (mPc E D tc O as G d) ∧ ∀ U : State, U.heap = H → s.WarmedH U.vm → mPc E D tc O as G d A U := by
  obtain ⟨hx, hb, hm, hr, hown, hGW, hlocks, hname, htab, hK, hO, hll⟩ := hF
  exact ⟨mFrameBlind, fun U hU hW => ⟨hA, by rw [hU]; exact hrep, va_K.moved hW.alike hK, by rw [hU]; exact mOld_to hO hW hs.1 hs.2.1⟩⟩
theorem m_room {jj : Nat} {as S' : List mV} (h : mbud j jj as S' cs ss) : ((mRm jj).frames + 1 ≤ (mRm j).frames ∧ 8 + (mmaxL jj + 11) + (mRm jj).locals ≤ (mRm j).locals) ∧ Nat.ble (mlay as).length (mmaxL jj) = true ∧ ((mst E S').map fun v => v.category).sum ≤ 8 ∧ cs + mmc jj ≤ mmc j ∧ ss + mms jj ≤ mms j := by
  obtain ⟨h1, h2, h3, h4, h5⟩ := h
  simp only [mroom, Bool.and_eq_true] at h1
  exact ⟨⟨Nat.le_of_ble_eq_true h1.1, Nat.le_of_ble_eq_true h1.2⟩, h2, by rw [m_cats]; exact h3, h4, h5⟩
theorem m_recv {jj : Nat} {as : List mV} (h : mrecv jj as G.1) (hk : mkd jj ≠ 0) (hrep : mRep E D tc G d H) (hmc : mcl jj < 12) : ∃ (a : Int) (as' : List mV), as = (3, a) :: as' ∧ mval E (3, a) = .ref (E.1 + a.toNat) ∧ 0 ≤ a ∧ ∃ cell : Cell, H[E.1 + a.toNat]? = some cell ∧ cell.cls = D.1 (mcl jj) ∧ cell.vm = .none := by
  unfold mrecv at h
  split at h
  · exact absurd (by assumption) hk
  · split at h
    · rename_i a as'
      obtain ⟨h0, h1, -⟩ := hrep.2.2 a (by omega)
      obtain ⟨-, cell, hc, hcl, hv, -⟩ := h1 (by omega)
      refine ⟨a, as', rfl, ?_, h0, cell, hc, ?_, hv⟩
      · simp only [mval]
        rw [if_neg (by omega)]
      · rw [hcl, h]
        rfl
    · exact h.elim
theorem m_run (hj : j < 341) (hF : mFrame l E D tc O j p s mid args meth c) (hE : mEnds p l e s mid args below meth c Q E D tc j K) (hpc : pc < mlen j) {jj : Nat}
    (h : mint (mW p l e s mid args below meth c Q E D tc j) (fun j as G d K' => mSim l E D tc O j (ment j as G d) K') j K (mX O j 3 (.invokestatic jj) pc L S cs ss G d))
    (go : ∀ (H : Heap) (locs : List Loc) (ls : Array Slot) (as S' : List mV), S = as.reverse ++ S' → as.length = mnp jj → mrecv jj as G.1 → mLoc E ls (mmaxL j) L → mRep E D tc G d H → va_S (mAr E) s.heap H locs → mbud j jj as S' cs ss →
      mSim l E D tc O jj (ment jj as G d) (mback j pc L S' (cs + mmc jj) (ss + mms jj) (mW p l e s mid args below meth c Q E D tc j) K) →
      vx_Run p l e (mRm j) s mid args below meth c H locs cs ss (mmc jj) (mms jj) (F0 mid pc ls (mst E S)) (mst E S') (mQc E D tc (mback j pc L S' (cs + mmc jj) (ss + mms jj) (mW p l e s mid args below meth c Q E D tc j) K) (as.map (mval E)).toArray) (mXc E D tc (mback j pc L S' (cs + mmc jj) (ss + mms jj) (mW p l e s mid args below meth c Q E D tc j) K)) (mAr E)) :
    mW p l e s mid args below meth c Q E D tc j (pc, L, S, cs, ss, G, d) := by
  simp only [mX] at h
  split at h
  · rename_i as S' hp
    obtain ⟨ts, ht, hS, hlen⟩ := mpop_out _ _ _ _ _ hp
    rw [List.append_nil] at ht
    subst ht
    obtain ⟨⟨hbud, hrecv⟩, hsim⟩ := h
    intro H locs ls hl hrep hs h1 h2
    exact m_after hj hF hE hpc (go H locs ls _ S' hS hlen hrecv hl hrep hs hbud hsim) hl hs hbud.2.2.2.1 hbud.2.2.2.2
  · exact absurd h.1 id
theorem m_cfix (hF : mFrame l E D tc O j p s mid args meth c) : CallFix p mid c (mb j) (mmaxL j) s args GW (mR (mown j)) := ⟨hF.1, hF.2.1, hF.2.2.1, hF.2.2.2.2.1, hF.2.2.2.2.2.1⟩
theorem s_callV (hj : j < 341) (hF : mFrame l E D tc O j p s mid args meth c) (hE : mEnds p l e s mid args below meth c Q E D tc j K) (hpc : pc < mlen j) {i jj : Nat} (hlk : mlk (mML (mown j)) i = some jj) (hkd : mkd jj = 1)
    (hd : decode (mb j) pc = .ok (.invokevirtual i, 3)) (h : mint (mW p l e s mid args below meth c Q E D tc j) (fun j as G d K' => mSim l E D tc O j (ment j as G d) K') j K (mX O j 3 (.invokestatic jj) pc L S cs ss G d)) :
    mW p l e s mid args below meth c Q E D tc j (pc, L, S, cs, ss, G, d) := by
  obtain ⟨hlink, h0, hjj⟩ := mML_use (mown_lt hj) hlk
  obtain ⟨hini, hn1, hn2, hcls, hs0, hs1, hs2, hs3⟩ := mJ_all h0 hjj
  have hkd0 : mkd jj ≠ 0 := by omega
  obtain ⟨hinst, hdesc, hcn, hmc⟩ := hs1 hkd0
  obtain ⟨hdesc, hnp⟩ := m_len1 hdesc
  have hhh := mkhh hjj hkd0
  refine m_run hj hF hE hpc h (fun H locs ls as S' hS hlen hrecv hl hrep hs hbud hsim => ?_)
  obtain ⟨hR, hlay, hcat, hc, hsl⟩ := m_room (E := E) hbud
  obtain ⟨a, as', rfl, hva, ha0, cell, hcell, hccl, hcvm⟩ := m_recv hrecv hkd0 hrep hmc
  have hpre := m_pre hF hs hrep (as := (3, a) :: as') (A := (Value.ref (E.1 + a.toNat) :: as'.map (mval E)).toArray) (by rw [List.map_cons, hva])
  have hgood : GoodIn GW (wsV (mR (mown j)) i (my jj).cls (my jj) (mws jj)) := by
    intro w hw
    unfold wsV at hw
    rcases List.mem_append.mp hw with hw | hw
    · simp only [List.mem_cons, List.not_mem_nil, or_false] at hw
      rcases hw with rfl | rfl | rfl | rfl
      · exact m_good hlink
      · exact m_good hinst
      · exact m_good (hs2 hkd)
      · exact m_good hini
    · exact m_good (mws_in h0 hjj w hw)
  have hcw := cwV (R := mRm j) (rm := mRm jj) (mc := mmc jj) (ms := mms jj) (own := mR (mown j)) (index := i) (C := (my jj).cls) (mnp jj - 1) hF.2.2.2.2.2.1 hgood (mcode_plain hhh) rfl rfl ⟨rfl, hn1, hn2, hdesc⟩ hR
  obtain ⟨T, ty, hcl9⟩ := mcls hmc
  have hfc : s.vm.findClass (my jj).cls = some (D.1 (mcl jj)) := by
    rw [hcn]
    exact (hF.2.2.2.2.2.2.2.2.2.1.1 _ _ hcl9.1).2.1
  have hr := vx_runV (m_cfix hF) (m_contract hF.2.2.2.2.2.2.2.2.2.2.2 h0 hjj hlay hsim) hcw (H := H) (locs := locs) (cells := cs) (slots := ss) (e := e) (meth := meth) (below := below) (b := E.1 + a.toNat) (As := as'.map (mval E)) (rest := mst E S') (g := F0 mid pc ls (mst E S)) ⟨hpre.1, ⟨cell, hcell, by rw [hcvm]; rfl, by rw [hccl]; exact hfc⟩, hpre.2⟩ rfl
    (by rw [List.length_map]; simp at hlen; omega) hl.1 (by rw [hS]; simp only [mst, List.map_append, List.map_reverse, List.reverse_cons, List.map_cons, hva, List.append_assoc, List.map_nil]; rfl) (by show 2 * 0 + _ ≤ 8; rw [Nat.mul_zero, Nat.zero_add]; exact hcat) hd ⟨hc, hsl⟩
  rw [List.map_cons, hva]
  exact hr
theorem s_callS (hj : j < 341) (hF : mFrame l E D tc O j p s mid args meth c) (hE : mEnds p l e s mid args below meth c Q E D tc j K) (hpc : pc < mlen j) {i jj : Nat} (hlk : mlk (mML (mown j)) i = some jj) (hkd : mkd jj = 0)
    (hd : decode (mb j) pc = .ok (.invokestatic i, 3)) (h : mint (mW p l e s mid args below meth c Q E D tc j) (fun j as G d K' => mSim l E D tc O j (ment j as G d) K') j K (mX O j 3 (.invokestatic jj) pc L S cs ss G d)) :
    mW p l e s mid args below meth c Q E D tc j (pc, L, S, cs, ss, G, d) := by
  obtain ⟨hlink, h0, hjj⟩ := mML_use (mown_lt hj) hlk
  obtain ⟨hini, hn1, hn2, hcls, hs0, hs1, hs2, hs3⟩ := mJ_all h0 hjj
  obtain ⟨hstat, hdesc⟩ := hs0 hkd
  refine m_run hj hF hE hpc h (fun H locs ls as S' hS hlen hrecv hl hrep hs hbud hsim => ?_)
  obtain ⟨hR, hlay, hcat, hc, hsl⟩ := m_room (E := E) hbud
  have hpre := m_pre hF hs hrep (as := as) (A := (as.map (mval E)).toArray) rfl
  have hgood : GoodIn GW (va_wsS (mR (mown j)) i (my jj) (mws jj)) := by
    intro w hw
    unfold va_wsS at hw
    rcases List.mem_append.mp hw with hw | hw
    · simp only [List.mem_cons, List.not_mem_nil, or_false] at hw
      rcases hw with rfl | rfl | rfl
      · exact m_good hlink
      · exact m_good hstat
      · exact m_good hini
    · exact m_good (mws_in h0 hjj w hw)
  have hst : (F0 mid pc ls (mst E S)).stack = (as.map (mval E)).reverse ++ mst E S' := by
    rw [hS]
    simp only [mst, List.map_append, List.map_reverse]
  have hsum : 2 * (F0 mid pc ls (mst E S)).monitorRoom + ((mst E S').map fun v => v.category).sum ≤ 8 := by
    show 2 * 0 + _ ≤ 8
    rw [Nat.mul_zero, Nat.zero_add]
    exact hcat
  have hM := m_contract hF.2.2.2.2.2.2.2.2.2.2.2 h0 hjj hlay hsim
  cases hhh : mhh jj with
  | nil =>
    exact vx_runS (m_cfix hF) hM (va_cwS (R := mRm j) (rm := mRm jj) (mc := mmc jj) (ms := mms jj) (own := mR (mown j)) (index := i) (mnp jj) hF.2.2.2.2.2.1 hgood (mcode_plain hhh) rfl rfl ⟨hn1, hn2, hdesc⟩ hR) (H := H) (locs := locs) (cells := cs) (slots := ss) (e := e) (meth := meth) (below := below) (As := as.map (mval E)) (rest := mst E S') (g := F0 mid pc ls (mst E S)) hpre rfl
      (by rw [List.length_map]; exact hlen) hl.1 hst hsum hd ⟨hc, hsl⟩
  | cons a t =>
    exact vx_runSX (m_cfix hF) hM (vx_cwSW (R := mRm j) (rm := mRm jj) (mc := mmc jj) (ms := mms jj) (own := mR (mown j)) (index := i) (mnp jj) hF.2.2.2.2.2.1 hgood (mcode_with hhh) rfl rfl ⟨hn1, hn2, hdesc⟩ hR) (H := H) (locs := locs) (cells := cs) (slots := ss) (e := e) (meth := meth) (below := below) (As := as.map (mval E)) (rest := mst E S') (g := F0 mid pc ls (mst E S)) hpre rfl
      (by rw [List.length_map]; exact hlen) hl.1 hst hsum hd ⟨hc, hsl⟩
theorem s_callI (hj : j < 341) (hF : mFrame l E D tc O j p s mid args meth c) (hE : mEnds p l e s mid args below meth c Q E D tc j K) (hpc : pc < mlen j) {i jj : Nat} (hlk : mlk (mML (mown j)) i = some jj ∨ mlk (mNL (mown j)) i = some jj) (hkd : mkd jj = 2)
    (hd : decode (mb j) pc = .ok (.invokespecial i, 3)) (h : mint (mW p l e s mid args below meth c Q E D tc j) (fun j as G d K' => mSim l E D tc O j (ment j as G d) K') j K (mX O j 3 (.invokestatic jj) pc L S cs ss G d)) :
    mW p l e s mid args below meth c Q E D tc j (pc, L, S, cs, ss, G, d) := by
  have hr0 : 0 < jj ∧ jj < 341 := by
    rcases hlk with hlk | hlk
    · exact (mML_use (mown_lt hj) hlk).2
    · exact (mNL_use (mown_lt hj) hlk).2
  obtain ⟨h0, hjj⟩ := hr0
  obtain ⟨hini, hn1, hn2, hcls, hs0, hs1, hs2, hs3⟩ := mJ_all h0 hjj
  have hkd0 : mkd jj ≠ 0 := by omega
  obtain ⟨hinst, hdesc, hcn, hmc⟩ := hs1 hkd0
  obtain ⟨hdesc, hnp⟩ := m_len1 hdesc
  obtain ⟨hname, hret⟩ := hs3 hkd0 (by omega)
  have hhh := mkhh hjj hkd0
  refine m_run hj hF hE hpc h (fun H locs ls as S' hS hlen hrecv hl hrep hs hbud hsim => ?_)
  obtain ⟨hR, hlay, hcat, hc, hsl⟩ := m_room (E := E) hbud
  obtain ⟨a, as', rfl, hva, ha0, cell, hcell, hccl, hcvm⟩ := m_recv hrecv hkd0 hrep hmc
  have hpre := m_pre hF hs hrep (as := (3, a) :: as') (A := (Value.ref (E.1 + a.toNat) :: as'.map (mval E)).toArray) (by rw [List.map_cons, hva])
  have hgood : GoodIn GW (mws jj) := fun w hw => m_good (mws_in h0 hjj w hw)
  have hcode : mws jj = Jvm.Cond.code (my jj) (mb jj) (mmaxL jj) none :: GW := by rw [mcode_plain hhh, mrt0 hret]
  have hGW := hF.2.2.2.2.2.1
  have hst : (F0 mid pc ls (mst E S)).stack = (as'.map (mval E)).reverse ++ .ref (E.1 + a.toNat) :: mst E S' := by
    rw [hS]
    simp only [mst, List.map_append, List.map_reverse, List.reverse_cons, List.map_cons, hva, List.append_assoc, List.map_nil]
    rfl
  have hsum : 2 * (F0 mid pc ls (mst E S)).monitorRoom + ((mst E S').map fun v => v.category).sum ≤ 8 := by
    show 2 * 0 + _ ≤ 8
    rw [Nat.mul_zero, Nat.zero_add]
    exact hcat
  have hM := m_contract hF.2.2.2.2.2.2.2.2.2.2.2 h0 hjj hlay hsim
  have hlen' : (as'.map (mval E)).length = mnp jj - 1 := by
    rw [List.length_map]
    simp at hlen
    omega
  rw [List.map_cons, hva]
  rcases hlk with hlk | hlk
  · obtain ⟨hlink, -, -⟩ := mML_use (mown_lt hj) hlk
    exact vx_runI (m_cfix hF) hM (cwI (R := mRm j) (rm := mRm jj) (mc := mmc jj) (ms := mms jj) (own := mR (mown j)) (index := i) (mnp jj - 1) hGW hgood hcode rfl rfl (hGW _ hini) (hGW _ hlink) (hGW _ hinst) hname ⟨hn1, hn2, hdesc⟩ hR) (H := H) (locs := locs) (cells := cs) (slots := ss) (e := e) (meth := meth) (below := below) (b := E.1 + a.toNat) (As := as'.map (mval E)) (rest := mst E S') (g := F0 mid pc ls (mst E S)) hpre rfl
      hlen' hl.1 hst hsum hd ⟨hc, hsl⟩
  · obtain ⟨⟨e9, he9, hi9, hg9⟩, -, -⟩ := mNL_use (mown_lt hj) hlk
    have hnl := hF.2.2.2.2.2.2.2.2.2.2.1.2.1 (mown j) (mown_lt hj) e9 he9
    rw [hi9, hg9] at hnl
    exact vx_runIN (m_cfix hF) hM ⟨va_cnB (R := mRm j) (rm := mRm jj) (mc := mmc jj) (ms := mms jj) (own := mR (mown j)) (index := i) (host := mnest) (mnp jj - 1) hGW hgood hcode rfl rfl hnl (hGW _ hini) ⟨hn1, hn2, hdesc⟩ hR, hname, hGW _ hinst⟩ (H := H) (locs := locs) (cells := cs) (slots := ss) (e := e) (meth := meth) (below := below) (b := E.1 + a.toNat) (As := as'.map (mval E)) (rest := mst E S') (g := F0 mid pc ls (mst E S)) hpre rfl
      hlen' hl.1 hst hsum hd ⟨hc, hsl⟩
end SM
/-! ===== texts: String.length and String.charAt ===== -/
def mJKW : List Jvm.Cond := [.code yJ3_checkIndex_8e157 cJ3_checkIndex_8e157 3 (some .int), .fieldLink RJ0 1053 "jdk/internal/util/Preconditions" "SIOOBE_FORMATTER" "Ljava/util/function/BiFunction;", .methodLink RJ0 1059 yJ3_checkIndex_8e157, .static yJ3_checkIndex_8e157, .initialized RJ3,
  .code yJ0_checkIndex_df160 cJ0_checkIndex_df160 2 none, .methodLink RJ1 9 yJ0_checkIndex_df160, .static yJ0_checkIndex_df160, .initialized RJ0, .code yJ1_charAt_3b067 cJ1_charAt_3b067 2 (some .char), .methodLink RJ0 495 yJ1_charAt_3b067, .static yJ1_charAt_3b067, .initialized RJ1,
  .code yJ0_coder_7d493 cJ0_coder_7d493 1 (some .byte), .fieldLink RJ0 38 "java/lang/String" "COMPACT_STRINGS" "Z", .fieldLink RJ0 15 "java/lang/String" "coder" "B", .methodLink RJ0 335 yJ0_coder_7d493, .instanceMethod yJ0_coder_7d493, .selects RJ0 yJ0_coder_7d493 yJ0_coder_7d493,
  .code yJ0_isLatin1_aae02 cJ0_isLatin1_aae02 1 (some .boolean), .methodLink RJ0 492 yJ0_isLatin1_aae02, .instanceMethod yJ0_isLatin1_aae02, .selects RJ0 yJ0_isLatin1_aae02 yJ0_isLatin1_aae02,
  .code yJ0_length_8abf5 cJ0_length_8abf5 1 (some .int), .fieldLink RJ0 9 "java/lang/String" "value" "[B", .instanceMethod yJ0_length_8abf5, .selects RJ0 yJ0_length_8abf5 yJ0_length_8abf5,
  .code yJ0_charAt_5068e cJ0_charAt_5068e 2 (some .char), .instanceMethod yJ0_charAt_5068e, .selects RJ0 yJ0_charAt_5068e yJ0_charAt_5068e]
theorem mjk_ok : (Nat.beq mJKW.length mp_jk.length && (mJKW.zip mp_jk).all (fun e => mG1 e.2 e.1)) = true := by decide +kernel
theorem mjk {w : Jvm.Cond} (i : Nat) (h : mJKW[i]? = some w) : w ∈ GW := by
  have k := mjk_ok
  rw [Bool.and_eq_true] at k
  obtain ⟨p, hp⟩ := mzip_in _ _ (Nat.eq_of_beq_eq_true k.1) w (List.mem_of_getElem? h)
  exact mG1_in (List.all_eq_true.mp k.2 _ hp)
theorem jd_len_0 : decode cJ0_length_8abf5 0 = .ok (.aload_n 0, 1) := by decide +kernel
theorem jd_len_1 : decode cJ0_length_8abf5 1 = .ok (.getfield 9, 3) := by decide +kernel
theorem jd_len_4 : decode cJ0_length_8abf5 4 = .ok (.arraylength, 1) := by decide +kernel
theorem jd_len_5 : decode cJ0_length_8abf5 5 = .ok (.aload_n 0, 1) := by decide +kernel
theorem jd_len_6 : decode cJ0_length_8abf5 6 = .ok (.invokevirtual 335, 3) := by decide +kernel
theorem jd_len_9 : decode cJ0_length_8abf5 9 = .ok (.ishr, 1) := by decide +kernel
theorem jd_len_10 : decode cJ0_length_8abf5 10 = .ok (.ireturn, 1) := by decide +kernel
theorem jd_cha_0 : decode cJ0_charAt_5068e 0 = .ok (.aload_n 0, 1) := by decide +kernel
theorem jd_cha_1 : decode cJ0_charAt_5068e 1 = .ok (.invokevirtual 492, 3) := by decide +kernel
theorem jd_cha_4 : decode cJ0_charAt_5068e 4 = .ok (.ifCond .eq 12, 3) := by decide +kernel
theorem jd_cha_7 : decode cJ0_charAt_5068e 7 = .ok (.aload_n 0, 1) := by decide +kernel
theorem jd_cha_8 : decode cJ0_charAt_5068e 8 = .ok (.getfield 9, 3) := by decide +kernel
theorem jd_cha_11 : decode cJ0_charAt_5068e 11 = .ok (.iload_n 1, 1) := by decide +kernel
theorem jd_cha_12 : decode cJ0_charAt_5068e 12 = .ok (.invokestatic 495, 3) := by decide +kernel
theorem jd_cha_15 : decode cJ0_charAt_5068e 15 = .ok (.ireturn, 1) := by decide +kernel
theorem jd_cha_16 : decode cJ0_charAt_5068e 16 = .ok (.aload_n 0, 1) := by decide +kernel
theorem jd_cha_17 : decode cJ0_charAt_5068e 17 = .ok (.getfield 9, 3) := by decide +kernel
theorem jd_cha_20 : decode cJ0_charAt_5068e 20 = .ok (.iload_n 1, 1) := by decide +kernel
theorem jd_cha_21 : decode cJ0_charAt_5068e 21 = .ok (.invokestatic 498, 3) := by decide +kernel
theorem jd_cha_24 : decode cJ0_charAt_5068e 24 = .ok (.ireturn, 1) := by decide +kernel
theorem jd_cod_0 : decode cJ0_coder_7d493 0 = .ok (.getstatic 38, 3) := by decide +kernel
theorem jd_cod_3 : decode cJ0_coder_7d493 3 = .ok (.ifCond .eq 10, 3) := by decide +kernel
theorem jd_cod_6 : decode cJ0_coder_7d493 6 = .ok (.aload_n 0, 1) := by decide +kernel
theorem jd_cod_7 : decode cJ0_coder_7d493 7 = .ok (.getfield 15, 3) := by decide +kernel
theorem jd_cod_10 : decode cJ0_coder_7d493 10 = .ok (.goto 4, 3) := by decide +kernel
theorem jd_cod_13 : decode cJ0_coder_7d493 13 = .ok (.iconst 1, 1) := by decide +kernel
theorem jd_cod_14 : decode cJ0_coder_7d493 14 = .ok (.ireturn, 1) := by decide +kernel
theorem jd_lat_0 : decode cJ0_isLatin1_aae02 0 = .ok (.getstatic 38, 3) := by decide +kernel
theorem jd_lat_3 : decode cJ0_isLatin1_aae02 3 = .ok (.ifCond .eq 14, 3) := by decide +kernel
theorem jd_lat_6 : decode cJ0_isLatin1_aae02 6 = .ok (.aload_n 0, 1) := by decide +kernel
theorem jd_lat_7 : decode cJ0_isLatin1_aae02 7 = .ok (.getfield 15, 3) := by decide +kernel
theorem jd_lat_10 : decode cJ0_isLatin1_aae02 10 = .ok (.ifCond .ne 7, 3) := by decide +kernel
theorem jd_lat_13 : decode cJ0_isLatin1_aae02 13 = .ok (.iconst 1, 1) := by decide +kernel
theorem jd_lat_14 : decode cJ0_isLatin1_aae02 14 = .ok (.goto 4, 3) := by decide +kernel
theorem jd_lat_17 : decode cJ0_isLatin1_aae02 17 = .ok (.iconst 0, 1) := by decide +kernel
theorem jd_lat_18 : decode cJ0_isLatin1_aae02 18 = .ok (.ireturn, 1) := by decide +kernel
theorem jd_chk_0 : decode cJ0_checkIndex_df160 0 = .ok (.iload_n 0, 1) := by decide +kernel
theorem jd_chk_1 : decode cJ0_checkIndex_df160 1 = .ok (.iload_n 1, 1) := by decide +kernel
theorem jd_chk_2 : decode cJ0_checkIndex_df160 2 = .ok (.getstatic 1053, 3) := by decide +kernel
theorem jd_chk_5 : decode cJ0_checkIndex_df160 5 = .ok (.invokestatic 1059, 3) := by decide +kernel
theorem jd_chk_8 : decode cJ0_checkIndex_df160 8 = .ok (.pop, 1) := by decide +kernel
theorem jd_chk_9 : decode cJ0_checkIndex_df160 9 = .ok (.return_, 1) := by decide +kernel
theorem jd_lch_0 : decode cJ1_charAt_3b067 0 = .ok (.iload_n 1, 1) := by decide +kernel
theorem jd_lch_1 : decode cJ1_charAt_3b067 1 = .ok (.aload_n 0, 1) := by decide +kernel
theorem jd_lch_2 : decode cJ1_charAt_3b067 2 = .ok (.arraylength, 1) := by decide +kernel
theorem jd_lch_3 : decode cJ1_charAt_3b067 3 = .ok (.invokestatic 9, 3) := by decide +kernel
theorem jd_lch_6 : decode cJ1_charAt_3b067 6 = .ok (.aload_n 0, 1) := by decide +kernel
theorem jd_lch_7 : decode cJ1_charAt_3b067 7 = .ok (.iload_n 1, 1) := by decide +kernel
theorem jd_lch_8 : decode cJ1_charAt_3b067 8 = .ok (.baload, 1) := by decide +kernel
theorem jd_lch_9 : decode cJ1_charAt_3b067 9 = .ok (.sipush 255, 3) := by decide +kernel
theorem jd_lch_12 : decode cJ1_charAt_3b067 12 = .ok (.iand, 1) := by decide +kernel
theorem jd_lch_13 : decode cJ1_charAt_3b067 13 = .ok (.i2c, 1) := by decide +kernel
theorem jd_lch_14 : decode cJ1_charAt_3b067 14 = .ok (.ireturn, 1) := by decide +kernel
theorem jd_pre_0 : decode cJ3_checkIndex_8e157 0 = .ok (.iload_n 0, 1) := by decide +kernel
theorem jd_pre_1 : decode cJ3_checkIndex_8e157 1 = .ok (.ifCond .lt 8, 3) := by decide +kernel
theorem jd_pre_4 : decode cJ3_checkIndex_8e157 4 = .ok (.iload_n 0, 1) := by decide +kernel
theorem jd_pre_5 : decode cJ3_checkIndex_8e157 5 = .ok (.iload_n 1, 1) := by decide +kernel
theorem jd_pre_6 : decode cJ3_checkIndex_8e157 6 = .ok (.if_icmp .lt 10, 3) := by decide +kernel
theorem jd_pre_9 : decode cJ3_checkIndex_8e157 9 = .ok (.aload_n 2, 1) := by decide +kernel
theorem jd_pre_10 : decode cJ3_checkIndex_8e157 10 = .ok (.iload_n 0, 1) := by decide +kernel
theorem jd_pre_11 : decode cJ3_checkIndex_8e157 11 = .ok (.iload_n 1, 1) := by decide +kernel
theorem jd_pre_12 : decode cJ3_checkIndex_8e157 12 = .ok (.invokestatic 95, 3) := by decide +kernel
theorem jd_pre_15 : decode cJ3_checkIndex_8e157 15 = .ok (.athrow, 1) := by decide +kernel
theorem jd_pre_16 : decode cJ3_checkIndex_8e157 16 = .ok (.iload_n 0, 1) := by decide +kernel
theorem jd_pre_17 : decode cJ3_checkIndex_8e157 17 = .ok (.ireturn, 1) := by decide +kernel
theorem jgoodS {own : String} {i : Nat} {y : MethodName} {b : ByteArray} {n : Nat} {r : Option FieldType} (h1 : Jvm.Cond.methodLink own i y ∈ GW) (h2 : Jvm.Cond.static y ∈ GW) (h3 : Jvm.Cond.initialized y.cls ∈ GW) (h4 : Jvm.Cond.code y b n r ∈ GW) : GoodIn GW (va_wsS own i y (Jvm.Cond.code y b n r :: GW)) := by
  intro w hw
  unfold va_wsS at hw
  simp only [List.cons_append, List.nil_append, List.mem_cons] at hw
  rcases hw with rfl | rfl | rfl | rfl | hw
  · exact m_good h1
  · exact m_good h2
  · exact m_good h3
  · exact m_good h4
  · exact m_good hw
theorem jgoodV {own C : String} {i : Nat} {y : MethodName} {b : ByteArray} {n : Nat} {r : Option FieldType} (h1 : Jvm.Cond.methodLink own i y ∈ GW) (h2 : Jvm.Cond.instanceMethod y ∈ GW) (h3 : Jvm.Cond.selects C y y ∈ GW) (h5 : Jvm.Cond.initialized C ∈ GW) (h4 : Jvm.Cond.code y b n r ∈ GW) : GoodIn GW (wsV own i C y (Jvm.Cond.code y b n r :: GW)) := by
  intro w hw
  unfold wsV at hw
  simp only [List.cons_append, List.nil_append, List.mem_cons] at hw
  rcases hw with rfl | rfl | rfl | rfl | rfl | hw
  · exact m_good h1
  · exact m_good h2
  · exact m_good h3
  · exact m_good h5
  · exact m_good h4
  · exact m_good hw
abbrev jN : Nat → Prop := fun _ => False
abbrev jZ (U : State) : Prop := va_Zq "jdk/internal/util/Preconditions" "SIOOBE_FORMATTER" "Ljava/util/function/BiFunction;" jN U U.heap
abbrev jCS (U : State) : Prop := va_Z "java/lang/String" "COMPACT_STRINGS" "Z" (.int 1) jN U U.heap
abbrev jR (n : Nat) (k : Nat) : Room := { frames := n, cells := 0, slots := 0, locals := k }
set_option maxHeartbeats 4000000 in
set_option maxRecDepth 100000 in
theorem j_pre (l : Launch) {i n : Int32} {fv : Value} (hfv : fv = .null ∨ ∃ t, fv = .ref t) (h0 : ¬ i < 0) (h1 : i < n) (H : Heap) : Met l yJ3_checkIndex_8e157 (Jvm.Cond.code yJ3_checkIndex_8e157 cJ3_checkIndex_8e157 3 (some .int) :: GW) (jR 0 0) (va_Pc [.int i, .int n, fv] (fun U => U.heap = H)) (va_Qi (fun (r : Int32) (_ : Unit) => r = i) (fun _ t => t.heap = H) jN) 0 0 jN := by
  refine Met.ofW (cc := cJ3_checkIndex_8e157) (maxL := 3) (ret := some .int) (by decide) rfl ?_
  intro p e s m args below meth c s₁ B hml hq
  obtain ⟨rfl, rfl⟩ := hq
  have hx := B.exec
  have hb := B.bytes
  have hr := B.returns
  have hlocks := B.notSynchronized
  rcases hfv with rfl | ⟨t, rfl⟩
  · have hl := lv_entry ([.int i, .int n, .null]) (n := 3) (Nat.le_of_ble_eq_true rfl)
    rw [lg_entry_eq]
    generalize (lg_sl ([.int i, .int n, .null]) ++ List.replicate (3 - (lg_sl ([.int i, .int n, .null])).length) Slot.unset).toArray = ls at hl ⊢
    have hl : lv_has ls 3 [(0, .int i), (1, .int n), (2, .null)] := hl
    refine lv_iload_n hx hb jd_pre_0 rfl (lv_at hl 0 rfl) ?_
    refine lv_if_lt hx hb jd_pre_1 (tgt := 9) rfl (fun h => absurd h h0) (fun _ => ?_)
    refine lv_iload_n hx hb jd_pre_4 rfl (lv_at hl 0 rfl) ?_
    refine lv_iload_n hx hb jd_pre_5 rfl (lv_at hl 1 rfl) ?_
    refine lv_icmp_lt hx hb jd_pre_6 (tgt := 16) rfl (fun _ => ?_) (fun h => absurd h1 h)
    refine lv_iload_n hx hb jd_pre_16 rfl (lv_at hl 0 rfl) ?_
    exact W.iret (v := i) hx hb hr (fun t ht hW => ⟨⟨i, (), rfl, rfl, ht⟩, va_S.rf.F ht⟩) (fun q hq => by cases hq) jd_pre_17
  · have hl := lv_entry ([.int i, .int n, .ref t]) (n := 3) (Nat.le_of_ble_eq_true rfl)
    rw [lg_entry_eq]
    generalize (lg_sl ([.int i, .int n, .ref t]) ++ List.replicate (3 - (lg_sl ([.int i, .int n, .ref t])).length) Slot.unset).toArray = ls at hl ⊢
    have hl : lv_has ls 3 [(0, .int i), (1, .int n), (2, .ref t)] := hl
    refine lv_iload_n hx hb jd_pre_0 rfl (lv_at hl 0 rfl) ?_
    refine lv_if_lt hx hb jd_pre_1 (tgt := 9) rfl (fun h => absurd h h0) (fun _ => ?_)
    refine lv_iload_n hx hb jd_pre_4 rfl (lv_at hl 0 rfl) ?_
    refine lv_iload_n hx hb jd_pre_5 rfl (lv_at hl 1 rfl) ?_
    refine lv_icmp_lt hx hb jd_pre_6 (tgt := 16) rfl (fun _ => ?_) (fun h => absurd h1 h)
    refine lv_iload_n hx hb jd_pre_16 rfl (lv_at hl 0 rfl) ?_
    exact W.iret (v := i) hx hb hr (fun t ht hW => ⟨⟨i, (), rfl, rfl, ht⟩, va_S.rf.F ht⟩) (fun q hq => by cases hq) jd_pre_17
set_option maxHeartbeats 4000000 in
set_option maxRecDepth 100000 in
theorem j_chk (l : Launch) {i n : Int32} (h0 : ¬ i < 0) (h1 : i < n) (H : Heap) : Met l yJ0_checkIndex_df160 (Jvm.Cond.code yJ0_checkIndex_df160 cJ0_checkIndex_df160 2 none :: GW) (jR 1 22) (va_Pc [.int i, .int n] (fun U => U.heap = H ∧ jZ U)) (va_Qv (fun (_ : Unit) => True) (fun _ t => t.heap = H) jN) 0 0 jN := by
  refine Met.ofW (cc := cJ0_checkIndex_df160) (maxL := 2) (ret := none) (by decide) rfl ?_
  intro p e s m args below meth c s₁ B hml hq
  obtain ⟨rfl, rfl, hZ⟩ := hq
  have hx := B.exec
  have hb := B.bytes
  have hr := B.returns
  have hlocks := B.notSynchronized
  have hts := atoms_spec (ws := Jvm.Cond.code yJ0_checkIndex_df160 cJ0_checkIndex_df160 2 none :: GW) B.pre
  have hG : ∀ w ∈ GW, w.before _ s = true := fun w hw => hts w (List.mem_cons_of_mem _ hw)
  have hown : s.vm.findClass RJ0 = some m.cls := findClass_of_methodNamed B.named
  have hl := lv_entry ([.int i, .int n]) (n := 2) (Nat.le_of_ble_eq_true rfl)
  rw [lg_entry_eq]
  generalize (lg_sl ([.int i, .int n]) ++ List.replicate (2 - (lg_sl ([.int i, .int n])).length) Slot.unset).toArray = ls at hl ⊢
  have hl : lv_has ls 2 [(0, .int i), (1, .int n)] := hl
  refine lv_iload_n hx hb jd_chk_0 rfl (lv_at hl 0 rfl) ?_
  refine lv_iload_n hx hb jd_chk_1 rfl (lv_at hl 1 rfl) ?_
  have go : ∀ fv : Value, (fv = .null ∨ ∃ t, fv = .ref t) → va_Z "jdk/internal/util/Preconditions" "SIOOBE_FORMATTER" "Ljava/util/function/BiFunction;" fv jN s s.heap → W p l e (headSpec (Jvm.Cond.code yJ0_checkIndex_df160 cJ0_checkIndex_df160 2 none :: GW) (jR 1 22)).room s m [Value.int i, .int n].toArray below meth c s.heap [] 0 0 (MQ below (va_Qv (fun (_ : Unit) => True) (fun _ t => t.heap = s.heap) jN) [Value.int i, .int n].toArray s 0 0 jN) (F0 m 2 ls [.int n, .int i]) := by
    intro fv hfv hz
    refine va_gets hx hb hz va_S.rf hown (hG _ (mjk 1 rfl)) (fun _ h => h) jd_chk_2 ?_
    refine va_calli (va_runS (As := [.int i, .int n, fv]) (rest := []) ⟨hx, hb, hml, hown, hG⟩ (j_pre l hfv h0 h1 s.heap) (va_cwS 3 hG (jgoodS (mjk 2 rfl) (mjk 3 rfl) (mjk 4 rfl) (mjk 0 rfl)) rfl rfl rfl ⟨by decide, by decide, by decide +kernel⟩ ⟨Nat.le_of_ble_eq_true rfl, Nat.le_of_ble_eq_true rfl⟩) ⟨fun a U g mk q => q, fun U hU hW => ⟨rfl, hU⟩⟩ rfl rfl hl.1 rfl (lv_room (Nat.le_of_ble_eq_true rfl)) jd_chk_5 ⟨Nat.zero_le _, Nat.zero_le _⟩) (va_S.rf (A := jN)) (fun _ _ h => h.elim) (fun _ h => h.elim) (fun r u t H1 locs1 ht hvm hw hB hz9 hk1 hS => ?_)
    have e : H1 = s.heap := ht.symm.trans hB
    subst e
    refine lv_pop hx hb jd_chk_8 rfl ?_
    exact W.vret hx hb hr (fun t ht hW => ⟨⟨(), rfl, trivial, ht⟩, hS.F ht⟩) hS.2.2 jd_chk_9
  rcases hZ with hz | ⟨t, hz⟩
  · exact go .null (Or.inl rfl) hz
  · exact go (.ref t) (Or.inr ⟨t, rfl⟩) hz
def jch (b : Int32) : Int32 := ((b &&& 255).toUInt32 % 65536).toInt32
set_option maxHeartbeats 4000000 in
set_option maxRecDepth 100000 in
theorem j_lch (l : Launch) {i : Int32} {a N : Nat} {f : Nat → Int32} (hN : N < 2147483648) (hi : vp_in i N) (hn : narrow .char (.int (jch (f i.toNatClampNeg))) = .int (jch (f i.toNatClampNeg))) (H : Heap) : Met l yJ1_charAt_3b067 (Jvm.Cond.code yJ1_charAt_3b067 cJ1_charAt_3b067 2 (some .char) :: GW) (jR 2 43) (va_Pc [.ref a, .int i] (fun U => U.heap = H ∧ jZ U ∧ va_T .byte a N (fun j => .int (f j)) jN U U.heap)) (va_Qi (fun (r : Int32) (_ : Unit) => r = jch (f i.toNatClampNeg)) (fun _ t => t.heap = H) jN) 0 0 jN := by
  refine Met.ofW (cc := cJ1_charAt_3b067) (maxL := 2) (ret := some .char) (by decide) rfl ?_
  intro p e s m args below meth c s₁ B hml hq
  obtain ⟨rfl, rfl, hZ, hT⟩ := hq
  have hx := B.exec
  have hb := B.bytes
  have hr := B.returns
  have hlocks := B.notSynchronized
  have hts := atoms_spec (ws := Jvm.Cond.code yJ1_charAt_3b067 cJ1_charAt_3b067 2 (some .char) :: GW) B.pre
  have hG : ∀ w ∈ GW, w.before _ s = true := fun w hw => hts w (List.mem_cons_of_mem _ hw)
  have hown : s.vm.findClass RJ1 = some m.cls := findClass_of_methodNamed B.named
  have hl := lv_entry ([.ref a, .int i]) (n := 2) (Nat.le_of_ble_eq_true rfl)
  rw [lg_entry_eq]
  generalize (lg_sl ([.ref a, .int i]) ++ List.replicate (2 - (lg_sl ([.ref a, .int i])).length) Slot.unset).toArray = ls at hl ⊢
  have hl : lv_has ls 2 [(0, .ref a), (1, .int i)] := hl
  have hi0 : ¬ i < 0 := fun h => hi (Or.inl h)
  have hi1 : i < Int32.ofNat N := by
    have h9 : i.toNatClampNeg < N := Nat.not_le.mp fun q => hi (Or.inr q)
    have h8 : (0 : Int) ≤ i.toInt := by
      have := Int32.not_lt.mp hi0
      simpa using Int32.le_iff_toInt_le.mp this
    have h7 : i.toInt = (i.toNatClampNeg : Int) := by
      show i.toInt = ((i.toInt.toNat : Nat) : Int)
      omega
    rw [Int32.lt_iff_toInt_lt, h7]
    have e : (Int32.ofNat N).toInt = (N : Int) := by
      have := m_toInt (x := (N : Int)) ⟨by omega, by omega⟩
      exact this
    rw [e]
    omega
  refine lv_iload_n hx hb jd_lch_0 rfl (lv_at hl 1 rfl) ?_
  refine lv_aload_n hx hb jd_lch_1 rfl (lv_at hl 0 rfl) ?_
  refine va_tlen hx hb hT va_S.rf rfl jd_lch_2 ?_
  refine va_callv (va_runS (As := [.int i, .int (Int32.ofNat N)]) (rest := []) ⟨hx, hb, hml, hown, hG⟩ (j_chk l hi0 hi1 s.heap) (va_cwS 2 hG (jgoodS (mjk 6 rfl) (mjk 7 rfl) (mjk 8 rfl) (mjk 5 rfl)) rfl rfl rfl ⟨by decide, by decide, by decide +kernel⟩ ⟨Nat.le_of_ble_eq_true rfl, Nat.le_of_ble_eq_true rfl⟩) ⟨fun a U g mk q => q, fun U hU hW => ⟨rfl, hU, by show va_Zq _ _ _ jN U U.heap; rw [hU]; exact va_Zq.moved hW.alike hZ⟩⟩ rfl rfl hl.1 rfl (lv_room (Nat.le_of_ble_eq_true rfl)) jd_lch_3 ⟨Nat.zero_le _, Nat.zero_le _⟩) (va_S.rf (A := jN)) (fun _ _ h => h.elim) (fun _ h => h.elim) (fun u t H1 locs1 ht hvm hw hB hz9 hk1 hS => ?_)
  have e : H1 = s.heap := ht.symm.trans hB
  subst e
  refine lv_aload_n hx hb jd_lch_6 rfl (lv_at hl 0 rfl) ?_
  refine lv_iload_n hx hb jd_lch_7 rfl (lv_at hl 1 rfl) ?_
  refine va_tb hx hb hT hS hi rfl jd_lch_8 ?_
  refine lv_sipush (v := 255) hx hb jd_lch_9 (by decide) ?_
  refine lv_iand hx hb jd_lch_12 ?_
  refine lv_i2c (v := jch (f i.toNatClampNeg)) hx hb jd_lch_13 rfl ?_
  exact W.zret (v := jch (f i.toNatClampNeg)) hx hb hr hn (fun t ht hW => ⟨⟨_, (), rfl, rfl, ht⟩, hS.F ht⟩) hS.2.2 jd_lch_14
set_option maxHeartbeats 4000000 in
set_option maxRecDepth 100000 in
theorem j_cod (l : Launch) {a : Nat} (H : Heap) : Met l yJ0_coder_7d493 (Jvm.Cond.code yJ0_coder_7d493 cJ0_coder_7d493 1 (some .byte) :: GW) (jR 0 0) (va_Pc [.ref a] (fun U => U.heap = H ∧ jCS U ∧ va_OF "java/lang/String" "coder" "B" (.int 0) a jN U U.heap)) (va_Qi (fun (r : Int32) (_ : Unit) => r = 0) (fun _ t => t.heap = H) jN) 0 0 jN := by
  refine Met.ofW (cc := cJ0_coder_7d493) (maxL := 1) (ret := some .byte) (by decide) rfl ?_
  intro p e s m args below meth c s₁ B hml hq
  obtain ⟨rfl, rfl, hC, hE⟩ := hq
  have hx := B.exec
  have hb := B.bytes
  have hr := B.returns
  have hlocks := B.notSynchronized
  have hts := atoms_spec (ws := Jvm.Cond.code yJ0_coder_7d493 cJ0_coder_7d493 1 (some .byte) :: GW) B.pre
  have hG : ∀ w ∈ GW, w.before _ s = true := fun w hw => hts w (List.mem_cons_of_mem _ hw)
  have hown : s.vm.findClass RJ0 = some m.cls := findClass_of_methodNamed B.named
  have hl := lv_entry ([.ref a]) (n := 1) (Nat.le_of_ble_eq_true rfl)
  rw [lg_entry_eq]
  generalize (lg_sl ([.ref a]) ++ List.replicate (1 - (lg_sl ([.ref a])).length) Slot.unset).toArray = ls at hl ⊢
  have hl : lv_has ls 1 [(0, .ref a)] := hl
  refine va_gets hx hb hC va_S.rf hown (hG _ (mjk 14 rfl)) (fun _ h => h) jd_cod_0 ?_
  refine lv_if_eq hx hb jd_cod_3 (tgt := 13) rfl (fun h => absurd h (by decide)) (fun _ => ?_)
  refine lv_aload_n hx hb jd_cod_6 rfl (lv_at hl 0 rfl) ?_
  refine vk_getf hx hb hE va_S.rf hown (hG _ (mjk 15 rfl)) (fun _ h => h) jd_cod_7 ?_
  refine lv_goto hx hb jd_cod_10 (tgt := 14) rfl ?_
  exact W.zret (v := 0) hx hb hr rfl (fun t ht hW => ⟨⟨0, (), rfl, rfl, ht⟩, va_S.rf.F ht⟩) (fun q hq => by cases hq) jd_cod_14
set_option maxHeartbeats 4000000 in
set_option maxRecDepth 100000 in
theorem j_lat (l : Launch) {a : Nat} (H : Heap) : Met l yJ0_isLatin1_aae02 (Jvm.Cond.code yJ0_isLatin1_aae02 cJ0_isLatin1_aae02 1 (some .boolean) :: GW) (jR 0 0) (va_Pc [.ref a] (fun U => U.heap = H ∧ jCS U ∧ va_OF "java/lang/String" "coder" "B" (.int 0) a jN U U.heap)) (va_Qi (fun (r : Int32) (_ : Unit) => r = 1) (fun _ t => t.heap = H) jN) 0 0 jN := by
  refine Met.ofW (cc := cJ0_isLatin1_aae02) (maxL := 1) (ret := some .boolean) (by decide) rfl ?_
  intro p e s m args below meth c s₁ B hml hq
  obtain ⟨rfl, rfl, hC, hE⟩ := hq
  have hx := B.exec
  have hb := B.bytes
  have hr := B.returns
  have hlocks := B.notSynchronized
  have hts := atoms_spec (ws := Jvm.Cond.code yJ0_isLatin1_aae02 cJ0_isLatin1_aae02 1 (some .boolean) :: GW) B.pre
  have hG : ∀ w ∈ GW, w.before _ s = true := fun w hw => hts w (List.mem_cons_of_mem _ hw)
  have hown : s.vm.findClass RJ0 = some m.cls := findClass_of_methodNamed B.named
  have hl := lv_entry ([.ref a]) (n := 1) (Nat.le_of_ble_eq_true rfl)
  rw [lg_entry_eq]
  generalize (lg_sl ([.ref a]) ++ List.replicate (1 - (lg_sl ([.ref a])).length) Slot.unset).toArray = ls at hl ⊢
  have hl : lv_has ls 1 [(0, .ref a)] := hl
  refine va_gets hx hb hC va_S.rf hown (hG _ (mjk 14 rfl)) (fun _ h => h) jd_lat_0 ?_
  refine lv_if_eq hx hb jd_lat_3 (tgt := 17) rfl (fun h => absurd h (by decide)) (fun _ => ?_)
  refine lv_aload_n hx hb jd_lat_6 rfl (lv_at hl 0 rfl) ?_
  refine vk_getf hx hb hE va_S.rf hown (hG _ (mjk 15 rfl)) (fun _ h => h) jd_lat_7 ?_
  refine lv_if_ne hx hb jd_lat_10 (tgt := 17) rfl (fun h => absurd rfl h) (fun _ => ?_)
  refine lv_iconst (v := 1) hx hb jd_lat_13 (by decide) ?_
  refine lv_goto hx hb jd_lat_14 (tgt := 18) rfl ?_
  exact W.zret (v := 1) hx hb hr rfl (fun t ht hW => ⟨⟨1, (), rfl, rfl, ht⟩, va_S.rf.F ht⟩) (fun q hq => by cases hq) jd_lat_18
set_option maxHeartbeats 4000000 in
set_option maxRecDepth 100000 in
theorem j_len (l : Launch) {a aV N : Nat} {f : Nat → Value} (H : Heap) : Met l yJ0_length_8abf5 (Jvm.Cond.code yJ0_length_8abf5 cJ0_length_8abf5 1 (some .int) :: GW) (jR 1 20) (va_Pc [.ref a] (fun U => U.heap = H ∧ jCS U ∧ va_O "java/lang/String" a jN U U.heap ∧ va_OF "java/lang/String" "coder" "B" (.int 0) a jN U U.heap ∧ va_OF "java/lang/String" "value" "[B" (.ref aV) a jN U U.heap ∧ va_T .byte aV N f jN U U.heap)) (va_Qi (fun (r : Int32) (_ : Unit) => r = Int32.ofNat N) (fun _ t => t.heap = H) jN) 0 0 jN := by
  refine Met.ofW (cc := cJ0_length_8abf5) (maxL := 1) (ret := some .int) (by decide) rfl ?_
  intro p e s m args below meth c s₁ B hml hq
  obtain ⟨rfl, rfl, hC, hO, hE, hV, hT⟩ := hq
  have hx := B.exec
  have hb := B.bytes
  have hr := B.returns
  have hlocks := B.notSynchronized
  have hts := atoms_spec (ws := Jvm.Cond.code yJ0_length_8abf5 cJ0_length_8abf5 1 (some .int) :: GW) B.pre
  have hG : ∀ w ∈ GW, w.before _ s = true := fun w hw => hts w (List.mem_cons_of_mem _ hw)
  have hown : s.vm.findClass RJ0 = some m.cls := findClass_of_methodNamed B.named
  have hl := lv_entry ([.ref a]) (n := 1) (Nat.le_of_ble_eq_true rfl)
  rw [lg_entry_eq]
  generalize (lg_sl ([.ref a]) ++ List.replicate (1 - (lg_sl ([.ref a])).length) Slot.unset).toArray = ls at hl ⊢
  have hl : lv_has ls 1 [(0, .ref a)] := hl
  refine lv_aload_n hx hb jd_len_0 rfl (lv_at hl 0 rfl) ?_
  refine vk_getf hx hb hV va_S.rf hown (hG _ (mjk 24 rfl)) (fun _ h => h) jd_len_1 ?_
  refine va_tlen hx hb hT va_S.rf rfl jd_len_4 ?_
  refine lv_aload_n hx hb jd_len_5 rfl (lv_at hl 0 rfl) ?_
  refine va_calli (va_runV (As := []) (rest := [.int (Int32.ofNat N)]) ⟨hx, hb, hml, hown, hG⟩ (j_cod l (a := a) s.heap) (cwV (C := RJ0) 0 hG (jgoodV (mjk 16 rfl) (mjk 17 rfl) (mjk 18 rfl) (mjk 8 rfl) (mjk 13 rfl)) rfl rfl rfl ⟨rfl, by decide, by decide, by decide +kernel⟩ ⟨Nat.le_of_ble_eq_true rfl, Nat.le_of_ble_eq_true rfl⟩) ⟨fun a U g mk q => q, (by obtain ⟨cell, g1, g2, g3, -⟩ := hO; exact ⟨cell, g1, g2, g3⟩), fun U hU hW => ⟨rfl, hU, by show va_Z _ _ _ _ jN U U.heap; rw [hU]; exact va_Z.moved hW.alike hC, by rw [hU]; exact va_OF.moved hW.alike hE⟩⟩ rfl rfl hl.1 rfl (lv_room (Nat.le_of_ble_eq_true rfl)) jd_len_6 ⟨Nat.zero_le _, Nat.zero_le _⟩) (va_S.rf (A := jN)) (fun _ _ h => h.elim) (fun _ h => h.elim) (fun r u t H1 locs1 ht hvm hw hB hz9 hk1 hS => ?_)
  have e : H1 = s.heap := ht.symm.trans hB
  subst e
  subst hw
  refine lv_ishr hx hb jd_len_9 ?_
  have e0 : Int32.ofNat N >>> ((0 : Int32) &&& 31) = Int32.ofNat N := by
    rw [show ((0 : Int32) &&& 31) = 0 by decide]
    simp
  rw [e0]
  exact W.iret (v := Int32.ofNat N) hx hb hr (fun t ht hW => ⟨⟨_, (), rfl, rfl, ht⟩, hS.F ht⟩) hS.2.2 jd_len_10
set_option maxHeartbeats 4000000 in
set_option maxRecDepth 100000 in
theorem j_cha (l : Launch) {i : Int32} {a aV N : Nat} {f : Nat → Int32} (hN : N < 2147483648) (hi : vp_in i N) (hn : narrow .char (.int (jch (f i.toNatClampNeg))) = .int (jch (f i.toNatClampNeg))) (H : Heap) : Met l yJ0_charAt_5068e (Jvm.Cond.code yJ0_charAt_5068e cJ0_charAt_5068e 2 (some .char) :: GW) (jR 3 64) (va_Pc [.ref a, .int i] (fun U => U.heap = H ∧ jZ U ∧ jCS U ∧ va_O "java/lang/String" a jN U U.heap ∧ va_OF "java/lang/String" "coder" "B" (.int 0) a jN U U.heap ∧ va_OF "java/lang/String" "value" "[B" (.ref aV) a jN U U.heap ∧ va_T .byte aV N (fun j => .int (f j)) jN U U.heap)) (va_Qi (fun (r : Int32) (_ : Unit) => r = jch (f i.toNatClampNeg)) (fun _ t => t.heap = H) jN) 0 0 jN := by
  refine Met.ofW (cc := cJ0_charAt_5068e) (maxL := 2) (ret := some .char) (by decide) rfl ?_
  intro p e s m args below meth c s₁ B hml hq
  obtain ⟨rfl, rfl, hZ, hC, hO, hE, hV, hT⟩ := hq
  have hx := B.exec
  have hb := B.bytes
  have hr := B.returns
  have hlocks := B.notSynchronized
  have hts := atoms_spec (ws := Jvm.Cond.code yJ0_charAt_5068e cJ0_charAt_5068e 2 (some .char) :: GW) B.pre
  have hG : ∀ w ∈ GW, w.before _ s = true := fun w hw => hts w (List.mem_cons_of_mem _ hw)
  have hown : s.vm.findClass RJ0 = some m.cls := findClass_of_methodNamed B.named
  have hl := lv_entry ([.ref a, .int i]) (n := 2) (Nat.le_of_ble_eq_true rfl)
  rw [lg_entry_eq]
  generalize (lg_sl ([.ref a, .int i]) ++ List.replicate (2 - (lg_sl ([.ref a, .int i])).length) Slot.unset).toArray = ls at hl ⊢
  have hl : lv_has ls 2 [(0, .ref a), (1, .int i)] := hl
  refine lv_aload_n hx hb jd_cha_0 rfl (lv_at hl 0 rfl) ?_
  refine va_calli (va_runV (As := []) (rest := []) ⟨hx, hb, hml, hown, hG⟩ (j_lat l (a := a) s.heap) (cwV (C := RJ0) 0 hG (jgoodV (mjk 20 rfl) (mjk 21 rfl) (mjk 22 rfl) (mjk 8 rfl) (mjk 19 rfl)) rfl rfl rfl ⟨rfl, by decide, by decide, by decide +kernel⟩ ⟨Nat.le_of_ble_eq_true rfl, Nat.le_of_ble_eq_true rfl⟩) ⟨fun a U g mk q => q, (by obtain ⟨cell, g1, g2, g3, -⟩ := hO; exact ⟨cell, g1, g2, g3⟩), fun U hU hW => ⟨rfl, hU, by show va_Z _ _ _ _ jN U U.heap; rw [hU]; exact va_Z.moved hW.alike hC, by rw [hU]; exact va_OF.moved hW.alike hE⟩⟩ rfl rfl hl.1 rfl (lv_room (Nat.le_of_ble_eq_true rfl)) jd_cha_1 ⟨Nat.zero_le _, Nat.zero_le _⟩) (va_S.rf (A := jN)) (fun _ _ h => h.elim) (fun _ h => h.elim) (fun r u t H1 locs1 ht hvm hw hB hz9 hk1 hS => ?_)
  have e : H1 = s.heap := ht.symm.trans hB
  subst e
  subst hw
  refine lv_if_eq hx hb jd_cha_4 (tgt := 16) rfl (fun h => absurd h (by decide)) (fun _ => ?_)
  refine lv_aload_n hx hb jd_cha_7 rfl (lv_at hl 0 rfl) ?_
  refine vk_getf hx hb hV hS hown (hG _ (mjk 24 rfl)) (fun _ h => h) jd_cha_8 ?_
  refine lv_iload_n hx hb jd_cha_11 rfl (lv_at hl 1 rfl) ?_
  refine va_calli (va_runS (As := [.ref aV, .int i]) (rest := []) ⟨hx, hb, hml, hown, hG⟩ (j_lch l (a := aV) (f := f) hN hi hn s.heap) (va_cwS 2 hG (jgoodS (mjk 10 rfl) (mjk 11 rfl) (mjk 12 rfl) (mjk 9 rfl)) rfl rfl rfl ⟨by decide, by decide, by decide +kernel⟩ ⟨Nat.le_of_ble_eq_true rfl, Nat.le_of_ble_eq_true rfl⟩) ⟨fun a U g mk q => q, fun U hU hW => ⟨rfl, hU, by show va_Zq _ _ _ jN U U.heap; rw [hU]; exact va_Zq.moved hW.alike hZ, by rw [hU]; exact va_T.moved hW.alike hT⟩⟩ rfl rfl hl.1 rfl (lv_room (Nat.le_of_ble_eq_true rfl)) jd_cha_12 ⟨Nat.zero_le _, Nat.zero_le _⟩) hS (fun _ _ h => h.elim) (fun _ h => h.elim) (fun r u t H1 locs1 ht hvm hw hB hz9 hk1 hS => ?_)
  have e : H1 = s.heap := ht.symm.trans hB
  subst e
  subst hw
  exact W.zret (v := jch (f i.toNatClampNeg)) hx hb hr hn (fun t ht hW => ⟨⟨_, (), rfl, rfl, ht⟩, hS.F ht⟩) hS.2.2 jd_cha_15
theorem tsl_rng (k : Int) (h0 : 0 ≤ k) (h1 : k < 7) : 4 ≤ tsl k ∧ tsl k ≤ 7 := by
  have h : k = 0 ∨ k = 1 ∨ k = 2 ∨ k = 3 ∨ k = 4 ∨ k = 5 ∨ k = 6 := by omega
  rcases h with rfl | rfl | rfl | rfl | rfl | rfl | rfl <;> decide
theorem jch_ok : ∀ k : Nat, k < 7 → ∀ i : Nat, i < 7 → (i : Int) < tsl (k : Int) → jch (Int32.ofInt (tsc (k : Int) (i : Int))) = Int32.ofInt (tsc (k : Int) (i : Int)) ∧ narrow .char (.int (jch (Int32.ofInt (tsc (k : Int) (i : Int))))) = .int (jch (Int32.ofInt (tsc (k : Int) (i : Int)))) := by decide +kernel
section SSTR
variable {p : Program} {l : Launch} {e : Env} {s : State} {mid : MethodId} {args : Array Value} {below : List Frame} {meth : Method} {c : Code} {Q : State → Prop}
variable {E : mE} {D : va_G} {tc : Int → ClassId} {O : mO} {j : Nat}
variable {C : Nat → List mV → mG → mD → mK → Prop} {K : mK} {pc : Nat} {L S : List mV} {cs ss : Nat} {G : mG} {d : mD}
theorem m_texts (hO : mOld E O (mAr E) s s.heap) {H : Heap} {locs : List Loc} (hs : va_S (mAr E) s.heap H locs) {k : Nat} (hk : k < 7) : ∃ aV : Nat, ∀ U : State, U.heap = H → s.WarmedH U.vm → (jZ U ∧ jCS U) ∧ va_O "java/lang/String" (E.2.2 k) jN U U.heap ∧ va_OF "java/lang/String" "coder" "B" (.int 0) (E.2.2 k) jN U U.heap ∧ va_OF "java/lang/String" "value" "[B" (.ref aV) (E.2.2 k) jN U U.heap ∧ va_T .byte aV (tsl (k : Int)).toNat (fun i => .int (Int32.ofInt (tsc (k : Int) (i : Int)))) jN U U.heap := by
  obtain ⟨-, -, -, -, -, -, -, -, -, -, -, ⟨aV, h12⟩, h13, h14⟩ := hO
  obtain ⟨g1, g2, g3, g4⟩ := h12 k hk
  refine ⟨aV k, fun U hU hW => ?_⟩
  have hA := hW.alike
  have n : ∀ q, jN q → mAr E q := fun q h => h.elim
  subst hU
  exact ⟨⟨va_Zq.narrow (va_Zq.moved hA (h14.kept hs.2.1)) n, va_Z.narrow (va_Z.moved hA (h13.kept hs.2.1)) n⟩, va_O.narrow (va_O.moved hA (g1.kept hs.2.1)) n, va_OF.narrow (va_OF.moved hA (g2.kept hs.2.1)) n, va_OF.narrow (va_OF.moved hA (g3.kept hs.2.1)) n, va_T.narrow (va_T.moved hA (g4.kept hs.2.1)) n⟩
theorem m_recvS {H : Heap} {k : Nat} (h : ∀ U : State, U.heap = H → s.WarmedH U.vm → va_O "java/lang/String" (E.2.2 k) jN U U.heap) : ∃ cellB : Cell, H[E.2.2 k]? = some cellB ∧ cellB.vm.isStatics = false ∧ s.vm.findClass RJ0 = some cellB.cls := by
  have h9 := h { s with heap := H } rfl (State.WarmedH.refl s)
  obtain ⟨cell, g1, g2, g3, -⟩ := h9
  exact ⟨cell, g1, g2, g3⟩
theorem s_strlen (hj : j < 341) (hF : mFrame l E D tc O j p s mid args meth c) {i : Nat} (hlk : mlk (mSP (mown j)) i = some 4) (hd : decode (mb j) pc = .ok (.invokevirtual i, 3)) (h : mint (mW p l e s mid args below meth c Q E D tc j) C j K (mX O j 3 (.invokespecial 4) pc L S cs ss G d)) : mW p l e s mid args below meth c Q E D tc j (pc, L, S, cs, ss, G, d) := by
  have hw : Jvm.Cond.methodLink (mR (mown j)) i yJ0_length_8abf5 ∈ GW := mSP_use (mown_lt hj) hlk
  have hGW := hF.2.2.2.2.2.1
  simp only [mX] at h
  split at h
  case h_5 =>
    rename_i k S' e0
    obtain ⟨⟨⟨q0, q1⟩, q2, q3, q4⟩, h⟩ := h
    intro H locs ls hl hrep hs h1 h2
    obtain ⟨k, rfl⟩ := Int.eq_ofNat_of_zero_le q0
    obtain ⟨aV, hU⟩ := m_texts hF.2.2.2.2.2.2.2.2.2.2.1 hs (k := k) (by omega)
    refine va_calli (va_runV (As := []) (rest := mst E S') (g := F0 mid pc ls (mst E ((5, (k : Int)) :: S'))) (m_cfix hF) (j_len l (a := E.2.2 k) (aV := aV) (N := (tsl (k : Int)).toNat) (f := fun i => .int (Int32.ofInt (tsc (k : Int) (i : Int)))) H) (cwV (C := RJ0) 0 hGW (jgoodV hw (mjk 25 rfl) (mjk 26 rfl) (mjk 8 rfl) (mjk 23 rfl)) rfl rfl rfl ⟨rfl, by decide, by decide, by decide +kernel⟩ ⟨by show 1 + 1 ≤ mdep j; omega, by show 8 + (1 + 11) + 20 ≤ mneed j; omega⟩) ⟨fun a U g mk q => q, m_recvS (fun U a b => (hU U a b).2.1), fun U hu hW => ⟨rfl, hu, (hU U hu hW).1.2, (hU U hu hW).2⟩⟩ rfl rfl hl.1 rfl (by show 2 * 0 + _ ≤ 8; rw [Nat.mul_zero, Nat.zero_add, m_cats]; exact q3) hd ⟨h1, h2⟩) hs (fun _ _ h => h.elim) (fun _ h => h.elim) (fun r u t H1 locs1 ht hvm hw hB hz9 hk1 hS => ?_)
    have e9 : H1 = H := ht.symm.trans hB
    subst e9
    subst hw
    have e8 : Int32.ofNat (tsl (k : Int)).toNat = Int32.ofInt (tsl (k : Int)) := by
      have := tsl_rng (k : Int) q0 q1
      rw [show tsl (k : Int) = (((tsl (k : Int)).toNat : Nat) : Int) by omega]
      rfl
    rw [e8]
    exact h H1 locs1 ls hl hrep hS h1 h2
  all_goals first | exact absurd h.1 id | (rename_i e0 e1; exact absurd e0 (by decide)) | (simp at *; done)
theorem s_strch (hj : j < 341) (hF : mFrame l E D tc O j p s mid args meth c) {i : Nat} (hlk : mlk (mSP (mown j)) i = some 5) (hd : decode (mb j) pc = .ok (.invokevirtual i, 3)) (h : mint (mW p l e s mid args below meth c Q E D tc j) C j K (mX O j 3 (.invokespecial 5) pc L S cs ss G d)) : mW p l e s mid args below meth c Q E D tc j (pc, L, S, cs, ss, G, d) := by
  have hw : Jvm.Cond.methodLink (mR (mown j)) i yJ0_charAt_5068e ∈ GW := mSP_use (mown_lt hj) hlk
  have hGW := hF.2.2.2.2.2.1
  simp only [mX] at h
  split at h
  case h_6 =>
    rename_i x k S' e0
    obtain ⟨⟨⟨q0, q1, q5, q6⟩, q2, q3, q4⟩, h⟩ := h
    intro H locs ls hl hrep hs h1 h2
    obtain ⟨k, rfl⟩ := Int.eq_ofNat_of_zero_le q0
    obtain ⟨x, rfl⟩ := Int.eq_ofNat_of_zero_le q5
    obtain ⟨aV, hU⟩ := m_texts hF.2.2.2.2.2.2.2.2.2.2.1 hs (k := k) (by omega)
    have hr := tsl_rng (k : Int) q0 q1
    have hx9 : (Int32.ofInt (x : Int)).toNatClampNeg = x := by rw [m_nat (by omega) (by omega)]; rfl
    have hjc := jch_ok k (by omega) x (by omega) q6
    refine va_calli (va_runV (As := [.int (Int32.ofInt (x : Int))]) (rest := mst E S') (g := F0 mid pc ls (mst E ((0, (x : Int)) :: (5, (k : Int)) :: S'))) (m_cfix hF) (j_cha l (i := Int32.ofInt (x : Int)) (a := E.2.2 k) (aV := aV) (N := (tsl (k : Int)).toNat) (f := fun i => Int32.ofInt (tsc (k : Int) (i : Int))) (by omega) (m_in (n := tsl (k : Int)) (by omega) q6 (by omega)) (by rw [hx9]; exact hjc.2) H) (cwV (C := RJ0) 1 hGW (jgoodV hw (mjk 28 rfl) (mjk 29 rfl) (mjk 8 rfl) (mjk 27 rfl)) rfl rfl rfl ⟨rfl, by decide, by decide, by decide +kernel⟩ ⟨by show 3 + 1 ≤ mdep j; omega, by show 8 + (2 + 11) + 64 ≤ mneed j; omega⟩) ⟨fun a U g mk q => q, m_recvS (fun U a b => (hU U a b).2.1), fun U hu hW => ⟨rfl, hu, (hU U hu hW).1.1, (hU U hu hW).1.2, (hU U hu hW).2⟩⟩ rfl rfl hl.1 rfl (by show 2 * 0 + _ ≤ 8; rw [Nat.mul_zero, Nat.zero_add, m_cats]; exact q3) hd ⟨h1, h2⟩) hs (fun _ _ h => h.elim) (fun _ h => h.elim) (fun r u t H1 locs1 ht hvm hw hB hz9 hk1 hS => ?_)
    have e9 : H1 = H := ht.symm.trans hB
    subst e9
    subst hw
    rw [hx9, hjc.1]
    exact h H1 locs1 ls hl hrep hS h1 h2
  all_goals first | exact absurd h.1 id | (rename_i e0 e1; exact absurd e0 (by decide)) | (simp at *; done)
end SSTR
