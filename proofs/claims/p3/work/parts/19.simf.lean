/-! ===== rows that are old, statics, constants, new cells ===== -/
theorem mTL_use {o i g : Nat} (ho : o < 16) (h : mlk (mTL o) i = some g) : Jvm.Cond.fieldLink (mR o) i mnest (mStn g) "[I" ∈ GW ∧ g < 2 := by
  obtain ⟨p, hp⟩ := mlk_in h
  have h1 := m_all16 mTL_ok ho hp
  have h2 := m_all16 (q := fun _ e => Nat.blt e.2.1 2) (by decide +kernel : (List.range 16).all (fun o => (mTL o).all (fun e => Nat.blt e.2.1 2)) = true) ho hp
  simp only [Nat.blt_eq] at h2
  exact ⟨mG1_in h1, h2⟩
theorem mTN_lt {o i g p : Nat} (ho : o < 16) (hp : (i, g, p) ∈ mTN o) : g < 2 := by
  have h2 := m_all16 (q := fun _ e => Nat.blt e.2.1 2) (by decide +kernel : (List.range 16).all (fun o => (mTN o).all (fun e => Nat.blt e.2.1 2)) = true) ho hp
  simpa only [Nat.blt_eq] using h2
theorem mCL_use {o i g : Nat} (ho : o < 16) (h : mlk (mCL o) i = some g) : Jvm.Cond.classLink (mR o) i (mCn g) ∈ GW ∧ g < 12 := by
  obtain ⟨p, hp⟩ := mlk_in h
  have h1 := m_all16 mCL_ok ho hp
  have h2 := m_all16 (q := fun _ e => Nat.blt e.2.1 12) (by decide +kernel : (List.range 16).all (fun o => (mCL o).all (fun e => Nat.blt e.2.1 12)) = true) ho hp
  simp only [Nat.blt_eq] at h2
  exact ⟨mG1_in h1, h2⟩
theorem mKL_use {o i : Nat} {g : Int} (ho : o < 16) (h : mlkI (mKL o) i = some g) : Jvm.Cond.constant (mR o) i (Int32.ofInt g) ∈ GW := by
  obtain ⟨p, hp⟩ := mlkI_in h
  exact mG1_in (m_all16 mKL_ok ho hp)
theorem mQL_use {o i : Nat} {g : Int} (ho : o < 16) (h : mlkI (mQL o) i = some g) : Jvm.Cond.constantLong (mR o) i (Int64.ofInt g) ∈ GW := by
  obtain ⟨p, hp⟩ := mlkI_in h
  exact mG1_in (m_all16 mQL_ok ho hp)
theorem mnew_use {k : Nat} (h : k < 12) : Jvm.Cond.instantiable (mCn k) (mnf k) ∈ GW ∧ Jvm.Cond.initialized (mCn k) ∈ GW := by
  have h1 := List.all_eq_true.mp mnew_ok k (List.mem_range.mpr h)
  simp only [Bool.and_eq_true] at h1
  exact ⟨mG1_in h1.1, mG1_in h1.2⟩
theorem marr_ok : (mG1 1085 (.arrayClass .int) && mG1 1086 (.arrayClass .boolean) && mG1 1104 (.arrayClass .long) && mG1 2058 (.arrayClass .byte)) = true := by decide +kernel
theorem marr_use : Jvm.Cond.arrayClass .int ∈ GW ∧ Jvm.Cond.arrayClass .boolean ∈ GW ∧ Jvm.Cond.arrayClass .long ∈ GW ∧ Jvm.Cond.arrayClass .byte ∈ GW := by
  have h := marr_ok
  simp only [Bool.and_eq_true] at h
  exact ⟨mG1_in h.1.1.1, mG1_in h.1.1.2, mG1_in h.1.2, mG1_in h.2⟩
/-- a new cell at the end -/
theorem mRep_new {E : mE} {D : va_G} {tc : Int → ClassId} {G : mG} {d d' : mD} {H H' : Heap} {k n : Int} (hr : mRep E D tc G d H) (h0 : 0 ≤ G.2.2) (hk : 0 ≤ k) (hz : H'.size = H.size + 1) (ho : ∀ q : Nat, q < H.size → H'[q]? = H[q]?) (hd : ∀ b, b ≠ G.2.2 → d' b = d b)
    (hO : k < 100 → mcellO E D G.2.2 k (d' G.2.2) H') (hA : 100 ≤ k → mcellA E tc G.2.2 k n (d' G.2.2) H') : mRep E D tc (mkind G.1 G.2.2 k, mkind G.2.1 G.2.2 n, G.2.2 + 1) d' H' := by
  have hs := hr.2.1 h0
  refine ⟨by rw [hz]; have := hr.1; omega, fun _ => by rw [hz, hs]; show _ = E.1 + (G.2.2 + 1).toNat; omega, fun b hb => ?_⟩
  simp only [mkind] at hb ⊢
  by_cases e : b = G.2.2
  · subst e
    rw [if_pos rfl, if_pos rfl]
    exact ⟨h0, hO, hA⟩
  · rw [if_neg e] at hb ⊢
    rw [if_neg e, hd b e]
    obtain ⟨h1, h2, h3⟩ := hr.2.2 b hb
    have hlt : E.1 + b.toNat < H.size := by
      by_cases h9 : G.1 b < 100
      · obtain ⟨-, cell, hc, -⟩ := h2 h9
        exact (Array.getElem?_eq_some_iff.mp hc).1
      · obtain ⟨-, -, -, hc⟩ := h3 (by omega)
        exact (Array.getElem?_eq_some_iff.mp hc).1
    have hq := ho _ hlt
    exact ⟨h1, fun h => ⟨(h2 h).1, (h2 h).2.kept hq⟩, fun h => ⟨(h3 h).1, (h3 h).2.1, (h3 h).2.2.1, by rw [hq]; exact (h3 h).2.2.2⟩⟩
theorem mS_new {A : Nat → Prop} {H0 H H' : Heap} {locs : List Loc} (hs : va_S A H0 H locs) (hz : H'.size = H.size + 1) (ho : ∀ q : Nat, q < H.size → H'[q]? = H[q]?) : va_S A H0 H' locs :=
  ⟨Nat.le_trans hs.1 (by omega), fun x h1 h2 => (ho x (Nat.lt_of_lt_of_le h1 hs.1)).trans (hs.2.1 x h1 h2), hs.2.2⟩
theorem mfill_ne {d : mD} {a v b : Int} (h : b ≠ a) : mfill d a v b = d b := by
  funext j
  simp [mfill, h]
theorem m_ldcS {p : Program} {l : Launch} {e : Env} {R : Room} {s : State} {m : MethodId} {args : Array Value} {below : List Frame} {meth : Method} {c : Code} {H : Heap} {locs : List Loc} {cells slots : Nat} {Q : State → Prop} {cc : ByteArray} {pc : Nat} {ls : Array Slot} {rest : List Value}
    (hx : p.tables.exec = Jvm.exec) (hb : c.code = cc) {own text : String} {index sa : Nat} (hown : s.vm.findClass own = some m.cls) (hstr : vk_R own index text sa s) (hd : decode cc pc = .ok (.ldc index, 2))
    (k : W p l e R s m args below meth c H locs cells slots Q (F0 m (pc + 2) ls (.ref sa :: rest))) : W p l e R s m args below meth c H locs cells slots Q (F0 m pc ls rest) := by
  intro T hT X
  obtain ⟨t, a, b⟩ := k T hT X
  have h1 : (Jvm.Cond.stringRef own index text).before args s = true := (vk_R.same (u := s) rfl hstr).1
  exact ⟨t, X.ldcString hx (own := own) (text := text) (index := index) (a := sa) hown hstr.1 hstr.2 (g := F0 m pc ls rest) rfl (by rw [hb]; exact hd) t a, b⟩
section SE
variable {p : Program} {l : Launch} {e : Env} {s : State} {mid : MethodId} {args : Array Value} {below : List Frame} {meth : Method} {c : Code} {Q : State → Prop}
variable {E : mE} {D : va_G} {tc : Int → ClassId} {O : mO} {j : Nat}
variable {C : Nat → List mV → mG → mD → mK → Prop} {K : mK} {pc len : Nat} {L S : List mV} {cs ss : Nat} {G : mG} {d : mD} {H : Heap} {o : Nat}

theorem s_iaload (hx : p.tables.exec = Jvm.exec) (hb : c.code = mb j) (hK : va_K D vwCl (mtys tc) s) (hOld : mOld E O (mAr E) s s.heap) (hd : decode (mb j) pc = .ok (.iaload, 1)) (h : mint (mW p l e s mid args below meth c Q E D tc j) C j K (mX O j 1 (.iaload) pc L S cs ss G d)) : mW p l e s mid args below meth c Q E D tc j (pc, L, S, cs, ss, G, d) := by
  obtain ⟨-, -, -, -, hst, hsc, -⟩ := hOld
  simp only [mX] at h
  split at h
  · rename_i i a S'
    obtain ⟨⟨q0, q1, q2⟩, h⟩ := h
    intro H locs ls hl hr hs h1 h2
    obtain ⟨ha, hm, hn0, hn, hc⟩ := mRep_row hr (by decide) q0
    rw [mval_row ha _ (0, _) rfl]
    have hlt : i.toNat < (G.2.1 a).toNat := by omega
    exact W.iald (v := .int (Int32.ofInt (d a i))) hx hb hc ((m_tys hK hm).1 _ _) (fun q => by cases q) (by rw [arrV_size]; exact m_in q1 q2 (by omega)) (by rw [m_nat q1 (by omega), arrV_read _ _ hlt]; simp only [mrow, Int.toNat_of_nonneg q1]; rfl) rfl rfl hd (h H locs ls hl hr hs h1 h2)
  · rename_i i k S'
    obtain ⟨⟨q0, q1, q2⟩, h⟩ := h
    intro H locs ls hl hr hs h1 h2
    obtain rfl | rfl | rfl : k = 0 ∨ k = 1 ∨ k = 2 := q0
    · obtain ⟨-, hT, h5⟩ := hst 0 (by decide)
      have h5 : O.1 0 = 5 := h5
      exact va_ti hx hb hT hs (by rw [h5] at q2; exact m_in q1 q2 (by omega)) (v := .int (Int32.ofInt (O.2 0 i))) (by rw [m_nat q1 (by omega)]; simp only [Int.toNat_of_nonneg q1]; rfl) hd (h H locs ls hl hr hs h1 h2)
    · obtain ⟨-, hT, h5⟩ := hst 1 (by decide)
      have h5 : O.1 1 = 5 := h5
      exact va_ti hx hb hT hs (by rw [h5] at q2; exact m_in q1 q2 (by omega)) (v := .int (Int32.ofInt (O.2 1 i))) (by rw [m_nat q1 (by omega)]; simp only [Int.toNat_of_nonneg q1]; rfl) hd (h H locs ls hl hr hs h1 h2)
    · obtain ⟨h7, h8, hX, hlt, hnA⟩ := hsc
      have kk := h H locs ls hl hr hs h1 h2
      refine va_sld hx hb hX hlt hnA hs (i := Int32.ofInt i) (m_in q1 q2 (by omega)) hd ?_
      rw [m_nat q1 (by omega)]
      simp only [Int.toNat_of_nonneg q1]
      exact kk
  · exact absurd h.1 id
theorem s_arraylength (hx : p.tables.exec = Jvm.exec) (hb : c.code = mb j) (hK : va_K D vwCl (mtys tc) s) (hOld : mOld E O (mAr E) s s.heap) (hd : decode (mb j) pc = .ok (.arraylength, 1)) (h : mint (mW p l e s mid args below meth c Q E D tc j) C j K (mX O j 1 (.arraylength) pc L S cs ss G d)) : mW p l e s mid args below meth c Q E D tc j (pc, L, S, cs, ss, G, d) := by
  obtain ⟨-, -, -, -, hst, hsc, -⟩ := hOld
  simp only [mX] at h
  split at h
  · rename_i k S'
    obtain ⟨q0, h⟩ := h
    intro H locs ls hl hr hs h1 h2
    subst q0
    obtain ⟨h7, h8, hX, hlt, hnA⟩ := hsc
    have kk := h H locs ls hl hr hs h1 h2
    refine va_slen hx hb hX hlt hnA hs hd ?_
    rw [show Int32.ofNat (O.1 2).toNat = Int32.ofInt (O.1 2) by rw [← Int32.ofInt_eq_ofNat, Int.toNat_of_nonneg h7]]
    exact kk
  · rename_i a S'
    obtain ⟨q0, h⟩ := h
    intro H locs ls hl hr hs h1 h2
    obtain ⟨ha, hm, hn0, hn, hc⟩ := mRep_row hr q0 rfl
    rw [mval_own ha]
    refine W.alen (n := Int32.ofInt (G.2.1 a)) hx hb hc ((m_tys hK hm).1 _ _) (by rw [arrV_size]; exact (by rw [← Int32.ofInt_eq_ofNat, Int.toNat_of_nonneg hn0] : Int32.ofNat (G.2.1 a).toNat = _)) rfl rfl hd (h H locs ls hl hr hs h1 h2)
  · exact absurd h.1 id
theorem s_getstatic (hx : p.tables.exec = Jvm.exec) (hb : c.code = mb j) {idx g : Nat} (hG : ∀ w ∈ GW, w.before args s = true) (ho : o < 16) (hown : s.vm.findClass (mR o) = some mid.cls) (hOld : mOld E O (mAr E) s s.heap) (hlk : mlk (mTL o) idx = some g) (hd : decode (mb j) pc = .ok (.getstatic idx, 3)) (h : mint (mW p l e s mid args below meth c Q E D tc j) C j K (mX O j 3 (.getstatic g) pc L S cs ss G d)) : mW p l e s mid args below meth c Q E D tc j (pc, L, S, cs, ss, G, d) := by
  obtain ⟨hw, hg⟩ := mTL_use ho hlk
  obtain ⟨-, -, -, -, hst, -⟩ := hOld
  intro H locs ls hl hr hs h1 h2
  exact va_gets hx hb (hst g hg).1 hs hown (hG _ hw) (fun _ z => z) hd (h H locs ls hl hr hs h1 h2)
theorem s_getstaticN (hx : p.tables.exec = Jvm.exec) (hb : c.code = mb j) {idx g : Nat} (hG : ∀ w ∈ GW, w.before args s = true) (ho : o < 16) (hown : s.vm.findClass (mR o) = some mid.cls) (hOld : mOld E O (mAr E) s s.heap) (hlk : mlk (mTN o) idx = some g) (hd : decode (mb j) pc = .ok (.getstatic idx, 3)) (h : mint (mW p l e s mid args below meth c Q E D tc j) C j K (mX O j 3 (.getstatic g) pc L S cs ss G d)) : mW p l e s mid args below meth c Q E D tc j (pc, L, S, cs, ss, G, d) := by
  obtain ⟨p9, hp⟩ := mlk_in hlk
  have hg := mTN_lt ho hp
  obtain ⟨-, -, hn, -, hst, -⟩ := hOld
  intro H locs ls hl hr hs h1 h2
  have hl9 : (Jvm.Cond.fieldLinkNest (mR o) idx mnest (mStn g) "[I" mnest).before args s = true := va_Nw.use (w := .fieldLinkNest (mR o) idx mnest (mStn g) "[I" mnest) (by rfl) (hn o ho _ hp)
  exact va_getsN (C := mnest) (n := mStn g) (d := "[I") (own := mR o) (ref := mnest) (host := mnest) (v := .ref (E.2.1 g)) hx hb (hst g hg).1 hs hown hl9 (fun _ z => z) hd (h H locs ls hl hr hs h1 h2)
theorem s_ldcI (hx : p.tables.exec = Jvm.exec) (hb : c.code = mb j) {idx : Nat} {g : Int} (hG : ∀ w ∈ GW, w.before args s = true) (ho : o < 16) (hown : s.vm.findClass (mR o) = some mid.cls) (hlk : mlkI (mKL o) idx = some g) (hd : decode (mb j) pc = .ok (.ldc idx, 2)) (h : mint (mW p l e s mid args below meth c Q E D tc j) C j K (mX O j 2 (.sipush g) pc L S cs ss G d)) : mW p l e s mid args below meth c Q E D tc j (pc, L, S, cs, ss, G, d) := by
  exact mW_go hx hb h (fun H locs ls hl k => lv_ldc hx hb hown (hG _ (mKL_use ho hlk)) hd k)
theorem s_ldcwI (hx : p.tables.exec = Jvm.exec) (hb : c.code = mb j) {idx : Nat} {g : Int} (hG : ∀ w ∈ GW, w.before args s = true) (ho : o < 16) (hown : s.vm.findClass (mR o) = some mid.cls) (hlk : mlkI (mKL o) idx = some g) (hd : decode (mb j) pc = .ok (.ldc_w idx, 3)) (h : mint (mW p l e s mid args below meth c Q E D tc j) C j K (mX O j 3 (.sipush g) pc L S cs ss G d)) : mW p l e s mid args below meth c Q E D tc j (pc, L, S, cs, ss, G, d) := by
  exact mW_go hx hb h (fun H locs ls hl k => lv_ldcw hx hb hown (hG _ (mKL_use ho hlk)) hd k)
theorem s_ldc2 (hx : p.tables.exec = Jvm.exec) (hb : c.code = mb j) {idx : Nat} {g : Int} (hG : ∀ w ∈ GW, w.before args s = true) (ho : o < 16) (hown : s.vm.findClass (mR o) = some mid.cls) (hlk : mlkI (mQL o) idx = some g) (hd : decode (mb j) pc = .ok (.ldc2_w idx, 3)) (h : mint (mW p l e s mid args below meth c Q E D tc j) C j K (mX O j 3 (.jsr_w g) pc L S cs ss G d)) : mW p l e s mid args below meth c Q E D tc j (pc, L, S, cs, ss, G, d) := by
  exact mW_go hx hb h (fun H locs ls hl k => lv_ldc2 hx hb hown (hG _ (mQL_use ho hlk)) hd k)
theorem s_ldcS (hx : p.tables.exec = Jvm.exec) (hb : c.code = mb j) {idx g : Nat} (hG : ∀ w ∈ GW, w.before args s = true) (ho : o < 16) (hown : s.vm.findClass (mR o) = some mid.cls) (hOld : mOld E O (mAr E) s s.heap) (hlk : mlk (mSL o) idx = some g) (hd : decode (mb j) pc = .ok (.ldc idx, 2)) (h : mint (mW p l e s mid args below meth c Q E D tc j) C j K (mX O j 2 (.ldc g) pc L S cs ss G d)) : mW p l e s mid args below meth c Q E D tc j (pc, L, S, cs, ss, G, d) := by
  obtain ⟨p9, hp⟩ := mlk_in hlk
  obtain ⟨-, -, -, -, -, -, -, -, -, hsl, -⟩ := hOld
  exact mW_go hx hb h (fun H locs ls hl k => m_ldcS hx hb hown (hsl o ho _ hp) hd k)
theorem s_new (hx : p.tables.exec = Jvm.exec) (hb : c.code = mb j) {idx g : Nat} (hG : ∀ w ∈ GW, w.before args s = true) (ho : o < 16) (hown : s.vm.findClass (mR o) = some mid.cls) (hK : va_K D vwCl (mtys tc) s) (hlk : mlk (mCL o) idx = some g) (hd : decode (mb j) pc = .ok (.new idx, 3)) (h : mint (mW p l e s mid args below meth c Q E D tc j) C j K (mX O j 3 (.new g) pc L S cs ss G d)) : mW p l e s mid args below meth c Q E D tc j (pc, L, S, cs, ss, G, d) := by
  obtain ⟨hw, hg⟩ := mCL_use ho hlk
  obtain ⟨T, ty, hT⟩ := mcls hg
  obtain ⟨hi1, hi2⟩ := mnew_use hg
  simp only [mX] at h
  obtain ⟨⟨q0, q1, q2⟩, h⟩ := h
  intro H locs ls hl hr hs h1 h2
  have hKn := hK.1 g _ hT.1
  have hsz := hr.2.1 q0
  have e9 : mst E ((3, G.2.2) :: S) = .ref H.size :: mst E S := by rw [mval_own q0, hsz]
  refine W.newcK hx hb hown (hG _ hw) (hG _ hi1) (hG _ hi2) rfl hd q1 q2 hKn.2.1 rfl fun H' kC hkC e1 z1 o1 => ?_
  have kk := h H' locs ls hl ?_ (mS_new hs z1 o1) q1 q2
  · rw [e9] at kk
    exact kk
  · refine mRep_new hr q0 (by omega) z1 o1 (fun b hb9 => by funext z; simp [hb9]) (fun _ => ⟨by omega, ?_⟩) (fun h9 => by omega)
    have hb9 := u_born ty hG (mcls_ws hg hT) hKn hkC e1 hT.2.2.1
    rw [hsz] at hb9
    refine hb9.to (fun i hi => ?_)
    rw [hT.2.2.2.2.1 E.1 i hi]
    simp only [mfun, if_true, Int.toNat_natCast]
theorem s_anewarray (hx : p.tables.exec = Jvm.exec) (hb : c.code = mb j) {idx g : Nat} (hG : ∀ w ∈ GW, w.before args s = true) (ho : o < 16) (hown : s.vm.findClass (mR o) = some mid.cls) (hK : va_K D vwCl (mtys tc) s) (hOld : mOld E O (mAr E) s s.heap) (hlk : mlk (mCL o) idx = some g) (hg9 : g = 1 ∨ g = 6) (hd : decode (mb j) pc = .ok (.anewarray idx, 3)) (h : mint (mW p l e s mid args below meth c Q E D tc j) C j K (mX O j 3 (.anewarray g) pc L S cs ss G d)) : mW p l e s mid args below meth c Q E D tc j (pc, L, S, cs, ss, G, d) := by
  obtain ⟨hw, hg⟩ := mCL_use ho hlk
  obtain ⟨-, -, -, hAO, -⟩ := hOld
  simp only [mX] at h
  split at h
  · rename_i n S'
    obtain ⟨⟨q0, q1, q2, q3, q4⟩, h⟩ := h
    intro H locs ls hl hr hs h1 h2
    have hsz := hr.2.1 q2
    have e9 : mst E ((3, G.2.2) :: S') = .ref H.size :: mst E S' := by rw [mval_own q2, hsz]
    have hover : va_AO (mCn g) s := by
      rcases hg9 with rfl | rfl
      · exact hAO.1
      · exact hAO.2
    have hmk : (200 + (g : Int)) ∈ mkinds ∧ metyF (200 + (g : Int)) = .object (mCn g) := by
      rcases hg9 with rfl | rfl
      · exact ⟨by decide, rfl⟩
      · exact ⟨by decide, rfl⟩
    have hn : (Int32.ofInt n).toNatClampNeg = n.toNat := m_nat q0 (by omega)
    refine W.anew hx hb hown (hG _ hw) (va_AO.use hover) rfl hd rfl (m_nneg q0 (by omega)) (by rw [hn]; omega) q3 (by rw [hn]; exact q4) fun cA kA comp f1 f2 f3 f4 => ?_
    rw [hn]
    have hcA : cA = tc (200 + (g : Int)) := by
      have h9 := (m_tys hK hmk.1).2
      rw [hmk.2] at h9
      obtain ⟨_, _, _, _, _, h9⟩ := h9
      exact Option.some.inj (f1.symm.trans h9)
    generalize hH1 : H.push ({ cls := cA, slots := Array.replicate n.toNat .null, vm := .none } : Cell) = H1
    have z1 : H1.size = H.size + 1 := by rw [← hH1, Array.size_push]
    have e1 : H1[H.size]? = some (arrV cA n.toNat (fun _ => .null)) := by rw [← hH1, Array.getElem?_push_size, ← arrV_new]
    have o1 : ∀ q : Nat, q < H.size → H1[q]? = H[q]? := fun q hq => by rw [← hH1, Array.getElem?_push, if_neg (Nat.ne_of_lt hq)]
    have kk := h H1 locs ls hl ?_ (mS_new hs z1 o1) q3 q4
    · rw [e9] at kk
      exact kk
    · refine mRep_new hr q2 (by omega) z1 o1 (fun b hb9 => mfill_ne hb9) (fun h9 => by omega) (fun _ => ⟨hmk.1, q0, q1, ?_⟩)
      rw [← hsz, e1, hcA]
      congr 2
      funext z
      simp only [mrow, mfill, if_true]
      rw [show mety (200 + (g : Int)) = 4 by rcases hg9 with rfl | rfl <;> rfl]
      rfl
  · exact absurd h.1 id
theorem s_newarray (hx : p.tables.exec = Jvm.exec) (hb : c.code = mb j) {t : ArrayType} (hG : ∀ w ∈ GW, w.before args s = true) (ho : o < 16) (hown : s.vm.findClass (mR o) = some mid.cls) (hK : va_K D vwCl (mtys tc) s) (hd : decode (mb j) pc = .ok (.newarray t, 2)) (h : mint (mW p l e s mid args below meth c Q E D tc j) C j K (mX O j 2 (.newarray t) pc L S cs ss G d)) : mW p l e s mid args below meth c Q E D tc j (pc, L, S, cs, ss, G, d) := by
  simp only [mX] at h
  split at h
  · rename_i n S'
    obtain ⟨⟨q0, q1, q2, q3, q4, q5⟩, h⟩ := h
    intro H locs ls hl hr hs h1 h2
    have hsz := hr.2.1 q2
    have e9 : mst E ((3, G.2.2) :: S') = .ref H.size :: mst E S' := by rw [mval_own q2, hsz]
    have hn : (Int32.ofInt n).toNatClampNeg = n.toNat := m_nat q0 (by omega)
    have hmk : matyp t ∈ mkinds ∧ metyF (matyp t) = newarray.typeOf t ∧ Jvm.Cond.arrayClass (newarray.typeOf t) ∈ GW ∧ componentBytes (newarray.typeOf t) ≤ 8 ∧ (∀ B, defaultValue (newarray.typeOf t) = mslot B (mety (matyp t)) 0) ∧ 100 ≤ matyp t := by
      have ma := marr_use
      cases t <;> first | exact absurd rfl q5 | exact ⟨by decide, rfl, ma.1, by decide, fun _ => rfl, by decide⟩ | exact ⟨by decide, rfl, ma.2.1, by decide, fun _ => rfl, by decide⟩ | exact ⟨by decide, rfl, ma.2.2.1, by decide, fun _ => rfl, by decide⟩ | exact ⟨by decide, rfl, ma.2.2.2, by decide, fun _ => rfl, by decide⟩
    obtain ⟨m1, m2, m3, m4, m5, m6⟩ := hmk
    have hbytes : n.toNat * componentBytes (newarray.typeOf t) ≤ 536870912 := Nat.le_trans (Nat.mul_le_mul (show n.toNat ≤ 100000 by omega) m4) (by decide)
    refine va_newaK hx hb (hG _ m3) rfl hd rfl (m_nneg q0 (by omega)) hn hbytes q3 q4 rfl fun H1 cA e1 z1 o1 hAr hNm => ?_
    have hcA : cA = tc (matyp t) := by
      have h9 := (m_tys hK m1).2
      rw [m2] at h9
      have h9 : s.vm.findClass ("[" ++ (newarray.typeOf t).toString) = some (tc (matyp t)) := by
        cases t <;> exact h9
      exact Option.some.inj (hNm.symm.trans h9)
    have kk := h H1 locs ls hl ?_ (mS_new hs z1 o1) q3 q4
    · rw [e9] at kk
      exact kk
    · refine mRep_new hr q2 (by omega) z1 o1 (fun b hb9 => mfill_ne hb9) (fun h9 => by omega) (fun _ => ⟨m1, q0, q1, ?_⟩)
      rw [← hsz, e1, hcA]
      congr 2
      funext z
      simp only [mrow, mfill, if_true]
      exact m5 E.1
  · exact absurd h.1 id
theorem s_aastore (hx : p.tables.exec = Jvm.exec) (hb : c.code = mb j) (hK : va_K D vwCl (mtys tc) s) (hd : decode (mb j) pc = .ok (.aastore, 1)) (h : mint (mW p l e s mid args below meth c Q E D tc j) C j K (mX O j 1 (.aastore) pc L S cs ss G d)) : mW p l e s mid args below meth c Q E D tc j (pc, L, S, cs, ss, G, d) := by
  simp only [mX] at h
  split at h
  · rename_i v i a S'
    obtain ⟨⟨q0, q3, q4, q1, q2⟩, h⟩ := h
    intro H locs ls hl hr hs h1 h2
    obtain ⟨ha, hm, hn0, hn, hc⟩ := mRep_row hr (by omega) (rfl : G.1 a = G.1 a)
    have hq : G.1 a = 201 ∨ G.1 a = 206 := by
      simp only [mkinds, List.mem_cons, List.not_mem_nil, or_false] at hm
      omega
    obtain ⟨g, hg9, hga⟩ : ∃ g : Nat, (g = 1 ∨ g = 6) ∧ G.1 a = 200 + (g : Int) := by
      rcases hq with q | q
      · exact ⟨1, Or.inl rfl, q⟩
      · exact ⟨6, Or.inr rfl, q⟩
    have hgv : G.1 v = (g : Int) := by omega
    obtain ⟨hv0, hO, -⟩ := hr.2.2 v (by omega)
    obtain ⟨-, cellV, g1, g2, g3, -⟩ := hO (by rcases hg9 with rfl | rfl <;> omega)
    have hg12 : g < 12 := by rcases hg9 with rfl | rfl <;> decide
    obtain ⟨T, ty, hT⟩ := mcls hg12
    have hcls := (hK.1 g _ hT.1).2
    have hmE : metyF (G.1 a) = .object (mCn g) := by
      rw [hga]
      rcases hg9 with rfl | rfl <;> rfl
    have hra := (m_tys hK hm).2
    rw [hmE] at hra
    obtain ⟨kA, comp, k1, k2, k3, -⟩ := hra
    have hcomp : comp = D.1 g := Option.some.inj (k3.symm.trans hcls.1)
    subst hcomp
    obtain ⟨kC, hkC, -⟩ := hcls.2
    rw [hgv, Int.toNat_natCast] at g2
    have e9 : mst E ((3, v) :: (0, i) :: (3, a) :: S') = .ref (E.1 + v.toNat) :: .int (Int32.ofInt i) :: .ref (E.1 + a.toNat) :: mst E S' := by
      have h8 := mval_own (E := E) ha S'
      have h9 := mval_own (E := E) hv0 ((0, i) :: (3, a) :: S')
      rw [h9]
      simp only [mst, List.map_cons] at h8 ⊢
      rw [h8]
      rfl
    rw [e9]
    have hlt : i.toNat < (G.2.1 a).toNat := by omega
    refine W.aast hx hb hc (fun q h => by cases h) (fun h => by cases h) k1 k2 rfl hkC ⟨m_nneg q1 (by omega), by rw [m_nat q1 (by omega), arrV_size]; exact hlt⟩ g1 (fun q h => by rw [g3] at h; cases h) (by rw [g2]; exact hkC) (by rw [g2]; exact va_assign hcls) rfl rfl hd fun H' e1 e2 e3 => ?_
    refine h H' _ ls hl (mRep_upd hr (by omega) e2 e3 (fun b hb9 => mset_ne hb9) (fun h9 => by omega) (fun _ => ?_)) (hs.put e2 e3 (by show E.1 ≤ _; omega)) h1 h2
    refine ⟨hm, hn0, hn, ?_⟩
    rw [← mset_upd E (G.1 a) d a i v q1, ← arrV_store, e1, m_nat q1 (by omega)]
    congr 2
    rw [hga, show mety (200 + (g : Int)) = 4 by rcases hg9 with rfl | rfl <;> rfl]
    show Value.ref _ = if v < 0 then Value.null else Value.ref (E.1 + v.toNat)
    rw [if_neg (by omega)]
  · exact absurd h.1 id
end SE
