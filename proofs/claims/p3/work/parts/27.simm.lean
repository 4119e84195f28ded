/-! ===== the four kinds of calls ===== -/
section SM
variable {p : Program} {l : Launch} {e : Env} {s : State} {mid : MethodId} {args : Array Value} {below : List Frame} {meth : Method} {c : Code} {Q : State → Prop}
variable {E : mE} {D : va_G} {tc : Int → ClassId} {O : mO} {j : Nat} {K : mK} {pc : Nat} {L S : List mV} {cs ss : Nat} {G : mG} {d : mD} {H : Heap} {locs : List Loc} {ls : Array Slot}
theorem m_pre (hF : mFrame l E D tc O j p s mid args meth c) (hs : va_S (mAr E) s.heap H locs) (hrep : mRep E D tc G d H) {as : List mV} {A : Array Value} (hA : A = (as.map (mval E)).toArray) : FrameBlind (mPc E D tc O as G d) ∧ ∀ U : State, U.heap = H → s.WarmedH U.vm → mPc E D tc O as G d A U := by
  obtain ⟨hx, hb, hm, hr, hown, hGW, hlocks, hname, htab, hK, hO, hll⟩ := hF
  exact ⟨mFrameBlind, fun U hU hW => ⟨hA, by rw [hU]; exact hrep, va_K.moved hW.alike hK, by rw [hU]; exact mOld_to hO hW hs.1 hs.2.1⟩⟩
theorem m_room {jj : Nat} {as S' : List mV} (h : mbud j jj as S' cs ss) : ((mRm jj).frames + 1 ≤ (mRm j).frames ∧ 8 + (mmaxL jj + 11) + (mRm jj).locals ≤ (mRm j).locals) ∧ Nat.ble (mlay as).length (mmaxL jj) = true ∧ ((mst E S').map fun v => v.category).sum ≤ 8 ∧ cs + mmc jj ≤ mmc j ∧ ss + mms jj ≤ mms j := by
  obtain ⟨h1, h2, h3, h4, h5⟩ := h
  simp only [mroom, Bool.and_eq_true] at h1
  exact ⟨⟨Nat.le_of_ble_eq_true h1.1, Nat.le_of_ble_eq_true h1.2⟩, h2, by rw [m_cats]; exact h3, h4, h5⟩
theorem m_recv {jj : Nat} {as : List mV} (h : mrecv jj as G.1) (hk : mkd jj ≠ 0) (hrep : mRep E D tc G d H) (hmc : mcl jj < 12) : ∃ (a : Int) (as' : List mV), as = (3, a) :: as' ∧ mval E (3, a) = .ref (E.1 + a.toNat) ∧ 0 ≤ a ∧ ∃ cell : Cell, H[E.1 + a.toNat]? = some cell ∧ cell.cls = D.1 (mcl jj) ∧ cell.vm = .none := by
  unfold mrecv at h
  split at h
  · exact absurd (by assumption) hk
  · split at h
    · rename_i a as'
      obtain ⟨h0, h1, -⟩ := hrep.2.2 a (by omega)
      obtain ⟨-, cell, hc, hcl, hv, -⟩ := h1 (by omega)
      refine ⟨a, as', rfl, ?_, h0, cell, hc, ?_, hv⟩
      · simp only [mval]
        rw [if_neg (by omega)]
      · rw [hcl, h]
        rfl
    · exact h.elim
theorem m_run (hj : j < 341) (hF : mFrame l E D tc O j p s mid args meth c) (hE : mEnds p l e s mid args below meth c Q E D tc j K) (hpc : pc < mlen j) {jj : Nat}
    (h : mint (mW p l e s mid args below meth c Q E D tc j) (fun j as G d K' => mSim l E D tc O j (ment j as G d) K') j K (mX O j 3 (.invokestatic jj) pc L S cs ss G d))
    (go : ∀ (H : Heap) (locs : List Loc) (ls : Array Slot) (as S' : List mV), S = as.reverse ++ S' → as.length = mnp jj → mrecv jj as G.1 → mLoc E ls (mmaxL j) L → mRep E D tc G d H → va_S (mAr E) s.heap H locs → mbud j jj as S' cs ss →
      mSim l E D tc O jj (ment jj as G d) (mback j pc L S' (cs + mmc jj) (ss + mms jj) (mW p l e s mid args below meth c Q E D tc j) K) →
      vx_Run p l e (mRm j) s mid args below meth c H locs cs ss (mmc jj) (mms jj) (F0 mid pc ls (mst E S)) (mst E S') (mQc E D tc (mback j pc L S' (cs + mmc jj) (ss + mms jj) (mW p l e s mid args below meth c Q E D tc j) K) (as.map (mval E)).toArray) (mXc E D tc (mback j pc L S' (cs + mmc jj) (ss + mms jj) (mW p l e s mid args below meth c Q E D tc j) K)) (mAr E)) :
    mW p l e s mid args below meth c Q E D tc j (pc, L, S, cs, ss, G, d) := by
  simp only [mX] at h
  split at h
  · rename_i as S' hp
    obtain ⟨ts, ht, hS, hlen⟩ := mpop_out _ _ _ _ _ hp
    rw [List.append_nil] at ht
    subst ht
    obtain ⟨⟨hbud, hrecv⟩, hsim⟩ := h
    intro H locs ls hl hrep hs h1 h2
    exact m_after hj hF hE hpc (go H locs ls _ S' hS hlen hrecv hl hrep hs hbud hsim) hl hs hbud.2.2.2.1 hbud.2.2.2.2
  · exact absurd h.1 id
theorem m_cfix (hF : mFrame l E D tc O j p s mid args meth c) : CallFix p mid c (mb j) (mmaxL j) s args GW (mR (mown j)) := ⟨hF.1, hF.2.1, hF.2.2.1, hF.2.2.2.2.1, hF.2.2.2.2.2.1⟩
theorem s_callV (hj : j < 341) (hF : mFrame l E D tc O j p s mid args meth c) (hE : mEnds p l e s mid args below meth c Q E D tc j K) (hpc : pc < mlen j) {i jj : Nat} (hlk : mlk (mML (mown j)) i = some jj) (hkd : mkd jj = 1)
    (hd : decode (mb j) pc = .ok (.invokevirtual i, 3)) (h : mint (mW p l e s mid args below meth c Q E D tc j) (fun j as G d K' => mSim l E D tc O j (ment j as G d) K') j K (mX O j 3 (.invokestatic jj) pc L S cs ss G d)) :
    mW p l e s mid args below meth c Q E D tc j (pc, L, S, cs, ss, G, d) := by
  obtain ⟨hlink, h0, hjj⟩ := mML_use (mown_lt hj) hlk
  obtain ⟨hini, hn1, hn2, hcls, hs0, hs1, hs2, hs3⟩ := mJ_all h0 hjj
  have hkd0 : mkd jj ≠ 0 := by omega
  obtain ⟨hinst, hdesc, hcn, hmc⟩ := hs1 hkd0
  obtain ⟨hdesc, hnp⟩ := m_len1 hdesc
  have hhh := mkhh hjj hkd0
  refine m_run hj hF hE hpc h (fun H locs ls as S' hS hlen hrecv hl hrep hs hbud hsim => ?_)
  obtain ⟨hR, hlay, hcat, hc, hsl⟩ := m_room (E := E) hbud
  obtain ⟨a, as', rfl, hva, ha0, cell, hcell, hccl, hcvm⟩ := m_recv hrecv hkd0 hrep hmc
  have hpre := m_pre hF hs hrep (as := (3, a) :: as') (A := (Value.ref (E.1 + a.toNat) :: as'.map (mval E)).toArray) (by rw [List.map_cons, hva])
  have hgood : GoodIn GW (wsV (mR (mown j)) i (my jj).cls (my jj) (mws jj)) := by
    intro w hw
    unfold wsV at hw
    rcases List.mem_append.mp hw with hw | hw
    · simp only [List.mem_cons, List.not_mem_nil, or_false] at hw
      rcases hw with rfl | rfl | rfl | rfl
      · exact m_good hlink
      · exact m_good hinst
      · exact m_good (hs2 hkd)
      · exact m_good hini
    · exact m_good (mws_in h0 hjj w hw)
  have hcw := cwV (R := mRm j) (rm := mRm jj) (mc := mmc jj) (ms := mms jj) (own := mR (mown j)) (index := i) (C := (my jj).cls) (mnp jj - 1) hF.2.2.2.2.2.1 hgood (mcode_plain hhh) rfl rfl ⟨rfl, hn1, hn2, hdesc⟩ hR
  obtain ⟨T, ty, hcl9⟩ := mcls hmc
  have hfc : s.vm.findClass (my jj).cls = some (D.1 (mcl jj)) := by
    rw [hcn]
    exact (hF.2.2.2.2.2.2.2.2.2.1.1 _ _ hcl9.1).2.1
  have hr := vx_runV (m_cfix hF) (m_contract hF.2.2.2.2.2.2.2.2.2.2.2 h0 hjj hlay hsim) hcw (H := H) (locs := locs) (cells := cs) (slots := ss) (e := e) (meth := meth) (below := below) (b := E.1 + a.toNat) (As := as'.map (mval E)) (rest := mst E S') (g := F0 mid pc ls (mst E S)) ⟨hpre.1, ⟨cell, hcell, by rw [hcvm]; rfl, by rw [hccl]; exact hfc⟩, hpre.2⟩ rfl
    (by rw [List.length_map]; simp at hlen; omega) hl.1 (by rw [hS]; simp only [mst, List.map_append, List.map_reverse, List.reverse_cons, List.map_cons, hva, List.append_assoc, List.map_nil]; rfl) (by show 2 * 0 + _ ≤ 8; rw [Nat.mul_zero, Nat.zero_add]; exact hcat) hd ⟨hc, hsl⟩
  rw [List.map_cons, hva]
  exact hr
theorem s_callS (hj : j < 341) (hF : mFrame l E D tc O j p s mid args meth c) (hE : mEnds p l e s mid args below meth c Q E D tc j K) (hpc : pc < mlen j) {i jj : Nat} (hlk : mlk (mML (mown j)) i = some jj) (hkd : mkd jj = 0)
    (hd : decode (mb j) pc = .ok (.invokestatic i, 3)) (h : mint (mW p l e s mid args below meth c Q E D tc j) (fun j as G d K' => mSim l E D tc O j (ment j as G d) K') j K (mX O j 3 (.invokestatic jj) pc L S cs ss G d)) :
    mW p l e s mid args below meth c Q E D tc j (pc, L, S, cs, ss, G, d) := by
  obtain ⟨hlink, h0, hjj⟩ := mML_use (mown_lt hj) hlk
  obtain ⟨hini, hn1, hn2, hcls, hs0, hs1, hs2, hs3⟩ := mJ_all h0 hjj
  obtain ⟨hstat, hdesc⟩ := hs0 hkd
  refine m_run hj hF hE hpc h (fun H locs ls as S' hS hlen hrecv hl hrep hs hbud hsim => ?_)
  obtain ⟨hR, hlay, hcat, hc, hsl⟩ := m_room (E := E) hbud
  have hpre := m_pre hF hs hrep (as := as) (A := (as.map (mval E)).toArray) rfl
  have hgood : GoodIn GW (va_wsS (mR (mown j)) i (my jj) (mws jj)) := by
    intro w hw
    unfold va_wsS at hw
    rcases List.mem_append.mp hw with hw | hw
    · simp only [List.mem_cons, List.not_mem_nil, or_false] at hw
      rcases hw with rfl | rfl | rfl
      · exact m_good hlink
      · exact m_good hstat
      · exact m_good hini
    · exact m_good (mws_in h0 hjj w hw)
  have hst : (F0 mid pc ls (mst E S)).stack = (as.map (mval E)).reverse ++ mst E S' := by
    rw [hS]
    simp only [mst, List.map_append, List.map_reverse]
  have hsum : 2 * (F0 mid pc ls (mst E S)).monitorRoom + ((mst E S').map fun v => v.category).sum ≤ 8 := by
    show 2 * 0 + _ ≤ 8
    rw [Nat.mul_zero, Nat.zero_add]
    exact hcat
  have hM := m_contract hF.2.2.2.2.2.2.2.2.2.2.2 h0 hjj hlay hsim
  cases hhh : mhh jj with
  | nil =>
    exact vx_runS (m_cfix hF) hM (va_cwS (R := mRm j) (rm := mRm jj) (mc := mmc jj) (ms := mms jj) (own := mR (mown j)) (index := i) (mnp jj) hF.2.2.2.2.2.1 hgood (mcode_plain hhh) rfl rfl ⟨hn1, hn2, hdesc⟩ hR) (H := H) (locs := locs) (cells := cs) (slots := ss) (e := e) (meth := meth) (below := below) (As := as.map (mval E)) (rest := mst E S') (g := F0 mid pc ls (mst E S)) hpre rfl
      (by rw [List.length_map]; exact hlen) hl.1 hst hsum hd ⟨hc, hsl⟩
  | cons a t =>
    exact vx_runSX (m_cfix hF) hM (vx_cwSW (R := mRm j) (rm := mRm jj) (mc := mmc jj) (ms := mms jj) (own := mR (mown j)) (index := i) (mnp jj) hF.2.2.2.2.2.1 hgood (mcode_with hhh) rfl rfl ⟨hn1, hn2, hdesc⟩ hR) (H := H) (locs := locs) (cells := cs) (slots := ss) (e := e) (meth := meth) (below := below) (As := as.map (mval E)) (rest := mst E S') (g := F0 mid pc ls (mst E S)) hpre rfl
      (by rw [List.length_map]; exact hlen) hl.1 hst hsum hd ⟨hc, hsl⟩
theorem s_callI (hj : j < 341) (hF : mFrame l E D tc O j p s mid args meth c) (hE : mEnds p l e s mid args below meth c Q E D tc j K) (hpc : pc < mlen j) {i jj : Nat} (hlk : mlk (mML (mown j)) i = some jj ∨ mlk (mNL (mown j)) i = some jj) (hkd : mkd jj = 2)
    (hd : decode (mb j) pc = .ok (.invokespecial i, 3)) (h : mint (mW p l e s mid args below meth c Q E D tc j) (fun j as G d K' => mSim l E D tc O j (ment j as G d) K') j K (mX O j 3 (.invokestatic jj) pc L S cs ss G d)) :
    mW p l e s mid args below meth c Q E D tc j (pc, L, S, cs, ss, G, d) := by
  have hr0 : 0 < jj ∧ jj < 341 := by
    rcases hlk with hlk | hlk
    · exact (mML_use (mown_lt hj) hlk).2
    · exact (mNL_use (mown_lt hj) hlk).2
  obtain ⟨h0, hjj⟩ := hr0
  obtain ⟨hini, hn1, hn2, hcls, hs0, hs1, hs2, hs3⟩ := mJ_all h0 hjj
  have hkd0 : mkd jj ≠ 0 := by omega
  obtain ⟨hinst, hdesc, hcn, hmc⟩ := hs1 hkd0
  obtain ⟨hdesc, hnp⟩ := m_len1 hdesc
  obtain ⟨hname, hret⟩ := hs3 hkd0 (by omega)
  have hhh := mkhh hjj hkd0
  refine m_run hj hF hE hpc h (fun H locs ls as S' hS hlen hrecv hl hrep hs hbud hsim => ?_)
  obtain ⟨hR, hlay, hcat, hc, hsl⟩ := m_room (E := E) hbud
  obtain ⟨a, as', rfl, hva, ha0, cell, hcell, hccl, hcvm⟩ := m_recv hrecv hkd0 hrep hmc
  have hpre := m_pre hF hs hrep (as := (3, a) :: as') (A := (Value.ref (E.1 + a.toNat) :: as'.map (mval E)).toArray) (by rw [List.map_cons, hva])
  have hgood : GoodIn GW (mws jj) := fun w hw => m_good (mws_in h0 hjj w hw)
  have hcode : mws jj = Jvm.Cond.code (my jj) (mb jj) (mmaxL jj) none :: GW := by rw [mcode_plain hhh, mrt0 hret]
  have hGW := hF.2.2.2.2.2.1
  have hst : (F0 mid pc ls (mst E S)).stack = (as'.map (mval E)).reverse ++ .ref (E.1 + a.toNat) :: mst E S' := by
    rw [hS]
    simp only [mst, List.map_append, List.map_reverse, List.reverse_cons, List.map_cons, hva, List.append_assoc, List.map_nil]
    rfl
  have hsum : 2 * (F0 mid pc ls (mst E S)).monitorRoom + ((mst E S').map fun v => v.category).sum ≤ 8 := by
    show 2 * 0 + _ ≤ 8
    rw [Nat.mul_zero, Nat.zero_add]
    exact hcat
  have hM := m_contract hF.2.2.2.2.2.2.2.2.2.2.2 h0 hjj hlay hsim
  have hlen' : (as'.map (mval E)).length = mnp jj - 1 := by
    rw [List.length_map]
    simp at hlen
    omega
  rw [List.map_cons, hva]
  rcases hlk with hlk | hlk
  · obtain ⟨hlink, -, -⟩ := mML_use (mown_lt hj) hlk
    exact vx_runI (m_cfix hF) hM (cwI (R := mRm j) (rm := mRm jj) (mc := mmc jj) (ms := mms jj) (own := mR (mown j)) (index := i) (mnp jj - 1) hGW hgood hcode rfl rfl (hGW _ hini) (hGW _ hlink) (hGW _ hinst) hname ⟨hn1, hn2, hdesc⟩ hR) (H := H) (locs := locs) (cells := cs) (slots := ss) (e := e) (meth := meth) (below := below) (b := E.1 + a.toNat) (As := as'.map (mval E)) (rest := mst E S') (g := F0 mid pc ls (mst E S)) hpre rfl
      hlen' hl.1 hst hsum hd ⟨hc, hsl⟩
  · obtain ⟨⟨e9, he9, hi9, hg9⟩, -, -⟩ := mNL_use (mown_lt hj) hlk
    have hnl := hF.2.2.2.2.2.2.2.2.2.2.1.2.1 (mown j) (mown_lt hj) e9 he9
    rw [hi9, hg9] at hnl
    exact vx_runIN (m_cfix hF) hM ⟨va_cnB (R := mRm j) (rm := mRm jj) (mc := mmc jj) (ms := mms jj) (own := mR (mown j)) (index := i) (host := mnest) (mnp jj - 1) hGW hgood hcode rfl rfl hnl (hGW _ hini) ⟨hn1, hn2, hdesc⟩ hR, hname, hGW _ hinst⟩ (H := H) (locs := locs) (cells := cs) (slots := ss) (e := e) (meth := meth) (below := below) (b := E.1 + a.toNat) (As := as'.map (mval E)) (rest := mst E S') (g := F0 mid pc ls (mst E S)) hpre rfl
      hlen' hl.1 hst hsum hd ⟨hc, hsl⟩
end SM
