/-! ===== a callee's contract out of the small machine ===== -/
theorem mown_ok : (List.range 341).all (fun j => Nat.blt (mown j) 16) = true := by decide +kernel
theorem mown_lt {j : Nat} (h : j < 341) : mown j < 16 := by
  have h1 := List.all_eq_true.mp mown_ok j (List.mem_range.mpr h)
  simpa only [Nat.blt_eq] using h1
theorem mdec_ok {j pc : Nat} {r : Instr × Nat} (h : mdec j pc = some r) : decode (mb j) pc = .ok r := by
  unfold mdec at h
  split at h
  · rename_i q hq
    cases h
    exact hq
  · cases h
theorem mthr_out {j o pc e : Nat} (h : mthr j o pc e = true) : ∃ ik is ic k, decode (mb j) pc = .ok (.new ik, 3) ∧ decode (mb j) (pc + 3) = .ok (.dup, 1) ∧ ((decode (mb j) (pc + 4) = .ok (.ldc is, 2) ∧ k = 2) ∨ (decode (mb j) (pc + 4) = .ok (.ldc_w is, 3) ∧ k = 3))
    ∧ decode (mb j) (pc + 4 + k) = .ok (.invokespecial ic, 3) ∧ decode (mb j) (pc + 4 + k + 3) = .ok (.athrow, 1) ∧ (ik, is, ic, e) ∈ mXL o := by
  unfold mthr at h
  split at h
  · rename_i ik is h0 h3 h4
    split at h
    · rename_i ic h6 h9
      exact ⟨ik, is, ic, 2, mdec_ok h0, mdec_ok h3, Or.inl ⟨mdec_ok h4, rfl⟩, mdec_ok h6, mdec_ok h9, List.contains_iff_mem.mp h⟩
    · cases h
  · rename_i ik is h0 h3 h4
    split at h
    · rename_i ic h6 h9
      exact ⟨ik, is, ic, 3, mdec_ok h0, mdec_ok h3, Or.inr ⟨mdec_ok h4, rfl⟩, mdec_ok h6, mdec_ok h9, List.contains_iff_mem.mp h⟩
    · cases h
  · cases h
theorem mexc4 : (List.range 4).all (fun e => mp_exc.any (fun z => mG1 z.2 (.initialized (mEn e)))) = true := by decide +kernel
section SJ
variable {p : Program} {l : Launch} {e : Env} {s : State} {mid : MethodId} {args : Array Value} {below : List Frame} {meth : Method} {c : Code}
variable {E : mE} {D : va_G} {tc : Int → ClassId} {O : mO} {j : Nat} {K : mK}
theorem m_thrw (h0 : 0 < j) (hj : j < 341) (hF : mFrame l E D tc O j p s mid args meth c) : mHthr p l e s mid args below meth c (vx_MQ below (mQc E D tc K) (mXc E D tc K) args s (mmc j) (mms j) (mAr E)) E D tc j K := by
  obtain ⟨hx, hb, hm, hr, hown, hGW, hlocks, hname, htab, hK, hO, hl⟩ := hF
  intro ex G d H locs cs ss pc ls S hk hrep hs hthr hh hroom hsz
  obtain ⟨ik, is, ic, k, d0, d3, d4, d6, d9, hXL⟩ := mthr_out hthr
  have h1 := m_all16 mXL_ok (mown_lt hj) hXL
  simp only [Bool.and_eq_true, Nat.blt_eq] at h1
  obtain ⟨⟨⟨⟨⟨h11, h4⟩, hik⟩, hic⟩, hEL⟩, hTL⟩ := h1
  have h11 := Nat.eq_of_beq_eq_true h11
  have hik := Nat.eq_of_beq_eq_true hik
  have hic := Nat.eq_of_beq_eq_true hic
  obtain ⟨z, hz, hz2⟩ := List.any_eq_true.mp hEL
  simp only [Bool.and_eq_true] at hz2
  have hz3 := m_all16 mEL_ok (o := 11) (by omega) hz
  rw [Nat.eq_of_beq_eq_true hz2.1, Nat.eq_of_beq_eq_true hz2.2] at hz3
  obtain ⟨y, hy, hy2⟩ := List.any_eq_true.mp hTL
  simp only [Bool.and_eq_true] at hy2
  obtain ⟨hO1, hO2, hO3, hO4, hO5, hO6, hO7, hO8, hO9, hO10, hO11, -⟩ := hO
  obtain ⟨sa, hsa⟩ := hO9 y hy
  rw [Nat.eq_of_beq_eq_true hy2.1, Nat.eq_of_beq_eq_true hy2.2] at hsa
  obtain ⟨hat, hfit, x0, x1, x2, x5⟩ := mxa_in h4
  have hexc : Jvm.Cond.initialized (mEn ex) ∈ GW := by
    obtain ⟨y9, -, hy9⟩ := List.any_eq_true.mp (List.all_eq_true.mp mexc4 ex (List.mem_range.mpr h4))
    exact mG1_in hy9
  have hgw : ∀ w ∈ GW, vx_ot w = true := fun w hw => by
    have := (List.mem_filter.mp hw).2
    simp [vx_ot, this]
  have htab : c.exceptionTable.toList = [] := by rw [htab h0, hh]; rfl
  rw [hik] at d0
  rw [hic] at d6
  have hcl : Jvm.Cond.classLink (mR 11) (mik ex) (mEn ex) ∈ GW := by rw [← hik]; exact mG1_in hz3
  exact m_throwX (own := mR 11) (cls := mEn ex) (names := mEs) (ik := mik ex) (is := is) (ic := mic ex) (ix := mix ex) (rx := mrx ex) hx hb hl x0 x1 x2 x5 (by rw [← h11]; exact hown) hfit mEs_fit (hGW _ hcl) (hGW _ hexc) hsa
    (fun w hw => by
      obtain ⟨hot, hw9⟩ := hat w hw
      rcases hw9 with hw9 | hw9
      · exact vx_ot_at (State.WarmedH.refl s) rfl hot (hO1 w hw9)
      · exact hGW w hw9)
    (fun w hw => by
      rcases List.mem_cons.mp hw with rfl | hw
      · exact hgw _ hcl
      · rcases List.mem_cons.mp hw with rfl | hw
        · exact hgw _ hexc
        · exact (hat w hw).1)
    hO7 hO8 hs (by rw [hm]; exact hsz) d0 d3 d4 d6 d9 (fun x hx => by rw [htab] at hx; cases hx) hroom.1
    (by
      have h5 := m_cats E S
      have h6 : mcats S + 82 ≤ (mRm j).locals := hroom.2.1
      have h7 : mEs.length = 2 := rfl
      rw [h5, h7]
      omega)
    hroom.2.2.1 hroom.2.2.2 hlocks
    (fun t hA h5 h6 => ⟨⟨ex, (G.1, G.2.1, -1), d, rfl, h4, hk, mRep_forget hrep h5 h6⟩, Nat.le_trans hs.1 h5, fun q hq hn => by rw [h6 q (Nat.lt_of_lt_of_le hq hs.1)]; exact hs.2.1 q hq hn⟩)
    hs.2.2 hroom.2.2.1 hroom.2.2.2
theorem m_contract (hl : l.stackTraces = false) (h0 : 0 < j) (hj : j < 341) {as : List mV} {G : mG} {d : mD} (hlay : Nat.ble (mlay as).length (mmaxL j) = true) (hsim : mSim l E D tc O j (ment j as G d) K) :
    vx_Met l (my j) (mws j) (mRm j) (mPc E D tc O as G d) (mQc E D tc K) (mXc E D tc K) (mmc j) (mms j) (mAr E) := by
  have hJ := mJ_of h0 hj
  unfold mJm at hJ
  simp only [Bool.and_eq_true, decide_eq_true_eq] at hJ
  obtain ⟨⟨⟨⟨⟨-, hplain⟩, -⟩, -⟩, hcls⟩, -⟩ := hJ
  have go : ∀ p e s m args below meth c s₁, BodyLoose p l (my j) (headSpec (mws j) (mRm j)) (mb j) (mmaxL j) (mrt j) e s m args below meth c s₁ → c.maxLocals = mmaxL j → c.exceptionTable.toList = tableOf (mhh j) → mPc E D tc O as G d args s →
      W p l e (headSpec (mws j) (mRm j)).room s m args below meth c s.heap [] 0 0 (vx_MQ below (mQc E D tc K) (mXc E D tc K) args s (mmc j) (mms j) (mAr E)) (entryFrame m args (mmaxL j)) := by
    intro p e s m args below meth c s₁ B hml ht hP
    obtain ⟨rfl, hrep, hK, hO⟩ := hP
    have hts := atoms_spec (ws := mws j) B.pre
    have hF : mFrame l E D tc O j p s m (as.map (mval E)).toArray meth c := ⟨B.exec, B.bytes, hml, B.returns, by rw [← hcls]; exact findClass_of_methodNamed B.named, fun w hw => hts w (List.mem_cons_of_mem _ hw), B.notSynchronized, fun hn => (name_of_methodNamed B.named B.method).1.trans hn, fun _ => ht, hK, hO, hl⟩
    rw [lg_entry_eq]
    exact hsim hj p e s m _ below meth c _ hF ⟨m_retw B.exec B.bytes B.returns B.notSynchronized, m_thrw h0 hj hF, m_catw (fun hh => by rw [ht, hh]; rfl) B.notSynchronized⟩ s.heap [] _ (mLoc_entry hlay) hrep va_S.rf (Nat.zero_le _) (Nat.zero_le _)
  cases hh : mhh j with
  | nil =>
    refine vx_ofW (cc := mb j) (maxL := mmaxL j) (ret := mrt j) hplain (ws' := GW) (by unfold mws mcode; rw [hh]) (fun p e s m args below meth c s₁ B hml ht hP => go p e s m args below meth c s₁ B hml ?_ hP)
    rw [hh]
    exact List.eq_nil_iff_forall_not_mem.mpr (fun x hx => ht x hx)
  | cons a t =>
    have hw : mws j = Cond.codeWith (my j) (mb j) (mmaxL j) (mrt j) (a :: t) :: GW := by unfold mws mcode; rw [hh]
    refine vx_ofWH (cc := mb j) (maxL := mmaxL j) (ret := mrt j) (hh := a :: t) hplain (ws' := GW) hw (fun p e s m args below meth c s₁ B hml hP => go p e s m args below meth c s₁ B hml ?_ hP)
    rw [hh]
    exact vx_table (x := my j) B (atoms_spec (ws := mws j) B.pre _ (by rw [hw]; exact List.mem_cons_self))
end SJ
