/-! ===== the law, for every script of at most six numbers ===== -/
set_option maxRecDepth 100000 in
theorem p1_o26_151 : aRun [] 100000 aZ 20000 (aopq 26 (151, 200) aFull) 0 (aS2 1664 843 69899) aend = true := by decide +kernel
theorem p1_o26 : p1_OK 26 := fun hI hw => p1_two p1_o26a hI (fun _ hJ hw2 => by
    rename_i ρ O w w2
    by_cases h2 : ρ 1 ≤ 80
    · exact p1_from (gI_lo (q := (1, 80)) hJ (by decide) h2) p1_o26_0 hw2
    · have hJ := gI_hi (q := (1, 80)) hJ (by decide) (by show (80 : Int) < ρ 1; omega)
      by_cases h3 : ρ 1 ≤ 150
      · exact p1_from (gI_lo (q := (1, 150)) hJ (by decide) h3) p1_o26_81 hw2
      · exact p1_from (gI_hi (q := (1, 150)) hJ (by decide) (by show (150 : Int) < ρ 1; omega)) p1_o26_151 hw2) hw
set_option maxRecDepth 100000 in
theorem p1_o25_0_141 : aRun [] 100000 aZ 20000 (aopq 25 (0, 0) (141, 200)) 0 (aS2 1602 844 69905) aend = true := by decide +kernel
set_option maxRecDepth 100000 in
theorem p1_o25_1_141 : aRun [] 100000 aZ 20000 (aopq 25 (1, 1) (141, 200)) 0 (aS2 1602 844 69905) aend = true := by decide +kernel
theorem p1_o25 : p1_OK 25 := fun hI hw => p1_two p1_o25a hI (fun _ hJ hw2 => by
    rename_i ρ O w w2
    by_cases h1 : ρ 1 ≤ 0
    · have hJ := gI_lo (q := (1, 0)) hJ (by decide) h1
      by_cases h2 : ρ 2 ≤ 70
      · exact p1_from (gI_lo (q := (2, 70)) hJ (by decide) h2) p1_o25_0_0 hw2
      · have hJ := gI_hi (q := (2, 70)) hJ (by decide) (by show (70 : Int) < ρ 2; omega)
        by_cases h3 : ρ 2 ≤ 140
        · exact p1_from (gI_lo (q := (2, 140)) hJ (by decide) h3) p1_o25_0_71 hw2
        · exact p1_from (gI_hi (q := (2, 140)) hJ (by decide) (by show (140 : Int) < ρ 2; omega)) p1_o25_0_141 hw2
    · have hJ := gI_hi (q := (1, 0)) hJ (by decide) (by show (0 : Int) < ρ 1; omega)
      by_cases h2 : ρ 2 ≤ 70
      · exact p1_from (gI_lo (q := (2, 70)) hJ (by decide) h2) p1_o25_1_0 hw2
      · have hJ := gI_hi (q := (2, 70)) hJ (by decide) (by show (70 : Int) < ρ 2; omega)
        by_cases h3 : ρ 2 ≤ 140
        · exact p1_from (gI_lo (q := (2, 140)) hJ (by decide) h3) p1_o25_1_71 hw2
        · exact p1_from (gI_hi (q := (2, 140)) hJ (by decide) (by show (140 : Int) < ρ 2; omega)) p1_o25_1_141 hw2) hw
theorem miand_63 (x : Int) : 0 ≤ miand x 63 ∧ miand x 63 ≤ 63 := by
  have e : miand x 63 = ((Int32.ofInt x).toBitVec &&& 63#32).toInt := rfl
  have h1 : ((Int32.ofInt x).toBitVec &&& 63#32).toNat ≤ 63 := by
    rw [BitVec.toNat_and]
    exact Nat.and_le_right
  have h2 : ((Int32.ofInt x).toBitVec &&& 63#32).toInt = (((Int32.ofInt x).toBitVec &&& 63#32).toNat : Int) := BitVec.toInt_eq_toNat_of_lt (by omega)
  rw [e, h2]
  exact ⟨by omega, by omega⟩
def p1_rho (xs : Nat → Int32) (i : Nat) : Int := if i = 6 then miand (xs 0).toInt 63 else (xs i).toInt
theorem p1_I0 {L : Nat} (hL : L ≤ 6) (xs : Nat → Int32) : gI (p1_rho xs) (L, []) (mO0 L xs) := by
  refine ⟨by simp [mO0], by simp [p1_rho], fun i hi => ?_, fun i hi => absurd hi (by simp), fun k hk => ⟨?_, fun i => ?_⟩⟩
  · have hi : i < L := hi
    simp only [mO0, p1_rho, if_pos]
    rw [if_neg (by omega)]
    simp
  · simp only [mO0]
    rw [if_neg (by omega)]
  · simp only [mO0]
    rw [if_neg (by omega)]
    simp
theorem p1_I6 (xs : Nat → Int32) {a b : Int} (ha : a ≤ miand (xs 0).toInt 63) (hb : miand (xs 0).toInt 63 ≤ b) : gI (p1_rho xs) (aops a b) (mO0 6 xs) := by
  obtain ⟨h1, h2, h3, -, h5⟩ := p1_I0 (Nat.le_refl 6) xs
  refine ⟨h1, h2, h3, fun i hi => ?_, h5⟩
  have hr : ∀ j, j < 6 → aFull.1 ≤ p1_rho xs j ∧ p1_rho xs j ≤ aFull.2 := fun j hj => by
    unfold p1_rho
    rw [if_neg (by omega)]
    have g1 := Int32.le_toInt (xs j)
    have g2 := Int32.toInt_lt (xs j)
    show (-2147483648 : Int) ≤ _ ∧ _ ≤ (2147483647 : Int)
    exact ⟨by omega, by omega⟩
  match i, hi with
  | 0, _ => exact hr 0 (by omega)
  | 1, _ => exact hr 1 (by omega)
  | 2, _ => exact hr 2 (by omega)
  | 3, _ => exact hr 3 (by omega)
  | 4, _ => exact hr 4 (by omega)
  | 5, _ => exact hr 5 (by omega)
  | 6, _ => exact ⟨ha, hb⟩
  | i + 7, h => exact absurd h (by simp [aops])
theorem p1_all : ∀ k : Nat, k < 47 → p1_OK (k : Int)
  | 0, _ => p1_ofok p1_o0
  | 1, _ => p1_ofok p1_o1
  | 2, _ => p1_ofok p1_o2
  | 3, _ => p1_ofok p1_o3
  | 4, _ => p1_ofok p1_o4
  | 5, _ => p1_ofok p1_o5
  | 6, _ => p1_ofok p1_o6
  | 7, _ => p1_ofok p1_o7
  | 8, _ => p1_ofok p1_o8
  | 9, _ => p1_ofok p1_o9
  | 10, _ => p1_ofok p1_o10
  | 11, _ => p1_ofok p1_o11
  | 12, _ => p1_ofok p1_o12
  | 13, _ => p1_ofok p1_o13
  | 14, _ => p1_ofok p1_o14
  | 15, _ => p1_ofok p1_o15
  | 16, _ => p1_ofok p1_o16
  | 17, _ => p1_ofok p1_o17
  | 18, _ => p1_ofok p1_o18
  | 19, _ => p1_ofok p1_o19
  | 20, _ => p1_ofok p1_o20
  | 21, _ => p1_ofok p1_o21
  | 22, _ => p1_ofok p1_o22
  | 23, _ => p1_ofok p1_o23
  | 24, _ => p1_ofok p1_o24
  | 25, _ => p1_o25
  | 26, _ => p1_o26
  | 27, _ => p1_ofok p1_o27
  | 28, _ => p1_ofok p1_o28
  | 29, _ => p1_ofok p1_o29
  | 30, _ => p1_ofok p1_o30
  | 31, _ => p1_ofok p1_o31
  | 32, _ => p1_ofok p1_o32
  | 33, _ => p1_ofok p1_o33
  | 34, _ => p1_o34
  | 35, _ => p1_ofok p1_o35
  | 36, _ => p1_ofok p1_o36
  | 37, _ => p1_ofok p1_o37
  | 38, _ => p1_ofok p1_o38
  | 39, _ => p1_ofok p1_o39
  | 40, _ => p1_ofok p1_o40
  | 41, _ => p1_ofok p1_o41
  | 42, _ => p1_ofok p1_o42
  | 43, _ => p1_ofok p1_o43
  | 44, _ => p1_ofok p1_o44
  | 45, _ => p1_ofok p1_o45
  | 46, _ => p1_ofok p1_o46
  | k + 47, h => absurd h (by omega)
theorem p1_preL {L : Nat} (hL : L ≤ 6) : aRun [] 23 (fun _ st => asEq st aS1) 8000 (L, []) 0 astart (fun _ _ => false) = true := by
  match L, hL with
  | 0, _ => exact p1_pre0
  | 1, _ => exact p1_pre1
  | 2, _ => exact p1_pre2
  | 3, _ => exact p1_pre3
  | 4, _ => exact p1_pre4
  | 5, _ => exact p1_pre5
  | 6, _ => exact p1_pre6
  | L + 7, h => exact absurd h (by omega)
theorem p1_run {L : Nat} (hL : L ≤ 6) (xs : Nat → Int32) : mRun (mO0 L xs) 0 (mlaw0 (fun _ _ => 0)) mKlaw := by
  refine aRun_ok 8000 (L, []) 0 astart (fun _ _ => false) (p1_I0 hL xs) (p1_preL hL) (mlaw0 (fun _ _ => 0)) ⟨rfl, gL_pad (ρ := p1_rho xs) _ (S := [(4, 0, 2)]) (S' := [(4, 2)]) ⟨⟨rfl, rfl⟩, trivial⟩, trivial, rfl, rfl, fun _ => rfl, fun a ha => absurd ha (Nat.not_lt_zero a)⟩ mKlaw (fun I' r _ h => (by cases h)) (fun _ I' st' _ hz w' hw' => ?_)
  obtain rfl := asEq_ok _ _ hz
  by_cases h6 : L = 6
  · subst h6
    obtain ⟨m0, m1⟩ := miand_63 (xs 0).toInt
    by_cases hk : miand (xs 0).toInt 63 < 47
    · obtain ⟨k, hk2⟩ := Int.eq_ofNat_of_zero_le m0
      exact p1_all k (by omega) (p1_I6 xs (by omega) (by omega)) hw'
    · exact p1_from (p1_I6 xs (by omega) m1) p1_none hw'
  · exact p1_from (p1_I0 hL xs) (List.all_eq_true.mp p1_short L (List.mem_range.mpr (by omega))) hw'
theorem whole_start {p : Program} {e : Env} {s : State} {m : MethodId} {below : List Frame} {meth : Method} {c : Code} (l : Launch) (hflags : l.flags = flags0) {b L : Nat} {xs : Nat → Int32} (hL : L ≤ 6) (C0 : lw_At p s m meth c b L xs) : W p l e room_1 s m #[Value.ref b] below meth c s.heap [] 0 0 (lw_Z below #[Value.ref b] s) (entryFrame m ([Value.ref b] : List Value).toArray 9) :=
  m_law l hflags (by omega) C0 (p1_run hL xs)
set_option maxHeartbeats 4000000 in
theorem lw_walk (l : Launch) (hflags : l.flags = flags0) (b : Addr) (xs : List Int32) : MetFree l x (headSpec (Jvm.Cond.code x code maxLocals ret :: tables_1) room_1) (lw_P b xs) (fun _ _ _ _ _ => True) lw_Q := by
  refine MetFree.of_bodyS (code := code) (maxLocals := maxLocals) (ret := ret) (by decide) ?_ ?_
  · intro args s m h hn
    obtain ⟨meth, c, h1, h2, h3, h4, h5, h6, -, -⟩ := Cond.code_spec hn (atoms_spec (ws := Jvm.Cond.code x code maxLocals ret :: tables_1) h _ List.mem_cons_self)
    exact ⟨meth, c, h1, h2, h3, h4, h5, h6⟩
  · intro p e s m args below meth c s₁ B hml0 hP _
    obtain ⟨rfl, hx, hbd, hgv⟩ := hP
    obtain ⟨scr, harrAt, hlist, hof, hsmall⟩ := hx
    obtain ⟨hcb, hkn, -, -⟩ := State.arrayAt?_spec harrAt
    have hown : s.vm.findClass R_law = some m.cls := findClass_of_methodNamed B.named
    have hts0 : ∀ c ∈ (Jvm.Cond.code x code maxLocals ret :: tables_1), c.before #[Value.ref b] s = true := atoms_spec (ws := Jvm.Cond.code x code maxLocals ret :: tables_1) B.pre
    have hts : ∀ w ∈ lw_tbl, w.before #[Value.ref b] s = true := k2_hts_sels lw_privs (fun w hw => hts0 w (List.mem_cons_of_mem _ hw)) lw_privs_ok
    have hml : c.maxLocals = 9 := B.maxLocals_eq (hts0 _ List.mem_cons_self)
    have X₀ : Stand p l e room_1 s m #[Value.ref b] below meth c s₁ [] 0 0 := Stand.of_body B
    have hh0 : s₁.heap = s.heap := by rw [B.state]; rfl
    have hsz : scr.slots.size = xs.length := by rw [← Array.length_toList, hlist, List.length_map]
    have hval : ∀ j : Nat, j < xs.length → scr.slots[j]? = some (.int (xs.getD j 0)) := fun j hj => by
      rw [← Array.getElem?_toList, hlist]
      simp [hj]
    have hbl : b < s.heap.size := (Array.getElem?_eq_some_iff.mp hcb).1
    have hX : va_X b xs.length (fun j => xs.getD j 0) s s.heap := ⟨scr, hcb, hof, hkn, hsz, hval⟩
    have K : W p l e room_1 s m #[Value.ref b] below meth c s₁.heap [] 0 0 (lw_Z below #[Value.ref b] s) (entryFrame m ([Value.ref b] : List Value).toArray 9) := by
      rw [hh0]
      exact whole_start l hflags hbd ⟨B.exec, B.bytes, B.returns, hml, hown, hts, hX, hbl, B.notSynchronized, hgv⟩
    obtain ⟨t, a1, o, b1, b2, b3⟩ := K s₁ rfl X₀
    exact ⟨t, o, a1, b1, b2, b3⟩
theorem lw_pre_spec {args : Array Value} {s : State} (h : (Jvm.Cond.and given_1 narrow_1).before args s = true) (hr : rest_1_c.before args s = true) : ∃ (b : Addr) (xs : List Int32), lw_P b xs args s := by
  have hs := flat_of_before _ h
  have hq := flat_of_before _ hr
  have hc : (Cond.count 1).before args s = true := hs _ (by decide +kernel)
  have harr : (Cond.arrayOf (.arg 0) .int).before args s = true := hs _ (by decide +kernel)
  have hle : (Cond.le (.length (.arg 0)) (.int 6)).before args s = true := hs _ (by decide +kernel)
  have hlen : (Cond.isInt (.length (.arg 0))).before args s = true := hq _ (by decide +kernel)
  have hall : (Cond.all (.arg 0) (.isInt (.elem (.arg 0) (.index 0)))).before args s = true := hq _ (by decide +kernel)
  obtain ⟨b, xs, hb, hx⟩ := State.ints_of_pre rfl harr hlen hall
  have hsm : xs.length < 2 ^ 31 := hx.choose_spec.2.2.2
  have hev : (Term.length (.arg 0)).eval args s none [] s = some (.int xs.length.toInt32) := hx.length_eval hb
  have hv := Cond.le_ints hev (show (Term.int 6).eval args s none [] s = some (.int 6) from rfl)
  have hd : xs.length.toInt32 ≤ 6 := by
    simpa [Cond.before, Cond.holds, hv] using hle
  have hN : xs.length ≤ 6 := (Int32.ofNat_le_ofNat hsm (by decide)).mp (show Int32.ofNat xs.length ≤ Int32.ofNat 6 from hd)
  exact ⟨b, xs, Cond.one_arg hc (show args[0]? = some (.ref b) from hb), hx, hN, h⟩
theorem lw_comes (l : Launch) (hflags : l.flags = flags0) : Comes l x (Jvm.Cond.code x code maxLocals ret :: tables_1) room_1 (fun tb e args s => Calls_1 tb e args s ∧ rest_1 tb e args s ∧ Pre_1 tb e args s)
    (fun _ _ args s o t => lw_Q args s o t) := by
  intro p e ha hc hk s m args below hf hfit hheap happ hpre
  obtain ⟨b, xs, hP⟩ := lw_pre_spec hpre.2.2 hpre.2.1
  obtain ⟨k, o, h1, h2, h3, hQ⟩ := lw_walk l hflags b xs p e ha hc hk s m args below hf ((Spec.applies_iff_loose hf).mp happ).1 hP trivial
  exact ⟨k, o, h1, h2, h3, hQ⟩
theorem lw_frame {s t : State} {o : Outcome} {args : Array Value} (h : State.butDraws s t lw_cs (fun t1 => Framed s o t1 [] 600002 7302232)) :
    State.butDraws s t [Jvm.Choice.named "NaN.bits"] (fun t1 => Framed s o t1 (fieldLocs frame_1_writes args s ++ arrayLocs frame_1_arrays args s ++ staticLocs frame_1_statics s) 600002 7302232) := h
theorem lw_limb (L : Cond) (hL : ∀ (args : Array Value) (s t : State), L.after args s (.returned (some (.int 1))) t = true) :
    ArmFor flags0 classFile x code maxLocals ret World_1 tables_1 room_1 Calls_1 rest_1 Pre_1
      (fun tb e a s o t => postC L tb e a s o t ∧ State.butDraws s t [Jvm.Choice.named "NaN.bits"] (fun t1 => Framed s o t1 (fieldLocs frame_1_writes a s ++ arrayLocs frame_1_arrays a s ++ staticLocs frame_1_statics s) 600002 7302232)) := by
  intro l hflags _ _ p e ha hc hk s m args below hf hfit hheap happ hpre
  obtain ⟨k, o, h1, h2, h3, rfl, hF⟩ := lw_comes l hflags p e ha hc hk s m args below hf hfit hheap happ hpre
  exact ⟨k, _, h1, h2, h3, hL args s _, lw_frame hF⟩
theorem i_vc : Claimed_1_1 ∧ Claimed_1_2 := ⟨lw_limb limb_1_1 (fun args s t => by simp [limb_1_1, Cond.after, Cond.holds, Cond.value]), lw_limb limb_1_2 (fun args s t => Cond.after_iff.mpr (by
  first | (rw [show limb_1_2 = Cond.eq .result (.int 1) from rfl, Cond.eq_ints (x := 1) (y := 1) rfl rfl]; simp; done) | (simp [limb_1_2, Cond.value, Term.eval]; done)))⟩
