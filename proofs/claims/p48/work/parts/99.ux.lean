/-! ===== the law, for every script ===== -/
theorem law_run {E : mO × tW} {K : tK} (hT : TKL E) (hL : 0 ≤ E.1.1 2 ∧ E.1.1 2 ≤ 3072) (hI : ∀ i, inI (E.1.2 2 i)) (hK : ∀ d, K (.inl (some (0, 1))) d) : ∀ (n : Nat) (x4 : Int) (c s : Nat) (d : mD) (v5 v6 v7 v8 : tV), 0 ≤ x4 → x4 ≤ 4000 → E.1.1 2 - x4 ≤ 6 * (n : Int) → c + 4 * (n + 1) ≤ 601024 → s + 24 * (n + 1) ≤ 7293034 → Inv2 E d → tRun E 0 (23, [.inl (4, 2), .inr (10, 0), .inr (11, 769), .inr (30, 778), .inl (0, x4), v5, v6, v7, v8], [], c, s, d) K := by
  intro n
  induction n with
  | zero =>
    intro x4 c s d v5 v6 v7 v8 h0 h1 h2 h3 h4 h
    exact lstep hT h ⟨h0, by omega⟩ ⟨hL.1, by omega⟩ hI ⟨by omega, by omega⟩ (hK d) (fun _ _ _ _ _ _ _ _ _ _ z => by omega)
  | succ n ih =>
    intro x4 c s d v5 v6 v7 v8 h0 h1 h2 h3 h4 h
    refine lstep hT h ⟨h0, by omega⟩ ⟨hL.1, by omega⟩ hI ⟨by omega, by omega⟩ (hK d) (fun w5 w6 w7 w8 c2 s2 d2 a b e z => ?_)
    refine t_0_end ?_
    exact ih (x4 + 6) c2 s2 d2 w5 w6 w7 w8 (by omega) (by omega) (by omega) (by omega) (by omega) e
theorem gLx {ρ : Nat → Int} {v : aV} {vs : List aV} {l : List mV} (h : gL ρ (v :: vs) l) : ∃ w ws, l = w :: ws ∧ gV ρ v w ∧ gL ρ vs ws := by
  cases l with
  | nil => exact h.elim
  | cons w ws => exact ⟨w, ws, rfl, h.1, h.2⟩
theorem gLn {ρ : Nat → Int} {l : List mV} (h : gL ρ [] l) : l = [] := by
  cases l with
  | nil => rfl
  | cons w ws => exact h.elim
theorem gV_c {ρ : Nat → Int} {k : Nat} {c : Int} {w : mV} (h : gV ρ (k, 0, c) w) : w = (k, c) := Prod.ext h.1.symm h.2
theorem p_law {L : Nat} (hL : L ≤ 3072) (xs : Nat → Int32) {ρ : Nat → Int} {w : mSt} (hw : gS ρ aS1 w) : mRun (mO0 L xs) 0 w mKlaw := by
  obtain ⟨pc, Lc, S, c, s, G, d⟩ := w
  obtain ⟨h1, h2, h3, h4, h5, h6⟩ := hw
  have h1 : 23 = pc := h1
  have h2 : gL ρ [(4, 0, 2), (3, 0, 0), (3, 0, 769), (3, 0, 778), (0, 0, 0), (7, 0, 0), (7, 0, 0), (7, 0, 0), (7, 0, 0)] Lc := h2
  have h3 : gL ρ [] S := h3
  have h4 : 842 = c := h4
  have h5 : 69893 = s := h5
  have h6 : gM ρ aM1 779 true G d := h6
  subst h1 h4 h5
  obtain ⟨w0, l0, rfl, g0, h2⟩ := gLx h2
  obtain ⟨w1, l1, rfl, g1, h2⟩ := gLx h2
  obtain ⟨w2, l2, rfl, g2, h2⟩ := gLx h2
  obtain ⟨w3, l3, rfl, g3, h2⟩ := gLx h2
  obtain ⟨w4, l4, rfl, g4, h2⟩ := gLx h2
  obtain ⟨w5, l5, rfl, g5, h2⟩ := gLx h2
  obtain ⟨w6, l6, rfl, g6, h2⟩ := gLx h2
  obtain ⟨w7, l7, rfl, g7, h2⟩ := gLx h2
  obtain ⟨w8, l8, rfl, g8, h2⟩ := gLx h2
  obtain rfl := gLn h2
  obtain rfl := gLn h3
  obtain rfl := gV_c g0
  obtain rfl := gV_c g1
  obtain rfl := gV_c g2
  obtain rfl := gV_c g3
  obtain rfl := gV_c g4
  obtain rfl := gV_c g5
  obtain rfl := gV_c g6
  obtain rfl := gV_c g7
  obtain rfl := gV_c g8
  have tk := tok_start h6
  have hT : TKL (mO0 L xs, (G.1, G.2.1)) := by
    refine ⟨?_, w55, tk⟩
    unfold EOK mO0
    refine ⟨rfl, rfl, ⟨rfl, rfl, rfl, rfl, rfl⟩, rfl, rfl, rfl, rfl, rfl⟩
  have e2 : (mO0 L xs).1 2 = (L : Int) := rfl
  have hI : ∀ i, inI ((mO0 L xs).2 2 i) := fun i => by
    have a1 := Int32.le_toInt (xs i.toNat)
    have a2 := Int32.toInt_lt (xs i.toNat)
    show inI (xs i.toNat).toInt
    unfold inI
    omega
  obtain ⟨c1, c2⟩ := ci_start h6
  have hr := law_run (E := (mO0 L xs, (G.1, G.2.1))) (K := fun r _ => r = .inl (some (0, 1))) hT ⟨by show 0 ≤ (mO0 L xs).1 2; omega, by show (mO0 L xs).1 2 ≤ 3072; omega⟩ hI (fun _ => rfl) 512 0 842 69893 d tu tu tu tu (by decide) (by decide) (by show (mO0 L xs).1 2 - 0 ≤ _; omega) (by decide) (by decide) ⟨⟨safe_start h6, tSh_of h6, c1⟩, c2⟩
  exact hr G.2.2 mKlaw ⟨trivial, tk (10, 0) (by decide), tk (11, 769) (by decide), tk (30, 778) (by decide), trivial, trivial, trivial, trivial, trivial, trivial⟩ trivial (tSh_of h6) (fun r _ _ _ hk => hk)
def p_rho (xs : Nat → Int32) (i : Nat) : Int := if i = 6 then miand (xs 0).toInt 63 else (xs i).toInt
theorem p_I0 {L : Nat} (xs : Nat → Int32) : gI (p_rho xs) (0, []) (mO0 L xs) := by
  refine ⟨fun h => absurd rfl h, by simp [p_rho], fun i hi => absurd hi (Nat.not_lt_zero i), fun i hi => absurd hi (by simp), fun k hk => ⟨?_, fun i => ?_⟩⟩
  · simp only [mO0]
    rw [if_neg (by omega)]
  · simp only [mO0]
    rw [if_neg (by omega)]
    simp
theorem p_run {L : Nat} (hL : L ≤ 3072) (xs : Nat → Int32) : mRun (mO0 L xs) 0 (mlaw0 (fun _ _ => 0)) mKlaw := by
  refine aRun_ok 8000 (0, []) 0 astart (fun _ _ => false) (p_I0 xs) p_pre (mlaw0 (fun _ _ => 0)) ⟨rfl, gL_pad (ρ := p_rho xs) _ (S := [(4, 0, 2)]) (S' := [(4, 2)]) ⟨⟨rfl, rfl⟩, trivial⟩, trivial, rfl, rfl, fun _ => rfl, fun a ha => absurd ha (Nat.not_lt_zero a)⟩ mKlaw (fun I' r _ h => (by cases h)) (fun _ I' st' _ hz w' hw' => ?_)
  obtain rfl := asEq_ok _ _ hz
  exact p_law hL xs hw'
theorem whole_start {p : Program} {e : Env} {s : State} {m : MethodId} {below : List Frame} {meth : Method} {c : Code} (l : Launch) (hflags : l.flags = flags0) {b L : Nat} {xs : Nat → Int32} (hL : L ≤ 3072) (C0 : lw_At p s m meth c b L xs) : W p l e room_1 s m #[Value.ref b] below meth c s.heap [] 0 0 (lw_Z below #[Value.ref b] s) (entryFrame m ([Value.ref b] : List Value).toArray 9) :=
  m_law l hflags (by omega) C0 (p_run hL xs)
set_option maxHeartbeats 4000000 in
theorem lw_walk (l : Launch) (hflags : l.flags = flags0) (b : Addr) (xs : List Int32) : MetFree l x (headSpec (Jvm.Cond.code x code maxLocals ret :: tables_1) room_1) (lw_P b xs) (fun _ _ _ _ _ => True) lw_Q := by
  refine MetFree.of_bodyS (code := code) (maxLocals := maxLocals) (ret := ret) (by decide) ?_ ?_
  · intro args s m h hn
    obtain ⟨meth, c, h1, h2, h3, h4, h5, h6, -, -⟩ := Cond.code_spec hn (atoms_spec (ws := Jvm.Cond.code x code maxLocals ret :: tables_1) h _ List.mem_cons_self)
    exact ⟨meth, c, h1, h2, h3, h4, h5, h6⟩
  · intro p e s m args below meth c s₁ B hml0 hP _
    obtain ⟨rfl, hx, hbd, hgv⟩ := hP
    obtain ⟨scr, harrAt, hlist, hof, hsmall⟩ := hx
    obtain ⟨hcb, hkn, -, -⟩ := State.arrayAt?_spec harrAt
    have hown : s.vm.findClass R_law = some m.cls := findClass_of_methodNamed B.named
    have hts0 : ∀ c ∈ (Jvm.Cond.code x code maxLocals ret :: tables_1), c.before #[Value.ref b] s = true := atoms_spec (ws := Jvm.Cond.code x code maxLocals ret :: tables_1) B.pre
    have hts : ∀ w ∈ lw_tbl, w.before #[Value.ref b] s = true := k2_hts_sels lw_privs (fun w hw => hts0 w (List.mem_cons_of_mem _ hw)) lw_privs_ok
    have hml : c.maxLocals = 9 := B.maxLocals_eq (hts0 _ List.mem_cons_self)
    have X₀ : Stand p l e room_1 s m #[Value.ref b] below meth c s₁ [] 0 0 := Stand.of_body B
    have hh0 : s₁.heap = s.heap := by rw [B.state]; rfl
    have hsz : scr.slots.size = xs.length := by rw [← Array.length_toList, hlist, List.length_map]
    have hval : ∀ j : Nat, j < xs.length → scr.slots[j]? = some (.int (xs.getD j 0)) := fun j hj => by
      rw [← Array.getElem?_toList, hlist]
      simp [hj]
    have hbl : b < s.heap.size := (Array.getElem?_eq_some_iff.mp hcb).1
    have hX : va_X b xs.length (fun j => xs.getD j 0) s s.heap := ⟨scr, hcb, hof, hkn, hsz, hval⟩
    have K : W p l e room_1 s m #[Value.ref b] below meth c s₁.heap [] 0 0 (lw_Z below #[Value.ref b] s) (entryFrame m ([Value.ref b] : List Value).toArray 9) := by
      rw [hh0]
      exact whole_start l hflags hbd ⟨B.exec, B.bytes, B.returns, hml, hown, hts, hX, hbl, B.notSynchronized, hgv⟩
    obtain ⟨t, a1, o, b1, b2, b3⟩ := K s₁ rfl X₀
    exact ⟨t, o, a1, b1, b2, b3⟩
theorem lw_pre_spec {args : Array Value} {s : State} (h : (Jvm.Cond.and given_1 narrow_1).before args s = true) (hr : rest_1_c.before args s = true) : ∃ (b : Addr) (xs : List Int32), lw_P b xs args s := by
  have hs := flat_of_before _ h
  have hq := flat_of_before _ hr
  have hc : (Cond.count 1).before args s = true := hs _ (by decide +kernel)
  have harr : (Cond.arrayOf (.arg 0) .int).before args s = true := hs _ (by decide +kernel)
  have hle : (Cond.le (.length (.arg 0)) (.int 3072)).before args s = true := hs _ (by decide +kernel)
  have hlen : (Cond.isInt (.length (.arg 0))).before args s = true := hq _ (by decide +kernel)
  have hall : (Cond.all (.arg 0) (.isInt (.elem (.arg 0) (.index 0)))).before args s = true := hq _ (by decide +kernel)
  obtain ⟨b, xs, hb, hx⟩ := State.ints_of_pre rfl harr hlen hall
  have hsm : xs.length < 2 ^ 31 := hx.choose_spec.2.2.2
  have hev : (Term.length (.arg 0)).eval args s none [] s = some (.int xs.length.toInt32) := hx.length_eval hb
  have hv := Cond.le_ints hev (show (Term.int 3072).eval args s none [] s = some (.int 3072) from rfl)
  have hd : xs.length.toInt32 ≤ 3072 := by
    simpa [Cond.before, Cond.holds, hv] using hle
  have hN : xs.length ≤ 3072 := (Int32.ofNat_le_ofNat hsm (by decide)).mp (show Int32.ofNat xs.length ≤ Int32.ofNat 3072 from hd)
  exact ⟨b, xs, Cond.one_arg hc (show args[0]? = some (.ref b) from hb), hx, hN, h⟩
theorem lw_comes (l : Launch) (hflags : l.flags = flags0) : Comes l x (Jvm.Cond.code x code maxLocals ret :: tables_1) room_1 (fun tb e args s => Calls_1 tb e args s ∧ rest_1 tb e args s ∧ Pre_1 tb e args s)
    (fun _ _ args s o t => lw_Q args s o t) := by
  intro p e ha hc hk s m args below hf hfit hheap happ hpre
  obtain ⟨b, xs, hP⟩ := lw_pre_spec hpre.2.2 hpre.2.1
  obtain ⟨k, o, h1, h2, h3, hQ⟩ := lw_walk l hflags b xs p e ha hc hk s m args below hf ((Spec.applies_iff_loose hf).mp happ).1 hP trivial
  exact ⟨k, o, h1, h2, h3, hQ⟩
theorem lw_frame {s t : State} {o : Outcome} {args : Array Value} (h : State.butDraws s t lw_cs (fun t1 => Framed s o t1 [] 601024 7293034)) :
    State.butDraws s t [Jvm.Choice.named "NaN.bits"] (fun t1 => Framed s o t1 (fieldLocs frame_1_writes args s ++ arrayLocs frame_1_arrays args s ++ staticLocs frame_1_statics s) 601024 7293034) := h
theorem lw_limb (L : Cond) (hL : ∀ (args : Array Value) (s t : State), L.after args s (.returned (some (.int 1))) t = true) :
    ArmFor flags0 classFile x code maxLocals ret World_1 tables_1 room_1 Calls_1 rest_1 Pre_1
      (fun tb e a s o t => postC L tb e a s o t ∧ State.butDraws s t [Jvm.Choice.named "NaN.bits"] (fun t1 => Framed s o t1 (fieldLocs frame_1_writes a s ++ arrayLocs frame_1_arrays a s ++ staticLocs frame_1_statics s) 601024 7293034)) := by
  intro l hflags _ _ p e ha hc hk s m args below hf hfit hheap happ hpre
  obtain ⟨k, o, h1, h2, h3, rfl, hF⟩ := lw_comes l hflags p e ha hc hk s m args below hf hfit hheap happ hpre
  exact ⟨k, _, h1, h2, h3, hL args s _, lw_frame hF⟩
theorem i_vc : Claimed_1_1 ∧ Claimed_1_2 := ⟨lw_limb limb_1_1 (fun args s t => by simp [limb_1_1, Cond.after, Cond.holds, Cond.value]), lw_limb limb_1_2 (fun args s t => Cond.after_iff.mpr (by
  first | (rw [show limb_1_2 = Cond.eq .result (.int 1) from rfl, Cond.eq_ints (x := 1) (y := 1) rfl rfl]; simp; done) | (simp [limb_1_2, Cond.value, Term.eval]; done)))⟩
