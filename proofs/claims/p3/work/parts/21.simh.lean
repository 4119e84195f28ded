/-! ===== a method of the small machine as a contract of the machine ===== -/
def mws (j : Nat) : List Jvm.Cond := mcode j :: GW
def mRetOk (j : Nat) : Instr → Option mV → Prop
  | .ireturn, some (0, x) => mret1 j x
  | .lreturn, some (1, _) => mret j = 3
  | .dreturn, some (2, _) => mret j = 4
  | .return_, none => mret j = 0
  | _, _ => False
def mFrame (l : Launch) (E : mE) (D : va_G) (tc : Int → ClassId) (O : mO) (j : Nat) (p : Program) (s : State) (mid : MethodId) (args : Array Value) (meth : Method) (c : Code) : Prop :=
  p.tables.exec = Jvm.exec ∧ c.code = mb j ∧ c.maxLocals = mmaxL j ∧ meth.sig.returnType = mrt j ∧ s.vm.findClass (mR (mown j)) = some mid.cls ∧ (∀ w ∈ GW, w.before args s = true) ∧ meth.locks = false
    ∧ ((my j).name = "<init>" → meth.name = "<init>") ∧ (0 < j → c.exceptionTable.toList = tableOf (mhh j)) ∧ va_K D vwCl (mtys tc) s ∧ mOld E O (mAr E) s s.heap ∧ l.stackTraces = false
section SH
variable (p : Program) (l : Launch) (e : Env) (s : State) (mid : MethodId) (args : Array Value) (below : List Frame) (meth : Method) (c : Code) (Q : State → Prop)
variable (E : mE) (D : va_G) (tc : Int → ClassId) (O : mO) (j : Nat) (K : mK)
def mHret : Prop := ∀ (op : Instr) (v : Option mV) (G : mG) (d : mD) (H : Heap) (locs : List Loc) (cs ss pc : Nat) (ls : Array Slot), K (.inl v) G d → mRep E D tc G d H → va_S (mAr E) s.heap H locs → cs ≤ mmc j → ss ≤ mms j →
  decode (mb j) pc = .ok (op, 1) → mRetOk j op v → W p l e (mRm j) s mid args below meth c H locs cs ss Q (F0 mid pc ls (mst E v.toList))
def mHthr : Prop := ∀ (ex : Nat) (G : mG) (d : mD) (H : Heap) (locs : List Loc) (cs ss pc : Nat) (ls : Array Slot) (S : List mV), K (.inr ex) (G.1, G.2.1, -1) d → mRep E D tc G d H → va_S (mAr E) s.heap H locs →
  mthr j (mown j) pc ex = true → mhh j = [] → mroomT j S cs ss → ls.size = mmaxL j → W p l e (mRm j) s mid args below meth c H locs cs ss Q (F0 mid pc ls (mst E S))
def mHcat : Prop := ∀ (ex : Nat) (G : mG) (d : mD) (H : Heap) (locs : List Loc) (cs ss pc : Nat) (ls : Array Slot) (S : List Value) (q : Addr) (ce : Cell), ex < 4 → K (.inr ex) G d → mRep E D tc G d H → va_S (mAr E) s.heap H locs → cs ≤ mmc j → ss ≤ mms j → mhh j = [] →
  H[q]? = some ce → ce.vm = .none → s.vm.findClass (mEn ex) = some ce.cls → vx_W p l e (mRm j) s mid args below meth c H locs cs ss Q (F0 mid pc ls S) q
def mEnds : Prop := mHret p l e s mid args below meth c Q E D tc j K ∧ mHthr p l e s mid args below meth c Q E D tc j K ∧ mHcat p l e s mid args below meth c Q E D tc j K
end SH
def mSim (l : Launch) (E : mE) (D : va_G) (tc : Int → ClassId) (O : mO) : mP := fun j st K => j < 341 → ∀ (p : Program) (e : Env) (s : State) (mid : MethodId) (args : Array Value) (below : List Frame) (meth : Method) (c : Code) (Q : State → Prop),
  mFrame l E D tc O j p s mid args meth c → mEnds p l e s mid args below meth c Q E D tc j K → mW p l e s mid args below meth c Q E D tc j st
def mPc (E : mE) (D : va_G) (tc : Int → ClassId) (O : mO) (as : List mV) (G : mG) (d : mD) : Array Value → State → Prop := va_Pc (as.map (mval E)) (fun U => mRep E D tc G d U.heap ∧ va_K D vwCl (mtys tc) U ∧ mOld E O (mAr E) U U.heap)
def mQc (E : mE) (D : va_G) (tc : Int → ClassId) (K : mK) : Array Value → State → Outcome → State → Prop := fun _ st oc t => (∃ (v : Option mV) (G : mG) (d : mD), oc = .returned (v.map (mval E)) ∧ K (.inl v) G d ∧ mRep E D tc G d t.heap) ∧ va_F (mAr E) st t
def mXc (E : mE) (D : va_G) (tc : Int → ClassId) (K : mK) : String → State → State → Prop := fun n st t => (∃ (ex : Nat) (G : mG) (d : mD), n = mEn ex ∧ ex < 4 ∧ K (.inr ex) G d ∧ mRep E D tc G d t.heap) ∧ va_F (mAr E) st t
-- the locals at a method's entry
theorem mget_pad : ∀ (n : Nat) (l : List mV) (i : Nat), i < n → mget (mpad n l) i = mget l i
  | n + 1, [], 0, _ => rfl
  | n + 1, [], i + 1, h => by
    show mget (mpad n []) i = mu
    rw [mget_pad n [] i (by omega)]
    rfl
  | n + 1, v :: l, 0, _ => rfl
  | n + 1, v :: l, i + 1, h => mget_pad n l i (by omega)
theorem mpad_len : ∀ (n : Nat) (l : List mV), (mpad n l).length = n
  | 0, _ => rfl
  | n + 1, [] => by simp [mpad, mpad_len n []]
  | n + 1, v :: l => by simp [mpad, mpad_len n l]
theorem mlay_in (E : mE) : ∀ (as : List mV) (off i : Nat), (mget (mlay as) i).1 < 6 → (off + i, mval E (mget (mlay as) i)) ∈ lv_args off (as.map (mval E))
  | [], _, _, h => absurd (show 7 < 6 from h) (by omega)
  | v :: as, off, i, h => by
    have hc := m_cat1 E v
    cases h2 : mc2 v with
    | true =>
      rw [h2] at hc
      have e : mlay (v :: as) = v :: mu :: mlay as := by simp [mlay, h2]
      have hc : (mval E v).category = 2 := hc
      rw [e] at h ⊢
      simp only [List.map_cons, lv_args, hc, if_true]
      match i with
      | 0 => exact List.mem_cons_self
      | 1 => exact absurd (show 7 < 6 from h) (by omega)
      | i + 2 =>
        refine List.mem_cons_of_mem _ ?_
        have := mlay_in E as (off + 2) i h
        rw [show off + (i + 2) = off + 2 + i by omega]
        exact this
    | false =>
      rw [h2] at hc
      have e : mlay (v :: as) = v :: mlay as := by simp [mlay, h2]
      have hc : (mval E v).category = 1 := hc
      rw [e] at h ⊢
      simp only [List.map_cons, lv_args, hc]
      match i with
      | 0 => exact List.mem_cons_self
      | i + 1 =>
        refine List.mem_cons_of_mem _ ?_
        have := mlay_in E as (off + 1) i h
        rw [show off + (i + 1) = off + 1 + i by omega]
        exact this
theorem mlay_len (E : mE) : ∀ as : List mV, (lg_sl (as.map (mval E))).length = (mlay as).length
  | [] => rfl
  | v :: as => by
    have ih := mlay_len E as
    have hc := m_cat1 E v
    unfold lg_sl at ih ⊢
    cases h2 : mc2 v with
    | true =>
      rw [h2] at hc
      have hc : (mval E v).category = 2 := hc
      simp [mlay, h2, hc, ih]
    | false =>
      rw [h2] at hc
      have hc : (mval E v).category = 1 := hc
      simp [mlay, h2, hc, ih]
theorem mLoc_entry {E : mE} {j : Nat} {as : List mV} (h : Nat.ble (mlay as).length (mmaxL j) = true) : mLoc E ((lg_sl (as.map (mval E)) ++ List.replicate (mmaxL j - (lg_sl (as.map (mval E))).length) Slot.unset).toArray) (mmaxL j) (mloc j as) := by
  have hl := lv_entry (as.map (mval E)) (n := mmaxL j) (by rw [mlay_len]; exact Nat.le_of_ble_eq_true h)
  refine ⟨hl.1, hl.2.1, mpad_len _ _, fun i hi => ?_⟩
  unfold mloc at hi ⊢
  by_cases h1 : i < mmaxL j
  · rw [mget_pad _ _ _ h1] at hi ⊢
    have h2 := mlay_in E as 0 i hi
    rw [Nat.zero_add] at h2
    exact hl.2.2 _ h2
  · rw [mget_out _ _ (by rw [mpad_len]; omega)] at hi
    exact absurd hi (by decide)
theorem mFrameBlind {E : mE} {D : va_G} {tc : Int → ClassId} {O : mO} {as : List mV} {G : mG} {d : mD} : FrameBlind (mPc E D tc O as G d) := by
  intro a U g mk q
  obtain ⟨q0, q1, q2, q3⟩ := q
  exact ⟨q0, q1, va_K.moved (u := U) (U := U.calling g mk a) (Vm.Alike.refl U.vm) q2, mOld_to (U := U.calling g mk a) q3 (State.WarmedH.refl U) (Nat.le_refl _) (fun _ _ _ => rfl)⟩
theorem m_retw {p : Program} {l : Launch} {e : Env} {s : State} {mid : MethodId} {args : Array Value} {below : List Frame} {meth : Method} {c : Code} {E : mE} {D : va_G} {tc : Int → ClassId} {j : Nat} {K : mK}
    (hx : p.tables.exec = Jvm.exec) (hb : c.code = mb j) (hr : meth.sig.returnType = mrt j) (hlocks : meth.locks = false) : mHret p l e s mid args below meth c (vx_MQ below (mQc E D tc K) (mXc E D tc K) args s (mmc j) (mms j) (mAr E)) E D tc j K := by
  intro op v G d H locs cs ss pc ls hk hrep hs h1 h2 hd hok
  refine W.widen (k := mmc j) (n := mms j) h1 h2 (vx_ret ?_)
  unfold mrt at hr
  match op, v, hok with
  | .ireturn, some (0, x), hok =>
    have hq : ∀ t : State, t.heap = H → s.WarmedH t.vm → mQc E D tc K args s (.returned (some (.int (Int32.ofInt x)))) t := fun t ht hW => ⟨⟨some (0, x), G, d, rfl, hk, by rw [ht]; exact hrep⟩, hs.F ht⟩
    simp only [mRetOk, mret1] at hok
    split at hok
    · rename_i hm
      rw [hm] at hr
      exact W.iret hx hb hr hq hs.2.2 hd hlocks
    · rename_i hm
      rw [hm] at hr
      exact W.zret hx hb hr (m_zb hok) hq hs.2.2 hd hlocks
    · exact hok.elim
  | .lreturn, some (1, x), hok =>
    have hm : mret j = 3 := hok
    rw [hm] at hr
    exact W.lret hx hb hr (fun t ht hW => ⟨⟨some (1, x), G, d, rfl, hk, by rw [ht]; exact hrep⟩, hs.F ht⟩) hs.2.2 hd hlocks
  | .dreturn, some (2, x), hok =>
    have hm : mret j = 4 := hok
    rw [hm] at hr
    exact W.dret hx hb hr (fun t ht hW => ⟨⟨some (2, x), G, d, rfl, hk, by rw [ht]; exact hrep⟩, hs.F ht⟩) hs.2.2 hd hlocks
  | .return_, none, hok =>
    have hm : mret j = 0 := hok
    rw [hm] at hr
    exact W.vret hx hb hr (fun t ht hW => ⟨⟨none, G, d, rfl, hk, by rw [ht]; exact hrep⟩, hs.F ht⟩) hs.2.2 hd hlocks
theorem mRep_forget {E : mE} {D : va_G} {tc : Int → ClassId} {G : mG} {d : mD} {H H' : Heap} (h : mRep E D tc G d H) (hz : H.size ≤ H'.size) (ho : ∀ q : Nat, q < H.size → H'[q]? = H[q]?) : mRep E D tc (G.1, G.2.1, -1) d H' := by
  refine ⟨Nat.le_trans h.1 hz, fun h9 => absurd h9 (by show ¬ (0 : Int) ≤ -1; omega), fun b hb => ?_⟩
  obtain ⟨h1, h2, h3⟩ := h.2.2 b hb
  have hlt : E.1 + b.toNat < H.size := by
    by_cases h9 : G.1 b < 100
    · obtain ⟨-, cell, hc, -⟩ := h2 h9
      exact (Array.getElem?_eq_some_iff.mp hc).1
    · obtain ⟨-, -, -, hc⟩ := h3 (by omega)
      exact (Array.getElem?_eq_some_iff.mp hc).1
  have hq := ho _ hlt
  exact ⟨h1, fun h => ⟨(h2 h).1, (h2 h).2.kept hq⟩, fun h => ⟨(h3 h).1, (h3 h).2.1, (h3 h).2.2.1, by rw [hq]; exact (h3 h).2.2.2⟩⟩
theorem m_catw {p : Program} {l : Launch} {e : Env} {s : State} {mid : MethodId} {args : Array Value} {below : List Frame} {meth : Method} {c : Code} {E : mE} {D : va_G} {tc : Int → ClassId} {j : Nat} {K : mK}
    (ht : mhh j = [] → c.exceptionTable.toList = []) (hlocks : meth.locks = false) : mHcat p l e s mid args below meth c (vx_MQ below (mQc E D tc K) (mXc E D tc K) args s (mmc j) (mms j) (mAr E)) E D tc j K := by
  intro ex G d H locs cs ss pc ls S q ce hex hk hrep hs h1 h2 hh hc hv hcl
  have ht := ht hh
  exact vx_out (E := mEn ex) (fun x hx => by rw [ht] at hx; cases hx) hlocks hc hv hcl (fun t ht hA => ⟨⟨ex, G, d, rfl, hex, hk, by rw [ht]; exact hrep⟩, hs.F ht⟩) hs.2.2 h1 h2
