/-! ===== rows ===== -/
theorem mset_upd (E : mE) (k : Int) (d : mD) (a i v : Int) (h0 : 0 ≤ i) : updV (mrow E k (d a)) i.toNat (mslot E.1 (mety k) v) = mrow E k (mset d a i v a) := by
  funext z
  simp only [updV, mrow, mset]
  by_cases h : z = i.toNat
  · rw [if_pos h, if_pos ⟨trivial, by omega⟩]
  · rw [if_neg h, if_neg (by omega)]
theorem m_i8b {v : Int} (h1 : -128 ≤ v) (h2 : v ≤ 127) : (Int32.ofInt v).toInt8.toInt32 = Int32.ofInt v := by
  rw [← Int32.toInt_inj, Int8.toInt_toInt32, Int32.toInt_toInt8, m_toInt ⟨by omega, by omega⟩]
  exact Int.bmod_eq_of_le (by omega) (by omega)
theorem m_zb {v : Int} (h : v = 0 ∨ v = 1) : narrow .boolean (.int (Int32.ofInt v)) = .int (Int32.ofInt v) := by
  rcases h with rfl | rfl <;> rfl
section SD
variable {p : Program} {l : Launch} {e : Env} {s : State} {mid : MethodId} {args : Array Value} {below : List Frame} {meth : Method} {c : Code} {Q : State → Prop}
variable {E : mE} {D : va_G} {tc : Int → ClassId} {O : mO} {j : Nat}
variable {C : Nat → List mV → mG → mD → mK → Prop} {K : mK} {pc len : Nat} {L S : List mV} {cs ss : Nat} {G : mG} {d : mD} {H : Heap} {o : Nat}
theorem mRep_row (hr : mRep E D tc G d H) {a k : Int} (hk : 100 ≤ k) (h : G.1 a = k) : 0 ≤ a ∧ mcellA E tc a k (G.2.1 a) (d a) H := by
  obtain ⟨h0, -, h1⟩ := hr.2.2 a (by omega)
  have h2 := h1 (by omega)
  rw [h] at h2
  exact ⟨h0, h2⟩
theorem mval_row {a : Int} (h : 0 ≤ a) (x : Value) (v : mV) (hv : mval E v = x) (S : List mV) : mst E (v :: (3, a) :: S) = x :: .ref (E.1 + a.toNat) :: mst E S := by
  have := mval_own (E := E) h S
  simp only [mst, List.map_cons] at this ⊢
  rw [this, hv]
theorem m_tys {tc : Int → ClassId} (hK : va_K D vwCl (mtys tc) s) {k : Int} (h : k ∈ mkinds) : ArrOfT s (tc k) (metyF k) ∧ va_RA s (tc k) (metyF k) := by
  have hm : (tc k, metyF k) ∈ mtys tc := List.mem_map.mpr ⟨k, h, rfl⟩
  obtain ⟨i, hi⟩ := List.getElem?_of_mem hm
  exact hK.2 i _ hi

theorem s_laload (hx : p.tables.exec = Jvm.exec) (hb : c.code = mb j) (hK : va_K D vwCl (mtys tc) s) (hd : decode (mb j) pc = .ok (.laload, 1)) (h : mint (mW p l e s mid args below meth c Q E D tc j) C j K (mX O j 1 (.laload) pc L S cs ss G d)) : mW p l e s mid args below meth c Q E D tc j (pc, L, S, cs, ss, G, d) := by
  simp only [mX] at h
  split at h
  · rename_i i a S'
    obtain ⟨⟨q0, q1, q2⟩, h⟩ := h
    intro H locs ls hl hr hs h1 h2
    obtain ⟨ha, hm, hn0, hn, hc⟩ := mRep_row hr (by decide) q0
    rw [mval_row ha _ (0, _) rfl]
    have hlt : i.toNat < (G.2.1 a).toNat := by omega
    exact W.lald (v := .long (Int64.ofInt (d a i))) hx hb hc ((m_tys hK hm).1 _ _) (fun q => by cases q) (by rw [arrV_size]; exact m_in q1 q2 (by omega)) (by rw [m_nat q1 (by omega), arrV_read _ _ hlt]; simp only [mrow, Int.toNat_of_nonneg q1]; rfl) rfl rfl hd (h H locs ls hl hr hs h1 h2)
  · exact absurd h.1 id
theorem s_baload (hx : p.tables.exec = Jvm.exec) (hb : c.code = mb j) (hK : va_K D vwCl (mtys tc) s) (hd : decode (mb j) pc = .ok (.baload, 1)) (h : mint (mW p l e s mid args below meth c Q E D tc j) C j K (mX O j 1 (.baload) pc L S cs ss G d)) : mW p l e s mid args below meth c Q E D tc j (pc, L, S, cs, ss, G, d) := by
  simp only [mX] at h
  split at h
  · rename_i i a S'
    obtain ⟨⟨q0, q1, q2⟩, h⟩ := h
    intro H locs ls hl hr hs h1 h2
    rcases q0 with q0 | q0
    · obtain ⟨ha, hm, hn0, hn, hc⟩ := mRep_row hr (by decide) q0
      rw [mval_row ha _ (0, _) rfl]
      have hlt : i.toNat < (G.2.1 a).toNat := by omega
      exact W.bald (v := .int (Int32.ofInt (d a i))) hx hb hc ((m_tys hK hm).1 _ _) (fun q => by cases q) (by rw [arrV_size]; exact m_in q1 q2 (by omega)) (by rw [m_nat q1 (by omega), arrV_read _ _ hlt]; simp only [mrow, Int.toNat_of_nonneg q1]; rfl) rfl rfl hd (h H locs ls hl hr hs h1 h2)
    · obtain ⟨ha, hm, hn0, hn, hc⟩ := mRep_row hr (by decide) q0
      rw [mval_row ha _ (0, _) rfl]
      have hlt : i.toNat < (G.2.1 a).toNat := by omega
      exact W.zald (v := .int (Int32.ofInt (d a i))) hx hb hc ((m_tys hK hm).1 _ _) (fun q => by cases q) (by rw [arrV_size]; exact m_in q1 q2 (by omega)) (by rw [m_nat q1 (by omega), arrV_read _ _ hlt]; simp only [mrow, Int.toNat_of_nonneg q1]; rfl) rfl rfl hd (h H locs ls hl hr hs h1 h2)
  · exact absurd h.1 id
theorem s_aaload (hx : p.tables.exec = Jvm.exec) (hb : c.code = mb j) (hK : va_K D vwCl (mtys tc) s) (hd : decode (mb j) pc = .ok (.aaload, 1)) (h : mint (mW p l e s mid args below meth c Q E D tc j) C j K (mX O j 1 (.aaload) pc L S cs ss G d)) : mW p l e s mid args below meth c Q E D tc j (pc, L, S, cs, ss, G, d) := by
  simp only [mX] at h
  split at h
  · rename_i i a S'
    obtain ⟨⟨q0, q1, q2⟩, h⟩ := h
    intro H locs ls hl hr hs h1 h2
    have hq := ((hr.2.2 a (by omega)).2.2 (by omega)).1
    have hq : G.1 a = 201 ∨ G.1 a = 206 := by
      simp only [mkinds, List.mem_cons, List.not_mem_nil, or_false] at hq
      omega
    rcases hq with q0 | q0
    · obtain ⟨ha, hm, hn0, hn, hc⟩ := mRep_row hr (by decide) q0
      rw [mval_row ha _ (0, _) rfl]
      have hlt : i.toNat < (G.2.1 a).toNat := by omega
      exact W.aald (ty := .object _) (v := mslot E.1 4 (d a i)) hx hb hc ((m_tys hK hm).1 _ _) rfl (fun q => by cases q) (by rw [arrV_size]; exact m_in q1 q2 (by omega)) (by rw [m_nat q1 (by omega), arrV_read _ _ hlt]; simp only [mrow, Int.toNat_of_nonneg q1]; rfl) rfl rfl hd (h H locs ls hl hr hs h1 h2)
    · obtain ⟨ha, hm, hn0, hn, hc⟩ := mRep_row hr (by decide) q0
      rw [mval_row ha _ (0, _) rfl]
      have hlt : i.toNat < (G.2.1 a).toNat := by omega
      exact W.aald (ty := .object _) (v := mslot E.1 4 (d a i)) hx hb hc ((m_tys hK hm).1 _ _) rfl (fun q => by cases q) (by rw [arrV_size]; exact m_in q1 q2 (by omega)) (by rw [m_nat q1 (by omega), arrV_read _ _ hlt]; simp only [mrow, Int.toNat_of_nonneg q1]; rfl) rfl rfl hd (h H locs ls hl hr hs h1 h2)
  · exact absurd h.1 id
theorem s_lastore (hx : p.tables.exec = Jvm.exec) (hb : c.code = mb j) (hK : va_K D vwCl (mtys tc) s) (hd : decode (mb j) pc = .ok (.lastore, 1)) (h : mint (mW p l e s mid args below meth c Q E D tc j) C j K (mX O j 1 (.lastore) pc L S cs ss G d)) : mW p l e s mid args below meth c Q E D tc j (pc, L, S, cs, ss, G, d) := by
  simp only [mX] at h
  split at h
  · rename_i v i a S'
    obtain ⟨⟨q0, q1, q2⟩, h⟩ := h
    intro H locs ls hl hr hs h1 h2
    obtain ⟨ha, hm, hn0, hn, hc⟩ := mRep_row hr (by decide) q0
    have e9 : mst E ((1, v) :: (0, i) :: (3, a) :: S') = mval E (1, v) :: .int (Int32.ofInt i) :: .ref (E.1 + a.toNat) :: mst E S' := by
      have := mval_own (E := E) ha S'
      simp only [mst, List.map_cons] at this ⊢
      rw [this]
      rfl
    rw [e9]
    refine W.last hx hb hc ((m_tys hK hm).1 _ _) (fun q => by cases q) (by rw [arrV_size]; exact m_in q1 q2 (by omega)) rfl rfl hd fun H' e1 e2 e3 => ?_
    refine h H' _ ls hl (mRep_upd hr (by omega) e2 e3 (fun b hb9 => mset_ne hb9) (fun h9 => by omega) (fun _ => ?_)) (hs.put e2 e3 (by show E.1 ≤ _; omega)) h1 h2
    rw [q0]
    refine ⟨hm, hn0, hn, ?_⟩
    rw [← mset_upd E 101 d a i v q1, ← arrV_store, e1, m_nat q1 (by omega)]
    rfl
  · exact absurd h.1 id
theorem s_iastore (hx : p.tables.exec = Jvm.exec) (hb : c.code = mb j) (hK : va_K D vwCl (mtys tc) s) (hd : decode (mb j) pc = .ok (.iastore, 1)) (h : mint (mW p l e s mid args below meth c Q E D tc j) C j K (mX O j 1 (.iastore) pc L S cs ss G d)) : mW p l e s mid args below meth c Q E D tc j (pc, L, S, cs, ss, G, d) := by
  simp only [mX] at h
  split at h
  · rename_i v i a S'
    obtain ⟨⟨q0, q1, q2⟩, h⟩ := h
    intro H locs ls hl hr hs h1 h2
    obtain ⟨ha, hm, hn0, hn, hc⟩ := mRep_row hr (by decide) q0
    have e9 : mst E ((0, v) :: (0, i) :: (3, a) :: S') = mval E (0, v) :: .int (Int32.ofInt i) :: .ref (E.1 + a.toNat) :: mst E S' := by
      have := mval_own (E := E) ha S'
      simp only [mst, List.map_cons] at this ⊢
      rw [this]
      rfl
    rw [e9]
    refine W.iast hx hb hc ((m_tys hK hm).1 _ _) (fun q => by cases q) (by rw [arrV_size]; exact m_in q1 q2 (by omega)) rfl rfl hd fun H' e1 e2 e3 => ?_
    refine h H' _ ls hl (mRep_upd hr (by omega) e2 e3 (fun b hb9 => mset_ne hb9) (fun h9 => by omega) (fun _ => ?_)) (hs.put e2 e3 (by show E.1 ≤ _; omega)) h1 h2
    rw [q0]
    refine ⟨hm, hn0, hn, ?_⟩
    rw [← mset_upd E 100 d a i v q1, ← arrV_store, e1, m_nat q1 (by omega)]
    rfl
  · exact absurd h.1 id
theorem s_bastore (hx : p.tables.exec = Jvm.exec) (hb : c.code = mb j) (hK : va_K D vwCl (mtys tc) s) (hd : decode (mb j) pc = .ok (.bastore, 1)) (h : mint (mW p l e s mid args below meth c Q E D tc j) C j K (mX O j 1 (.bastore) pc L S cs ss G d)) : mW p l e s mid args below meth c Q E D tc j (pc, L, S, cs, ss, G, d) := by
  simp only [mX] at h
  split at h
  · rename_i v i a S'
    obtain ⟨⟨q0, q1, q2⟩, h⟩ := h
    intro H locs ls hl hr hs h1 h2
    rcases q0 with ⟨q0, q3, q4⟩ | ⟨q0, q3⟩
    · obtain ⟨ha, hm, hn0, hn, hc⟩ := mRep_row hr (by decide) q0
      have e9 : mst E ((0, v) :: (0, i) :: (3, a) :: S') = mval E (0, v) :: .int (Int32.ofInt i) :: .ref (E.1 + a.toNat) :: mst E S' := by
        have := mval_own (E := E) ha S'
        simp only [mst, List.map_cons] at this ⊢
        rw [this]
        rfl
      rw [e9]
      refine W.bast hx hb hc ((m_tys hK hm).1 _ _) (fun q => by cases q) (by rw [arrV_size]; exact m_in q1 q2 (by omega)) rfl rfl hd fun H' e1 e2 e3 => ?_
      refine h H' _ ls hl (mRep_upd hr (by omega) e2 e3 (fun b hb9 => mset_ne hb9) (fun h9 => by omega) (fun _ => ?_)) (hs.put e2 e3 (by show E.1 ≤ _; omega)) h1 h2
      rw [q0]
      refine ⟨hm, hn0, hn, ?_⟩
      rw [← mset_upd E 102 d a i v q1, ← arrV_store, e1, m_nat q1 (by omega)]
      rw [narrow_byte, m_i8b q3 q4]; rfl
    · obtain ⟨ha, hm, hn0, hn, hc⟩ := mRep_row hr (by decide) q0
      have e9 : mst E ((0, v) :: (0, i) :: (3, a) :: S') = mval E (0, v) :: .int (Int32.ofInt i) :: .ref (E.1 + a.toNat) :: mst E S' := by
        have := mval_own (E := E) ha S'
        simp only [mst, List.map_cons] at this ⊢
        rw [this]
        rfl
      rw [e9]
      refine W.zast hx hb hc ((m_tys hK hm).1 _ _) (fun q => by cases q) (by rw [arrV_size]; exact m_in q1 q2 (by omega)) rfl rfl hd fun H' e1 e2 e3 => ?_
      refine h H' _ ls hl (mRep_upd hr (by omega) e2 e3 (fun b hb9 => mset_ne hb9) (fun h9 => by omega) (fun _ => ?_)) (hs.put e2 e3 (by show E.1 ≤ _; omega)) h1 h2
      rw [q0]
      refine ⟨hm, hn0, hn, ?_⟩
      rw [← mset_upd E 103 d a i v q1, ← arrV_store, e1, m_nat q1 (by omega)]
      rw [m_zb q3]; rfl
  · exact absurd h.1 id
end SD
