/-! ===== locals that are written, branches ===== -/
def mlist (E : mE) (L : List mV) : List (Nat × Value) := (List.range L.length).filterMap (fun i => if (mget L i).1 < 6 then some (i, mval E (mget L i)) else none)
theorem mget_out : ∀ (L : List mV) (i : Nat), L.length ≤ i → mget L i = mu
  | [], _, _ => rfl
  | _ :: l, i + 1, h => mget_out l i (by simp at h; omega)
theorem mlist_mem {E : mE} {L : List mV} {i : Nat} (h : (mget L i).1 < 6) : (i, mval E (mget L i)) ∈ mlist E L := by
  refine List.mem_filterMap.mpr ⟨i, List.mem_range.mpr ?_, by rw [if_pos h]⟩
  rcases Nat.lt_or_ge i L.length with q | q
  · exact q
  · rw [mget_out L i q] at h
    exact absurd h (by decide)
theorem mLoc_has {E : mE} {ls : Array Slot} {nL : Nat} {L : List mV} (h : mLoc E ls nL L) : lv_has ls nL (mlist E L) := by
  refine ⟨h.1, h.2.1, fun q hq => ?_⟩
  obtain ⟨i, -, hi⟩ := List.mem_filterMap.mp hq
  split at hi
  · rename_i h6
    cases hi
    exact h.2.2.2 i h6
  · cases hi
theorem m_cat (E : mE) : ∀ (v : mV), v.1 < 6 → ((mval E v).category == 2) = mc2 v
  | (0, _), _ => rfl
  | (1, _), _ => rfl
  | (2, _), _ => rfl
  | (3, x), _ => by simp only [mval]; split <;> rfl
  | (4, _), _ => rfl
  | (5, _), _ => rfl
  | (n + 6, _), h => by have h : n + 6 < 6 := h; omega
theorem mLoc_put1 {E : mE} {ls' : Array Slot} {nL : Nat} {L : List mV} {k : Nat} {v : mV} (hl : L.length = nL) (hk : k < nL)
    (h : lv_has ls' nL ((k, mval E v) :: (mlist E L).filter (fun q => !(q.1 == k) && !(q.1 + 1 == k && q.2.category == 2)))) : mLoc E ls' nL (mput1 L k v) := by
  refine ⟨h.1, h.2.1, by rw [mput1_len]; exact hl, fun i hi => ?_⟩
  rw [mget_put1 L k v i (by omega)] at hi ⊢
  by_cases h1 : i = k
  · rw [if_pos h1] at hi ⊢
    rw [h1]
    exact h.2.2 _ List.mem_cons_self
  · rw [if_neg h1] at hi ⊢
    by_cases h2 : i + 1 = k ∧ mc2 (mget L i) = true
    · rw [if_pos h2] at hi
      exact absurd hi (by decide)
    · rw [if_neg h2] at hi ⊢
      refine h.2.2 (i, mval E (mget L i)) (List.mem_cons_of_mem _ (List.mem_filter.mpr ⟨mlist_mem hi, ?_⟩))
      simp only [m_cat E _ hi]
      simp [h1]
      by_cases h3 : i + 1 = k
      · right
        cases hc : mc2 (mget L i)
        · rfl
        · exact absurd ⟨h3, hc⟩ h2
      · exact Or.inl h3
theorem mLoc_put2 {E : mE} {ls' : Array Slot} {nL : Nat} {L : List mV} {k : Nat} {v : mV} (hl : L.length = nL) (hk : k < nL)
    (h : lv_has ls' nL ((k, mval E v) :: (mlist E L).filter (fun q => !(q.1 == k) && (!(q.1 == k + 1) && !(q.1 + 1 == k && q.2.category == 2))))) : mLoc E ls' nL (mput2 L k v) := by
  refine ⟨h.1, h.2.1, by rw [mput2_len]; exact hl, fun i hi => ?_⟩
  rw [mget_put2 L k v i (by omega)] at hi ⊢
  by_cases h1 : i = k
  · rw [if_pos h1] at hi ⊢
    rw [h1]
    exact h.2.2 _ List.mem_cons_self
  · rw [if_neg h1] at hi ⊢
    by_cases h4 : i = k + 1
    · rw [if_pos h4] at hi
      exact absurd hi (by decide)
    · rw [if_neg h4] at hi ⊢
      by_cases h2 : i + 1 = k ∧ mc2 (mget L i) = true
      · rw [if_pos h2] at hi
        exact absurd hi (by decide)
      · rw [if_neg h2] at hi ⊢
        refine h.2.2 (i, mval E (mget L i)) (List.mem_cons_of_mem _ (List.mem_filter.mpr ⟨mlist_mem hi, ?_⟩))
        simp only [m_cat E _ hi]
        simp [h1, h4]
        by_cases h3 : i + 1 = k
        · right
          cases hc : mc2 (mget L i)
          · rfl
          · exact absurd ⟨h3, hc⟩ h2
        · exact Or.inl h3
section SB
variable {p : Program} {l : Launch} {e : Env} {s : State} {mid : MethodId} {args : Array Value} {below : List Frame} {meth : Method} {c : Code} {Q : State → Prop}
variable {E : mE} {D : va_G} {tc : Int → ClassId} {O : mO} {j : Nat}
variable {C : Nat → List mV → mG → mD → mK → Prop} {K : mK} {pc len : Nat} {L S : List mV} {cs ss : Nat} {G : mG} {d : mD}

theorem s_istore (hx : p.tables.exec = Jvm.exec) (hb : c.code = mb j) {n9 : Nat} (hk : (n9 : Nat) < mmaxL j) (hd : decode (mb j) pc = .ok (.istore n9, 2)) (h : mint (mW p l e s mid args below meth c Q E D tc j) C j K (mX O j 2 (.istore n9) pc L S cs ss G d)) : mW p l e s mid args below meth c Q E D tc j (pc, L, S, cs, ss, G, d) := by
  simp only [mX] at h
  split at h
  · intro H locs ls hl hr hs h1 h2
    exact lv_istore hx hb hd (mLoc_has hl) hk rfl (fun ls' hl' => h H locs ls' (mLoc_put1 hl.2.2.1 (by omega) hl') hr hs h1 h2)
  · exact absurd h.1 id
theorem s_istore_n (hx : p.tables.exec = Jvm.exec) (hb : c.code = mb j) {n9 : Fin 4} (hk : (n9 : Nat) < mmaxL j) (hd : decode (mb j) pc = .ok (.istore_n n9, 1)) (h : mint (mW p l e s mid args below meth c Q E D tc j) C j K (mX O j 1 (.istore (n9 : Nat)) pc L S cs ss G d)) : mW p l e s mid args below meth c Q E D tc j (pc, L, S, cs, ss, G, d) := by
  simp only [mX] at h
  split at h
  · intro H locs ls hl hr hs h1 h2
    exact lv_istore_n hx hb hd rfl (mLoc_has hl) hk rfl (fun ls' hl' => h H locs ls' (mLoc_put1 hl.2.2.1 (by omega) hl') hr hs h1 h2)
  · exact absurd h.1 id
theorem s_lstore (hx : p.tables.exec = Jvm.exec) (hb : c.code = mb j) {n9 : Nat} (hk : (n9 : Nat) + 1 < mmaxL j) (hd : decode (mb j) pc = .ok (.lstore n9, 2)) (h : mint (mW p l e s mid args below meth c Q E D tc j) C j K (mX O j 2 (.lstore n9) pc L S cs ss G d)) : mW p l e s mid args below meth c Q E D tc j (pc, L, S, cs, ss, G, d) := by
  simp only [mX] at h
  split at h
  · intro H locs ls hl hr hs h1 h2
    exact lv_lstore hx hb hd (mLoc_has hl) hk rfl (fun ls' hl' => h H locs ls' (mLoc_put2 hl.2.2.1 (by omega) hl') hr hs h1 h2)
  · exact absurd h.1 id
theorem s_lstore_n (hx : p.tables.exec = Jvm.exec) (hb : c.code = mb j) {n9 : Fin 4} (hk : (n9 : Nat) + 1 < mmaxL j) (hd : decode (mb j) pc = .ok (.lstore_n n9, 1)) (h : mint (mW p l e s mid args below meth c Q E D tc j) C j K (mX O j 1 (.lstore (n9 : Nat)) pc L S cs ss G d)) : mW p l e s mid args below meth c Q E D tc j (pc, L, S, cs, ss, G, d) := by
  simp only [mX] at h
  split at h
  · intro H locs ls hl hr hs h1 h2
    exact lv_lstore_n hx hb hd rfl (mLoc_has hl) hk rfl (fun ls' hl' => h H locs ls' (mLoc_put2 hl.2.2.1 (by omega) hl') hr hs h1 h2)
  · exact absurd h.1 id
theorem s_dstore (hx : p.tables.exec = Jvm.exec) (hb : c.code = mb j) {n9 : Nat} (hk : (n9 : Nat) + 1 < mmaxL j) (hd : decode (mb j) pc = .ok (.dstore n9, 2)) (h : mint (mW p l e s mid args below meth c Q E D tc j) C j K (mX O j 2 (.dstore n9) pc L S cs ss G d)) : mW p l e s mid args below meth c Q E D tc j (pc, L, S, cs, ss, G, d) := by
  simp only [mX] at h
  split at h
  · intro H locs ls hl hr hs h1 h2
    exact lv_dstore hx hb hd (mLoc_has hl) hk rfl (fun ls' hl' => h H locs ls' (mLoc_put2 hl.2.2.1 (by omega) hl') hr hs h1 h2)
  · exact absurd h.1 id
theorem s_dstore_n (hx : p.tables.exec = Jvm.exec) (hb : c.code = mb j) {n9 : Fin 4} (hk : (n9 : Nat) + 1 < mmaxL j) (hd : decode (mb j) pc = .ok (.dstore_n n9, 1)) (h : mint (mW p l e s mid args below meth c Q E D tc j) C j K (mX O j 1 (.dstore (n9 : Nat)) pc L S cs ss G d)) : mW p l e s mid args below meth c Q E D tc j (pc, L, S, cs, ss, G, d) := by
  simp only [mX] at h
  split at h
  · intro H locs ls hl hr hs h1 h2
    exact lv_dstore_n hx hb hd rfl (mLoc_has hl) hk rfl (fun ls' hl' => h H locs ls' (mLoc_put2 hl.2.2.1 (by omega) hl') hr hs h1 h2)
  · exact absurd h.1 id
theorem s_astore (hx : p.tables.exec = Jvm.exec) (hb : c.code = mb j) {n9 : Nat} (hk : (n9 : Nat) < mmaxL j) (hd : decode (mb j) pc = .ok (.astore n9, 2)) (h : mint (mW p l e s mid args below meth c Q E D tc j) C j K (mX O j 2 (.astore n9) pc L S cs ss G d)) : mW p l e s mid args below meth c Q E D tc j (pc, L, S, cs, ss, G, d) := by
  simp only [mX] at h
  split at h
  · rename_i x S'
    obtain ⟨q, h⟩ := h
    intro H locs ls hl hr hs h1 h2
    have e1 : mval E (3, x) = .ref (E.1 + x.toNat) := by simp only [mval]; rw [if_neg (by omega)]
    have e2 : mst E ((3, x) :: S') = .ref (E.1 + x.toNat) :: mst E S' := by simp only [mst, List.map_cons, e1]
    rw [e2]
    refine lv_astore hx hb hd (mLoc_has hl) hk rfl (fun ls' hl' => h H locs ls' (mLoc_put1 hl.2.2.1 (by omega) ?_) hr hs h1 h2)
    rw [e1]
    exact hl'
  · exact absurd h.1 id
theorem s_astore_n (hx : p.tables.exec = Jvm.exec) (hb : c.code = mb j) {n9 : Fin 4} (hk : (n9 : Nat) < mmaxL j) (hd : decode (mb j) pc = .ok (.astore_n n9, 1)) (h : mint (mW p l e s mid args below meth c Q E D tc j) C j K (mX O j 1 (.astore (n9 : Nat)) pc L S cs ss G d)) : mW p l e s mid args below meth c Q E D tc j (pc, L, S, cs, ss, G, d) := by
  simp only [mX] at h
  split at h
  · rename_i x S'
    obtain ⟨q, h⟩ := h
    intro H locs ls hl hr hs h1 h2
    have e1 : mval E (3, x) = .ref (E.1 + x.toNat) := by simp only [mval]; rw [if_neg (by omega)]
    have e2 : mst E ((3, x) :: S') = .ref (E.1 + x.toNat) :: mst E S' := by simp only [mst, List.map_cons, e1]
    rw [e2]
    refine lv_astore_n hx hb hd rfl (mLoc_has hl) hk rfl (fun ls' hl' => h H locs ls' (mLoc_put1 hl.2.2.1 (by omega) ?_) hr hs h1 h2)
    rw [e1]
    exact hl'
  · exact absurd h.1 id
theorem s_iinc (hx : p.tables.exec = Jvm.exec) (hb : c.code = mb j) {n9 : Nat} {n : Int} (hk : n9 < mmaxL j) (hd : decode (mb j) pc = .ok (.iinc n9 n, 3)) (h : mint (mW p l e s mid args below meth c Q E D tc j) C j K (mX O j 3 (.iinc n9 n) pc L S cs ss G d)) : mW p l e s mid args below meth c Q E D tc j (pc, L, S, cs, ss, G, d) := by
  simp only [mX] at h
  split at h
  · rename_i x hg
    intro H locs ls hl hr hs h1 h2
    have hm : (n9, mval E (mget L n9)) ∈ mlist E L := mlist_mem (by rw [hg]; exact Nat.le_of_ble_eq_true rfl)
    rw [hg] at hm
    obtain ⟨k0, hk0⟩ := List.getElem?_of_mem hm
    refine lv_iinc hx hb hd (mLoc_has hl) hk0 rfl hk rfl (fun ls' hl' => h H locs ls' (mLoc_put1 hl.2.2.1 (by omega) ?_) hr hs h1 h2)
    rw [show mval E (0, x + n) = Value.int (Int32.ofInt x + Int32.ofInt n) by simp only [mval]; rw [Int32.ofInt_add]]
    exact hl'
  · exact absurd h.1 id
theorem s_goto (hx : p.tables.exec = Jvm.exec) (hb : c.code = mb j) {t t2 : Int} (ht : (pc : Int) + t2 = t) (h0 : 0 ≤ t) (hd : decode (mb j) pc = .ok (.goto t2, 3)) (h : mint (mW p l e s mid args below meth c Q E D tc j) C j K (mX O j 3 (.goto t) pc L S cs ss G d)) : mW p l e s mid args below meth c Q E D tc j (pc, L, S, cs, ss, G, d) := by
  exact mW_go hx hb h (fun H locs ls hl k => lv_goto hx hb hd (by omega) k)
theorem m_r0 : mInR 0 := ⟨by decide, by decide⟩
theorem s_icmp_eq (hx : p.tables.exec = Jvm.exec) (hb : c.code = mb j) {t t2 : Int} (ht : (pc : Int) + t2 = t) (h0 : 0 ≤ t) (hd : decode (mb j) pc = .ok (.if_icmp .eq t2, 3)) (h : mint (mW p l e s mid args below meth c Q E D tc j) C j K (mX O j 3 (.if_icmp .eq t) pc L S cs ss G d)) : mW p l e s mid args below meth c Q E D tc j (pc, L, S, cs, ss, G, d) := by
  simp only [mX] at h
  split at h
  · obtain ⟨q, ha, hc⟩ := h
    intro H locs ls hl hr hs h1 h2
    exact lv_icmp_eq hx hb hd (tgt := t.toNat) (by omega) (fun z => ha ((m_eq q.1 q.2).mp z) H locs ls hl hr hs h1 h2) (fun z => hc (fun w => z ((m_eq q.1 q.2).mpr w)) H locs ls hl hr hs h1 h2)
  · exact absurd h.1 id
theorem s_if_eq (hx : p.tables.exec = Jvm.exec) (hb : c.code = mb j) {t t2 : Int} (ht : (pc : Int) + t2 = t) (h0 : 0 ≤ t) (hd : decode (mb j) pc = .ok (.ifCond .eq t2, 3)) (h : mint (mW p l e s mid args below meth c Q E D tc j) C j K (mX O j 3 (.ifCond .eq t) pc L S cs ss G d)) : mW p l e s mid args below meth c Q E D tc j (pc, L, S, cs, ss, G, d) := by
  simp only [mX] at h
  split at h
  · obtain ⟨q, ha, hc⟩ := h
    intro H locs ls hl hr hs h1 h2
    exact lv_if_eq hx hb hd (tgt := t.toNat) (by omega) (fun z => ha ((m_eq q m_r0).mp z) H locs ls hl hr hs h1 h2) (fun z => hc (fun w => z ((m_eq q m_r0).mpr w)) H locs ls hl hr hs h1 h2)
  · exact absurd h.1 id
theorem s_icmp_ne (hx : p.tables.exec = Jvm.exec) (hb : c.code = mb j) {t t2 : Int} (ht : (pc : Int) + t2 = t) (h0 : 0 ≤ t) (hd : decode (mb j) pc = .ok (.if_icmp .ne t2, 3)) (h : mint (mW p l e s mid args below meth c Q E D tc j) C j K (mX O j 3 (.if_icmp .ne t) pc L S cs ss G d)) : mW p l e s mid args below meth c Q E D tc j (pc, L, S, cs, ss, G, d) := by
  simp only [mX] at h
  split at h
  · obtain ⟨q, ha, hc⟩ := h
    intro H locs ls hl hr hs h1 h2
    exact lv_icmp_ne hx hb hd (tgt := t.toNat) (by omega) (fun z => ha (fun w => z ((m_eq q.1 q.2).mpr w)) H locs ls hl hr hs h1 h2) (fun z => hc ((m_eq q.1 q.2).mp z) H locs ls hl hr hs h1 h2)
  · exact absurd h.1 id
theorem s_if_ne (hx : p.tables.exec = Jvm.exec) (hb : c.code = mb j) {t t2 : Int} (ht : (pc : Int) + t2 = t) (h0 : 0 ≤ t) (hd : decode (mb j) pc = .ok (.ifCond .ne t2, 3)) (h : mint (mW p l e s mid args below meth c Q E D tc j) C j K (mX O j 3 (.ifCond .ne t) pc L S cs ss G d)) : mW p l e s mid args below meth c Q E D tc j (pc, L, S, cs, ss, G, d) := by
  simp only [mX] at h
  split at h
  · obtain ⟨q, ha, hc⟩ := h
    intro H locs ls hl hr hs h1 h2
    exact lv_if_ne hx hb hd (tgt := t.toNat) (by omega) (fun z => ha (fun w => z ((m_eq q m_r0).mpr w)) H locs ls hl hr hs h1 h2) (fun z => hc ((m_eq q m_r0).mp z) H locs ls hl hr hs h1 h2)
  · exact absurd h.1 id
theorem s_icmp_lt (hx : p.tables.exec = Jvm.exec) (hb : c.code = mb j) {t t2 : Int} (ht : (pc : Int) + t2 = t) (h0 : 0 ≤ t) (hd : decode (mb j) pc = .ok (.if_icmp .lt t2, 3)) (h : mint (mW p l e s mid args below meth c Q E D tc j) C j K (mX O j 3 (.if_icmp .lt t) pc L S cs ss G d)) : mW p l e s mid args below meth c Q E D tc j (pc, L, S, cs, ss, G, d) := by
  simp only [mX] at h
  split at h
  · obtain ⟨q, ha, hc⟩ := h
    intro H locs ls hl hr hs h1 h2
    exact lv_icmp_lt hx hb hd (tgt := t.toNat) (by omega) (fun z => ha ((m_lt q.1 q.2).mp z) H locs ls hl hr hs h1 h2) (fun z => hc (Int.not_lt.mp (fun w => z ((m_lt q.1 q.2).mpr w))) H locs ls hl hr hs h1 h2)
  · exact absurd h.1 id
theorem s_if_lt (hx : p.tables.exec = Jvm.exec) (hb : c.code = mb j) {t t2 : Int} (ht : (pc : Int) + t2 = t) (h0 : 0 ≤ t) (hd : decode (mb j) pc = .ok (.ifCond .lt t2, 3)) (h : mint (mW p l e s mid args below meth c Q E D tc j) C j K (mX O j 3 (.ifCond .lt t) pc L S cs ss G d)) : mW p l e s mid args below meth c Q E D tc j (pc, L, S, cs, ss, G, d) := by
  simp only [mX] at h
  split at h
  · obtain ⟨q, ha, hc⟩ := h
    intro H locs ls hl hr hs h1 h2
    exact lv_if_lt hx hb hd (tgt := t.toNat) (by omega) (fun z => ha ((m_lt q m_r0).mp z) H locs ls hl hr hs h1 h2) (fun z => hc (Int.not_lt.mp (fun w => z ((m_lt q m_r0).mpr w))) H locs ls hl hr hs h1 h2)
  · exact absurd h.1 id
theorem s_icmp_ge (hx : p.tables.exec = Jvm.exec) (hb : c.code = mb j) {t t2 : Int} (ht : (pc : Int) + t2 = t) (h0 : 0 ≤ t) (hd : decode (mb j) pc = .ok (.if_icmp .ge t2, 3)) (h : mint (mW p l e s mid args below meth c Q E D tc j) C j K (mX O j 3 (.if_icmp .ge t) pc L S cs ss G d)) : mW p l e s mid args below meth c Q E D tc j (pc, L, S, cs, ss, G, d) := by
  simp only [mX] at h
  split at h
  · obtain ⟨q, ha, hc⟩ := h
    intro H locs ls hl hr hs h1 h2
    exact lv_icmp_ge hx hb hd (tgt := t.toNat) (by omega) (fun z => ha ((m_le q.2 q.1).mp z) H locs ls hl hr hs h1 h2) (fun z => hc (Int.not_le.mp (fun w => z ((m_le q.2 q.1).mpr w))) H locs ls hl hr hs h1 h2)
  · exact absurd h.1 id
theorem s_if_ge (hx : p.tables.exec = Jvm.exec) (hb : c.code = mb j) {t t2 : Int} (ht : (pc : Int) + t2 = t) (h0 : 0 ≤ t) (hd : decode (mb j) pc = .ok (.ifCond .ge t2, 3)) (h : mint (mW p l e s mid args below meth c Q E D tc j) C j K (mX O j 3 (.ifCond .ge t) pc L S cs ss G d)) : mW p l e s mid args below meth c Q E D tc j (pc, L, S, cs, ss, G, d) := by
  simp only [mX] at h
  split at h
  · obtain ⟨q, ha, hc⟩ := h
    intro H locs ls hl hr hs h1 h2
    exact lv_if_ge hx hb hd (tgt := t.toNat) (by omega) (fun z => ha ((m_le m_r0 q).mp z) H locs ls hl hr hs h1 h2) (fun z => hc (Int.not_le.mp (fun w => z ((m_le m_r0 q).mpr w))) H locs ls hl hr hs h1 h2)
  · exact absurd h.1 id
theorem s_icmp_gt (hx : p.tables.exec = Jvm.exec) (hb : c.code = mb j) {t t2 : Int} (ht : (pc : Int) + t2 = t) (h0 : 0 ≤ t) (hd : decode (mb j) pc = .ok (.if_icmp .gt t2, 3)) (h : mint (mW p l e s mid args below meth c Q E D tc j) C j K (mX O j 3 (.if_icmp .gt t) pc L S cs ss G d)) : mW p l e s mid args below meth c Q E D tc j (pc, L, S, cs, ss, G, d) := by
  simp only [mX] at h
  split at h
  · obtain ⟨q, ha, hc⟩ := h
    intro H locs ls hl hr hs h1 h2
    exact lv_icmp_gt hx hb hd (tgt := t.toNat) (by omega) (fun z => ha ((m_lt q.2 q.1).mp z) H locs ls hl hr hs h1 h2) (fun z => hc (Int.not_lt.mp (fun w => z ((m_lt q.2 q.1).mpr w))) H locs ls hl hr hs h1 h2)
  · exact absurd h.1 id
theorem s_if_gt (hx : p.tables.exec = Jvm.exec) (hb : c.code = mb j) {t t2 : Int} (ht : (pc : Int) + t2 = t) (h0 : 0 ≤ t) (hd : decode (mb j) pc = .ok (.ifCond .gt t2, 3)) (h : mint (mW p l e s mid args below meth c Q E D tc j) C j K (mX O j 3 (.ifCond .gt t) pc L S cs ss G d)) : mW p l e s mid args below meth c Q E D tc j (pc, L, S, cs, ss, G, d) := by
  simp only [mX] at h
  split at h
  · obtain ⟨q, ha, hc⟩ := h
    intro H locs ls hl hr hs h1 h2
    exact lv_if_gt hx hb hd (tgt := t.toNat) (by omega) (fun z => ha ((m_lt m_r0 q).mp z) H locs ls hl hr hs h1 h2) (fun z => hc (Int.not_lt.mp (fun w => z ((m_lt m_r0 q).mpr w))) H locs ls hl hr hs h1 h2)
  · exact absurd h.1 id
theorem s_icmp_le (hx : p.tables.exec = Jvm.exec) (hb : c.code = mb j) {t t2 : Int} (ht : (pc : Int) + t2 = t) (h0 : 0 ≤ t) (hd : decode (mb j) pc = .ok (.if_icmp .le t2, 3)) (h : mint (mW p l e s mid args below meth c Q E D tc j) C j K (mX O j 3 (.if_icmp .le t) pc L S cs ss G d)) : mW p l e s mid args below meth c Q E D tc j (pc, L, S, cs, ss, G, d) := by
  simp only [mX] at h
  split at h
  · obtain ⟨q, ha, hc⟩ := h
    intro H locs ls hl hr hs h1 h2
    exact lv_icmp_le hx hb hd (tgt := t.toNat) (by omega) (fun z => ha ((m_le q.1 q.2).mp z) H locs ls hl hr hs h1 h2) (fun z => hc (Int.not_le.mp (fun w => z ((m_le q.1 q.2).mpr w))) H locs ls hl hr hs h1 h2)
  · exact absurd h.1 id
theorem s_if_le (hx : p.tables.exec = Jvm.exec) (hb : c.code = mb j) {t t2 : Int} (ht : (pc : Int) + t2 = t) (h0 : 0 ≤ t) (hd : decode (mb j) pc = .ok (.ifCond .le t2, 3)) (h : mint (mW p l e s mid args below meth c Q E D tc j) C j K (mX O j 3 (.ifCond .le t) pc L S cs ss G d)) : mW p l e s mid args below meth c Q E D tc j (pc, L, S, cs, ss, G, d) := by
  simp only [mX] at h
  split at h
  · obtain ⟨q, ha, hc⟩ := h
    intro H locs ls hl hr hs h1 h2
    exact lv_if_le hx hb hd (tgt := t.toNat) (by omega) (fun z => ha ((m_le q m_r0).mp z) H locs ls hl hr hs h1 h2) (fun z => hc (Int.not_le.mp (fun w => z ((m_le q m_r0).mpr w))) H locs ls hl hr hs h1 h2)
  · exact absurd h.1 id
theorem msw_in {x : Int} {f : Nat → mSt} {B : mSt → Prop} : ∀ (ts : List Int) (k : Int) (z : List (Prop × mSt)), z ≠ [] → mall B (msw x f k ts ++ z) → mall B z ∧ ∀ (i : Nat) (t : Int), ts[i]? = some t → x = k + i → B (f t.toNat)
  | [], _, z, _, h => ⟨h, fun i t hi => by simp at hi⟩
  | t :: ts, k, z, hz, h => by
    have hne : msw x f (k + 1) ts ++ z ≠ [] := fun w => hz (List.append_eq_nil_iff.mp w).2
    obtain ⟨q, r, hqr⟩ := List.exists_cons_of_ne_nil hne
    have h' : mall B ((x = k, f t.toNat) :: (msw x f (k + 1) ts ++ z)) := h
    rw [hqr] at h'
    obtain ⟨h1, h2⟩ := h'
    rw [← hqr] at h2
    obtain ⟨h3, h4⟩ := msw_in ts (k + 1) z hz h2
    refine ⟨h3, fun i t' hi hx => ?_⟩
    cases i with
    | zero =>
      simp at hi
      subst hi
      exact h1 (by omega)
    | succ i => exact h4 i t' (by simpa using hi) (by omega)

theorem s_tableswitch (hx : p.tables.exec = Jvm.exec) (hb : c.code = mb j) {t t2 lo hi : Int} {ts2 : Array Int} (ht : (pc : Int) + t2 = t) (h0 : 0 ≤ t) (hts : ∀ q ∈ ts2.toList, 0 ≤ (pc : Int) + q) (hsz : (ts2.size : Int) = hi - lo + 1) (hd : decode (mb j) pc = .ok (.tableswitch t2 lo hi ts2, len)) (h : mint (mW p l e s mid args below meth c Q E D tc j) C j K (mX O j len (.tableswitch t lo hi (ts2.map (fun q => (pc : Int) + q))) pc L S cs ss G d)) : mW p l e s mid args below meth c Q E D tc j (pc, L, S, cs, ss, G, d) := by
  simp only [mX] at h
  split at h
  · rename_i x S'
    obtain ⟨q, h⟩ := h
    obtain ⟨h3, h4⟩ := msw_in _ _ _ (by simp) h
    intro H locs ls hl hr hs h1 h2
    by_cases hin : x < lo ∨ hi < x
    · exact lv_tableOut hx hb hd (by rw [m_toInt q]; exact hin) (tgt := t.toNat) (by omega) (h3 hin H locs ls hl hr hs h1 h2)
    · have hlt : (x - lo).toNat < ts2.size := by omega
      have hget : ts2[(x - lo).toNat]? = some ts2[(x - lo).toNat] := Array.getElem?_eq_getElem hlt
      have hq := hts _ (Array.mem_toList_iff.mpr (Array.getElem_mem hlt))
      refine lv_tableIn hx hb hd (by rw [m_toInt q]; omega) (by rw [m_toInt q]; omega) (by rw [m_toInt q]; exact hget) (tgt := ((pc : Int) + ts2[(x - lo).toNat]).toNat) (by omega) (h4 (x - lo).toNat ((pc : Int) + ts2[(x - lo).toNat]) ?_ (by omega) H locs ls hl hr hs h1 h2)
      simp [hget]
  · exact absurd h.1 id
end SB
