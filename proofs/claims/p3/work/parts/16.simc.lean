/-! ===== fields, rows, new cells ===== -/
theorem mFL_rng : (List.range 16).all (fun o => (mFL o).all (fun e => Nat.blt (e.2.1 % 32) (mnf (e.2.1 / 32)) && Nat.blt (e.2.1 / 32) 12)) = true := by decide +kernel
theorem m_all16 {α : Type} {f : Nat → List α} {q : Nat → α → Bool} (h : (List.range 16).all (fun o => (f o).all (q o)) = true) {o : Nat} (ho : o < 16) {x : α} (hx : x ∈ f o) : q o x = true :=
  List.all_eq_true.mp (List.all_eq_true.mp h o (List.mem_range.mpr ho)) x hx
theorem mFL_use {o i g : Nat} (ho : o < 16) (h : mlk (mFL o) i = some g) : mfw o i g ∈ GW ∧ g % 32 < mnf (g / 32) ∧ g / 32 < 12 := by
  obtain ⟨p, hp⟩ := mlk_in h
  have h1 := m_all16 mFL_ok ho hp
  have h2 := m_all16 mFL_rng ho hp
  simp only [Bool.and_eq_true, Nat.blt_eq] at h2
  exact ⟨mG1_in h1, h2.1, h2.2⟩
theorem mRep_upd {E : mE} {D : va_G} {tc : Int → ClassId} {G : mG} {d d' : mD} {H H' : Heap} {a : Int} (hr : mRep E D tc G d H) (ha : 0 ≤ G.1 a) (hz : H'.size = H.size) (ho : ∀ q : Nat, q ≠ E.1 + a.toNat → H'[q]? = H[q]?) (hd : ∀ b, b ≠ a → d' b = d b)
    (hO : G.1 a < 100 → mcellO E D a (G.1 a) (d' a) H') (hA : 100 ≤ G.1 a → mcellA E tc a (G.1 a) (G.2.1 a) (d' a) H') : mRep E D tc G d' H' := by
  refine ⟨by rw [hz]; exact hr.1, fun h => by rw [hz]; exact hr.2.1 h, fun b hb => ?_⟩
  have ha0 := (hr.2.2 a ha).1
  obtain ⟨h0, h1, h2⟩ := hr.2.2 b hb
  by_cases e : b = a
  · subst e
    exact ⟨h0, hO, hA⟩
  · rw [hd b e]
    have hq : H'[E.1 + b.toNat]? = H[E.1 + b.toNat]? := ho _ (by omega)
    exact ⟨h0, fun h => ⟨(h1 h).1, (h1 h).2.kept hq⟩, fun h => ⟨(h2 h).1, (h2 h).2.1, (h2 h).2.2.1, by rw [hq]; exact (h2 h).2.2.2⟩⟩
theorem mset_ne {d : mD} {a i v b : Int} (h : b ≠ a) : mset d a i v b = d b := by
  funext j
  simp [mset, h]
section SC
variable {p : Program} {l : Launch} {e : Env} {s : State} {mid : MethodId} {args : Array Value} {below : List Frame} {meth : Method} {c : Code} {Q : State → Prop}
variable {E : mE} {D : va_G} {tc : Int → ClassId} {O : mO} {j : Nat}
variable {C : Nat → List mV → mG → mD → mK → Prop} {K : mK} {pc len : Nat} {L S : List mV} {cs ss : Nat} {G : mG} {d : mD} {H : Heap} {o : Nat}
theorem mRep_obj (hr : mRep E D tc G d H) {a : Int} {g : Nat} (hg : g / 32 < 12) (h : G.1 a = ((g / 32 : Nat) : Int)) : 0 ≤ a ∧ t_OB (E.1 + a.toNat) (D.1 (g / 32)) (mnf (g / 32)) (D.2 (g / 32)) H (mfun E (g / 32) (d a)) := by
  obtain ⟨h0, h1, -⟩ := hr.2.2 a (by omega)
  obtain ⟨-, h2⟩ := h1 (by omega)
  rw [h] at h2
  exact ⟨h0, h2⟩
theorem mval_own {a : Int} (h : 0 ≤ a) (S : List mV) : mst E ((3, a) :: S) = .ref (E.1 + a.toNat) :: mst E S := by
  simp only [mst, List.map_cons, mval]
  rw [if_neg (by omega)]
theorem vp_V_map {N : Nat} (f : Nat → Value) {k : Nat} (hk : k < N) : vp_V ((List.range N).map f) k = f k := by
  simp [vp_V, hk]
theorem s_getfield (hx : p.tables.exec = Jvm.exec) (hb : c.code = mb j) (hG : ∀ w ∈ GW, w.before args s = true) (ho : o < 16) (hown : s.vm.findClass (mR o) = some mid.cls) (hK : va_K D vwCl (mtys tc) s) {idx g : Nat} (hlk : mlk (mFL o) idx = some g)
    (hd : decode (mb j) pc = .ok (.getfield idx, 3)) (h : mint (mW p l e s mid args below meth c Q E D tc j) C j K (mX O j 3 (.getfield g) pc L S cs ss G d)) : mW p l e s mid args below meth c Q E D tc j (pc, L, S, cs, ss, G, d) := by
  obtain ⟨hw, hk, hg⟩ := mFL_use ho hlk
  obtain ⟨T, ty, hT⟩ := mcls hg
  simp only [mX] at h
  split at h
  · rename_i a S'
    obtain ⟨q, h⟩ := h
    intro H locs ls hl hr hs h1 h2
    obtain ⟨ha, hO⟩ := mRep_obj hr hg q
    have hF : mFn g = T (g % 32) := by
      have := hT.2.1 (g % 32) (Nat.mod_lt _ (by decide))
      rwa [Nat.div_add_mod] at this
    have hP : va_P D vwCl [(E.1 + a.toNat, .inr (g / 32, (List.range (mnf (g / 32))).map (mfun E (g / 32) (d a))))] H := by
      intro k x hx9
      cases k with
      | zero => cases hx9; exact ⟨_, hT.1, hO.to (fun k hk => (vp_V_map _ hk).symm)⟩
      | succ k => simp at hx9
    have hlink := hG _ hw
    unfold mfw at hlink
    rw [hF] at hlink
    have kk := h H locs ls hl hr hs h1 h2
    rw [mval_own ha]
    refine va_get (D := D) (ci := g / 32) hx hb hG (mcls_ws hg hT) hown hK hP 0 rfl hT.1 (g % 32) hk hlink (fun _ z => z) (v := mfun E (g / 32) (d a) (g % 32)) (by simp [hk]) hd ?_
    rw [show mst E ((mtag (mfty g), d a ((g % 32 : Nat) : Int)) :: S') = mfun E (g / 32) (d a) (g % 32) :: mst E S' by simp only [mst, List.map_cons, mval_tag, mfun, Nat.div_add_mod]] at kk
    exact kk
  · exact absurd h.1 id
theorem s_putfield (hx : p.tables.exec = Jvm.exec) (hb : c.code = mb j) (hG : ∀ w ∈ GW, w.before args s = true) (ho : o < 16) (hown : s.vm.findClass (mR o) = some mid.cls) (hK : va_K D vwCl (mtys tc) s) {idx g : Nat} (hlk : mlk (mFL o) idx = some g)
    (hfin : (mFn g).2.2.2 = true → meth.name = "<init>" ∧ (mFn g).1 = mR o)
    (hd : decode (mb j) pc = .ok (.putfield idx, 3)) (h : mint (mW p l e s mid args below meth c Q E D tc j) C j K (mX O j 3 (.putfield g) pc L S cs ss G d)) : mW p l e s mid args below meth c Q E D tc j (pc, L, S, cs, ss, G, d) := by
  obtain ⟨hw, hk, hg⟩ := mFL_use ho hlk
  obtain ⟨T, ty, hT⟩ := mcls hg
  simp only [mX] at h
  split at h
  · rename_i v a S'
    obtain ⟨⟨q, hft⟩, h⟩ := h
    intro H locs ls hl hr hs h1 h2
    obtain ⟨ha, hO⟩ := mRep_obj hr hg q
    have hF : mFn g = T (g % 32) := by
      have := hT.2.1 (g % 32) (Nat.mod_lt _ (by decide))
      rwa [Nat.div_add_mod] at this
    have hlink := hG _ hw
    unfold mfw at hlink
    rw [hF] at hlink hfin
    have hin := mcls_ws hg hT
    have hap := va_apart (own := mR o) hG hin ty hT.2.2.1 hT.2.2.2.1 hK hT.1
    obtain ⟨cell, q1, q2, q3, q4⟩ := hO
    obtain ⟨hS, hfc, kC, hkC, hkind⟩ := hK.1 (g / 32) _ hT.1
    obtain ⟨cf, kf, fi, f, hi, hsl⟩ := hS (g % 32) hk
    have hst := (u_facts hfc hkC (u_lays hG hin hk) hi).1
    have hfit := hT.2.2.2.2.2.1 E (g % 32) v hk (by rw [Nat.div_add_mod]; exact hft)
    have hv : mval E v = mslot E.1 (mfty g) v.2 := by
      obtain ⟨t9, x9⟩ := v
      have ht : t9 = mtag (mfty g) := by
        revert hft
        generalize mfty g = z
        intro hft
        match z with
        | 0 => exact hft
        | 1 => exact hft.1
        | 2 => exact hft.1
        | 3 => exact hft
        | _ + 4 => exact hft
      rw [ht, mval_tag]
    have done : ∀ H' : Heap, H'[E.1 + a.toNat]? = some (cell.setSlot f.slot (mval E v)) → H'.size = H.size → (∀ q : Nat, q ≠ E.1 + a.toNat → H'[q]? = H[q]?) → W p l e (mRm j) s mid args below meth c H' (locs ++ [⟨E.1 + a.toNat, f.slot⟩]) cs ss Q (F0 mid (pc + 3) ls (mst E S')) := by
      intro H' e1 e2 e3
      rw [hsl] at e1 ⊢
      refine h H' _ ls hl (mRep_upd hr (by omega) e2 e3 (fun b hb9 => mset_ne hb9) (fun _ => ⟨by omega, ?_⟩) (fun h9 => by omega)) (hs.put e2 e3 (by show E.1 ≤ _; omega)) h1 h2
      rw [q]
      refine t_OB.to (V := updV (mfun E (g / 32) (d a)) (g % 32) (mval E v)) ⟨_, e1, q2, q3, t_set q4 hap hk _⟩ (fun i hi9 => ?_)
      simp only [updV, mfun, mset, Int.toNat_natCast]
      by_cases hij : i = g % 32
      · subst hij
        rw [if_pos rfl, if_pos ⟨trivial, rfl⟩, hv, Nat.div_add_mod]
      · rw [if_neg hij, if_neg (by omega)]
    have e9 : mst E (v :: (3, a) :: S') = mval E v :: .ref (E.1 + a.toNat) :: mst E S' := by
      have := mval_own (E := E) ha S'
      simp only [mst, List.map_cons] at this ⊢
      rw [this]
    rw [e9]
    cases hf9 : (T (g % 32)).2.2.2 with
    | false =>
      have hlay := hG _ (hin _ (u_in_lay hk))
      unfold u_lay at hlay
      rw [if_neg (by rw [hf9]; decide)] at hlay
      have h6 := u_store hfc hkC hkind hlay hi (hT.2.2.1 _ hk) hfit.1 hfit.2
      exact W.putK hx hb (f := f) ⟨hown, hlink, ⟨_, _, _, hi⟩, hst⟩ (by rw [q2]; exact h6) q1 q3 (by rw [hsl]; exact k2_hasslot (q4 _ hk)) rfl rfl hd done
    | true =>
      obtain ⟨hin2, hdecl⟩ := hfin hf9
      have hlay := hG _ (hin _ (u_in_lay hk))
      unfold u_lay at hlay
      rw [if_pos hf9] at hlay
      have hcf : mid.cls = cf := by
        obtain ⟨_, _, c', _, _, _, -, -, hf', -, -, -, hown2, -⟩ := Cond.laysFinal_spec hlay
        have e1 : c' = cf := by have := hi.symm.trans hf'; simp at this; exact this.1.symm
        rw [hdecl] at hown2
        rw [← e1]; exact Option.some.inj (hown.symm.trans hown2)
      have h6 := u_fits hfc hkC hkind (Or.inr hlay) hi (hT.2.2.1 _ hk) hfit.1 hfit.2
      exact W.putFinK hx hb hown hlink hi hst hcf hin2 (by rw [q2]; exact h6) q1 q3 (by rw [hsl]; exact k2_hasslot (q4 _ hk)) rfl rfl hd done
  · exact absurd h.1 id
end SC
