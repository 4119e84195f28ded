/-! ===== new rows, and ghosts, on the typed machine ===== -/
def Kok (K : tK) : tK := fun r d => match r with
  | .inl v => K (.inl v) d
  | .inr _ => False
theorem tokV_ext {W : tW} {nx kd n : Int} (hf : W.1 nx < 0) {v : tV} (h : tokV W v) : tokV (mkind W.1 nx kd, mkind W.2 nx n) v := by
  match v, h with
  | .inl _, _ => exact trivial
  | .inr (t, a), h =>
    obtain ⟨h1, h2, h3⟩ := h
    have ha : ¬ a = nx := fun e => by
      rw [e] at h2
      omega
    refine ⟨h1, ?_, fun q => ?_⟩
    · show (if a = nx then kd else W.1 a) = _
      rw [if_neg ha]
      exact h2
    · show (if a = nx then n else W.2 a) = _
      rw [if_neg ha]
      exact h3 q
theorem tokL_ext {W : tW} {nx kd n : Int} (hf : W.1 nx < 0) : ∀ {L : List tV}, tokL W L → tokL (mkind W.1 nx kd, mkind W.2 nx n) L
  | [], _ => trivial
  | _ :: _, h => ⟨tokV_ext hf h.1, tokL_ext hf h.2⟩
theorem tokV_res {W : tW} {nx kd n : Int} {t : Nat} {a : Int} (ha : ¬ a = nx) (h : tokV (mkind W.1 nx kd, mkind W.2 nx n) (.inr (t, a))) : tokV W (.inr (t, a)) := by
  obtain ⟨h1, h2, h3⟩ := h
  have h2 : (if a = nx then kd else W.1 a) = _ := h2
  have h3 : 12 ≤ t → (if a = nx then n else W.2 a) = tl t := h3
  rw [if_neg ha] at h2 h3
  exact ⟨h1, h2, h3⟩
theorem tSh_ext {W : tW} {nx kd n z : Int} {d : mD} (h : tSh W d) (hf : W.1 nx < 0) (hk : 100 ≤ kd ∧ kd < 200) : tSh (mkind W.1 nx kd, mkind W.2 nx n) (mfill d nx z) := by
  refine ⟨fun a g h0 hg hW h4 => ?_, fun a t i hv ht i0 i1 => ?_⟩
  · have hW : (if a = nx then kd else W.1 a) = _ := hW
    by_cases e : a = nx
    · rw [if_pos e] at hW
      omega
    · rw [if_neg e] at hW
      obtain ⟨e1, e2⟩ := h.1 a g h0 hg hW h4
      refine ⟨?_, tokV_ext hf e2⟩
      unfold mfill
      rw [if_neg e]
      exact e1
  · have e : ¬ a = nx := fun e => by
      have e2 : (if a = nx then kd else W.1 a) = _ := hv.2.1
      rw [if_pos e] at e2
      omega
    obtain ⟨e1, e2⟩ := h.2 a t i (tokV_res e hv) ht i0 i1
    refine ⟨?_, tokV_ext hf e2⟩
    unfold mfill
    rw [if_neg e]
    exact e1
theorem tSh_forget {W : tW} {nx kd n : Int} {d d' : mD} (h : tSh W d) (hf : W.1 nx < 0) (h' : tSh (mkind W.1 nx kd, mkind W.2 nx n) d') : tSh W d' := by
  refine ⟨fun a g h0 hg hW h4 => ?_, fun a t i hv ht i0 i1 => ?_⟩
  · have e : ¬ a = nx := fun e => by
      rw [e] at hW
      omega
    refine ⟨(h'.1 a g h0 hg ?_ h4).1, (h.1 a g h0 hg hW h4).2⟩
    show (if a = nx then kd else W.1 a) = _
    rw [if_neg e]
    exact hW
  · exact ⟨(h'.2 a t i (tokV_ext hf hv) ht i0 i1).1, (h.2 a t i hv ht i0 i1).2⟩
theorem mfr.neg {W : tW} {nx : Int} (h : mfr W nx) : W.1 nx < 0 := by
  rcases Int.lt_or_le (W.1 nx) 0 with c | c
  · exact c
  · exact absurd (h nx c) (Nat.lt_irrefl _)
theorem mfr.ext {W : tW} {nx kd n : Int} (h : mfr W nx) (hr : mreal nx) : mfr (mkind W.1 nx kd, mkind W.2 nx n) (mnxt nx) := by
  intro a ha
  have ha : 0 ≤ (if a = nx then kd else W.1 a) := ha
  rw [mtau_nxt hr]
  by_cases e : a = nx
  · rw [e]
    exact Nat.lt_succ_self _
  · rw [if_neg e] at ha
    exact Nat.lt_succ_of_lt (h a ha)
def tRow (E : mO × tW) (nx kd n : Int) : mO × tW := (E.1, (mkind E.2.1 nx kd, mkind E.2.2 nx n))
theorem mle_nxt {nx : Int} (h : mreal nx) : mle nx (mnxt nx) := ⟨mreal_nxt h, by rw [mtau_nxt h]; exact Nat.le_succ _⟩
-- a row is made; behind the method's end it is forgotten
theorem tNew {E : mO × tW} {m pc c s : Nat} {L S : List tV} {d : mD} {K : tK} {n : Int} {ty : ArrayType} (t : Nat) (ht : (tk t : Int) = matyp ty ∧ tl t = n ∧ 12 ≤ t) (hm : mfetch m pc = some (.newarray ty, 2)) (hF : ∃ z, mfr E.2 z) (hk : 100 ≤ matyp ty ∧ matyp ty < 199) (hn : 0 ≤ n ∧ n ≤ 100000) (hb : c + 1 ≤ mmc m ∧ s + n.toNat ≤ mms m)
    (h : ∀ nx, mreal nx → mfr E.2 nx → tRun (tRow E nx (matyp ty) n) m (pc + 2, L, .inr (t, nx) :: S, c + 1, s + n.toNat, mfill d nx 0) (Kok K)) : tRun E m (pc, L, .inl (0, n) :: S, c, s, d) K := by
  intro nx Kc hnx hL hS hd hK
  have hfr := hnx.2 hF
  have hneg := hfr.neg
  have hne : matyp ty ≠ 199 := by omega
  refine mRun_fg (mRun_in ?_)
  simp only [mstp, hm]
  refine And.intro ⟨hn.1, hn.2, hnx.1.1, hb.1, hb.2, hne⟩ ?_
  refine h nx hnx.1 hfr (mnxt nx) (Kfg Kc) ⟨mreal_nxt hnx.1, fun _ => hfr.ext hnx.1⟩ (tokL_ext hneg hL) ⟨⟨⟨hnx.1.1, hnx.1.1⟩, ?_, fun _ => ?_⟩, tokL_ext hneg hS.2⟩ (tSh_ext hd hneg (by omega)) (fun r nx' d' hle hd' hr' => ?_)
  · show (if nx = nx then matyp ty else _) = _
    rw [if_pos rfl]
    exact ht.1.symm
  · show (if nx = nx then n else _) = _
    rw [if_pos rfl]
    exact ht.2.1.symm
  · match r, hr' with
    | .inl v, hr' =>
      refine ⟨(E.2.1, E.2.2, nx'), d', ⟨fun a ha => ?_, rfl⟩, hK (.inl v) nx' d' (mle_tr (mle_nxt hnx.1) hle) (tSh_forget hd hneg hd') hr'⟩
      have ha : 0 ≤ E.2.1 a := ha
      have e : ¬ a = nx := fun e => by
        rw [e] at ha
        omega
      refine ⟨?_, ?_, rfl⟩
      · show (if a = nx then _ else E.2.1 a) = E.2.1 a
        rw [if_neg e]
      · show (if a = nx then _ else E.2.2 a) = E.2.2 a
        rw [if_neg e]
    | .inr _, hr' => exact hr'.elim
-- cells that are not there may be changed
theorem tSh_gh {W : tW} {d d' : mD} (h : tSh W d) (hg : ∀ a, 0 ≤ W.1 a → d' a = d a) : tSh W d' := by
  refine ⟨fun a g h0 hg2 hW h4 => ?_, fun a t i hv ht i0 i1 => ?_⟩
  · obtain ⟨e1, e2⟩ := h.1 a g h0 hg2 hW h4
    exact ⟨by rw [hg a (by omega)]; exact e1, e2⟩
  · obtain ⟨e1, e2⟩ := h.2 a t i hv ht i0 i1
    have := hv.2.1
    exact ⟨by rw [hg a (by omega)]; exact e1, e2⟩
theorem tRun_gh {E : mO × tW} {m pc c s : Nat} {L S : List tV} {d d' : mD} {K : tK} (hg : ∀ a, 0 ≤ E.2.1 a → d' a = d a) (h : tRun E m (pc, L, S, c, s, d') K) : tRun E m (pc, L, S, c, s, d) K := by
  intro nx Kc hnx hL hS hd hK
  refine mRun_wk (G' := (E.2.1, E.2.2, nx)) (d' := d') ⟨fun a ha => ⟨rfl, rfl, (hg a ha).symm⟩, rfl⟩ ?_
  exact h nx Kc hnx hL hS (tSh_gh hd hg) hK
theorem Kok.of {K : tK} {r : mRes} {d : mD} (h : Kok K r d) : K r d := by
  match r, h with
  | .inl _, h => exact h
  | .inr _, h => exact h.elim
theorem mfr.row {E : mO × tW} {nx kd n : Int} (h : mfr E.2 nx) (hr : mreal nx) : ∃ z, mfr (tRow E nx kd n).2 z := ⟨mnxt nx, h.ext hr⟩
