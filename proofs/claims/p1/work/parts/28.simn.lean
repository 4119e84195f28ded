/-! ===== each step of the small machine is one of the machine ===== -/
section SN
variable {p : Program} {l : Launch} {e : Env} {s : State} {mid : MethodId} {args : Array Value} {below : List Frame} {meth : Method} {c : Code} {Q : State → Prop}
variable {E : mE} {D : va_G} {tc : Int → ClassId} {O : mO} {j : Nat} {K : mK} {pc : Nat} {L S : List mV} {cs ss : Nat} {G : mG} {d : mD}
theorem m_fin (hE : mEnds p l e s mid args below meth c Q E D tc j K) {op : Instr} {v : Option mV} (hd : decode (mb j) pc = .ok (op, 1)) (hok : mRetOk j op v) (hk : K (.inl v) G d) : mW p l e s mid args below meth c Q E D tc j (pc, L, v.toList, cs, ss, G, d) :=
  fun H locs ls hl hr hs h1 h2 => hE.1 op v G d H locs cs ss pc ls hk hr hs h1 h2 hd hok
theorem m_step (hj : j < 341) (hF : mFrame l E D tc O j p s mid args meth c) (hE : mEnds p l e s mid args below meth c Q E D tc j K)
    (h : mstp O (mW p l e s mid args below meth c Q E D tc j) (fun j as G d K' => mSim l E D tc O j (ment j as G d) K') j K (pc, L, S, cs, ss, G, d)) : mW p l e s mid args below meth c Q E D tc j (pc, L, S, cs, ss, G, d) := by
  simp only [mstp] at h
  cases hf : mfetch j pc with
  | none => rw [hf] at h; exact h.elim
  | some q =>
    obtain ⟨i, len⟩ := q
    rw [hf] at h
    dsimp only at h
    have hpc : pc < mlen j := by
      unfold mfetch at hf
      cases hb : Nat.ble (mlen j) pc with
      | true => rw [hb] at hf; cases hf
      | false =>
        have := Nat.ble_eq (x := mlen j) (y := pc)
        rw [hb] at this
        have h9 : ¬ mlen j ≤ pc := fun z => by have := this.mpr z; cases this
        omega
    have hck := mck_all hj hpc
    have hF9 := hF
    obtain ⟨hx, hb, hml, hr, hown, hG, hlocks, hname, htab, hK, hO, hll⟩ := hF9
    have ho := mown_lt hj
    unfold mck at hck
    rw [hf] at hck
    split at hck
    · rename_i h9; cases h9
    · rename_i e9 l9 h9
      cases h9
      simp only [Bool.and_eq_true] at hck
      obtain ⟨hp, hk⟩ := h
      intro H locs ls hl hrep hs h1 h2
      exact hE.2.1 e9 G d H locs cs ss pc ls S hk hrep hs hck.1 (List.isEmpty_iff.mp hck.2) hp hl.1
    · rename_i i9 len9 hnc h9
      cases h9
      simp only [Bool.and_eq_true] at hck
      obtain ⟨hlok, hck⟩ := hck
      split at hck
      · rename_i ia l9 hdec
        have hd := mdec_ok hdec
        simp only [Bool.and_eq_true] at hck
        obtain ⟨⟨hl9, hlnk⟩, hres⟩ := hck
        have hl9 := Nat.eq_of_beq_eq_true hl9
        subst hl9
        split at hres
        · rename_i r hr9
          have hres := of_decide_eq_true hres
          subst hres
          unfold mlnk at hlnk
          split at hlnk
          all_goals (try (have hlnk := Nat.eq_of_beq_eq_true hlnk; subst hlnk))
          all_goals (try simp only [mres, Option.some.injEq] at hr9)
          all_goals sorry
        · cases hres
      · cases hck
end SN
