/-! ===== each step of the small machine is one of the machine ===== -/
section SN
variable {p : Program} {l : Launch} {e : Env} {s : State} {mid : MethodId} {args : Array Value} {below : List Frame} {meth : Method} {c : Code} {Q : State → Prop}
variable {E : mE} {D : va_G} {tc : Int → ClassId} {O : mO} {j : Nat} {K : mK} {pc : Nat} {L S : List mV} {cs ss : Nat} {G : mG} {d : mD}
theorem m_fin (hE : mEnds p l e s mid args below meth c Q E D tc j K) {op : Instr} {v : Option mV} (hd : decode (mb j) pc = .ok (op, 1)) (hok : mRetOk j op v) (hk : K (.inl v) G d) : mW p l e s mid args below meth c Q E D tc j (pc, L, v.toList, cs, ss, G, d) :=
  fun H locs ls hl hr hs h1 h2 => hE.1 op v G d H locs cs ss pc ls hk hr hs h1 h2 hd hok
theorem m_step (hj : j < 341) (hF : mFrame l E D tc O j p s mid args meth c) (hE : mEnds p l e s mid args below meth c Q E D tc j K)
    (h : mstp O (mW p l e s mid args below meth c Q E D tc j) (fun j as G d K' => mSim l E D tc O j (ment j as G d) K') j K (pc, L, S, cs, ss, G, d)) : mW p l e s mid args below meth c Q E D tc j (pc, L, S, cs, ss, G, d) := by
  simp only [mstp] at h
  cases hf : mfetch j pc with
  | none => rw [hf] at h; exact h.elim
  | some q =>
    obtain ⟨i, len⟩ := q
    rw [hf] at h
    dsimp only at h
    have hpc : pc < mlen j := by
      unfold mfetch at hf
      cases hb : Nat.ble (mlen j) pc with
      | true => rw [hb] at hf; cases hf
      | false =>
        have := Nat.ble_eq (x := mlen j) (y := pc)
        rw [hb] at this
        have h9 : ¬ mlen j ≤ pc := fun z => by have := this.mpr z; cases this
        omega
    have hck := mck_all hj hpc
    have hF9 := hF
    obtain ⟨hx, hb, hml, hr, hown, hG, hlocks, hname, htab, hK, hO, hll⟩ := hF9
    have ho := mown_lt hj
    unfold mck at hck
    rw [hf] at hck
    split at hck
    · rename_i h9; cases h9
    · rename_i e9 l9 h9
      cases h9
      simp only [Bool.and_eq_true] at hck
      obtain ⟨hp, hk⟩ := h
      intro H locs ls hl hrep hs h1 h2
      exact hE.2.1 e9 G d H locs cs ss pc ls S hk hrep hs hck.1 (List.isEmpty_iff.mp hck.2) hp hl.1
    · rename_i i9 len9 hnc h9
      cases h9
      simp only [Bool.and_eq_true] at hck
      obtain ⟨hlok, hck⟩ := hck
      split at hck
      · rename_i ia l9 hdec
        have hd := mdec_ok hdec
        simp only [Bool.and_eq_true] at hck
        obtain ⟨⟨hl9, hlnk⟩, hres⟩ := hck
        have hl9 := Nat.eq_of_beq_eq_true hl9
        subst hl9
        split at hres
        · rename_i r hr9
          have hres := of_decide_eq_true hres
          subst hres
          unfold mlnk at hlnk
          split at hlnk
          all_goals (try (have hlnk := Nat.eq_of_beq_eq_true hlnk; subst hlnk))
          · have hr9 : some (Instr.iconst _) = some _ := hr9
            cases hr9
            exact s_iconst hx hb hd h
          · have hr9 : some (Instr.lconst _) = some _ := hr9
            cases hr9
            exact s_lconst hx hb hd h
          · rename_i n9
            simp only [mres] at hr9
            cases hc : Nat.beq (n9 : Nat) 0 with
            | false => rw [hc] at hr9; cases hr9
            | true =>
              rw [hc] at hr9
              have hn : n9 = 0 := Fin.ext (Nat.eq_of_beq_eq_true hc)
              subst hn
              have hr9 : some (Instr.dconst 0) = some _ := hr9
              cases hr9
              exact s_dconst hx hb hd h
          · have hr9 : some (Instr.iload _) = some _ := hr9
            cases hr9
            exact s_iload_n hx hb hd h
          · have hr9 : some (Instr.lload _) = some _ := hr9
            cases hr9
            exact s_lload_n hx hb hd h
          · have hr9 : some (Instr.dload _) = some _ := hr9
            cases hr9
            exact s_dload_n hx hb hd h
          · have hr9 : some (Instr.aload _) = some _ := hr9
            cases hr9
            exact s_aload_n hx hb hd h
          · have hr9 : some (Instr.istore _) = some _ := hr9
            cases hr9
            exact s_istore_n hx hb (by have h8 : Nat.blt _ _ = true := hlok; simpa only [Nat.blt_eq] using h8) hd h
          · have hr9 : some (Instr.lstore _) = some _ := hr9
            cases hr9
            exact s_lstore_n hx hb (by have h8 : Nat.blt _ _ = true := hlok; simpa only [Nat.blt_eq] using h8) hd h
          · have hr9 : some (Instr.dstore _) = some _ := hr9
            cases hr9
            exact s_dstore_n hx hb (by have h8 : Nat.blt _ _ = true := hlok; simpa only [Nat.blt_eq] using h8) hd h
          · have hr9 : some (Instr.astore _) = some _ := hr9
            cases hr9
            exact s_astore_n hx hb (by have h8 : Nat.blt _ _ = true := hlok; simpa only [Nat.blt_eq] using h8) hd h
          · have hr9 : some (Instr.dup) = some _ := hr9
            cases hr9
            exact s_dup hx hb hd h
          · have hr9 : some (Instr.dup2) = some _ := hr9
            cases hr9
            exact s_dup2 hx hb hd h
          · have hr9 : some (Instr.pop) = some _ := hr9
            cases hr9
            exact s_pop hx hb hd h
          · have hr9 : some (Instr.iadd) = some _ := hr9
            cases hr9
            exact s_iadd hx hb hd h
          · have hr9 : some (Instr.isub) = some _ := hr9
            cases hr9
            exact s_isub hx hb hd h
          · have hr9 : some (Instr.imul) = some _ := hr9
            cases hr9
            exact s_imul hx hb hd h
          · have hr9 : some (Instr.idiv) = some _ := hr9
            cases hr9
            exact s_idiv hx hb hd h
          · have hr9 : some (Instr.irem) = some _ := hr9
            cases hr9
            exact s_irem hx hb hd h
          · have hr9 : some (Instr.iand) = some _ := hr9
            cases hr9
            exact s_iand hx hb hd h
          · have hr9 : some (Instr.ior) = some _ := hr9
            cases hr9
            exact s_ior hx hb hd h
          · have hr9 : some (Instr.ishl) = some _ := hr9
            cases hr9
            exact s_ishl hx hb hd h
          · have hr9 : some (Instr.ishr) = some _ := hr9
            cases hr9
            exact s_ishr hx hb hd h
          · have hr9 : some (Instr.iushr) = some _ := hr9
            cases hr9
            exact s_iushr hx hb hd h
          · have hr9 : some (Instr.i2b) = some _ := hr9
            cases hr9
            exact s_i2b hx hb hd h
          · have hr9 : some (Instr.i2l) = some _ := hr9
            cases hr9
            exact s_i2l hx hb hd h
          · have hr9 : some (Instr.l2i) = some _ := hr9
            cases hr9
            exact s_l2i hx hb hd h
          · have hr9 : some (Instr.i2d) = some _ := hr9
            cases hr9
            exact s_i2d hx hb hd h
          · have hr9 : some (Instr.ladd) = some _ := hr9
            cases hr9
            exact s_ladd hx hb hd h
          · have hr9 : some (Instr.lsub) = some _ := hr9
            cases hr9
            exact s_lsub hx hb hd h
          · have hr9 : some (Instr.lmul) = some _ := hr9
            cases hr9
            exact s_lmul hx hb hd h
          · have hr9 : some (Instr.land) = some _ := hr9
            cases hr9
            exact s_land hx hb hd h
          · have hr9 : some (Instr.lor) = some _ := hr9
            cases hr9
            exact s_lor hx hb hd h
          · have hr9 : some (Instr.lxor) = some _ := hr9
            cases hr9
            exact s_lxor hx hb hd h
          · have hr9 : some (Instr.lshl) = some _ := hr9
            cases hr9
            exact s_lshl hx hb hd h
          · have hr9 : some (Instr.lushr) = some _ := hr9
            cases hr9
            exact s_lushr hx hb hd h
          · have hr9 : some (Instr.lcmp) = some _ := hr9
            cases hr9
            exact s_lcmp hx hb hd h
          · have hr9 : some (Instr.ddiv) = some _ := hr9
            cases hr9
            exact s_ddiv hx hb hd h
          · have hr9 : some (Instr.arraylength) = some _ := hr9
            cases hr9
            exact s_arraylength hx hb hK hO hd h
          · have hr9 : some (Instr.iaload) = some _ := hr9
            cases hr9
            exact s_iaload hx hb hK hO hd h
          · have hr9 : some (Instr.laload) = some _ := hr9
            cases hr9
            exact s_laload hx hb hK hd h
          · have hr9 : some (Instr.baload) = some _ := hr9
            cases hr9
            exact s_baload hx hb hK hd h
          · have hr9 : some (Instr.aaload) = some _ := hr9
            cases hr9
            exact s_aaload hx hb hK hd h
          · have hr9 : some (Instr.iastore) = some _ := hr9
            cases hr9
            exact s_iastore hx hb hK hd h
          · have hr9 : some (Instr.lastore) = some _ := hr9
            cases hr9
            exact s_lastore hx hb hK hd h
          · have hr9 : some (Instr.bastore) = some _ := hr9
            cases hr9
            exact s_bastore hx hb hK hd h
          · have hr9 : some (Instr.aastore) = some _ := hr9
            cases hr9
            exact s_aastore hx hb hK hd h
          · have hr9 : some Instr.ireturn = some _ := hr9
            cases hr9
            simp only [mX] at h
            split at h
            · rename_i x9
              exact m_fin hE hd (v := some (0, x9)) h.1 h.2
            · exact absurd h.1 id
          · have hr9 : some Instr.lreturn = some _ := hr9
            cases hr9
            simp only [mX] at h
            split at h
            · rename_i x9
              exact m_fin hE hd (v := some (1, x9)) h.1 h.2
            · exact absurd h.1 id
          · have hr9 : some Instr.dreturn = some _ := hr9
            cases hr9
            simp only [mX] at h
            split at h
            · rename_i x9
              exact m_fin hE hd (v := some (2, x9)) h.1 h.2
            · exact absurd h.1 id
          · have hr9 : some Instr.return_ = some _ := hr9
            cases hr9
            simp only [mX] at h
            split at h
            · exact m_fin hE hd (v := none) h.1 h.2
            · exact absurd h.1 id
          · have hr9 : some (Instr.dcmp _) = some _ := hr9
            cases hr9
            exact s_dcmp hx hb hd h
          · have hr9 : some (Instr.bipush _) = some _ := hr9
            cases hr9
            simp only [mlok, Bool.and_eq_true, decide_eq_true_eq] at hlok
            exact s_bipush hx hb hlok.1 hlok.2 hd h
          · have hr9 : some (Instr.iload _) = some _ := hr9
            cases hr9
            exact s_iload hx hb hd h
          · have hr9 : some (Instr.lload _) = some _ := hr9
            cases hr9
            exact s_lload hx hb hd h
          · have hr9 : some (Instr.dload _) = some _ := hr9
            cases hr9
            exact s_dload hx hb hd h
          · have hr9 : some (Instr.aload _) = some _ := hr9
            cases hr9
            exact s_aload hx hb hd h
          · have hr9 : some (Instr.istore _) = some _ := hr9
            cases hr9
            exact s_istore hx hb (by have h8 : Nat.blt _ _ = true := hlok; simpa only [Nat.blt_eq] using h8) hd h
          · have hr9 : some (Instr.lstore _) = some _ := hr9
            cases hr9
            exact s_lstore hx hb (by have h8 : Nat.blt _ _ = true := hlok; simpa only [Nat.blt_eq] using h8) hd h
          · have hr9 : some (Instr.dstore _) = some _ := hr9
            cases hr9
            exact s_dstore hx hb (by have h8 : Nat.blt _ _ = true := hlok; simpa only [Nat.blt_eq] using h8) hd h
          · have hr9 : some (Instr.astore _) = some _ := hr9
            cases hr9
            exact s_astore hx hb (by have h8 : Nat.blt _ _ = true := hlok; simpa only [Nat.blt_eq] using h8) hd h
          · rename_i i8
            simp only [mres] at hr9
            cases hc : mlkI (mKL (mown j)) i8 with
            | some v9 =>
              rw [hc] at hr9
              have hr9 : some (Instr.sipush v9) = some _ := hr9
              cases hr9
              exact s_ldcI hx hb hG ho hown hc hd h
            | none =>
              rw [hc] at hr9
              dsimp only at hr9
              cases hc2 : mlk (mSL (mown j)) i8 with
              | none => rw [hc2] at hr9; cases hr9
              | some g9 =>
                rw [hc2] at hr9
                have hr9 : some (Instr.ldc g9) = some _ := hr9
                cases hr9
                exact s_ldcS hx hb hG ho hown hO hc2 hd h
          · have hr9 : some (Instr.newarray _) = some _ := hr9
            cases hr9
            exact s_newarray hx hb hG ho hown hK hd h
          · rename_i n9
            simp only [mres] at hr9
            cases hc : (decide (-32768 ≤ n9) && decide (n9 ≤ 32767)) with
            | false => rw [hc] at hr9; cases hr9
            | true =>
              rw [hc] at hr9
              have hr9 : some (Instr.sipush n9) = some _ := hr9
              cases hr9
              simp only [Bool.and_eq_true, decide_eq_true_eq] at hc
              exact s_sipush hx hb hc.1 hc.2 hd h
          · rename_i i8
            simp only [mres] at hr9
            cases hc : mlkI (mKL (mown j)) i8 with
            | none => rw [hc] at hr9; cases hr9
            | some g9 =>
              rw [hc] at hr9
              have hr9 : some (Instr.sipush g9) = some _ := hr9
              cases hr9
              exact s_ldcwI hx hb hG ho hown hc hd h
          · rename_i i8
            simp only [mres] at hr9
            cases hc : mlkI (mQL (mown j)) i8 with
            | none => rw [hc] at hr9; cases hr9
            | some g9 =>
              rw [hc] at hr9
              have hr9 : some (Instr.jsr_w g9) = some _ := hr9
              cases hr9
              exact s_ldc2 hx hb hG ho hown hc hd h
          · have hr9 : some (Instr.goto _) = some _ := hr9
            cases hr9
            exact s_goto hx hb rfl (of_decide_eq_true hlok) hd h
          · rename_i i8
            simp only [mres] at hr9
            cases hc : mlk (mFL (mown j)) i8 with
            | none => rw [hc] at hr9; cases hr9
            | some g9 =>
              rw [hc] at hr9
              have hr9 : some (Instr.getfield g9) = some _ := hr9
              cases hr9
              exact s_getfield hx hb hG ho hown hK hc hd h
          · rename_i i8
            simp only [mres] at hr9
            cases hc : mlk (mFL (mown j)) i8 with
            | none => rw [hc] at hr9; cases hr9
            | some g9 =>
              rw [hc] at hr9
              dsimp only at hr9
              cases hc2 : (!(mFn g9).2.2.2 || ((my j).name == "<init>" && (mFn g9).1 == mR (mown j))) with
              | false => rw [hc2] at hr9; cases hr9
              | true =>
                rw [hc2] at hr9
                have hr9 : some (Instr.putfield g9) = some _ := hr9
                cases hr9
                refine s_putfield hx hb hG ho hown hK hc (fun hfin => ?_) hd h
                rw [hfin] at hc2
                simp only [Bool.not_true, Bool.false_or, Bool.and_eq_true, beq_iff_eq] at hc2
                exact ⟨hname hc2.1, hc2.2⟩
          · rename_i i8
            simp only [mres] at hr9
            cases hc : mlk (mTL (mown j)) i8 with
            | some g9 =>
              rw [hc] at hr9
              have hr9 : some (Instr.getstatic g9) = some _ := hr9
              cases hr9
              exact s_getstatic hx hb hG ho hown hO hc hd h
            | none =>
              rw [hc] at hr9
              dsimp only at hr9
              cases hc2 : mlk (mTN (mown j)) i8 with
              | none => rw [hc2] at hr9; cases hr9
              | some g9 =>
                rw [hc2] at hr9
                have hr9 : some (Instr.getstatic g9) = some _ := hr9
                cases hr9
                exact s_getstaticN hx hb hG ho hown hO hc2 hd h
          · rename_i i8
            simp only [mres, mresV] at hr9
            cases hc : mlk (mML (mown j)) i8 with
            | some g9 =>
              rw [hc] at hr9
              dsimp only at hr9
              cases hc2 : Nat.beq (mkd g9) 1 with
              | false => rw [hc2] at hr9; cases hr9
              | true =>
                rw [hc2] at hr9
                have hr9 : some (Instr.invokestatic g9) = some _ := hr9
                cases hr9
                exact s_callV hj hF hE hpc hc (Nat.eq_of_beq_eq_true hc2) hd h
            | none =>
              rw [hc] at hr9
              dsimp only at hr9
              cases hc3 : mlk (mSP (mown j)) i8 with
              | some g9 =>
                rw [hc3] at hr9
                dsimp only at hr9
                cases hc4 : (Nat.beq g9 4 || Nat.beq g9 5) with
                | false => rw [hc4] at hr9; cases hr9
                | true =>
                  rw [hc4] at hr9
                  have hr9 : some (Instr.invokespecial g9) = some _ := hr9
                  cases hr9
                  rw [Bool.or_eq_true] at hc4
                  rcases hc4 with hc4 | hc4
                  · have hg := Nat.eq_of_beq_eq_true hc4
                    subst hg
                    exact s_strlen hj hF hc3 hd h
                  · have hg := Nat.eq_of_beq_eq_true hc4
                    subst hg
                    exact s_strch hj hF hc3 hd h
              | none =>
                rw [hc3] at hr9
                cases hr9
          · rename_i i8
            simp only [mres, mresV] at hr9
            cases hc : mlk (mML (mown j)) i8 with
            | some g9 =>
              rw [hc] at hr9
              dsimp only at hr9
              cases hc2 : Nat.beq (mkd g9) 0 with
              | false => rw [hc2] at hr9; cases hr9
              | true =>
                rw [hc2] at hr9
                have hr9 : some (Instr.invokestatic g9) = some _ := hr9
                cases hr9
                exact s_callS hj hF hE hpc hc (Nat.eq_of_beq_eq_true hc2) hd h
            | none =>
              rw [hc] at hr9
              dsimp only at hr9
              cases hc3 : mlk (mSP (mown j)) i8 with
              | some g9 =>
                rw [hc3] at hr9
                dsimp only at hr9
                cases hc4 : (Nat.beq g9 1 || Nat.beq g9 2 || Nat.beq g9 3) with
                | false => rw [hc4] at hr9; cases hr9
                | true =>
                  rw [hc4] at hr9
                  have hr9 : some (Instr.invokespecial g9) = some _ := hr9
                  cases hr9
                  rw [Bool.or_eq_true, Bool.or_eq_true] at hc4
                  rcases hc4 with (hc4 | hc4) | hc4
                  · have hg := Nat.eq_of_beq_eq_true hc4
                    subst hg
                    exact s_mmax hx hb hml hG ho hown hc3 hd h
                  · have hg := Nat.eq_of_beq_eq_true hc4
                    subst hg
                    exact s_mmin hx hb hml hG ho hown hc3 hd h
                  · have hg := Nat.eq_of_beq_eq_true hc4
                    subst hg
                    exact s_copy hx hb hml hG ho hown hK hc3 hd h
              | none =>
                rw [hc3] at hr9
                cases hr9
          · rename_i i8
            simp only [mres, mresV] at hr9
            cases hc : mlk (mML (mown j)) i8 with
            | some g9 =>
              rw [hc] at hr9
              dsimp only at hr9
              cases hc2 : Nat.beq (mkd g9) 2 with
              | false => rw [hc2] at hr9; cases hr9
              | true =>
                rw [hc2] at hr9
                have hr9 : some (Instr.invokestatic g9) = some _ := hr9
                cases hr9
                exact s_callI hj hF hE hpc (Or.inl hc) (Nat.eq_of_beq_eq_true hc2) hd h
            | none =>
              rw [hc] at hr9
              dsimp only at hr9
              cases hc3 : mlk (mSP (mown j)) i8 with
              | some g9 =>
                rw [hc3] at hr9
                dsimp only at hr9
                cases hc4 : Nat.beq g9 0 with
                | false => rw [hc4] at hr9; cases hr9
                | true =>
                  rw [hc4] at hr9
                  have hr9 : some (Instr.invokespecial g9) = some _ := hr9
                  cases hr9
                  have hg := Nat.eq_of_beq_eq_true hc4
                  subst hg
                  exact s_objInit hx hb hml hG ho hown hc3 hd h
              | none =>
                rw [hc3] at hr9
                have hr9 : (match mlk (mNL (mown j)) i8 with
                  | some j9 => bif Nat.beq (mkd j9) 2 then some (Instr.invokestatic j9) else none
                  | none => none) = some _ := hr9
                cases hc5 : mlk (mNL (mown j)) i8 with
                | none => rw [hc5] at hr9; cases hr9
                | some g9 =>
                  rw [hc5] at hr9
                  dsimp only at hr9
                  cases hc2 : Nat.beq (mkd g9) 2 with
                  | false => rw [hc2] at hr9; cases hr9
                  | true =>
                    rw [hc2] at hr9
                    have hr9 : some (Instr.invokestatic g9) = some _ := hr9
                    cases hr9
                    exact s_callI hj hF hE hpc (Or.inr hc5) (Nat.eq_of_beq_eq_true hc2) hd h
          · rename_i i8
            simp only [mres] at hr9
            cases hc : mlk (mCL (mown j)) i8 with
            | none => rw [hc] at hr9; cases hr9
            | some g9 =>
              rw [hc] at hr9
              have hr9 : some (Instr.new g9) = some _ := hr9
              cases hr9
              exact s_new hx hb hG ho hown hK hc hd h
          · rename_i i8
            simp only [mres] at hr9
            cases hc : mlk (mCL (mown j)) i8 with
            | none => rw [hc] at hr9; cases hr9
            | some g9 =>
              rw [hc] at hr9
              have hr9 : some (Instr.anewarray g9) = some _ := hr9
              cases hr9
              simp only [mlok, Bool.or_eq_true] at hlok
              exact s_anewarray hx hb hG ho hown hK hO hc (hlok.imp Nat.eq_of_beq_eq_true Nat.eq_of_beq_eq_true) hd h
          · have hr9 : some (Instr.iinc _ _) = some _ := hr9
            cases hr9
            exact s_iinc hx hb (by have h8 : Nat.blt _ _ = true := hlok; simpa only [Nat.blt_eq] using h8) hd h
          · rename_i o9 t9
            have hr9 : some (Instr.ifCond o9 _) = some _ := hr9
            cases hr9
            have h8 := of_decide_eq_true hlok
            cases o9
            · exact s_if_eq hx hb rfl h8 hd h
            · exact s_if_ne hx hb rfl h8 hd h
            · exact s_if_lt hx hb rfl h8 hd h
            · exact s_if_ge hx hb rfl h8 hd h
            · exact s_if_gt hx hb rfl h8 hd h
            · exact s_if_le hx hb rfl h8 hd h
          · rename_i o9 t9
            have hr9 : some (Instr.if_icmp o9 _) = some _ := hr9
            cases hr9
            have h8 := of_decide_eq_true hlok
            cases o9
            · exact s_icmp_eq hx hb rfl h8 hd h
            · exact s_icmp_ne hx hb rfl h8 hd h
            · exact s_icmp_lt hx hb rfl h8 hd h
            · exact s_icmp_ge hx hb rfl h8 hd h
            · exact s_icmp_gt hx hb rfl h8 hd h
            · exact s_icmp_le hx hb rfl h8 hd h
          · rename_i t9 lo9 hi9 ts9
            simp only [mres] at hr9
            cases hc : (decide ((ts9.size : Int) = hi9 - lo9 + 1) && ts9.toList.all (fun q => decide (0 ≤ (pc : Int) + q)) && decide (0 ≤ (pc : Int) + t9)) with
            | false => rw [hc] at hr9; cases hr9
            | true =>
              rw [hc] at hr9
              have hr9 : some (Instr.tableswitch ((pc : Int) + t9) lo9 hi9 (ts9.map (fun q => (pc : Int) + q))) = some _ := hr9
              cases hr9
              simp only [Bool.and_eq_true, decide_eq_true_eq, List.all_eq_true] at hc
              exact s_tableswitch hx hb rfl hc.2 hc.1.2 hc.1.1 hd h
          · cases hlnk
        · cases hres
      · cases hck
end SN
