/-! ===== World.make ===== -/
def LK (w : Row) : Prop := GN w ∧ GO w ∧ ∀ k, 0 ≤ k → k < w 10 → 0 ≤ w (1916 + 5 * k + 1) ∧ w (1916 + 5 * k + 1) < w 9
theorem LK.of {w : Row} (h : GG w) : LK w := ⟨h.1, h.2.1, h.2.2.2.2.2.1.of⟩
theorem LK.tok {p t h : Int} {w w' : Row} (hk : LK w) (h10 : w 10 < 200) (ht : 0 ≤ t ∧ t < w 9) (hS : TokW p t h w w') : LK w' := by
  obtain ⟨hN, hO, hK⟩ := hk
  obtain ⟨s1, s2, s3, s4, s5, s6, s7⟩ := hS
  have n10 := hN.2.2.2.1
  refine ⟨?_, hO.k (fun i hi => s7 i (by omega) (by omega)) hN, fun k x y => ?_⟩
  · unfold GN at *
    rw [s1, s7 0 (by omega) (by omega), s7 1 (by omega) (by omega), s7 2 (by omega) (by omega), s7 3 (by omega) (by omega), s7 4 (by omega) (by omega), s7 5 (by omega) (by omega), s7 6 (by omega) (by omega), s7 7 (by omega) (by omega), s7 8 (by omega) (by omega), s7 9 (by omega) (by omega), s7 11 (by omega) (by omega)]
    omega
  · rw [s1] at y
    rw [s7 9 (by omega) (by omega)]
    by_cases q : k = w 10
    · rw [q, s3]
      exact ht
    · rw [s7 (1916 + 5 * k + 1) (by omega) (by omega)]
      exact hK k x (by omega)
theorem tokStepW {b p t h : Int} {d : mD} {w w' : Row} (hk : LK w) (hW : WR b d w) (ht : 0 ≤ t ∧ t < w 9) (hp : w (452 + 24 * t + 0) = p) (p0 : 0 ≤ p ∧ p < 16) (hh : 0 ≤ h ∧ h < 1300) (h10 : w 10 < 200) (hS : TokW p t h w w') : WR b (mkD b t h d) w' ∧ WF b d (mkD b t h d) ∧ madeR w' p = madeR w p + 1 := by
  obtain ⟨hN, hO, hK⟩ := hk
  obtain ⟨n7, n8, n9, n10, n11, n0, n1, n2, n3, n4, n5, n6⟩ := id hN
  obtain ⟨rB, ⟨a0, a1, a2, a3, a4, a5, a6⟩, rO, rQ, rP, r1, r2, rK, rS, rH, rD⟩ := hW
  obtain ⟨s1, s2, s3, s4, s5, s6, s7⟩ := hS
  have S : ∀ i, (¬ i = 10 ∧ ¬ (1916 + 5 * w 10 ≤ i ∧ i < 1916 + 5 * w 10 + 5)) → w' i = w i := fun i h => s7 i h.1 h.2
  have e10 : d (b + 10) t = p := by rw [(r1 t ht.1 ht.2).1]; exact hp
  have ek : ∀ k, 0 ≤ k → k < w 10 → w' (1916 + 5 * k + 2) = w (1916 + 5 * k + 2) ∧ w' (1916 + 5 * k + 4) = w (1916 + 5 * k + 4) ∧ perO w' k = perO w k := fun k k0 k1 => by
    have gk := hK k k0 k1
    refine ⟨S _ (by omega), S _ (by omega), ?_⟩
    unfold perO
    rw [S (1916 + 5 * k + 1) (by omega), S _ (by omega)]
  have en : perO w' (w 10) = p := by
    unfold perO
    rw [s3, S _ (by omega)]
    exact hp
  have hm : madeR w' p = madeR w p + 1 := by
    unfold madeR
    rw [s1, csum_s _ n10.1, S 0 (by omega)]
    have c1 : csum (fun k => if perO w' k = p ∧ w' (1916 + 5 * k + 4) / 20 = w 0 / 20 then 1 else 0) (w 10).toNat = csum (fun k => if perO w k = p ∧ w (1916 + 5 * k + 4) / 20 = w 0 / 20 then 1 else 0) (w 10).toNat := csum_congr (fun i x y => by
      show (if perO w' i = p ∧ w' (1916 + 5 * i + 4) / 20 = w 0 / 20 then (1 : Int) else 0) = if perO w i = p ∧ w (1916 + 5 * i + 4) / 20 = w 0 / 20 then 1 else 0
      obtain ⟨-, z1, z2⟩ := ek i x (by omega)
      rw [z1, z2])
    rw [c1]
    show _ + (if perO w' (w 10) = p ∧ w' (1916 + 5 * w 10 + 4) / 20 = w 0 / 20 then (1 : Int) else 0) = _
    rw [if_pos ⟨en, by rw [s6]⟩]
  unfold mkD
  rw [e10, a5, a0]
  have hB : WB b (mset (mset (mset (mset (mset (mset (mset d (b + 18) (1300 * p + h) 1) (b + 19) (w 10) p) (b + 20) (w 10) t) (b + 21) (w 10) h) (b + 22) (w 10) 0) (b + 23) (w 10) (w 0 / 20)) b 5 (w 10 + 1)) :=
    ((((((rB.st (by decide) (by omega) (by omega) (by omega)).st (by omega) (by omega) (by omega) (by omega)).st (by omega) (by omega) (by omega) (by omega)).st (by omega) (by omega) (by omega) (by omega)).st (by decide) (by omega) (by omega) (by omega)).st (by omega) (by omega) (by omega) (by omega)).st (by omega) (by omega) (by omega) (by omega)
  have hF : WF b d (mset (mset (mset (mset (mset (mset (mset d (b + 18) (1300 * p + h) 1) (b + 19) (w 10) p) (b + 20) (w 10) t) (b + 21) (w 10) h) (b + 22) (w 10) 0) (b + 23) (w 10) (w 0 / 20)) b 5 (w 10 + 1)) := by
    refine ⟨fun c hc => ?_, ?_⟩
    · funext j
      simp (disch := omega) only [ms_a]
    · simp (disch := omega) only [ms_a, ms_i]
  generalize hd : mset (mset (mset (mset (mset (mset (mset d (b + 18) (1300 * p + h) 1) (b + 19) (w 10) p) (b + 20) (w 10) t) (b + 21) (w 10) h) (b + 22) (w 10) 0) (b + 23) (w 10) (w 0 / 20)) b 5 (w 10 + 1) = d' at *
  have fd : ∀ c, ¬ c = b → ¬ (b + 18 ≤ c ∧ c ≤ b + 23) → d' c = d c := fun c x y => by
    rw [← hd]
    funext j
    simp (disch := omega) only [ms_a]
  have fb : ∀ j, ¬ j = 5 → d' b j = d b j := fun j x => by
    rw [← hd]
    simp (disch := omega) only [ms_a, ms_i]
  have v5 : d' b 5 = w 10 + 1 := by
    rw [← hd]
    exact ms_e rfl rfl
  have f18 : ∀ j, ¬ j = 1300 * p + h → d' (b + 18) j = d (b + 18) j := fun j x => by
    rw [← hd]
    simp (disch := omega) only [ms_a, ms_i]
  have v18 : d' (b + 18) (1300 * p + h) = 1 := by
    rw [← hd]
    simp (disch := omega) only [ms_a, ms_e]
  have col : ∀ c, 19 ≤ c → c ≤ 23 → ∀ j, ¬ j = w 10 → d' (b + c) j = d (b + c) j := fun c x y j z => by
    rw [← hd, ms_a (show ¬ b + c = b by omega), ms_i z, ms_i z, ms_i z, ms_i z, ms_i z, ms_a (show ¬ b + c = b + 18 by omega)]
  have v19 : d' (b + 19) (w 10) = p := by
    rw [← hd]
    simp (disch := omega) only [ms_a, ms_e]
  have v20 : d' (b + 20) (w 10) = t := by
    rw [← hd]
    simp (disch := omega) only [ms_a, ms_e]
  have v21 : d' (b + 21) (w 10) = h := by
    rw [← hd]
    simp (disch := omega) only [ms_a, ms_e]
  have v22 : d' (b + 22) (w 10) = 0 := by
    rw [← hd]
    simp (disch := omega) only [ms_a, ms_e]
  have v23 : d' (b + 23) (w 10) = w 0 / 20 := by
    rw [← hd]
    simp (disch := omega) only [ms_a, ms_e]
  clear hd
  refine ⟨⟨hB, ⟨?_, ?_, ?_, ?_, ?_, ?_, fun k x y => ?_⟩, rO.k (fun c x y z => fd c (by omega) (by omega)) (fun i hi => S i (by omega)) n7, rQ.k (fd _ (by omega) (by omega)) (fun i hi => S i (by omega)) n7 hO, rP.k (fd _ (by omega) (by omega)) (fun i hi => S i (by omega)), r1.k (fun c x y => fd c (by omega) (by omega)) (fun i hi => S i (by omega)) n9, r2.k (fun c x y => fd c (by omega) (by omega)) (fun i hi => S i (by omega)) n9, fun k x y => ?_, rS.k (fb 6 (by decide)) (fd _ (by omega) (by omega)) (fun i hi => S i (by omega)) n11, fun p' h' x y u v => ?_, rD.k (fb 7 (by decide)) (fun c x y => fd c (by omega) (by omega)) (fun i hi => S i (by omega)) n9⟩, hF, hm⟩
  · rw [fb 0 (by decide), S 0 (by omega)]; exact a0
  · rw [fb 1 (by decide), S 1 (by omega)]; exact a1
  · rw [fb 2 (by decide), S 7 (by omega)]; exact a2
  · rw [fb 3 (by decide), S 8 (by omega)]; exact a3
  · rw [fb 4 (by decide), S 9 (by omega)]; exact a4
  · rw [v5, s1]
  · rw [fd (b + 1) (by omega) (by omega), S (2 + k) (by omega)]; exact a6 k x y
  · rw [s1] at y
    by_cases q : k = w 10
    · rw [q, v19, v20, v21, v22, v23, s2, s3, s4, s5, s6]
      exact ⟨rfl, rfl, rfl, rfl, rfl⟩
    · rw [col 19 (by decide) (by decide) k q, col 20 (by decide) (by decide) k q, col 21 (by decide) (by decide) k q, col 22 (by decide) (by decide) k q, col 23 (by decide) (by decide) k q, S (1916 + 5 * k + 0) (by omega), S (1916 + 5 * k + 1) (by omega), S (1916 + 5 * k + 2) (by omega), S (1916 + 5 * k + 3) (by omega), S (1916 + 5 * k + 4) (by omega)]
      exact rK k x (by omega)
  · rw [s1]
    obtain ⟨g1, g2⟩ := rH p' h' x y u v
    by_cases q : 1300 * p' + h' = 1300 * p + h
    · have e1 : p' = p := by omega
      have e2 : h' = h := by omega
      rw [q, v18]
      exact ⟨Or.inr rfl, ⟨fun _ => ⟨w 10, n10.1, by omega, by rw [s4, e2], by rw [en, e1]⟩, fun _ => by decide⟩⟩
    · rw [f18 _ q]
      refine ⟨g1, g2.trans ⟨fun ⟨k, k0, k1, k2, k3⟩ => ⟨k, k0, by omega, (ek k k0 k1).1.trans k2, (ek k k0 k1).2.2.trans k3⟩, fun ⟨k, k0, k1, k2, k3⟩ => ?_⟩⟩
      by_cases z : k = w 10
      · rw [z, s4] at k2
        rw [z, en] at k3
        omega
      · exact ⟨k, k0, by omega, (ek k k0 (by omega)).1.symm.trans k2, (ek k k0 (by omega)).2.2.symm.trans k3⟩
-- how many a person made in this week
theorem madeW {b p : Int} {d : mD} {w : Row} (hk : LK w) (hW : WR b d w) : csum (wMadeF b p d) (d b 5).toNat = madeR w p := by
  obtain ⟨rB, ⟨a0, a1, a2, a3, a4, a5, a6⟩, rO, rQ, rP, r1, r2, rK, rS, rH, rD⟩ := hW
  have n10 := hk.1.2.2.2.1
  unfold madeR
  rw [a5]
  refine csum_congr (fun i x y => ?_)
  show (if d (b + 10) (d (b + 20) i) = p ∧ d (b + 23) i = d b 0 / 20 then (1 : Int) else 0) = if perO w i = p ∧ w (1916 + 5 * i + 4) / 20 = w 0 / 20 then 1 else 0
  obtain ⟨g1, g2, g3, g4, g5⟩ := rK i x (by omega)
  have gk := hk.2.2 i x (by omega)
  rw [g2, g5, a0, (r1 _ gk.1 gk.2).1]
  rfl
theorem mkcW {b t p h : Int} {d : mD} {w : Row} (hk : LK w) (hW : WR b d w) (ht : 0 ≤ t ∧ t < w 9) (hp : w (452 + 24 * t + 0) = p) (p0 : 0 ≤ p ∧ p < 16) (hh : 0 ≤ h ∧ h < 1300) : mkC b t h d ↔ madeR w p < w 5 ∧ w 10 < 200 ∧ V_216 p h w = 0 := by
  have m := madeW (p := p) hk hW
  obtain ⟨rB, ⟨a0, a1, a2, a3, a4, a5, a6⟩, rO, rQ, rP, r1, r2, rK, rS, rH, rD⟩ := hW
  have e10 : d (b + 10) t = p := by rw [(r1 t ht.1 ht.2).1]; exact hp
  have e3 : d (b + 1) 3 = w 5 := a6 3 (by decide) (by decide)
  obtain ⟨g1, g2⟩ := rH p h p0.1 p0.2 hh.1 hh.2
  obtain ⟨v1, v2⟩ := v216 (p := p) (h := h) hk.1.2.2.2.1
  unfold mkC
  rw [e10, e3, m, a5]
  refine ⟨fun ⟨x, y, z⟩ => ⟨z, y, v2.mpr (fun e => g2.mpr e x)⟩, fun ⟨x, y, z⟩ => ⟨?_, y, x⟩⟩
  by_cases c : d (b + 18) (1300 * p + h) = 0
  · exact c
  · exact absurd (g2.mp c) (v2.mp z)
theorem mkW {b t p : Int} : ∀ (n nr : Nat) (h m y : Int) (d : mD) (w : Row), WR b d w → LK w → 0 ≤ t ∧ t < w 9 → w (452 + 24 * t + 0) = p → 0 ≤ p ∧ p < 16 → w (452 + 24 * t + 3) ≤ 1300 → 0 ≤ h → w (452 + 24 * t + 3) - h ≤ (nr : Int) → n = (w (452 + 24 * t + 3) - h).toNat →
    ∃ z d' w', wMk b t n h (m, d) = (m + z, d') ∧ LP_218_41 t nr p (madeR w p) y h w = (y + z, w') ∧ WR b d' w' ∧ WF b d d' := by
  intro n
  induction n with
  | zero =>
    intro nr h m y d w hW hk ht hp p0 h9 h0 hr hn
    refine ⟨0, d, w, by rw [Int.add_zero]; rfl, ?_, hW, WF.refl⟩
    rw [Int.add_zero]
    cases nr with
    | zero =>
      show ST_218_41 t _ p (madeR w p) y h w = _
      unfold ST_218_41
      rw [if_neg (by omega)]
    | succ nr =>
      show ST_218_41 t _ p (madeR w p) y h w = _
      unfold ST_218_41
      rw [if_neg (by omega)]
  | succ n ih =>
    intro nr h m y d w hW hk ht hp p0 h9 h0 hr hn
    cases nr with
    | zero => omega
    | succ nr =>
      have c1 : h < w (452 + 24 * t + 3) := by omega
      have n10 := hk.1.2.2.2.1
      have hc := mkcW hk hW ht hp p0 ⟨h0, show h < 1300 by omega⟩
      have no : ¬ mkC b t h d → LP_218_41 t (nr + 1) p (madeR w p) y h w = LP_218_41 t nr p (madeR w p) y (h + 1) w → ∃ z d' w', wMk b t (n + 1) h (m, d) = (m + z, d') ∧ LP_218_41 t (nr + 1) p (madeR w p) y h w = (y + z, w') ∧ WR b d' w' ∧ WF b d d' := fun nc e => by
        obtain ⟨z, d', w', i1, i2, i3, i4⟩ := ih nr (h + 1) m y d w hW hk ht hp p0 h9 (by omega) (by omega) (by omega)
        refine ⟨z, d', w', ?_, e.trans i2, i3, i4⟩
        show wMk b t n (h + 1) (if mkC b t h d then (m + 1, mkD b t h d) else (m, d)) = _
        rw [if_neg nc]
        exact i1
      by_cases c2 : madeR w p < w 5
      · by_cases c3 : w 10 < 200
        · by_cases c4 : V_216 p h w = 0
          · have hS := tokW (p := p) (t := t) (h := h) n10
            obtain ⟨q1, q2, q3⟩ := tokStepW hk hW ht hp p0 ⟨h0, by omega⟩ c3 hS
            have hk' := hk.tok c3 ht hS
            have e : LP_218_41 t (nr + 1) p (madeR w p) y h w = LP_218_41 t nr p (madeR w p + 1) (y + 1) (h + 1) (ws (ws (ws (ws (ws (ws w ((1916 + (5 * (w 10))) + 0) p) ((1916 + (5 * (w 10))) + 1) t) ((1916 + (5 * (w 10))) + 2) h) ((1916 + (5 * (w 10))) + 3) 0) ((1916 + (5 * (w 10))) + 4) (w 0)) 10 ((w 10) + 1)) := by
              show ST_218_41 t _ p (madeR w p) y h w = _
              unfold ST_218_41
              rw [if_pos c1, if_pos c2, if_pos c3, if_pos c4]
            rw [e]
            generalize (ws (ws (ws (ws (ws (ws w ((1916 + (5 * (w 10))) + 0) p) ((1916 + (5 * (w 10))) + 1) t) ((1916 + (5 * (w 10))) + 2) h) ((1916 + (5 * (w 10))) + 3) 0) ((1916 + (5 * (w 10))) + 4) (w 0)) 10 ((w 10) + 1)) = w1 at *
            have S := hS.2.2.2.2.2.2
            have n9 := hk.1.2.2.1
            have f3 : w1 (452 + 24 * t + 3) = w (452 + 24 * t + 3) := S _ (by omega) (by omega)
            have f0 : w1 (452 + 24 * t + 0) = w (452 + 24 * t + 0) := S _ (by omega) (by omega)
            have f9 : w1 9 = w 9 := S _ (by omega) (by omega)
            obtain ⟨z, d', w', i1, i2, i3, i4⟩ := ih nr (h + 1) (m + 1) (y + 1) (mkD b t h d) w1 q1 hk' (by rw [f9]; exact ht) (by rw [f0]; exact hp) p0 (by rw [f3]; exact h9) (by omega) (by rw [f3]; omega) (by rw [f3]; omega)
            refine ⟨z + 1, d', w', ?_, ?_, i3, q2.trans i4⟩
            · show wMk b t n (h + 1) (if mkC b t h d then (m + 1, mkD b t h d) else (m, d)) = _
              rw [if_pos (hc.mpr ⟨c2, c3, c4⟩), i1, show m + 1 + z = m + (z + 1) by omega]
            · rw [← q3, i2, show y + 1 + z = y + (z + 1) by omega]
          · exact no (fun z => c4 (hc.mp z).2.2) (by
              show ST_218_41 t _ p (madeR w p) y h w = _
              unfold ST_218_41
              rw [if_pos c1, if_pos c2, if_pos c3, if_neg c4])
        · exact no (fun z => c3 (hc.mp z).2.1) (by
            show ST_218_41 t _ p (madeR w p) y h w = _
            unfold ST_218_41
            rw [if_pos c1, if_pos c2, if_neg c3])
      · exact no (fun z => c2 (hc.mp z).1) (by
          show ST_218_41 t _ p (madeR w p) y h w = _
          unfold ST_218_41
          rw [if_pos c1, if_neg c2])
theorem w_349 {E : mO × tW} {K : tK} {b t : Int} {d : mD} {w : Row} (hW : WR b d w) (hg : GG w) (ht : 0 ≤ t ∧ t < w 9) (h9 : w (452 + 24 * t + 3) ≤ 999) (k : ∀ d', WR b d' (W_218 t w) → WF b d d' → K (.inl (some (0, V_218 t w))) d') : tCall E 349 [.inr (41, b), .inl (0, t)] d K := by
  obtain ⟨rB, ⟨a0, a1, a2, a3, a4, a5, a6⟩, rO, rQ, rP, r1, r2, rK, rS, rH, rD⟩ := id hW
  obtain ⟨n7, n8, n9, n10, n11, n0, n1, n2, n3, n4, n5, n6⟩ := id hg.1
  have hk := LK.of hg
  have gt := hg.2.2.2.1 t ht.1 ht.2
  obtain ⟨t0, t1, t2, t3, t4⟩ := r1 t ht.1 ht.2
  have e0 : d (b + 1) 0 = w 2 := a6 0 (by decide) (by decide)
  obtain ⟨z, d', w', i1, i2, i3, i4⟩ := mkW (b := b) (t := t) (p := w (452 + 24 * t + 0)) (w (452 + 24 * t + 3) - (w (452 + 24 * t + 2) + w 2)).toNat (1301 - (w (452 + 24 * t + 2) + w 2)).toNat (w (452 + 24 * t + 2) + w 2) 0 0 d w hW hk ht rfl ⟨gt.1.1, by omega⟩ (by omega) (by omega) (by omega) rfl
  refine k_349 ⟨ht.1, by omega⟩ ⟨rB.1, ⟨by omega, by omega⟩, by omega, ⟨by omega, by omega⟩, fun i x y => ?_, by omega⟩ (by omega) ?_
  · have gk := hk.2.2 i x (by omega)
    rw [(rK i x (by omega)).2.1]
    exact ⟨gk.1, by omega⟩
  · have e1 : wMake b t d = (0 + z, d') := by
      unfold wMake
      rw [t3, t2, e0]
      exact i1
    have e2 : F_218 t w = (0 + z, w') := by
      unfold F_218
      rw [v217 n10]
      exact i2
    rw [e1]
    have k1 := k d' (by unfold W_218; rw [e2]; exact i3) i4
    unfold V_218 at k1
    rw [e2] at k1
    exact k1
