/-! ===== contracts of the reader and the loader: printed by a program of mine ===== -/
def st_120_95 (x0 : Int) (r95 : Int → Int → mD → Int × mD) (x1 x2 : Int) (d : mD) : Int × mD := if x2 < 2 then r95 x1 (x2 + 1) (mset d (x0 + 571) x2 0) else (d (x0 + 1 + 10) 0, mset d (x0 + 572) 1 0)
def lp_120_95 (x0 : Int) : Nat → Int → Int → mD → Int × mD
  | 0 => st_120_95 x0 (fun _ _ d => (0, d))
  | n + 1 => st_120_95 x0 (lp_120_95 x0 n)
theorem ls_120_95 {E : mO × tW} {K : tK} {x0 : Int} (hE : EOK E) (hW : W55 E) (hx0 : wbB x0) (N95 : Int) (r95 : Int → Int → mD → Int × mD) (ih95 : ∀ (x1 x2 : Int) (d : mD), Safe d → (0 ≤ x2 ∧ x2 ≤ 2) → 0 ≤ 2 - x2 → 2 - x2 < N95 → ((0 ≤ (r95 x1 x2 d).1 ∧ (r95 x1 x2 d).1 ≤ 16) → (∀ b : Int, (b < x0 + 1 ∨ x0 + 16 < b) ∧ (b < x0 + 19 ∨ x0 + 64 < b) ∧ (b < x0 + 571 ∨ x0 + 572 < b) ∧ (b < x0 + 576 ∨ x0 + 578 < b) ∧ (b < x0 + 580 ∨ x0 + 595 < b) ∧ (b < x0 + 598 ∨ x0 + 642 < b) → (r95 x1 x2 d).2 b = d b) → Safe (r95 x1 x2 d).2 → K (.inl (some (0, (r95 x1 x2 d).1))) (r95 x1 x2 d).2) → tRun E 120 (95, [.inr (10, x0), .inl (0, x1), .inl (0, x2)], [], 0, 0, d) K) (x1 x2 : Int) (d : mD) (hS : Safe d) (i0 : 0 ≤ x2 ∧ x2 ≤ 2) (hm : 2 - x2 ≤ N95) (h : (0 ≤ (st_120_95 x0 r95 x1 x2 d).1 ∧ (st_120_95 x0 r95 x1 x2 d).1 ≤ 16) → (∀ b : Int, (b < x0 + 1 ∨ x0 + 16 < b) ∧ (b < x0 + 19 ∨ x0 + 64 < b) ∧ (b < x0 + 571 ∨ x0 + 572 < b) ∧ (b < x0 + 576 ∨ x0 + 578 < b) ∧ (b < x0 + 580 ∨ x0 + 595 < b) ∧ (b < x0 + 598 ∨ x0 + 642 < b) → (st_120_95 x0 r95 x1 x2 d).2 b = d b) → Safe (st_120_95 x0 r95 x1 x2 d).2 → K (.inl (some (0, (st_120_95 x0 r95 x1 x2 d).1))) (st_120_95 x0 r95 x1 x2 d).2) : tRun E 120 (95, [.inr (10, x0), .inl (0, x1), .inl (0, x2)], [], 0, 0, d) K := by
  refine t_120_95 ?_
  refine ⟨⟨m_inR (by omega) (by omega), m_inR (by omega) (by omega)⟩, fun c0 => ?_, fun c0 => ?_⟩
  · have hS1 : Safe (mset d (x0 + 572) 1 0) := s_7_f1 hS (wbB.ou hx0) (by omega)
    rw [mset_ni (d := d) (a := x0 + 572) (i := (1 : Int)) (v := (0 : Int)) (b := x0 + 1 + 10) (j := (0 : Int)) (by omega)]
    have q1 := r_4_f0 hS (stB.pe (wbB.nw hx0))
    have y0 : st_120_95 x0 r95 x1 x2 d = (d (x0 + 1 + 10) 0, mset d (x0 + 572) 1 0) := by simp only [st_120_95, if_neg (show ¬ x2 < 2 from Int.not_lt.mpr c0)]
    rw [y0] at h
    exact h (show 0 ≤ (d (x0 + 1 + 10) 0) ∧ (d (x0 + 1 + 10) 0) ≤ 16 from (by omega)) (show ∀ b : Int, (b < x0 + 1 ∨ x0 + 16 < b) ∧ (b < x0 + 19 ∨ x0 + 64 < b) ∧ (b < x0 + 571 ∨ x0 + 572 < b) ∧ (b < x0 + 576 ∨ x0 + 578 < b) ∧ (b < x0 + 580 ∨ x0 + 595 < b) ∧ (b < x0 + 598 ∨ x0 + 642 < b) → (mset d (x0 + 572) 1 0) b = d b from fun b hb => mset_ne (by omega)) hS1
  · refine ⟨by omega, ?_⟩
    have hS2 : Safe (mset d (x0 + 571) x2 0) := s_10_571 hS hx0 (by omega)
    refine ih95 x1 (x2 + 1)  (mset d (x0 + 571) x2 0) hS2 (by omega) (by omega) (by omega) ?_
    intro e F hS_
    have y0 : st_120_95 x0 r95 x1 x2 d = r95 x1 (x2 + 1) (mset d (x0 + 571) x2 0) := by simp only [st_120_95, if_pos (show x2 < 2 from c0)]
    rw [y0] at h
    exact h e (fun b hb => (F b hb).trans ((show ∀ b : Int, (b < x0 + 1 ∨ x0 + 16 < b) ∧ (b < x0 + 19 ∨ x0 + 64 < b) ∧ (b < x0 + 571 ∨ x0 + 572 < b) ∧ (b < x0 + 576 ∨ x0 + 578 < b) ∧ (b < x0 + 580 ∨ x0 + 595 < b) ∧ (b < x0 + 598 ∨ x0 + 642 < b) → (mset d (x0 + 571) x2 0) b = d b from fun b hb => mset_ne (by omega)) b hb)) hS_
theorem l_120_95 {E : mO × tW} {K : tK} {x0 : Int} (hE : EOK E) (hW : W55 E) (hx0 : wbB x0) : ∀ (n : Nat) (x1 x2 : Int) (d : mD), Safe d → (0 ≤ x2 ∧ x2 ≤ 2) → 2 - x2 ≤ (n : Int) → ((0 ≤ (lp_120_95 x0 n x1 x2 d).1 ∧ (lp_120_95 x0 n x1 x2 d).1 ≤ 16) → (∀ b : Int, (b < x0 + 1 ∨ x0 + 16 < b) ∧ (b < x0 + 19 ∨ x0 + 64 < b) ∧ (b < x0 + 571 ∨ x0 + 572 < b) ∧ (b < x0 + 576 ∨ x0 + 578 < b) ∧ (b < x0 + 580 ∨ x0 + 595 < b) ∧ (b < x0 + 598 ∨ x0 + 642 < b) → (lp_120_95 x0 n x1 x2 d).2 b = d b) → Safe (lp_120_95 x0 n x1 x2 d).2 → K (.inl (some (0, (lp_120_95 x0 n x1 x2 d).1))) (lp_120_95 x0 n x1 x2 d).2) → tRun E 120 (95, [.inr (10, x0), .inl (0, x1), .inl (0, x2)], [], 0, 0, d) K := by
  intro n
  induction n with
  | zero =>
    intro x1 x2  d hS i0 hm  h
    exact ls_120_95 hE hW hx0 0 _ (fun _ _  _ _ _ m0 m1 _ => absurd m1 (by omega)) x1 x2  d hS i0 hm  h
  | succ n ih =>
    intro x1 x2  d hS i0 hm  h
    exact ls_120_95 hE hW hx0 ((n + 1 : Nat) : Int) _ (fun x1 x2  d hS i0  m0 m1 h => ih x1 x2  d hS i0 (by omega)  h) x1 x2  d hS i0 hm  h
theorem k_120 {E : mO × tW} {K : tK} {d : mD} {x0 : Int} (hE : EOK E) (hW : W55 E) (hS : Safe d) (hx0 : wbB x0) (h0 : (v_14 (x0 + 576) (g_13 (x0 + 576) d) = 0) → ((0 : Int) = 0) → (∀ b : Int, (b < x0 + 1 ∨ x0 + 16 < b) ∧ (b < x0 + 19 ∨ x0 + 64 < b) ∧ (b < x0 + 571 ∨ x0 + 572 < b) ∧ (b < x0 + 576 ∨ x0 + 578 < b) ∧ (b < x0 + 580 ∨ x0 + 595 < b) ∧ (b < x0 + 598 ∨ x0 + 642 < b) → (mset (g_14 (x0 + 576) (g_13 (x0 + 576) d)) (x0 + 578) 1 0) b = d b) → Safe (mset (g_14 (x0 + 576) (g_13 (x0 + 576) d)) (x0 + 578) 1 0) → K (.inr 2) (mset (g_14 (x0 + 576) (g_13 (x0 + 576) d)) (x0 + 578) 1 0)) (h1 : (¬ v_14 (x0 + 576) (g_13 (x0 + 576) d) = 0) → (v_15 (x0 + 576) (g_14 (x0 + 576) (g_13 (x0 + 576) d)) = 0) → ((0 : Int) = 0) → (∀ b : Int, (b < x0 + 1 ∨ x0 + 16 < b) ∧ (b < x0 + 19 ∨ x0 + 64 < b) ∧ (b < x0 + 571 ∨ x0 + 572 < b) ∧ (b < x0 + 576 ∨ x0 + 578 < b) ∧ (b < x0 + 580 ∨ x0 + 595 < b) ∧ (b < x0 + 598 ∨ x0 + 642 < b) → (mset (g_15 (x0 + 576) (g_14 (x0 + 576) (g_13 (x0 + 576) d))) (x0 + 578) 1 0) b = d b) → Safe (mset (g_15 (x0 + 576) (g_14 (x0 + 576) (g_13 (x0 + 576) d))) (x0 + 578) 1 0) → K (.inr 2) (mset (g_15 (x0 + 576) (g_14 (x0 + 576) (g_13 (x0 + 576) d))) (x0 + 578) 1 0)) (h2 : (¬ v_14 (x0 + 576) (g_13 (x0 + 576) d) = 0) → (¬ v_15 (x0 + 576) (g_14 (x0 + 576) (g_13 (x0 + 576) d)) = 0) → (v_17 (x0 + 576) (g_15 (x0 + 576) (g_14 (x0 + 576) (g_13 (x0 + 576) d))) = 0) → ((0 : Int) = 0) → (∀ b : Int, (b < x0 + 1 ∨ x0 + 16 < b) ∧ (b < x0 + 19 ∨ x0 + 64 < b) ∧ (b < x0 + 571 ∨ x0 + 572 < b) ∧ (b < x0 + 576 ∨ x0 + 578 < b) ∧ (b < x0 + 580 ∨ x0 + 595 < b) ∧ (b < x0 + 598 ∨ x0 + 642 < b) → (mset (g_17 (x0 + 576) (g_15 (x0 + 576) (g_14 (x0 + 576) (g_13 (x0 + 576) d)))) (x0 + 578) 1 0) b = d b) → Safe (mset (g_17 (x0 + 576) (g_15 (x0 + 576) (g_14 (x0 + 576) (g_13 (x0 + 576) d)))) (x0 + 578) 1 0) → K (.inr 2) (mset (g_17 (x0 + 576) (g_15 (x0 + 576) (g_14 (x0 + 576) (g_13 (x0 + 576) d)))) (x0 + 578) 1 0)) (h3 : (¬ v_14 (x0 + 576) (g_13 (x0 + 576) d) = 0) → (¬ v_15 (x0 + 576) (g_14 (x0 + 576) (g_13 (x0 + 576) d)) = 0) → (¬ v_17 (x0 + 576) (g_15 (x0 + 576) (g_14 (x0 + 576) (g_13 (x0 + 576) d))) = 0) → (v_19 (x0 + 576) (g_17 (x0 + 576) (g_15 (x0 + 576) (g_14 (x0 + 576) (g_13 (x0 + 576) d)))) = 0) → ((0 : Int) = 0) → (∀ b : Int, (b < x0 + 1 ∨ x0 + 16 < b) ∧ (b < x0 + 19 ∨ x0 + 64 < b) ∧ (b < x0 + 571 ∨ x0 + 572 < b) ∧ (b < x0 + 576 ∨ x0 + 578 < b) ∧ (b < x0 + 580 ∨ x0 + 595 < b) ∧ (b < x0 + 598 ∨ x0 + 642 < b) → (mset (g_19 (x0 + 576) (g_17 (x0 + 576) (g_15 (x0 + 576) (g_14 (x0 + 576) (g_13 (x0 + 576) d))))) (x0 + 578) 1 0) b = d b) → Safe (mset (g_19 (x0 + 576) (g_17 (x0 + 576) (g_15 (x0 + 576) (g_14 (x0 + 576) (g_13 (x0 + 576) d))))) (x0 + 578) 1 0) → K (.inr 2) (mset (g_19 (x0 + 576) (g_17 (x0 + 576) (g_15 (x0 + 576) (g_14 (x0 + 576) (g_13 (x0 + 576) d))))) (x0 + 578) 1 0)) (h4 : (¬ v_14 (x0 + 576) (g_13 (x0 + 576) d) = 0) → (¬ v_15 (x0 + 576) (g_14 (x0 + 576) (g_13 (x0 + 576) d)) = 0) → (¬ v_17 (x0 + 576) (g_15 (x0 + 576) (g_14 (x0 + 576) (g_13 (x0 + 576) d))) = 0) → (¬ v_19 (x0 + 576) (g_17 (x0 + 576) (g_15 (x0 + 576) (g_14 (x0 + 576) (g_13 (x0 + 576) d)))) = 0) → (¬ (1 : Int) = 0) → (0 ≤ (lp_120_95 x0 (2 - 0 : Int).toNat 1 0 (g_4 (x0 + 64) (g_59 (x0 + 1) (x0 + 580) (mset (g_19 (x0 + 576) (g_17 (x0 + 576) (g_15 (x0 + 576) (g_14 (x0 + 576) (g_13 (x0 + 576) d))))) (x0 + 578) 1 0)))).1 ∧ (lp_120_95 x0 (2 - 0 : Int).toNat 1 0 (g_4 (x0 + 64) (g_59 (x0 + 1) (x0 + 580) (mset (g_19 (x0 + 576) (g_17 (x0 + 576) (g_15 (x0 + 576) (g_14 (x0 + 576) (g_13 (x0 + 576) d))))) (x0 + 578) 1 0)))).1 ≤ 16) → (∀ b : Int, (b < x0 + 1 ∨ x0 + 16 < b) ∧ (b < x0 + 19 ∨ x0 + 64 < b) ∧ (b < x0 + 571 ∨ x0 + 572 < b) ∧ (b < x0 + 576 ∨ x0 + 578 < b) ∧ (b < x0 + 580 ∨ x0 + 595 < b) ∧ (b < x0 + 598 ∨ x0 + 642 < b) → (lp_120_95 x0 (2 - 0 : Int).toNat 1 0 (g_4 (x0 + 64) (g_59 (x0 + 1) (x0 + 580) (mset (g_19 (x0 + 576) (g_17 (x0 + 576) (g_15 (x0 + 576) (g_14 (x0 + 576) (g_13 (x0 + 576) d))))) (x0 + 578) 1 0)))).2 b = d b) → Safe (lp_120_95 x0 (2 - 0 : Int).toNat 1 0 (g_4 (x0 + 64) (g_59 (x0 + 1) (x0 + 580) (mset (g_19 (x0 + 576) (g_17 (x0 + 576) (g_15 (x0 + 576) (g_14 (x0 + 576) (g_13 (x0 + 576) d))))) (x0 + 578) 1 0)))).2 → K (.inl (some (0, (lp_120_95 x0 (2 - 0 : Int).toNat 1 0 (g_4 (x0 + 64) (g_59 (x0 + 1) (x0 + 580) (mset (g_19 (x0 + 576) (g_17 (x0 + 576) (g_15 (x0 + 576) (g_14 (x0 + 576) (g_13 (x0 + 576) d))))) (x0 + 578) 1 0)))).1))) (lp_120_95 x0 (2 - 0 : Int).toNat 1 0 (g_4 (x0 + 64) (g_59 (x0 + 1) (x0 + 580) (mset (g_19 (x0 + 576) (g_17 (x0 + 576) (g_15 (x0 + 576) (g_14 (x0 + 576) (g_13 (x0 + 576) d))))) (x0 + 578) 1 0)))).2) : tCall E 120 [.inr (10, x0)] d K := by
  refine t_120_0 ?_
  have w0 : x0 = 0 := hx0
  have w2 := r_6_f2 hS (wbB.nw hx0)
  have w3 := r_3_f0 hS (stB.of (wbB.nw hx0))
  have w4 := r_4_f0 hS (stB.pe (wbB.nw hx0))
  have w5 := r_8_f0 hS (stB.ti (wbB.nw hx0))
  have w6 := r_9_f0 hS (stB.to (wbB.nw hx0))
  have w7 := r_7_f1 hS (wbB.tx hx0)
  refine k_13 hS (wbB.ld hx0) (fun F1 n1_0 hS3 => ?_)
  refine t_120_7 ?_
  refine k_14 hE hW hS3 (wbB.ld hx0) (by omega) (fun e1 F2 n2_0 hS4 => ?_)
  refine t_120_14 ?_
  refine ⟨m_inR (by omega) (by omega), fun c0 => ?_, fun c0 => ?_⟩
  · have hS5 : Safe (mset (g_14 (x0 + 576) (g_13 (x0 + 576) d)) (x0 + 578) 1 0) := s_7_f1 hS4 (wbB.tx hx0) (by omega)
    refine ⟨m_inR (by omega) (by omega), fun c1 => ?_, fun c1 => ?_⟩
    · exact (show False by omega).elim
    · exact h0 c0 c1 (fun b hb => (mset_ne (by omega)).trans ((F2 b (by omega)).trans (F1 b (by omega)))) hS5
  · refine k_15 hW hS4 (wbB.ld hx0) (by omega) (fun e2 F3 n3_0 hS6 => ?_)
    refine t_120_24 ?_
    refine ⟨m_inR (by omega) (by omega), fun c1 => ?_, fun c1 => ?_⟩
    · have hS7 : Safe (mset (g_15 (x0 + 576) (g_14 (x0 + 576) (g_13 (x0 + 576) d))) (x0 + 578) 1 0) := s_7_f1 hS6 (wbB.tx hx0) (by omega)
      refine ⟨m_inR (by omega) (by omega), fun c2 => ?_, fun c2 => ?_⟩
      · exact (show False by omega).elim
      · exact h1 c0 c1 c2 (fun b hb => (mset_ne (by omega)).trans ((F3 b (by omega)).trans ((F2 b (by omega)).trans (F1 b (by omega))))) hS7
    · have q2 : (g_15 (x0 + 576) (g_14 (x0 + 576) (g_13 (x0 + 576) d))) (x0 + 576 + 4) 2 = (g_14 (x0 + 576) (g_13 (x0 + 576) d)) (x0 + 576 + 4) 2 := congrFun (F3 (x0 + 576 + 4) (by omega)) 2
      refine k_17 hW hS6 (wbB.ld hx0) (by omega) (fun e3 F4 n4_0 hS8 => ?_)
      refine t_120_34 ?_
      refine ⟨m_inR (by omega) (by omega), fun c2 => ?_, fun c2 => ?_⟩
      · have hS9 : Safe (mset (g_17 (x0 + 576) (g_15 (x0 + 576) (g_14 (x0 + 576) (g_13 (x0 + 576) d)))) (x0 + 578) 1 0) := s_7_f1 hS8 (wbB.tx hx0) (by omega)
        refine ⟨m_inR (by omega) (by omega), fun c3 => ?_, fun c3 => ?_⟩
        · exact (show False by omega).elim
        · exact h2 c0 c1 c2 c3 (fun b hb => (mset_ne (by omega)).trans ((F4 b (by omega)).trans ((F3 b (by omega)).trans ((F2 b (by omega)).trans (F1 b (by omega)))))) hS9
      · have q3 : (g_17 (x0 + 576) (g_15 (x0 + 576) (g_14 (x0 + 576) (g_13 (x0 + 576) d)))) (x0 + 576 + 4) 2 = (g_14 (x0 + 576) (g_13 (x0 + 576) d)) (x0 + 576 + 4) 2 := (congrFun (F4 (x0 + 576 + 4) (by omega)) 2).trans (congrFun (F3 (x0 + 576 + 4) (by omega)) 2)
        refine k_19 hW hS8 (wbB.ld hx0) (by omega) (fun e4 F5 n5_0 hS10 => ?_)
        refine t_120_44 ?_
        refine ⟨m_inR (by omega) (by omega), fun c3 => ?_, fun c3 => ?_⟩
        · have hS11 : Safe (mset (g_19 (x0 + 576) (g_17 (x0 + 576) (g_15 (x0 + 576) (g_14 (x0 + 576) (g_13 (x0 + 576) d))))) (x0 + 578) 1 0) := s_7_f1 hS10 (wbB.tx hx0) (by omega)
          refine ⟨m_inR (by omega) (by omega), fun c4 => ?_, fun c4 => ?_⟩
          · exact (show False by omega).elim
          · exact h3 c0 c1 c2 c3 c4 (fun b hb => (mset_ne (by omega)).trans ((F5 b (by omega)).trans ((F4 b (by omega)).trans ((F3 b (by omega)).trans ((F2 b (by omega)).trans (F1 b (by omega))))))) hS11
        · have hS12 : Safe (mset (g_19 (x0 + 576) (g_17 (x0 + 576) (g_15 (x0 + 576) (g_14 (x0 + 576) (g_13 (x0 + 576) d))))) (x0 + 578) 1 0) := s_7_f1 hS10 (wbB.tx hx0) (by omega)
          refine ⟨m_inR (by omega) (by omega), fun c4 => ?_, fun c4 => ?_⟩
          · have q4 : (mset (g_19 (x0 + 576) (g_17 (x0 + 576) (g_15 (x0 + 576) (g_14 (x0 + 576) (g_13 (x0 + 576) d))))) (x0 + 578) 1 0) (x0 + 580) 2 = (g_19 (x0 + 576) (g_17 (x0 + 576) (g_15 (x0 + 576) (g_14 (x0 + 576) (g_13 (x0 + 576) d))))) (x0 + 580) 2 := congrFun (mset_ne (by omega)) 2
            refine k_59 hS12 (wbB.nw hx0) (wbB.sp hx0) (by have e : ∀ f : mD, f (x0 + 576 + 4) 2 = f (x0 + 580) 2 := (fun f => by rw [show x0 + 576 + 4 = x0 + 580 by omega]); have u := e (g_19 (x0 + 576) (g_17 (x0 + 576) (g_15 (x0 + 576) (g_14 (x0 + 576) (g_13 (x0 + 576) d))))); omega) (fun F6 k6_0 hS13 => ?_)
            refine t_120_86 ?_
            refine k_4 hS13 (wbB.hi hx0) (fun F7 hS14 => ?_)
            refine t_120_93 ?_
            refine l_120_95 hE hW hx0 (2 - 0 : Int).toNat 1 0  (g_4 (x0 + 64) (g_59 (x0 + 1) (x0 + 580) (mset (g_19 (x0 + 576) (g_17 (x0 + 576) (g_15 (x0 + 576) (g_14 (x0 + 576) (g_13 (x0 + 576) d))))) (x0 + 578) 1 0))) hS14 (by omega) (by omega) ?_
            intro e F hS_
            exact h4 c0 c1 c2 c3 c4 e (fun b hb => (F b hb).trans ((show ∀ b : Int, (b < x0 + 1 ∨ x0 + 16 < b) ∧ (b < x0 + 19 ∨ x0 + 64 < b) ∧ (b < x0 + 571 ∨ x0 + 572 < b) ∧ (b < x0 + 576 ∨ x0 + 578 < b) ∧ (b < x0 + 580 ∨ x0 + 595 < b) ∧ (b < x0 + 598 ∨ x0 + 642 < b) → (g_4 (x0 + 64) (g_59 (x0 + 1) (x0 + 580) (mset (g_19 (x0 + 576) (g_17 (x0 + 576) (g_15 (x0 + 576) (g_14 (x0 + 576) (g_13 (x0 + 576) d))))) (x0 + 578) 1 0))) b = d b from fun b hb => (F7 b (by omega)).trans ((F6 b (by omega)).trans ((mset_ne (by omega)).trans ((F5 b (by omega)).trans ((F4 b (by omega)).trans ((F3 b (by omega)).trans ((F2 b (by omega)).trans (F1 b (by omega))))))))) b hb)) hS_
          · exact (show False by omega).elim
