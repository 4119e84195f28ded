/-! ===== an act: its answer and the row behind it (printed by a program of mine) ===== -/
theorem t_370_0 {E : mO × tW} {K : tK} {d : mD} {x0 x1 : Int}
  (h : (0 ≤ (0 : Int) ∧ (0 : Int) < 4) ∧ mInR (d x1 0) ∧ (d x1 0 = 0 → (0 ≤ (1 : Int) ∧ (1 : Int) < 4) ∧ (0 ≤ (2 : Int) ∧ (2 : Int) < 4) ∧ tCall E 150 [.inr (10, x0), .inl (0, d x1 1), .inl (0, d x1 2)] d (tbk E 370 71 [.inr (10, x0), .inr (46, x1), tu] [] 3 18 K)) ∧ (d x1 0 = 1 → (0 ≤ (1 : Int) ∧ (1 : Int) < 4) ∧ tCall E 151 [.inr (10, x0), .inl (0, d x1 1)] d (tbk E 370 79 [.inr (10, x0), .inr (46, x1), tu] [] 2 12 K)) ∧ (d x1 0 = 2 → (0 ≤ (1 : Int) ∧ (1 : Int) < 4) ∧ tCall E 152 [.inr (10, x0), .inl (0, d x1 1)] d (tbk E 370 87 [.inr (10, x0), .inr (46, x1), tu] [] 1 6 K)) ∧ (d x1 0 = 3 → (0 ≤ (1 : Int) ∧ (1 : Int) < 4) ∧ tCall E 153 [.inr (10, x0), .inl (0, d x1 1)] d (tbk E 370 95 [.inr (10, x0), .inr (46, x1), tu] [] 2 12 K)) ∧ (d x1 0 = 4 → (0 ≤ (1 : Int) ∧ (1 : Int) < 4) ∧ (0 ≤ (2 : Int) ∧ (2 : Int) < 4) ∧ tCall E 154 [.inr (10, x0), .inl (0, d x1 1), .inl (0, d x1 2)] d (tbk E 370 106 [.inr (10, x0), .inr (46, x1), tu] [] 3 18 K)) ∧ (d x1 0 = 5 → (0 ≤ (1 : Int) ∧ (1 : Int) < 4) ∧ (0 ≤ (2 : Int) ∧ (2 : Int) < 4) ∧ (0 ≤ (3 : Int) ∧ (3 : Int) < 4) ∧ tCall E 155 [.inr (10, x0), .inl (0, d x1 1), .inl (0, d x1 2), .inl (0, d x1 3)] d (tbk E 370 120 [.inr (10, x0), .inr (46, x1), tu] [] 4 24 K)) ∧ (d x1 0 = 6 → (0 ≤ (1 : Int) ∧ (1 : Int) < 4) ∧ (0 ≤ (3 : Int) ∧ (3 : Int) < 4) ∧ tCall E 156 [.inr (10, x0), .inl (0, d x1 1), .inl (0, d x1 3)] d (tbk E 370 131 [.inr (10, x0), .inr (46, x1), tu] [] 3 18 K)) ∧ (d x1 0 = 7 → (0 ≤ (3 : Int) ∧ (3 : Int) < 4) ∧ tCall E 157 [.inr (10, x0), .inl (0, d x1 3)] d (tbk E 370 139 [.inr (10, x0), .inr (46, x1), tu] [] 1 6 K)) ∧ (d x1 0 = 8 → (0 ≤ (1 : Int) ∧ (1 : Int) < 4) ∧ (0 ≤ (2 : Int) ∧ (2 : Int) < 4) ∧ tCall E 158 [.inr (10, x0), .inl (0, d x1 1), .inl (0, d x1 2)] d (tbk E 370 150 [.inr (10, x0), .inr (46, x1), tu] [] 3 18 K)) ∧ (d x1 0 = 9 → (0 ≤ (1 : Int) ∧ (1 : Int) < 4) ∧ tCall E 159 [.inr (10, x0), .inl (0, d x1 1)] d (tbk E 370 158 [.inr (10, x0), .inr (46, x1), tu] [] 2 12 K)) ∧ (d x1 0 = 10 → tCall E 160 [.inr (10, x0)] d (tbk E 370 163 [.inr (10, x0), .inr (46, x1), tu] [] 1 6 K)) ∧ (d x1 0 = 11 → (0 ≤ (1 : Int) ∧ (1 : Int) < 4) ∧ (0 ≤ (2 : Int) ∧ (2 : Int) < 4) ∧ tCall E 161 [.inr (10, x0), .inl (0, d x1 1), .inl (0, d x1 2)] d (tbk E 370 174 [.inr (10, x0), .inr (46, x1), tu] [] 2 12 K)) ∧ (d x1 0 < 0 ∨ 11 < d x1 0 → tCall E 162 [.inr (10, x0)] d (tbk E 370 179 [.inr (10, x0), .inr (46, x1), tu] [] 1 6 K))) :
  tRun E 370 (0, [.inr (10, x0), .inr (46, x1), tu], [], 0, 0, d) K := tT_run (cut := [0, 74, 82, 90, 98, 109, 123, 134, 142, 153, 161, 166, 177, 182]) 15 _ h
theorem t_370_74 {E : mO × tW} {K : tK} {d : mD} {x0 x1 y0 : Int}
  (h : K (.inl (some (0, y0))) d) :
  tRun E 370 (74, [.inr (10, x0), .inr (46, x1), tu], [.inl (0, y0)], 3, 18, d) K := tT_run (cut := [0, 74, 82, 90, 98, 109, 123, 134, 142, 153, 161, 166, 177, 182]) 1 _ h
theorem t_370_82 {E : mO × tW} {K : tK} {d : mD} {x0 x1 y0 : Int}
  (h : K (.inl (some (0, y0))) d) :
  tRun E 370 (82, [.inr (10, x0), .inr (46, x1), tu], [.inl (0, y0)], 2, 12, d) K := tT_run (cut := [0, 74, 82, 90, 98, 109, 123, 134, 142, 153, 161, 166, 177, 182]) 1 _ h
theorem t_370_90 {E : mO × tW} {K : tK} {d : mD} {x0 x1 y0 : Int}
  (h : K (.inl (some (0, y0))) d) :
  tRun E 370 (90, [.inr (10, x0), .inr (46, x1), tu], [.inl (0, y0)], 1, 6, d) K := tT_run (cut := [0, 74, 82, 90, 98, 109, 123, 134, 142, 153, 161, 166, 177, 182]) 1 _ h
theorem t_370_98 {E : mO × tW} {K : tK} {d : mD} {x0 x1 y0 : Int}
  (h : K (.inl (some (0, y0))) d) :
  tRun E 370 (98, [.inr (10, x0), .inr (46, x1), tu], [.inl (0, y0)], 2, 12, d) K := tT_run (cut := [0, 74, 82, 90, 98, 109, 123, 134, 142, 153, 161, 166, 177, 182]) 1 _ h
theorem t_370_109 {E : mO × tW} {K : tK} {d : mD} {x0 x1 y0 : Int}
  (h : K (.inl (some (0, y0))) d) :
  tRun E 370 (109, [.inr (10, x0), .inr (46, x1), tu], [.inl (0, y0)], 3, 18, d) K := tT_run (cut := [0, 74, 82, 90, 98, 109, 123, 134, 142, 153, 161, 166, 177, 182]) 1 _ h
theorem t_370_123 {E : mO × tW} {K : tK} {d : mD} {x0 x1 y0 : Int}
  (h : K (.inl (some (0, y0))) d) :
  tRun E 370 (123, [.inr (10, x0), .inr (46, x1), tu], [.inl (0, y0)], 4, 24, d) K := tT_run (cut := [0, 74, 82, 90, 98, 109, 123, 134, 142, 153, 161, 166, 177, 182]) 1 _ h
theorem t_370_134 {E : mO × tW} {K : tK} {d : mD} {x0 x1 y0 : Int}
  (h : K (.inl (some (0, y0))) d) :
  tRun E 370 (134, [.inr (10, x0), .inr (46, x1), tu], [.inl (0, y0)], 3, 18, d) K := tT_run (cut := [0, 74, 82, 90, 98, 109, 123, 134, 142, 153, 161, 166, 177, 182]) 1 _ h
theorem t_370_142 {E : mO × tW} {K : tK} {d : mD} {x0 x1 y0 : Int}
  (h : K (.inl (some (0, y0))) d) :
  tRun E 370 (142, [.inr (10, x0), .inr (46, x1), tu], [.inl (0, y0)], 1, 6, d) K := tT_run (cut := [0, 74, 82, 90, 98, 109, 123, 134, 142, 153, 161, 166, 177, 182]) 1 _ h
theorem t_370_153 {E : mO × tW} {K : tK} {d : mD} {x0 x1 y0 : Int}
  (h : K (.inl (some (0, y0))) d) :
  tRun E 370 (153, [.inr (10, x0), .inr (46, x1), tu], [.inl (0, y0)], 3, 18, d) K := tT_run (cut := [0, 74, 82, 90, 98, 109, 123, 134, 142, 153, 161, 166, 177, 182]) 1 _ h
theorem t_370_161 {E : mO × tW} {K : tK} {d : mD} {x0 x1 y0 : Int}
  (h : K (.inl (some (0, y0))) d) :
  tRun E 370 (161, [.inr (10, x0), .inr (46, x1), tu], [.inl (0, y0)], 2, 12, d) K := tT_run (cut := [0, 74, 82, 90, 98, 109, 123, 134, 142, 153, 161, 166, 177, 182]) 1 _ h
theorem t_370_166 {E : mO × tW} {K : tK} {d : mD} {x0 x1 y0 : Int}
  (h : K (.inl (some (0, y0))) d) :
  tRun E 370 (166, [.inr (10, x0), .inr (46, x1), tu], [.inl (0, y0)], 1, 6, d) K := tT_run (cut := [0, 74, 82, 90, 98, 109, 123, 134, 142, 153, 161, 166, 177, 182]) 1 _ h
theorem t_370_177 {E : mO × tW} {K : tK} {d : mD} {x0 x1 y0 : Int}
  (h : K (.inl (some (0, y0))) d) :
  tRun E 370 (177, [.inr (10, x0), .inr (46, x1), tu], [.inl (0, y0)], 2, 12, d) K := tT_run (cut := [0, 74, 82, 90, 98, 109, 123, 134, 142, 153, 161, 166, 177, 182]) 1 _ h
theorem t_370_182 {E : mO × tW} {K : tK} {d : mD} {x0 x1 y0 : Int}
  (h : K (.inl (some (0, y0))) d) :
  tRun E 370 (182, [.inr (10, x0), .inr (46, x1), tu], [.inl (0, y0)], 1, 6, d) K := tT_run (cut := [0, 74, 82, 90, 98, 109, 123, 134, 142, 153, 161, 166, 177, 182]) 1 _ h
def DU (j a b n : Int) (w : Row) : Int := if j = 0 then (if V_225 a b w = 0 then -100000 else V_226 a b w) else if j = 1 then (if w (452 + 24 * a + 4) = 0 then w 0 - w (452 + 24 * a + 2) else -100000) else if j = 2 then (if 999 < w 0 + a then -100000 else srvN (hoursW a.toNat w) - srvN w) else if j = 3 then (if V_227 a w = 0 then -100000 else V_228 a w) else if j = 4 then (if V_234 a b w = 0 then V_235 a b w else -100000) else if j = 5 then (if a = b ∨ V_245 a 0 w < n then -100000 else (LGv a b n w).1) else if j = 6 then (if V_245 a 0 w < n then -100000 else (LOf a n w).1) else if j = 7 then W_219 (ws w 1 (w 1 + n)) 1 else if j = 8 then (if V_270 a b w = 0 then -100000 else W_229 a b w (12 + 68 * b + 5)) else if j = 9 then (if w (12 + 68 * a + 4) = 0 then (LRe a w).1 else -100000) else if j = 10 then (if w 8 = 16 then -100000 else w 8) else (if olds 0 a ≤ b ∧ b ≤ olds 1 a then w (2 + a) else -100001)
def OKA (j a b n : Int) (w : Row) : Prop := (j = 0 → ¬ V_225 a b w = 0) ∧ (j = 1 → w (452 + 24 * a + 4) = 0) ∧ (j = 2 → ¬ 999 < w 0 + a) ∧ (j = 3 → ¬ V_227 a w = 0) ∧ (j = 4 → V_234 a b w = 0) ∧ (j = 5 → ¬ (a = b ∨ V_245 a 0 w < n)) ∧ (j = 6 → ¬ V_245 a 0 w < n) ∧ (j = 8 → ¬ V_270 a b w = 0) ∧ (j = 9 → w (12 + 68 * a + 4) = 0) ∧ (j = 10 → ¬ w 8 = 16) ∧ (j = 11 → olds 0 a ≤ b ∧ b ≤ olds 1 a)
def NW (j a b n c : Int) (w : Row) : Row := if j = 0 then W_226 a b w else if j = 1 then WLv a w else if j = 2 then hoursW a.toNat w else if j = 3 then W_228 a w else if j = 4 then W_235 a b w else if j = 5 then (LGv a b n w).2 else if j = 6 then (LOf a n w).2 else if j = 7 then W_219 (ws w 1 (w 1 + n)) else if j = 8 then W_229 a b w else if j = 9 then (LRe a w).2 else if j = 10 then W_182 c w else ws w (2 + a) b
-- what is drawn
def RG (A : Int → Int) (w : Row) : Prop := (0 ≤ A 0 ∧ A 0 ≤ 11) ∧ (A 0 = 0 → (0 ≤ A 1 ∧ A 1 < w 8) ∧ 0 ≤ A 2 ∧ A 2 < w 7) ∧ (A 0 = 1 → 0 ≤ A 1 ∧ A 1 < w 9) ∧ (A 0 = 2 → 1 ≤ A 1 ∧ A 1 ≤ 99) ∧ (A 0 = 3 → 0 ≤ A 1 ∧ A 1 < w 9) ∧ (A 0 = 4 → (0 ≤ A 1 ∧ A 1 < w 9) ∧ 0 ≤ A 2 ∧ A 2 < w 8) ∧ (A 0 = 5 → (0 ≤ A 1 ∧ A 1 < w 8) ∧ 0 ≤ A 2 ∧ A 2 < w 8) ∧ (A 0 = 6 → 0 ≤ A 1 ∧ A 1 < w 8) ∧ (A 0 = 8 → (0 ≤ A 1 ∧ A 1 < w 7) ∧ 0 ≤ A 2 ∧ A 2 < w 7) ∧ (A 0 = 9 → 0 ≤ A 1 ∧ A 1 < w 7) ∧ (A 0 = 11 → (0 ≤ A 1 ∧ A 1 < 5) ∧ 0 ≤ A 2 ∧ A 2 < 1000) ∧ 1 ≤ A 3 ∧ A 3 ≤ 200
def WY (E : mO × tW) (b : Int) (d d' : mD) : Prop := (∀ c, (c < b ∨ b + 27 < c) → (0 ≤ E.2.1 c ∨ ¬ mreal c) → d' c = d c) ∧ d b 7 ≤ d' b 7 ∧ d' b 7 ≤ d b 7 + 1
theorem WY.refl {E : mO × tW} {b : Int} {d : mD} : WY E b d d := ⟨fun _ _ _ => rfl, Int.le_refl _, by omega⟩
theorem WX.y {E : mO × tW} {b : Int} {d d' : mD} (h : WX E b d d') : WY E b d d' := ⟨h.1, by rw [h.2]; exact Int.le_refl _, by rw [h.2]; omega⟩
theorem WF.y {E : mO × tW} {b : Int} {d d' : mD} (h : WF b d d') : WY E b d d' := (WF.x h).y
def FTx (d d2 : mD) : Prop := (∀ a, 569 < a → (a < 769 ∨ 778 < a) → ¬ a = 578 → d2 a = d a) ∧ d2 578 1 = 0
theorem w372_0 {E : mO × tW} {K : tK} {b x : Int} {d : mD} {w : Row} (hF : ∃ z, mfr E.2 z) (hE : ∀ c, b ≤ c → c ≤ b + 27 → 0 ≤ E.2.1 c) (hx : x < b ∨ b + 27 < x) (hxk : 0 ≤ E.2.1 x) (hW : WR b d w) (hC : CB w) (hG : GWt w) (hP : GP w) (h9 : w 0 ≤ 999) (h7 : d b 7 < 190) (hr : RG (d x) w) (hf : d x 0 = 7 → w 1 + d x 3 ≤ 99999) (hv : d x 0 = 4 → mInR (V_234 (d x 1) (d x 2) w)) (k0 : ¬ OKA (d x 0) (d x 1) (d x 2) (d x 3) w → ∀ d', WR b d' w → WY E b d d' → K (.inl (some (0, DU (d x 0) (d x 1) (d x 2) (d x 3) w))) d') (k1 : OKA (d x 0) (d x 1) (d x 2) (d x 3) w → ∀ d', (∀ c, WR b d' (NW (d x 0) (d x 1) (d x 2) (d x 3) c w)) → WY E b d d' → K (.inl (some (0, DU (d x 0) (d x 1) (d x 2) (d x 3) w))) d') (e0 : d x 0 = 0) : tCall E 372 [.inr (41, b), .inr (46, x)] d K := by
  have r := hr.2.1 e0
  rw [e0] at k0 k1
  refine d_0 hW hC e0 r.1 r.2 (fun z => ?_) (fun z d' h1 h2 => ?_)
  · have kk := k0 (fun h => h.1 rfl z) d hW WY.refl
    rw [show DU 0 (d x 1) (d x 2) (d x 3) w = -100000 from if_pos z] at kk
    exact kk
  · have kk := k1 ⟨fun _ => z, fun z => absurd z (by decide), fun z => absurd z (by decide), fun z => absurd z (by decide), fun z => absurd z (by decide), fun z => absurd z (by decide), fun z => absurd z (by decide), fun z => absurd z (by decide), fun z => absurd z (by decide), fun z => absurd z (by decide), fun z => absurd z (by decide)⟩ d' (fun _ => h1) h2.y
    rw [show DU 0 (d x 1) (d x 2) (d x 3) w = V_226 (d x 1) (d x 2) w from if_neg z] at kk
    exact kk
theorem w372_1 {E : mO × tW} {K : tK} {b x : Int} {d : mD} {w : Row} (hF : ∃ z, mfr E.2 z) (hE : ∀ c, b ≤ c → c ≤ b + 27 → 0 ≤ E.2.1 c) (hx : x < b ∨ b + 27 < x) (hxk : 0 ≤ E.2.1 x) (hW : WR b d w) (hC : CB w) (hG : GWt w) (hP : GP w) (h9 : w 0 ≤ 999) (h7 : d b 7 < 190) (hr : RG (d x) w) (hf : d x 0 = 7 → w 1 + d x 3 ≤ 99999) (hv : d x 0 = 4 → mInR (V_234 (d x 1) (d x 2) w)) (k0 : ¬ OKA (d x 0) (d x 1) (d x 2) (d x 3) w → ∀ d', WR b d' w → WY E b d d' → K (.inl (some (0, DU (d x 0) (d x 1) (d x 2) (d x 3) w))) d') (k1 : OKA (d x 0) (d x 1) (d x 2) (d x 3) w → ∀ d', (∀ c, WR b d' (NW (d x 0) (d x 1) (d x 2) (d x 3) c w)) → WY E b d d' → K (.inl (some (0, DU (d x 0) (d x 1) (d x 2) (d x 3) w))) d') (e0 : d x 0 = 1) : tCall E 372 [.inr (41, b), .inr (46, x)] d K := by
  have r := hr.2.2.1 e0
  rw [e0] at k0 k1
  refine d_1 hx hW hC e0 r (fun z => ?_) (fun z d' h1 h2 => ?_)
  · have kk := k0 (fun h => z (h.2.1 rfl)) d hW WY.refl
    rw [show DU 1 (d x 1) (d x 2) (d x 3) w = -100000 from if_neg z] at kk
    exact kk
  · have kk := k1 ⟨fun z => absurd z (by decide), fun _ => z, fun z => absurd z (by decide), fun z => absurd z (by decide), fun z => absurd z (by decide), fun z => absurd z (by decide), fun z => absurd z (by decide), fun z => absurd z (by decide), fun z => absurd z (by decide), fun z => absurd z (by decide), fun z => absurd z (by decide)⟩ d' (fun _ => h1) h2.y
    rw [show DU 1 (d x 1) (d x 2) (d x 3) w = w 0 - w (452 + 24 * d x 1 + 2) from if_pos z] at kk
    exact kk
theorem w372_2 {E : mO × tW} {K : tK} {b x : Int} {d : mD} {w : Row} (hF : ∃ z, mfr E.2 z) (hE : ∀ c, b ≤ c → c ≤ b + 27 → 0 ≤ E.2.1 c) (hx : x < b ∨ b + 27 < x) (hxk : 0 ≤ E.2.1 x) (hW : WR b d w) (hC : CB w) (hG : GWt w) (hP : GP w) (h9 : w 0 ≤ 999) (h7 : d b 7 < 190) (hr : RG (d x) w) (hf : d x 0 = 7 → w 1 + d x 3 ≤ 99999) (hv : d x 0 = 4 → mInR (V_234 (d x 1) (d x 2) w)) (k0 : ¬ OKA (d x 0) (d x 1) (d x 2) (d x 3) w → ∀ d', WR b d' w → WY E b d d' → K (.inl (some (0, DU (d x 0) (d x 1) (d x 2) (d x 3) w))) d') (k1 : OKA (d x 0) (d x 1) (d x 2) (d x 3) w → ∀ d', (∀ c, WR b d' (NW (d x 0) (d x 1) (d x 2) (d x 3) c w)) → WY E b d d' → K (.inl (some (0, DU (d x 0) (d x 1) (d x 2) (d x 3) w))) d') (e0 : d x 0 = 2) : tCall E 372 [.inr (41, b), .inr (46, x)] d K := by
  have r := hr.2.2.2.1 e0
  rw [e0] at k0 k1
  refine d_2 hx hW hC hG hP e0 r (fun z => ?_) (fun z d' h1 h2 => ?_)
  · have kk := k0 (fun h => h.2.2.1 rfl z) d hW WY.refl
    rw [show DU 2 (d x 1) (d x 2) (d x 3) w = -100000 from if_pos z] at kk
    exact kk
  · have kk := k1 ⟨fun z => absurd z (by decide), fun z => absurd z (by decide), fun _ => z, fun z => absurd z (by decide), fun z => absurd z (by decide), fun z => absurd z (by decide), fun z => absurd z (by decide), fun z => absurd z (by decide), fun z => absurd z (by decide), fun z => absurd z (by decide), fun z => absurd z (by decide)⟩ d' (fun _ => h1) h2.y
    rw [show DU 2 (d x 1) (d x 2) (d x 3) w = srvN (hoursW (d x 1).toNat w) - srvN w from if_neg z] at kk
    exact kk
theorem w372_3 {E : mO × tW} {K : tK} {b x : Int} {d : mD} {w : Row} (hF : ∃ z, mfr E.2 z) (hE : ∀ c, b ≤ c → c ≤ b + 27 → 0 ≤ E.2.1 c) (hx : x < b ∨ b + 27 < x) (hxk : 0 ≤ E.2.1 x) (hW : WR b d w) (hC : CB w) (hG : GWt w) (hP : GP w) (h9 : w 0 ≤ 999) (h7 : d b 7 < 190) (hr : RG (d x) w) (hf : d x 0 = 7 → w 1 + d x 3 ≤ 99999) (hv : d x 0 = 4 → mInR (V_234 (d x 1) (d x 2) w)) (k0 : ¬ OKA (d x 0) (d x 1) (d x 2) (d x 3) w → ∀ d', WR b d' w → WY E b d d' → K (.inl (some (0, DU (d x 0) (d x 1) (d x 2) (d x 3) w))) d') (k1 : OKA (d x 0) (d x 1) (d x 2) (d x 3) w → ∀ d', (∀ c, WR b d' (NW (d x 0) (d x 1) (d x 2) (d x 3) c w)) → WY E b d d' → K (.inl (some (0, DU (d x 0) (d x 1) (d x 2) (d x 3) w))) d') (e0 : d x 0 = 3) : tCall E 372 [.inr (41, b), .inr (46, x)] d K := by
  have r := hr.2.2.2.2.1 e0
  rw [e0] at k0 k1
  refine d_3 hW hC h9 e0 r (fun z => ?_) (fun z d' h1 h2 => ?_)
  · have kk := k0 (fun h => h.2.2.2.1 rfl z) d hW WY.refl
    rw [show DU 3 (d x 1) (d x 2) (d x 3) w = -100000 from if_pos z] at kk
    exact kk
  · have kk := k1 ⟨fun z => absurd z (by decide), fun z => absurd z (by decide), fun z => absurd z (by decide), fun _ => z, fun z => absurd z (by decide), fun z => absurd z (by decide), fun z => absurd z (by decide), fun z => absurd z (by decide), fun z => absurd z (by decide), fun z => absurd z (by decide), fun z => absurd z (by decide)⟩ d' (fun _ => h1) h2.y
    rw [show DU 3 (d x 1) (d x 2) (d x 3) w = V_228 (d x 1) w from if_neg z] at kk
    exact kk
theorem w372_4 {E : mO × tW} {K : tK} {b x : Int} {d : mD} {w : Row} (hF : ∃ z, mfr E.2 z) (hE : ∀ c, b ≤ c → c ≤ b + 27 → 0 ≤ E.2.1 c) (hx : x < b ∨ b + 27 < x) (hxk : 0 ≤ E.2.1 x) (hW : WR b d w) (hC : CB w) (hG : GWt w) (hP : GP w) (h9 : w 0 ≤ 999) (h7 : d b 7 < 190) (hr : RG (d x) w) (hf : d x 0 = 7 → w 1 + d x 3 ≤ 99999) (hv : d x 0 = 4 → mInR (V_234 (d x 1) (d x 2) w)) (k0 : ¬ OKA (d x 0) (d x 1) (d x 2) (d x 3) w → ∀ d', WR b d' w → WY E b d d' → K (.inl (some (0, DU (d x 0) (d x 1) (d x 2) (d x 3) w))) d') (k1 : OKA (d x 0) (d x 1) (d x 2) (d x 3) w → ∀ d', (∀ c, WR b d' (NW (d x 0) (d x 1) (d x 2) (d x 3) c w)) → WY E b d d' → K (.inl (some (0, DU (d x 0) (d x 1) (d x 2) (d x 3) w))) d') (e0 : d x 0 = 4) : tCall E 372 [.inr (41, b), .inr (46, x)] d K := by
  have r := hr.2.2.2.2.2.1 e0
  rw [e0] at k0 k1
  refine d_4 hW hC h9 h7 e0 r.1 r.2 (hv e0) (fun z => ?_) (fun z d' h1 h2 h3 => ?_)
  · have kk := k0 (fun h => z (h.2.2.2.2.1 rfl)) d hW WY.refl
    rw [show DU 4 (d x 1) (d x 2) (d x 3) w = -100000 from if_neg z] at kk
    exact kk
  · have kk := k1 ⟨fun z => absurd z (by decide), fun z => absurd z (by decide), fun z => absurd z (by decide), fun z => absurd z (by decide), fun _ => z, fun z => absurd z (by decide), fun z => absurd z (by decide), fun z => absurd z (by decide), fun z => absurd z (by decide), fun z => absurd z (by decide), fun z => absurd z (by decide)⟩ d' (fun _ => h1) ⟨fun c a _ => h2 c a, by omega, by omega⟩
    rw [show DU 4 (d x 1) (d x 2) (d x 3) w = V_235 (d x 1) (d x 2) w from if_pos z] at kk
    exact kk
theorem w372_5 {E : mO × tW} {K : tK} {b x : Int} {d : mD} {w : Row} (hF : ∃ z, mfr E.2 z) (hE : ∀ c, b ≤ c → c ≤ b + 27 → 0 ≤ E.2.1 c) (hx : x < b ∨ b + 27 < x) (hxk : 0 ≤ E.2.1 x) (hW : WR b d w) (hC : CB w) (hG : GWt w) (hP : GP w) (h9 : w 0 ≤ 999) (h7 : d b 7 < 190) (hr : RG (d x) w) (hf : d x 0 = 7 → w 1 + d x 3 ≤ 99999) (hv : d x 0 = 4 → mInR (V_234 (d x 1) (d x 2) w)) (k0 : ¬ OKA (d x 0) (d x 1) (d x 2) (d x 3) w → ∀ d', WR b d' w → WY E b d d' → K (.inl (some (0, DU (d x 0) (d x 1) (d x 2) (d x 3) w))) d') (k1 : OKA (d x 0) (d x 1) (d x 2) (d x 3) w → ∀ d', (∀ c, WR b d' (NW (d x 0) (d x 1) (d x 2) (d x 3) c w)) → WY E b d d' → K (.inl (some (0, DU (d x 0) (d x 1) (d x 2) (d x 3) w))) d') (e0 : d x 0 = 5) : tCall E 372 [.inr (41, b), .inr (46, x)] d K := by
  have r := hr.2.2.2.2.2.2.1 e0
  rw [e0] at k0 k1
  refine d_5 hx hW hC e0 r.1 r.2 hr.2.2.2.2.2.2.2.2.2.2.2 (fun z => ?_) (fun z z2 d' h1 h2 => ?_)
  · have kk := k0 (fun h => h.2.2.2.2.2.1 rfl z) d hW WY.refl
    rw [show DU 5 (d x 1) (d x 2) (d x 3) w = -100000 from if_pos z] at kk
    exact kk
  · have zo : ¬ (d x 1 = d x 2 ∨ V_245 (d x 1) 0 w < d x 3) := fun h => h.elim z z2
    have kk := k1 ⟨fun z => absurd z (by decide), fun z => absurd z (by decide), fun z => absurd z (by decide), fun z => absurd z (by decide), fun z => absurd z (by decide), fun _ => zo, fun z => absurd z (by decide), fun z => absurd z (by decide), fun z => absurd z (by decide), fun z => absurd z (by decide), fun z => absurd z (by decide)⟩ d' (fun _ => h1) h2.y
    rw [show DU 5 (d x 1) (d x 2) (d x 3) w = (LGv (d x 1) (d x 2) (d x 3) w).1 from if_neg zo] at kk
    exact kk
theorem w372_6 {E : mO × tW} {K : tK} {b x : Int} {d : mD} {w : Row} (hF : ∃ z, mfr E.2 z) (hE : ∀ c, b ≤ c → c ≤ b + 27 → 0 ≤ E.2.1 c) (hx : x < b ∨ b + 27 < x) (hxk : 0 ≤ E.2.1 x) (hW : WR b d w) (hC : CB w) (hG : GWt w) (hP : GP w) (h9 : w 0 ≤ 999) (h7 : d b 7 < 190) (hr : RG (d x) w) (hf : d x 0 = 7 → w 1 + d x 3 ≤ 99999) (hv : d x 0 = 4 → mInR (V_234 (d x 1) (d x 2) w)) (k0 : ¬ OKA (d x 0) (d x 1) (d x 2) (d x 3) w → ∀ d', WR b d' w → WY E b d d' → K (.inl (some (0, DU (d x 0) (d x 1) (d x 2) (d x 3) w))) d') (k1 : OKA (d x 0) (d x 1) (d x 2) (d x 3) w → ∀ d', (∀ c, WR b d' (NW (d x 0) (d x 1) (d x 2) (d x 3) c w)) → WY E b d d' → K (.inl (some (0, DU (d x 0) (d x 1) (d x 2) (d x 3) w))) d') (e0 : d x 0 = 6) : tCall E 372 [.inr (41, b), .inr (46, x)] d K := by
  have r := hr.2.2.2.2.2.2.2.1 e0
  rw [e0] at k0 k1
  refine d_6 hx hW hC hP e0 r hr.2.2.2.2.2.2.2.2.2.2.2 (fun z => ?_) (fun z d' h1 h2 => ?_)
  · have kk := k0 (fun h => h.2.2.2.2.2.2.1 rfl z) d hW WY.refl
    rw [show DU 6 (d x 1) (d x 2) (d x 3) w = -100000 from if_pos z] at kk
    exact kk
  · have kk := k1 ⟨fun z => absurd z (by decide), fun z => absurd z (by decide), fun z => absurd z (by decide), fun z => absurd z (by decide), fun z => absurd z (by decide), fun z => absurd z (by decide), fun _ => z, fun z => absurd z (by decide), fun z => absurd z (by decide), fun z => absurd z (by decide), fun z => absurd z (by decide)⟩ d' (fun _ => h1) h2.y
    rw [show DU 6 (d x 1) (d x 2) (d x 3) w = (LOf (d x 1) (d x 3) w).1 from if_neg z] at kk
    exact kk
theorem w372_7 {E : mO × tW} {K : tK} {b x : Int} {d : mD} {w : Row} (hF : ∃ z, mfr E.2 z) (hE : ∀ c, b ≤ c → c ≤ b + 27 → 0 ≤ E.2.1 c) (hx : x < b ∨ b + 27 < x) (hxk : 0 ≤ E.2.1 x) (hW : WR b d w) (hC : CB w) (hG : GWt w) (hP : GP w) (h9 : w 0 ≤ 999) (h7 : d b 7 < 190) (hr : RG (d x) w) (hf : d x 0 = 7 → w 1 + d x 3 ≤ 99999) (hv : d x 0 = 4 → mInR (V_234 (d x 1) (d x 2) w)) (k0 : ¬ OKA (d x 0) (d x 1) (d x 2) (d x 3) w → ∀ d', WR b d' w → WY E b d d' → K (.inl (some (0, DU (d x 0) (d x 1) (d x 2) (d x 3) w))) d') (k1 : OKA (d x 0) (d x 1) (d x 2) (d x 3) w → ∀ d', (∀ c, WR b d' (NW (d x 0) (d x 1) (d x 2) (d x 3) c w)) → WY E b d d' → K (.inl (some (0, DU (d x 0) (d x 1) (d x 2) (d x 3) w))) d') (e0 : d x 0 = 7) : tCall E 372 [.inr (41, b), .inr (46, x)] d K := by
  rw [e0] at k0 k1
  refine d_7 hx hW hC hP e0 hr.2.2.2.2.2.2.2.2.2.2.2 (hf e0) (fun d' h1 h2 => ?_)
  exact k1 ⟨fun z => absurd z (by decide), fun z => absurd z (by decide), fun z => absurd z (by decide), fun z => absurd z (by decide), fun z => absurd z (by decide), fun z => absurd z (by decide), fun z => absurd z (by decide), fun z => absurd z (by decide), fun z => absurd z (by decide), fun z => absurd z (by decide), fun z => absurd z (by decide)⟩ d' (fun _ => h1) h2.y
theorem w372_8 {E : mO × tW} {K : tK} {b x : Int} {d : mD} {w : Row} (hF : ∃ z, mfr E.2 z) (hE : ∀ c, b ≤ c → c ≤ b + 27 → 0 ≤ E.2.1 c) (hx : x < b ∨ b + 27 < x) (hxk : 0 ≤ E.2.1 x) (hW : WR b d w) (hC : CB w) (hG : GWt w) (hP : GP w) (h9 : w 0 ≤ 999) (h7 : d b 7 < 190) (hr : RG (d x) w) (hf : d x 0 = 7 → w 1 + d x 3 ≤ 99999) (hv : d x 0 = 4 → mInR (V_234 (d x 1) (d x 2) w)) (k0 : ¬ OKA (d x 0) (d x 1) (d x 2) (d x 3) w → ∀ d', WR b d' w → WY E b d d' → K (.inl (some (0, DU (d x 0) (d x 1) (d x 2) (d x 3) w))) d') (k1 : OKA (d x 0) (d x 1) (d x 2) (d x 3) w → ∀ d', (∀ c, WR b d' (NW (d x 0) (d x 1) (d x 2) (d x 3) c w)) → WY E b d d' → K (.inl (some (0, DU (d x 0) (d x 1) (d x 2) (d x 3) w))) d') (e0 : d x 0 = 8) : tCall E 372 [.inr (41, b), .inr (46, x)] d K := by
  have r := hr.2.2.2.2.2.2.2.2.1 e0
  rw [e0] at k0 k1
  refine d_8 hF hE hx hxk hW hC e0 r.1 r.2 (fun z => ?_) (fun z d' h1 h2 => ?_)
  · have kk := k0 (fun h => h.2.2.2.2.2.2.2.1 rfl z) d hW WY.refl
    rw [show DU 8 (d x 1) (d x 2) (d x 3) w = -100000 from if_pos z] at kk
    exact kk
  · have kk := k1 ⟨fun z => absurd z (by decide), fun z => absurd z (by decide), fun z => absurd z (by decide), fun z => absurd z (by decide), fun z => absurd z (by decide), fun z => absurd z (by decide), fun z => absurd z (by decide), fun _ => z, fun z => absurd z (by decide), fun z => absurd z (by decide), fun z => absurd z (by decide)⟩ d' (fun _ => h1) h2.y
    rw [show DU 8 (d x 1) (d x 2) (d x 3) w = W_229 (d x 1) (d x 2) w (12 + 68 * d x 2 + 5) from if_neg z] at kk
    exact kk
theorem w372_9 {E : mO × tW} {K : tK} {b x : Int} {d : mD} {w : Row} (hF : ∃ z, mfr E.2 z) (hE : ∀ c, b ≤ c → c ≤ b + 27 → 0 ≤ E.2.1 c) (hx : x < b ∨ b + 27 < x) (hxk : 0 ≤ E.2.1 x) (hW : WR b d w) (hC : CB w) (hG : GWt w) (hP : GP w) (h9 : w 0 ≤ 999) (h7 : d b 7 < 190) (hr : RG (d x) w) (hf : d x 0 = 7 → w 1 + d x 3 ≤ 99999) (hv : d x 0 = 4 → mInR (V_234 (d x 1) (d x 2) w)) (k0 : ¬ OKA (d x 0) (d x 1) (d x 2) (d x 3) w → ∀ d', WR b d' w → WY E b d d' → K (.inl (some (0, DU (d x 0) (d x 1) (d x 2) (d x 3) w))) d') (k1 : OKA (d x 0) (d x 1) (d x 2) (d x 3) w → ∀ d', (∀ c, WR b d' (NW (d x 0) (d x 1) (d x 2) (d x 3) c w)) → WY E b d d' → K (.inl (some (0, DU (d x 0) (d x 1) (d x 2) (d x 3) w))) d') (e0 : d x 0 = 9) : tCall E 372 [.inr (41, b), .inr (46, x)] d K := by
  have r := hr.2.2.2.2.2.2.2.2.2.1 e0
  rw [e0] at k0 k1
  refine d_9 hW hC e0 r (fun z => ?_) (fun z d' h1 h2 => ?_)
  · have kk := k0 (fun h => z (h.2.2.2.2.2.2.2.2.1 rfl)) d hW WY.refl
    rw [show DU 9 (d x 1) (d x 2) (d x 3) w = -100000 from if_neg z] at kk
    exact kk
  · have kk := k1 ⟨fun z => absurd z (by decide), fun z => absurd z (by decide), fun z => absurd z (by decide), fun z => absurd z (by decide), fun z => absurd z (by decide), fun z => absurd z (by decide), fun z => absurd z (by decide), fun z => absurd z (by decide), fun _ => z, fun z => absurd z (by decide), fun z => absurd z (by decide)⟩ d' (fun _ => h1) h2.y
    rw [show DU 9 (d x 1) (d x 2) (d x 3) w = (LRe (d x 1) w).1 from if_pos z] at kk
    exact kk
theorem w372_10 {E : mO × tW} {K : tK} {b x : Int} {d : mD} {w : Row} (hF : ∃ z, mfr E.2 z) (hE : ∀ c, b ≤ c → c ≤ b + 27 → 0 ≤ E.2.1 c) (hx : x < b ∨ b + 27 < x) (hxk : 0 ≤ E.2.1 x) (hW : WR b d w) (hC : CB w) (hG : GWt w) (hP : GP w) (h9 : w 0 ≤ 999) (h7 : d b 7 < 190) (hr : RG (d x) w) (hf : d x 0 = 7 → w 1 + d x 3 ≤ 99999) (hv : d x 0 = 4 → mInR (V_234 (d x 1) (d x 2) w)) (k0 : ¬ OKA (d x 0) (d x 1) (d x 2) (d x 3) w → ∀ d', WR b d' w → WY E b d d' → K (.inl (some (0, DU (d x 0) (d x 1) (d x 2) (d x 3) w))) d') (k1 : OKA (d x 0) (d x 1) (d x 2) (d x 3) w → ∀ d', (∀ c, WR b d' (NW (d x 0) (d x 1) (d x 2) (d x 3) c w)) → WY E b d d' → K (.inl (some (0, DU (d x 0) (d x 1) (d x 2) (d x 3) w))) d') (e0 : d x 0 = 10) : tCall E 372 [.inr (41, b), .inr (46, x)] d K := by
  rw [e0] at k0 k1
  refine d_10 hW hC.1 e0 (fun z => ?_) (fun z d' h1 h2 => ?_)
  · have kk := k0 (fun h => h.2.2.2.2.2.2.2.2.2.1 rfl z) d hW WY.refl
    rw [show DU 10 (d x 1) (d x 2) (d x 3) w = -100000 from if_pos z] at kk
    exact kk
  · have zo : ¬ w 8 = 16 := by omega
    have kk := k1 ⟨fun z => absurd z (by decide), fun z => absurd z (by decide), fun z => absurd z (by decide), fun z => absurd z (by decide), fun z => absurd z (by decide), fun z => absurd z (by decide), fun z => absurd z (by decide), fun z => absurd z (by decide), fun z => absurd z (by decide), fun _ => zo, fun z => absurd z (by decide)⟩ d' h1 h2.y
    rw [show DU 10 (d x 1) (d x 2) (d x 3) w = w 8 from if_neg zo] at kk
    exact kk
theorem w372_11 {E : mO × tW} {K : tK} {b x : Int} {d : mD} {w : Row} (hF : ∃ z, mfr E.2 z) (hE : ∀ c, b ≤ c → c ≤ b + 27 → 0 ≤ E.2.1 c) (hx : x < b ∨ b + 27 < x) (hxk : 0 ≤ E.2.1 x) (hW : WR b d w) (hC : CB w) (hG : GWt w) (hP : GP w) (h9 : w 0 ≤ 999) (h7 : d b 7 < 190) (hr : RG (d x) w) (hf : d x 0 = 7 → w 1 + d x 3 ≤ 99999) (hv : d x 0 = 4 → mInR (V_234 (d x 1) (d x 2) w)) (k0 : ¬ OKA (d x 0) (d x 1) (d x 2) (d x 3) w → ∀ d', WR b d' w → WY E b d d' → K (.inl (some (0, DU (d x 0) (d x 1) (d x 2) (d x 3) w))) d') (k1 : OKA (d x 0) (d x 1) (d x 2) (d x 3) w → ∀ d', (∀ c, WR b d' (NW (d x 0) (d x 1) (d x 2) (d x 3) c w)) → WY E b d d' → K (.inl (some (0, DU (d x 0) (d x 1) (d x 2) (d x 3) w))) d') (e0 : d x 0 = 11) : tCall E 372 [.inr (41, b), .inr (46, x)] d K := by
  have r := hr.2.2.2.2.2.2.2.2.2.2.1 e0
  rw [e0] at k0 k1
  refine d_11 hF hE hx hxk hW hC.1 e0 r.1 r.2 (fun z d' h1 h2 => ?_) (fun z d' h1 h2 => ?_)
  · have kk := k0 (fun h => z (h.2.2.2.2.2.2.2.2.2.2 rfl)) d' h1 h2.y
    rw [show DU 11 (d x 1) (d x 2) (d x 3) w = -100001 from if_neg z] at kk
    exact kk
  · have kk := k1 ⟨fun z => absurd z (by decide), fun z => absurd z (by decide), fun z => absurd z (by decide), fun z => absurd z (by decide), fun z => absurd z (by decide), fun z => absurd z (by decide), fun z => absurd z (by decide), fun z => absurd z (by decide), fun z => absurd z (by decide), fun z => absurd z (by decide), fun _ => z⟩ d' (fun _ => h1) h2.y
    rw [show DU 11 (d x 1) (d x 2) (d x 3) w = w (2 + d x 1) from if_pos z] at kk
    exact kk
theorem w_372 {E : mO × tW} {K : tK} {b x : Int} {d : mD} {w : Row} (hF : ∃ z, mfr E.2 z) (hE : ∀ c, b ≤ c → c ≤ b + 27 → 0 ≤ E.2.1 c) (hx : x < b ∨ b + 27 < x) (hxk : 0 ≤ E.2.1 x) (hW : WR b d w) (hC : CB w) (hG : GWt w) (hP : GP w) (h9 : w 0 ≤ 999) (h7 : d b 7 < 190) (hr : RG (d x) w) (hf : d x 0 = 7 → w 1 + d x 3 ≤ 99999) (hv : d x 0 = 4 → mInR (V_234 (d x 1) (d x 2) w)) (k0 : ¬ OKA (d x 0) (d x 1) (d x 2) (d x 3) w → ∀ d', WR b d' w → WY E b d d' → K (.inl (some (0, DU (d x 0) (d x 1) (d x 2) (d x 3) w))) d') (k1 : OKA (d x 0) (d x 1) (d x 2) (d x 3) w → ∀ d', (∀ c, WR b d' (NW (d x 0) (d x 1) (d x 2) (d x 3) c w)) → WY E b d d' → K (.inl (some (0, DU (d x 0) (d x 1) (d x 2) (d x 3) w))) d') : tCall E 372 [.inr (41, b), .inr (46, x)] d K := by
  have c : d x 0 = 0 ∨ d x 0 = 1 ∨ d x 0 = 2 ∨ d x 0 = 3 ∨ d x 0 = 4 ∨ d x 0 = 5 ∨ d x 0 = 6 ∨ d x 0 = 7 ∨ d x 0 = 8 ∨ d x 0 = 9 ∨ d x 0 = 10 ∨ d x 0 = 11 := by
    have := hr.1
    omega
  rcases c with c | c | c | c | c | c | c | c | c | c | c | c
  · exact w372_0 hF hE hx hxk hW hC hG hP h9 h7 hr hf hv k0 k1 c
  · exact w372_1 hF hE hx hxk hW hC hG hP h9 h7 hr hf hv k0 k1 c
  · exact w372_2 hF hE hx hxk hW hC hG hP h9 h7 hr hf hv k0 k1 c
  · exact w372_3 hF hE hx hxk hW hC hG hP h9 h7 hr hf hv k0 k1 c
  · exact w372_4 hF hE hx hxk hW hC hG hP h9 h7 hr hf hv k0 k1 c
  · exact w372_5 hF hE hx hxk hW hC hG hP h9 h7 hr hf hv k0 k1 c
  · exact w372_6 hF hE hx hxk hW hC hG hP h9 h7 hr hf hv k0 k1 c
  · exact w372_7 hF hE hx hxk hW hC hG hP h9 h7 hr hf hv k0 k1 c
  · exact w372_8 hF hE hx hxk hW hC hG hP h9 h7 hr hf hv k0 k1 c
  · exact w372_9 hF hE hx hxk hW hC hG hP h9 h7 hr hf hv k0 k1 c
  · exact w372_10 hF hE hx hxk hW hC hG hP h9 h7 hr hf hv k0 k1 c
  · exact w372_11 hF hE hx hxk hW hC hG hP h9 h7 hr hf hv k0 k1 c
theorem w370_0 {E E' : mO × tW} {K : tK} {x : Int} {d : mD} {c : Int} (hEO : EOK E) (hT : TKL E') (h : Inv2 E' d) (hr : RG (d x) (d 770)) (hf : d x 0 = 7 → d 770 1 + d x 3 ≤ 99999) (ht0 : ¬ d x 0 = 10 → d 578 1 = 0) (ht1 : d x 0 = 10 → v_93 578 0 (d 578 1) d = c ∧ ¬ c = -1 ∧ V_183 (nm c) (d 770) = -1) (k0 : ¬ OKA (d x 0) (d x 1) (d x 2) (d x 3) (d 770) → ∀ M d2 : mD, (∀ a, (a < 769 ∨ 778 < a) → M a = d2 a) → Inv2 E' d2 → AE d d2 → FTx d d2 → K (.inl (some (0, DU (d x 0) (d x 1) (d x 2) (d x 3) (d 770)))) M) (k1 : OKA (d x 0) (d x 1) (d x 2) (d x 3) (d 770) → ∀ M d2 : mD, (∀ a, (a < 769 ∨ 778 < a) → M a = d2 a) → Inv2 E' d2 → AK d d2 (NW (d x 0) (d x 1) (d x 2) (d x 3) (nm c) (d 770)) → FTx d d2 → K (.inl (some (0, DU (d x 0) (d x 1) (d x 2) (d x 3) (d 770)))) M) (e0 : d x 0 = 0) : tCall E 370 [.inr (10, 0), .inr (46, x)] d K := by
  have n := h.GG.1
  obtain ⟨n7, n8, n9, n10, n11, n0, n1, n2, n3, n4, n5, n6⟩ := n
  have r := hr.2.1 e0
  have r3 := hr.2.2.2.2.2.2.2.2.2.2.2
  have cf := cf_32 hT h (inI.s (x := d x 1) (by omega)) (inI.s (x := d x 2) (by omega))
  have t0 := ht0 (by omega)
  have fM : ∀ M : mD, (∀ b, ¬ b = 778 → M b = (g_326 0 (d x 1) (d x 2) 778 d) b) → ∀ a, (a < 769 ∨ 778 < a) → M a = (g_279 769 (d x 1) (d x 2) (g_326 0 (d x 1) (d x 2) 778 d)) a := fun M hM a ha => by rw [hM a (by omega), cf.2.1 a (by omega)]
  have fT : FTx d (g_279 769 (d x 1) (d x 2) (g_326 0 (d x 1) (d x 2) 778 d)) := ⟨fun a a1 a2 a3 => by rw [cf.2.1 a (by omega), cf.1 a a1 (by omega)], by rw [cf.2.1 578 (by decide), cf.1 578 (by decide) (by decide)]; exact t0⟩
  rw [e0] at k0 k1
  have ac := ac_0 hT h r.1 r.2
  refine t_370_0 ⟨by decide, m_inR (by omega) (by omega), fun _ => ⟨by decide, by decide, ?_⟩, fun z => absurd (e0.symm.trans z) (by decide), fun z => absurd (e0.symm.trans z) (by decide), fun z => absurd (e0.symm.trans z) (by decide), fun z => absurd (e0.symm.trans z) (by decide), fun z => absurd (e0.symm.trans z) (by decide), fun z => absurd (e0.symm.trans z) (by decide), fun z => absurd (e0.symm.trans z) (by decide), fun z => absurd (e0.symm.trans z) (by decide), fun z => absurd (e0.symm.trans z) (by decide), fun z => absurd (e0.symm.trans z) (by decide), fun z => absurd (e0.symm.trans z) (by decide), fun z => absurd z (by omega)⟩
  by_cases cc : V_225 (d x 1) (d x 2) (d 770) = 0
  · obtain ⟨a1, a2⟩ := ac.1 cc
    refine q_326 (x3 := 778) h.1.1 rfl ⟨by omega, by omega⟩ ⟨by omega, by omega⟩ (fun z v M _ _ => absurd (z.symm.trans a1) (by decide)) (fun z M _ => absurd (z.symm.trans a1) (by decide)) (fun z M hM => ?_)
    have kk := k0 (fun h => h.1 rfl cc) M _ (fM M hM) cf.2.2 a2 fT
    rw [show DU 0 (d x 1) (d x 2) (d x 3) (d 770) = -100000 from if_pos cc] at kk
    exact kk
  · obtain ⟨a1, a2, a3⟩ := ac.2 cc
    refine q_326 (x3 := 778) h.1.1 rfl ⟨by omega, by omega⟩ ⟨by omega, by omega⟩ (fun z v M hv hM => ?_) (fun z M _ => absurd (z.symm.trans a1) (by decide)) (fun z M _ => absurd (z.symm.trans a1) (by decide))
    refine t_370_74 ?_
    have kk := k1 ⟨fun _ => cc, fun z => absurd z (by decide), fun z => absurd z (by decide), fun z => absurd z (by decide), fun z => absurd z (by decide), fun z => absurd z (by decide), fun z => absurd z (by decide), fun z => absurd z (by decide), fun z => absurd z (by decide), fun z => absurd z (by decide), fun z => absurd z (by decide)⟩ M _ (fM M hM) cf.2.2 a3 fT
    rw [hv, a2]
    rw [show DU 0 (d x 1) (d x 2) (d x 3) (d 770) = V_226 (d x 1) (d x 2) (d 770) from if_neg cc] at kk
    exact kk
theorem w370_1 {E E' : mO × tW} {K : tK} {x : Int} {d : mD} {c : Int} (hEO : EOK E) (hT : TKL E') (h : Inv2 E' d) (hr : RG (d x) (d 770)) (hf : d x 0 = 7 → d 770 1 + d x 3 ≤ 99999) (ht0 : ¬ d x 0 = 10 → d 578 1 = 0) (ht1 : d x 0 = 10 → v_93 578 0 (d 578 1) d = c ∧ ¬ c = -1 ∧ V_183 (nm c) (d 770) = -1) (k0 : ¬ OKA (d x 0) (d x 1) (d x 2) (d x 3) (d 770) → ∀ M d2 : mD, (∀ a, (a < 769 ∨ 778 < a) → M a = d2 a) → Inv2 E' d2 → AE d d2 → FTx d d2 → K (.inl (some (0, DU (d x 0) (d x 1) (d x 2) (d x 3) (d 770)))) M) (k1 : OKA (d x 0) (d x 1) (d x 2) (d x 3) (d 770) → ∀ M d2 : mD, (∀ a, (a < 769 ∨ 778 < a) → M a = d2 a) → Inv2 E' d2 → AK d d2 (NW (d x 0) (d x 1) (d x 2) (d x 3) (nm c) (d 770)) → FTx d d2 → K (.inl (some (0, DU (d x 0) (d x 1) (d x 2) (d x 3) (d 770)))) M) (e0 : d x 0 = 1) : tCall E 370 [.inr (10, 0), .inr (46, x)] d K := by
  have n := h.GG.1
  obtain ⟨n7, n8, n9, n10, n11, n0, n1, n2, n3, n4, n5, n6⟩ := n
  have r := hr.2.2.1 e0
  have r3 := hr.2.2.2.2.2.2.2.2.2.2.2
  have cf := cf_33 hT h (inI.s (x := d x 1) (by omega))
  have t0 := ht0 (by omega)
  have fM : ∀ M : mD, (∀ b, ¬ b = 778 → M b = (g_327 0 (d x 1) 778 d) b) → ∀ a, (a < 769 ∨ 778 < a) → M a = (g_280 769 (d x 1) (g_327 0 (d x 1) 778 d)) a := fun M hM a ha => by rw [hM a (by omega), cf.2.1 a (by omega)]
  have fT : FTx d (g_280 769 (d x 1) (g_327 0 (d x 1) 778 d)) := ⟨fun a a1 a2 a3 => by rw [cf.2.1 a (by omega), cf.1 a a1 (by omega)], by rw [cf.2.1 578 (by decide), cf.1 578 (by decide) (by decide)]; exact t0⟩
  rw [e0] at k0 k1
  have ac := ac_1 hT h r
  refine t_370_0 ⟨by decide, m_inR (by omega) (by omega), fun z => absurd (e0.symm.trans z) (by decide), fun _ => ⟨by decide, ?_⟩, fun z => absurd (e0.symm.trans z) (by decide), fun z => absurd (e0.symm.trans z) (by decide), fun z => absurd (e0.symm.trans z) (by decide), fun z => absurd (e0.symm.trans z) (by decide), fun z => absurd (e0.symm.trans z) (by decide), fun z => absurd (e0.symm.trans z) (by decide), fun z => absurd (e0.symm.trans z) (by decide), fun z => absurd (e0.symm.trans z) (by decide), fun z => absurd (e0.symm.trans z) (by decide), fun z => absurd (e0.symm.trans z) (by decide), fun z => absurd z (by omega)⟩
  by_cases cc : d 770 (452 + 24 * d x 1 + 4) = 0
  · obtain ⟨a1, a2, a3⟩ := ac.2 cc
    refine q_327 (x2 := 778) h.1.1 rfl ⟨by omega, by omega⟩ (fun z v M hv hM => ?_) (fun z M _ => absurd (z.symm.trans a1) (by decide)) (fun z M _ => absurd (z.symm.trans a1) (by decide))
    refine t_370_82 ?_
    have kk := k1 ⟨fun z => absurd z (by decide), fun _ => cc, fun z => absurd z (by decide), fun z => absurd z (by decide), fun z => absurd z (by decide), fun z => absurd z (by decide), fun z => absurd z (by decide), fun z => absurd z (by decide), fun z => absurd z (by decide), fun z => absurd z (by decide), fun z => absurd z (by decide)⟩ M _ (fM M hM) cf.2.2 a3 fT
    rw [hv, a2]
    rw [show DU 1 (d x 1) (d x 2) (d x 3) (d 770) = d 770 0 - d 770 (452 + 24 * d x 1 + 2) from if_pos cc] at kk
    exact kk
  · obtain ⟨a1, a2⟩ := ac.1 cc
    refine q_327 (x2 := 778) h.1.1 rfl ⟨by omega, by omega⟩ (fun z v M _ _ => absurd (z.symm.trans a1) (by decide)) (fun z M _ => absurd (z.symm.trans a1) (by decide)) (fun z M hM => ?_)
    have kk := k0 (fun h => cc (h.2.1 rfl)) M _ (fM M hM) cf.2.2 a2 fT
    rw [show DU 1 (d x 1) (d x 2) (d x 3) (d 770) = -100000 from if_neg cc] at kk
    exact kk
theorem w370_2 {E E' : mO × tW} {K : tK} {x : Int} {d : mD} {c : Int} (hEO : EOK E) (hT : TKL E') (h : Inv2 E' d) (hr : RG (d x) (d 770)) (hf : d x 0 = 7 → d 770 1 + d x 3 ≤ 99999) (ht0 : ¬ d x 0 = 10 → d 578 1 = 0) (ht1 : d x 0 = 10 → v_93 578 0 (d 578 1) d = c ∧ ¬ c = -1 ∧ V_183 (nm c) (d 770) = -1) (k0 : ¬ OKA (d x 0) (d x 1) (d x 2) (d x 3) (d 770) → ∀ M d2 : mD, (∀ a, (a < 769 ∨ 778 < a) → M a = d2 a) → Inv2 E' d2 → AE d d2 → FTx d d2 → K (.inl (some (0, DU (d x 0) (d x 1) (d x 2) (d x 3) (d 770)))) M) (k1 : OKA (d x 0) (d x 1) (d x 2) (d x 3) (d 770) → ∀ M d2 : mD, (∀ a, (a < 769 ∨ 778 < a) → M a = d2 a) → Inv2 E' d2 → AK d d2 (NW (d x 0) (d x 1) (d x 2) (d x 3) (nm c) (d 770)) → FTx d d2 → K (.inl (some (0, DU (d x 0) (d x 1) (d x 2) (d x 3) (d 770)))) M) (e0 : d x 0 = 2) : tCall E 370 [.inr (10, 0), .inr (46, x)] d K := by
  have n := h.GG.1
  obtain ⟨n7, n8, n9, n10, n11, n0, n1, n2, n3, n4, n5, n6⟩ := n
  have r := hr.2.2.2.1 e0
  have r3 := hr.2.2.2.2.2.2.2.2.2.2.2
  have cf := cf_34 hT h (inI.s (x := d x 1) (by omega))
  have t0 := ht0 (by omega)
  have fM : ∀ M : mD, (∀ b, ¬ b = 778 → M b = (g_328 0 (d x 1) 778 d) b) → ∀ a, (a < 769 ∨ 778 < a) → M a = (g_282 769 (d x 1) (g_328 0 (d x 1) 778 d)) a := fun M hM a ha => by rw [hM a (by omega), cf.2.1 a (by omega)]
  have fT : FTx d (g_282 769 (d x 1) (g_328 0 (d x 1) 778 d)) := ⟨fun a a1 a2 a3 => by rw [cf.2.1 a (by omega), cf.1 a a1 (by omega)], by rw [cf.2.1 578 (by decide), cf.1 578 (by decide) (by decide)]; exact t0⟩
  rw [e0] at k0 k1
  have ac := ac_2 hT h r
  refine t_370_0 ⟨by decide, m_inR (by omega) (by omega), fun z => absurd (e0.symm.trans z) (by decide), fun z => absurd (e0.symm.trans z) (by decide), fun _ => ⟨by decide, ?_⟩, fun z => absurd (e0.symm.trans z) (by decide), fun z => absurd (e0.symm.trans z) (by decide), fun z => absurd (e0.symm.trans z) (by decide), fun z => absurd (e0.symm.trans z) (by decide), fun z => absurd (e0.symm.trans z) (by decide), fun z => absurd (e0.symm.trans z) (by decide), fun z => absurd (e0.symm.trans z) (by decide), fun z => absurd (e0.symm.trans z) (by decide), fun z => absurd (e0.symm.trans z) (by decide), fun z => absurd z (by omega)⟩
  by_cases cc : 999 < d 770 0 + d x 1
  · obtain ⟨a1, a2⟩ := ac.1 cc
    refine q_328 (x2 := 778) h.1.1 rfl ⟨by omega, by omega⟩ (fun z v M _ _ => absurd (z.symm.trans a1) (by decide)) (fun z M _ => absurd (z.symm.trans a1) (by decide)) (fun z M hM => ?_)
    have kk := k0 (fun h => h.2.2.1 rfl cc) M _ (fM M hM) cf.2.2 a2 fT
    rw [show DU 2 (d x 1) (d x 2) (d x 3) (d 770) = -100000 from if_pos cc] at kk
    exact kk
  · obtain ⟨a1, a2, a3⟩ := ac.2 cc
    refine q_328 (x2 := 778) h.1.1 rfl ⟨by omega, by omega⟩ (fun z v M hv hM => ?_) (fun z M _ => absurd (z.symm.trans a1) (by decide)) (fun z M _ => absurd (z.symm.trans a1) (by decide))
    refine t_370_90 ?_
    have kk := k1 ⟨fun z => absurd z (by decide), fun z => absurd z (by decide), fun _ => cc, fun z => absurd z (by decide), fun z => absurd z (by decide), fun z => absurd z (by decide), fun z => absurd z (by decide), fun z => absurd z (by decide), fun z => absurd z (by decide), fun z => absurd z (by decide), fun z => absurd z (by decide)⟩ M _ (fM M hM) cf.2.2 a3 fT
    rw [hv, a2]
    rw [show DU 2 (d x 1) (d x 2) (d x 3) (d 770) = srvN (hoursW (d x 1).toNat (d 770)) - srvN (d 770) from if_neg cc] at kk
    exact kk
theorem w370_3 {E E' : mO × tW} {K : tK} {x : Int} {d : mD} {c : Int} (hEO : EOK E) (hT : TKL E') (h : Inv2 E' d) (hr : RG (d x) (d 770)) (hf : d x 0 = 7 → d 770 1 + d x 3 ≤ 99999) (ht0 : ¬ d x 0 = 10 → d 578 1 = 0) (ht1 : d x 0 = 10 → v_93 578 0 (d 578 1) d = c ∧ ¬ c = -1 ∧ V_183 (nm c) (d 770) = -1) (k0 : ¬ OKA (d x 0) (d x 1) (d x 2) (d x 3) (d 770) → ∀ M d2 : mD, (∀ a, (a < 769 ∨ 778 < a) → M a = d2 a) → Inv2 E' d2 → AE d d2 → FTx d d2 → K (.inl (some (0, DU (d x 0) (d x 1) (d x 2) (d x 3) (d 770)))) M) (k1 : OKA (d x 0) (d x 1) (d x 2) (d x 3) (d 770) → ∀ M d2 : mD, (∀ a, (a < 769 ∨ 778 < a) → M a = d2 a) → Inv2 E' d2 → AK d d2 (NW (d x 0) (d x 1) (d x 2) (d x 3) (nm c) (d 770)) → FTx d d2 → K (.inl (some (0, DU (d x 0) (d x 1) (d x 2) (d x 3) (d 770)))) M) (e0 : d x 0 = 3) : tCall E 370 [.inr (10, 0), .inr (46, x)] d K := by
  have n := h.GG.1
  obtain ⟨n7, n8, n9, n10, n11, n0, n1, n2, n3, n4, n5, n6⟩ := n
  have r := hr.2.2.2.2.1 e0
  have r3 := hr.2.2.2.2.2.2.2.2.2.2.2
  have cf := cf_35 hT h (inI.s (x := d x 1) (by omega))
  have t0 := ht0 (by omega)
  have fM : ∀ M : mD, (∀ b, ¬ b = 778 → M b = (g_329 0 (d x 1) 778 d) b) → ∀ a, (a < 769 ∨ 778 < a) → M a = (g_283 769 (d x 1) (g_329 0 (d x 1) 778 d)) a := fun M hM a ha => by rw [hM a (by omega), cf.2.1 a (by omega)]
  have fT : FTx d (g_283 769 (d x 1) (g_329 0 (d x 1) 778 d)) := ⟨fun a a1 a2 a3 => by rw [cf.2.1 a (by omega), cf.1 a a1 (by omega)], by rw [cf.2.1 578 (by decide), cf.1 578 (by decide) (by decide)]; exact t0⟩
  rw [e0] at k0 k1
  have ac := ac_3 hT h r
  refine t_370_0 ⟨by decide, m_inR (by omega) (by omega), fun z => absurd (e0.symm.trans z) (by decide), fun z => absurd (e0.symm.trans z) (by decide), fun z => absurd (e0.symm.trans z) (by decide), fun _ => ⟨by decide, ?_⟩, fun z => absurd (e0.symm.trans z) (by decide), fun z => absurd (e0.symm.trans z) (by decide), fun z => absurd (e0.symm.trans z) (by decide), fun z => absurd (e0.symm.trans z) (by decide), fun z => absurd (e0.symm.trans z) (by decide), fun z => absurd (e0.symm.trans z) (by decide), fun z => absurd (e0.symm.trans z) (by decide), fun z => absurd (e0.symm.trans z) (by decide), fun z => absurd z (by omega)⟩
  by_cases cc : V_227 (d x 1) (d 770) = 0
  · obtain ⟨a1, a2⟩ := ac.1 cc
    refine q_329 (x2 := 778) h.1.1 rfl ⟨by omega, by omega⟩ (fun z v M _ _ => absurd (z.symm.trans a1) (by decide)) (fun z M _ => absurd (z.symm.trans a1) (by decide)) (fun z M hM => ?_)
    have kk := k0 (fun h => h.2.2.2.1 rfl cc) M _ (fM M hM) cf.2.2 a2 fT
    rw [show DU 3 (d x 1) (d x 2) (d x 3) (d 770) = -100000 from if_pos cc] at kk
    exact kk
  · obtain ⟨a1, a2, a3⟩ := ac.2 cc
    refine q_329 (x2 := 778) h.1.1 rfl ⟨by omega, by omega⟩ (fun z v M hv hM => ?_) (fun z M _ => absurd (z.symm.trans a1) (by decide)) (fun z M _ => absurd (z.symm.trans a1) (by decide))
    refine t_370_98 ?_
    have kk := k1 ⟨fun z => absurd z (by decide), fun z => absurd z (by decide), fun z => absurd z (by decide), fun _ => cc, fun z => absurd z (by decide), fun z => absurd z (by decide), fun z => absurd z (by decide), fun z => absurd z (by decide), fun z => absurd z (by decide), fun z => absurd z (by decide), fun z => absurd z (by decide)⟩ M _ (fM M hM) cf.2.2 a3 fT
    rw [hv, a2]
    rw [show DU 3 (d x 1) (d x 2) (d x 3) (d 770) = V_228 (d x 1) (d 770) from if_neg cc] at kk
    exact kk
theorem w370_4 {E E' : mO × tW} {K : tK} {x : Int} {d : mD} {c : Int} (hEO : EOK E) (hT : TKL E') (h : Inv2 E' d) (hr : RG (d x) (d 770)) (hf : d x 0 = 7 → d 770 1 + d x 3 ≤ 99999) (ht0 : ¬ d x 0 = 10 → d 578 1 = 0) (ht1 : d x 0 = 10 → v_93 578 0 (d 578 1) d = c ∧ ¬ c = -1 ∧ V_183 (nm c) (d 770) = -1) (k0 : ¬ OKA (d x 0) (d x 1) (d x 2) (d x 3) (d 770) → ∀ M d2 : mD, (∀ a, (a < 769 ∨ 778 < a) → M a = d2 a) → Inv2 E' d2 → AE d d2 → FTx d d2 → K (.inl (some (0, DU (d x 0) (d x 1) (d x 2) (d x 3) (d 770)))) M) (k1 : OKA (d x 0) (d x 1) (d x 2) (d x 3) (d 770) → ∀ M d2 : mD, (∀ a, (a < 769 ∨ 778 < a) → M a = d2 a) → Inv2 E' d2 → AK d d2 (NW (d x 0) (d x 1) (d x 2) (d x 3) (nm c) (d 770)) → FTx d d2 → K (.inl (some (0, DU (d x 0) (d x 1) (d x 2) (d x 3) (d 770)))) M) (e0 : d x 0 = 4) : tCall E 370 [.inr (10, 0), .inr (46, x)] d K := by
  have n := h.GG.1
  obtain ⟨n7, n8, n9, n10, n11, n0, n1, n2, n3, n4, n5, n6⟩ := n
  have r := hr.2.2.2.2.2.1 e0
  have r3 := hr.2.2.2.2.2.2.2.2.2.2.2
  have cf := cf_36 hT h (inI.s (x := d x 1) (by omega)) (inI.s (x := d x 2) (by omega))
  have t0 := ht0 (by omega)
  have fM : ∀ M : mD, (∀ b, ¬ b = 778 → M b = (g_330 0 (d x 1) (d x 2) 778 d) b) → ∀ a, (a < 769 ∨ 778 < a) → M a = (g_284 769 (d x 1) (d x 2) (g_330 0 (d x 1) (d x 2) 778 d)) a := fun M hM a ha => by rw [hM a (by omega), cf.2.1 a (by omega)]
  have fT : FTx d (g_284 769 (d x 1) (d x 2) (g_330 0 (d x 1) (d x 2) 778 d)) := ⟨fun a a1 a2 a3 => by rw [cf.2.1 a (by omega), cf.1 a a1 (by omega)], by rw [cf.2.1 578 (by decide), cf.1 578 (by decide) (by decide)]; exact t0⟩
  rw [e0] at k0 k1
  have ac := ac_4 hT h r.1 r.2
  refine t_370_0 ⟨by decide, m_inR (by omega) (by omega), fun z => absurd (e0.symm.trans z) (by decide), fun z => absurd (e0.symm.trans z) (by decide), fun z => absurd (e0.symm.trans z) (by decide), fun z => absurd (e0.symm.trans z) (by decide), fun _ => ⟨by decide, by decide, ?_⟩, fun z => absurd (e0.symm.trans z) (by decide), fun z => absurd (e0.symm.trans z) (by decide), fun z => absurd (e0.symm.trans z) (by decide), fun z => absurd (e0.symm.trans z) (by decide), fun z => absurd (e0.symm.trans z) (by decide), fun z => absurd (e0.symm.trans z) (by decide), fun z => absurd (e0.symm.trans z) (by decide), fun z => absurd z (by omega)⟩
  by_cases cc : V_234 (d x 1) (d x 2) (d 770) = 0
  · obtain ⟨a1, a2, a3⟩ := ac.2 cc
    refine q_330 (x3 := 778) h.1.1 rfl ⟨by omega, by omega⟩ ⟨by omega, by omega⟩ (fun z v M hv hM => ?_) (fun z M _ => absurd (z.symm.trans a1) (by decide)) (fun z M _ => absurd (z.symm.trans a1) (by decide))
    refine t_370_109 ?_
    have kk := k1 ⟨fun z => absurd z (by decide), fun z => absurd z (by decide), fun z => absurd z (by decide), fun z => absurd z (by decide), fun _ => cc, fun z => absurd z (by decide), fun z => absurd z (by decide), fun z => absurd z (by decide), fun z => absurd z (by decide), fun z => absurd z (by decide), fun z => absurd z (by decide)⟩ M _ (fM M hM) cf.2.2 a3 fT
    rw [hv, a2]
    rw [show DU 4 (d x 1) (d x 2) (d x 3) (d 770) = V_235 (d x 1) (d x 2) (d 770) from if_pos cc] at kk
    exact kk
  · obtain ⟨a1, a2⟩ := ac.1 cc
    refine q_330 (x3 := 778) h.1.1 rfl ⟨by omega, by omega⟩ ⟨by omega, by omega⟩ (fun z v M _ _ => absurd (z.symm.trans a1) (by decide)) (fun z M _ => absurd (z.symm.trans a1) (by decide)) (fun z M hM => ?_)
    have kk := k0 (fun h => cc (h.2.2.2.2.1 rfl)) M _ (fM M hM) cf.2.2 a2 fT
    rw [show DU 4 (d x 1) (d x 2) (d x 3) (d 770) = -100000 from if_neg cc] at kk
    exact kk
theorem w370_5 {E E' : mO × tW} {K : tK} {x : Int} {d : mD} {c : Int} (hEO : EOK E) (hT : TKL E') (h : Inv2 E' d) (hr : RG (d x) (d 770)) (hf : d x 0 = 7 → d 770 1 + d x 3 ≤ 99999) (ht0 : ¬ d x 0 = 10 → d 578 1 = 0) (ht1 : d x 0 = 10 → v_93 578 0 (d 578 1) d = c ∧ ¬ c = -1 ∧ V_183 (nm c) (d 770) = -1) (k0 : ¬ OKA (d x 0) (d x 1) (d x 2) (d x 3) (d 770) → ∀ M d2 : mD, (∀ a, (a < 769 ∨ 778 < a) → M a = d2 a) → Inv2 E' d2 → AE d d2 → FTx d d2 → K (.inl (some (0, DU (d x 0) (d x 1) (d x 2) (d x 3) (d 770)))) M) (k1 : OKA (d x 0) (d x 1) (d x 2) (d x 3) (d 770) → ∀ M d2 : mD, (∀ a, (a < 769 ∨ 778 < a) → M a = d2 a) → Inv2 E' d2 → AK d d2 (NW (d x 0) (d x 1) (d x 2) (d x 3) (nm c) (d 770)) → FTx d d2 → K (.inl (some (0, DU (d x 0) (d x 1) (d x 2) (d x 3) (d 770)))) M) (e0 : d x 0 = 5) : tCall E 370 [.inr (10, 0), .inr (46, x)] d K := by
  have n := h.GG.1
  obtain ⟨n7, n8, n9, n10, n11, n0, n1, n2, n3, n4, n5, n6⟩ := n
  have r := hr.2.2.2.2.2.2.1 e0
  have r3 := hr.2.2.2.2.2.2.2.2.2.2.2
  have cf := cf_37 hT h (inI.s (x := d x 1) (by omega)) (inI.s (x := d x 2) (by omega)) (inI.s (x := d x 3) (by omega))
  have t0 := ht0 (by omega)
  have fM : ∀ M : mD, (∀ b, ¬ b = 778 → M b = (g_331 0 (d x 1) (d x 2) (d x 3) 778 d) b) → ∀ a, (a < 769 ∨ 778 < a) → M a = (g_285 769 (d x 1) (d x 2) (d x 3) (g_331 0 (d x 1) (d x 2) (d x 3) 778 d)) a := fun M hM a ha => by rw [hM a (by omega), cf.2.1 a (by omega)]
  have fT : FTx d (g_285 769 (d x 1) (d x 2) (d x 3) (g_331 0 (d x 1) (d x 2) (d x 3) 778 d)) := ⟨fun a a1 a2 a3 => by rw [cf.2.1 a (by omega), cf.1 a a1 (by omega)], by rw [cf.2.1 578 (by decide), cf.1 578 (by decide) (by decide)]; exact t0⟩
  rw [e0] at k0 k1
  have ac := ac_5 hT h r.1 r.2 r3
  refine t_370_0 ⟨by decide, m_inR (by omega) (by omega), fun z => absurd (e0.symm.trans z) (by decide), fun z => absurd (e0.symm.trans z) (by decide), fun z => absurd (e0.symm.trans z) (by decide), fun z => absurd (e0.symm.trans z) (by decide), fun z => absurd (e0.symm.trans z) (by decide), fun _ => ⟨by decide, by decide, by decide, ?_⟩, fun z => absurd (e0.symm.trans z) (by decide), fun z => absurd (e0.symm.trans z) (by decide), fun z => absurd (e0.symm.trans z) (by decide), fun z => absurd (e0.symm.trans z) (by decide), fun z => absurd (e0.symm.trans z) (by decide), fun z => absurd (e0.symm.trans z) (by decide), fun z => absurd z (by omega)⟩
  by_cases cc : (d x 1 = d x 2 ∨ V_245 (d x 1) 0 (d 770) < d x 3)
  · obtain ⟨a1, a2⟩ := ac.1 cc
    refine q_331 (x4 := 778) h.1.1 rfl ⟨by omega, by omega⟩ ⟨by omega, by omega⟩ ⟨by omega, by omega⟩ (fun z v M _ _ => absurd (z.symm.trans a1) (by decide)) (fun z M _ => absurd (z.symm.trans a1) (by decide)) (fun z M _ => absurd (z.symm.trans a1) (by decide)) (fun z M hM => ?_)
    have kk := k0 (fun h => h.2.2.2.2.2.1 rfl cc) M _ (fM M hM) cf.2.2 a2 fT
    rw [show DU 5 (d x 1) (d x 2) (d x 3) (d 770) = -100000 from if_pos cc] at kk
    exact kk
  · obtain ⟨a1, a2, a3⟩ := ac.2 (fun q => cc (Or.inl q)) (fun q => cc (Or.inr q))
    refine q_331 (x4 := 778) h.1.1 rfl ⟨by omega, by omega⟩ ⟨by omega, by omega⟩ ⟨by omega, by omega⟩ (fun z v M hv hM => ?_) (fun z M _ => absurd (z.symm.trans a1) (by decide)) (fun z M _ => absurd (z.symm.trans a1) (by decide)) (fun z M _ => absurd (z.symm.trans a1) (by decide))
    refine t_370_123 ?_
    have kk := k1 ⟨fun z => absurd z (by decide), fun z => absurd z (by decide), fun z => absurd z (by decide), fun z => absurd z (by decide), fun z => absurd z (by decide), fun _ => cc, fun z => absurd z (by decide), fun z => absurd z (by decide), fun z => absurd z (by decide), fun z => absurd z (by decide), fun z => absurd z (by decide)⟩ M _ (fM M hM) cf.2.2 a3 fT
    rw [hv, a2]
    rw [show DU 5 (d x 1) (d x 2) (d x 3) (d 770) = (LGv (d x 1) (d x 2) (d x 3) (d 770)).1 from if_neg cc] at kk
    exact kk
theorem w370_6 {E E' : mO × tW} {K : tK} {x : Int} {d : mD} {c : Int} (hEO : EOK E) (hT : TKL E') (h : Inv2 E' d) (hr : RG (d x) (d 770)) (hf : d x 0 = 7 → d 770 1 + d x 3 ≤ 99999) (ht0 : ¬ d x 0 = 10 → d 578 1 = 0) (ht1 : d x 0 = 10 → v_93 578 0 (d 578 1) d = c ∧ ¬ c = -1 ∧ V_183 (nm c) (d 770) = -1) (k0 : ¬ OKA (d x 0) (d x 1) (d x 2) (d x 3) (d 770) → ∀ M d2 : mD, (∀ a, (a < 769 ∨ 778 < a) → M a = d2 a) → Inv2 E' d2 → AE d d2 → FTx d d2 → K (.inl (some (0, DU (d x 0) (d x 1) (d x 2) (d x 3) (d 770)))) M) (k1 : OKA (d x 0) (d x 1) (d x 2) (d x 3) (d 770) → ∀ M d2 : mD, (∀ a, (a < 769 ∨ 778 < a) → M a = d2 a) → Inv2 E' d2 → AK d d2 (NW (d x 0) (d x 1) (d x 2) (d x 3) (nm c) (d 770)) → FTx d d2 → K (.inl (some (0, DU (d x 0) (d x 1) (d x 2) (d x 3) (d 770)))) M) (e0 : d x 0 = 6) : tCall E 370 [.inr (10, 0), .inr (46, x)] d K := by
  have n := h.GG.1
  obtain ⟨n7, n8, n9, n10, n11, n0, n1, n2, n3, n4, n5, n6⟩ := n
  have r := hr.2.2.2.2.2.2.2.1 e0
  have r3 := hr.2.2.2.2.2.2.2.2.2.2.2
  have cf := cf_38 hT h (inI.s (x := d x 1) (by omega)) (inI.s (x := d x 3) (by omega))
  have t0 := ht0 (by omega)
  have fM : ∀ M : mD, (∀ b, ¬ b = 778 → M b = (g_332 0 (d x 1) (d x 3) 778 d) b) → ∀ a, (a < 769 ∨ 778 < a) → M a = (g_286 769 (d x 1) (d x 3) (g_332 0 (d x 1) (d x 3) 778 d)) a := fun M hM a ha => by rw [hM a (by omega), cf.2.1 a (by omega)]
  have fT : FTx d (g_286 769 (d x 1) (d x 3) (g_332 0 (d x 1) (d x 3) 778 d)) := ⟨fun a a1 a2 a3 => by rw [cf.2.1 a (by omega), cf.1 a a1 (by omega)], by rw [cf.2.1 578 (by decide), cf.1 578 (by decide) (by decide)]; exact t0⟩
  rw [e0] at k0 k1
  have ac := ac_6 hT h r r3
  refine t_370_0 ⟨by decide, m_inR (by omega) (by omega), fun z => absurd (e0.symm.trans z) (by decide), fun z => absurd (e0.symm.trans z) (by decide), fun z => absurd (e0.symm.trans z) (by decide), fun z => absurd (e0.symm.trans z) (by decide), fun z => absurd (e0.symm.trans z) (by decide), fun z => absurd (e0.symm.trans z) (by decide), fun _ => ⟨by decide, by decide, ?_⟩, fun z => absurd (e0.symm.trans z) (by decide), fun z => absurd (e0.symm.trans z) (by decide), fun z => absurd (e0.symm.trans z) (by decide), fun z => absurd (e0.symm.trans z) (by decide), fun z => absurd (e0.symm.trans z) (by decide), fun z => absurd z (by omega)⟩
  by_cases cc : V_245 (d x 1) 0 (d 770) < d x 3
  · obtain ⟨a1, a2⟩ := ac.1 cc
    refine q_332 (x3 := 778) h.1.1 rfl ⟨by omega, by omega⟩ ⟨by omega, by omega⟩ (fun z v M _ _ => absurd (z.symm.trans a1) (by decide)) (fun z M _ => absurd (z.symm.trans a1) (by decide)) (fun z M _ => absurd (z.symm.trans a1) (by decide)) (fun z M hM => ?_)
    have kk := k0 (fun h => h.2.2.2.2.2.2.1 rfl cc) M _ (fM M hM) cf.2.2 a2 fT
    rw [show DU 6 (d x 1) (d x 2) (d x 3) (d 770) = -100000 from if_pos cc] at kk
    exact kk
  · obtain ⟨a1, a2, a3⟩ := ac.2 cc
    refine q_332 (x3 := 778) h.1.1 rfl ⟨by omega, by omega⟩ ⟨by omega, by omega⟩ (fun z v M hv hM => ?_) (fun z M _ => absurd (z.symm.trans a1) (by decide)) (fun z M _ => absurd (z.symm.trans a1) (by decide)) (fun z M _ => absurd (z.symm.trans a1) (by decide))
    refine t_370_134 ?_
    have kk := k1 ⟨fun z => absurd z (by decide), fun z => absurd z (by decide), fun z => absurd z (by decide), fun z => absurd z (by decide), fun z => absurd z (by decide), fun z => absurd z (by decide), fun _ => cc, fun z => absurd z (by decide), fun z => absurd z (by decide), fun z => absurd z (by decide), fun z => absurd z (by decide)⟩ M _ (fM M hM) cf.2.2 a3 fT
    rw [hv, a2]
    rw [show DU 6 (d x 1) (d x 2) (d x 3) (d 770) = (LOf (d x 1) (d x 3) (d 770)).1 from if_neg cc] at kk
    exact kk
theorem w370_7 {E E' : mO × tW} {K : tK} {x : Int} {d : mD} {c : Int} (hEO : EOK E) (hT : TKL E') (h : Inv2 E' d) (hr : RG (d x) (d 770)) (hf : d x 0 = 7 → d 770 1 + d x 3 ≤ 99999) (ht0 : ¬ d x 0 = 10 → d 578 1 = 0) (ht1 : d x 0 = 10 → v_93 578 0 (d 578 1) d = c ∧ ¬ c = -1 ∧ V_183 (nm c) (d 770) = -1) (k0 : ¬ OKA (d x 0) (d x 1) (d x 2) (d x 3) (d 770) → ∀ M d2 : mD, (∀ a, (a < 769 ∨ 778 < a) → M a = d2 a) → Inv2 E' d2 → AE d d2 → FTx d d2 → K (.inl (some (0, DU (d x 0) (d x 1) (d x 2) (d x 3) (d 770)))) M) (k1 : OKA (d x 0) (d x 1) (d x 2) (d x 3) (d 770) → ∀ M d2 : mD, (∀ a, (a < 769 ∨ 778 < a) → M a = d2 a) → Inv2 E' d2 → AK d d2 (NW (d x 0) (d x 1) (d x 2) (d x 3) (nm c) (d 770)) → FTx d d2 → K (.inl (some (0, DU (d x 0) (d x 1) (d x 2) (d x 3) (d 770)))) M) (e0 : d x 0 = 7) : tCall E 370 [.inr (10, 0), .inr (46, x)] d K := by
  have n := h.GG.1
  obtain ⟨n7, n8, n9, n10, n11, n0, n1, n2, n3, n4, n5, n6⟩ := n
  have r3 := hr.2.2.2.2.2.2.2.2.2.2.2
  have cf := cf_39 hT h (inI.s (x := d x 3) (by omega))
  have t0 := ht0 (by omega)
  have fM : ∀ M : mD, (∀ b, ¬ b = 778 → M b = (g_333 0 (d x 3) 778 d) b) → ∀ a, (a < 769 ∨ 778 < a) → M a = (g_287 769 (d x 3) (g_333 0 (d x 3) 778 d)) a := fun M hM a ha => by rw [hM a (by omega), cf.2.1 a (by omega)]
  have fT : FTx d (g_287 769 (d x 3) (g_333 0 (d x 3) 778 d)) := ⟨fun a a1 a2 a3 => by rw [cf.2.1 a (by omega), cf.1 a a1 (by omega)], by rw [cf.2.1 578 (by decide), cf.1 578 (by decide) (by decide)]; exact t0⟩
  rw [e0] at k0 k1
  have ac := ac_7 hT h ⟨r3.1, by omega⟩ (by have := hf e0; omega)
  refine t_370_0 ⟨by decide, m_inR (by omega) (by omega), fun z => absurd (e0.symm.trans z) (by decide), fun z => absurd (e0.symm.trans z) (by decide), fun z => absurd (e0.symm.trans z) (by decide), fun z => absurd (e0.symm.trans z) (by decide), fun z => absurd (e0.symm.trans z) (by decide), fun z => absurd (e0.symm.trans z) (by decide), fun z => absurd (e0.symm.trans z) (by decide), fun _ => ⟨by decide, ?_⟩, fun z => absurd (e0.symm.trans z) (by decide), fun z => absurd (e0.symm.trans z) (by decide), fun z => absurd (e0.symm.trans z) (by decide), fun z => absurd (e0.symm.trans z) (by decide), fun z => absurd z (by omega)⟩
  obtain ⟨a1, a2, a3⟩ := ac
  refine q_333 (x2 := 778) h.1.1 rfl ⟨by omega, by omega⟩ (fun z v M hv hM => ?_) (fun z M _ => absurd (z.symm.trans a1) (by decide)) (fun z M _ => absurd (z.symm.trans a1) (by decide))
  refine t_370_142 ?_
  have kk := k1 ⟨fun z => absurd z (by decide), fun z => absurd z (by decide), fun z => absurd z (by decide), fun z => absurd z (by decide), fun z => absurd z (by decide), fun z => absurd z (by decide), fun z => absurd z (by decide), fun z => absurd z (by decide), fun z => absurd z (by decide), fun z => absurd z (by decide), fun z => absurd z (by decide)⟩ M _ (fM M hM) cf.2.2 a3 fT
  rw [hv, a2]
  rw [show DU 7 (d x 1) (d x 2) (d x 3) (d 770) = W_219 (ws (d 770) 1 (d 770 1 + d x 3)) 1 from rfl] at kk
  exact kk
theorem w370_8 {E E' : mO × tW} {K : tK} {x : Int} {d : mD} {c : Int} (hEO : EOK E) (hT : TKL E') (h : Inv2 E' d) (hr : RG (d x) (d 770)) (hf : d x 0 = 7 → d 770 1 + d x 3 ≤ 99999) (ht0 : ¬ d x 0 = 10 → d 578 1 = 0) (ht1 : d x 0 = 10 → v_93 578 0 (d 578 1) d = c ∧ ¬ c = -1 ∧ V_183 (nm c) (d 770) = -1) (k0 : ¬ OKA (d x 0) (d x 1) (d x 2) (d x 3) (d 770) → ∀ M d2 : mD, (∀ a, (a < 769 ∨ 778 < a) → M a = d2 a) → Inv2 E' d2 → AE d d2 → FTx d d2 → K (.inl (some (0, DU (d x 0) (d x 1) (d x 2) (d x 3) (d 770)))) M) (k1 : OKA (d x 0) (d x 1) (d x 2) (d x 3) (d 770) → ∀ M d2 : mD, (∀ a, (a < 769 ∨ 778 < a) → M a = d2 a) → Inv2 E' d2 → AK d d2 (NW (d x 0) (d x 1) (d x 2) (d x 3) (nm c) (d 770)) → FTx d d2 → K (.inl (some (0, DU (d x 0) (d x 1) (d x 2) (d x 3) (d 770)))) M) (e0 : d x 0 = 8) : tCall E 370 [.inr (10, 0), .inr (46, x)] d K := by
  have n := h.GG.1
  obtain ⟨n7, n8, n9, n10, n11, n0, n1, n2, n3, n4, n5, n6⟩ := n
  have r := hr.2.2.2.2.2.2.2.2.1 e0
  have r3 := hr.2.2.2.2.2.2.2.2.2.2.2
  have cf := cf_40 hT h (inI.s (x := d x 1) (by omega)) (inI.s (x := d x 2) (by omega))
  have t0 := ht0 (by omega)
  have fM : ∀ M : mD, (∀ b, ¬ b = 778 → M b = (g_334 0 (d x 1) (d x 2) 778 d) b) → ∀ a, (a < 769 ∨ 778 < a) → M a = (g_288 769 (d x 1) (d x 2) (g_334 0 (d x 1) (d x 2) 778 d)) a := fun M hM a ha => by rw [hM a (by omega), cf.2.1 a (by omega)]
  have fT : FTx d (g_288 769 (d x 1) (d x 2) (g_334 0 (d x 1) (d x 2) 778 d)) := ⟨fun a a1 a2 a3 => by rw [cf.2.1 a (by omega), cf.1 a a1 (by omega)], by rw [cf.2.1 578 (by decide), cf.1 578 (by decide) (by decide)]; exact t0⟩
  rw [e0] at k0 k1
  have ac := ac_8 hT h r.1 r.2
  refine t_370_0 ⟨by decide, m_inR (by omega) (by omega), fun z => absurd (e0.symm.trans z) (by decide), fun z => absurd (e0.symm.trans z) (by decide), fun z => absurd (e0.symm.trans z) (by decide), fun z => absurd (e0.symm.trans z) (by decide), fun z => absurd (e0.symm.trans z) (by decide), fun z => absurd (e0.symm.trans z) (by decide), fun z => absurd (e0.symm.trans z) (by decide), fun z => absurd (e0.symm.trans z) (by decide), fun _ => ⟨by decide, by decide, ?_⟩, fun z => absurd (e0.symm.trans z) (by decide), fun z => absurd (e0.symm.trans z) (by decide), fun z => absurd (e0.symm.trans z) (by decide), fun z => absurd z (by omega)⟩
  by_cases cc : V_270 (d x 1) (d x 2) (d 770) = 0
  · obtain ⟨a1, a2⟩ := ac.1 cc
    refine q_334 (x3 := 778) h.1.1 rfl ⟨by omega, by omega⟩ ⟨by omega, by omega⟩ (fun z v M _ _ => absurd (z.symm.trans a1) (by decide)) (fun z M _ => absurd (z.symm.trans a1) (by decide)) (fun z M hM => ?_)
    have kk := k0 (fun h => h.2.2.2.2.2.2.2.1 rfl cc) M _ (fM M hM) cf.2.2 a2 fT
    rw [show DU 8 (d x 1) (d x 2) (d x 3) (d 770) = -100000 from if_pos cc] at kk
    exact kk
  · obtain ⟨a1, a2, a3⟩ := ac.2 cc
    refine q_334 (x3 := 778) h.1.1 rfl ⟨by omega, by omega⟩ ⟨by omega, by omega⟩ (fun z v M hv hM => ?_) (fun z M _ => absurd (z.symm.trans a1) (by decide)) (fun z M _ => absurd (z.symm.trans a1) (by decide))
    refine t_370_153 ?_
    have kk := k1 ⟨fun z => absurd z (by decide), fun z => absurd z (by decide), fun z => absurd z (by decide), fun z => absurd z (by decide), fun z => absurd z (by decide), fun z => absurd z (by decide), fun z => absurd z (by decide), fun _ => cc, fun z => absurd z (by decide), fun z => absurd z (by decide), fun z => absurd z (by decide)⟩ M _ (fM M hM) cf.2.2 a3 fT
    rw [hv, a2]
    rw [show DU 8 (d x 1) (d x 2) (d x 3) (d 770) = W_229 (d x 1) (d x 2) (d 770) (12 + 68 * d x 2 + 5) from if_neg cc] at kk
    exact kk
theorem w370_9 {E E' : mO × tW} {K : tK} {x : Int} {d : mD} {c : Int} (hEO : EOK E) (hT : TKL E') (h : Inv2 E' d) (hr : RG (d x) (d 770)) (hf : d x 0 = 7 → d 770 1 + d x 3 ≤ 99999) (ht0 : ¬ d x 0 = 10 → d 578 1 = 0) (ht1 : d x 0 = 10 → v_93 578 0 (d 578 1) d = c ∧ ¬ c = -1 ∧ V_183 (nm c) (d 770) = -1) (k0 : ¬ OKA (d x 0) (d x 1) (d x 2) (d x 3) (d 770) → ∀ M d2 : mD, (∀ a, (a < 769 ∨ 778 < a) → M a = d2 a) → Inv2 E' d2 → AE d d2 → FTx d d2 → K (.inl (some (0, DU (d x 0) (d x 1) (d x 2) (d x 3) (d 770)))) M) (k1 : OKA (d x 0) (d x 1) (d x 2) (d x 3) (d 770) → ∀ M d2 : mD, (∀ a, (a < 769 ∨ 778 < a) → M a = d2 a) → Inv2 E' d2 → AK d d2 (NW (d x 0) (d x 1) (d x 2) (d x 3) (nm c) (d 770)) → FTx d d2 → K (.inl (some (0, DU (d x 0) (d x 1) (d x 2) (d x 3) (d 770)))) M) (e0 : d x 0 = 9) : tCall E 370 [.inr (10, 0), .inr (46, x)] d K := by
  have n := h.GG.1
  obtain ⟨n7, n8, n9, n10, n11, n0, n1, n2, n3, n4, n5, n6⟩ := n
  have r := hr.2.2.2.2.2.2.2.2.2.1 e0
  have r3 := hr.2.2.2.2.2.2.2.2.2.2.2
  have cf := cf_41 hT h (inI.s (x := d x 1) (by omega))
  have t0 := ht0 (by omega)
  have fM : ∀ M : mD, (∀ b, ¬ b = 778 → M b = (g_335 0 (d x 1) 778 d) b) → ∀ a, (a < 769 ∨ 778 < a) → M a = (g_289 769 (d x 1) (g_335 0 (d x 1) 778 d)) a := fun M hM a ha => by rw [hM a (by omega), cf.2.1 a (by omega)]
  have fT : FTx d (g_289 769 (d x 1) (g_335 0 (d x 1) 778 d)) := ⟨fun a a1 a2 a3 => by rw [cf.2.1 a (by omega), cf.1 a a1 (by omega)], by rw [cf.2.1 578 (by decide), cf.1 578 (by decide) (by decide)]; exact t0⟩
  rw [e0] at k0 k1
  have ac := ac_9 hT h r
  refine t_370_0 ⟨by decide, m_inR (by omega) (by omega), fun z => absurd (e0.symm.trans z) (by decide), fun z => absurd (e0.symm.trans z) (by decide), fun z => absurd (e0.symm.trans z) (by decide), fun z => absurd (e0.symm.trans z) (by decide), fun z => absurd (e0.symm.trans z) (by decide), fun z => absurd (e0.symm.trans z) (by decide), fun z => absurd (e0.symm.trans z) (by decide), fun z => absurd (e0.symm.trans z) (by decide), fun z => absurd (e0.symm.trans z) (by decide), fun _ => ⟨by decide, ?_⟩, fun z => absurd (e0.symm.trans z) (by decide), fun z => absurd (e0.symm.trans z) (by decide), fun z => absurd z (by omega)⟩
  by_cases cc : d 770 (12 + 68 * d x 1 + 4) = 0
  · obtain ⟨a1, a2, a3⟩ := ac.2 cc
    refine q_335 (x2 := 778) h.1.1 rfl ⟨by omega, by omega⟩ (fun z v M hv hM => ?_) (fun z M _ => absurd (z.symm.trans a1) (by decide)) (fun z M _ => absurd (z.symm.trans a1) (by decide))
    refine t_370_161 ?_
    have kk := k1 ⟨fun z => absurd z (by decide), fun z => absurd z (by decide), fun z => absurd z (by decide), fun z => absurd z (by decide), fun z => absurd z (by decide), fun z => absurd z (by decide), fun z => absurd z (by decide), fun z => absurd z (by decide), fun _ => cc, fun z => absurd z (by decide), fun z => absurd z (by decide)⟩ M _ (fM M hM) cf.2.2 a3 fT
    rw [hv, a2]
    rw [show DU 9 (d x 1) (d x 2) (d x 3) (d 770) = (LRe (d x 1) (d 770)).1 from if_pos cc] at kk
    exact kk
  · obtain ⟨a1, a2⟩ := ac.1 cc
    refine q_335 (x2 := 778) h.1.1 rfl ⟨by omega, by omega⟩ (fun z v M _ _ => absurd (z.symm.trans a1) (by decide)) (fun z M _ => absurd (z.symm.trans a1) (by decide)) (fun z M hM => ?_)
    have kk := k0 (fun h => cc (h.2.2.2.2.2.2.2.2.1 rfl)) M _ (fM M hM) cf.2.2 a2 fT
    rw [show DU 9 (d x 1) (d x 2) (d x 3) (d 770) = -100000 from if_neg cc] at kk
    exact kk
theorem w370_10 {E E' : mO × tW} {K : tK} {x : Int} {d : mD} {c : Int} (hEO : EOK E) (hT : TKL E') (h : Inv2 E' d) (hr : RG (d x) (d 770)) (hf : d x 0 = 7 → d 770 1 + d x 3 ≤ 99999) (ht0 : ¬ d x 0 = 10 → d 578 1 = 0) (ht1 : d x 0 = 10 → v_93 578 0 (d 578 1) d = c ∧ ¬ c = -1 ∧ V_183 (nm c) (d 770) = -1) (k0 : ¬ OKA (d x 0) (d x 1) (d x 2) (d x 3) (d 770) → ∀ M d2 : mD, (∀ a, (a < 769 ∨ 778 < a) → M a = d2 a) → Inv2 E' d2 → AE d d2 → FTx d d2 → K (.inl (some (0, DU (d x 0) (d x 1) (d x 2) (d x 3) (d 770)))) M) (k1 : OKA (d x 0) (d x 1) (d x 2) (d x 3) (d 770) → ∀ M d2 : mD, (∀ a, (a < 769 ∨ 778 < a) → M a = d2 a) → Inv2 E' d2 → AK d d2 (NW (d x 0) (d x 1) (d x 2) (d x 3) (nm c) (d 770)) → FTx d d2 → K (.inl (some (0, DU (d x 0) (d x 1) (d x 2) (d x 3) (d 770)))) M) (e0 : d x 0 = 10) : tCall E 370 [.inr (10, 0), .inr (46, x)] d K := by
  have n := h.GG.1
  obtain ⟨n7, n8, n9, n10, n11, n0, n1, n2, n3, n4, n5, n6⟩ := n
  have r3 := hr.2.2.2.2.2.2.2.2.2.2.2
  have cf := cf_42 hT h
  obtain ⟨u1, u2, u3⟩ := ht1 e0
  have fM : ∀ M : mD, (∀ b, ¬ b = 778 → M b = (g_336 0 778 d) b) → ∀ a, (a < 769 ∨ 778 < a) → M a = (g_290 769 (g_336 0 778 d)) a := fun M hM a ha => by rw [hM a (by omega), cf.2.1 a (by omega)]
  rw [e0] at k0 k1
  have ac := ac_10 hT h u1 u2 u3
  refine t_370_0 ⟨by decide, m_inR (by omega) (by omega), fun z => absurd (e0.symm.trans z) (by decide), fun z => absurd (e0.symm.trans z) (by decide), fun z => absurd (e0.symm.trans z) (by decide), fun z => absurd (e0.symm.trans z) (by decide), fun z => absurd (e0.symm.trans z) (by decide), fun z => absurd (e0.symm.trans z) (by decide), fun z => absurd (e0.symm.trans z) (by decide), fun z => absurd (e0.symm.trans z) (by decide), fun z => absurd (e0.symm.trans z) (by decide), fun z => absurd (e0.symm.trans z) (by decide), fun _ => ?_, fun z => absurd (e0.symm.trans z) (by decide), fun z => absurd z (by omega)⟩
  by_cases cc : d 770 8 = 16
  · obtain ⟨a1, a2, a4⟩ := ac.1 cc
    have fT : FTx d (g_290 769 (g_336 0 778 d)) := ⟨fun a a1 a2 a3 => by rw [cf.2.1 a (by omega), cf.1 a a1 (by omega) a3], a4⟩
    refine q_336 (x1 := 778) h.1.1 rfl (fun z v M _ _ => absurd (z.symm.trans a1) (by decide)) (fun z M hM => ?_) (fun z M _ => absurd (z.symm.trans a1) (by decide))
    have kk := k0 (fun h => h.2.2.2.2.2.2.2.2.2.1 rfl cc) M _ (fM M hM) cf.2.2 a2 fT
    rw [show DU 10 (d x 1) (d x 2) (d x 3) (d 770) = -100000 from if_pos cc] at kk
    exact kk
  · obtain ⟨a1, a2, a3, a4⟩ := ac.2 (by omega)
    have fT : FTx d (g_290 769 (g_336 0 778 d)) := ⟨fun a a1 a2 a3 => by rw [cf.2.1 a (by omega), cf.1 a a1 (by omega) a3], a4⟩
    refine q_336 (x1 := 778) h.1.1 rfl (fun z v M hv hM => ?_) (fun z M _ => absurd (z.symm.trans a1) (by decide)) (fun z M _ => absurd (z.symm.trans a1) (by decide))
    refine t_370_166 ?_
    have kk := k1 ⟨fun z => absurd z (by decide), fun z => absurd z (by decide), fun z => absurd z (by decide), fun z => absurd z (by decide), fun z => absurd z (by decide), fun z => absurd z (by decide), fun z => absurd z (by decide), fun z => absurd z (by decide), fun z => absurd z (by decide), fun _ => cc, fun z => absurd z (by decide)⟩ M _ (fM M hM) cf.2.2 a3 fT
    rw [hv, a2]
    rw [show DU 10 (d x 1) (d x 2) (d x 3) (d 770) = d 770 8 from if_neg cc] at kk
    exact kk
theorem w370_11 {E E' : mO × tW} {K : tK} {x : Int} {d : mD} {c : Int} (hEO : EOK E) (hT : TKL E') (h : Inv2 E' d) (hr : RG (d x) (d 770)) (hf : d x 0 = 7 → d 770 1 + d x 3 ≤ 99999) (ht0 : ¬ d x 0 = 10 → d 578 1 = 0) (ht1 : d x 0 = 10 → v_93 578 0 (d 578 1) d = c ∧ ¬ c = -1 ∧ V_183 (nm c) (d 770) = -1) (k0 : ¬ OKA (d x 0) (d x 1) (d x 2) (d x 3) (d 770) → ∀ M d2 : mD, (∀ a, (a < 769 ∨ 778 < a) → M a = d2 a) → Inv2 E' d2 → AE d d2 → FTx d d2 → K (.inl (some (0, DU (d x 0) (d x 1) (d x 2) (d x 3) (d 770)))) M) (k1 : OKA (d x 0) (d x 1) (d x 2) (d x 3) (d 770) → ∀ M d2 : mD, (∀ a, (a < 769 ∨ 778 < a) → M a = d2 a) → Inv2 E' d2 → AK d d2 (NW (d x 0) (d x 1) (d x 2) (d x 3) (nm c) (d 770)) → FTx d d2 → K (.inl (some (0, DU (d x 0) (d x 1) (d x 2) (d x 3) (d 770)))) M) (e0 : d x 0 = 11) : tCall E 370 [.inr (10, 0), .inr (46, x)] d K := by
  have n := h.GG.1
  obtain ⟨n7, n8, n9, n10, n11, n0, n1, n2, n3, n4, n5, n6⟩ := n
  have r := hr.2.2.2.2.2.2.2.2.2.2.1 e0
  have r3 := hr.2.2.2.2.2.2.2.2.2.2.2
  have cf := cf_43 hT h (inI.s (x := d x 1) (by omega)) (inI.s (x := d x 2) (by omega))
  have t0 := ht0 (by omega)
  have fM : ∀ M : mD, (∀ b, ¬ b = 778 → M b = (g_337 0 (d x 1) (d x 2) 778 d) b) → ∀ a, (a < 769 ∨ 778 < a) → M a = (g_293 769 (d x 1) (d x 2) (g_337 0 (d x 1) (d x 2) 778 d)) a := fun M hM a ha => by rw [hM a (by omega), cf.2.1 a (by omega)]
  have fT : FTx d (g_293 769 (d x 1) (d x 2) (g_337 0 (d x 1) (d x 2) 778 d)) := ⟨fun a a1 a2 a3 => by rw [cf.2.1 a (by omega), cf.1 a a1 (by omega)], by rw [cf.2.1 578 (by decide), cf.1 578 (by decide) (by decide)]; exact t0⟩
  rw [e0] at k0 k1
  have ac := ac_11 hT h r.1 (inI.s (x := d x 2) (by omega))
  refine t_370_0 ⟨by decide, m_inR (by omega) (by omega), fun z => absurd (e0.symm.trans z) (by decide), fun z => absurd (e0.symm.trans z) (by decide), fun z => absurd (e0.symm.trans z) (by decide), fun z => absurd (e0.symm.trans z) (by decide), fun z => absurd (e0.symm.trans z) (by decide), fun z => absurd (e0.symm.trans z) (by decide), fun z => absurd (e0.symm.trans z) (by decide), fun z => absurd (e0.symm.trans z) (by decide), fun z => absurd (e0.symm.trans z) (by decide), fun z => absurd (e0.symm.trans z) (by decide), fun z => absurd (e0.symm.trans z) (by decide), fun _ => ⟨by decide, by decide, ?_⟩, fun z => absurd z (by omega)⟩
  by_cases cc : (olds 0 (d x 1) ≤ d x 2 ∧ d x 2 ≤ olds 1 (d x 1))
  · obtain ⟨a1, a2, a3⟩ := ac.2 cc
    refine q_337 (x3 := 778) hEO h.1.1 rfl ⟨by omega, by omega⟩ ⟨by omega, by omega⟩ (fun z v M hv hM => ?_) (fun z M _ => absurd (z.symm.trans a1) (by decide))
    refine t_370_177 ?_
    have kk := k1 ⟨fun z => absurd z (by decide), fun z => absurd z (by decide), fun z => absurd z (by decide), fun z => absurd z (by decide), fun z => absurd z (by decide), fun z => absurd z (by decide), fun z => absurd z (by decide), fun z => absurd z (by decide), fun z => absurd z (by decide), fun z => absurd z (by decide), fun _ => cc⟩ M _ (fM M hM) cf.2.2 a3 fT
    rw [hv, a2]
    rw [show DU 11 (d x 1) (d x 2) (d x 3) (d 770) = d 770 (2 + d x 1) from if_pos cc] at kk
    exact kk
  · obtain ⟨a1, a2⟩ := ac.1 cc
    refine q_337 (x3 := 778) hEO h.1.1 rfl ⟨by omega, by omega⟩ ⟨by omega, by omega⟩ (fun z v M _ _ => absurd (z.symm.trans a1) (by decide)) (fun z M hM => ?_)
    have kk := k0 (fun h => cc (h.2.2.2.2.2.2.2.2.2.2 rfl)) M _ (fM M hM) cf.2.2 a2 fT
    rw [show DU 11 (d x 1) (d x 2) (d x 3) (d 770) = -100001 from if_neg cc] at kk
    exact kk
theorem w_370 {E E' : mO × tW} {K : tK} {x : Int} {d : mD} {c : Int} (hEO : EOK E) (hT : TKL E') (h : Inv2 E' d) (hr : RG (d x) (d 770)) (hf : d x 0 = 7 → d 770 1 + d x 3 ≤ 99999) (ht0 : ¬ d x 0 = 10 → d 578 1 = 0) (ht1 : d x 0 = 10 → v_93 578 0 (d 578 1) d = c ∧ ¬ c = -1 ∧ V_183 (nm c) (d 770) = -1) (k0 : ¬ OKA (d x 0) (d x 1) (d x 2) (d x 3) (d 770) → ∀ M d2 : mD, (∀ a, (a < 769 ∨ 778 < a) → M a = d2 a) → Inv2 E' d2 → AE d d2 → FTx d d2 → K (.inl (some (0, DU (d x 0) (d x 1) (d x 2) (d x 3) (d 770)))) M) (k1 : OKA (d x 0) (d x 1) (d x 2) (d x 3) (d 770) → ∀ M d2 : mD, (∀ a, (a < 769 ∨ 778 < a) → M a = d2 a) → Inv2 E' d2 → AK d d2 (NW (d x 0) (d x 1) (d x 2) (d x 3) (nm c) (d 770)) → FTx d d2 → K (.inl (some (0, DU (d x 0) (d x 1) (d x 2) (d x 3) (d 770)))) M) : tCall E 370 [.inr (10, 0), .inr (46, x)] d K := by
  have e : d x 0 = 0 ∨ d x 0 = 1 ∨ d x 0 = 2 ∨ d x 0 = 3 ∨ d x 0 = 4 ∨ d x 0 = 5 ∨ d x 0 = 6 ∨ d x 0 = 7 ∨ d x 0 = 8 ∨ d x 0 = 9 ∨ d x 0 = 10 ∨ d x 0 = 11 := by
    have := hr.1
    omega
  rcases e with e | e | e | e | e | e | e | e | e | e | e | e
  · exact w370_0 hEO hT h hr hf ht0 ht1 k0 k1 e
  · exact w370_1 hEO hT h hr hf ht0 ht1 k0 k1 e
  · exact w370_2 hEO hT h hr hf ht0 ht1 k0 k1 e
  · exact w370_3 hEO hT h hr hf ht0 ht1 k0 k1 e
  · exact w370_4 hEO hT h hr hf ht0 ht1 k0 k1 e
  · exact w370_5 hEO hT h hr hf ht0 ht1 k0 k1 e
  · exact w370_6 hEO hT h hr hf ht0 ht1 k0 k1 e
  · exact w370_7 hEO hT h hr hf ht0 ht1 k0 k1 e
  · exact w370_8 hEO hT h hr hf ht0 ht1 k0 k1 e
  · exact w370_9 hEO hT h hr hf ht0 ht1 k0 k1 e
  · exact w370_10 hEO hT h hr hf ht0 ht1 k0 k1 e
  · exact w370_11 hEO hT h hr hf ht0 ht1 k0 k1 e
theorem w_370u {E E' : mO × tW} {K : tK} {x : Int} {d : mD} (hT : TKL E') (h : Inv2 E' d) (e0 : d x 0 = 12) (ht0 : d 578 1 = 0) (k0 : d 769 7 = 0 → ∀ M d2 : mD, (∀ a, (a < 769 ∨ 778 < a) → M a = d2 a) → Inv2 E' d2 → AE d d2 → FTx d d2 → K (.inl (some (0, -100000))) M) (k1 : 0 < d 769 7 → ∀ M d2 : mD, (∀ a, (a < 769 ∨ 778 < a) → M a = d2 a) → Inv2 E' d2 → (d2 769 7 = d 769 7 - 1 ∧ d2 771 = d 771 ∧ ∀ i, 0 ≤ i → i < 3116 → d2 770 i = d 771 (3116 * (d 769 7 - 1) + i)) → FTx d d2 → K (.inl (some (0, d 769 7 - 1))) M) : tCall E 370 [.inr (10, 0), .inr (46, x)] d K := by
  have cf := cf_44 hT h
  have fM : ∀ M : mD, (∀ b, ¬ b = 778 → M b = (g_338 0 778 d) b) → ∀ a, (a < 769 ∨ 778 < a) → M a = (g_294 769 (g_338 0 778 d)) a := fun M hM a ha => by rw [hM a (by omega), cf.2.1 a (by omega)]
  have fT : FTx d (g_294 769 (g_338 0 778 d)) := ⟨fun a a1 a2 a3 => by rw [cf.2.1 a (by omega), cf.1 a a1 (by omega)], by rw [cf.2.1 578 (by decide), cf.1 578 (by decide) (by decide)]; exact ht0⟩
  have ac := ac_12 hT h
  have h7 : 0 ≤ d 769 7 := by
    have := h.1.2.2.2.1.2.1
    have := h.1.2.2.2.1.2.2.1
    omega
  refine t_370_0 ⟨by decide, m_inR (by omega) (by omega), fun z => absurd (e0.symm.trans z) (by decide), fun z => absurd (e0.symm.trans z) (by decide), fun z => absurd (e0.symm.trans z) (by decide), fun z => absurd (e0.symm.trans z) (by decide), fun z => absurd (e0.symm.trans z) (by decide), fun z => absurd (e0.symm.trans z) (by decide), fun z => absurd (e0.symm.trans z) (by decide), fun z => absurd (e0.symm.trans z) (by decide), fun z => absurd (e0.symm.trans z) (by decide), fun z => absurd (e0.symm.trans z) (by decide), fun z => absurd (e0.symm.trans z) (by decide), fun z => absurd (e0.symm.trans z) (by decide), fun _ => ?_⟩
  by_cases cc : d 769 7 = 0
  · obtain ⟨a1, a2⟩ := ac.1 cc
    refine q_338 (x1 := 778) h.1.1 rfl (fun z v M _ _ => absurd (z.symm.trans a1) (by decide)) (fun z M hM => ?_)
    exact k0 cc M _ (fM M hM) cf.2.2 a2 fT
  · obtain ⟨a1, a2, a3⟩ := ac.2 (by omega)
    refine q_338 (x1 := 778) h.1.1 rfl (fun z v M hv hM => ?_) (fun z M _ => absurd (z.symm.trans a1) (by decide))
    refine t_370_182 ?_
    rw [hv, a2]
    exact k1 (by omega) M _ (fM M hM) cf.2.2 a3 fT
