/-! ===== the reference's row: its methods as functions of the row ===== -/
abbrev Row : Type := Int → Int
def ws (w : Row) (i v : Int) : Row := fun j => if j = i then v else w j
def rset (d : mD) (w : Row) : mD := fun b => if b = 770 then w else d b
def pr (d : mD) (x : Int × Row) : Int × mD := (x.1, rset d x.2)
theorem rset_at (d : mD) (w : Row) : rset d w 770 = w := by simp [rset]
theorem rset_ne {d : mD} {w : Row} {b : Int} (h : b ≠ 770) : rset d w b = d b := by simp [rset, h]
theorem rset_self (d : mD) : rset d (d 770) = d := by
  funext b
  by_cases h : b = 770 <;> simp [rset, h]
theorem rset_rset (d : mD) (w u : Row) : rset (rset d w) u = rset d u := by
  funext b
  by_cases h : b = 770 <;> simp [rset, h]
theorem mset_row (d : mD) (i v : Int) : mset d 770 i v = rset d (ws (d 770) i v) := by
  funext b j
  by_cases h : b = 770 <;> simp [rset, mset, ws, h]
theorem rset_ite (d : mD) (c : Prop) [Decidable c] (a b : Row) : rset d (if c then a else b) = if c then rset d a else rset d b := by split <;> rfl
theorem pr_ite (d : mD) (c : Prop) [Decidable c] (a b : Int × Row) : pr d (if c then a else b) = if c then pr d a else pr d b := by split <;> rfl
theorem pr_mk (d : mD) (a : Int) (b : Row) : pr d (a, b) = (a, rset d b) := rfl
theorem pr_rset (d : mD) (w : Row) (x : Int × Row) : pr (rset d w) x = pr d x := by
  unfold pr
  rw [rset_rset]
theorem pr_1 (d : mD) (x : Int × Row) : (pr d x).1 = x.1 := rfl
theorem pr_2 (d : mD) (x : Int × Row) : (pr d x).2 = rset d x.2 := rfl
theorem ws_at (w : Row) (i v : Int) : ws w i v i = v := by simp [ws]
theorem ws_ne {w : Row} {i v j : Int} (h : j ≠ i) : ws w i v j = w j := by simp [ws, h]
def V_176 (x0 x2 x4 : Int) (w : Row) : Int := if mcmp x0 x2 < 0 then 0 else if (0 : Int) < mcmp x0 x4 then 0 else 1
theorem m_v_176 {x0 x2 x4 : Int} (d : mD) : v_176 x0 x2 x4 d = (V_176 x0 x2 x4 (d 770)) := by
  simp only [v_176, V_176, mset_row, rset_self, rset_at, rset_rset, rset_ite, pr_ite, pr_mk, pr_rset, pr_1, pr_2, Int.reduceAdd]
def W_181 (x1 x2 x3 x4 : Int) (w : Row) : Row := ws (ws (ws (ws (ws (ws w ((12 + (68 * (w 7))) + 0) x1) ((12 + (68 * (w 7))) + 1) x2) ((12 + (68 * (w 7))) + 2) x3) ((12 + (68 * (w 7))) + 3) x4) ((12 + (68 * (w 7))) + 4) 1) 7 ((w 7) + 1)
theorem m_g_181 {x1 x2 x3 x4 : Int} (d : mD) : g_181 769 x1 x2 x3 x4 d = (rset d (W_181 x1 x2 x3 x4 (d 770))) := by
  simp only [g_181, W_181, mset_row, rset_self, rset_at, rset_rset, rset_ite, pr_ite, pr_mk, pr_rset, pr_1, pr_2, Int.reduceAdd]
def W_182 (x1 : Int) (w : Row) : Row := ws (ws (ws w ((420 + (2 * (w 8))) + 0) x1) ((420 + (2 * (w 8))) + 1) 0) 8 ((w 8) + 1)
theorem m_g_182 {x1 : Int} (d : mD) : g_182 769 x1 d = (rset d (W_182 x1 (d 770))) := by
  simp only [g_182, W_182, mset_row, rset_self, rset_at, rset_rset, rset_ite, pr_ite, pr_mk, pr_rset, pr_1, pr_2, Int.reduceAdd]
def ST_183_2 (x1 : Int) (r2 : Int → Row → Int) (x2 : Int) (w : Row) : Int := if x2 < w 8 then (if w ((420 + (2 * x2)) + 0) = x1 then x2 else r2 (x2 + 1) w) else (-1)
theorem m_st_183_2 {x1 x2 : Int} {r2 : Int → mD → Int} {R2 : Int → Row → Int} (hr2 : ∀ (z0 : Int) (d : mD), r2 z0 d = (R2 z0 (d 770))) (d : mD) : st_183_2 769 x1 r2 x2 d = (ST_183_2 x1 R2 x2 (d 770)) := by
  simp only [st_183_2, ST_183_2, hr2, mset_row, rset_self, rset_at, rset_rset, rset_ite, pr_ite, pr_mk, pr_rset, pr_1, pr_2, Int.reduceAdd]
def LP_183_2 (x1 : Int) : Nat → Int → Row → Int
  | 0 => ST_183_2 x1 (fun _ w => 0)
  | n + 1 => ST_183_2 x1 (LP_183_2 x1 n)
theorem m_lp_183_2 {x1 : Int}   : ∀ (n : Nat) (y0 : Int) (d : mD), lp_183_2 769 x1 n y0 d = (LP_183_2 x1 n y0 (d 770)) := by
  intro n
  induction n with
  | zero => intro y0 d; exact m_st_183_2 (r2 := (fun _ d => 0)) (R2 := (fun _ w => 0)) (fun _ _ => rfl) d
  | succ n ih => intro y0 d; exact m_st_183_2 ih d
def V_183 (x1 : Int) (w : Row) : Int := LP_183_2 x1 (16 - 0 : Int).toNat 0 w
theorem m_v_183 {x1 : Int} (d : mD) : v_183 769 x1 d = (V_183 x1 (d 770)) := by
  simp only [v_183, V_183, m_lp_183_2, mset_row, rset_self, rset_at, rset_rset, rset_ite, pr_ite, pr_mk, pr_rset, pr_1, pr_2, Int.reduceAdd]
def ST_184_2 (x1 : Int) (r2 : Int → Row → Int) (x2 : Int) (w : Row) : Int := if x2 < w 7 then (if w ((12 + (68 * x2)) + 0) = x1 then x2 else r2 (x2 + 1) w) else (-1)
theorem m_st_184_2 {x1 x2 : Int} {r2 : Int → mD → Int} {R2 : Int → Row → Int} (hr2 : ∀ (z0 : Int) (d : mD), r2 z0 d = (R2 z0 (d 770))) (d : mD) : st_184_2 769 x1 r2 x2 d = (ST_184_2 x1 R2 x2 (d 770)) := by
  simp only [st_184_2, ST_184_2, hr2, mset_row, rset_self, rset_at, rset_rset, rset_ite, pr_ite, pr_mk, pr_rset, pr_1, pr_2, Int.reduceAdd]
def LP_184_2 (x1 : Int) : Nat → Int → Row → Int
  | 0 => ST_184_2 x1 (fun _ w => 0)
  | n + 1 => ST_184_2 x1 (LP_184_2 x1 n)
theorem m_lp_184_2 {x1 : Int}   : ∀ (n : Nat) (y0 : Int) (d : mD), lp_184_2 769 x1 n y0 d = (LP_184_2 x1 n y0 (d 770)) := by
  intro n
  induction n with
  | zero => intro y0 d; exact m_st_184_2 (r2 := (fun _ d => 0)) (R2 := (fun _ w => 0)) (fun _ _ => rfl) d
  | succ n ih => intro y0 d; exact m_st_184_2 ih d
def V_184 (x1 : Int) (w : Row) : Int := LP_184_2 x1 (6 - 0 : Int).toNat 0 w
theorem m_v_184 {x1 : Int} (d : mD) : v_184 769 x1 d = (V_184 x1 (d 770)) := by
  simp only [v_184, V_184, m_lp_184_2, mset_row, rset_self, rset_at, rset_rset, rset_ite, pr_ite, pr_mk, pr_rset, pr_1, pr_2, Int.reduceAdd]
def ST_201_10 (x1 : Int) (r10 : Int → Row → Int) (x2 : Int) (w : Row) : Int := if x2 < 0 then (-1) else if w ((452 + (24 * x2)) + 0) = x1 then x2 else r10 (x2 + (-1)) w
theorem m_st_201_10 {x1 x2 : Int} {r10 : Int → mD → Int} {R10 : Int → Row → Int} (hr10 : ∀ (z0 : Int) (d : mD), r10 z0 d = (R10 z0 (d 770))) (d : mD) : st_201_10 769 x1 r10 x2 d = (ST_201_10 x1 R10 x2 (d 770)) := by
  simp only [st_201_10, ST_201_10, hr10, mset_row, rset_self, rset_at, rset_rset, rset_ite, pr_ite, pr_mk, pr_rset, pr_1, pr_2, Int.reduceAdd]
def LP_201_10 (x1 : Int) : Nat → Int → Row → Int
  | 0 => ST_201_10 x1 (fun _ w => 0)
  | n + 1 => ST_201_10 x1 (LP_201_10 x1 n)
theorem m_lp_201_10 {x1 : Int}   : ∀ (n : Nat) (y0 : Int) (d : mD), lp_201_10 769 x1 n y0 d = (LP_201_10 x1 n y0 (d 770)) := by
  intro n
  induction n with
  | zero => intro y0 d; exact m_st_201_10 (r10 := (fun _ d => 0)) (R10 := (fun _ w => 0)) (fun _ _ => rfl) d
  | succ n ih => intro y0 d; exact m_st_201_10 ih d
def V_201 (x1 : Int) (w : Row) : Int := LP_201_10 x1 (((w 9) - 1) + 1 : Int).toNat ((w 9) - 1) w
theorem m_v_201 {x1 : Int} (d : mD) : v_201 769 x1 d = (V_201 x1 (d 770)) := by
  simp only [v_201, V_201, m_lp_201_10, mset_row, rset_self, rset_at, rset_rset, rset_ite, pr_ite, pr_mk, pr_rset, pr_1, pr_2, Int.reduceAdd]
def V_212 (x1 : Int) (w : Row) : Int := if w ((452 + (24 * x1)) + 3) = (-1) then w 0 else w ((452 + (24 * x1)) + 3)
theorem m_v_212 {x1 : Int} (d : mD) : v_212 769 x1 d = (V_212 x1 (d 770)) := by
  simp only [v_212, V_212, mset_row, rset_self, rset_at, rset_rset, rset_ite, pr_ite, pr_mk, pr_rset, pr_1, pr_2, Int.reduceAdd]
def V_213 (x1 : Int) (w : Row) : Int := if ((V_212 x1 w) - (w ((452 + (24 * x1)) + 2))) - (w 2) < 0 then 0 else ((V_212 x1 w) - (w ((452 + (24 * x1)) + 2))) - (w 2)
theorem m_v_213 {x1 : Int} (d : mD) : v_213 769 x1 d = (V_213 x1 (d 770)) := by
  simp only [v_213, V_213, m_v_212, mset_row, rset_self, rset_at, rset_rset, rset_ite, pr_ite, pr_mk, pr_rset, pr_1, pr_2, Int.reduceAdd]
def V_214 (x1 x2 : Int) (w : Row) : Int := if x2 < (w ((452 + (24 * x1)) + 2)) + (w 2) then 0 else if x2 < V_212 x1 w then 1 else 0
theorem m_v_214 {x1 x2 : Int} (d : mD) : v_214 769 x1 x2 d = (V_214 x1 x2 (d 770)) := by
  simp only [v_214, V_214, m_v_212, mset_row, rset_self, rset_at, rset_rset, rset_ite, pr_ite, pr_mk, pr_rset, pr_1, pr_2, Int.reduceAdd]
def V_215 (x1 : Int) (w : Row) : Int := w ((452 + (24 * (w ((1916 + (5 * x1)) + 1)))) + 0)
theorem m_v_215 {x1 : Int} (d : mD) : v_215 769 x1 d = (V_215 x1 (d 770)) := by
  simp only [v_215, V_215, mset_row, rset_self, rset_at, rset_rset, rset_ite, pr_ite, pr_mk, pr_rset, pr_1, pr_2, Int.reduceAdd]
def ST_216_2 (x1 x2 : Int) (r2 : Int → Row → Int) (x3 : Int) (w : Row) : Int := if x3 < w 10 then (if w ((1916 + (5 * x3)) + 2) = x2 then (if V_215 x3 w = x1 then 1 else r2 (x3 + 1) w) else r2 (x3 + 1) w) else 0
theorem m_st_216_2 {x1 x2 x3 : Int} {r2 : Int → mD → Int} {R2 : Int → Row → Int} (hr2 : ∀ (z0 : Int) (d : mD), r2 z0 d = (R2 z0 (d 770))) (d : mD) : st_216_2 769 x1 x2 r2 x3 d = (ST_216_2 x1 x2 R2 x3 (d 770)) := by
  simp only [st_216_2, ST_216_2, m_v_215, hr2, mset_row, rset_self, rset_at, rset_rset, rset_ite, pr_ite, pr_mk, pr_rset, pr_1, pr_2, Int.reduceAdd]
def LP_216_2 (x1 x2 : Int) : Nat → Int → Row → Int
  | 0 => ST_216_2 x1 x2 (fun _ w => 0)
  | n + 1 => ST_216_2 x1 x2 (LP_216_2 x1 x2 n)
theorem m_lp_216_2 {x1 x2 : Int}   : ∀ (n : Nat) (y0 : Int) (d : mD), lp_216_2 769 x1 x2 n y0 d = (LP_216_2 x1 x2 n y0 (d 770)) := by
  intro n
  induction n with
  | zero => intro y0 d; exact m_st_216_2 (r2 := (fun _ d => 0)) (R2 := (fun _ w => 0)) (fun _ _ => rfl) d
  | succ n ih => intro y0 d; exact m_st_216_2 ih d
def V_216 (x1 x2 : Int) (w : Row) : Int := LP_216_2 x1 x2 (200 - 0 : Int).toNat 0 w
theorem m_v_216 {x1 x2 : Int} (d : mD) : v_216 769 x1 x2 d = (V_216 x1 x2 (d 770)) := by
  simp only [v_216, V_216, m_lp_216_2, mset_row, rset_self, rset_at, rset_rset, rset_ite, pr_ite, pr_mk, pr_rset, pr_1, pr_2, Int.reduceAdd]
def ST_217_4 (x1 : Int) (r4 : Int → Int → Row → Int) (x2 x3 : Int) (w : Row) : Int := if x3 < w 10 then (if V_215 x3 w = x1 then (if (w ((1916 + (5 * x3)) + 4)) / 20 = (w 0) / 20 then r4 (x2 + 1) (x3 + 1) w else r4 (x2 + 0) (x3 + 1) w) else r4 (x2 + 0) (x3 + 1) w) else x2
theorem m_st_217_4 {x1 x2 x3 : Int} {r4 : Int → Int → mD → Int} {R4 : Int → Int → Row → Int} (hr4 : ∀ (z0 z1 : Int) (d : mD), r4 z0 z1 d = (R4 z0 z1 (d 770))) (d : mD) : st_217_4 769 x1 r4 x2 x3 d = (ST_217_4 x1 R4 x2 x3 (d 770)) := by
  simp only [st_217_4, ST_217_4, m_v_215, hr4, mset_row, rset_self, rset_at, rset_rset, rset_ite, pr_ite, pr_mk, pr_rset, pr_1, pr_2, Int.reduceAdd]
def LP_217_4 (x1 : Int) : Nat → Int → Int → Row → Int
  | 0 => ST_217_4 x1 (fun _ _ w => 0)
  | n + 1 => ST_217_4 x1 (LP_217_4 x1 n)
theorem m_lp_217_4 {x1 : Int}   : ∀ (n : Nat) (y0 y1 : Int) (d : mD), lp_217_4 769 x1 n y0 y1 d = (LP_217_4 x1 n y0 y1 (d 770)) := by
  intro n
  induction n with
  | zero => intro y0 y1 d; exact m_st_217_4 (r4 := (fun _ _ d => 0)) (R4 := (fun _ _ w => 0)) (fun _ _ _ => rfl) d
  | succ n ih => intro y0 y1 d; exact m_st_217_4 ih d
def V_217 (x1 : Int) (w : Row) : Int := LP_217_4 x1 (200 - 0 : Int).toNat 0 0 w
theorem m_v_217 {x1 : Int} (d : mD) : v_217 769 x1 d = (V_217 x1 (d 770)) := by
  simp only [v_217, V_217, m_lp_217_4, mset_row, rset_self, rset_at, rset_rset, rset_ite, pr_ite, pr_mk, pr_rset, pr_1, pr_2, Int.reduceAdd]
def ST_218_41 (x1 : Int) (r41 : Int → Int → Int → Int → Row → Int × Row) (x2 x3 x4 x5 : Int) (w : Row) : Int × Row := if x5 < w ((452 + (24 * x1)) + 3) then (if x3 < w 5 then (if w 10 < 200 then (if V_216 x2 x5 w = 0 then r41 x2 (x3 + 1) (x4 + 1) (x5 + 1) (ws (ws (ws (ws (ws (ws w ((1916 + (5 * (w 10))) + 0) x2) ((1916 + (5 * (w 10))) + 1) x1) ((1916 + (5 * (w 10))) + 2) x5) ((1916 + (5 * (w 10))) + 3) 0) ((1916 + (5 * (w 10))) + 4) (w 0)) 10 ((w 10) + 1)) else r41 x2 x3 x4 (x5 + 1) w) else r41 x2 x3 x4 (x5 + 1) w) else r41 x2 x3 x4 (x5 + 1) w) else (x4, w)
theorem m_st_218_41 {x1 x2 x3 x4 x5 : Int} {r41 : Int → Int → Int → Int → mD → Int × mD} {R41 : Int → Int → Int → Int → Row → Int × Row} (hr41 : ∀ (z0 z1 z2 z3 : Int) (d : mD), r41 z0 z1 z2 z3 d = (pr d (R41 z0 z1 z2 z3 (d 770)))) (d : mD) : st_218_41 769 x1 r41 x2 x3 x4 x5 d = (pr d (ST_218_41 x1 R41 x2 x3 x4 x5 (d 770))) := by
  simp only [st_218_41, ST_218_41, m_v_216, hr41, mset_row, rset_self, rset_at, rset_rset, rset_ite, pr_ite, pr_mk, pr_rset, pr_1, pr_2, Int.reduceAdd]
def LP_218_41 (x1 : Int) : Nat → Int → Int → Int → Int → Row → Int × Row
  | 0 => ST_218_41 x1 (fun _ _ _ _ w => (0, w))
  | n + 1 => ST_218_41 x1 (LP_218_41 x1 n)
theorem m_lp_218_41 {x1 : Int}   : ∀ (n : Nat) (y0 y1 y2 y3 : Int) (d : mD), lp_218_41 769 x1 n y0 y1 y2 y3 d = (pr d (LP_218_41 x1 n y0 y1 y2 y3 (d 770))) := by
  intro n
  induction n with
  | zero => intro y0 y1 y2 y3 d; exact m_st_218_41 (r41 := (fun _ _ _ _ d => (0, d))) (R41 := (fun _ _ _ _ w => (0, w))) (fun _ _ _ _ d => by rw [pr_mk, rset_self]) d
  | succ n ih => intro y0 y1 y2 y3 d; exact m_st_218_41 ih d
def F_218 (x1 : Int) (w : Row) : Int × Row := LP_218_41 x1 (1301 - ((w ((452 + (24 * x1)) + 2)) + (w 2)) : Int).toNat (w ((452 + (24 * x1)) + 0)) (V_217 (w ((452 + (24 * x1)) + 0)) w) 0 ((w ((452 + (24 * x1)) + 2)) + (w 2)) w
theorem m_f_218 {x1 : Int} (d : mD) : f_218 769 x1 d = (pr d (F_218 x1 (d 770))) := by
  simp only [f_218, F_218, m_v_217, m_lp_218_41, mset_row, rset_self, rset_at, rset_rset, rset_ite, pr_ite, pr_mk, pr_rset, pr_1, pr_2, Int.reduceAdd]
def V_218 (x1 : Int) (w : Row) : Int := (F_218 x1 w).1
theorem m_v_218 {x1 : Int} (d : mD) : v_218 769 x1 d = (V_218 x1 (d 770)) := by
  simp only [v_218, V_218, m_f_218, mset_row, rset_self, rset_at, rset_rset, rset_ite, pr_ite, pr_mk, pr_rset, pr_1, pr_2, Int.reduceAdd]
def W_218 (x1 : Int) (w : Row) : Row := (F_218 x1 w).2
theorem m_g_218 {x1 : Int} (d : mD) : g_218 769 x1 d = (rset d (W_218 x1 (d 770))) := by
  simp only [g_218, W_218, m_f_218, mset_row, rset_self, rset_at, rset_rset, rset_ite, pr_ite, pr_mk, pr_rset, pr_1, pr_2, Int.reduceAdd]
def ST_219_106 (r2 : Int → Row → Int × Row) (r106 : Int → Int → Int → Row → Int × Row) (x1 x2 x3 : Int) (w : Row) : Int × Row := if x3 < w 11 then r106 x1 x2 (x3 + 1) (ws w (2916 + x3) (w ((2916 + x3) + 1))) else r2 (x1 + 1) w
theorem m_st_219_106 {x1 x2 x3 : Int} {r2 : Int → mD → Int × mD} {R2 : Int → Row → Int × Row} {r106 : Int → Int → Int → mD → Int × mD} {R106 : Int → Int → Int → Row → Int × Row} (hr2 : ∀ (z0 : Int) (d : mD), r2 z0 d = (pr d (R2 z0 (d 770)))) (hr106 : ∀ (z0 z1 z2 : Int) (d : mD), r106 z0 z1 z2 d = (pr d (R106 z0 z1 z2 (d 770)))) (d : mD) : st_219_106 769 r2 r106 x1 x2 x3 d = (pr d (ST_219_106 R2 R106 x1 x2 x3 (d 770))) := by
  simp only [st_219_106, ST_219_106, hr2, hr106, mset_row, rset_self, rset_at, rset_rset, rset_ite, pr_ite, pr_mk, pr_rset, pr_1, pr_2, Int.reduceAdd]
def LP_219_106 (r2 : Int → Row → Int × Row) : Nat → Int → Int → Int → Row → Int × Row
  | 0 => ST_219_106 r2 (fun _ _ _ w => (0, w))
  | n + 1 => ST_219_106 r2 (LP_219_106 r2 n)
theorem m_lp_219_106 {r2 : Int → mD → Int × mD} {R2 : Int → Row → Int × Row} (hr2 : ∀ (z0 : Int) (d : mD), r2 z0 d = (pr d (R2 z0 (d 770)))) : ∀ (n : Nat) (y0 y1 y2 : Int) (d : mD), lp_219_106 769 r2 n y0 y1 y2 d = (pr d (LP_219_106 R2 n y0 y1 y2 (d 770))) := by
  intro n
  induction n with
  | zero => intro y0 y1 y2 d; exact m_st_219_106 (r106 := (fun _ _ _ d => (0, d))) (R106 := (fun _ _ _ w => (0, w))) hr2 (fun _ _ _ d => by rw [pr_mk, rset_self]) d
  | succ n ih => intro y0 y1 y2 d; exact m_st_219_106 hr2 ih d
def ST_219_2 (r2 : Int → Row → Int × Row) (x1 : Int) (w : Row) : Int × Row := if (0 : Int) < w 11 then (if w 1 < w 6 then (x1, w) else LP_219_106 r2 (200 - 0 : Int).toNat x1 (1916 + (5 * (w 2916))) 0 (ws (ws (ws (ws w 1 ((w 1) - (w 6))) ((420 + (2 * (w ((1916 + (5 * (w 2916))) + 0)))) + 1) ((w ((420 + (2 * (w ((1916 + (5 * (w 2916))) + 0)))) + 1)) + (w 6))) ((1916 + (5 * (w 2916))) + 3) 2) 11 ((w 11) - 1))) else (x1, w)
theorem m_st_219_2 {x1 : Int} {r2 : Int → mD → Int × mD} {R2 : Int → Row → Int × Row} (hr2 : ∀ (z0 : Int) (d : mD), r2 z0 d = (pr d (R2 z0 (d 770)))) (d : mD) : st_219_2 769 r2 x1 d = (pr d (ST_219_2 R2 x1 (d 770))) := by
  simp only [st_219_2, ST_219_2, m_lp_219_106 hr2, hr2, mset_row, rset_self, rset_at, rset_rset, rset_ite, pr_ite, pr_mk, pr_rset, pr_1, pr_2, Int.reduceAdd]
def LP_219_2 : Nat → Int → Row → Int × Row
  | 0 => ST_219_2 (fun _ w => (0, w))
  | n + 1 => ST_219_2 (LP_219_2 n)
theorem m_lp_219_2   : ∀ (n : Nat) (y0 : Int) (d : mD), lp_219_2 769 n y0 d = (pr d (LP_219_2 n y0 (d 770))) := by
  intro n
  induction n with
  | zero => intro y0 d; exact m_st_219_2 (r2 := (fun _ d => (0, d))) (R2 := (fun _ w => (0, w))) (fun _ d => by rw [pr_mk, rset_self]) d
  | succ n ih => intro y0 d; exact m_st_219_2 ih d
def F_219 (w : Row) : Int × Row := LP_219_2 (w 11 : Int).toNat 0 w
theorem m_f_219 (d : mD) : f_219 769 d = (pr d (F_219 (d 770))) := by
  simp only [f_219, F_219, m_lp_219_2, mset_row, rset_self, rset_at, rset_rset, rset_ite, pr_ite, pr_mk, pr_rset, pr_1, pr_2, Int.reduceAdd]
def V_219 (w : Row) : Int := (F_219 w).1
theorem m_v_219 (d : mD) : v_219 769 d = (V_219 (d 770)) := by
  simp only [v_219, V_219, m_f_219, mset_row, rset_self, rset_at, rset_rset, rset_ite, pr_ite, pr_mk, pr_rset, pr_1, pr_2, Int.reduceAdd]
def W_219 (w : Row) : Row := (F_219 w).2
theorem m_g_219 (d : mD) : g_219 769 d = (rset d (W_219 (d 770))) := by
  simp only [g_219, W_219, m_f_219, mset_row, rset_self, rset_at, rset_rset, rset_ite, pr_ite, pr_mk, pr_rset, pr_1, pr_2, Int.reduceAdd]
def ST_220_20 (x1 x2 : Int) (r20 : Int → Int → Row → Row) (x3 x4 : Int) (w : Row) : Row := if x4 < w (x3 + 5) then r20 x3 (x4 + 1) (ws w ((x3 + 7) + x4) (w (((x3 + 7) + x4) + 1))) else w
theorem m_st_220_20 {x1 x2 x3 x4 : Int} {r20 : Int → Int → mD → mD} {R20 : Int → Int → Row → Row} (hr20 : ∀ (z0 z1 : Int) (d : mD), r20 z0 z1 d = (rset d (R20 z0 z1 (d 770)))) (d : mD) : st_220_20 769 x1 x2 r20 x3 x4 d = (rset d (ST_220_20 x1 x2 R20 x3 x4 (d 770))) := by
  simp only [st_220_20, ST_220_20, hr20, mset_row, rset_self, rset_at, rset_rset, rset_ite, pr_ite, pr_mk, pr_rset, pr_1, pr_2, Int.reduceAdd]
def LP_220_20 (x1 x2 : Int) : Nat → Int → Int → Row → Row
  | 0 => ST_220_20 x1 x2 (fun _ _ w => w)
  | n + 1 => ST_220_20 x1 x2 (LP_220_20 x1 x2 n)
theorem m_lp_220_20 {x1 x2 : Int}   : ∀ (n : Nat) (y0 y1 : Int) (d : mD), lp_220_20 769 x1 x2 n y0 y1 d = (rset d (LP_220_20 x1 x2 n y0 y1 (d 770))) := by
  intro n
  induction n with
  | zero => intro y0 y1 d; exact m_st_220_20 (r20 := (fun _ _ d => d)) (R20 := (fun _ _ w => w)) (fun _ _ d => (rset_self d).symm) d
  | succ n ih => intro y0 y1 d; exact m_st_220_20 ih d
def W_220 (x1 x2 : Int) (w : Row) : Row := LP_220_20 x1 x2 (61 - x2 : Int).toNat (12 + (68 * x1)) x2 (ws w ((12 + (68 * x1)) + 5) ((w ((12 + (68 * x1)) + 5)) - 1))
theorem m_g_220 {x1 x2 : Int} (d : mD) : g_220 769 x1 x2 d = (rset d (W_220 x1 x2 (d 770))) := by
  simp only [g_220, W_220, m_lp_220_20, mset_row, rset_self, rset_at, rset_rset, rset_ite, pr_ite, pr_mk, pr_rset, pr_1, pr_2, Int.reduceAdd]
def ST_221_17 (x1 : Int) (r17 : Int → Int → Row → Int) (x2 x3 : Int) (w : Row) : Int := if x3 < w (x2 + 5) then (if w ((x2 + 7) + x3) = x1 then x3 else r17 x2 (x3 + 1) w) else (-1)
theorem m_st_221_17 {x1 x2 x3 : Int} {r17 : Int → Int → mD → Int} {R17 : Int → Int → Row → Int} (hr17 : ∀ (z0 z1 : Int) (d : mD), r17 z0 z1 d = (R17 z0 z1 (d 770))) (d : mD) : st_221_17 769 x1 r17 x2 x3 d = (ST_221_17 x1 R17 x2 x3 (d 770)) := by
  simp only [st_221_17, ST_221_17, hr17, mset_row, rset_self, rset_at, rset_rset, rset_ite, pr_ite, pr_mk, pr_rset, pr_1, pr_2, Int.reduceAdd]
def LP_221_17 (x1 : Int) : Nat → Int → Int → Row → Int
  | 0 => ST_221_17 x1 (fun _ _ w => 0)
  | n + 1 => ST_221_17 x1 (LP_221_17 x1 n)
theorem m_lp_221_17 {x1 : Int}   : ∀ (n : Nat) (y0 y1 : Int) (d : mD), lp_221_17 769 x1 n y0 y1 d = (LP_221_17 x1 n y0 y1 (d 770)) := by
  intro n
  induction n with
  | zero => intro y0 y1 d; exact m_st_221_17 (r17 := (fun _ _ d => 0)) (R17 := (fun _ _ w => 0)) (fun _ _ _ => rfl) d
  | succ n ih => intro y0 y1 d; exact m_st_221_17 ih d
def V_221 (x1 : Int) (w : Row) : Int := LP_221_17 x1 (61 - 0 : Int).toNat (12 + (68 * (w ((452 + (24 * x1)) + 1)))) 0 w
theorem m_v_221 {x1 : Int} (d : mD) : v_221 769 x1 d = (V_221 x1 (d 770)) := by
  simp only [v_221, V_221, m_lp_221_17, mset_row, rset_self, rset_at, rset_rset, rset_ite, pr_ite, pr_mk, pr_rset, pr_1, pr_2, Int.reduceAdd]
def ST_222_7 (x1 : Int) (r7 : Int → Int → Row → Row) (x2 x3 : Int) (w : Row) : Row := if x3 < w (x2 + 1) then (if (0 : Int) < w (x2 + 5) then r7 x2 (x3 + 1) (W_220 x1 0 (ws (ws (ws w ((452 + (24 * (w (x2 + 7)))) + 4) 1) ((452 + (24 * (w (x2 + 7)))) + 3) (w 0)) (x2 + 6) ((w (x2 + 6)) + 1))) else w) else w
theorem m_st_222_7 {x1 x2 x3 : Int} {r7 : Int → Int → mD → mD} {R7 : Int → Int → Row → Row} (hr7 : ∀ (z0 z1 : Int) (d : mD), r7 z0 z1 d = (rset d (R7 z0 z1 (d 770)))) (d : mD) : st_222_7 769 x1 r7 x2 x3 d = (rset d (ST_222_7 x1 R7 x2 x3 (d 770))) := by
  simp only [st_222_7, ST_222_7, m_g_220, hr7, mset_row, rset_self, rset_at, rset_rset, rset_ite, pr_ite, pr_mk, pr_rset, pr_1, pr_2, Int.reduceAdd]
def LP_222_7 (x1 : Int) : Nat → Int → Int → Row → Row
  | 0 => ST_222_7 x1 (fun _ _ w => w)
  | n + 1 => ST_222_7 x1 (LP_222_7 x1 n)
theorem m_lp_222_7 {x1 : Int}   : ∀ (n : Nat) (y0 y1 : Int) (d : mD), lp_222_7 769 x1 n y0 y1 d = (rset d (LP_222_7 x1 n y0 y1 (d 770))) := by
  intro n
  induction n with
  | zero => intro y0 y1 d; exact m_st_222_7 (r7 := (fun _ _ d => d)) (R7 := (fun _ _ w => w)) (fun _ _ d => (rset_self d).symm) d
  | succ n ih => intro y0 y1 d; exact m_st_222_7 ih d
def W_222 (x1 : Int) (w : Row) : Row := LP_222_7 x1 (4 - 0 : Int).toNat (12 + (68 * x1)) 0 w
theorem m_g_222 {x1 : Int} (d : mD) : g_222 769 x1 d = (rset d (W_222 x1 (d 770))) := by
  simp only [g_222, W_222, m_lp_222_7, mset_row, rset_self, rset_at, rset_rset, rset_ite, pr_ite, pr_mk, pr_rset, pr_1, pr_2, Int.reduceAdd]
def V_230 (x1 x2 : Int) (w : Row) : Int := if w ((452 + (24 * x2)) + 2) < w ((452 + (24 * x1)) + 2) then (if V_212 x1 w < V_212 x2 w then (if w ((452 + (24 * x1)) + 2) < V_212 x1 w then (V_212 x1 w) - (w ((452 + (24 * x1)) + 2)) else 0) else if w ((452 + (24 * x1)) + 2) < V_212 x2 w then (V_212 x2 w) - (w ((452 + (24 * x1)) + 2)) else 0) else if V_212 x1 w < V_212 x2 w then (if w ((452 + (24 * x2)) + 2) < V_212 x1 w then (V_212 x1 w) - (w ((452 + (24 * x2)) + 2)) else 0) else if w ((452 + (24 * x2)) + 2) < V_212 x2 w then (V_212 x2 w) - (w ((452 + (24 * x2)) + 2)) else 0
theorem m_v_230 {x1 x2 : Int} (d : mD) : v_230 769 x1 x2 d = (V_230 x1 x2 (d 770)) := by
  simp only [v_230, V_230, m_v_212, mset_row, rset_self, rset_at, rset_rset, rset_ite, pr_ite, pr_mk, pr_rset, pr_1, pr_2, Int.reduceAdd]
def ST_231_5 (x1 x2 : Int) (r5 : Int → Int → Row → Int) (x3 x4 : Int) (w : Row) : Int := if x4 < w 9 then (if x4 = x1 then r5 x3 (x4 + 1) w else if w ((452 + (24 * x4)) + 0) = x2 then (if w ((452 + (24 * x4)) + 1) = w ((452 + (24 * x1)) + 1) then (if x3 < V_230 x1 x4 w then r5 (V_230 x1 x4 w) (x4 + 1) w else r5 x3 (x4 + 1) w) else r5 x3 (x4 + 1) w) else r5 x3 (x4 + 1) w) else x3
theorem m_st_231_5 {x1 x2 x3 x4 : Int} {r5 : Int → Int → mD → Int} {R5 : Int → Int → Row → Int} (hr5 : ∀ (z0 z1 : Int) (d : mD), r5 z0 z1 d = (R5 z0 z1 (d 770))) (d : mD) : st_231_5 769 x1 x2 r5 x3 x4 d = (ST_231_5 x1 x2 R5 x3 x4 (d 770)) := by
  simp only [st_231_5, ST_231_5, m_v_230, hr5, mset_row, rset_self, rset_at, rset_rset, rset_ite, pr_ite, pr_mk, pr_rset, pr_1, pr_2, Int.reduceAdd]
def LP_231_5 (x1 x2 : Int) : Nat → Int → Int → Row → Int
  | 0 => ST_231_5 x1 x2 (fun _ _ w => 0)
  | n + 1 => ST_231_5 x1 x2 (LP_231_5 x1 x2 n)
theorem m_lp_231_5 {x1 x2 : Int}   : ∀ (n : Nat) (y0 y1 : Int) (d : mD), lp_231_5 769 x1 x2 n y0 y1 d = (LP_231_5 x1 x2 n y0 y1 (d 770)) := by
  intro n
  induction n with
  | zero => intro y0 y1 d; exact m_st_231_5 (r5 := (fun _ _ d => 0)) (R5 := (fun _ _ w => 0)) (fun _ _ _ => rfl) d
  | succ n ih => intro y0 y1 d; exact m_st_231_5 ih d
def V_231 (x1 x2 : Int) (w : Row) : Int := LP_231_5 x1 x2 (61 - 0 : Int).toNat 0 0 w
theorem m_v_231 {x1 x2 : Int} (d : mD) : v_231 769 x1 x2 d = (V_231 x1 x2 (d 770)) := by
  simp only [v_231, V_231, m_lp_231_5, mset_row, rset_self, rset_at, rset_rset, rset_ite, pr_ite, pr_mk, pr_rset, pr_1, pr_2, Int.reduceAdd]
def V_232 (x1 x2 : Int) (w : Row) : Int := if (0 : Int) < w (((452 + (24 * x1)) + 8) + x2) then (if ((w (((452 + (24 * x1)) + 8) + x2)) - 1) / 20 = (w 0) / 20 then 1 else 0) else 0
theorem m_v_232 {x1 x2 : Int} (d : mD) : v_232 769 x1 x2 d = (V_232 x1 x2 (d 770)) := by
  simp only [v_232, V_232, mset_row, rset_self, rset_at, rset_rset, rset_ite, pr_ite, pr_mk, pr_rset, pr_1, pr_2, Int.reduceAdd]
def ST_233_4 (x1 : Int) (r4 : Int → Int → Row → Int) (x2 x3 : Int) (w : Row) : Int := if x3 < w 9 then (if V_232 x3 x1 w = 0 then r4 (x2 + 0) (x3 + 1) w else r4 (x2 + 1) (x3 + 1) w) else x2
theorem m_st_233_4 {x1 x2 x3 : Int} {r4 : Int → Int → mD → Int} {R4 : Int → Int → Row → Int} (hr4 : ∀ (z0 z1 : Int) (d : mD), r4 z0 z1 d = (R4 z0 z1 (d 770))) (d : mD) : st_233_4 769 x1 r4 x2 x3 d = (ST_233_4 x1 R4 x2 x3 (d 770)) := by
  simp only [st_233_4, ST_233_4, m_v_232, hr4, mset_row, rset_self, rset_at, rset_rset, rset_ite, pr_ite, pr_mk, pr_rset, pr_1, pr_2, Int.reduceAdd]
def LP_233_4 (x1 : Int) : Nat → Int → Int → Row → Int
  | 0 => ST_233_4 x1 (fun _ _ w => 0)
  | n + 1 => ST_233_4 x1 (LP_233_4 x1 n)
theorem m_lp_233_4 {x1 : Int}   : ∀ (n : Nat) (y0 y1 : Int) (d : mD), lp_233_4 769 x1 n y0 y1 d = (LP_233_4 x1 n y0 y1 (d 770)) := by
  intro n
  induction n with
  | zero => intro y0 y1 d; exact m_st_233_4 (r4 := (fun _ _ d => 0)) (R4 := (fun _ _ w => 0)) (fun _ _ _ => rfl) d
  | succ n ih => intro y0 y1 d; exact m_st_233_4 ih d
def V_233 (x1 : Int) (w : Row) : Int := LP_233_4 x1 (61 - 0 : Int).toNat 0 0 w
theorem m_v_233 {x1 : Int} (d : mD) : v_233 769 x1 d = (V_233 x1 (d 770)) := by
  simp only [v_233, V_233, m_lp_233_4, mset_row, rset_self, rset_at, rset_rset, rset_ite, pr_ite, pr_mk, pr_rset, pr_1, pr_2, Int.reduceAdd]
def ST_223_71 (r71 : Int → Row → Row) (x1 : Int) (w : Row) : Row := if x1 < w 9 then (if (w 0) % 20 = 0 then (if w ((452 + (24 * x1)) + 6) = 0 then r71 (x1 + 1) w else r71 (x1 + 1) (W_218 x1 w)) else W_219 w) else W_219 w
theorem m_st_223_71 {x1 : Int} {r71 : Int → mD → mD} {R71 : Int → Row → Row} (hr71 : ∀ (z0 : Int) (d : mD), r71 z0 d = (rset d (R71 z0 (d 770)))) (d : mD) : st_223_71 769 r71 x1 d = (rset d (ST_223_71 R71 x1 (d 770))) := by
  simp only [st_223_71, ST_223_71, m_g_218, m_g_219, hr71, mset_row, rset_self, rset_at, rset_rset, rset_ite, pr_ite, pr_mk, pr_rset, pr_1, pr_2, Int.reduceAdd]
def LP_223_71 : Nat → Int → Row → Row
  | 0 => ST_223_71 (fun _ w => w)
  | n + 1 => ST_223_71 (LP_223_71 n)
theorem m_lp_223_71   : ∀ (n : Nat) (y0 : Int) (d : mD), lp_223_71 769 n y0 d = (rset d (LP_223_71 n y0 (d 770))) := by
  intro n
  induction n with
  | zero => intro y0 d; exact m_st_223_71 (r71 := (fun _ d => d)) (R71 := (fun _ w => w)) (fun _ d => (rset_self d).symm) d
  | succ n ih => intro y0 d; exact m_st_223_71 ih d
def ST_223_12 (r12 : Int → Row → Row) (x1 : Int) (w : Row) : Row := if x1 < w 7 then (if w ((12 + (68 * x1)) + 4) = 0 then r12 (x1 + 1) w else if (w 0) % (w ((12 + (68 * x1)) + 2)) = 0 then r12 (x1 + 1) (W_222 x1 w) else r12 (x1 + 1) w) else LP_223_71 (61 - 0 : Int).toNat 0 w
theorem m_st_223_12 {x1 : Int} {r12 : Int → mD → mD} {R12 : Int → Row → Row} (hr12 : ∀ (z0 : Int) (d : mD), r12 z0 d = (rset d (R12 z0 (d 770)))) (d : mD) : st_223_12 769 r12 x1 d = (rset d (ST_223_12 R12 x1 (d 770))) := by
  simp only [st_223_12, ST_223_12, m_g_222, m_lp_223_71, hr12, mset_row, rset_self, rset_at, rset_rset, rset_ite, pr_ite, pr_mk, pr_rset, pr_1, pr_2, Int.reduceAdd]
def LP_223_12 : Nat → Int → Row → Row
  | 0 => ST_223_12 (fun _ w => w)
  | n + 1 => ST_223_12 (LP_223_12 n)
theorem m_lp_223_12   : ∀ (n : Nat) (y0 : Int) (d : mD), lp_223_12 769 n y0 d = (rset d (LP_223_12 n y0 (d 770))) := by
  intro n
  induction n with
  | zero => intro y0 d; exact m_st_223_12 (r12 := (fun _ d => d)) (R12 := (fun _ w => w)) (fun _ d => (rset_self d).symm) d
  | succ n ih => intro y0 d; exact m_st_223_12 ih d
def W_223 (w : Row) : Row := LP_223_12 (6 - 0 : Int).toNat 0 (ws w 0 ((w 0) + 1))
theorem m_g_223 (d : mD) : g_223 769 d = (rset d (W_223 (d 770))) := by
  simp only [g_223, W_223, m_lp_223_12, mset_row, rset_self, rset_at, rset_rset, rset_ite, pr_ite, pr_mk, pr_rset, pr_1, pr_2, Int.reduceAdd]
def ST_224_17 (x1 x2 : Int) (r17 : Int → Int → Int → Row → Int × Row) (x3 x4 x5 : Int) (w : Row) : Int × Row := if x5 < 24 then r17 x3 x4 (x5 + 1) (ws w (x4 + x5) 0) else (x3, ws (ws (ws (ws (ws (ws (ws w (x4 + 0) x1) (x4 + 1) x2) (x4 + 2) (w 0)) (x4 + 3) ((-1))) (((12 + (68 * x2)) + 7) + (w ((12 + (68 * x2)) + 5))) x3) ((12 + (68 * x2)) + 5) ((w ((12 + (68 * x2)) + 5)) + 1)) 9 ((w 9) + 1))
theorem m_st_224_17 {x1 x2 x3 x4 x5 : Int} {r17 : Int → Int → Int → mD → Int × mD} {R17 : Int → Int → Int → Row → Int × Row} (hr17 : ∀ (z0 z1 z2 : Int) (d : mD), r17 z0 z1 z2 d = (pr d (R17 z0 z1 z2 (d 770)))) (d : mD) : st_224_17 769 x1 x2 r17 x3 x4 x5 d = (pr d (ST_224_17 x1 x2 R17 x3 x4 x5 (d 770))) := by
  simp only [st_224_17, ST_224_17, hr17, mset_row, rset_self, rset_at, rset_rset, rset_ite, pr_ite, pr_mk, pr_rset, pr_1, pr_2, Int.reduceAdd]
def LP_224_17 (x1 x2 : Int) : Nat → Int → Int → Int → Row → Int × Row
  | 0 => ST_224_17 x1 x2 (fun _ _ _ w => (0, w))
  | n + 1 => ST_224_17 x1 x2 (LP_224_17 x1 x2 n)
theorem m_lp_224_17 {x1 x2 : Int}   : ∀ (n : Nat) (y0 y1 y2 : Int) (d : mD), lp_224_17 769 x1 x2 n y0 y1 y2 d = (pr d (LP_224_17 x1 x2 n y0 y1 y2 (d 770))) := by
  intro n
  induction n with
  | zero => intro y0 y1 y2 d; exact m_st_224_17 (r17 := (fun _ _ _ d => (0, d))) (R17 := (fun _ _ _ w => (0, w))) (fun _ _ _ d => by rw [pr_mk, rset_self]) d
  | succ n ih => intro y0 y1 y2 d; exact m_st_224_17 ih d
def F_224 (x1 x2 : Int) (w : Row) : Int × Row := LP_224_17 x1 x2 (24 - 0 : Int).toNat (w 9) (452 + (24 * (w 9))) 0 w
theorem m_f_224 {x1 x2 : Int} (d : mD) : f_224 769 x1 x2 d = (pr d (F_224 x1 x2 (d 770))) := by
  simp only [f_224, F_224, m_lp_224_17, mset_row, rset_self, rset_at, rset_rset, rset_ite, pr_ite, pr_mk, pr_rset, pr_1, pr_2, Int.reduceAdd]
def V_224 (x1 x2 : Int) (w : Row) : Int := (F_224 x1 x2 w).1
theorem m_v_224 {x1 x2 : Int} (d : mD) : v_224 769 x1 x2 d = (V_224 x1 x2 (d 770)) := by
  simp only [v_224, V_224, m_f_224, mset_row, rset_self, rset_at, rset_rset, rset_ite, pr_ite, pr_mk, pr_rset, pr_1, pr_2, Int.reduceAdd]
def W_224 (x1 x2 : Int) (w : Row) : Row := (F_224 x1 x2 w).2
theorem m_g_224 {x1 x2 : Int} (d : mD) : g_224 769 x1 x2 d = (rset d (W_224 x1 x2 (d 770))) := by
  simp only [g_224, W_224, m_f_224, mset_row, rset_self, rset_at, rset_rset, rset_ite, pr_ite, pr_mk, pr_rset, pr_1, pr_2, Int.reduceAdd]
def ST_225_57 (x1 x2 : Int) (r57 : Int → Int → Int → Row → Int) (x3 x4 x5 : Int) (w : Row) : Int := if x5 < w (x3 + 5) then (if w ((452 + (24 * (w ((x3 + 7) + x5)))) + 0) = x1 then r57 x3 (miand x4 0) (x5 + 1) w else r57 x3 (miand x4 1) (x5 + 1) w) else x4
theorem m_st_225_57 {x1 x2 x3 x4 x5 : Int} {r57 : Int → Int → Int → mD → Int} {R57 : Int → Int → Int → Row → Int} (hr57 : ∀ (z0 z1 z2 : Int) (d : mD), r57 z0 z1 z2 d = (R57 z0 z1 z2 (d 770))) (d : mD) : st_225_57 769 x1 x2 r57 x3 x4 x5 d = (ST_225_57 x1 x2 R57 x3 x4 x5 (d 770)) := by
  simp only [st_225_57, ST_225_57, hr57, mset_row, rset_self, rset_at, rset_rset, rset_ite, pr_ite, pr_mk, pr_rset, pr_1, pr_2, Int.reduceAdd]
def LP_225_57 (x1 x2 : Int) : Nat → Int → Int → Int → Row → Int
  | 0 => ST_225_57 x1 x2 (fun _ _ _ w => 0)
  | n + 1 => ST_225_57 x1 x2 (LP_225_57 x1 x2 n)
theorem m_lp_225_57 {x1 x2 : Int}   : ∀ (n : Nat) (y0 y1 y2 : Int) (d : mD), lp_225_57 769 x1 x2 n y0 y1 y2 d = (LP_225_57 x1 x2 n y0 y1 y2 (d 770)) := by
  intro n
  induction n with
  | zero => intro y0 y1 y2 d; exact m_st_225_57 (r57 := (fun _ _ _ d => 0)) (R57 := (fun _ _ _ w => 0)) (fun _ _ _ _ => rfl) d
  | succ n ih => intro y0 y1 y2 d; exact m_st_225_57 ih d
def V_225 (x1 x2 : Int) (w : Row) : Int := if w 9 < 60 then (if w ((12 + (68 * x2)) + 4) = 0 then LP_225_57 x1 x2 (61 - 0 : Int).toNat (12 + (68 * x2)) 0 0 w else if w ((12 + (68 * x2)) + 5) < w ((12 + (68 * x2)) + 3) then LP_225_57 x1 x2 (61 - 0 : Int).toNat (12 + (68 * x2)) 1 0 w else LP_225_57 x1 x2 (61 - 0 : Int).toNat (12 + (68 * x2)) 0 0 w) else LP_225_57 x1 x2 (61 - 0 : Int).toNat (12 + (68 * x2)) 0 0 w
theorem m_v_225 {x1 x2 : Int} (d : mD) : v_225 769 x1 x2 d = (V_225 x1 x2 (d 770)) := by
  simp only [v_225, V_225, m_lp_225_57, mset_row, rset_self, rset_at, rset_rset, rset_ite, pr_ite, pr_mk, pr_rset, pr_1, pr_2, Int.reduceAdd]
def V_226 (x1 x2 : Int) (w : Row) : Int := V_224 x1 x2 w
theorem m_v_226 {x1 x2 : Int} (d : mD) : v_226 769 x1 x2 d = (V_226 x1 x2 (d 770)) := by
  simp only [v_226, V_226, m_v_224, mset_row, rset_self, rset_at, rset_rset, rset_ite, pr_ite, pr_mk, pr_rset, pr_1, pr_2, Int.reduceAdd]
def W_226 (x1 x2 : Int) (w : Row) : Row := W_224 x1 x2 w
theorem m_g_226 {x1 x2 : Int} (d : mD) : g_226 769 x1 x2 d = (rset d (W_226 x1 x2 (d 770))) := by
  simp only [g_226, W_226, m_g_224, mset_row, rset_self, rset_at, rset_rset, rset_ite, pr_ite, pr_mk, pr_rset, pr_1, pr_2, Int.reduceAdd]
def V_227 (x1 : Int) (w : Row) : Int := if w ((452 + (24 * x1)) + 4) = 1 then (if w ((452 + (24 * x1)) + 5) = 0 then 1 else 0) else 0
theorem m_v_227 {x1 : Int} (d : mD) : v_227 769 x1 d = (V_227 x1 (d 770)) := by
  simp only [v_227, V_227, mset_row, rset_self, rset_at, rset_rset, rset_ite, pr_ite, pr_mk, pr_rset, pr_1, pr_2, Int.reduceAdd]
def V_228 (x1 : Int) (w : Row) : Int := if (0 : Int) < w 3 then 0 else V_218 x1 (ws (ws w ((452 + (24 * x1)) + 5) 1) ((452 + (24 * x1)) + 6) 1)
theorem m_v_228 {x1 : Int} (d : mD) : v_228 769 x1 d = (V_228 x1 (d 770)) := by
  simp only [v_228, V_228, m_v_218, mset_row, rset_self, rset_at, rset_rset, rset_ite, pr_ite, pr_mk, pr_rset, pr_1, pr_2, Int.reduceAdd]
def W_228 (x1 : Int) (w : Row) : Row := if (0 : Int) < w 3 then ws w ((452 + (24 * x1)) + 5) 1 else W_218 x1 (ws (ws w ((452 + (24 * x1)) + 5) 1) ((452 + (24 * x1)) + 6) 1)
theorem m_g_228 {x1 : Int} (d : mD) : g_228 769 x1 d = (rset d (W_228 x1 (d 770))) := by
  simp only [g_228, W_228, m_g_218, mset_row, rset_self, rset_at, rset_rset, rset_ite, pr_ite, pr_mk, pr_rset, pr_1, pr_2, Int.reduceAdd]
def V_235 (x1 x2 : Int) (w : Row) : Int := if (w ((452 + (24 * x1)) + 7)) + 1 < w 3 then 0 else V_218 x1 (ws (ws (ws w (((452 + (24 * x1)) + 8) + x2) ((w 0) + 1)) ((452 + (24 * x1)) + 7) ((w ((452 + (24 * x1)) + 7)) + 1)) ((452 + (24 * x1)) + 6) 1)
theorem m_v_235 {x1 x2 : Int} (d : mD) : v_235 769 x1 x2 d = (V_235 x1 x2 (d 770)) := by
  simp only [v_235, V_235, m_v_218, mset_row, rset_self, rset_at, rset_rset, rset_ite, pr_ite, pr_mk, pr_rset, pr_1, pr_2, Int.reduceAdd]
def W_235 (x1 x2 : Int) (w : Row) : Row := if (w ((452 + (24 * x1)) + 7)) + 1 < w 3 then ws (ws w (((452 + (24 * x1)) + 8) + x2) ((w 0) + 1)) ((452 + (24 * x1)) + 7) ((w ((452 + (24 * x1)) + 7)) + 1) else W_218 x1 (ws (ws (ws w (((452 + (24 * x1)) + 8) + x2) ((w 0) + 1)) ((452 + (24 * x1)) + 7) ((w ((452 + (24 * x1)) + 7)) + 1)) ((452 + (24 * x1)) + 6) 1)
theorem m_g_235 {x1 x2 : Int} (d : mD) : g_235 769 x1 x2 d = (rset d (W_235 x1 x2 (d 770))) := by
  simp only [g_235, W_235, m_g_218, mset_row, rset_self, rset_at, rset_rset, rset_ite, pr_ite, pr_mk, pr_rset, pr_1, pr_2, Int.reduceAdd]
def ST_234_97 (x1 x2 : Int) (r97 : Int → Int → Int → Row → Int) (x3 x4 x5 : Int) (w : Row) : Int := if x5 < w 9 then (if w ((452 + (24 * x5)) + 0) = x2 then (if V_232 x5 (w (x3 + 0)) w = 0 then r97 x3 (mior x4 0) (x5 + 1) w else r97 x3 (mior x4 1) (x5 + 1) w) else r97 x3 (mior x4 0) (x5 + 1) w) else if x4 = 0 then 0 else 7
theorem m_st_234_97 {x1 x2 x3 x4 x5 : Int} {r97 : Int → Int → Int → mD → Int} {R97 : Int → Int → Int → Row → Int} (hr97 : ∀ (z0 z1 z2 : Int) (d : mD), r97 z0 z1 z2 d = (R97 z0 z1 z2 (d 770))) (d : mD) : st_234_97 769 x1 x2 r97 x3 x4 x5 d = (ST_234_97 x1 x2 R97 x3 x4 x5 (d 770)) := by
  simp only [st_234_97, ST_234_97, m_v_232, hr97, mset_row, rset_self, rset_at, rset_rset, rset_ite, pr_ite, pr_mk, pr_rset, pr_1, pr_2, Int.reduceAdd]
def LP_234_97 (x1 x2 : Int) : Nat → Int → Int → Int → Row → Int
  | 0 => ST_234_97 x1 x2 (fun _ _ _ w => 0)
  | n + 1 => ST_234_97 x1 x2 (LP_234_97 x1 x2 n)
theorem m_lp_234_97 {x1 x2 : Int}   : ∀ (n : Nat) (y0 y1 y2 : Int) (d : mD), lp_234_97 769 x1 x2 n y0 y1 y2 d = (LP_234_97 x1 x2 n y0 y1 y2 (d 770)) := by
  intro n
  induction n with
  | zero => intro y0 y1 y2 d; exact m_st_234_97 (r97 := (fun _ _ _ d => 0)) (R97 := (fun _ _ _ w => 0)) (fun _ _ _ _ => rfl) d
  | succ n ih => intro y0 y1 y2 d; exact m_st_234_97 ih d
def V_234 (x1 x2 : Int) (w : Row) : Int := if w ((452 + (24 * x1)) + 5) = 0 then 1 else if w ((452 + (24 * x1)) + 6) = 0 then (if w ((452 + (24 * x1)) + 0) = x2 then 3 else if w (((452 + (24 * x1)) + 8) + x2) = 0 then (if V_231 x1 x2 w < w 4 then 5 else if V_233 x2 w < 3 then LP_234_97 x1 x2 (61 - 0 : Int).toNat (452 + (24 * x1)) 0 0 w else 6) else 4) else 2
theorem m_v_234 {x1 x2 : Int} (d : mD) : v_234 769 x1 x2 d = (V_234 x1 x2 (d 770)) := by
  simp only [v_234, V_234, m_v_231, m_v_233, m_lp_234_97, mset_row, rset_self, rset_at, rset_rset, rset_ite, pr_ite, pr_mk, pr_rset, pr_1, pr_2, Int.reduceAdd]
def V_236 (x1 : Int) (w : Row) : Int := V_176 x1 0 ((w 7) - 1) w
theorem m_v_236 {x1 : Int} (d : mD) : v_236 769 x1 d = (V_236 x1 (d 770)) := by
  simp only [v_236, V_236, m_v_176, mset_row, rset_self, rset_at, rset_rset, rset_ite, pr_ite, pr_mk, pr_rset, pr_1, pr_2, Int.reduceAdd]
def V_237 (x1 : Int) (w : Row) : Int := V_176 x1 0 ((w 8) - 1) w
theorem m_v_237 {x1 : Int} (d : mD) : v_237 769 x1 d = (V_237 x1 (d 770)) := by
  simp only [v_237, V_237, m_v_176, mset_row, rset_self, rset_at, rset_rset, rset_ite, pr_ite, pr_mk, pr_rset, pr_1, pr_2, Int.reduceAdd]
def V_238 (x1 : Int) (w : Row) : Int := V_176 x1 0 ((w 9) - 1) w
theorem m_v_238 {x1 : Int} (d : mD) : v_238 769 x1 d = (V_238 x1 (d 770)) := by
  simp only [v_238, V_238, m_v_176, mset_row, rset_self, rset_at, rset_rset, rset_ite, pr_ite, pr_mk, pr_rset, pr_1, pr_2, Int.reduceAdd]
def ST_229_237 (x1 x2 : Int) (r199 : Int → Int → Int → Row → Row) (r237 : Int → Int → Int → Int → Int → Int → Row → Row) (x3 x4 x5 x6 x7 x8 : Int) (w : Row) : Row := if x8 < x5 then (if w ((452 + (24 * (w ((x4 + 7) + x8)))) + 0) = w (x6 + 0) then r237 x3 x4 x5 x6 (mior x7 1) (x8 + 1) w else r237 x3 x4 x5 x6 (mior x7 0) (x8 + 1) w) else if x7 = 0 then r199 x3 x4 (x5 + 1) w else r199 x3 x4 x5 (W_220 x2 x5 (ws (ws w (x6 + 4) 2) (x6 + 3) (w 0)))
theorem m_st_229_237 {x1 x2 x3 x4 x5 x6 x7 x8 : Int} {r199 : Int → Int → Int → mD → mD} {R199 : Int → Int → Int → Row → Row} {r237 : Int → Int → Int → Int → Int → Int → mD → mD} {R237 : Int → Int → Int → Int → Int → Int → Row → Row} (hr199 : ∀ (z0 z1 z2 : Int) (d : mD), r199 z0 z1 z2 d = (rset d (R199 z0 z1 z2 (d 770)))) (hr237 : ∀ (z0 z1 z2 z3 z4 z5 : Int) (d : mD), r237 z0 z1 z2 z3 z4 z5 d = (rset d (R237 z0 z1 z2 z3 z4 z5 (d 770)))) (d : mD) : st_229_237 769 x1 x2 r199 r237 x3 x4 x5 x6 x7 x8 d = (rset d (ST_229_237 x1 x2 R199 R237 x3 x4 x5 x6 x7 x8 (d 770))) := by
  simp only [st_229_237, ST_229_237, m_g_220, hr199, hr237, mset_row, rset_self, rset_at, rset_rset, rset_ite, pr_ite, pr_mk, pr_rset, pr_1, pr_2, Int.reduceAdd]
def LP_229_237 (x1 x2 : Int) (r199 : Int → Int → Int → Row → Row) : Nat → Int → Int → Int → Int → Int → Int → Row → Row
  | 0 => ST_229_237 x1 x2 r199 (fun _ _ _ _ _ _ w => w)
  | n + 1 => ST_229_237 x1 x2 r199 (LP_229_237 x1 x2 r199 n)
theorem m_lp_229_237 {x1 x2 : Int} {r199 : Int → Int → Int → mD → mD} {R199 : Int → Int → Int → Row → Row} (hr199 : ∀ (z0 z1 z2 : Int) (d : mD), r199 z0 z1 z2 d = (rset d (R199 z0 z1 z2 (d 770)))) : ∀ (n : Nat) (y0 y1 y2 y3 y4 y5 : Int) (d : mD), lp_229_237 769 x1 x2 r199 n y0 y1 y2 y3 y4 y5 d = (rset d (LP_229_237 x1 x2 R199 n y0 y1 y2 y3 y4 y5 (d 770))) := by
  intro n
  induction n with
  | zero => intro y0 y1 y2 y3 y4 y5 d; exact m_st_229_237 (r237 := (fun _ _ _ _ _ _ d => d)) (R237 := (fun _ _ _ _ _ _ w => w)) hr199 (fun _ _ _ _ _ _ d => (rset_self d).symm) d
  | succ n ih => intro y0 y1 y2 y3 y4 y5 d; exact m_st_229_237 hr199 ih d
def ST_229_199 (x1 x2 : Int) (r199 : Int → Int → Int → Row → Row) (x3 x4 x5 : Int) (w : Row) : Row := if x5 < w (x4 + 5) then LP_229_237 x1 x2 r199 (x5 - 0 : Int).toNat x3 x4 x5 (452 + (24 * (w ((x4 + 7) + x5)))) 0 0 w else w
theorem m_st_229_199 {x1 x2 x3 x4 x5 : Int} {r199 : Int → Int → Int → mD → mD} {R199 : Int → Int → Int → Row → Row} (hr199 : ∀ (z0 z1 z2 : Int) (d : mD), r199 z0 z1 z2 d = (rset d (R199 z0 z1 z2 (d 770)))) (d : mD) : st_229_199 769 x1 x2 r199 x3 x4 x5 d = (rset d (ST_229_199 x1 x2 R199 x3 x4 x5 (d 770))) := by
  simp only [st_229_199, ST_229_199, m_lp_229_237 hr199, hr199, mset_row, rset_self, rset_at, rset_rset, rset_ite, pr_ite, pr_mk, pr_rset, pr_1, pr_2, Int.reduceAdd]
def LP_229_199 (x1 x2 : Int) : Nat → Int → Int → Int → Row → Row
  | 0 => ST_229_199 x1 x2 (fun _ _ _ w => w)
  | n + 1 => ST_229_199 x1 x2 (LP_229_199 x1 x2 n)
theorem m_lp_229_199 {x1 x2 : Int}   : ∀ (n : Nat) (y0 y1 y2 : Int) (d : mD), lp_229_199 769 x1 x2 n y0 y1 y2 d = (rset d (LP_229_199 x1 x2 n y0 y1 y2 (d 770))) := by
  intro n
  induction n with
  | zero => intro y0 y1 y2 d; exact m_st_229_199 (r199 := (fun _ _ _ d => d)) (R199 := (fun _ _ _ w => w)) (fun _ _ _ d => (rset_self d).symm) d
  | succ n ih => intro y0 y1 y2 d; exact m_st_229_199 ih d
def ST_229_61 (x1 x2 : Int) (r23 : Int → Int → Int → Row → Row) (r61 : Int → Int → Int → Int → Int → Row → Row) (x3 x4 x5 x6 x7 : Int) (w : Row) : Row := if (0 : Int) < x7 then (if w ((452 + (24 * x6)) + 2) < w ((452 + (24 * (w (((x4 + 7) + x7) - 1)))) + 2) then r61 x3 x4 x5 x6 (x7 + (-1)) (ws w ((x4 + 7) + x7) (w (((x4 + 7) + x7) - 1))) else r23 x3 x4 (x5 + 1) (ws (ws (ws w ((x4 + 7) + x7) x6) (x4 + 5) ((w (x4 + 5)) + 1)) ((452 + (24 * x6)) + 1) x2)) else r23 x3 x4 (x5 + 1) (ws (ws (ws w ((x4 + 7) + x7) x6) (x4 + 5) ((w (x4 + 5)) + 1)) ((452 + (24 * x6)) + 1) x2)
theorem m_st_229_61 {x1 x2 x3 x4 x5 x6 x7 : Int} {r23 : Int → Int → Int → mD → mD} {R23 : Int → Int → Int → Row → Row} {r61 : Int → Int → Int → Int → Int → mD → mD} {R61 : Int → Int → Int → Int → Int → Row → Row} (hr23 : ∀ (z0 z1 z2 : Int) (d : mD), r23 z0 z1 z2 d = (rset d (R23 z0 z1 z2 (d 770)))) (hr61 : ∀ (z0 z1 z2 z3 z4 : Int) (d : mD), r61 z0 z1 z2 z3 z4 d = (rset d (R61 z0 z1 z2 z3 z4 (d 770)))) (d : mD) : st_229_61 769 x1 x2 r23 r61 x3 x4 x5 x6 x7 d = (rset d (ST_229_61 x1 x2 R23 R61 x3 x4 x5 x6 x7 (d 770))) := by
  simp only [st_229_61, ST_229_61, hr23, hr61, mset_row, rset_self, rset_at, rset_rset, rset_ite, pr_ite, pr_mk, pr_rset, pr_1, pr_2, Int.reduceAdd]
def LP_229_61 (x1 x2 : Int) (r23 : Int → Int → Int → Row → Row) : Nat → Int → Int → Int → Int → Int → Row → Row
  | 0 => ST_229_61 x1 x2 r23 (fun _ _ _ _ _ w => w)
  | n + 1 => ST_229_61 x1 x2 r23 (LP_229_61 x1 x2 r23 n)
theorem m_lp_229_61 {x1 x2 : Int} {r23 : Int → Int → Int → mD → mD} {R23 : Int → Int → Int → Row → Row} (hr23 : ∀ (z0 z1 z2 : Int) (d : mD), r23 z0 z1 z2 d = (rset d (R23 z0 z1 z2 (d 770)))) : ∀ (n : Nat) (y0 y1 y2 y3 y4 : Int) (d : mD), lp_229_61 769 x1 x2 r23 n y0 y1 y2 y3 y4 d = (rset d (LP_229_61 x1 x2 R23 n y0 y1 y2 y3 y4 (d 770))) := by
  intro n
  induction n with
  | zero => intro y0 y1 y2 y3 y4 d; exact m_st_229_61 (r61 := (fun _ _ _ _ _ d => d)) (R61 := (fun _ _ _ _ _ w => w)) hr23 (fun _ _ _ _ _ d => (rset_self d).symm) d
  | succ n ih => intro y0 y1 y2 y3 y4 d; exact m_st_229_61 hr23 ih d
def ST_229_23 (x1 x2 : Int) (r23 : Int → Int → Int → Row → Row) (x3 x4 x5 : Int) (w : Row) : Row := if x5 < w (x3 + 5) then LP_229_61 x1 x2 r23 ((w (x4 + 5)) : Int).toNat x3 x4 x5 (w ((x3 + 7) + x5)) (w (x4 + 5)) w else LP_229_199 x1 x2 ((ws w (x3 + 5) 0) (12 + 68 * x2 + 5) - 0 : Int).toNat x3 x4 0 (ws w (x3 + 5) 0)
theorem m_st_229_23 {x1 x2 x3 x4 x5 : Int} {r23 : Int → Int → Int → mD → mD} {R23 : Int → Int → Int → Row → Row} (hr23 : ∀ (z0 z1 z2 : Int) (d : mD), r23 z0 z1 z2 d = (rset d (R23 z0 z1 z2 (d 770)))) (d : mD) : st_229_23 769 x1 x2 r23 x3 x4 x5 d = (rset d (ST_229_23 x1 x2 R23 x3 x4 x5 (d 770))) := by
  simp only [st_229_23, ST_229_23, m_lp_229_199, m_lp_229_61 hr23, hr23, mset_row, rset_self, rset_at, rset_rset, rset_ite, pr_ite, pr_mk, pr_rset, pr_1, pr_2, Int.reduceAdd]
def LP_229_23 (x1 x2 : Int) : Nat → Int → Int → Int → Row → Row
  | 0 => ST_229_23 x1 x2 (fun _ _ _ w => w)
  | n + 1 => ST_229_23 x1 x2 (LP_229_23 x1 x2 n)
theorem m_lp_229_23 {x1 x2 : Int}   : ∀ (n : Nat) (y0 y1 y2 : Int) (d : mD), lp_229_23 769 x1 x2 n y0 y1 y2 d = (rset d (LP_229_23 x1 x2 n y0 y1 y2 (d 770))) := by
  intro n
  induction n with
  | zero => intro y0 y1 y2 d; exact m_st_229_23 (r23 := (fun _ _ _ d => d)) (R23 := (fun _ _ _ w => w)) (fun _ _ _ d => (rset_self d).symm) d
  | succ n ih => intro y0 y1 y2 d; exact m_st_229_23 ih d
def W_229 (x1 x2 : Int) (w : Row) : Row := LP_229_23 x1 x2 (61 - 0 : Int).toNat (12 + (68 * x1)) (12 + (68 * x2)) 0 (ws w ((12 + (68 * x1)) + 4) 0)
theorem m_g_229 {x1 x2 : Int} (d : mD) : g_229 769 x1 x2 d = (rset d (W_229 x1 x2 (d 770))) := by
  simp only [g_229, W_229, m_lp_229_23, mset_row, rset_self, rset_at, rset_rset, rset_ite, pr_ite, pr_mk, pr_rset, pr_1, pr_2, Int.reduceAdd]
def ST_243_2 (x1 x2 : Int) (r2 : Int → Row → Int) (x3 : Int) (w : Row) : Int := if x3 < w 9 then (if w ((452 + (24 * x3)) + 0) = x1 then (if w ((452 + (24 * x3)) + 4) = 1 then (if V_214 x3 x2 w = 0 then r2 (x3 + 1) w else 1) else r2 (x3 + 1) w) else r2 (x3 + 1) w) else 0
theorem m_st_243_2 {x1 x2 x3 : Int} {r2 : Int → mD → Int} {R2 : Int → Row → Int} (hr2 : ∀ (z0 : Int) (d : mD), r2 z0 d = (R2 z0 (d 770))) (d : mD) : st_243_2 769 x1 x2 r2 x3 d = (ST_243_2 x1 x2 R2 x3 (d 770)) := by
  simp only [st_243_2, ST_243_2, m_v_214, hr2, mset_row, rset_self, rset_at, rset_rset, rset_ite, pr_ite, pr_mk, pr_rset, pr_1, pr_2, Int.reduceAdd]
def LP_243_2 (x1 x2 : Int) : Nat → Int → Row → Int
  | 0 => ST_243_2 x1 x2 (fun _ w => 0)
  | n + 1 => ST_243_2 x1 x2 (LP_243_2 x1 x2 n)
theorem m_lp_243_2 {x1 x2 : Int}   : ∀ (n : Nat) (y0 : Int) (d : mD), lp_243_2 769 x1 x2 n y0 d = (LP_243_2 x1 x2 n y0 (d 770)) := by
  intro n
  induction n with
  | zero => intro y0 d; exact m_st_243_2 (r2 := (fun _ d => 0)) (R2 := (fun _ w => 0)) (fun _ _ => rfl) d
  | succ n ih => intro y0 d; exact m_st_243_2 ih d
def V_243 (x1 x2 : Int) (w : Row) : Int := LP_243_2 x1 x2 (61 - 0 : Int).toNat 0 w
theorem m_v_243 {x1 x2 : Int} (d : mD) : v_243 769 x1 x2 d = (V_243 x1 x2 (d 770)) := by
  simp only [v_243, V_243, m_lp_243_2, mset_row, rset_self, rset_at, rset_rset, rset_ite, pr_ite, pr_mk, pr_rset, pr_1, pr_2, Int.reduceAdd]
def ST_244_5 (x1 x2 : Int) (r5 : Int → Int → Row → Int) (x3 x4 : Int) (w : Row) : Int := if x4 < w 0 then (if V_243 x1 x4 w = 0 then r5 (x3 + 0) (x4 + 1) w else if x2 = 0 then r5 (x3 + 1) (x4 + 1) w else if V_216 x1 x4 w = 0 then r5 (x3 + 1) (x4 + 1) w else r5 (x3 + 0) (x4 + 1) w) else x3
theorem m_st_244_5 {x1 x2 x3 x4 : Int} {r5 : Int → Int → mD → Int} {R5 : Int → Int → Row → Int} (hr5 : ∀ (z0 z1 : Int) (d : mD), r5 z0 z1 d = (R5 z0 z1 (d 770))) (d : mD) : st_244_5 769 x1 x2 r5 x3 x4 d = (ST_244_5 x1 x2 R5 x3 x4 (d 770)) := by
  simp only [st_244_5, ST_244_5, m_v_216, m_v_243, hr5, mset_row, rset_self, rset_at, rset_rset, rset_ite, pr_ite, pr_mk, pr_rset, pr_1, pr_2, Int.reduceAdd]
def LP_244_5 (x1 x2 : Int) : Nat → Int → Int → Row → Int
  | 0 => ST_244_5 x1 x2 (fun _ _ w => 0)
  | n + 1 => ST_244_5 x1 x2 (LP_244_5 x1 x2 n)
theorem m_lp_244_5 {x1 x2 : Int}   : ∀ (n : Nat) (y0 y1 : Int) (d : mD), lp_244_5 769 x1 x2 n y0 y1 d = (LP_244_5 x1 x2 n y0 y1 (d 770)) := by
  intro n
  induction n with
  | zero => intro y0 y1 d; exact m_st_244_5 (r5 := (fun _ _ d => 0)) (R5 := (fun _ _ w => 0)) (fun _ _ _ => rfl) d
  | succ n ih => intro y0 y1 d; exact m_st_244_5 ih d
def V_244 (x1 x2 : Int) (w : Row) : Int := LP_244_5 x1 x2 (1200 - 0 : Int).toNat 0 0 w
theorem m_v_244 {x1 x2 : Int} (d : mD) : v_244 769 x1 x2 d = (V_244 x1 x2 (d 770)) := by
  simp only [v_244, V_244, m_lp_244_5, mset_row, rset_self, rset_at, rset_rset, rset_ite, pr_ite, pr_mk, pr_rset, pr_1, pr_2, Int.reduceAdd]
def ST_245_5 (x1 x2 : Int) (r5 : Int → Int → Row → Int) (x3 x4 : Int) (w : Row) : Int := if x4 < w 10 then (if w ((1916 + (5 * x4)) + 0) = x1 then (if w ((1916 + (5 * x4)) + 3) = x2 then r5 (x3 + 1) (x4 + 1) w else r5 (x3 + 0) (x4 + 1) w) else r5 (x3 + 0) (x4 + 1) w) else x3
theorem m_st_245_5 {x1 x2 x3 x4 : Int} {r5 : Int → Int → mD → Int} {R5 : Int → Int → Row → Int} (hr5 : ∀ (z0 z1 : Int) (d : mD), r5 z0 z1 d = (R5 z0 z1 (d 770))) (d : mD) : st_245_5 769 x1 x2 r5 x3 x4 d = (ST_245_5 x1 x2 R5 x3 x4 (d 770)) := by
  simp only [st_245_5, ST_245_5, hr5, mset_row, rset_self, rset_at, rset_rset, rset_ite, pr_ite, pr_mk, pr_rset, pr_1, pr_2, Int.reduceAdd]
def LP_245_5 (x1 x2 : Int) : Nat → Int → Int → Row → Int
  | 0 => ST_245_5 x1 x2 (fun _ _ w => 0)
  | n + 1 => ST_245_5 x1 x2 (LP_245_5 x1 x2 n)
theorem m_lp_245_5 {x1 x2 : Int}   : ∀ (n : Nat) (y0 y1 : Int) (d : mD), lp_245_5 769 x1 x2 n y0 y1 d = (LP_245_5 x1 x2 n y0 y1 (d 770)) := by
  intro n
  induction n with
  | zero => intro y0 y1 d; exact m_st_245_5 (r5 := (fun _ _ d => 0)) (R5 := (fun _ _ w => 0)) (fun _ _ _ => rfl) d
  | succ n ih => intro y0 y1 d; exact m_st_245_5 ih d
def V_245 (x1 x2 : Int) (w : Row) : Int := LP_245_5 x1 x2 (200 - 0 : Int).toNat 0 0 w
theorem m_v_245 {x1 x2 : Int} (d : mD) : v_245 769 x1 x2 d = (V_245 x1 x2 (d 770)) := by
  simp only [v_245, V_245, m_lp_245_5, mset_row, rset_self, rset_at, rset_rset, rset_ite, pr_ite, pr_mk, pr_rset, pr_1, pr_2, Int.reduceAdd]
def V_270 (x1 x2 : Int) (w : Row) : Int := if x1 = x2 then 0 else if w ((12 + (68 * x1)) + 4) = 0 then 0 else if w ((12 + (68 * x2)) + 4) = 0 then 0 else 1
theorem m_v_270 {x1 x2 : Int} (d : mD) : v_270 769 x1 x2 d = (V_270 x1 x2 (d 770)) := by
  simp only [v_270, V_270, mset_row, rset_self, rset_at, rset_rset, rset_ite, pr_ite, pr_mk, pr_rset, pr_1, pr_2, Int.reduceAdd]
def ST_271_4 (r4 : Int → Int → Row → Int) (x1 x2 : Int) (w : Row) : Int := if x2 < w 7 then r4 (x1 + (w ((12 + (68 * x2)) + 5))) (x2 + 1) w else x1
theorem m_st_271_4 {x1 x2 : Int} {r4 : Int → Int → mD → Int} {R4 : Int → Int → Row → Int} (hr4 : ∀ (z0 z1 : Int) (d : mD), r4 z0 z1 d = (R4 z0 z1 (d 770))) (d : mD) : st_271_4 769 r4 x1 x2 d = (ST_271_4 R4 x1 x2 (d 770)) := by
  simp only [st_271_4, ST_271_4, hr4, mset_row, rset_self, rset_at, rset_rset, rset_ite, pr_ite, pr_mk, pr_rset, pr_1, pr_2, Int.reduceAdd]
def LP_271_4 : Nat → Int → Int → Row → Int
  | 0 => ST_271_4 (fun _ _ w => 0)
  | n + 1 => ST_271_4 (LP_271_4 n)
theorem m_lp_271_4   : ∀ (n : Nat) (y0 y1 : Int) (d : mD), lp_271_4 769 n y0 y1 d = (LP_271_4 n y0 y1 (d 770)) := by
  intro n
  induction n with
  | zero => intro y0 y1 d; exact m_st_271_4 (r4 := (fun _ _ d => 0)) (R4 := (fun _ _ w => 0)) (fun _ _ _ => rfl) d
  | succ n ih => intro y0 y1 d; exact m_st_271_4 ih d
def V_271 (w : Row) : Int := LP_271_4 (6 - 0 : Int).toNat 0 0 w
theorem m_v_271 (d : mD) : v_271 769 d = (V_271 (d 770)) := by
  simp only [v_271, V_271, m_lp_271_4, mset_row, rset_self, rset_at, rset_rset, rset_ite, pr_ite, pr_mk, pr_rset, pr_1, pr_2, Int.reduceAdd]
def ST_281_4 (r4 : Int → Int → Row → Int) (x1 x2 : Int) (w : Row) : Int := if x2 < w 9 then (if w ((452 + (24 * x2)) + 4) = 1 then r4 (x1 + 1) (x2 + 1) w else r4 (x1 + 0) (x2 + 1) w) else x1
theorem m_st_281_4 {x1 x2 : Int} {r4 : Int → Int → mD → Int} {R4 : Int → Int → Row → Int} (hr4 : ∀ (z0 z1 : Int) (d : mD), r4 z0 z1 d = (R4 z0 z1 (d 770))) (d : mD) : st_281_4 769 r4 x1 x2 d = (ST_281_4 R4 x1 x2 (d 770)) := by
  simp only [st_281_4, ST_281_4, hr4, mset_row, rset_self, rset_at, rset_rset, rset_ite, pr_ite, pr_mk, pr_rset, pr_1, pr_2, Int.reduceAdd]
def LP_281_4 : Nat → Int → Int → Row → Int
  | 0 => ST_281_4 (fun _ _ w => 0)
  | n + 1 => ST_281_4 (LP_281_4 n)
theorem m_lp_281_4   : ∀ (n : Nat) (y0 y1 : Int) (d : mD), lp_281_4 769 n y0 y1 d = (LP_281_4 n y0 y1 (d 770)) := by
  intro n
  induction n with
  | zero => intro y0 y1 d; exact m_st_281_4 (r4 := (fun _ _ d => 0)) (R4 := (fun _ _ w => 0)) (fun _ _ _ => rfl) d
  | succ n ih => intro y0 y1 d; exact m_st_281_4 ih d
def V_281 (w : Row) : Int := LP_281_4 (61 - 0 : Int).toNat 0 0 w
theorem m_v_281 (d : mD) : v_281 769 d = (V_281 (d 770)) := by
  simp only [v_281, V_281, m_lp_281_4, mset_row, rset_self, rset_at, rset_rset, rset_ite, pr_ite, pr_mk, pr_rset, pr_1, pr_2, Int.reduceAdd]
def ST_263_2 (x1 : Int) (r2 : Int → Row → Int × Row) (x2 : Int) (w : Row) : Int × Row := if (200 : Int) < x2 then (x2, w) else if w ((452 + (24 * x1)) + 4) = 1 then (x2, w) else r2 (x2 + 1) (W_223 w)
theorem m_st_263_2 {x1 x2 : Int} {r2 : Int → mD → Int × mD} {R2 : Int → Row → Int × Row} (hr2 : ∀ (z0 : Int) (d : mD), r2 z0 d = (pr d (R2 z0 (d 770)))) (d : mD) : st_263_2 769 x1 r2 x2 d = (pr d (ST_263_2 x1 R2 x2 (d 770))) := by
  simp only [st_263_2, ST_263_2, m_g_223, hr2, mset_row, rset_self, rset_at, rset_rset, rset_ite, pr_ite, pr_mk, pr_rset, pr_1, pr_2, Int.reduceAdd]
def LP_263_2 (x1 : Int) : Nat → Int → Row → Int × Row
  | 0 => ST_263_2 x1 (fun _ w => (0, w))
  | n + 1 => ST_263_2 x1 (LP_263_2 x1 n)
theorem m_lp_263_2 {x1 : Int}   : ∀ (n : Nat) (y0 : Int) (d : mD), lp_263_2 769 x1 n y0 d = (pr d (LP_263_2 x1 n y0 (d 770))) := by
  intro n
  induction n with
  | zero => intro y0 d; exact m_st_263_2 (r2 := (fun _ d => (0, d))) (R2 := (fun _ w => (0, w))) (fun _ d => by rw [pr_mk, rset_self]) d
  | succ n ih => intro y0 d; exact m_st_263_2 ih d
def F_263 (x1 : Int) (w : Row) : Int × Row := LP_263_2 x1 (201 - 0 : Int).toNat 0 w
theorem m_f_263 {x1 : Int} (d : mD) : f_263 769 x1 d = (pr d (F_263 x1 (d 770))) := by
  simp only [f_263, F_263, m_lp_263_2, mset_row, rset_self, rset_at, rset_rset, rset_ite, pr_ite, pr_mk, pr_rset, pr_1, pr_2, Int.reduceAdd]
def V_263 (x1 : Int) (w : Row) : Int := (F_263 x1 w).1
theorem m_v_263 {x1 : Int} (d : mD) : v_263 769 x1 d = (V_263 x1 (d 770)) := by
  simp only [v_263, V_263, m_f_263, mset_row, rset_self, rset_at, rset_rset, rset_ite, pr_ite, pr_mk, pr_rset, pr_1, pr_2, Int.reduceAdd]
def W_263 (x1 : Int) (w : Row) : Row := (F_263 x1 w).2
theorem m_g_263 {x1 : Int} (d : mD) : g_263 769 x1 d = (rset d (W_263 x1 (d 770))) := by
  simp only [g_263, W_263, m_f_263, mset_row, rset_self, rset_at, rset_rset, rset_ite, pr_ite, pr_mk, pr_rset, pr_1, pr_2, Int.reduceAdd]
def ST_282_59 (x1 : Int) (r59 : Int → Int → Row → Int × Row) (x2 x3 : Int) (w : Row) : Int × Row := if x3 < x1 then r59 x2 (x3 + 1) (W_223 w) else ((V_281 w) - x2, w)
theorem m_st_282_59 {x1 x2 x3 : Int} {r59 : Int → Int → mD → Int × mD} {R59 : Int → Int → Row → Int × Row} (hr59 : ∀ (z0 z1 : Int) (d : mD), r59 z0 z1 d = (pr d (R59 z0 z1 (d 770)))) (d : mD) : st_282_59 769 x1 r59 x2 x3 d = (pr d (ST_282_59 x1 R59 x2 x3 (d 770))) := by
  simp only [st_282_59, ST_282_59, m_g_223, m_v_281, hr59, mset_row, rset_self, rset_at, rset_rset, rset_ite, pr_ite, pr_mk, pr_rset, pr_1, pr_2, Int.reduceAdd]
def LP_282_59 (x1 : Int) : Nat → Int → Int → Row → Int × Row
  | 0 => ST_282_59 x1 (fun _ _ w => (0, w))
  | n + 1 => ST_282_59 x1 (LP_282_59 x1 n)
theorem m_lp_282_59 {x1 : Int}   : ∀ (n : Nat) (y0 y1 : Int) (d : mD), lp_282_59 769 x1 n y0 y1 d = (pr d (LP_282_59 x1 n y0 y1 (d 770))) := by
  intro n
  induction n with
  | zero => intro y0 y1 d; exact m_st_282_59 (r59 := (fun _ _ d => (0, d))) (R59 := (fun _ _ w => (0, w))) (fun _ _ d => by rw [pr_mk, rset_self]) d
  | succ n ih => intro y0 y1 d; exact m_st_282_59 ih d
def ST_285_79 (x1 x2 x3 : Int) (r79 : Int → Int → Row → Int × Row) (x4 x5 : Int) (w : Row) : Int × Row := if x5 < w 10 then (if (0 : Int) < x4 then (if w ((1916 + (5 * x5)) + 0) = x1 then (if w ((1916 + (5 * x5)) + 3) = 0 then r79 (x4 + (-1)) (x5 + 1) (ws w ((1916 + (5 * x5)) + 0) x2) else r79 x4 (x5 + 1) w) else r79 x4 (x5 + 1) w) else (V_245 x2 0 w, w)) else (V_245 x2 0 w, w)
theorem m_st_285_79 {x1 x2 x3 x4 x5 : Int} {r79 : Int → Int → mD → Int × mD} {R79 : Int → Int → Row → Int × Row} (hr79 : ∀ (z0 z1 : Int) (d : mD), r79 z0 z1 d = (pr d (R79 z0 z1 (d 770)))) (d : mD) : st_285_79 769 x1 x2 x3 r79 x4 x5 d = (pr d (ST_285_79 x1 x2 x3 R79 x4 x5 (d 770))) := by
  simp only [st_285_79, ST_285_79, m_v_245, hr79, mset_row, rset_self, rset_at, rset_rset, rset_ite, pr_ite, pr_mk, pr_rset, pr_1, pr_2, Int.reduceAdd]
def LP_285_79 (x1 x2 x3 : Int) : Nat → Int → Int → Row → Int × Row
  | 0 => ST_285_79 x1 x2 x3 (fun _ _ w => (0, w))
  | n + 1 => ST_285_79 x1 x2 x3 (LP_285_79 x1 x2 x3 n)
theorem m_lp_285_79 {x1 x2 x3 : Int}   : ∀ (n : Nat) (y0 y1 : Int) (d : mD), lp_285_79 769 x1 x2 x3 n y0 y1 d = (pr d (LP_285_79 x1 x2 x3 n y0 y1 (d 770))) := by
  intro n
  induction n with
  | zero => intro y0 y1 d; exact m_st_285_79 (r79 := (fun _ _ d => (0, d))) (R79 := (fun _ _ w => (0, w))) (fun _ _ d => by rw [pr_mk, rset_self]) d
  | succ n ih => intro y0 y1 d; exact m_st_285_79 ih d
def ST_289_64 (x1 : Int) (r64 : Int → Int → Row → Int × Row) (x2 x3 : Int) (w : Row) : Int × Row := if x3 < w 7 then r64 (x2 + (w ((12 + (68 * x3)) + 4))) (x3 + 1) w else (x2, w)
theorem m_st_289_64 {x1 x2 x3 : Int} {r64 : Int → Int → mD → Int × mD} {R64 : Int → Int → Row → Int × Row} (hr64 : ∀ (z0 z1 : Int) (d : mD), r64 z0 z1 d = (pr d (R64 z0 z1 (d 770)))) (d : mD) : st_289_64 769 x1 r64 x2 x3 d = (pr d (ST_289_64 x1 R64 x2 x3 (d 770))) := by
  simp only [st_289_64, ST_289_64, hr64, mset_row, rset_self, rset_at, rset_rset, rset_ite, pr_ite, pr_mk, pr_rset, pr_1, pr_2, Int.reduceAdd]
def LP_289_64 (x1 : Int) : Nat → Int → Int → Row → Int × Row
  | 0 => ST_289_64 x1 (fun _ _ w => (0, w))
  | n + 1 => ST_289_64 x1 (LP_289_64 x1 n)
theorem m_lp_289_64 {x1 : Int}   : ∀ (n : Nat) (y0 y1 : Int) (d : mD), lp_289_64 769 x1 n y0 y1 d = (pr d (LP_289_64 x1 n y0 y1 (d 770))) := by
  intro n
  induction n with
  | zero => intro y0 y1 d; exact m_st_289_64 (r64 := (fun _ _ d => (0, d))) (R64 := (fun _ _ w => (0, w))) (fun _ _ d => by rw [pr_mk, rset_self]) d
  | succ n ih => intro y0 y1 d; exact m_st_289_64 ih d
def V_291 (x0 : Int) (w : Row) : Int := if x0 < 2 then 0 else 1
theorem m_v_291 {x0 : Int} (d : mD) : v_291 x0 d = (V_291 x0 (d 770)) := by
  simp only [v_291, V_291, mset_row, rset_self, rset_at, rset_rset, rset_ite, pr_ite, pr_mk, pr_rset, pr_1, pr_2, Int.reduceAdd]
def V_292 (x0 : Int) (w : Row) : Int := if x0 = 1 then 3 else if x0 = 3 then 20 else if x0 = 4 then 99 else 9
theorem m_v_292 {x0 : Int} (d : mD) : v_292 x0 d = (V_292 x0 (d 770)) := by
  simp only [v_292, V_292, mset_row, rset_self, rset_at, rset_rset, rset_ite, pr_ite, pr_mk, pr_rset, pr_1, pr_2, Int.reduceAdd]
def ST_286_65 (x1 x2 : Int) (r65 : Int → Int → Row → Int × Row) (x3 x4 : Int) (w : Row) : Int × Row := if x4 < w 10 then (if (0 : Int) < x3 then (if w ((1916 + (5 * x4)) + 0) = x1 then (if w ((1916 + (5 * x4)) + 3) = 0 then r65 (x3 + (-1)) (x4 + 1) (ws (ws (ws w ((1916 + (5 * x4)) + 3) 1) (2916 + (w 11)) x4) 11 ((w 11) + 1)) else r65 x3 (x4 + 1) w) else r65 x3 (x4 + 1) w) else (V_219 w, W_219 w)) else (V_219 w, W_219 w)
theorem m_st_286_65 {x1 x2 x3 x4 : Int} {r65 : Int → Int → mD → Int × mD} {R65 : Int → Int → Row → Int × Row} (hr65 : ∀ (z0 z1 : Int) (d : mD), r65 z0 z1 d = (pr d (R65 z0 z1 (d 770)))) (d : mD) : st_286_65 769 x1 x2 r65 x3 x4 d = (pr d (ST_286_65 x1 x2 R65 x3 x4 (d 770))) := by
  simp only [st_286_65, ST_286_65, m_g_219, m_v_219, hr65, mset_row, rset_self, rset_at, rset_rset, rset_ite, pr_ite, pr_mk, pr_rset, pr_1, pr_2, Int.reduceAdd]
def LP_286_65 (x1 x2 : Int) : Nat → Int → Int → Row → Int × Row
  | 0 => ST_286_65 x1 x2 (fun _ _ w => (0, w))
  | n + 1 => ST_286_65 x1 x2 (LP_286_65 x1 x2 n)
theorem m_lp_286_65 {x1 x2 : Int}   : ∀ (n : Nat) (y0 y1 : Int) (d : mD), lp_286_65 769 x1 x2 n y0 y1 d = (pr d (LP_286_65 x1 x2 n y0 y1 (d 770))) := by
  intro n
  induction n with
  | zero => intro y0 y1 d; exact m_st_286_65 (r65 := (fun _ _ d => (0, d))) (R65 := (fun _ _ w => (0, w))) (fun _ _ d => by rw [pr_mk, rset_self]) d
  | succ n ih => intro y0 y1 d; exact m_st_286_65 ih d
