/-! ===== the reference's row: its methods as functions of the row ===== -/
abbrev Row : Type := Int → Int
def ws (w : Row) (i v : Int) : Row := fun j => if j = i then v else w j
def rset (d : mD) (w : Row) : mD := fun b => if b = 770 then w else d b
def pr (d : mD) (x : Int × Row) : Int × mD := (x.1, rset d x.2)
theorem rset_at (d : mD) (w : Row) : rset d w 770 = w := by simp [rset]
theorem rset_ne {d : mD} {w : Row} {b : Int} (h : b ≠ 770) : rset d w b = d b := by simp [rset, h]
theorem rset_self (d : mD) : rset d (d 770) = d := by
  funext b
  by_cases h : b = 770 <;> simp [rset, h]
theorem rset_rset (d : mD) (w u : Row) : rset (rset d w) u = rset d u := by
  funext b
  by_cases h : b = 770 <;> simp [rset, h]
theorem mset_row (d : mD) (i v : Int) : mset d 770 i v = rset d (ws (d 770) i v) := by
  funext b j
  by_cases h : b = 770 <;> simp [rset, mset, ws, h]
theorem rset_ite (d : mD) (c : Prop) [Decidable c] (a b : Row) : rset d (if c then a else b) = if c then rset d a else rset d b := by split <;> rfl
theorem pr_ite (d : mD) (c : Prop) [Decidable c] (a b : Int × Row) : pr d (if c then a else b) = if c then pr d a else pr d b := by split <;> rfl
theorem pr_mk (d : mD) (a : Int) (b : Row) : pr d (a, b) = (a, rset d b) := rfl
theorem pr_rset (d : mD) (w : Row) (x : Int × Row) : pr (rset d w) x = pr d x := by
  unfold pr
  rw [rset_rset]
theorem pr_1 (d : mD) (x : Int × Row) : (pr d x).1 = x.1 := rfl
theorem pr_2 (d : mD) (x : Int × Row) : (pr d x).2 = rset d x.2 := rfl
theorem ws_at (w : Row) (i v : Int) : ws w i v i = v := by simp [ws]
theorem ws_ne {w : Row} {i v j : Int} (h : j ≠ i) : ws w i v j = w j := by simp [ws, h]
def V_176 (x0 x2 x4 : Int) (w : Row) : Int := if mcmp x0 x2 < 0 then 0 else if (0 : Int) < mcmp x0 x4 then 0 else 1
theorem m_v_176 {x0 x2 x4 : Int} (d : mD) : v_176 x0 x2 x4 d = (V_176 x0 x2 x4 (d 770)) := by
  simp only [v_176, V_176, mset_row, rset_self, rset_at, rset_rset, rset_ite, pr_ite, pr_mk, pr_rset, pr_1, pr_2, Int.reduceAdd]
def W_181 (x1 x2 x3 x4 : Int) (w : Row) : Row := ws (ws (ws (ws (ws (ws w ((12 + (68 * (w 7))) + 0) x1) ((12 + (68 * (w 7))) + 1) x2) ((12 + (68 * (w 7))) + 2) x3) ((12 + (68 * (w 7))) + 3) x4) ((12 + (68 * (w 7))) + 4) 1) 7 ((w 7) + 1)
theorem m_g_181 {x1 x2 x3 x4 : Int} (d : mD) : g_181 769 x1 x2 x3 x4 d = (rset d (W_181 x1 x2 x3 x4 (d 770))) := by
  simp only [g_181, W_181, mset_row, rset_self, rset_at, rset_rset, rset_ite, pr_ite, pr_mk, pr_rset, pr_1, pr_2, Int.reduceAdd]
def W_182 (x1 : Int) (w : Row) : Row := ws (ws (ws w ((420 + (2 * (w 8))) + 0) x1) ((420 + (2 * (w 8))) + 1) 0) 8 ((w 8) + 1)
theorem m_g_182 {x1 : Int} (d : mD) : g_182 769 x1 d = (rset d (W_182 x1 (d 770))) := by
  simp only [g_182, W_182, mset_row, rset_self, rset_at, rset_rset, rset_ite, pr_ite, pr_mk, pr_rset, pr_1, pr_2, Int.reduceAdd]
def ST_183_2 (x1 : Int) (r2 : Int → Row → Int) (x2 : Int) (w : Row) : Int := if x2 < w 8 then (if w ((420 + (2 * x2)) + 0) = x1 then x2 else r2 (x2 + 1) w) else (-1)
theorem m_st_183_2 {x1 x2 : Int} {r2 : Int → mD → Int} {R2 : Int → Row → Int} (hr2 : ∀ (z0 : Int) (d : mD), r2 z0 d = (R2 z0 (d 770))) (d : mD) : st_183_2 769 x1 r2 x2 d = (ST_183_2 x1 R2 x2 (d 770)) := by
  simp only [st_183_2, ST_183_2, hr2, mset_row, rset_self, rset_at, rset_rset, rset_ite, pr_ite, pr_mk, pr_rset, pr_1, pr_2, Int.reduceAdd]
def LP_183_2 (x1 : Int) : Nat → Int → Row → Int
  | 0 => ST_183_2 x1 (fun _ w => 0)
  | n + 1 => ST_183_2 x1 (LP_183_2 x1 n)
theorem m_lp_183_2 {x1 : Int}   : ∀ (n : Nat) (y0 : Int) (d : mD), lp_183_2 769 x1 n y0 d = (LP_183_2 x1 n y0 (d 770)) := by
  intro n
  induction n with
  | zero => intro y0 d; exact m_st_183_2 (r2 := (fun _ d => 0)) (R2 := (fun _ w => 0)) (fun _ _ => rfl) d
  | succ n ih => intro y0 d; exact m_st_183_2 ih d
def V_183 (x1 : Int) (w : Row) : Int := LP_183_2 x1 (16 - 0 : Int).toNat 0 w
theorem m_v_183 {x1 : Int} (d : mD) : v_183 769 x1 d = (V_183 x1 (d 770)) := by
  simp only [v_183, V_183, m_lp_183_2, mset_row, rset_self, rset_at, rset_rset, rset_ite, pr_ite, pr_mk, pr_rset, pr_1, pr_2, Int.reduceAdd]
def ST_184_2 (x1 : Int) (r2 : Int → Row → Int) (x2 : Int) (w : Row) : Int := if x2 < w 7 then (if w ((12 + (68 * x2)) + 0) = x1 then x2 else r2 (x2 + 1) w) else (-1)
theorem m_st_184_2 {x1 x2 : Int} {r2 : Int → mD → Int} {R2 : Int → Row → Int} (hr2 : ∀ (z0 : Int) (d : mD), r2 z0 d = (R2 z0 (d 770))) (d : mD) : st_184_2 769 x1 r2 x2 d = (ST_184_2 x1 R2 x2 (d 770)) := by
  simp only [st_184_2, ST_184_2, hr2, mset_row, rset_self, rset_at, rset_rset, rset_ite, pr_ite, pr_mk, pr_rset, pr_1, pr_2, Int.reduceAdd]
def LP_184_2 (x1 : Int) : Nat → Int → Row → Int
  | 0 => ST_184_2 x1 (fun _ w => 0)
  | n + 1 => ST_184_2 x1 (LP_184_2 x1 n)
theorem m_lp_184_2 {x1 : Int}   : ∀ (n : Nat) (y0 : Int) (d : mD), lp_184_2 769 x1 n y0 d = (LP_184_2 x1 n y0 (d 770)) := by
  intro n
  induction n with
  | zero => intro y0 d; exact m_st_184_2 (r2 := (fun _ d => 0)) (R2 := (fun _ w => 0)) (fun _ _ => rfl) d
  | succ n ih => intro y0 d; exact m_st_184_2 ih d
def V_184 (x1 : Int) (w : Row) : Int := LP_184_2 x1 (6 - 0 : Int).toNat 0 w
theorem m_v_184 {x1 : Int} (d : mD) : v_184 769 x1 d = (V_184 x1 (d 770)) := by
  simp only [v_184, V_184, m_lp_184_2, mset_row, rset_self, rset_at, rset_rset, rset_ite, pr_ite, pr_mk, pr_rset, pr_1, pr_2, Int.reduceAdd]
def ST_201_10 (x1 : Int) (r10 : Int → Row → Int) (x2 : Int) (w : Row) : Int := if x2 < 0 then (-1) else if w ((452 + (24 * x2)) + 0) = x1 then x2 else r10 (x2 + (-1)) w
theorem m_st_201_10 {x1 x2 : Int} {r10 : Int → mD → Int} {R10 : Int → Row → Int} (hr10 : ∀ (z0 : Int) (d : mD), r10 z0 d = (R10 z0 (d 770))) (d : mD) : st_201_10 769 x1 r10 x2 d = (ST_201_10 x1 R10 x2 (d 770)) := by
  simp only [st_201_10, ST_201_10, hr10, mset_row, rset_self, rset_at, rset_rset, rset_ite, pr_ite, pr_mk, pr_rset, pr_1, pr_2, Int.reduceAdd]
def LP_201_10 (x1 : Int) : Nat → Int → Row → Int
  | 0 => ST_201_10 x1 (fun _ w => 0)
  | n + 1 => ST_201_10 x1 (LP_201_10 x1 n)
theorem m_lp_201_10 {x1 : Int}   : ∀ (n : Nat) (y0 : Int) (d : mD), lp_201_10 769 x1 n y0 d = (LP_201_10 x1 n y0 (d 770)) := by
  intro n
  induction n with
  | zero => intro y0 d; exact m_st_201_10 (r10 := (fun _ d => 0)) (R10 := (fun _ w => 0)) (fun _ _ => rfl) d
  | succ n ih => intro y0 d; exact m_st_201_10 ih d
def V_201 (x1 : Int) (w : Row) : Int := LP_201_10 x1 (((w 9) - 1) + 1 : Int).toNat ((w 9) - 1) w
theorem m_v_201 {x1 : Int} (d : mD) : v_201 769 x1 d = (V_201 x1 (d 770)) := by
  simp only [v_201, V_201, m_lp_201_10, mset_row, rset_self, rset_at, rset_rset, rset_ite, pr_ite, pr_mk, pr_rset, pr_1, pr_2, Int.reduceAdd]
def V_212 (x1 : Int) (w : Row) : Int := if w ((452 + (24 * x1)) + 3) = (-1) then w 0 else w ((452 + (24 * x1)) + 3)
theorem m_v_212 {x1 : Int} (d : mD) : v_212 769 x1 d = (V_212 x1 (d 770)) := by
  simp only [v_212, V_212, mset_row, rset_self, rset_at, rset_rset, rset_ite, pr_ite, pr_mk, pr_rset, pr_1, pr_2, Int.reduceAdd]
def V_213 (x1 : Int) (w : Row) : Int := if ((V_212 x1 w) - (w ((452 + (24 * x1)) + 2))) - (w 2) < 0 then 0 else ((V_212 x1 w) - (w ((452 + (24 * x1)) + 2))) - (w 2)
theorem m_v_213 {x1 : Int} (d : mD) : v_213 769 x1 d = (V_213 x1 (d 770)) := by
  simp only [v_213, V_213, m_v_212, mset_row, rset_self, rset_at, rset_rset, rset_ite, pr_ite, pr_mk, pr_rset, pr_1, pr_2, Int.reduceAdd]
def V_214 (x1 x2 : Int) (w : Row) : Int := if x2 < (w ((452 + (24 * x1)) + 2)) + (w 2) then 0 else if x2 < V_212 x1 w then 1 else 0
theorem m_v_214 {x1 x2 : Int} (d : mD) : v_214 769 x1 x2 d = (V_214 x1 x2 (d 770)) := by
  simp only [v_214, V_214, m_v_212, mset_row, rset_self, rset_at, rset_rset, rset_ite, pr_ite, pr_mk, pr_rset, pr_1, pr_2, Int.reduceAdd]
def V_215 (x1 : Int) (w : Row) : Int := w ((452 + (24 * (w ((1916 + (5 * x1)) + 1)))) + 0)
theorem m_v_215 {x1 : Int} (d : mD) : v_215 769 x1 d = (V_215 x1 (d 770)) := by
  simp only [v_215, V_215, mset_row, rset_self, rset_at, rset_rset, rset_ite, pr_ite, pr_mk, pr_rset, pr_1, pr_2, Int.reduceAdd]
def ST_216_2 (x1 x2 : Int) (r2 : Int → Row → Int) (x3 : Int) (w : Row) : Int := if x3 < w 10 then (if w ((1916 + (5 * x3)) + 2) = x2 then (if V_215 x3 w = x1 then 1 else r2 (x3 + 1) w) else r2 (x3 + 1) w) else 0
theorem m_st_216_2 {x1 x2 x3 : Int} {r2 : Int → mD → Int} {R2 : Int → Row → Int} (hr2 : ∀ (z0 : Int) (d : mD), r2 z0 d = (R2 z0 (d 770))) (d : mD) : st_216_2 769 x1 x2 r2 x3 d = (ST_216_2 x1 x2 R2 x3 (d 770)) := by
  simp only [st_216_2, ST_216_2, m_v_215, hr2, mset_row, rset_self, rset_at, rset_rset, rset_ite, pr_ite, pr_mk, pr_rset, pr_1, pr_2, Int.reduceAdd]
def LP_216_2 (x1 x2 : Int) : Nat → Int → Row → Int
  | 0 => ST_216_2 x1 x2 (fun _ w => 0)
  | n + 1 => ST_216_2 x1 x2 (LP_216_2 x1 x2 n)
theorem m_lp_216_2 {x1 x2 : Int}   : ∀ (n : Nat) (y0 : Int) (d : mD), lp_216_2 769 x1 x2 n y0 d = (LP_216_2 x1 x2 n y0 (d 770)) := by
  intro n
  induction n with
  | zero => intro y0 d; exact m_st_216_2 (r2 := (fun _ d => 0)) (R2 := (fun _ w => 0)) (fun _ _ => rfl) d
  | succ n ih => intro y0 d; exact m_st_216_2 ih d
def V_216 (x1 x2 : Int) (w : Row) : Int := LP_216_2 x1 x2 (200 - 0 : Int).toNat 0 w
theorem m_v_216 {x1 x2 : Int} (d : mD) : v_216 769 x1 x2 d = (V_216 x1 x2 (d 770)) := by
  simp only [v_216, V_216, m_lp_216_2, mset_row, rset_self, rset_at, rset_rset, rset_ite, pr_ite, pr_mk, pr_rset, pr_1, pr_2, Int.reduceAdd]
def ST_217_4 (x1 : Int) (r4 : Int → Int → Row → Int) (x2 x3 : Int) (w : Row) : Int := if x3 < w 10 then (if V_215 x3 w = x1 then (if (w ((1916 + (5 * x3)) + 4)) / 20 = (w 0) / 20 then r4 (x2 + 1) (x3 + 1) w else r4 (x2 + 0) (x3 + 1) w) else r4 (x2 + 0) (x3 + 1) w) else x2
theorem m_st_217_4 {x1 x2 x3 : Int} {r4 : Int → Int → mD → Int} {R4 : Int → Int → Row → Int} (hr4 : ∀ (z0 z1 : Int) (d : mD), r4 z0 z1 d = (R4 z0 z1 (d 770))) (d : mD) : st_217_4 769 x1 r4 x2 x3 d = (ST_217_4 x1 R4 x2 x3 (d 770)) := by
  simp only [st_217_4, ST_217_4, m_v_215, hr4, mset_row, rset_self, rset_at, rset_rset, rset_ite, pr_ite, pr_mk, pr_rset, pr_1, pr_2, Int.reduceAdd]
def LP_217_4 (x1 : Int) : Nat → Int → Int → Row → Int
  | 0 => ST_217_4 x1 (fun _ _ w => 0)
  | n + 1 => ST_217_4 x1 (LP_217_4 x1 n)
theorem m_lp_217_4 {x1 : Int}   : ∀ (n : Nat) (y0 y1 : Int) (d : mD), lp_217_4 769 x1 n y0 y1 d = (LP_217_4 x1 n y0 y1 (d 770)) := by
  intro n
  induction n with
  | zero => intro y0 y1 d; exact m_st_217_4 (r4 := (fun _ _ d => 0)) (R4 := (fun _ _ w => 0)) (fun _ _ _ => rfl) d
  | succ n ih => intro y0 y1 d; exact m_st_217_4 ih d
def V_217 (x1 : Int) (w : Row) : Int := LP_217_4 x1 (200 - 0 : Int).toNat 0 0 w
theorem m_v_217 {x1 : Int} (d : mD) : v_217 769 x1 d = (V_217 x1 (d 770)) := by
  simp only [v_217, V_217, m_lp_217_4, mset_row, rset_self, rset_at, rset_rset, rset_ite, pr_ite, pr_mk, pr_rset, pr_1, pr_2, Int.reduceAdd]
def ST_218_41 (x1 : Int) (r41 : Int → Int → Int → Int → Row → Int × Row) (x2 x3 x4 x5 : Int) (w : Row) : Int × Row := if x5 < w ((452 + (24 * x1)) + 3) then (if x3 < w 5 then (if w 10 < 200 then (if V_216 x2 x5 w = 0 then r41 x2 (x3 + 1) (x4 + 1) (x5 + 1) (ws (ws (ws (ws (ws (ws w ((1916 + (5 * (w 10))) + 0) x2) ((1916 + (5 * (w 10))) + 1) x1) ((1916 + (5 * (w 10))) + 2) x5) ((1916 + (5 * (w 10))) + 3) 0) ((1916 + (5 * (w 10))) + 4) (w 0)) 10 ((w 10) + 1)) else r41 x2 x3 x4 (x5 + 1) w) else r41 x2 x3 x4 (x5 + 1) w) else r41 x2 x3 x4 (x5 + 1) w) else (x4, w)
theorem m_st_218_41 {x1 x2 x3 x4 x5 : Int} {r41 : Int → Int → Int → Int → mD → Int × mD} {R41 : Int → Int → Int → Int → Row → Int × Row} (hr41 : ∀ (z0 z1 z2 z3 : Int) (d : mD), r41 z0 z1 z2 z3 d = (pr d (R41 z0 z1 z2 z3 (d 770)))) (d : mD) : st_218_41 769 x1 r41 x2 x3 x4 x5 d = (pr d (ST_218_41 x1 R41 x2 x3 x4 x5 (d 770))) := by
  simp only [st_218_41, ST_218_41, m_v_216, hr41, mset_row, rset_self, rset_at, rset_rset, rset_ite, pr_ite, pr_mk, pr_rset, pr_1, pr_2, Int.reduceAdd]
def LP_218_41 (x1 : Int) : Nat → Int → Int → Int → Int → Row → Int × Row
  | 0 => ST_218_41 x1 (fun _ _ _ _ w => (0, w))
  | n + 1 => ST_218_41 x1 (LP_218_41 x1 n)
theorem m_lp_218_41 {x1 : Int}   : ∀ (n : Nat) (y0 y1 y2 y3 : Int) (d : mD), lp_218_41 769 x1 n y0 y1 y2 y3 d = (pr d (LP_218_41 x1 n y0 y1 y2 y3 (d 770))) := by
  intro n
  induction n with
  | zero => intro y0 y1 y2 y3 d; exact m_st_218_41 (r41 := (fun _ _ _ _ d => (0, d))) (R41 := (fun _ _ _ _ w => (0, w))) (fun _ _ _ _ d => by rw [pr_mk, rset_self]) d
  | succ n ih => intro y0 y1 y2 y3 d; exact m_st_218_41 ih d
def F_218 (x1 : Int) (w : Row) : Int × Row := LP_218_41 x1 (1301 - ((w ((452 + (24 * x1)) + 2)) + (w 2)) : Int).toNat (w ((452 + (24 * x1)) + 0)) (V_217 (w ((452 + (24 * x1)) + 0)) w) 0 ((w ((452 + (24 * x1)) + 2)) + (w 2)) w
theorem m_f_218 {x1 : Int} (d : mD) : f_218 769 x1 d = (pr d (F_218 x1 (d 770))) := by
  simp only [f_218, F_218, m_v_217, m_lp_218_41, mset_row, rset_self, rset_at, rset_rset, rset_ite, pr_ite, pr_mk, pr_rset, pr_1, pr_2, Int.reduceAdd]
def V_218 (x1 : Int) (w : Row) : Int := (F_218 x1 w).1
theorem m_v_218 {x1 : Int} (d : mD) : v_218 769 x1 d = (V_218 x1 (d 770)) := by
  simp only [v_218, V_218, m_f_218, mset_row, rset_self, rset_at, rset_rset, rset_ite, pr_ite, pr_mk, pr_rset, pr_1, pr_2, Int.reduceAdd]
def W_218 (x1 : Int) (w : Row) : Row := (F_218 x1 w).2
theorem m_g_218 {x1 : Int} (d : mD) : g_218 769 x1 d = (rset d (W_218 x1 (d 770))) := by
  simp only [g_218, W_218, m_f_218, mset_row, rset_self, rset_at, rset_rset, rset_ite, pr_ite, pr_mk, pr_rset, pr_1, pr_2, Int.reduceAdd]
def ST_219_106 (r2 : Int → Row → Int × Row) (r106 : Int → Int → Int → Row → Int × Row) (x1 x2 x3 : Int) (w : Row) : Int × Row := if x3 < w 11 then r106 x1 x2 (x3 + 1) (ws w (2916 + x3) (w ((2916 + x3) + 1))) else r2 (x1 + 1) w
theorem m_st_219_106 {x1 x2 x3 : Int} {r2 : Int → mD → Int × mD} {R2 : Int → Row → Int × Row} {r106 : Int → Int → Int → mD → Int × mD} {R106 : Int → Int → Int → Row → Int × Row} (hr2 : ∀ (z0 : Int) (d : mD), r2 z0 d = (pr d (R2 z0 (d 770)))) (hr106 : ∀ (z0 z1 z2 : Int) (d : mD), r106 z0 z1 z2 d = (pr d (R106 z0 z1 z2 (d 770)))) (d : mD) : st_219_106 769 r2 r106 x1 x2 x3 d = (pr d (ST_219_106 R2 R106 x1 x2 x3 (d 770))) := by
  simp only [st_219_106, ST_219_106, hr2, hr106, mset_row, rset_self, rset_at, rset_rset, rset_ite, pr_ite, pr_mk, pr_rset, pr_1, pr_2, Int.reduceAdd]
def LP_219_106 (r2 : Int → Row → Int × Row) : Nat → Int → Int → Int → Row → Int × Row
  | 0 => ST_219_106 r2 (fun _ _ _ w => (0, w))
  | n + 1 => ST_219_106 r2 (LP_219_106 r2 n)
theorem m_lp_219_106 {r2 : Int → mD → Int × mD} {R2 : Int → Row → Int × Row} (hr2 : ∀ (z0 : Int) (d : mD), r2 z0 d = (pr d (R2 z0 (d 770)))) : ∀ (n : Nat) (y0 y1 y2 : Int) (d : mD), lp_219_106 769 r2 n y0 y1 y2 d = (pr d (LP_219_106 R2 n y0 y1 y2 (d 770))) := by
  intro n
  induction n with
  | zero => intro y0 y1 y2 d; exact m_st_219_106 (r106 := (fun _ _ _ d => (0, d))) (R106 := (fun _ _ _ w => (0, w))) hr2 (fun _ _ _ d => by rw [pr_mk, rset_self]) d
  | succ n ih => intro y0 y1 y2 d; exact m_st_219_106 hr2 ih d
def ST_219_2 (r2 : Int → Row → Int × Row) (x1 : Int) (w : Row) : Int × Row := if (0 : Int) < w 11 then (if w 1 < w 6 then (x1, w) else LP_219_106 r2 (200 - 0 : Int).toNat x1 (1916 + (5 * (w 2916))) 0 (ws (ws (ws (ws w 1 ((w 1) - (w 6))) ((420 + (2 * (w ((1916 + (5 * (w 2916))) + 0)))) + 1) ((w ((420 + (2 * (w ((1916 + (5 * (w 2916))) + 0)))) + 1)) + (w 6))) ((1916 + (5 * (w 2916))) + 3) 2) 11 ((w 11) - 1))) else (x1, w)
theorem m_st_219_2 {x1 : Int} {r2 : Int → mD → Int × mD} {R2 : Int → Row → Int × Row} (hr2 : ∀ (z0 : Int) (d : mD), r2 z0 d = (pr d (R2 z0 (d 770)))) (d : mD) : st_219_2 769 r2 x1 d = (pr d (ST_219_2 R2 x1 (d 770))) := by
  simp only [st_219_2, ST_219_2, m_lp_219_106 hr2, hr2, mset_row, rset_self, rset_at, rset_rset, rset_ite, pr_ite, pr_mk, pr_rset, pr_1, pr_2, Int.reduceAdd]
def LP_219_2 : Nat → Int → Row → Int × Row
  | 0 => ST_219_2 (fun _ w => (0, w))
  | n + 1 => ST_219_2 (LP_219_2 n)
theorem m_lp_219_2   : ∀ (n : Nat) (y0 : Int) (d : mD), lp_219_2 769 n y0 d = (pr d (LP_219_2 n y0 (d 770))) := by
  intro n
  induction n with
  | zero => intro y0 d; exact m_st_219_2 (r2 := (fun _ d => (0, d))) (R2 := (fun _ w => (0, w))) (fun _ d => by rw [pr_mk, rset_self]) d
  | succ n ih => intro y0 d; exact m_st_219_2 ih d
def F_219 (w : Row) : Int × Row := LP_219_2 (w 11 : Int).toNat 0 w
theorem m_f_219 (d : mD) : f_219 769 d = (pr d (F_219 (d 770))) := by
  simp only [f_219, F_219, m_lp_219_2, mset_row, rset_self, rset_at, rset_rset, rset_ite, pr_ite, pr_mk, pr_rset, pr_1, pr_2, Int.reduceAdd]
def V_219 (w : Row) : Int := (F_219 w).1
theorem m_v_219 (d : mD) : v_219 769 d = (V_219 (d 770)) := by
  simp only [v_219, V_219, m_f_219, mset_row, rset_self, rset_at, rset_rset, rset_ite, pr_ite, pr_mk, pr_rset, pr_1, pr_2, Int.reduceAdd]
def W_219 (w : Row) : Row := (F_219 w).2
theorem m_g_219 (d : mD) : g_219 769 d = (rset d (W_219 (d 770))) := by
  simp only [g_219, W_219, m_f_219, mset_row, rset_self, rset_at, rset_rset, rset_ite, pr_ite, pr_mk, pr_rset, pr_1, pr_2, Int.reduceAdd]
def ST_220_20 (x1 x2 : Int) (r20 : Int → Int → Row → Row) (x3 x4 : Int) (w : Row) : Row := if x4 < w (x3 + 5) then r20 x3 (x4 + 1) (ws w ((x3 + 7) + x4) (w (((x3 + 7) + x4) + 1))) else w
theorem m_st_220_20 {x1 x2 x3 x4 : Int} {r20 : Int → Int → mD → mD} {R20 : Int → Int → Row → Row} (hr20 : ∀ (z0 z1 : Int) (d : mD), r20 z0 z1 d = (rset d (R20 z0 z1 (d 770)))) (d : mD) : st_220_20 769 x1 x2 r20 x3 x4 d = (rset d (ST_220_20 x1 x2 R20 x3 x4 (d 770))) := by
  simp only [st_220_20, ST_220_20, hr20, mset_row, rset_self, rset_at, rset_rset, rset_ite, pr_ite, pr_mk, pr_rset, pr_1, pr_2, Int.reduceAdd]
def LP_220_20 (x1 x2 : Int) : Nat → Int → Int → Row → Row
  | 0 => ST_220_20 x1 x2 (fun _ _ w => w)
  | n + 1 => ST_220_20 x1 x2 (LP_220_20 x1 x2 n)
theorem m_lp_220_20 {x1 x2 : Int}   : ∀ (n : Nat) (y0 y1 : Int) (d : mD), lp_220_20 769 x1 x2 n y0 y1 d = (rset d (LP_220_20 x1 x2 n y0 y1 (d 770))) := by
  intro n
  induction n with
  | zero => intro y0 y1 d; exact m_st_220_20 (r20 := (fun _ _ d => d)) (R20 := (fun _ _ w => w)) (fun _ _ d => (rset_self d).symm) d
  | succ n ih => intro y0 y1 d; exact m_st_220_20 ih d
def W_220 (x1 x2 : Int) (w : Row) : Row := LP_220_20 x1 x2 (61 - x2 : Int).toNat (12 + (68 * x1)) x2 (ws w ((12 + (68 * x1)) + 5) ((w ((12 + (68 * x1)) + 5)) - 1))
theorem m_g_220 {x1 x2 : Int} (d : mD) : g_220 769 x1 x2 d = (rset d (W_220 x1 x2 (d 770))) := by
  simp only [g_220, W_220, m_lp_220_20, mset_row, rset_self, rset_at, rset_rset, rset_ite, pr_ite, pr_mk, pr_rset, pr_1, pr_2, Int.reduceAdd]
def ST_221_17 (x1 : Int) (r17 : Int → Int → Row → Int) (x2 x3 : Int) (w : Row) : Int := if x3 < w (x2 + 5) then (if w ((x2 + 7) + x3) = x1 then x3 else r17 x2 (x3 + 1) w) else (-1)
theorem m_st_221_17 {x1 x2 x3 : Int} {r17 : Int → Int → mD → Int} {R17 : Int → Int → Row → Int} (hr17 : ∀ (z0 z1 : Int) (d : mD), r17 z0 z1 d = (R17 z0 z1 (d 770))) (d : mD) : st_221_17 769 x1 r17 x2 x3 d = (ST_221_17 x1 R17 x2 x3 (d 770)) := by
  simp only [st_221_17, ST_221_17, hr17, mset_row, rset_self, rset_at, rset_rset, rset_ite, pr_ite, pr_mk, pr_rset, pr_1, pr_2, Int.reduceAdd]
def LP_221_17 (x1 : Int) : Nat → Int → Int → Row → Int
  | 0 => ST_221_17 x1 (fun _ _ w => 0)
  | n + 1 => ST_221_17 x1 (LP_221_17 x1 n)
theorem m_lp_221_17 {x1 : Int}   : ∀ (n : Nat) (y0 y1 : Int) (d : mD), lp_221_17 769 x1 n y0 y1 d = (LP_221_17 x1 n y0 y1 (d 770)) := by
  intro n
  induction n with
  | zero => intro y0 y1 d; exact m_st_221_17 (r17 := (fun _ _ d => 0)) (R17 := (fun _ _ w => 0)) (fun _ _ _ => rfl) d
  | succ n ih => intro y0 y1 d; exact m_st_221_17 ih d
def V_221 (x1 : Int) (w : Row) : Int := LP_221_17 x1 (61 - 0 : Int).toNat (12 + (68 * (w ((452 + (24 * x1)) + 1)))) 0 w
theorem m_v_221 {x1 : Int} (d : mD) : v_221 769 x1 d = (V_221 x1 (d 770)) := by
  simp only [v_221, V_221, m_lp_221_17, mset_row, rset_self, rset_at, rset_rset, rset_ite, pr_ite, pr_mk, pr_rset, pr_1, pr_2, Int.reduceAdd]
def ST_222_7 (x1 : Int) (r7 : Int → Int → Row → Row) (x2 x3 : Int) (w : Row) : Row := if x3 < w (x2 + 1) then (if (0 : Int) < w (x2 + 5) then r7 x2 (x3 + 1) (W_220 x1 0 (ws (ws (ws w ((452 + (24 * (w (x2 + 7)))) + 4) 1) ((452 + (24 * (w (x2 + 7)))) + 3) (w 0)) (x2 + 6) ((w (x2 + 6)) + 1))) else w) else w
theorem m_st_222_7 {x1 x2 x3 : Int} {r7 : Int → Int → mD → mD} {R7 : Int → Int → Row → Row} (hr7 : ∀ (z0 z1 : Int) (d : mD), r7 z0 z1 d = (rset d (R7 z0 z1 (d 770)))) (d : mD) : st_222_7 769 x1 r7 x2 x3 d = (rset d (ST_222_7 x1 R7 x2 x3 (d 770))) := by
  simp only [st_222_7, ST_222_7, m_g_220, hr7, mset_row, rset_self, rset_at, rset_rset, rset_ite, pr_ite, pr_mk, pr_rset, pr_1, pr_2, Int.reduceAdd]
def LP_222_7 (x1 : Int) : Nat → Int → Int → Row → Row
  | 0 => ST_222_7 x1 (fun _ _ w => w)
  | n + 1 => ST_222_7 x1 (LP_222_7 x1 n)
theorem m_lp_222_7 {x1 : Int}   : ∀ (n : Nat) (y0 y1 : Int) (d : mD), lp_222_7 769 x1 n y0 y1 d = (rset d (LP_222_7 x1 n y0 y1 (d 770))) := by
  intro n
  induction n with
  | zero => intro y0 y1 d; exact m_st_222_7 (r7 := (fun _ _ d => d)) (R7 := (fun _ _ w => w)) (fun _ _ d => (rset_self d).symm) d
  | succ n ih => intro y0 y1 d; exact m_st_222_7 ih d
def W_222 (x1 : Int) (w : Row) : Row := LP_222_7 x1 (4 - 0 : Int).toNat (12 + (68 * x1)) 0 w
theorem m_g_222 {x1 : Int} (d : mD) : g_222 769 x1 d = (rset d (W_222 x1 (d 770))) := by
  simp only [g_222, W_222, m_lp_222_7, mset_row, rset_self, rset_at, rset_rset, rset_ite, pr_ite, pr_mk, pr_rset, pr_1, pr_2, Int.reduceAdd]
def V_230 (x1 x2 : Int) (w : Row) : Int := if w ((452 + (24 * x2)) + 2) < w ((452 + (24 * x1)) + 2) then (if V_212 x1 w < V_212 x2 w then (if w ((452 + (24 * x1)) + 2) < V_212 x1 w then (V_212 x1 w) - (w ((452 + (24 * x1)) + 2)) else 0) else if w ((452 + (24 * x1)) + 2) < V_212 x2 w then (V_212 x2 w) - (w ((452 + (24 * x1)) + 2)) else 0) else if V_212 x1 w < V_212 x2 w then (if w ((452 + (24 * x2)) + 2) < V_212 x1 w then (V_212 x1 w) - (w ((452 + (24 * x2)) + 2)) else 0) else if w ((452 + (24 * x2)) + 2) < V_212 x2 w then (V_212 x2 w) - (w ((452 + (24 * x2)) + 2)) else 0
theorem m_v_230 {x1 x2 : Int} (d : mD) : v_230 769 x1 x2 d = (V_230 x1 x2 (d 770)) := by
  simp only [v_230, V_230, m_v_212, mset_row, rset_self, rset_at, rset_rset, rset_ite, pr_ite, pr_mk, pr_rset, pr_1, pr_2, Int.reduceAdd]
def ST_231_5 (x1 x2 : Int) (r5 : Int → Int → Row → Int) (x3 x4 : Int) (w : Row) : Int := if x4 < w 9 then (if x4 = x1 then r5 x3 (x4 + 1) w else if w ((452 + (24 * x4)) + 0) = x2 then (if w ((452 + (24 * x4)) + 1) = w ((452 + (24 * x1)) + 1) then (if x3 < V_230 x1 x4 w then r5 (V_230 x1 x4 w) (x4 + 1) w else r5 x3 (x4 + 1) w) else r5 x3 (x4 + 1) w) else r5 x3 (x4 + 1) w) else x3
theorem m_st_231_5 {x1 x2 x3 x4 : Int} {r5 : Int → Int → mD → Int} {R5 : Int → Int → Row → Int} (hr5 : ∀ (z0 z1 : Int) (d : mD), r5 z0 z1 d = (R5 z0 z1 (d 770))) (d : mD) : st_231_5 769 x1 x2 r5 x3 x4 d = (ST_231_5 x1 x2 R5 x3 x4 (d 770)) := by
  simp only [st_231_5, ST_231_5, m_v_230, hr5, mset_row, rset_self, rset_at, rset_rset, rset_ite, pr_ite, pr_mk, pr_rset, pr_1, pr_2, Int.reduceAdd]
def LP_231_5 (x1 x2 : Int) : Nat → Int → Int → Row → Int
  | 0 => ST_231_5 x1 x2 (fun _ _ w => 0)
  | n + 1 => ST_231_5 x1 x2 (LP_231_5 x1 x2 n)
theorem m_lp_231_5 {x1 x2 : Int}   : ∀ (n : Nat) (y0 y1 : Int) (d : mD), lp_231_5 769 x1 x2 n y0 y1 d = (LP_231_5 x1 x2 n y0 y1 (d 770)) := by
  intro n
  induction n with
  | zero => intro y0 y1 d; exact m_st_231_5 (r5 := (fun _ _ d => 0)) (R5 := (fun _ _ w => 0)) (fun _ _ _ => rfl) d
  | succ n ih => intro y0 y1 d; exact m_st_231_5 ih d
def V_231 (x1 x2 : Int) (w : Row) : Int := LP_231_5 x1 x2 (61 - 0 : Int).toNat 0 0 w
theorem m_v_231 {x1 x2 : Int} (d : mD) : v_231 769 x1 x2 d = (V_231 x1 x2 (d 770)) := by
  simp only [v_231, V_231, m_lp_231_5, mset_row, rset_self, rset_at, rset_rset, rset_ite, pr_ite, pr_mk, pr_rset, pr_1, pr_2, Int.reduceAdd]
def V_232 (x1 x2 : Int) (w : Row) : Int := if (0 : Int) < w (((452 + (24 * x1)) + 8) + x2) then (if ((w (((452 + (24 * x1)) + 8) + x2)) - 1) / 20 = (w 0) / 20 then 1 else 0) else 0
theorem m_v_232 {x1 x2 : Int} (d : mD) : v_232 769 x1 x2 d = (V_232 x1 x2 (d 770)) := by
  simp only [v_232, V_232, mset_row, rset_self, rset_at, rset_rset, rset_ite, pr_ite, pr_mk, pr_rset, pr_1, pr_2, Int.reduceAdd]
def ST_233_4 (x1 : Int) (r4 : Int → Int → Row → Int) (x2 x3 : Int) (w : Row) : Int := if x3 < w 9 then (if V_232 x3 x1 w = 0 then r4 (x2 + 0) (x3 + 1) w else r4 (x2 + 1) (x3 + 1) w) else x2
theorem m_st_233_4 {x1 x2 x3 : Int} {r4 : Int → Int → mD → Int} {R4 : Int → Int → Row → Int} (hr4 : ∀ (z0 z1 : Int) (d : mD), r4 z0 z1 d = (R4 z0 z1 (d 770))) (d : mD) : st_233_4 769 x1 r4 x2 x3 d = (ST_233_4 x1 R4 x2 x3 (d 770)) := by
  simp only [st_233_4, ST_233_4, m_v_232, hr4, mset_row, rset_self, rset_at, rset_rset, rset_ite, pr_ite, pr_mk, pr_rset, pr_1, pr_2, Int.reduceAdd]
def LP_233_4 (x1 : Int) : Nat → Int → Int → Row → Int
  | 0 => ST_233_4 x1 (fun _ _ w => 0)
  | n + 1 => ST_233_4 x1 (LP_233_4 x1 n)
theorem m_lp_233_4 {x1 : Int}   : ∀ (n : Nat) (y0 y1 : Int) (d : mD), lp_233_4 769 x1 n y0 y1 d = (LP_233_4 x1 n y0 y1 (d 770)) := by
  intro n
  induction n with
  | zero => intro y0 y1 d; exact m_st_233_4 (r4 := (fun _ _ d => 0)) (R4 := (fun _ _ w => 0)) (fun _ _ _ => rfl) d
  | succ n ih => intro y0 y1 d; exact m_st_233_4 ih d
def V_233 (x1 : Int) (w : Row) : Int := LP_233_4 x1 (61 - 0 : Int).toNat 0 0 w
theorem m_v_233 {x1 : Int} (d : mD) : v_233 769 x1 d = (V_233 x1 (d 770)) := by
  simp only [v_233, V_233, m_lp_233_4, mset_row, rset_self, rset_at, rset_rset, rset_ite, pr_ite, pr_mk, pr_rset, pr_1, pr_2, Int.reduceAdd]
def ST_223_71 (r71 : Int → Row → Row) (x1 : Int) (w : Row) : Row := if x1 < w 9 then (if (w 0) % 20 = 0 then (if w ((452 + (24 * x1)) + 6) = 0 then r71 (x1 + 1) w else r71 (x1 + 1) (W_218 x1 w)) else W_219 w) else W_219 w
theorem m_st_223_71 {x1 : Int} {r71 : Int → mD → mD} {R71 : Int → Row → Row} (hr71 : ∀ (z0 : Int) (d : mD), r71 z0 d = (rset d (R71 z0 (d 770)))) (d : mD) : st_223_71 769 r71 x1 d = (rset d (ST_223_71 R71 x1 (d 770))) := by
  simp only [st_223_71, ST_223_71, m_g_218, m_g_219, hr71, mset_row, rset_self, rset_at, rset_rset, rset_ite, pr_ite, pr_mk, pr_rset, pr_1, pr_2, Int.reduceAdd]
def LP_223_71 : Nat → Int → Row → Row
  | 0 => ST_223_71 (fun _ w => w)
  | n + 1 => ST_223_71 (LP_223_71 n)
theorem m_lp_223_71   : ∀ (n : Nat) (y0 : Int) (d : mD), lp_223_71 769 n y0 d = (rset d (LP_223_71 n y0 (d 770))) := by
  intro n
  induction n with
  | zero => intro y0 d; exact m_st_223_71 (r71 := (fun _ d => d)) (R71 := (fun _ w => w)) (fun _ d => (rset_self d).symm) d
  | succ n ih => intro y0 d; exact m_st_223_71 ih d
def ST_223_12 (r12 : Int → Row → Row) (x1 : Int) (w : Row) : Row := if x1 < w 7 then (if w ((12 + (68 * x1)) + 4) = 0 then r12 (x1 + 1) w else if (w 0) % (w ((12 + (68 * x1)) + 2)) = 0 then r12 (x1 + 1) (W_222 x1 w) else r12 (x1 + 1) w) else LP_223_71 (61 - 0 : Int).toNat 0 w
theorem m_st_223_12 {x1 : Int} {r12 : Int → mD → mD} {R12 : Int → Row → Row} (hr12 : ∀ (z0 : Int) (d : mD), r12 z0 d = (rset d (R12 z0 (d 770)))) (d : mD) : st_223_12 769 r12 x1 d = (rset d (ST_223_12 R12 x1 (d 770))) := by
  simp only [st_223_12, ST_223_12, m_g_222, m_lp_223_71, hr12, mset_row, rset_self, rset_at, rset_rset, rset_ite, pr_ite, pr_mk, pr_rset, pr_1, pr_2, Int.reduceAdd]
def LP_223_12 : Nat → Int → Row → Row
  | 0 => ST_223_12 (fun _ w => w)
  | n + 1 => ST_223_12 (LP_223_12 n)
theorem m_lp_223_12   : ∀ (n : Nat) (y0 : Int) (d : mD), lp_223_12 769 n y0 d = (rset d (LP_223_12 n y0 (d 770))) := by
  intro n
  induction n with
  | zero => intro y0 d; exact m_st_223_12 (r12 := (fun _ d => d)) (R12 := (fun _ w => w)) (fun _ d => (rset_self d).symm) d
  | succ n ih => intro y0 d; exact m_st_223_12 ih d
def W_223 (w : Row) : Row := LP_223_12 (6 - 0 : Int).toNat 0 (ws w 0 ((w 0) + 1))
theorem m_g_223 (d : mD) : g_223 769 d = (rset d (W_223 (d 770))) := by
  simp only [g_223, W_223, m_lp_223_12, mset_row, rset_self, rset_at, rset_rset, rset_ite, pr_ite, pr_mk, pr_rset, pr_1, pr_2, Int.reduceAdd]
def ST_224_17 (x1 x2 : Int) (r17 : Int → Int → Int → Row → Int × Row) (x3 x4 x5 : Int) (w : Row) : Int × Row := if x5 < 24 then r17 x3 x4 (x5 + 1) (ws w (x4 + x5) 0) else (x3, ws (ws (ws (ws (ws (ws (ws w (x4 + 0) x1) (x4 + 1) x2) (x4 + 2) (w 0)) (x4 + 3) ((-1))) (((12 + (68 * x2)) + 7) + (w ((12 + (68 * x2)) + 5))) x3) ((12 + (68 * x2)) + 5) ((w ((12 + (68 * x2)) + 5)) + 1)) 9 ((w 9) + 1))
theorem m_st_224_17 {x1 x2 x3 x4 x5 : Int} {r17 : Int → Int → Int → mD → Int × mD} {R17 : Int → Int → Int → Row → Int × Row} (hr17 : ∀ (z0 z1 z2 : Int) (d : mD), r17 z0 z1 z2 d = (pr d (R17 z0 z1 z2 (d 770)))) (d : mD) : st_224_17 769 x1 x2 r17 x3 x4 x5 d = (pr d (ST_224_17 x1 x2 R17 x3 x4 x5 (d 770))) := by
  simp only [st_224_17, ST_224_17, hr17, mset_row, rset_self, rset_at, rset_rset, rset_ite, pr_ite, pr_mk, pr_rset, pr_1, pr_2, Int.reduceAdd]
def LP_224_17 (x1 x2 : Int) : Nat → Int → Int → Int → Row → Int × Row
  | 0 => ST_224_17 x1 x2 (fun _ _ _ w => (0, w))
  | n + 1 => ST_224_17 x1 x2 (LP_224_17 x1 x2 n)
theorem m_lp_224_17 {x1 x2 : Int}   : ∀ (n : Nat) (y0 y1 y2 : Int) (d : mD), lp_224_17 769 x1 x2 n y0 y1 y2 d = (pr d (LP_224_17 x1 x2 n y0 y1 y2 (d 770))) := by
  intro n
  induction n with
  | zero => intro y0 y1 y2 d; exact m_st_224_17 (r17 := (fun _ _ _ d => (0, d))) (R17 := (fun _ _ _ w => (0, w))) (fun _ _ _ d => by rw [pr_mk, rset_self]) d
  | succ n ih => intro y0 y1 y2 d; exact m_st_224_17 ih d
def F_224 (x1 x2 : Int) (w : Row) : Int × Row := LP_224_17 x1 x2 (24 - 0 : Int).toNat (w 9) (452 + (24 * (w 9))) 0 w
theorem m_f_224 {x1 x2 : Int} (d : mD) : f_224 769 x1 x2 d = (pr d (F_224 x1 x2 (d 770))) := by
  simp only [f_224, F_224, m_lp_224_17, mset_row, rset_self, rset_at, rset_rset, rset_ite, pr_ite, pr_mk, pr_rset, pr_1, pr_2, Int.reduceAdd]
def V_224 (x1 x2 : Int) (w : Row) : Int := (F_224 x1 x2 w).1
theorem m_v_224 {x1 x2 : Int} (d : mD) : v_224 769 x1 x2 d = (V_224 x1 x2 (d 770)) := by
  simp only [v_224, V_224, m_f_224, mset_row, rset_self, rset_at, rset_rset, rset_ite, pr_ite, pr_mk, pr_rset, pr_1, pr_2, Int.reduceAdd]
def W_224 (x1 x2 : Int) (w : Row) : Row := (F_224 x1 x2 w).2
theorem m_g_224 {x1 x2 : Int} (d : mD) : g_224 769 x1 x2 d = (rset d (W_224 x1 x2 (d 770))) := by
  simp only [g_224, W_224, m_f_224, mset_row, rset_self, rset_at, rset_rset, rset_ite, pr_ite, pr_mk, pr_rset, pr_1, pr_2, Int.reduceAdd]
def ST_225_57 (x1 x2 : Int) (r57 : Int → Int → Int → Row → Int) (x3 x4 x5 : Int) (w : Row) : Int := if x5 < w (x3 + 5) then (if w ((452 + (24 * (w ((x3 + 7) + x5)))) + 0) = x1 then r57 x3 (miand x4 0) (x5 + 1) w else r57 x3 (miand x4 1) (x5 + 1) w) else x4
theorem m_st_225_57 {x1 x2 x3 x4 x5 : Int} {r57 : Int → Int → Int → mD → Int} {R57 : Int → Int → Int → Row → Int} (hr57 : ∀ (z0 z1 z2 : Int) (d : mD), r57 z0 z1 z2 d = (R57 z0 z1 z2 (d 770))) (d : mD) : st_225_57 769 x1 x2 r57 x3 x4 x5 d = (ST_225_57 x1 x2 R57 x3 x4 x5 (d 770)) := by
  simp only [st_225_57, ST_225_57, hr57, mset_row, rset_self, rset_at, rset_rset, rset_ite, pr_ite, pr_mk, pr_rset, pr_1, pr_2, Int.reduceAdd]
def LP_225_57 (x1 x2 : Int) : Nat → Int → Int → Int → Row → Int
  | 0 => ST_225_57 x1 x2 (fun _ _ _ w => 0)
  | n + 1 => ST_225_57 x1 x2 (LP_225_57 x1 x2 n)
theorem m_lp_225_57 {x1 x2 : Int}   : ∀ (n : Nat) (y0 y1 y2 : Int) (d : mD), lp_225_57 769 x1 x2 n y0 y1 y2 d = (LP_225_57 x1 x2 n y0 y1 y2 (d 770)) := by
  intro n
  induction n with
  | zero => intro y0 y1 y2 d; exact m_st_225_57 (r57 := (fun _ _ _ d => 0)) (R57 := (fun _ _ _ w => 0)) (fun _ _ _ _ => rfl) d
  | succ n ih => intro y0 y1 y2 d; exact m_st_225_57 ih d
def V_225 (x1 x2 : Int) (w : Row) : Int := if w 9 < 60 then (if w ((12 + (68 * x2)) + 4) = 0 then LP_225_57 x1 x2 (61 - 0 : Int).toNat (12 + (68 * x2)) 0 0 w else if w ((12 + (68 * x2)) + 5) < w ((12 + (68 * x2)) + 3) then LP_225_57 x1 x2 (61 - 0 : Int).toNat (12 + (68 * x2)) 1 0 w else LP_225_57 x1 x2 (61 - 0 : Int).toNat (12 + (68 * x2)) 0 0 w) else LP_225_57 x1 x2 (61 - 0 : Int).toNat (12 + (68 * x2)) 0 0 w
theorem m_v_225 {x1 x2 : Int} (d : mD) : v_225 769 x1 x2 d = (V_225 x1 x2 (d 770)) := by
  simp only [v_225, V_225, m_lp_225_57, mset_row, rset_self, rset_at, rset_rset, rset_ite, pr_ite, pr_mk, pr_rset, pr_1, pr_2, Int.reduceAdd]
def V_226 (x1 x2 : Int) (w : Row) : Int := V_224 x1 x2 w
theorem m_v_226 {x1 x2 : Int} (d : mD) : v_226 769 x1 x2 d = (V_226 x1 x2 (d 770)) := by
  simp only [v_226, V_226, m_v_224, mset_row, rset_self, rset_at, rset_rset, rset_ite, pr_ite, pr_mk, pr_rset, pr_1, pr_2, Int.reduceAdd]
def W_226 (x1 x2 : Int) (w : Row) : Row := W_224 x1 x2 w
theorem m_g_226 {x1 x2 : Int} (d : mD) : g_226 769 x1 x2 d = (rset d (W_226 x1 x2 (d 770))) := by
  simp only [g_226, W_226, m_g_224, mset_row, rset_self, rset_at, rset_rset, rset_ite, pr_ite, pr_mk, pr_rset, pr_1, pr_2, Int.reduceAdd]
def V_227 (x1 : Int) (w : Row) : Int := if w ((452 + (24 * x1)) + 4) = 1 then (if w ((452 + (24 * x1)) + 5) = 0 then 1 else 0) else 0
theorem m_v_227 {x1 : Int} (d : mD) : v_227 769 x1 d = (V_227 x1 (d 770)) := by
  simp only [v_227, V_227, mset_row, rset_self, rset_at, rset_rset, rset_ite, pr_ite, pr_mk, pr_rset, pr_1, pr_2, Int.reduceAdd]
def V_228 (x1 : Int) (w : Row) : Int := if (0 : Int) < w 3 then 0 else V_218 x1 (ws (ws w ((452 + (24 * x1)) + 5) 1) ((452 + (24 * x1)) + 6) 1)
theorem m_v_228 {x1 : Int} (d : mD) : v_228 769 x1 d = (V_228 x1 (d 770)) := by
  simp only [v_228, V_228, m_v_218, mset_row, rset_self, rset_at, rset_rset, rset_ite, pr_ite, pr_mk, pr_rset, pr_1, pr_2, Int.reduceAdd]
def W_228 (x1 : Int) (w : Row) : Row := if (0 : Int) < w 3 then ws w ((452 + (24 * x1)) + 5) 1 else W_218 x1 (ws (ws w ((452 + (24 * x1)) + 5) 1) ((452 + (24 * x1)) + 6) 1)
theorem m_g_228 {x1 : Int} (d : mD) : g_228 769 x1 d = (rset d (W_228 x1 (d 770))) := by
  simp only [g_228, W_228, m_g_218, mset_row, rset_self, rset_at, rset_rset, rset_ite, pr_ite, pr_mk, pr_rset, pr_1, pr_2, Int.reduceAdd]
def V_235 (x1 x2 : Int) (w : Row) : Int := if (w ((452 + (24 * x1)) + 7)) + 1 < w 3 then 0 else V_218 x1 (ws (ws (ws w (((452 + (24 * x1)) + 8) + x2) ((w 0) + 1)) ((452 + (24 * x1)) + 7) ((w ((452 + (24 * x1)) + 7)) + 1)) ((452 + (24 * x1)) + 6) 1)
theorem m_v_235 {x1 x2 : Int} (d : mD) : v_235 769 x1 x2 d = (V_235 x1 x2 (d 770)) := by
  simp only [v_235, V_235, m_v_218, mset_row, rset_self, rset_at, rset_rset, rset_ite, pr_ite, pr_mk, pr_rset, pr_1, pr_2, Int.reduceAdd]
def W_235 (x1 x2 : Int) (w : Row) : Row := if (w ((452 + (24 * x1)) + 7)) + 1 < w 3 then ws (ws w (((452 + (24 * x1)) + 8) + x2) ((w 0) + 1)) ((452 + (24 * x1)) + 7) ((w ((452 + (24 * x1)) + 7)) + 1) else W_218 x1 (ws (ws (ws w (((452 + (24 * x1)) + 8) + x2) ((w 0) + 1)) ((452 + (24 * x1)) + 7) ((w ((452 + (24 * x1)) + 7)) + 1)) ((452 + (24 * x1)) + 6) 1)
theorem m_g_235 {x1 x2 : Int} (d : mD) : g_235 769 x1 x2 d = (rset d (W_235 x1 x2 (d 770))) := by
  simp only [g_235, W_235, m_g_218, mset_row, rset_self, rset_at, rset_rset, rset_ite, pr_ite, pr_mk, pr_rset, pr_1, pr_2, Int.reduceAdd]
def ST_234_97 (x1 x2 : Int) (r97 : Int → Int → Int → Row → Int) (x3 x4 x5 : Int) (w : Row) : Int := if x5 < w 9 then (if w ((452 + (24 * x5)) + 0) = x2 then (if V_232 x5 (w (x3 + 0)) w = 0 then r97 x3 (mior x4 0) (x5 + 1) w else r97 x3 (mior x4 1) (x5 + 1) w) else r97 x3 (mior x4 0) (x5 + 1) w) else if x4 = 0 then 0 else 7
theorem m_st_234_97 {x1 x2 x3 x4 x5 : Int} {r97 : Int → Int → Int → mD → Int} {R97 : Int → Int → Int → Row → Int} (hr97 : ∀ (z0 z1 z2 : Int) (d : mD), r97 z0 z1 z2 d = (R97 z0 z1 z2 (d 770))) (d : mD) : st_234_97 769 x1 x2 r97 x3 x4 x5 d = (ST_234_97 x1 x2 R97 x3 x4 x5 (d 770)) := by
  simp only [st_234_97, ST_234_97, m_v_232, hr97, mset_row, rset_self, rset_at, rset_rset, rset_ite, pr_ite, pr_mk, pr_rset, pr_1, pr_2, Int.reduceAdd]
def LP_234_97 (x1 x2 : Int) : Nat → Int → Int → Int → Row → Int
  | 0 => ST_234_97 x1 x2 (fun _ _ _ w => 0)
  | n + 1 => ST_234_97 x1 x2 (LP_234_97 x1 x2 n)
theorem m_lp_234_97 {x1 x2 : Int}   : ∀ (n : Nat) (y0 y1 y2 : Int) (d : mD), lp_234_97 769 x1 x2 n y0 y1 y2 d = (LP_234_97 x1 x2 n y0 y1 y2 (d 770)) := by
  intro n
  induction n with
  | zero => intro y0 y1 y2 d; exact m_st_234_97 (r97 := (fun _ _ _ d => 0)) (R97 := (fun _ _ _ w => 0)) (fun _ _ _ _ => rfl) d
  | succ n ih => intro y0 y1 y2 d; exact m_st_234_97 ih d
def V_234 (x1 x2 : Int) (w : Row) : Int := if w ((452 + (24 * x1)) + 5) = 0 then 1 else if w ((452 + (24 * x1)) + 6) = 0 then (if w ((452 + (24 * x1)) + 0) = x2 then 3 else if w (((452 + (24 * x1)) + 8) + x2) = 0 then (if V_231 x1 x2 w < w 4 then 5 else if V_233 x2 w < 3 then LP_234_97 x1 x2 (61 - 0 : Int).toNat (452 + (24 * x1)) 0 0 w else 6) else 4) else 2
theorem m_v_234 {x1 x2 : Int} (d : mD) : v_234 769 x1 x2 d = (V_234 x1 x2 (d 770)) := by
  simp only [v_234, V_234, m_v_231, m_v_233, m_lp_234_97, mset_row, rset_self, rset_at, rset_rset, rset_ite, pr_ite, pr_mk, pr_rset, pr_1, pr_2, Int.reduceAdd]
def V_236 (x1 : Int) (w : Row) : Int := V_176 x1 0 ((w 7) - 1) w
theorem m_v_236 {x1 : Int} (d : mD) : v_236 769 x1 d = (V_236 x1 (d 770)) := by
  simp only [v_236, V_236, m_v_176, mset_row, rset_self, rset_at, rset_rset, rset_ite, pr_ite, pr_mk, pr_rset, pr_1, pr_2, Int.reduceAdd]
def V_237 (x1 : Int) (w : Row) : Int := V_176 x1 0 ((w 8) - 1) w
theorem m_v_237 {x1 : Int} (d : mD) : v_237 769 x1 d = (V_237 x1 (d 770)) := by
  simp only [v_237, V_237, m_v_176, mset_row, rset_self, rset_at, rset_rset, rset_ite, pr_ite, pr_mk, pr_rset, pr_1, pr_2, Int.reduceAdd]
def V_238 (x1 : Int) (w : Row) : Int := V_176 x1 0 ((w 9) - 1) w
theorem m_v_238 {x1 : Int} (d : mD) : v_238 769 x1 d = (V_238 x1 (d 770)) := by
  simp only [v_238, V_238, m_v_176, mset_row, rset_self, rset_at, rset_rset, rset_ite, pr_ite, pr_mk, pr_rset, pr_1, pr_2, Int.reduceAdd]
def ST_229_237 (x1 x2 : Int) (r199 : Int → Int → Int → Row → Row) (r237 : Int → Int → Int → Int → Int → Int → Row → Row) (x3 x4 x5 x6 x7 x8 : Int) (w : Row) : Row := if x8 < x5 then (if w ((452 + (24 * (w ((x4 + 7) + x8)))) + 0) = w (x6 + 0) then r237 x3 x4 x5 x6 (mior x7 1) (x8 + 1) w else r237 x3 x4 x5 x6 (mior x7 0) (x8 + 1) w) else if x7 = 0 then r199 x3 x4 (x5 + 1) w else r199 x3 x4 x5 (W_220 x2 x5 (ws (ws w (x6 + 4) 2) (x6 + 3) (w 0)))
theorem m_st_229_237 {x1 x2 x3 x4 x5 x6 x7 x8 : Int} {r199 : Int → Int → Int → mD → mD} {R199 : Int → Int → Int → Row → Row} {r237 : Int → Int → Int → Int → Int → Int → mD → mD} {R237 : Int → Int → Int → Int → Int → Int → Row → Row} (hr199 : ∀ (z0 z1 z2 : Int) (d : mD), r199 z0 z1 z2 d = (rset d (R199 z0 z1 z2 (d 770)))) (hr237 : ∀ (z0 z1 z2 z3 z4 z5 : Int) (d : mD), r237 z0 z1 z2 z3 z4 z5 d = (rset d (R237 z0 z1 z2 z3 z4 z5 (d 770)))) (d : mD) : st_229_237 769 x1 x2 r199 r237 x3 x4 x5 x6 x7 x8 d = (rset d (ST_229_237 x1 x2 R199 R237 x3 x4 x5 x6 x7 x8 (d 770))) := by
  simp only [st_229_237, ST_229_237, m_g_220, hr199, hr237, mset_row, rset_self, rset_at, rset_rset, rset_ite, pr_ite, pr_mk, pr_rset, pr_1, pr_2, Int.reduceAdd]
def LP_229_237 (x1 x2 : Int) (r199 : Int → Int → Int → Row → Row) : Nat → Int → Int → Int → Int → Int → Int → Row → Row
  | 0 => ST_229_237 x1 x2 r199 (fun _ _ _ _ _ _ w => w)
  | n + 1 => ST_229_237 x1 x2 r199 (LP_229_237 x1 x2 r199 n)
theorem m_lp_229_237 {x1 x2 : Int} {r199 : Int → Int → Int → mD → mD} {R199 : Int → Int → Int → Row → Row} (hr199 : ∀ (z0 z1 z2 : Int) (d : mD), r199 z0 z1 z2 d = (rset d (R199 z0 z1 z2 (d 770)))) : ∀ (n : Nat) (y0 y1 y2 y3 y4 y5 : Int) (d : mD), lp_229_237 769 x1 x2 r199 n y0 y1 y2 y3 y4 y5 d = (rset d (LP_229_237 x1 x2 R199 n y0 y1 y2 y3 y4 y5 (d 770))) := by
  intro n
  induction n with
  | zero => intro y0 y1 y2 y3 y4 y5 d; exact m_st_229_237 (r237 := (fun _ _ _ _ _ _ d => d)) (R237 := (fun _ _ _ _ _ _ w => w)) hr199 (fun _ _ _ _ _ _ d => (rset_self d).symm) d
  | succ n ih => intro y0 y1 y2 y3 y4 y5 d; exact m_st_229_237 hr199 ih d
def ST_229_199 (x1 x2 : Int) (r199 : Int → Int → Int → Row → Row) (x3 x4 x5 : Int) (w : Row) : Row := if x5 < w (x4 + 5) then LP_229_237 x1 x2 r199 (x5 - 0 : Int).toNat x3 x4 x5 (452 + (24 * (w ((x4 + 7) + x5)))) 0 0 w else w
theorem m_st_229_199 {x1 x2 x3 x4 x5 : Int} {r199 : Int → Int → Int → mD → mD} {R199 : Int → Int → Int → Row → Row} (hr199 : ∀ (z0 z1 z2 : Int) (d : mD), r199 z0 z1 z2 d = (rset d (R199 z0 z1 z2 (d 770)))) (d : mD) : st_229_199 769 x1 x2 r199 x3 x4 x5 d = (rset d (ST_229_199 x1 x2 R199 x3 x4 x5 (d 770))) := by
  simp only [st_229_199, ST_229_199, m_lp_229_237 hr199, hr199, mset_row, rset_self, rset_at, rset_rset, rset_ite, pr_ite, pr_mk, pr_rset, pr_1, pr_2, Int.reduceAdd]
def LP_229_199 (x1 x2 : Int) : Nat → Int → Int → Int → Row → Row
  | 0 => ST_229_199 x1 x2 (fun _ _ _ w => w)
  | n + 1 => ST_229_199 x1 x2 (LP_229_199 x1 x2 n)
theorem m_lp_229_199 {x1 x2 : Int}   : ∀ (n : Nat) (y0 y1 y2 : Int) (d : mD), lp_229_199 769 x1 x2 n y0 y1 y2 d = (rset d (LP_229_199 x1 x2 n y0 y1 y2 (d 770))) := by
  intro n
  induction n with
  | zero => intro y0 y1 y2 d; exact m_st_229_199 (r199 := (fun _ _ _ d => d)) (R199 := (fun _ _ _ w => w)) (fun _ _ _ d => (rset_self d).symm) d
  | succ n ih => intro y0 y1 y2 d; exact m_st_229_199 ih d
def ST_229_61 (x1 x2 : Int) (r23 : Int → Int → Int → Row → Row) (r61 : Int → Int → Int → Int → Int → Row → Row) (x3 x4 x5 x6 x7 : Int) (w : Row) : Row := if (0 : Int) < x7 then (if w ((452 + (24 * x6)) + 2) < w ((452 + (24 * (w (((x4 + 7) + x7) - 1)))) + 2) then r61 x3 x4 x5 x6 (x7 + (-1)) (ws w ((x4 + 7) + x7) (w (((x4 + 7) + x7) - 1))) else r23 x3 x4 (x5 + 1) (ws (ws (ws w ((x4 + 7) + x7) x6) (x4 + 5) ((w (x4 + 5)) + 1)) ((452 + (24 * x6)) + 1) x2)) else r23 x3 x4 (x5 + 1) (ws (ws (ws w ((x4 + 7) + x7) x6) (x4 + 5) ((w (x4 + 5)) + 1)) ((452 + (24 * x6)) + 1) x2)
theorem m_st_229_61 {x1 x2 x3 x4 x5 x6 x7 : Int} {r23 : Int → Int → Int → mD → mD} {R23 : Int → Int → Int → Row → Row} {r61 : Int → Int → Int → Int → Int → mD → mD} {R61 : Int → Int → Int → Int → Int → Row → Row} (hr23 : ∀ (z0 z1 z2 : Int) (d : mD), r23 z0 z1 z2 d = (rset d (R23 z0 z1 z2 (d 770)))) (hr61 : ∀ (z0 z1 z2 z3 z4 : Int) (d : mD), r61 z0 z1 z2 z3 z4 d = (rset d (R61 z0 z1 z2 z3 z4 (d 770)))) (d : mD) : st_229_61 769 x1 x2 r23 r61 x3 x4 x5 x6 x7 d = (rset d (ST_229_61 x1 x2 R23 R61 x3 x4 x5 x6 x7 (d 770))) := by
  simp only [st_229_61, ST_229_61, hr23, hr61, mset_row, rset_self, rset_at, rset_rset, rset_ite, pr_ite, pr_mk, pr_rset, pr_1, pr_2, Int.reduceAdd]
def LP_229_61 (x1 x2 : Int) (r23 : Int → Int → Int → Row → Row) : Nat → Int → Int → Int → Int → Int → Row → Row
  | 0 => ST_229_61 x1 x2 r23 (fun _ _ _ _ _ w => w)
  | n + 1 => ST_229_61 x1 x2 r23 (LP_229_61 x1 x2 r23 n)
theorem m_lp_229_61 {x1 x2 : Int} {r23 : Int → Int → Int → mD → mD} {R23 : Int → Int → Int → Row → Row} (hr23 : ∀ (z0 z1 z2 : Int) (d : mD), r23 z0 z1 z2 d = (rset d (R23 z0 z1 z2 (d 770)))) : ∀ (n : Nat) (y0 y1 y2 y3 y4 : Int) (d : mD), lp_229_61 769 x1 x2 r23 n y0 y1 y2 y3 y4 d = (rset d (LP_229_61 x1 x2 R23 n y0 y1 y2 y3 y4 (d 770))) := by
  intro n
  induction n with
  | zero => intro y0 y1 y2 y3 y4 d; exact m_st_229_61 (r61 := (fun _ _ _ _ _ d => d)) (R61 := (fun _ _ _ _ _ w => w)) hr23 (fun _ _ _ _ _ d => (rset_self d).symm) d
  | succ n ih => intro y0 y1 y2 y3 y4 d; exact m_st_229_61 hr23 ih d
def ST_229_23 (x1 x2 : Int) (r23 : Int → Int → Int → Row → Row) (x3 x4 x5 : Int) (w : Row) : Row := if x5 < w (x3 + 5) then LP_229_61 x1 x2 r23 ((w (x4 + 5)) : Int).toNat x3 x4 x5 (w ((x3 + 7) + x5)) (w (x4 + 5)) w else LP_229_199 x1 x2 ((ws w (x3 + 5) 0) (12 + 68 * x2 + 5) - 0 : Int).toNat x3 x4 0 (ws w (x3 + 5) 0)
theorem m_st_229_23 {x1 x2 x3 x4 x5 : Int} {r23 : Int → Int → Int → mD → mD} {R23 : Int → Int → Int → Row → Row} (hr23 : ∀ (z0 z1 z2 : Int) (d : mD), r23 z0 z1 z2 d = (rset d (R23 z0 z1 z2 (d 770)))) (d : mD) : st_229_23 769 x1 x2 r23 x3 x4 x5 d = (rset d (ST_229_23 x1 x2 R23 x3 x4 x5 (d 770))) := by
  simp only [st_229_23, ST_229_23, m_lp_229_199, m_lp_229_61 hr23, hr23, mset_row, rset_self, rset_at, rset_rset, rset_ite, pr_ite, pr_mk, pr_rset, pr_1, pr_2, Int.reduceAdd]
def LP_229_23 (x1 x2 : Int) : Nat → Int → Int → Int → Row → Row
  | 0 => ST_229_23 x1 x2 (fun _ _ _ w => w)
  | n + 1 => ST_229_23 x1 x2 (LP_229_23 x1 x2 n)
theorem m_lp_229_23 {x1 x2 : Int}   : ∀ (n : Nat) (y0 y1 y2 : Int) (d : mD), lp_229_23 769 x1 x2 n y0 y1 y2 d = (rset d (LP_229_23 x1 x2 n y0 y1 y2 (d 770))) := by
  intro n
  induction n with
  | zero => intro y0 y1 y2 d; exact m_st_229_23 (r23 := (fun _ _ _ d => d)) (R23 := (fun _ _ _ w => w)) (fun _ _ _ d => (rset_self d).symm) d
  | succ n ih => intro y0 y1 y2 d; exact m_st_229_23 ih d
def W_229 (x1 x2 : Int) (w : Row) : Row := LP_229_23 x1 x2 (61 - 0 : Int).toNat (12 + (68 * x1)) (12 + (68 * x2)) 0 (ws w ((12 + (68 * x1)) + 4) 0)
theorem m_g_229 {x1 x2 : Int} (d : mD) : g_229 769 x1 x2 d = (rset d (W_229 x1 x2 (d 770))) := by
  simp only [g_229, W_229, m_lp_229_23, mset_row, rset_self, rset_at, rset_rset, rset_ite, pr_ite, pr_mk, pr_rset, pr_1, pr_2, Int.reduceAdd]
def ST_243_2 (x1 x2 : Int) (r2 : Int → Row → Int) (x3 : Int) (w : Row) : Int := if x3 < w 9 then (if w ((452 + (24 * x3)) + 0) = x1 then (if w ((452 + (24 * x3)) + 4) = 1 then (if V_214 x3 x2 w = 0 then r2 (x3 + 1) w else 1) else r2 (x3 + 1) w) else r2 (x3 + 1) w) else 0
theorem m_st_243_2 {x1 x2 x3 : Int} {r2 : Int → mD → Int} {R2 : Int → Row → Int} (hr2 : ∀ (z0 : Int) (d : mD), r2 z0 d = (R2 z0 (d 770))) (d : mD) : st_243_2 769 x1 x2 r2 x3 d = (ST_243_2 x1 x2 R2 x3 (d 770)) := by
  simp only [st_243_2, ST_243_2, m_v_214, hr2, mset_row, rset_self, rset_at, rset_rset, rset_ite, pr_ite, pr_mk, pr_rset, pr_1, pr_2, Int.reduceAdd]
def LP_243_2 (x1 x2 : Int) : Nat → Int → Row → Int
  | 0 => ST_243_2 x1 x2 (fun _ w => 0)
  | n + 1 => ST_243_2 x1 x2 (LP_243_2 x1 x2 n)
theorem m_lp_243_2 {x1 x2 : Int}   : ∀ (n : Nat) (y0 : Int) (d : mD), lp_243_2 769 x1 x2 n y0 d = (LP_243_2 x1 x2 n y0 (d 770)) := by
  intro n
  induction n with
  | zero => intro y0 d; exact m_st_243_2 (r2 := (fun _ d => 0)) (R2 := (fun _ w => 0)) (fun _ _ => rfl) d
  | succ n ih => intro y0 d; exact m_st_243_2 ih d
def V_243 (x1 x2 : Int) (w : Row) : Int := LP_243_2 x1 x2 (61 - 0 : Int).toNat 0 w
theorem m_v_243 {x1 x2 : Int} (d : mD) : v_243 769 x1 x2 d = (V_243 x1 x2 (d 770)) := by
  simp only [v_243, V_243, m_lp_243_2, mset_row, rset_self, rset_at, rset_rset, rset_ite, pr_ite, pr_mk, pr_rset, pr_1, pr_2, Int.reduceAdd]
def ST_244_5 (x1 x2 : Int) (r5 : Int → Int → Row → Int) (x3 x4 : Int) (w : Row) : Int := if x4 < w 0 then (if V_243 x1 x4 w = 0 then r5 (x3 + 0) (x4 + 1) w else if x2 = 0 then r5 (x3 + 1) (x4 + 1) w else if V_216 x1 x4 w = 0 then r5 (x3 + 1) (x4 + 1) w else r5 (x3 + 0) (x4 + 1) w) else x3
theorem m_st_244_5 {x1 x2 x3 x4 : Int} {r5 : Int → Int → mD → Int} {R5 : Int → Int → Row → Int} (hr5 : ∀ (z0 z1 : Int) (d : mD), r5 z0 z1 d = (R5 z0 z1 (d 770))) (d : mD) : st_244_5 769 x1 x2 r5 x3 x4 d = (ST_244_5 x1 x2 R5 x3 x4 (d 770)) := by
  simp only [st_244_5, ST_244_5, m_v_216, m_v_243, hr5, mset_row, rset_self, rset_at, rset_rset, rset_ite, pr_ite, pr_mk, pr_rset, pr_1, pr_2, Int.reduceAdd]
def LP_244_5 (x1 x2 : Int) : Nat → Int → Int → Row → Int
  | 0 => ST_244_5 x1 x2 (fun _ _ w => 0)
  | n + 1 => ST_244_5 x1 x2 (LP_244_5 x1 x2 n)
theorem m_lp_244_5 {x1 x2 : Int}   : ∀ (n : Nat) (y0 y1 : Int) (d : mD), lp_244_5 769 x1 x2 n y0 y1 d = (LP_244_5 x1 x2 n y0 y1 (d 770)) := by
  intro n
  induction n with
  | zero => intro y0 y1 d; exact m_st_244_5 (r5 := (fun _ _ d => 0)) (R5 := (fun _ _ w => 0)) (fun _ _ _ => rfl) d
  | succ n ih => intro y0 y1 d; exact m_st_244_5 ih d
def V_244 (x1 x2 : Int) (w : Row) : Int := LP_244_5 x1 x2 (1200 - 0 : Int).toNat 0 0 w
theorem m_v_244 {x1 x2 : Int} (d : mD) : v_244 769 x1 x2 d = (V_244 x1 x2 (d 770)) := by
  simp only [v_244, V_244, m_lp_244_5, mset_row, rset_self, rset_at, rset_rset, rset_ite, pr_ite, pr_mk, pr_rset, pr_1, pr_2, Int.reduceAdd]
def ST_245_5 (x1 x2 : Int) (r5 : Int → Int → Row → Int) (x3 x4 : Int) (w : Row) : Int := if x4 < w 10 then (if w ((1916 + (5 * x4)) + 0) = x1 then (if w ((1916 + (5 * x4)) + 3) = x2 then r5 (x3 + 1) (x4 + 1) w else r5 (x3 + 0) (x4 + 1) w) else r5 (x3 + 0) (x4 + 1) w) else x3
theorem m_st_245_5 {x1 x2 x3 x4 : Int} {r5 : Int → Int → mD → Int} {R5 : Int → Int → Row → Int} (hr5 : ∀ (z0 z1 : Int) (d : mD), r5 z0 z1 d = (R5 z0 z1 (d 770))) (d : mD) : st_245_5 769 x1 x2 r5 x3 x4 d = (ST_245_5 x1 x2 R5 x3 x4 (d 770)) := by
  simp only [st_245_5, ST_245_5, hr5, mset_row, rset_self, rset_at, rset_rset, rset_ite, pr_ite, pr_mk, pr_rset, pr_1, pr_2, Int.reduceAdd]
def LP_245_5 (x1 x2 : Int) : Nat → Int → Int → Row → Int
  | 0 => ST_245_5 x1 x2 (fun _ _ w => 0)
  | n + 1 => ST_245_5 x1 x2 (LP_245_5 x1 x2 n)
theorem m_lp_245_5 {x1 x2 : Int}   : ∀ (n : Nat) (y0 y1 : Int) (d : mD), lp_245_5 769 x1 x2 n y0 y1 d = (LP_245_5 x1 x2 n y0 y1 (d 770)) := by
  intro n
  induction n with
  | zero => intro y0 y1 d; exact m_st_245_5 (r5 := (fun _ _ d => 0)) (R5 := (fun _ _ w => 0)) (fun _ _ _ => rfl) d
  | succ n ih => intro y0 y1 d; exact m_st_245_5 ih d
def V_245 (x1 x2 : Int) (w : Row) : Int := LP_245_5 x1 x2 (200 - 0 : Int).toNat 0 0 w
theorem m_v_245 {x1 x2 : Int} (d : mD) : v_245 769 x1 x2 d = (V_245 x1 x2 (d 770)) := by
  simp only [v_245, V_245, m_lp_245_5, mset_row, rset_self, rset_at, rset_rset, rset_ite, pr_ite, pr_mk, pr_rset, pr_1, pr_2, Int.reduceAdd]
def V_270 (x1 x2 : Int) (w : Row) : Int := if x1 = x2 then 0 else if w ((12 + (68 * x1)) + 4) = 0 then 0 else if w ((12 + (68 * x2)) + 4) = 0 then 0 else 1
theorem m_v_270 {x1 x2 : Int} (d : mD) : v_270 769 x1 x2 d = (V_270 x1 x2 (d 770)) := by
  simp only [v_270, V_270, mset_row, rset_self, rset_at, rset_rset, rset_ite, pr_ite, pr_mk, pr_rset, pr_1, pr_2, Int.reduceAdd]
def ST_271_4 (r4 : Int → Int → Row → Int) (x1 x2 : Int) (w : Row) : Int := if x2 < w 7 then r4 (x1 + (w ((12 + (68 * x2)) + 5))) (x2 + 1) w else x1
theorem m_st_271_4 {x1 x2 : Int} {r4 : Int → Int → mD → Int} {R4 : Int → Int → Row → Int} (hr4 : ∀ (z0 z1 : Int) (d : mD), r4 z0 z1 d = (R4 z0 z1 (d 770))) (d : mD) : st_271_4 769 r4 x1 x2 d = (ST_271_4 R4 x1 x2 (d 770)) := by
  simp only [st_271_4, ST_271_4, hr4, mset_row, rset_self, rset_at, rset_rset, rset_ite, pr_ite, pr_mk, pr_rset, pr_1, pr_2, Int.reduceAdd]
def LP_271_4 : Nat → Int → Int → Row → Int
  | 0 => ST_271_4 (fun _ _ w => 0)
  | n + 1 => ST_271_4 (LP_271_4 n)
theorem m_lp_271_4   : ∀ (n : Nat) (y0 y1 : Int) (d : mD), lp_271_4 769 n y0 y1 d = (LP_271_4 n y0 y1 (d 770)) := by
  intro n
  induction n with
  | zero => intro y0 y1 d; exact m_st_271_4 (r4 := (fun _ _ d => 0)) (R4 := (fun _ _ w => 0)) (fun _ _ _ => rfl) d
  | succ n ih => intro y0 y1 d; exact m_st_271_4 ih d
def V_271 (w : Row) : Int := LP_271_4 (6 - 0 : Int).toNat 0 0 w
theorem m_v_271 (d : mD) : v_271 769 d = (V_271 (d 770)) := by
  simp only [v_271, V_271, m_lp_271_4, mset_row, rset_self, rset_at, rset_rset, rset_ite, pr_ite, pr_mk, pr_rset, pr_1, pr_2, Int.reduceAdd]
def ST_281_4 (r4 : Int → Int → Row → Int) (x1 x2 : Int) (w : Row) : Int := if x2 < w 9 then (if w ((452 + (24 * x2)) + 4) = 1 then r4 (x1 + 1) (x2 + 1) w else r4 (x1 + 0) (x2 + 1) w) else x1
theorem m_st_281_4 {x1 x2 : Int} {r4 : Int → Int → mD → Int} {R4 : Int → Int → Row → Int} (hr4 : ∀ (z0 z1 : Int) (d : mD), r4 z0 z1 d = (R4 z0 z1 (d 770))) (d : mD) : st_281_4 769 r4 x1 x2 d = (ST_281_4 R4 x1 x2 (d 770)) := by
  simp only [st_281_4, ST_281_4, hr4, mset_row, rset_self, rset_at, rset_rset, rset_ite, pr_ite, pr_mk, pr_rset, pr_1, pr_2, Int.reduceAdd]
def LP_281_4 : Nat → Int → Int → Row → Int
  | 0 => ST_281_4 (fun _ _ w => 0)
  | n + 1 => ST_281_4 (LP_281_4 n)
theorem m_lp_281_4   : ∀ (n : Nat) (y0 y1 : Int) (d : mD), lp_281_4 769 n y0 y1 d = (LP_281_4 n y0 y1 (d 770)) := by
  intro n
  induction n with
  | zero => intro y0 y1 d; exact m_st_281_4 (r4 := (fun _ _ d => 0)) (R4 := (fun _ _ w => 0)) (fun _ _ _ => rfl) d
  | succ n ih => intro y0 y1 d; exact m_st_281_4 ih d
def V_281 (w : Row) : Int := LP_281_4 (61 - 0 : Int).toNat 0 0 w
theorem m_v_281 (d : mD) : v_281 769 d = (V_281 (d 770)) := by
  simp only [v_281, V_281, m_lp_281_4, mset_row, rset_self, rset_at, rset_rset, rset_ite, pr_ite, pr_mk, pr_rset, pr_1, pr_2, Int.reduceAdd]
def ST_263_2 (x1 : Int) (r2 : Int → Row → Int × Row) (x2 : Int) (w : Row) : Int × Row := if (200 : Int) < x2 then (x2, w) else if w ((452 + (24 * x1)) + 4) = 1 then (x2, w) else r2 (x2 + 1) (W_223 w)
theorem m_st_263_2 {x1 x2 : Int} {r2 : Int → mD → Int × mD} {R2 : Int → Row → Int × Row} (hr2 : ∀ (z0 : Int) (d : mD), r2 z0 d = (pr d (R2 z0 (d 770)))) (d : mD) : st_263_2 769 x1 r2 x2 d = (pr d (ST_263_2 x1 R2 x2 (d 770))) := by
  simp only [st_263_2, ST_263_2, m_g_223, hr2, mset_row, rset_self, rset_at, rset_rset, rset_ite, pr_ite, pr_mk, pr_rset, pr_1, pr_2, Int.reduceAdd]
def LP_263_2 (x1 : Int) : Nat → Int → Row → Int × Row
  | 0 => ST_263_2 x1 (fun _ w => (0, w))
  | n + 1 => ST_263_2 x1 (LP_263_2 x1 n)
theorem m_lp_263_2 {x1 : Int}   : ∀ (n : Nat) (y0 : Int) (d : mD), lp_263_2 769 x1 n y0 d = (pr d (LP_263_2 x1 n y0 (d 770))) := by
  intro n
  induction n with
  | zero => intro y0 d; exact m_st_263_2 (r2 := (fun _ d => (0, d))) (R2 := (fun _ w => (0, w))) (fun _ d => by rw [pr_mk, rset_self]) d
  | succ n ih => intro y0 d; exact m_st_263_2 ih d
def F_263 (x1 : Int) (w : Row) : Int × Row := LP_263_2 x1 (201 - 0 : Int).toNat 0 w
theorem m_f_263 {x1 : Int} (d : mD) : f_263 769 x1 d = (pr d (F_263 x1 (d 770))) := by
  simp only [f_263, F_263, m_lp_263_2, mset_row, rset_self, rset_at, rset_rset, rset_ite, pr_ite, pr_mk, pr_rset, pr_1, pr_2, Int.reduceAdd]
def V_263 (x1 : Int) (w : Row) : Int := (F_263 x1 w).1
theorem m_v_263 {x1 : Int} (d : mD) : v_263 769 x1 d = (V_263 x1 (d 770)) := by
  simp only [v_263, V_263, m_f_263, mset_row, rset_self, rset_at, rset_rset, rset_ite, pr_ite, pr_mk, pr_rset, pr_1, pr_2, Int.reduceAdd]
def W_263 (x1 : Int) (w : Row) : Row := (F_263 x1 w).2
theorem m_g_263 {x1 : Int} (d : mD) : g_263 769 x1 d = (rset d (W_263 x1 (d 770))) := by
  simp only [g_263, W_263, m_f_263, mset_row, rset_self, rset_at, rset_rset, rset_ite, pr_ite, pr_mk, pr_rset, pr_1, pr_2, Int.reduceAdd]
def ST_282_59 (x1 : Int) (r59 : Int → Int → Row → Int × Row) (x2 x3 : Int) (w : Row) : Int × Row := if x3 < x1 then r59 x2 (x3 + 1) (W_223 w) else ((V_281 w) - x2, w)
theorem m_st_282_59 {x1 x2 x3 : Int} {r59 : Int → Int → mD → Int × mD} {R59 : Int → Int → Row → Int × Row} (hr59 : ∀ (z0 z1 : Int) (d : mD), r59 z0 z1 d = (pr d (R59 z0 z1 (d 770)))) (d : mD) : st_282_59 769 x1 r59 x2 x3 d = (pr d (ST_282_59 x1 R59 x2 x3 (d 770))) := by
  simp only [st_282_59, ST_282_59, m_g_223, m_v_281, hr59, mset_row, rset_self, rset_at, rset_rset, rset_ite, pr_ite, pr_mk, pr_rset, pr_1, pr_2, Int.reduceAdd]
def LP_282_59 (x1 : Int) : Nat → Int → Int → Row → Int × Row
  | 0 => ST_282_59 x1 (fun _ _ w => (0, w))
  | n + 1 => ST_282_59 x1 (LP_282_59 x1 n)
theorem m_lp_282_59 {x1 : Int}   : ∀ (n : Nat) (y0 y1 : Int) (d : mD), lp_282_59 769 x1 n y0 y1 d = (pr d (LP_282_59 x1 n y0 y1 (d 770))) := by
  intro n
  induction n with
  | zero => intro y0 y1 d; exact m_st_282_59 (r59 := (fun _ _ d => (0, d))) (R59 := (fun _ _ w => (0, w))) (fun _ _ d => by rw [pr_mk, rset_self]) d
  | succ n ih => intro y0 y1 d; exact m_st_282_59 ih d
def ST_285_79 (x1 x2 x3 : Int) (r79 : Int → Int → Row → Int × Row) (x4 x5 : Int) (w : Row) : Int × Row := if x5 < w 10 then (if (0 : Int) < x4 then (if w ((1916 + (5 * x5)) + 0) = x1 then (if w ((1916 + (5 * x5)) + 3) = 0 then r79 (x4 + (-1)) (x5 + 1) (ws w ((1916 + (5 * x5)) + 0) x2) else r79 x4 (x5 + 1) w) else r79 x4 (x5 + 1) w) else (V_245 x2 0 w, w)) else (V_245 x2 0 w, w)
theorem m_st_285_79 {x1 x2 x3 x4 x5 : Int} {r79 : Int → Int → mD → Int × mD} {R79 : Int → Int → Row → Int × Row} (hr79 : ∀ (z0 z1 : Int) (d : mD), r79 z0 z1 d = (pr d (R79 z0 z1 (d 770)))) (d : mD) : st_285_79 769 x1 x2 x3 r79 x4 x5 d = (pr d (ST_285_79 x1 x2 x3 R79 x4 x5 (d 770))) := by
  simp only [st_285_79, ST_285_79, m_v_245, hr79, mset_row, rset_self, rset_at, rset_rset, rset_ite, pr_ite, pr_mk, pr_rset, pr_1, pr_2, Int.reduceAdd]
def LP_285_79 (x1 x2 x3 : Int) : Nat → Int → Int → Row → Int × Row
  | 0 => ST_285_79 x1 x2 x3 (fun _ _ w => (0, w))
  | n + 1 => ST_285_79 x1 x2 x3 (LP_285_79 x1 x2 x3 n)
theorem m_lp_285_79 {x1 x2 x3 : Int}   : ∀ (n : Nat) (y0 y1 : Int) (d : mD), lp_285_79 769 x1 x2 x3 n y0 y1 d = (pr d (LP_285_79 x1 x2 x3 n y0 y1 (d 770))) := by
  intro n
  induction n with
  | zero => intro y0 y1 d; exact m_st_285_79 (r79 := (fun _ _ d => (0, d))) (R79 := (fun _ _ w => (0, w))) (fun _ _ d => by rw [pr_mk, rset_self]) d
  | succ n ih => intro y0 y1 d; exact m_st_285_79 ih d
def ST_289_64 (x1 : Int) (r64 : Int → Int → Row → Int × Row) (x2 x3 : Int) (w : Row) : Int × Row := if x3 < w 7 then r64 (x2 + (w ((12 + (68 * x3)) + 4))) (x3 + 1) w else (x2, w)
theorem m_st_289_64 {x1 x2 x3 : Int} {r64 : Int → Int → mD → Int × mD} {R64 : Int → Int → Row → Int × Row} (hr64 : ∀ (z0 z1 : Int) (d : mD), r64 z0 z1 d = (pr d (R64 z0 z1 (d 770)))) (d : mD) : st_289_64 769 x1 r64 x2 x3 d = (pr d (ST_289_64 x1 R64 x2 x3 (d 770))) := by
  simp only [st_289_64, ST_289_64, hr64, mset_row, rset_self, rset_at, rset_rset, rset_ite, pr_ite, pr_mk, pr_rset, pr_1, pr_2, Int.reduceAdd]
def LP_289_64 (x1 : Int) : Nat → Int → Int → Row → Int × Row
  | 0 => ST_289_64 x1 (fun _ _ w => (0, w))
  | n + 1 => ST_289_64 x1 (LP_289_64 x1 n)
theorem m_lp_289_64 {x1 : Int}   : ∀ (n : Nat) (y0 y1 : Int) (d : mD), lp_289_64 769 x1 n y0 y1 d = (pr d (LP_289_64 x1 n y0 y1 (d 770))) := by
  intro n
  induction n with
  | zero => intro y0 y1 d; exact m_st_289_64 (r64 := (fun _ _ d => (0, d))) (R64 := (fun _ _ w => (0, w))) (fun _ _ d => by rw [pr_mk, rset_self]) d
  | succ n ih => intro y0 y1 d; exact m_st_289_64 ih d
def V_291 (x0 : Int) (w : Row) : Int := if x0 < 2 then 0 else 1
theorem m_v_291 {x0 : Int} (d : mD) : v_291 x0 d = (V_291 x0 (d 770)) := by
  simp only [v_291, V_291, mset_row, rset_self, rset_at, rset_rset, rset_ite, pr_ite, pr_mk, pr_rset, pr_1, pr_2, Int.reduceAdd]
def V_292 (x0 : Int) (w : Row) : Int := if x0 = 1 then 3 else if x0 = 3 then 20 else if x0 = 4 then 99 else 9
theorem m_v_292 {x0 : Int} (d : mD) : v_292 x0 d = (V_292 x0 (d 770)) := by
  simp only [v_292, V_292, mset_row, rset_self, rset_at, rset_rset, rset_ite, pr_ite, pr_mk, pr_rset, pr_1, pr_2, Int.reduceAdd]
def ST_286_65 (x1 x2 : Int) (r65 : Int → Int → Row → Int × Row) (x3 x4 : Int) (w : Row) : Int × Row := if x4 < w 10 then (if (0 : Int) < x3 then (if w ((1916 + (5 * x4)) + 0) = x1 then (if w ((1916 + (5 * x4)) + 3) = 0 then r65 (x3 + (-1)) (x4 + 1) (ws (ws (ws w ((1916 + (5 * x4)) + 3) 1) (2916 + (w 11)) x4) 11 ((w 11) + 1)) else r65 x3 (x4 + 1) w) else r65 x3 (x4 + 1) w) else (V_219 w, W_219 w)) else (V_219 w, W_219 w)
theorem m_st_286_65 {x1 x2 x3 x4 : Int} {r65 : Int → Int → mD → Int × mD} {R65 : Int → Int → Row → Int × Row} (hr65 : ∀ (z0 z1 : Int) (d : mD), r65 z0 z1 d = (pr d (R65 z0 z1 (d 770)))) (d : mD) : st_286_65 769 x1 x2 r65 x3 x4 d = (pr d (ST_286_65 x1 x2 R65 x3 x4 (d 770))) := by
  simp only [st_286_65, ST_286_65, m_g_219, m_v_219, hr65, mset_row, rset_self, rset_at, rset_rset, rset_ite, pr_ite, pr_mk, pr_rset, pr_1, pr_2, Int.reduceAdd]
def LP_286_65 (x1 x2 : Int) : Nat → Int → Int → Row → Int × Row
  | 0 => ST_286_65 x1 x2 (fun _ _ w => (0, w))
  | n + 1 => ST_286_65 x1 x2 (LP_286_65 x1 x2 n)
theorem m_lp_286_65 {x1 x2 : Int}   : ∀ (n : Nat) (y0 y1 : Int) (d : mD), lp_286_65 769 x1 x2 n y0 y1 d = (pr d (LP_286_65 x1 x2 n y0 y1 (d 770))) := by
  intro n
  induction n with
  | zero => intro y0 y1 d; exact m_st_286_65 (r65 := (fun _ _ d => (0, d))) (R65 := (fun _ _ w => (0, w))) (fun _ _ d => by rw [pr_mk, rset_self]) d
  | succ n ih => intro y0 y1 d; exact m_st_286_65 ih d
/-! ===== bits of words ===== -/
def lb (W : Int) (k : Nat) : Bool := (Int64.ofInt W).toBitVec.getLsbD k
def ib (W : Int) (k : Nat) : Bool := (Int32.ofInt W).toBitVec.getLsbD k
theorem lb_zero (k : Nat) : lb 0 k = false := by
  unfold lb
  show (0#64).getLsbD k = false
  simp
theorem ib_zero (k : Nat) : ib 0 k = false := by
  unfold ib
  show (0#32).getLsbD k = false
  simp
theorem sh63 (k : Nat) (h : k < 64) : ((Int32.ofInt (k : Int)).toInt64 &&& 63).toBitVec.toNat = k := by
  have : ∀ k : Fin 64, ((Int32.ofInt ((k.val : Nat) : Int)).toInt64 &&& 63).toBitVec.toNat = k.val := by decide +kernel
  exact this ⟨k, h⟩
theorem sh63u (k : Nat) (h : k < 64) : ((Int32.ofInt (k : Int)).toInt64.toUInt64 &&& 63).toNat = k := by
  have : ∀ k : Fin 64, ((Int32.ofInt ((k.val : Nat) : Int)).toInt64.toUInt64 &&& 63).toNat = k.val := by decide +kernel
  exact this ⟨k, h⟩
theorem sh31 (k : Nat) (h : k < 32) : (Int32.ofInt (k : Int) &&& 31).toBitVec.toNat = k := by
  have : ∀ k : Fin 32, (Int32.ofInt ((k.val : Nat) : Int) &&& 31).toBitVec.toNat = k.val := by decide +kernel
  exact this ⟨k, h⟩
theorem i64_eq {a b : Int64} (h : a.toBitVec = b.toBitVec) : a = b := Int64.toBitVec_inj.mp h
theorem i32_eq {a b : Int32} (h : a.toBitVec = b.toBitVec) : a = b := Int32.toBitVec_inj.mp h
theorem bv_and1 {n : Nat} (hn : 0 < n) (x : BitVec n) : x &&& 1#n = if x.getLsbD 0 then 1#n else 0#n := by
  apply BitVec.eq_of_getLsbD_eq
  intro i hi
  rw [BitVec.getLsbD_and, BitVec.getLsbD_one]
  rcases Bool.eq_false_or_eq_true (x.getLsbD 0) with hx | hx
  · rw [hx]
    by_cases h0 : i = 0
    · subst h0
      rw [hx]
      simp [hn]
    · simp [h0]
  · rw [hx]
    by_cases h0 : i = 0
    · subst h0
      rw [hx]
      simp
    · simp [h0]
theorem lbget (W : Int) (k : Nat) (h : k < 64) : mland (mlushr W (k : Int)) 1 = if lb W k = true then 1 else 0 := by
  unfold mland mJ mlushr lb
  rw [m_backL]
  have e : ((Int64.ofInt W).toUInt64 >>> ((Int32.ofInt (k : Int)).toInt64.toUInt64 &&& 63)).toInt64 &&& Int64.ofInt 1 = if (Int64.ofInt W).toBitVec.getLsbD k = true then 1 else 0 := by
    apply i64_eq
    have e1 : ((Int64.ofInt W).toUInt64 >>> ((Int32.ofInt (k : Int)).toInt64.toUInt64 &&& 63)).toInt64.toBitVec = (Int64.ofInt W).toBitVec >>> k := by
      show ((Int64.ofInt W).toUInt64 >>> ((Int32.ofInt (k : Int)).toInt64.toUInt64 &&& 63)).toBitVec = _
      rw [UInt64.toBitVec_shiftRight]
      show (Int64.ofInt W).toBitVec >>> _ = _
      have e3 : (((Int32.ofInt (k : Int)).toInt64.toUInt64 &&& 63).toBitVec % 64).toNat = k := by
        rw [BitVec.toNat_umod]
        show ((Int32.ofInt (k : Int)).toInt64.toUInt64 &&& 63).toNat % 64 = k
        rw [sh63u k h]
        omega
      show (Int64.ofInt W).toBitVec >>> ((((Int32.ofInt (k : Int)).toInt64.toUInt64 &&& 63).toBitVec % 64).toNat) = _
      rw [e3]
    rw [Int64.toBitVec_and, e1]
    show (Int64.ofInt W).toBitVec >>> k &&& 1#64 = _
    rw [bv_and1 (by decide), BitVec.getLsbD_ushiftRight]
    simp only [Nat.add_zero]
    split <;> rfl
  show ((((Int64.ofInt W).toUInt64 >>> ((Int32.ofInt (k : Int)).toInt64.toUInt64 &&& 63)).toInt64) &&& Int64.ofInt 1).toInt = _
  rw [e]
  split <;> rfl
theorem lset (W : Int) (k j : Nat) (h : k < 64) (hj : j < 64) : lb (mlor W (mlshl 1 (k : Int))) j = if j = k then true else lb W j := by
  unfold mlor mJ mlshl lb
  rw [m_backL, m_backL, Int64.toBitVec_or]
  have e1 : (Int64.ofInt 1 <<< ((Int32.ofInt (k : Int)).toInt64 &&& 63)).toBitVec = 1#64 <<< k := by
    rw [Int64.toBitVec_shiftLeft]
    show 1#64 <<< _ = _
    have e3 : (((Int32.ofInt (k : Int)).toInt64 &&& 63).toBitVec.smod 64).toNat = k := by
      have : ∀ k : Fin 64, (((Int32.ofInt ((k.val : Nat) : Int)).toInt64 &&& 63).toBitVec.smod 64).toNat = k.val := by decide +kernel
      exact this ⟨k, h⟩
    show 1#64 <<< ((((Int32.ofInt (k : Int)).toInt64 &&& 63).toBitVec.smod 64).toNat) = _
    rw [e3]
  rw [BitVec.getLsbD_or, e1, BitVec.getLsbD_shiftLeft, BitVec.getLsbD_one]
  by_cases hjk : j = k
  · subst hjk
    simp [hj]
  · rw [if_neg hjk]
    by_cases hlt : j < k
    · simp [hlt]
    · have : ¬ j - k = 0 := by omega
      simp [this]
theorem iget (W : Int) (k : Nat) (h : k < 32) : miand (mishr W (k : Int)) 1 = if (Int32.ofInt W >>> (Int32.ofInt (k : Int) &&& 31)).toBitVec.getLsbD 0 = true then 1 else 0 := by
  unfold miand mI mishr mI
  rw [m_back]
  have e : (Int32.ofInt W >>> (Int32.ofInt (k : Int) &&& 31)) &&& Int32.ofInt 1 = if (Int32.ofInt W >>> (Int32.ofInt (k : Int) &&& 31)).toBitVec.getLsbD 0 = true then 1 else 0 := by
    apply i32_eq
    rw [Int32.toBitVec_and]
    show (Int32.ofInt W >>> (Int32.ofInt (k : Int) &&& 31)).toBitVec &&& 1#32 = _
    rw [bv_and1 (by decide)]
    split <;> rfl
  show ((Int32.ofInt W >>> (Int32.ofInt (k : Int) &&& 31)) &&& Int32.ofInt 1).toInt = _
  rw [e]
  split <;> rfl
theorem igetb (W : Int) (k : Nat) (h : k < 31) : (Int32.ofInt W >>> (Int32.ofInt (k : Int) &&& 31)).toBitVec.getLsbD 0 = ib W k := by
  unfold ib
  have e1 : (Int32.ofInt W >>> (Int32.ofInt (k : Int) &&& 31)).toBitVec = (Int32.ofInt W).toBitVec.sshiftRight k := by
    rw [Int32.toBitVec_shiftRight]
    have e3 : ((Int32.ofInt (k : Int) &&& 31).toBitVec.smod 32).toNat = k := by
      have : ∀ k : Fin 31, ((Int32.ofInt ((k.val : Nat) : Int) &&& 31).toBitVec.smod 32).toNat = k.val := by decide +kernel
      exact this ⟨k, h⟩
    show (Int32.ofInt W).toBitVec.sshiftRight (((Int32.ofInt (k : Int) &&& 31).toBitVec.smod 32).toNat) = _
    rw [e3]
  rw [e1, BitVec.getLsbD_sshiftRight]
  have : k + 0 < 32 := by omega
  simp [this]
  omega
theorem iset (W : Int) (k j : Nat) (h : k < 31) (hj : j < 32) : ib (mior W (mishl 1 (k : Int))) j = if j = k then true else ib W j := by
  unfold mior mI mishl mI ib
  rw [m_back, m_back, Int32.toBitVec_or]
  have e1 : (Int32.ofInt 1 <<< (Int32.ofInt (k : Int) &&& 31)).toBitVec = 1#32 <<< k := by
    rw [Int32.toBitVec_shiftLeft]
    have e3 : ((Int32.ofInt (k : Int) &&& 31).toBitVec.smod 32).toNat = k := by
      have : ∀ k : Fin 31, ((Int32.ofInt ((k.val : Nat) : Int) &&& 31).toBitVec.smod 32).toNat = k.val := by decide +kernel
      exact this ⟨k, h⟩
    show 1#32 <<< (((Int32.ofInt (k : Int) &&& 31).toBitVec.smod 32).toNat) = _
    rw [e3]
  rw [BitVec.getLsbD_or, e1, BitVec.getLsbD_shiftLeft, BitVec.getLsbD_one]
  by_cases hjk : j = k
  · subst hjk
    simp [hj]
  · rw [if_neg hjk]
    by_cases hlt : j < k
    · simp [hlt]
    · have : ¬ j - k = 0 := by omega
      simp [this]
theorem h63 {h : Int} (h0 : 0 ≤ h) (h1 : h ≤ 1023) : miand h 63 = h % 64 := by
  have t : ∀ k : Fin 1024, miand ((k.val : Nat) : Int) 63 = ((k.val : Nat) : Int) % 64 := by decide +kernel
  have := t ⟨h.toNat, by omega⟩
  rw [show (((⟨h.toNat, by omega⟩ : Fin 1024).val : Nat) : Int) = h by show ((h.toNat : Nat) : Int) = h; omega] at this
  exact this
-- has and add of a set of hours
theorem has_iff {d : mD} {x h : Int} (h0 : 0 ≤ h) (h1 : h ≤ 999) : v_6 x h d = if lb (d (x + 1) (h / 64)) (h % 64).toNat = true then 1 else 0 := by
  unfold v_6
  rw [if_neg (by omega), if_neg (by omega)]
  have e6 : mishr h 6 = h / 64 := by rcases mishr6_r h with a | a | a <;> omega
  rw [e6, h63 h0 (by omega), show h % 64 = (((h % 64).toNat : Nat) : Int) by omega, lbget _ _ (by omega)]
  simp only [Int.toNat_natCast]
  unfold mcmp
  split <;> simp
theorem has_out {d : mD} {x h : Int} (h0 : h < 0 ∨ 999 < h) : v_6 x h d = 0 := by
  unfold v_6
  rcases h0 with h0 | h0
  · rw [if_pos h0]
  · rw [if_neg (by omega), if_pos h0]
theorem has_01 (d : mD) (x h : Int) : v_6 x h d = 0 ∨ v_6 x h d = 1 := by
  unfold v_6
  repeat' split
  all_goals first
    | exact Or.inl rfl
    | exact Or.inr rfl
theorem add_has {d : mD} {x h j : Int} (h0 : 0 ≤ h) (h1 : h ≤ 999) (j0 : 0 ≤ j) (j1 : j ≤ 999) : v_6 x j (g_7 x h d) = if j = h then 1 else v_6 x j d := by
  have e6 : mishr h 6 = h / 64 := by rcases mishr6_r h with a | a | a <;> omega
  have eg : g_7 x h d = mset d (x + 1) (h / 64) (mlor (d (x + 1) (h / 64)) (mlshl 1 (((h % 64).toNat : Nat) : Int))) := by
    unfold g_7
    rw [if_neg (by omega), if_neg (by omega), e6, h63 h0 (by omega), show (((h % 64).toNat : Nat) : Int) = h % 64 by omega]
  rw [has_iff j0 j1, has_iff j0 j1, eg]
  by_cases hw : j / 64 = h / 64
  · have e : mset d (x + 1) (h / 64) (mlor (d (x + 1) (h / 64)) (mlshl 1 (((h % 64).toNat : Nat) : Int))) (x + 1) (j / 64) = mlor (d (x + 1) (h / 64)) (mlshl 1 (((h % 64).toNat : Nat) : Int)) := by
      simp [mset, hw]
    rw [e, lset _ _ _ (by omega) (by omega)]
    by_cases hj : j = h
    · subst hj
      simp
    · rw [if_neg (show ¬ (j % 64).toNat = (h % 64).toNat by omega), if_neg hj, hw]
  · have e : mset d (x + 1) (h / 64) (mlor (d (x + 1) (h / 64)) (mlshl 1 (((h % 64).toNat : Nat) : Int))) (x + 1) (j / 64) = d (x + 1) (j / 64) := by
      simp [mset, hw]
    rw [e, if_neg (show ¬ j = h by intro e; subst e; exact hw rfl)]
/-! ===== what a state of the class has to do with a row of the reference ===== -/
-- a name: five bits a letter in the class, base 27 in the reference
def nm (c : Int) : Int := c % 32 + 27 * (c / 32 % 32 + 27 * (c / 1024 % 32 + 27 * (c / 32768 % 32 + 27 * (c / 1048576 % 32 + 27 * (c / 33554432 % 32)))))
def okN (c : Int) : Prop := 0 < c ∧ c < 1073741824 ∧ (1 ≤ c % 32 ∧ c % 32 ≤ 26) ∧ c / 32 % 32 ≤ 26 ∧ c / 1024 % 32 ≤ 26 ∧ c / 32768 % 32 ≤ 26 ∧ c / 1048576 % 32 ≤ 26 ∧ c / 33554432 % 32 ≤ 26
  ∧ (c / 32 % 32 = 0 → c / 1024 % 32 = 0) ∧ (c / 1024 % 32 = 0 → c / 32768 % 32 = 0) ∧ (c / 32768 % 32 = 0 → c / 1048576 % 32 = 0) ∧ (c / 1048576 % 32 = 0 → c / 33554432 % 32 = 0)
theorem nm_inj {a b : Int} (ha : okN a) (hb : okN b) (h : nm a = nm b) : a = b := by
  unfold okN at ha hb
  unfold nm at h
  omega
theorem nm_pos {a : Int} (ha : okN a) : 0 < nm a := by
  unfold okN at ha
  unfold nm
  omega
def perO (w : Row) (k : Int) : Int := w (452 + 24 * w (1916 + 5 * k + 1) + 0)
def madeR (w : Row) (p : Int) : Int := csum (fun k => if perO w k = p ∧ w (1916 + 5 * k + 4) / 20 = w 0 / 20 then 1 else 0) (w 10).toNat
def attd (w : Row) (t p : Int) : Prop := 0 < w (452 + 24 * t + 8 + p) ∧ (w (452 + 24 * t + 8 + p) - 1) / 20 = w 0 / 20
def attR (w : Row) (p : Int) : Int := csum (fun t => if 0 < w (452 + 24 * t + 8 + p) ∧ (w (452 + 24 * t + 8 + p) - 1) / 20 = w 0 / 20 then 1 else 0) (w 9).toNat
def RelA (s : Int) (d : mD) (w : Row) : Prop := d s 1 = w 1 ∧ d s 2 = w 0 ∧ ∀ k, 0 ≤ k → k < 5 → d (s + 1) k = w (2 + k)
def RelO (s : Int) (d : mD) (w : Row) : Prop := d (s + 2) 0 = w 7 ∧ ∀ o, 0 ≤ o → o < w 7 → (okN (d (s + 3) o) ∧ nm (d (s + 3) o) = w (12 + 68 * o + 0)) ∧ d (s + 4) o = w (12 + 68 * o + 1) ∧ d (s + 5) o = w (12 + 68 * o + 2) ∧ d (s + 6) o = w (12 + 68 * o + 3) ∧ d (s + 7) o = w (12 + 68 * o + 4) ∧ d (s + 8) o = w (12 + 68 * o + 5)
def RelQ (s : Int) (d : mD) (w : Row) : Prop := ∀ o, 0 ≤ o → o < w 7 → ∀ k, 0 ≤ k → k < w (12 + 68 * o + 5) → d (s + 9) (o * 16 + k) = w (12 + 68 * o + 7 + k)
def RelP (s : Int) (d : mD) (w : Row) : Prop := d (s + 10) 0 = w 8 ∧ ∀ p, 0 ≤ p → p < w 8 → (okN (d (s + 11) p) ∧ nm (d (s + 11) p) = w (420 + 2 * p + 0)) ∧ d (s + 12) p = w (420 + 2 * p + 1)
def RelT (s : Int) (d : mD) (w : Row) : Prop := d (s + 49) 0 = w 9 ∧ ∀ t, 0 ≤ t → t < w 9 → d (s + 50) t = w (452 + 24 * t + 0) ∧ d (s + 51) t = w (452 + 24 * t + 1) ∧ d (s + 52) t = w (452 + 24 * t + 2) ∧ d (s + 53) t = w (452 + 24 * t + 3) ∧ d (s + 54) t = w (452 + 24 * t + 4)
def RelC (s : Int) (d : mD) (w : Row) : Prop := ∀ t, 0 ≤ t → t < w 9 → d (s + 55) t = w (452 + 24 * t + 5) + w (452 + 24 * t + 6) ∧ w (452 + 24 * t + 7) = csum (fun p => if w (452 + 24 * t + 8 + p) = 0 then 0 else 1) 16 ∧ (∀ p, 0 ≤ p → p < 16 → (ib (d (s + 56) t) p.toNat = true ↔ ¬ w (452 + 24 * t + 8 + p) = 0)) ∧ 0 ≤ d (s + 56) t ∧ d (s + 56) t < 65536
def RelK (s : Int) (d : mD) (w : Row) : Prop := d (s + 57) 0 = w 10 ∧ ∀ k, 0 ≤ k → k < w 10 → d (s + 58) k = w (1916 + 5 * k + 0) ∧ d (s + 59) k = w (1916 + 5 * k + 1) ∧ d (s + 60) k = w (1916 + 5 * k + 2) ∧ d (s + 61) k = w (1916 + 5 * k + 3)
def RelR (s : Int) (d : mD) (w : Row) : Prop := d (s + 57) 5 = w 11 ∧ ∀ k, 0 ≤ k → k < w 11 → d (s + 62) k = w (2916 + k)
def RelB (s : Int) (d : mD) (w : Row) : Prop := ∀ p, 0 ≤ p → p < w 8 → d (s + 13) p = madeR w p ∧ d (s + 14) p = attR w p ∧ ∀ q, 0 ≤ q → q < 16 → (ib (d (s + 15) p) q.toNat = true ↔ ∃ t, 0 ≤ t ∧ t < w 9 ∧ w (452 + 24 * t + 0) = q ∧ attd w t p)
def RelH (s : Int) (d : mD) (w : Row) : Prop := ∀ p, 0 ≤ p → p < w 8 → ∀ h, 0 ≤ h → h ≤ 999 → (lb (d (s + 18 + 2 * p) (h / 64)) (h % 64).toNat = true ↔ ∃ k, 0 ≤ k ∧ k < w 10 ∧ w (1916 + 5 * k + 2) = h ∧ perO w k = p)
-- the row alone: the numbers
def GN (w : Row) : Prop := (0 ≤ w 7 ∧ w 7 ≤ 6) ∧ (0 ≤ w 8 ∧ w 8 ≤ 16) ∧ (0 ≤ w 9 ∧ w 9 ≤ 60) ∧ (0 ≤ w 10 ∧ w 10 ≤ 200) ∧ (0 ≤ w 11 ∧ w 11 ≤ 200) ∧ (0 ≤ w 0 ∧ w 0 ≤ 1199) ∧ (0 ≤ w 1 ∧ w 1 ≤ 99999) ∧ (0 ≤ w 2 ∧ w 2 ≤ 9) ∧ (0 ≤ w 3 ∧ w 3 ≤ 3) ∧ (1 ≤ w 4 ∧ w 4 ≤ 9) ∧ (1 ≤ w 5 ∧ w 5 ≤ 20) ∧ 1 ≤ w 6 ∧ w 6 ≤ 99
-- offices
def GO (w : Row) : Prop := ∀ o, 0 ≤ o → o < w 7 → (1 ≤ w (12 + 68 * o + 1) ∧ w (12 + 68 * o + 1) ≤ 4) ∧ (1 ≤ w (12 + 68 * o + 2) ∧ w (12 + 68 * o + 2) ≤ 6) ∧ (1 ≤ w (12 + 68 * o + 3) ∧ w (12 + 68 * o + 3) ≤ 20) ∧ (w (12 + 68 * o + 4) = 0 ∨ w (12 + 68 * o + 4) = 1) ∧ (0 ≤ w (12 + 68 * o + 5) ∧ w (12 + 68 * o + 5) ≤ 16) ∧ (w (12 + 68 * o + 4) = 0 → w (12 + 68 * o + 5) = 0)
  ∧ w (12 + 68 * o + 6) = csum (fun t => if w (452 + 24 * t + 4) = 1 ∧ w (452 + 24 * t + 1) = o then 1 else 0) (w 9).toNat
-- queues
def GQ (w : Row) : Prop := ∀ o, 0 ≤ o → o < w 7 → ∀ k, 0 ≤ k → k < w (12 + 68 * o + 5) → (0 ≤ w (12 + 68 * o + 7 + k) ∧ w (12 + 68 * o + 7 + k) < w 9) ∧ w (452 + 24 * w (12 + 68 * o + 7 + k) + 1) = o ∧ w (452 + 24 * w (12 + 68 * o + 7 + k) + 4) = 0
  ∧ ∀ i, 0 ≤ i → i < k → w (452 + 24 * w (12 + 68 * o + 7 + i) + 2) ≤ w (452 + 24 * w (12 + 68 * o + 7 + k) + 2) ∧ ¬ w (452 + 24 * w (12 + 68 * o + 7 + i) + 0) = w (452 + 24 * w (12 + 68 * o + 7 + k) + 0)
-- tickets
def GT (w : Row) : Prop := ∀ t, 0 ≤ t → t < w 9 → (0 ≤ w (452 + 24 * t + 0) ∧ w (452 + 24 * t + 0) < w 8) ∧ (0 ≤ w (452 + 24 * t + 1) ∧ w (452 + 24 * t + 1) < w 7) ∧ (0 ≤ w (452 + 24 * t + 2) ∧ w (452 + 24 * t + 2) ≤ w 0) ∧ (0 ≤ w (452 + 24 * t + 4) ∧ w (452 + 24 * t + 4) ≤ 2)
  ∧ (w (452 + 24 * t + 4) = 0 → w (452 + 24 * t + 3) = -1 ∧ ∃ k, 0 ≤ k ∧ k < w (12 + 68 * w (452 + 24 * t + 1) + 5) ∧ w (12 + 68 * w (452 + 24 * t + 1) + 7 + k) = t)
  ∧ (¬ w (452 + 24 * t + 4) = 0 → w (452 + 24 * t + 2) ≤ w (452 + 24 * t + 3) ∧ w (452 + 24 * t + 3) ≤ w 0)
-- claims and witnesses
def GC (w : Row) : Prop := ∀ t, 0 ≤ t → t < w 9 → (w (452 + 24 * t + 5) = 0 ∨ w (452 + 24 * t + 5) = 1) ∧ (w (452 + 24 * t + 6) = 0 ∨ w (452 + 24 * t + 6) = 1) ∧ (w (452 + 24 * t + 6) = 1 → w (452 + 24 * t + 5) = 1 ∧ w (452 + 24 * t + 3) ≤ 999) ∧ (w (452 + 24 * t + 5) = 1 → w (452 + 24 * t + 4) = 1) ∧ ∀ p, 0 ≤ p → p < 16 → 0 ≤ w (452 + 24 * t + 8 + p) ∧ w (452 + 24 * t + 8 + p) ≤ w 0 + 1
-- tokens
def GK (w : Row) : Prop := ∀ k, 0 ≤ k → k < w 10 → (0 ≤ w (1916 + 5 * k + 0) ∧ w (1916 + 5 * k + 0) < w 8) ∧ (0 ≤ w (1916 + 5 * k + 1) ∧ w (1916 + 5 * k + 1) < w 9) ∧ (0 ≤ w (1916 + 5 * k + 2) ∧ w (1916 + 5 * k + 2) ≤ 999) ∧ (0 ≤ w (1916 + 5 * k + 3) ∧ w (1916 + 5 * k + 3) ≤ 2) ∧ (0 ≤ w (1916 + 5 * k + 4) ∧ w (1916 + 5 * k + 4) ≤ w 0)
  ∧ ∀ i, 0 ≤ i → i < k → ¬ (w (1916 + 5 * i + 2) = w (1916 + 5 * k + 2) ∧ perO w i = perO w k)
-- the row of offered tokens
def GR (w : Row) : Prop := w 11 = csum (fun k => if w (1916 + 5 * k + 3) = 1 then 1 else 0) (w 10).toNat ∧ ∀ k, 0 ≤ k → k < w 11 → (0 ≤ w (2916 + k) ∧ w (2916 + k) < w 10) ∧ w (1916 + 5 * w (2916 + k) + 3) = 1 ∧ ∀ i, 0 ≤ i → i < k → ¬ w (2916 + i) = w (2916 + k)
def GG (w : Row) : Prop := GN w ∧ GO w ∧ GQ w ∧ GT w ∧ GC w ∧ GK w ∧ GR w
def Rel (s : Int) (d : mD) (w : Row) : Prop := RelA s d w ∧ RelO s d w ∧ RelQ s d w ∧ RelP s d w ∧ RelT s d w ∧ RelC s d w ∧ RelK s d w ∧ RelR s d w ∧ RelB s d w ∧ RelH s d w
-- two states of the class that are the same as far as they are looked at
def CEq (s : Int) (d : mD) (s' : Int) (d' : mD) : Prop := (d' s' 1 = d s 1 ∧ d' s' 2 = d s 2 ∧ ∀ k, 0 ≤ k → k < 5 → d' (s' + 1) k = d (s + 1) k)
  ∧ (d' (s' + 2) 0 = d (s + 2) 0 ∧ ∀ o, 0 ≤ o → o < 6 → d' (s' + 3) o = d (s + 3) o ∧ d' (s' + 4) o = d (s + 4) o ∧ d' (s' + 5) o = d (s + 5) o ∧ d' (s' + 6) o = d (s + 6) o ∧ d' (s' + 7) o = d (s + 7) o ∧ d' (s' + 8) o = d (s + 8) o)
  ∧ (∀ i, 0 ≤ i → i < 96 → d' (s' + 9) i = d (s + 9) i)
  ∧ (d' (s' + 10) 0 = d (s + 10) 0 ∧ ∀ p, 0 ≤ p → p < 16 → d' (s' + 11) p = d (s + 11) p ∧ d' (s' + 12) p = d (s + 12) p ∧ d' (s' + 13) p = d (s + 13) p ∧ d' (s' + 14) p = d (s + 14) p ∧ d' (s' + 15) p = d (s + 15) p)
  ∧ (∀ p, 0 ≤ p → p < d (s + 10) 0 → ∀ i, 0 ≤ i → i < 16 → d' (s' + 18 + 2 * p) i = d (s + 18 + 2 * p) i)
  ∧ (d' (s' + 49) 0 = d (s + 49) 0 ∧ ∀ t, 0 ≤ t → t < d (s + 49) 0 → d' (s' + 50) t = d (s + 50) t ∧ d' (s' + 51) t = d (s + 51) t ∧ d' (s' + 52) t = d (s + 52) t ∧ d' (s' + 53) t = d (s + 53) t ∧ d' (s' + 54) t = d (s + 54) t ∧ d' (s' + 55) t = d (s + 55) t ∧ d' (s' + 56) t = d (s + 56) t)
  ∧ (d' (s' + 57) 0 = d (s + 57) 0 ∧ ∀ k, 0 ≤ k → k < d (s + 57) 0 → d' (s' + 58) k = d (s + 58) k ∧ d' (s' + 59) k = d (s + 59) k ∧ d' (s' + 60) k = d (s + 60) k ∧ d' (s' + 61) k = d (s + 61) k)
  ∧ (d' (s' + 57) 5 = d (s + 57) 5 ∧ ∀ k, 0 ≤ k → k < d (s + 57) 5 → d' (s' + 62) k = d (s + 62) k)
theorem Rel.cls {s s' : Int} {d d' : mD} {w : Row} (hn : GN w) (hg : GO w) (hc : CEq s d s' d') (h : Rel s d w) : Rel s' d' w := by
  obtain ⟨⟨a1, a2, a3⟩, ⟨o1, o2⟩, hq, ⟨p1, p2⟩, ⟨t1, t2⟩, hC, ⟨k1, k2⟩, ⟨r1, r2⟩, hB, hH⟩ := h
  obtain ⟨⟨c1, c2, c3⟩, ⟨c4, c5⟩, c6, ⟨c7, c8⟩, c9, ⟨c10, c11⟩, ⟨c12, c13⟩, c14, c15⟩ := hc
  obtain ⟨n7, n8, n9, n10, n11, -⟩ := hn
  refine ⟨⟨by rw [c1]; exact a1, by rw [c2]; exact a2, fun k x y => by rw [c3 k x y]; exact a3 k x y⟩, ⟨by rw [c4]; exact o1, fun o x y => ?_⟩, fun o x y k u v => ?_, ⟨by rw [c7]; exact p1, fun p x y => ?_⟩, ⟨by rw [c10]; exact t1, fun t x y => ?_⟩, fun t x y => ?_, ⟨by rw [c12]; exact k1, fun k x y => ?_⟩, ⟨by rw [c14]; exact r1, fun k x y => ?_⟩, fun p x y => ?_, fun p x y h0 u v => ?_⟩
  · obtain ⟨e1, e2, e3, e4, e5, e6⟩ := c5 o x (by omega)
    rw [e1, e2, e3, e4, e5, e6]
    exact o2 o x y
  · have g := hg o x y
    rw [c6 (o * 16 + k) (by omega) (by omega)]
    exact hq o x y k u v
  · obtain ⟨e1, e2, -⟩ := c8 p x (by omega)
    rw [e1, e2]
    exact p2 p x y
  · obtain ⟨e1, e2, e3, e4, e5, -⟩ := c11 t x (by omega)
    rw [e1, e2, e3, e4, e5]
    exact t2 t x y
  · obtain ⟨-, -, -, -, -, e6, e7⟩ := c11 t x (by omega)
    rw [e6, e7]
    exact hC t x y
  · obtain ⟨e1, e2, e3, e4⟩ := c13 k x (by omega)
    rw [e1, e2, e3, e4]
    exact k2 k x y
  · rw [c15 k x (by omega)]
    exact r2 k x y
  · obtain ⟨-, -, e3, e4, e5⟩ := c8 p x (by omega)
    rw [e3, e4, e5]
    exact hB p x y
  · rw [c9 p x (by omega) (h0 / 64) (by omega) (by omega)]
    exact hH p x y h0 u v
/-! ===== rows that are the same as far as they are looked at ===== -/
def REq (w w' : Row) : Prop := ∀ i, 0 ≤ i → i < 3116 → w' i = w i
theorem GN.row {w w' : Row} (e : REq w w') (h : GN w) : GN w' := by
  unfold GN at *
  rw [e 0 (by decide) (by decide), e 1 (by decide) (by decide), e 2 (by decide) (by decide), e 3 (by decide) (by decide), e 4 (by decide) (by decide), e 5 (by decide) (by decide), e 6 (by decide) (by decide), e 7 (by decide) (by decide), e 8 (by decide) (by decide), e 9 (by decide) (by decide), e 10 (by decide) (by decide), e 11 (by decide) (by decide)]
  exact h
theorem GO.row {w w' : Row} (e : REq w w') (hn : GN w) (h : GO w) : GO w' := by
  intro o x y
  obtain ⟨n7, n8, n9, n10, n11, -⟩ := hn
  rw [e 7 (by decide) (by decide)] at y
  have g := h o x y
  rw [e (12 + 68 * o + 1) (by omega) (by omega), e (12 + 68 * o + 2) (by omega) (by omega), e (12 + 68 * o + 3) (by omega) (by omega), e (12 + 68 * o + 4) (by omega) (by omega), e (12 + 68 * o + 5) (by omega) (by omega), e (12 + 68 * o + 6) (by omega) (by omega), e 9 (by decide) (by decide),
    csum_congr (f := fun t => if w' (452 + 24 * t + 4) = 1 ∧ w' (452 + 24 * t + 1) = o then 1 else 0) (g := fun t => if w (452 + 24 * t + 4) = 1 ∧ w (452 + 24 * t + 1) = o then 1 else 0) (fun t a b => by
      show (if w' (452 + 24 * t + 4) = 1 ∧ w' (452 + 24 * t + 1) = o then (1 : Int) else 0) = if w (452 + 24 * t + 4) = 1 ∧ w (452 + 24 * t + 1) = o then 1 else 0
      rw [e (452 + 24 * t + 4) (by omega) (by omega), e (452 + 24 * t + 1) (by omega) (by omega)])]
  exact g
theorem GQ.row {w w' : Row} (e : REq w w') (hn : GN w) (ho : GO w) (h : GQ w) : GQ w' := by
  intro o x y k u v
  obtain ⟨n7, n8, n9, n10, n11, -⟩ := hn
  rw [e 7 (by decide) (by decide)] at y
  have hO := ho o x y
  rw [e (12 + 68 * o + 5) (by omega) (by omega)] at v
  have g := h o x y k u v
  rw [e (12 + 68 * o + 7 + k) (by omega) (by omega), e 9 (by decide) (by decide), e (452 + 24 * w (12 + 68 * o + 7 + k) + 1) (by omega) (by omega), e (452 + 24 * w (12 + 68 * o + 7 + k) + 4) (by omega) (by omega)]
  refine ⟨g.1, g.2.1, g.2.2.1, fun i a b => ?_⟩
  have gi := h o x y i a (by omega)
  rw [e (12 + 68 * o + 7 + i) (by omega) (by omega), e (452 + 24 * w (12 + 68 * o + 7 + k) + 2) (by omega) (by omega), e (452 + 24 * w (12 + 68 * o + 7 + k) + 0) (by omega) (by omega), e (452 + 24 * w (12 + 68 * o + 7 + i) + 2) (by omega) (by omega), e (452 + 24 * w (12 + 68 * o + 7 + i) + 0) (by omega) (by omega)]
  exact g.2.2.2 i a b
theorem GT.row {w w' : Row} (e : REq w w') (hn : GN w) (ho : GO w) (h : GT w) : GT w' := by
  intro t x y
  obtain ⟨n7, n8, n9, n10, n11, -⟩ := hn
  rw [e 9 (by decide) (by decide)] at y
  have g := h t x y
  rw [e (452 + 24 * t + 0) (by omega) (by omega), e (452 + 24 * t + 1) (by omega) (by omega), e (452 + 24 * t + 2) (by omega) (by omega), e (452 + 24 * t + 3) (by omega) (by omega), e (452 + 24 * t + 4) (by omega) (by omega), e 0 (by decide) (by decide), e 7 (by decide) (by decide), e 8 (by decide) (by decide)]
  refine ⟨g.1, g.2.1, g.2.2.1, g.2.2.2.1, fun z => ?_, g.2.2.2.2.2⟩
  obtain ⟨g1, k, g2, g3, g4⟩ := g.2.2.2.2.1 z
  have hO := ho _ g.2.1.1 g.2.1.2
  exact ⟨g1, k, g2, by rw [e _ (by omega) (by omega)]; exact g3, by rw [e _ (by omega) (by omega)]; exact g4⟩
theorem GC.row {w w' : Row} (e : REq w w') (hn : GN w) (h : GC w) : GC w' := by
  intro t x y
  obtain ⟨n7, n8, n9, n10, n11, -⟩ := hn
  rw [e 9 (by decide) (by decide)] at y
  have g := h t x y
  rw [e (452 + 24 * t + 5) (by omega) (by omega), e (452 + 24 * t + 6) (by omega) (by omega), e (452 + 24 * t + 3) (by omega) (by omega), e (452 + 24 * t + 4) (by omega) (by omega), e 0 (by decide) (by decide)]
  exact ⟨g.1, g.2.1, g.2.2.1, g.2.2.2.1, fun p a b => by rw [e (452 + 24 * t + 8 + p) (by omega) (by omega)]; exact g.2.2.2.2 p a b⟩
theorem perO_row {w w' : Row} (e : REq w w') (hn : GN w) (hk : GK w) {k : Int} (h0 : 0 ≤ k) (h1 : k < w 10) : perO w' k = perO w k := by
  have g := hk k h0 h1
  obtain ⟨n7, n8, n9, n10, n11, -⟩ := hn
  unfold perO
  rw [e (1916 + 5 * k + 1) (by omega) (by omega), e _ (by omega) (by omega)]
theorem GK.row {w w' : Row} (e : REq w w') (hn : GN w) (h : GK w) : GK w' := by
  intro k x y
  rw [e 10 (by decide) (by decide)] at y
  have g := h k x y
  have p := perO_row e hn h x y
  obtain ⟨n7, n8, n9, n10, n11, -⟩ := id hn
  rw [e (1916 + 5 * k + 0) (by omega) (by omega), e (1916 + 5 * k + 1) (by omega) (by omega), e (1916 + 5 * k + 2) (by omega) (by omega), e (1916 + 5 * k + 3) (by omega) (by omega), e (1916 + 5 * k + 4) (by omega) (by omega), e 8 (by decide) (by decide), e 9 (by decide) (by decide), e 0 (by decide) (by decide), p]
  refine ⟨g.1, g.2.1, g.2.2.1, g.2.2.2.1, g.2.2.2.2.1, fun i a b => ?_⟩
  rw [e (1916 + 5 * i + 2) (by omega) (by omega), perO_row e hn h a (by omega)]
  exact g.2.2.2.2.2 i a b
theorem GR.row {w w' : Row} (e : REq w w') (hn : GN w) (h : GR w) : GR w' := by
  obtain ⟨n7, n8, n9, n10, n11, -⟩ := hn
  refine ⟨?_, fun k x y => ?_⟩
  · rw [e 11 (by decide) (by decide), e 10 (by decide) (by decide), h.1]
    refine csum_congr (fun k a b => ?_)
    rw [e (1916 + 5 * k + 3) (by omega) (by omega)]
  · rw [e 11 (by decide) (by decide)] at y
    have g := h.2 k x y
    rw [e (2916 + k) (by omega) (by omega), e 10 (by decide) (by decide), e _ (by omega) (by omega)]
    exact ⟨g.1, g.2.1, fun i a b => by rw [e (2916 + i) (by omega) (by omega)]; exact g.2.2 i a b⟩
theorem GG.row {w w' : Row} (e : REq w w') (h : GG w) : GG w' := by
  obtain ⟨a, b, c, d, f, g, k⟩ := h
  exact ⟨a.row e, b.row e a, c.row e a b, d.row e a b, f.row e a, g.row e a, k.row e a⟩
theorem madeR_row {w w' : Row} (e : REq w w') (hn : GN w) (hk : GK w) (p : Int) : madeR w' p = madeR w p := by
  unfold madeR
  rw [e 10 (by decide) (by decide)]
  refine csum_congr (fun k a b => ?_)
  have n10 := hn.2.2.2.1
  rw [perO_row e hn hk a (by omega), e (1916 + 5 * k + 4) (by omega) (by omega), e 0 (by decide) (by decide)]
theorem attR_row {w w' : Row} (e : REq w w') (hn : GN w) {p : Int} (h0 : 0 ≤ p) (h1 : p < 16) : attR w' p = attR w p := by
  unfold attR
  rw [e 9 (by decide) (by decide)]
  refine csum_congr (fun t a b => ?_)
  have n9 := hn.2.2.1
  rw [e (452 + 24 * t + 8 + p) (by omega) (by omega), e 0 (by decide) (by decide)]
theorem Rel.row {s : Int} {d : mD} {w w' : Row} (e : REq w w') (hg : GG w) (h : Rel s d w) : Rel s d w' := by
  obtain ⟨hN, hO, hQ, hT, hCC, hK, hR⟩ := hg
  obtain ⟨n7, n8, n9, n10, n11, -⟩ := id hN
  obtain ⟨⟨a1, a2, a3⟩, ⟨o1, o2⟩, hq, ⟨p1, p2⟩, ⟨t1, t2⟩, hC, ⟨k1, k2⟩, ⟨r1, r2⟩, hB, hH⟩ := h
  have e0 := e 0 (by decide) (by decide)
  have e7 := e 7 (by decide) (by decide)
  have e8 := e 8 (by decide) (by decide)
  have e9 := e 9 (by decide) (by decide)
  have e10 := e 10 (by decide) (by decide)
  have e11 := e 11 (by decide) (by decide)
  refine ⟨⟨by rw [e 1 (by decide) (by decide)]; exact a1, by rw [e0]; exact a2, fun k x y => by rw [e (2 + k) (by omega) (by omega)]; exact a3 k x y⟩, ⟨by rw [e7]; exact o1, fun o x y => ?_⟩, fun o x y k u v => ?_, ⟨by rw [e8]; exact p1, fun p x y => ?_⟩, ⟨by rw [e9]; exact t1, fun t x y => ?_⟩, fun t x y => ?_, ⟨by rw [e10]; exact k1, fun k x y => ?_⟩, ⟨by rw [e11]; exact r1, fun k x y => ?_⟩, fun p x y => ?_, fun p x y h0 u v => ?_⟩
  · rw [e7] at y
    rw [e (12 + 68 * o + 0) (by omega) (by omega), e (12 + 68 * o + 1) (by omega) (by omega), e (12 + 68 * o + 2) (by omega) (by omega), e (12 + 68 * o + 3) (by omega) (by omega), e (12 + 68 * o + 4) (by omega) (by omega), e (12 + 68 * o + 5) (by omega) (by omega)]
    exact o2 o x y
  · rw [e7] at y
    have g := hO o x y
    rw [e (12 + 68 * o + 5) (by omega) (by omega)] at v
    rw [e (12 + 68 * o + 7 + k) (by omega) (by omega)]
    exact hq o x y k u v
  · rw [e8] at y
    rw [e (420 + 2 * p + 0) (by omega) (by omega), e (420 + 2 * p + 1) (by omega) (by omega)]
    exact p2 p x y
  · rw [e9] at y
    rw [e (452 + 24 * t + 0) (by omega) (by omega), e (452 + 24 * t + 1) (by omega) (by omega), e (452 + 24 * t + 2) (by omega) (by omega), e (452 + 24 * t + 3) (by omega) (by omega), e (452 + 24 * t + 4) (by omega) (by omega)]
    exact t2 t x y
  · rw [e9] at y
    obtain ⟨g1, g2, g3, g4⟩ := hC t x y
    rw [e (452 + 24 * t + 5) (by omega) (by omega), e (452 + 24 * t + 6) (by omega) (by omega), e (452 + 24 * t + 7) (by omega) (by omega)]
    refine ⟨g1, ?_, fun p u v => by rw [e (452 + 24 * t + 8 + p) (by omega) (by omega)]; exact g3 p u v, g4⟩
    rw [g2]
    exact csum_congr (fun p u v => by rw [e (452 + 24 * t + 8 + p) (by omega) (by omega)])
  · rw [e10] at y
    rw [e (1916 + 5 * k + 0) (by omega) (by omega), e (1916 + 5 * k + 1) (by omega) (by omega), e (1916 + 5 * k + 2) (by omega) (by omega), e (1916 + 5 * k + 3) (by omega) (by omega)]
    exact k2 k x y
  · rw [e11] at y
    rw [e (2916 + k) (by omega) (by omega)]
    exact r2 k x y
  · rw [e8] at y
    obtain ⟨g1, g2, g3⟩ := hB p x y
    refine ⟨by rw [madeR_row e hN hK]; exact g1, by rw [attR_row e hN x (by omega)]; exact g2, fun q u v => (g3 q u v).trans ⟨?_, ?_⟩⟩
    · rintro ⟨t, z1, z2, z3, z4⟩
      refine ⟨t, z1, by rw [e9]; exact z2, by rw [e (452 + 24 * t + 0) (by omega) (by omega)]; exact z3, ?_⟩
      unfold attd at *
      rw [e (452 + 24 * t + 8 + p) (by omega) (by omega), e0]
      exact z4
    · rintro ⟨t, z1, z2, z3, z4⟩
      rw [e9] at z2
      rw [e (452 + 24 * t + 0) (by omega) (by omega)] at z3
      refine ⟨t, z1, z2, z3, ?_⟩
      unfold attd at *
      rw [e (452 + 24 * t + 8 + p) (by omega) (by omega), e0] at z4
      exact z4
  · rw [e8] at y
    refine (hH p x y h0 u v).trans ⟨?_, ?_⟩
    · rintro ⟨k, z1, z2, z3, z4⟩
      exact ⟨k, z1, by rw [e10]; exact z2, by rw [e (1916 + 5 * k + 2) (by omega) (by omega)]; exact z3, by rw [perO_row e hN hK z1 z2]; exact z4⟩
    · rintro ⟨k, z1, z2, z3, z4⟩
      rw [e10] at z2
      rw [e (1916 + 5 * k + 2) (by omega) (by omega)] at z3
      rw [perO_row e hN hK z1 z2] at z4
      exact ⟨k, z1, z2, z3, z4⟩
/-! ===== a state of the class is copied ===== -/
theorem c34l {x0 x1 : Int} (hx : ¬ x0 + 5 = x1 + 5) : ∀ (n : Nat) (x : Int) (d : mD), 0 ≤ x → 6 - x ≤ (n : Int) → (∀ b, ¬ b = x0 + 5 → lp_34_100 x0 x1 n x d b = d b) ∧ (∀ o, 0 ≤ o → o < x → lp_34_100 x0 x1 n x d (x0 + 5) o = d (x0 + 5) o) ∧ ∀ o, x ≤ o → o < 6 → lp_34_100 x0 x1 n x d (x0 + 5) o = d (x1 + 5) o := by
  intro n
  induction n with
  | zero =>
    intro x d h0 hn
    have e : lp_34_100 x0 x1 0 x d = d := by
      show st_34_100 x0 x1 _ x d = d
      unfold st_34_100
      rw [if_neg (by omega)]
    rw [e]
    exact ⟨fun _ _ => rfl, fun _ _ _ => rfl, fun o a b => by omega⟩
  | succ n ih =>
    intro x d h0 hn
    by_cases hc : x < 6
    · have e : lp_34_100 x0 x1 (n + 1) x d = lp_34_100 x0 x1 n (x + 1) (mset d (x0 + 5) x (d (x1 + 5) x)) := by
        show st_34_100 x0 x1 _ x d = _
        unfold st_34_100
        rw [if_pos hc]
      rw [e]
      obtain ⟨i1, i2, i3⟩ := ih (x + 1) (mset d (x0 + 5) x (d (x1 + 5) x)) (by omega) (by omega)
      refine ⟨fun b hb => by rw [i1 b hb]; funext j; exact ms_a hb, fun o a b => by rw [i2 o a (by omega), ms_i (by omega)], fun o a b => ?_⟩
      by_cases ho : o = x
      · rw [i2 o (by omega) (by omega), ms_e rfl ho, ho]
      · rw [i3 o (by omega) b, ms_a (by omega)]
    · have e : lp_34_100 x0 x1 (n + 1) x d = d := by
        show st_34_100 x0 x1 _ x d = d
        unfold st_34_100
        rw [if_neg hc]
      rw [e]
      exact ⟨fun _ _ => rfl, fun _ _ _ => rfl, fun o a b => by omega⟩
theorem c46l {x0 x1 : Int} (hx : x0 + 40 ≤ x1 ∨ x1 + 40 ≤ x0) : ∀ (n : Nat) (x : Int) (d : mD), 0 ≤ x → d x0 0 ≤ 16 → d x0 0 - x ≤ (n : Int) → (∀ b, (b < x0 + 8 + 2 * x ∨ x0 + 39 ≤ b) → lp_46_85 x0 x1 n x d b = d b) ∧ ∀ p, x ≤ p → p < d x0 0 → ∀ i, 0 ≤ i → i < 16 → lp_46_85 x0 x1 n x d (x0 + 8 + 2 * p) i = d (x1 + 8 + 2 * p) i := by
  intro n
  induction n with
  | zero =>
    intro x d h0 h16 hn
    have e : lp_46_85 x0 x1 0 x d = d := by
      show st_46_85 x0 x1 _ x d = d
      unfold st_46_85
      rw [if_neg (by omega)]
    rw [e]
    exact ⟨fun _ _ => rfl, fun o a b => by omega⟩
  | succ n ih =>
    intro x d h0 h16 hn
    by_cases hc : x < d x0 0
    · have e : lp_46_85 x0 x1 (n + 1) x d = lp_46_85 x0 x1 n (x + 1) (g_11 (x0 + 6 + (1 + 2 * x)) (x1 + 6 + (1 + 2 * x)) d) := by
        show st_46_85 x0 x1 _ x d = _
        unfold st_46_85
        rw [if_pos hc]
      rw [e]
      have e0 : g_11 (x0 + 6 + (1 + 2 * x)) (x1 + 6 + (1 + 2 * x)) d x0 0 = d x0 0 := by
        unfold g_11
        rw [mc_n (by omega)]
      obtain ⟨i1, i3⟩ := ih (x + 1) (g_11 (x0 + 6 + (1 + 2 * x)) (x1 + 6 + (1 + 2 * x)) d) (by omega) (by rw [e0]; exact h16) (by rw [e0]; omega)
      rw [e0] at i3
      refine ⟨fun b hb => ?_, fun p a b i u v => ?_⟩
      · rw [i1 b (by omega)]
        funext j
        unfold g_11
        rw [mc_n (by omega)]
      · by_cases ho : p = x
        · rw [i1 _ (by omega)]
          unfold g_11
          rw [mc_e (by omega) u v]
          congr 1
          omega
        · rw [i3 p (by omega) b i u v]
          unfold g_11
          rw [mc_n (by omega)]
    · have e : lp_46_85 x0 x1 (n + 1) x d = d := by
        show st_46_85 x0 x1 _ x d = d
        unfold st_46_85
        rw [if_neg hc]
      rw [e]
      exact ⟨fun _ _ => rfl, fun o a b => by omega⟩
-- each part of the copy: what it leaves, what it brings
theorem c34 {a s : Int} (hx : a + 63 ≤ s ∨ s + 63 ≤ a) (d : mD) : (∀ b, (b < a + 2 ∨ a + 9 < b) → g_34 (a + 2) (s + 2) d b = d b) ∧ g_34 (a + 2) (s + 2) d (a + 2) 0 = d (s + 2) 0 ∧ (∀ o, 0 ≤ o → o < 6 → g_34 (a + 2) (s + 2) d (a + 3) o = d (s + 3) o ∧ g_34 (a + 2) (s + 2) d (a + 4) o = d (s + 4) o ∧ g_34 (a + 2) (s + 2) d (a + 5) o = d (s + 5) o ∧ g_34 (a + 2) (s + 2) d (a + 6) o = d (s + 6) o ∧ g_34 (a + 2) (s + 2) d (a + 7) o = d (s + 7) o ∧ g_34 (a + 2) (s + 2) d (a + 8) o = d (s + 8) o) ∧ ∀ i, 0 ≤ i → i < 96 → g_34 (a + 2) (s + 2) d (a + 9) i = d (s + 9) i := by
  unfold g_34
  obtain ⟨i1, -, i3⟩ := c34l (x0 := a + 2) (x1 := s + 2) (by omega) (6 - 0 : Int).toNat 0 (mcopy (mcopy (mcopy (mcopy (mcopy (mcopy (mset d (a + 2) 0 (d (s + 2) 0)) (s + 2 + 1) 0 (a + 2 + 1) 0 6) (s + 2 + 2) 0 (a + 2 + 2) 0 6) (s + 2 + 3) 0 (a + 2 + 3) 0 6) (s + 2 + 4) 0 (a + 2 + 4) 0 6) (s + 2 + 6) 0 (a + 2 + 6) 0 6) (s + 2 + 7) 0 (a + 2 + 7) 0 96) (by decide) (by decide)
  simp only [Int.add_assoc, Int.reduceAdd] at i1 i3 ⊢
  refine ⟨fun b hb => ?_, ?_, fun o x y => ⟨?_, ?_, ?_, ?_, ?_, ?_⟩, fun i x y => ?_⟩
  · rw [i1 b (by omega)]
    funext j
    simp (disch := omega) only [mc_n, ms_a]
  · rw [i1 _ (by omega)]
    simp (disch := omega) only [mc_n, ms_e]
  · rw [i1 _ (by omega)]
    simp (disch := omega) only [mc_e, mc_n, ms_a]
  · rw [i1 _ (by omega)]
    simp (disch := omega) only [mc_e, mc_n, ms_a]
  · rw [i1 _ (by omega)]
    simp (disch := omega) only [mc_e, mc_n, ms_a]
  · rw [i1 _ (by omega)]
    simp (disch := omega) only [mc_e, mc_n, ms_a]
  · rw [i3 o x y]
    simp (disch := omega) only [mc_e, mc_n, ms_a]
  · rw [i1 _ (by omega)]
    simp (disch := omega) only [mc_e, mc_n, ms_a]
  · rw [i1 _ (by omega)]
    simp (disch := omega) only [mc_e, mc_n, ms_a]
theorem c46 {a s : Int} (hx : a + 63 ≤ s ∨ s + 63 ≤ a) (d : mD) (h16 : d (s + 10) 0 ≤ 16) : (∀ b, (b < a + 10 ∨ a + 50 ≤ b) → g_46 (a + 10) (s + 10) d b = d b) ∧ g_46 (a + 10) (s + 10) d (a + 49) = d (a + 49) ∧ g_46 (a + 10) (s + 10) d (a + 10) 0 = d (s + 10) 0 ∧ (∀ p, 0 ≤ p → p < 16 → g_46 (a + 10) (s + 10) d (a + 11) p = d (s + 11) p ∧ g_46 (a + 10) (s + 10) d (a + 12) p = d (s + 12) p ∧ g_46 (a + 10) (s + 10) d (a + 13) p = d (s + 13) p ∧ g_46 (a + 10) (s + 10) d (a + 14) p = d (s + 14) p ∧ g_46 (a + 10) (s + 10) d (a + 15) p = d (s + 15) p) ∧ ∀ p, 0 ≤ p → p < d (s + 10) 0 → ∀ i, 0 ≤ i → i < 16 → g_46 (a + 10) (s + 10) d (a + 18 + 2 * p) i = d (s + 18 + 2 * p) i := by
  unfold g_46
  have e0 : (mcopy (mcopy (mcopy (mcopy (mcopy (mset d (a + 10) 0 (d (s + 10) 0)) (s + 10 + 1) 0 (a + 10 + 1) 0 16) (s + 10 + 2) 0 (a + 10 + 2) 0 16) (s + 10 + 3) 0 (a + 10 + 3) 0 16) (s + 10 + 4) 0 (a + 10 + 4) 0 16) (s + 10 + 5) 0 (a + 10 + 5) 0 16) (a + 10) 0 = d (s + 10) 0 := by
    simp (disch := omega) only [mc_n, ms_e]
  obtain ⟨i1, i3⟩ := c46l (x0 := a + 10) (x1 := s + 10) (by omega) (16 - 0 : Int).toNat 0 (mcopy (mcopy (mcopy (mcopy (mcopy (mset d (a + 10) 0 (d (s + 10) 0)) (s + 10 + 1) 0 (a + 10 + 1) 0 16) (s + 10 + 2) 0 (a + 10 + 2) 0 16) (s + 10 + 3) 0 (a + 10 + 3) 0 16) (s + 10 + 4) 0 (a + 10 + 4) 0 16) (s + 10 + 5) 0 (a + 10 + 5) 0 16) (by decide) (by rw [e0]; exact h16) (by rw [e0, show (((16 - 0 : Int).toNat : Nat) : Int) = 16 by decide]; omega)
  rw [e0] at i3
  simp only [Int.add_assoc, Int.reduceAdd] at i1 i3 ⊢
  refine ⟨fun b hb => ?_, ?_, ?_, fun o x y => ⟨?_, ?_, ?_, ?_, ?_⟩, fun p x y i u v => ?_⟩
  · rw [i1 b (by omega)]
    funext j
    simp (disch := omega) only [mc_n, ms_a]
  · rw [i1 _ (by omega)]
    funext j
    simp (disch := omega) only [mc_n, ms_a]
  · rw [i1 _ (by omega)]
    simp (disch := omega) only [mc_n, ms_e]
  · rw [i1 _ (by omega)]
    simp (disch := omega) only [mc_e, mc_n, ms_a]
  · rw [i1 _ (by omega)]
    simp (disch := omega) only [mc_e, mc_n, ms_a]
  · rw [i1 _ (by omega)]
    simp (disch := omega) only [mc_e, mc_n, ms_a]
  · rw [i1 _ (by omega)]
    simp (disch := omega) only [mc_e, mc_n, ms_a]
  · rw [i1 _ (by omega)]
    simp (disch := omega) only [mc_e, mc_n, ms_a]
  · rw [i3 p x y i u v]
    simp (disch := omega) only [mc_e, mc_n, ms_a]
theorem c95 {a s : Int} (hx : a + 63 ≤ s ∨ s + 63 ≤ a) (d : mD) : (∀ b, (b < a + 49 ∨ a + 56 < b) → g_95 (a + 49) (s + 49) d b = d b) ∧ g_95 (a + 49) (s + 49) d (a + 49) 0 = d (s + 49) 0 ∧ ∀ t, 0 ≤ t → t < d (s + 49) 0 → g_95 (a + 49) (s + 49) d (a + 50) t = d (s + 50) t ∧ g_95 (a + 49) (s + 49) d (a + 51) t = d (s + 51) t ∧ g_95 (a + 49) (s + 49) d (a + 52) t = d (s + 52) t ∧ g_95 (a + 49) (s + 49) d (a + 53) t = d (s + 53) t ∧ g_95 (a + 49) (s + 49) d (a + 54) t = d (s + 54) t ∧ g_95 (a + 49) (s + 49) d (a + 55) t = d (s + 55) t ∧ g_95 (a + 49) (s + 49) d (a + 56) t = d (s + 56) t := by
  unfold g_95
  simp only [Int.add_assoc, Int.reduceAdd]
  refine ⟨fun b hb => ?_, ?_, fun t x y => ⟨?_, ?_, ?_, ?_, ?_, ?_, ?_⟩⟩
  · funext j
    simp (disch := omega) only [mc_n, ms_a]
  all_goals simp (disch := omega) only [mc_e, mc_n, ms_a, ms_e]
theorem c108 {a s : Int} (hx : a + 63 ≤ s ∨ s + 63 ≤ a) (d : mD) : (∀ b, (b < a + 57 ∨ a + 62 < b) → g_108 (a + 57) (s + 57) d b = d b) ∧ g_108 (a + 57) (s + 57) d (a + 57) 0 = d (s + 57) 0 ∧ g_108 (a + 57) (s + 57) d (a + 57) 5 = d (s + 57) 5 ∧ (∀ k, 0 ≤ k → k < d (s + 57) 0 → g_108 (a + 57) (s + 57) d (a + 58) k = d (s + 58) k ∧ g_108 (a + 57) (s + 57) d (a + 59) k = d (s + 59) k ∧ g_108 (a + 57) (s + 57) d (a + 60) k = d (s + 60) k ∧ g_108 (a + 57) (s + 57) d (a + 61) k = d (s + 61) k) ∧ ∀ k, 0 ≤ k → k < d (s + 57) 5 → g_108 (a + 57) (s + 57) d (a + 62) k = d (s + 62) k := by
  unfold g_108
  simp only [Int.add_assoc, Int.reduceAdd]
  have e5 : (mcopy (mcopy (mcopy (mcopy (mset d (a + 57) 0 (d (s + 57) 0)) (s + 58) 0 (a + 58) 0 (d (s + 57) 0)) (s + 59) 0 (a + 59) 0 (d (s + 57) 0)) (s + 60) 0 (a + 60) 0 (d (s + 57) 0)) (s + 61) 0 (a + 61) 0 (d (s + 57) 0)) (s + 57) 5 = d (s + 57) 5 := by
    simp (disch := omega) only [mc_n, ms_a]
  rw [e5]
  refine ⟨fun b hb => ?_, ?_, ?_, fun t x y => ⟨?_, ?_, ?_, ?_⟩, fun k x y => ?_⟩
  · funext j
    simp (disch := omega) only [mc_n, ms_a]
  all_goals simp (disch := omega) only [mc_e, mc_n, ms_a, ms_i, ms_e]
theorem cpy {a s : Int} (hx : a + 63 ≤ s ∨ s + 63 ≤ a) (d : mD) (h16 : d (s + 10) 0 ≤ 16) : CEq s d a (g_59 a s d) := by
  unfold g_59
  have e1 : (mset (mset (mcopy d (s + 1) 0 (a + 1) 0 5) a 1 (d s 1)) a 2 (d s 2)) = (mset (mset (mcopy d (s + 1) 0 (a + 1) 0 5) a 1 (d s 1)) a 2 (d s 2)) := rfl
  generalize hd1 : (mset (mset (mcopy d (s + 1) 0 (a + 1) 0 5) a 1 (d s 1)) a 2 (d s 2)) = d1
  have f1 : ∀ b, (b < a ∨ a + 1 < b) → d1 b = d b := fun b hb => by
    rw [← hd1]
    funext j
    simp (disch := omega) only [mc_n, ms_a]
  obtain ⟨a1, a2, a3, a4⟩ := c34 hx d1
  generalize g_34 (a + 2) (s + 2) d1 = d2 at *
  obtain ⟨b1, b1', b2, b3, b4⟩ := c46 hx d2 (by rw [a1 _ (by omega), f1 _ (by omega)]; exact h16)
  generalize g_46 (a + 10) (s + 10) d2 = d3 at *
  obtain ⟨c1, c2, c3⟩ := c95 hx d3
  generalize g_95 (a + 49) (s + 49) d3 = d4 at *
  obtain ⟨e1, e2, e3, e4, e5⟩ := c108 hx d4
  generalize g_108 (a + 57) (s + 57) d4 = d5 at *
  have s2 : ∀ b, s ≤ b → b < s + 63 → d2 b = d b := fun b x y => by rw [a1 b (by omega), f1 b (by omega)]
  have s3 : ∀ b, s ≤ b → b < s + 63 → d3 b = d b := fun b x y => by rw [b1 b (by omega), s2 b x y]
  have s4 : ∀ b, s ≤ b → b < s + 63 → d4 b = d b := fun b x y => by rw [c1 b (by omega), s3 b x y]
  refine ⟨⟨?_, ?_, fun k x y => ?_⟩, ⟨?_, fun o x y => ?_⟩, fun i x y => ?_, ⟨?_, fun p x y => ?_⟩, fun p x y i u v => ?_, ⟨?_, fun t x y => ?_⟩, ⟨?_, fun k x y => ?_⟩, ?_, fun k x y => ?_⟩
  · rw [e1 _ (by omega), c1 _ (by omega), b1 _ (by omega), a1 _ (by omega), ← hd1]
    simp (disch := omega) only [ms_i, ms_e]
  · rw [e1 _ (by omega), c1 _ (by omega), b1 _ (by omega), a1 _ (by omega), ← hd1]
    simp (disch := omega) only [ms_e]
  · rw [e1 _ (by omega), c1 _ (by omega), b1 _ (by omega), a1 _ (by omega), ← hd1]
    simp (disch := omega) only [ms_a, mc_e]
  · rw [e1 _ (by omega), c1 _ (by omega), b1 _ (by omega), a2, f1 _ (by omega)]
  · obtain ⟨g1, g2, g3, g4, g5, g6⟩ := a3 o x y
    rw [e1 _ (by omega), e1 _ (by omega), e1 _ (by omega), e1 _ (by omega), e1 _ (by omega), e1 _ (by omega), c1 _ (by omega), c1 _ (by omega), c1 _ (by omega), c1 _ (by omega), c1 _ (by omega), c1 _ (by omega), b1 _ (by omega), b1 _ (by omega), b1 _ (by omega), b1 _ (by omega), b1 _ (by omega), b1 _ (by omega), g1, g2, g3, g4, g5, g6]
    rw [f1 _ (by omega), f1 _ (by omega), f1 _ (by omega), f1 _ (by omega), f1 _ (by omega), f1 _ (by omega)]
    exact ⟨rfl, rfl, rfl, rfl, rfl, rfl⟩
  · rw [e1 _ (by omega), c1 _ (by omega), b1 _ (by omega), a4 i x y, f1 _ (by omega)]
  · rw [e1 _ (by omega), c1 _ (by omega), b2, s2 _ (by omega) (by omega)]
  · obtain ⟨g1, g2, g3, g4, g5⟩ := b3 p x y
    rw [e1 _ (by omega), e1 _ (by omega), e1 _ (by omega), e1 _ (by omega), e1 _ (by omega), c1 _ (by omega), c1 _ (by omega), c1 _ (by omega), c1 _ (by omega), c1 _ (by omega), g1, g2, g3, g4, g5]
    rw [s2 _ (by omega) (by omega), s2 _ (by omega) (by omega), s2 _ (by omega) (by omega), s2 _ (by omega) (by omega), s2 _ (by omega) (by omega)]
    exact ⟨rfl, rfl, rfl, rfl, rfl⟩
  · rw [e1 _ (by omega), c1 _ (by omega), b4 p x (by rw [s2 _ (by omega) (by omega)]; exact y) i u v, s2 _ (by omega) (by omega)]
  · rw [e1 _ (by omega), c2, s3 _ (by omega) (by omega)]
  · obtain ⟨g1, g2, g3, g4, g5, g6, g7⟩ := c3 t x (by rw [s3 _ (by omega) (by omega)]; exact y)
    rw [e1 _ (by omega), e1 _ (by omega), e1 _ (by omega), e1 _ (by omega), e1 _ (by omega), e1 _ (by omega), e1 _ (by omega), g1, g2, g3, g4, g5, g6, g7]
    rw [s3 _ (by omega) (by omega), s3 _ (by omega) (by omega), s3 _ (by omega) (by omega), s3 _ (by omega) (by omega), s3 _ (by omega) (by omega), s3 _ (by omega) (by omega), s3 _ (by omega) (by omega)]
    exact ⟨rfl, rfl, rfl, rfl, rfl, rfl, rfl⟩
  · rw [e2, s4 _ (by omega) (by omega)]
  · obtain ⟨g1, g2, g3, g4⟩ := e4 k x (by rw [s4 _ (by omega) (by omega)]; exact y)
    rw [g1, g2, g3, g4]
    rw [s4 _ (by omega) (by omega), s4 _ (by omega) (by omega), s4 _ (by omega) (by omega), s4 _ (by omega) (by omega)]
    exact ⟨rfl, rfl, rfl, rfl⟩
  · rw [e3, s4 _ (by omega) (by omega)]
  · rw [e5 k x (by rw [s4 _ (by omega) (by omega)]; exact y), s4 _ (by omega) (by omega)]
/-! ===== each piece of the relation: what it looks at ===== -/
theorem GN.k {w w' : Row} (e : ∀ i, 0 ≤ i ∧ i ≤ 11 → w' i = w i) (h : GN w) : GN w' := by
  unfold GN at *
  rw [e 0 (by omega), e 1 (by omega), e 2 (by omega), e 3 (by omega), e 4 (by omega), e 5 (by omega), e 6 (by omega), e 7 (by omega), e 8 (by omega), e 9 (by omega), e 10 (by omega), e 11 (by omega)]
  exact h
theorem GO.k {w w' : Row} (e : ∀ i, i = 7 ∨ i = 9 ∨ (12 ≤ i ∧ i < 420 ∧ 1 ≤ (i - 12) % 68 ∧ (i - 12) % 68 ≤ 6) ∨ (452 ≤ i ∧ i < 1916 ∧ ((i - 452) % 24 = 1 ∨ (i - 452) % 24 = 4)) → w' i = w i) (hn : GN w) (h : GO w) : GO w' := by
  intro o x y
  obtain ⟨n7, n8, n9, n10, n11, -⟩ := hn
  rw [e 7 (by omega)] at y
  have g := h o x y
  rw [e (12 + 68 * o + 1) (by omega), e (12 + 68 * o + 2) (by omega), e (12 + 68 * o + 3) (by omega), e (12 + 68 * o + 4) (by omega), e (12 + 68 * o + 5) (by omega), e (12 + 68 * o + 6) (by omega), e 9 (by omega),
    csum_congr (f := fun t => if w' (452 + 24 * t + 4) = 1 ∧ w' (452 + 24 * t + 1) = o then 1 else 0) (g := fun t => if w (452 + 24 * t + 4) = 1 ∧ w (452 + 24 * t + 1) = o then 1 else 0) (fun t a b => by
      show (if w' (452 + 24 * t + 4) = 1 ∧ w' (452 + 24 * t + 1) = o then (1 : Int) else 0) = if w (452 + 24 * t + 4) = 1 ∧ w (452 + 24 * t + 1) = o then 1 else 0
      rw [e (452 + 24 * t + 4) (by omega), e (452 + 24 * t + 1) (by omega)])]
  exact g
theorem GQ.k {w w' : Row} (e : ∀ i, i = 7 ∨ i = 9 ∨ (12 ≤ i ∧ i < 420 ∧ 5 ≤ (i - 12) % 68 ∧ ¬ (i - 12) % 68 = 6) ∨ (452 ≤ i ∧ i < 1916 ∧ ((i - 452) % 24 ≤ 2 ∨ (i - 452) % 24 = 4)) → w' i = w i) (hn : GN w) (ho : GO w) (h : GQ w) : GQ w' := by
  intro o x y k u v
  obtain ⟨n7, n8, n9, n10, n11, -⟩ := hn
  rw [e 7 (by omega)] at y
  have hO := ho o x y
  rw [e (12 + 68 * o + 5) (by omega)] at v
  have g := h o x y k u v
  rw [e (12 + 68 * o + 7 + k) (by omega), e 9 (by omega), e (452 + 24 * w (12 + 68 * o + 7 + k) + 1) (by omega), e (452 + 24 * w (12 + 68 * o + 7 + k) + 4) (by omega)]
  refine ⟨g.1, g.2.1, g.2.2.1, fun i a b => ?_⟩
  have gi := h o x y i a (by omega)
  rw [e (12 + 68 * o + 7 + i) (by omega), e (452 + 24 * w (12 + 68 * o + 7 + k) + 2) (by omega), e (452 + 24 * w (12 + 68 * o + 7 + k) + 0) (by omega), e (452 + 24 * w (12 + 68 * o + 7 + i) + 2) (by omega), e (452 + 24 * w (12 + 68 * o + 7 + i) + 0) (by omega)]
  exact g.2.2.2 i a b
theorem GT.k {w w' : Row} (e : ∀ i, i = 0 ∨ i = 7 ∨ i = 8 ∨ i = 9 ∨ (12 ≤ i ∧ i < 420 ∧ 5 ≤ (i - 12) % 68 ∧ ¬ (i - 12) % 68 = 6) ∨ (452 ≤ i ∧ i < 1916 ∧ (i - 452) % 24 ≤ 4) → w' i = w i) (hn : GN w) (ho : GO w) (h : GT w) : GT w' := by
  intro t x y
  obtain ⟨n7, n8, n9, n10, n11, -⟩ := hn
  rw [e 9 (by omega)] at y
  have g := h t x y
  rw [e (452 + 24 * t + 0) (by omega), e (452 + 24 * t + 1) (by omega), e (452 + 24 * t + 2) (by omega), e (452 + 24 * t + 3) (by omega), e (452 + 24 * t + 4) (by omega), e 0 (by omega), e 7 (by omega), e 8 (by omega)]
  refine ⟨g.1, g.2.1, g.2.2.1, g.2.2.2.1, fun z => ?_, g.2.2.2.2.2⟩
  obtain ⟨g1, k, g2, g3, g4⟩ := g.2.2.2.2.1 z
  have hO := ho _ g.2.1.1 g.2.1.2
  exact ⟨g1, k, g2, by rw [e _ (by omega)]; exact g3, by rw [e _ (by omega)]; exact g4⟩
theorem GC.k {w w' : Row} (e : ∀ i, i = 0 ∨ i = 9 ∨ (452 ≤ i ∧ i < 1916 ∧ 3 ≤ (i - 452) % 24 ∧ ¬ (i - 452) % 24 = 7) → w' i = w i) (hn : GN w) (h : GC w) : GC w' := by
  intro t x y
  obtain ⟨n7, n8, n9, n10, n11, -⟩ := hn
  rw [e 9 (by omega)] at y
  have g := h t x y
  rw [e (452 + 24 * t + 5) (by omega), e (452 + 24 * t + 6) (by omega), e (452 + 24 * t + 3) (by omega), e (452 + 24 * t + 4) (by omega), e 0 (by omega)]
  exact ⟨g.1, g.2.1, g.2.2.1, g.2.2.2.1, fun p a b => by rw [e (452 + 24 * t + 8 + p) (by omega)]; exact g.2.2.2.2 p a b⟩
theorem perO_k {w w' : Row} (e : ∀ i, (1916 ≤ i ∧ i < 2916 ∧ (i - 1916) % 5 = 1) ∨ (452 ≤ i ∧ i < 1916 ∧ (i - 452) % 24 = 0) → w' i = w i) (h9 : 0 ≤ w 9 ∧ w 9 ≤ 60) (h10 : 0 ≤ w 10 ∧ w 10 ≤ 200) {k : Int} (h0 : 0 ≤ k) (h1 : k < w 10) (g : 0 ≤ w (1916 + 5 * k + 1) ∧ w (1916 + 5 * k + 1) < w 9) : perO w' k = perO w k := by
  unfold perO
  rw [e (1916 + 5 * k + 1) (by omega), e _ (by omega)]
theorem GK.k {w w' : Row} (e : ∀ i, i = 0 ∨ i = 8 ∨ i = 9 ∨ i = 10 ∨ (1916 ≤ i ∧ i < 2916) ∨ (452 ≤ i ∧ i < 1916 ∧ (i - 452) % 24 = 0) → w' i = w i) (hn : GN w) (h : GK w) : GK w' := by
  intro k x y
  rw [e 10 (by omega)] at y
  have g := h k x y
  obtain ⟨n7, n8, n9, n10, n11, -⟩ := id hn
  have p := perO_k (fun i hi => e i (by omega)) n9 n10 x y g.2.1
  rw [e (1916 + 5 * k + 0) (by omega), e (1916 + 5 * k + 1) (by omega), e (1916 + 5 * k + 2) (by omega), e (1916 + 5 * k + 3) (by omega), e (1916 + 5 * k + 4) (by omega), e 8 (by omega), e 9 (by omega), e 0 (by omega), p]
  refine ⟨g.1, g.2.1, g.2.2.1, g.2.2.2.1, g.2.2.2.2.1, fun i a b => ?_⟩
  rw [e (1916 + 5 * i + 2) (by omega), perO_k (fun i hi => e i (by omega)) n9 n10 a (by omega) (h i a (by omega)).2.1]
  exact g.2.2.2.2.2 i a b
theorem GK.k2 {w w' : Row} (e : ∀ i, i = 0 ∨ i = 8 ∨ i = 9 ∨ i = 10 ∨ (1916 ≤ i ∧ i < 2916 ∧ ¬ (i - 1916) % 5 = 0 ∧ ¬ (i - 1916) % 5 = 3) ∨ (452 ≤ i ∧ i < 1916 ∧ (i - 452) % 24 = 0) → w' i = w i) (hn : GN w) (hz : ∀ k, 0 ≤ k → k < w 10 → (0 ≤ w' (1916 + 5 * k + 0) ∧ w' (1916 + 5 * k + 0) < w 8) ∧ (0 ≤ w' (1916 + 5 * k + 3) ∧ w' (1916 + 5 * k + 3) ≤ 2)) (h : GK w) : GK w' := by
  intro k x y
  rw [e 10 (by omega)] at y
  have g := h k x y
  obtain ⟨n7, n8, n9, n10, n11, -⟩ := id hn
  have p := perO_k (fun i hi => e i (by omega)) n9 n10 x y g.2.1
  rw [e (1916 + 5 * k + 1) (by omega), e (1916 + 5 * k + 2) (by omega), e (1916 + 5 * k + 4) (by omega), e 8 (by omega), e 9 (by omega), e 0 (by omega), p]
  refine ⟨(hz k x y).1, g.2.1, g.2.2.1, (hz k x y).2, g.2.2.2.2.1, fun i a b => ?_⟩
  rw [e (1916 + 5 * i + 2) (by omega), perO_k (fun i hi => e i (by omega)) n9 n10 a (by omega) (h i a (by omega)).2.1]
  exact g.2.2.2.2.2 i a b
theorem GR.k {w w' : Row} (e : ∀ i, i = 10 ∨ i = 11 ∨ (1916 ≤ i ∧ i < 2916 ∧ (i - 1916) % 5 = 3) ∨ (2916 ≤ i ∧ i < 3116) → w' i = w i) (hn : GN w) (h : GR w) : GR w' := by
  obtain ⟨n7, n8, n9, n10, n11, -⟩ := hn
  refine ⟨?_, fun k x y => ?_⟩
  · rw [e 11 (by omega), e 10 (by omega), h.1]
    refine csum_congr (fun k a b => ?_)
    rw [e (1916 + 5 * k + 3) (by omega)]
  · rw [e 11 (by omega)] at y
    have g := h.2 k x y
    rw [e (2916 + k) (by omega), e 10 (by omega), e _ (by omega)]
    exact ⟨g.1, g.2.1, fun i a b => by rw [e (2916 + i) (by omega)]; exact g.2.2 i a b⟩
theorem RelA.k {s : Int} {d d' : mD} {w w' : Row} (hd : ∀ b, b = s ∨ b = s + 1 → d' b = d b) (e : ∀ i, 0 ≤ i ∧ i ≤ 6 → w' i = w i) (h : RelA s d w) : RelA s d' w' := by
  obtain ⟨a1, a2, a3⟩ := h
  refine ⟨by rw [hd s (Or.inl rfl), e 1 (by omega)]; exact a1, by rw [hd s (Or.inl rfl), e 0 (by omega)]; exact a2, fun k x y => by rw [hd (s + 1) (Or.inr rfl), e (2 + k) (by omega)]; exact a3 k x y⟩
theorem RelO.k {s : Int} {d d' : mD} {w w' : Row} (hd : ∀ b, s + 2 ≤ b → b ≤ s + 8 → d' b = d b) (e : ∀ i, i = 7 ∨ (12 ≤ i ∧ i < 420 ∧ (i - 12) % 68 ≤ 5) → w' i = w i) (h7 : 0 ≤ w 7 ∧ w 7 ≤ 6) (h : RelO s d w) : RelO s d' w' := by
  obtain ⟨o1, o2⟩ := h
  refine ⟨by rw [hd _ (by omega) (by omega), e 7 (by omega)]; exact o1, fun o x y => ?_⟩
  rw [e 7 (by omega)] at y
  rw [hd (s + 3) (by omega) (by omega), hd (s + 4) (by omega) (by omega), hd (s + 5) (by omega) (by omega), hd (s + 6) (by omega) (by omega), hd (s + 7) (by omega) (by omega), hd (s + 8) (by omega) (by omega), e (12 + 68 * o + 0) (by omega), e (12 + 68 * o + 1) (by omega), e (12 + 68 * o + 2) (by omega), e (12 + 68 * o + 3) (by omega), e (12 + 68 * o + 4) (by omega), e (12 + 68 * o + 5) (by omega)]
  exact o2 o x y
theorem RelQ.k {s : Int} {d d' : mD} {w w' : Row} (hd : d' (s + 9) = d (s + 9)) (e : ∀ i, i = 7 ∨ (12 ≤ i ∧ i < 420 ∧ 5 ≤ (i - 12) % 68 ∧ ¬ (i - 12) % 68 = 6) → w' i = w i) (h7 : 0 ≤ w 7 ∧ w 7 ≤ 6) (hO : GO w) (h : RelQ s d w) : RelQ s d' w' := by
  intro o x y k u v
  rw [e 7 (by omega)] at y
  have g := hO o x y
  rw [e (12 + 68 * o + 5) (by omega)] at v
  rw [hd, e (12 + 68 * o + 7 + k) (by omega)]
  exact h o x y k u v
theorem RelP.k {s : Int} {d d' : mD} {w w' : Row} (hd : ∀ b, s + 10 ≤ b → b ≤ s + 12 → d' b = d b) (e : ∀ i, i = 8 ∨ (420 ≤ i ∧ i < 452) → w' i = w i) (h8 : 0 ≤ w 8 ∧ w 8 ≤ 16) (h : RelP s d w) : RelP s d' w' := by
  obtain ⟨p1, p2⟩ := h
  refine ⟨by rw [hd _ (by omega) (by omega), e 8 (by omega)]; exact p1, fun p x y => ?_⟩
  rw [e 8 (by omega)] at y
  rw [hd (s + 11) (by omega) (by omega), hd (s + 12) (by omega) (by omega), e (420 + 2 * p + 0) (by omega), e (420 + 2 * p + 1) (by omega)]
  exact p2 p x y
theorem RelT.k {s : Int} {d d' : mD} {w w' : Row} (hd : ∀ b, s + 49 ≤ b → b ≤ s + 54 → d' b = d b) (e : ∀ i, i = 9 ∨ (452 ≤ i ∧ i < 1916 ∧ (i - 452) % 24 ≤ 4) → w' i = w i) (h9 : 0 ≤ w 9 ∧ w 9 ≤ 60) (h : RelT s d w) : RelT s d' w' := by
  obtain ⟨t1, t2⟩ := h
  refine ⟨by rw [hd _ (by omega) (by omega), e 9 (by omega)]; exact t1, fun t x y => ?_⟩
  rw [e 9 (by omega)] at y
  rw [hd (s + 50) (by omega) (by omega), hd (s + 51) (by omega) (by omega), hd (s + 52) (by omega) (by omega), hd (s + 53) (by omega) (by omega), hd (s + 54) (by omega) (by omega), e (452 + 24 * t + 0) (by omega), e (452 + 24 * t + 1) (by omega), e (452 + 24 * t + 2) (by omega), e (452 + 24 * t + 3) (by omega), e (452 + 24 * t + 4) (by omega)]
  exact t2 t x y
theorem RelC.k {s : Int} {d d' : mD} {w w' : Row} (hd : ∀ b, b = s + 55 ∨ b = s + 56 → d' b = d b) (e : ∀ i, i = 9 ∨ (452 ≤ i ∧ i < 1916 ∧ 5 ≤ (i - 452) % 24) → w' i = w i) (h9 : 0 ≤ w 9 ∧ w 9 ≤ 60) (h : RelC s d w) : RelC s d' w' := by
  intro t x y
  rw [e 9 (by omega)] at y
  obtain ⟨g1, g2, g3, g4⟩ := h t x y
  rw [hd (s + 55) (by omega), hd (s + 56) (by omega), e (452 + 24 * t + 5) (by omega), e (452 + 24 * t + 6) (by omega), e (452 + 24 * t + 7) (by omega)]
  refine ⟨g1, ?_, fun p u v => by rw [e (452 + 24 * t + 8 + p) (by omega)]; exact g3 p u v, g4⟩
  rw [g2]
  exact csum_congr (fun p u v => by rw [e (452 + 24 * t + 8 + p) (by omega)])
theorem RelK.k {s : Int} {d d' : mD} {w w' : Row} (hd0 : d' (s + 57) 0 = d (s + 57) 0) (hd : ∀ b, s + 58 ≤ b → b ≤ s + 61 → d' b = d b) (e : ∀ i, i = 10 ∨ (1916 ≤ i ∧ i < 2916 ∧ (i - 1916) % 5 ≤ 3) → w' i = w i) (h10 : 0 ≤ w 10 ∧ w 10 ≤ 200) (h : RelK s d w) : RelK s d' w' := by
  obtain ⟨k1, k2⟩ := h
  refine ⟨by rw [hd0, e 10 (by omega)]; exact k1, fun k x y => ?_⟩
  rw [e 10 (by omega)] at y
  rw [hd (s + 58) (by omega) (by omega), hd (s + 59) (by omega) (by omega), hd (s + 60) (by omega) (by omega), hd (s + 61) (by omega) (by omega), e (1916 + 5 * k + 0) (by omega), e (1916 + 5 * k + 1) (by omega), e (1916 + 5 * k + 2) (by omega), e (1916 + 5 * k + 3) (by omega)]
  exact k2 k x y
theorem RelR.k {s : Int} {d d' : mD} {w w' : Row} (hd5 : d' (s + 57) 5 = d (s + 57) 5) (hd : d' (s + 62) = d (s + 62)) (e : ∀ i, i = 11 ∨ (2916 ≤ i ∧ i < 3116) → w' i = w i) (h11 : 0 ≤ w 11 ∧ w 11 ≤ 200) (h : RelR s d w) : RelR s d' w' := by
  obtain ⟨r1, r2⟩ := h
  refine ⟨by rw [hd5, e 11 (by omega)]; exact r1, fun k x y => ?_⟩
  rw [e 11 (by omega)] at y
  rw [hd, e (2916 + k) (by omega)]
  exact r2 k x y
theorem ndB {t p : Int} (t0 : 0 ≤ t) (t1 : t < 60) (h0 : 0 ≤ p) (h1 : p < 16) : (452 + 24 * t + 8 + p) = 0 ∨ (452 + 24 * t + 8 + p) = 8 ∨ (452 + 24 * t + 8 + p) = 9 ∨ (452 + 24 * t + 8 + p) = 10 ∨ (452 ≤ (452 + 24 * t + 8 + p) ∧ (452 + 24 * t + 8 + p) < 1916 ∧ (((452 + 24 * t + 8 + p) - 452) % 24 = 0 ∨ 8 ≤ ((452 + 24 * t + 8 + p) - 452) % 24)) ∨ (1916 ≤ (452 + 24 * t + 8 + p) ∧ (452 + 24 * t + 8 + p) < 2916 ∧ (((452 + 24 * t + 8 + p) - 1916) % 5 = 1 ∨ ((452 + 24 * t + 8 + p) - 1916) % 5 = 4)) := Or.inr (Or.inr (Or.inr (Or.inr (Or.inl ⟨by omega, by omega, Or.inr (by omega)⟩))))
theorem madeR_k {w w' : Row} (e : ∀ i, i = 0 ∨ i = 8 ∨ i = 9 ∨ i = 10 ∨ (452 ≤ i ∧ i < 1916 ∧ ((i - 452) % 24 = 0 ∨ 8 ≤ (i - 452) % 24)) ∨ (1916 ≤ i ∧ i < 2916 ∧ ((i - 1916) % 5 = 1 ∨ (i - 1916) % 5 = 4)) → w' i = w i) (h9 : 0 ≤ w 9 ∧ w 9 ≤ 60) (h10 : 0 ≤ w 10 ∧ w 10 ≤ 200) (hK : ∀ k, 0 ≤ k → k < w 10 → 0 ≤ w (1916 + 5 * k + 1) ∧ w (1916 + 5 * k + 1) < w 9) (p : Int) : madeR w' p = madeR w p := by
  unfold madeR
  rw [e 10 (by omega)]
  refine csum_congr (fun k a b => ?_)
  rw [perO_k (fun i hi => e i (by omega)) h9 h10 a (by omega) (hK k a (by omega)), e (1916 + 5 * k + 4) (by omega), e 0 (by omega)]
theorem attR_k {w w' : Row} (e : ∀ i, i = 0 ∨ i = 8 ∨ i = 9 ∨ i = 10 ∨ (452 ≤ i ∧ i < 1916 ∧ ((i - 452) % 24 = 0 ∨ 8 ≤ (i - 452) % 24)) ∨ (1916 ≤ i ∧ i < 2916 ∧ ((i - 1916) % 5 = 1 ∨ (i - 1916) % 5 = 4)) → w' i = w i) (h9 : 0 ≤ w 9 ∧ w 9 ≤ 60) {p : Int} (h0 : 0 ≤ p) (h1 : p < 16) : attR w' p = attR w p := by
  unfold attR
  rw [e 9 (by omega)]
  refine csum_congr (fun t a b => ?_)
  rw [e (452 + 24 * t + 8 + p) (ndB (by omega) (by omega) (by omega) (by omega)), e 0 (by omega)]
theorem RelB.k {s : Int} {d d' : mD} {w w' : Row} (hd : ∀ b, s + 13 ≤ b → b ≤ s + 15 → d' b = d b) (e : ∀ i, i = 0 ∨ i = 8 ∨ i = 9 ∨ i = 10 ∨ (452 ≤ i ∧ i < 1916 ∧ ((i - 452) % 24 = 0 ∨ 8 ≤ (i - 452) % 24)) ∨ (1916 ≤ i ∧ i < 2916 ∧ ((i - 1916) % 5 = 1 ∨ (i - 1916) % 5 = 4)) → w' i = w i) (h8 : 0 ≤ w 8 ∧ w 8 ≤ 16) (h9 : 0 ≤ w 9 ∧ w 9 ≤ 60) (h10 : 0 ≤ w 10 ∧ w 10 ≤ 200) (hK : ∀ k, 0 ≤ k → k < w 10 → 0 ≤ w (1916 + 5 * k + 1) ∧ w (1916 + 5 * k + 1) < w 9) (h : RelB s d w) : RelB s d' w' := by
  intro p x y
  rw [e 8 (by omega)] at y
  obtain ⟨g1, g2, g3⟩ := h p x y
  rw [hd (s + 13) (by omega) (by omega), hd (s + 14) (by omega) (by omega), hd (s + 15) (by omega) (by omega)]
  refine ⟨by rw [madeR_k e h9 h10 hK]; exact g1, by rw [attR_k e h9 x (by omega)]; exact g2, fun q u v => (g3 q u v).trans ⟨?_, ?_⟩⟩
  · rintro ⟨t, z1, z2, z3, z4⟩
    refine ⟨t, z1, by rw [e 9 (by omega)]; exact z2, by rw [e (452 + 24 * t + 0) (by omega)]; exact z3, ?_⟩
    unfold attd at *
    rw [e (452 + 24 * t + 8 + p) (ndB (by omega) (by omega) (by omega) (by omega)), e 0 (by omega)]
    exact z4
  · rintro ⟨t, z1, z2, z3, z4⟩
    rw [e 9 (by omega)] at z2
    rw [e (452 + 24 * t + 0) (by omega)] at z3
    refine ⟨t, z1, z2, z3, ?_⟩
    unfold attd at *
    rw [e (452 + 24 * t + 8 + p) (ndB (by omega) (by omega) (by omega) (by omega)), e 0 (by omega)] at z4
    exact z4
theorem RelH.k {s : Int} {d d' : mD} {w w' : Row} (hd : ∀ b, s + 18 ≤ b → b ≤ s + 48 → d' b = d b) (e : ∀ i, i = 8 ∨ i = 10 ∨ (1916 ≤ i ∧ i < 2916 ∧ ((i - 1916) % 5 = 1 ∨ (i - 1916) % 5 = 2)) ∨ (452 ≤ i ∧ i < 1916 ∧ (i - 452) % 24 = 0) → w' i = w i) (h8 : 0 ≤ w 8 ∧ w 8 ≤ 16) (h9 : 0 ≤ w 9 ∧ w 9 ≤ 60) (h10 : 0 ≤ w 10 ∧ w 10 ≤ 200) (hK : ∀ k, 0 ≤ k → k < w 10 → 0 ≤ w (1916 + 5 * k + 1) ∧ w (1916 + 5 * k + 1) < w 9) (h : RelH s d w) : RelH s d' w' := by
  intro p x y h0 u v
  rw [e 8 (by omega)] at y
  rw [hd (s + 18 + 2 * p) (by omega) (by omega)]
  refine (h p x y h0 u v).trans ⟨?_, ?_⟩
  · rintro ⟨k, z1, z2, z3, z4⟩
    exact ⟨k, z1, by rw [e 10 (by omega)]; exact z2, by rw [e (1916 + 5 * k + 2) (by omega)]; exact z3, by rw [perO_k (fun i hi => e i (by omega)) h9 h10 z1 z2 (hK k z1 z2)]; exact z4⟩
  · rintro ⟨k, z1, z2, z3, z4⟩
    rw [e 10 (by omega)] at z2
    rw [e (1916 + 5 * k + 2) (by omega)] at z3
    rw [perO_k (fun i hi => e i (by omega)) h9 h10 z1 z2 (hK k z1 z2)] at z4
    exact ⟨k, z1, z2, z3, z4⟩
theorem GK.of {w : Row} (h : GK w) : ∀ k, 0 ≤ k → k < w 10 → 0 ≤ w (1916 + 5 * k + 1) ∧ w (1916 + 5 * k + 1) < w 9 := fun k a b => (h k a b).2.1
theorem csum_upd {f g : Int → Int} {n : Nat} {k : Int} (h0 : 0 ≤ k) (h1 : k < (n : Int)) (h : ∀ i : Int, 0 ≤ i → i < (n : Int) → ¬ i = k → f i = g i) : csum f n = csum g n + (f k - g k) := by
  induction n with
  | zero => omega
  | succ n ih =>
    show csum f n + f (n : Int) = csum g n + g (n : Int) + (f k - g k)
    by_cases hk : k = (n : Int)
    · rw [csum_congr (n := n) (f := f) (g := g) (fun i a b => h i a (by omega) (by omega)), hk]
      omega
    · rw [ih (by omega) (fun i a b c => h i a (by omega) c), h (n : Int) (by omega) (by omega) (by omega)]
      omega
/-! ===== paying the offered tokens: the class's settle and the reference's settles ===== -/
def StepS (w w' : Row) : Prop := w' 1 = w 1 - w 6 ∧ w' 11 = w 11 - 1 ∧ w' (420 + 2 * w (1916 + 5 * w 2916 + 0) + 1) = w (420 + 2 * w (1916 + 5 * w 2916 + 0) + 1) + w 6 ∧ w' (1916 + 5 * w 2916 + 3) = 2 ∧ (∀ k, 0 ≤ k → k < w 11 - 1 → w' (2916 + k) = w (2916 + k + 1))
  ∧ ∀ i, ¬ i = 1 → ¬ i = 11 → ¬ i = 420 + 2 * w (1916 + 5 * w 2916 + 0) + 1 → ¬ i = 1916 + 5 * w 2916 + 3 → ¬ (2916 ≤ i ∧ i < 2916 + w 11 - 1) → w' i = w i
theorem wse {w : Row} {i v j : Int} (h : j = i) : ws w i v j = v := by simp [ws, h]
theorem wsn {w : Row} {i v j : Int} (h : ¬ j = i) : ws w i v j = w j := by simp [ws, h]
theorem sh106 {R2 : Int → Row → Int × Row} : ∀ (n : Nat) (x1 b x : Int) (w : Row), 0 ≤ x → w 11 - x ≤ (n : Int) → ∃ w' : Row, LP_219_106 R2 n x1 b x w = R2 (x1 + 1) w' ∧ (∀ k, x ≤ k → k < w 11 → w' (2916 + k) = w (2916 + k + 1)) ∧ ∀ i, ¬ (2916 + x ≤ i ∧ i < 2916 + w 11) → w' i = w i := by
  intro n
  induction n with
  | zero =>
    intro x1 b x w h0 hn
    refine ⟨w, ?_, fun k a c => by omega, fun _ _ => rfl⟩
    show ST_219_106 R2 _ x1 b x w = _
    unfold ST_219_106
    rw [if_neg (by omega)]
  | succ n ih =>
    intro x1 b x w h0 hn
    by_cases hc : x < w 11
    · have e11 : ws w (2916 + x) (w (2916 + x + 1)) 11 = w 11 := wsn (by omega)
      obtain ⟨w', i1, i2, i3⟩ := ih x1 b (x + 1) (ws w (2916 + x) (w (2916 + x + 1))) (by omega) (by rw [e11]; omega)
      rw [e11] at i2 i3
      refine ⟨w', ?_, fun k a c => ?_, fun i hi => ?_⟩
      · rw [← i1]
        show ST_219_106 R2 _ x1 b x w = _
        unfold ST_219_106
        rw [if_pos hc]
      · by_cases hk : k = x
        · rw [i3 _ (by omega), wse (by omega), hk]
        · rw [i2 k (by omega) c, wsn (by omega)]
      · rw [i3 i (by omega), wsn (by omega)]
    · refine ⟨w, ?_, fun k a c => by omega, fun _ _ => rfl⟩
      show ST_219_106 R2 _ x1 b x w = _
      unfold ST_219_106
      rw [if_neg hc]
theorem st219 {n : Nat} {y : Int} {w : Row} (h11 : 0 < w 11) (hl : w 11 ≤ 200) (h6 : w 6 ≤ w 1) (hk : 0 ≤ w 2916 ∧ w 2916 ≤ 199) (ho : 0 ≤ w (1916 + 5 * w 2916 + 0) ∧ w (1916 + 5 * w 2916 + 0) ≤ 15) : ∃ w', LP_219_2 (n + 1) y w = LP_219_2 n (y + 1) w' ∧ StepS w w' := by
  generalize hu : (ws (ws (ws (ws w 1 ((w 1) - (w 6))) ((420 + (2 * (w ((1916 + (5 * (w 2916))) + 0)))) + 1) ((w ((420 + (2 * (w ((1916 + (5 * (w 2916))) + 0)))) + 1)) + (w 6))) ((1916 + (5 * (w 2916))) + 3) 2) 11 ((w 11) - 1)) = u
  have u11 : u 11 = w 11 - 1 := by rw [← hu]; exact wse rfl
  obtain ⟨w', i1, i2, i3⟩ := sh106 (R2 := LP_219_2 n) (200 - 0 : Int).toNat y (1916 + (5 * (w 2916))) 0 u (by decide) (by rw [u11, show (((200 - 0 : Int).toNat : Nat) : Int) = 200 by decide]; omega)
  rw [u11] at i2 i3
  refine ⟨w', ?_, ?_, ?_, ?_, ?_, fun k a b => ?_, fun i e1 e2 e3 e4 e5 => ?_⟩
  · rw [← i1]
    show ST_219_2 _ y w = _
    unfold ST_219_2
    rw [if_pos h11, if_neg (by omega), hu]
  · rw [i3 1 (by omega), ← hu]
    simp (disch := omega) only [wse, wsn]
  · rw [i3 11 (by omega), u11]
  · rw [i3 _ (by omega), ← hu]
    simp (disch := omega) only [wse, wsn]
  · rw [i3 _ (by omega), ← hu]
    simp (disch := omega) only [wse, wsn]
  · rw [i2 k a b, ← hu]
    simp (disch := omega) only [wse, wsn]
  · rw [i3 i (by omega), ← hu]
    simp (disch := omega) only [wse, wsn]
-- the state while the row of offered tokens is read from place m on
def RelR' (m s : Int) (d : mD) (w : Row) : Prop := d (s + 57) 5 = w 11 + m ∧ ∀ k, 0 ≤ k → k < w 11 → d (s + 62) (m + k) = w (2916 + k)
def RelS (m s : Int) (d : mD) (w : Row) : Prop := RelA s d w ∧ RelO s d w ∧ RelQ s d w ∧ RelP s d w ∧ RelT s d w ∧ RelC s d w ∧ RelK s d w ∧ RelR' m s d w ∧ RelB s d w ∧ RelH s d w
theorem stlStep {m s : Int} {d : mD} {w w' : Row} (hm : 0 ≤ m) (hg : GG w) (h : RelS m s d w) (h11 : 0 < w 11) (h6 : w 6 ≤ w 1) (hS : StepS w w') :
    GG w' ∧ RelS (m + 1) s (mset (mset (mset d s 1 (d s 1 - w 6)) (s + 10 + 2) (d (s + 57 + 1) (d (s + 57 + 5) m)) (d (s + 10 + 2) (d (s + 57 + 1) (d (s + 57 + 5) m)) + w 6)) (s + 57 + 4) (d (s + 57 + 5) m) 2) w' := by
  obtain ⟨hN, hO, hQ, hT, hC, hK, hR⟩ := hg
  obtain ⟨n7, n8, n9, n10, n11, n0, n1, n2, n3, n4, n5, n6⟩ := id hN
  obtain ⟨⟨a1, a2, a3⟩, rO, rQ, ⟨p1, p2⟩, rT, rC, ⟨k1, k2⟩, ⟨r1, r2⟩, rB, rH⟩ := h
  obtain ⟨s1, s2, s3, s4, s5, s6⟩ := hS
  simp only [Int.add_assoc, Int.reduceAdd]
  have etk : d (s + 62) m = w 2916 := by
    have := r2 0 (by omega) h11
    simpa using this
  have gtk := (hR.2 0 (by omega) h11).1
  simp only [Int.add_zero] at gtk
  have eow := (k2 (w 2916) gtk.1 gtk.2).1
  have gow := (hK (w 2916) gtk.1 gtk.2).1
  have gk3 := (hR.2 0 (by omega) h11).2.1
  simp only [Int.add_zero] at gk3
  rw [etk, eow]
  generalize hd : (mset (mset (mset d s 1 (d s 1 - w 6)) (s + 12) (w (1916 + 5 * w 2916 + 0)) (d (s + 12) (w (1916 + 5 * w 2916 + 0)) + w 6)) (s + 61) (w 2916) 2) = d'
  have fd : ∀ b, ¬ b = s → ¬ b = s + 12 → ¬ b = s + 61 → d' b = d b := fun b x y z => by
    rw [← hd]
    funext j
    simp (disch := omega) only [ms_a]
  have e7 : w' 7 = w 7 := s6 7 (by omega) (by omega) (by omega) (by omega) (by omega)
  have e10 : w' 10 = w 10 := s6 10 (by omega) (by omega) (by omega) (by omega) (by omega)
  refine ⟨⟨?_, hO.k (fun i hi => s6 i (by omega) (by omega) (by omega) (by omega) (by omega)) hN, hQ.k (fun i hi => s6 i (by omega) (by omega) (by omega) (by omega) (by omega)) hN hO, hT.k (fun i hi => s6 i (by omega) (by omega) (by omega) (by omega) (by omega)) hN hO, hC.k (fun i hi => s6 i (by omega) (by omega) (by omega) (by omega) (by omega)) hN, ?_, ?_⟩, ?_⟩
  · unfold GN
    rw [s1, s2, s6 0 (by omega) (by omega) (by omega) (by omega) (by omega), s6 2 (by omega) (by omega) (by omega) (by omega) (by omega), s6 3 (by omega) (by omega) (by omega) (by omega) (by omega), s6 4 (by omega) (by omega) (by omega) (by omega) (by omega), s6 5 (by omega) (by omega) (by omega) (by omega) (by omega), s6 6 (by omega) (by omega) (by omega) (by omega) (by omega), e7, s6 8 (by omega) (by omega) (by omega) (by omega) (by omega), s6 9 (by omega) (by omega) (by omega) (by omega) (by omega), e10]
    omega
  · refine hK.k2 (fun i hi => s6 i (by omega) (by omega) (by omega) (by omega) (by omega)) hN (fun k x y => ?_)
    have g := hK k x y
    refine ⟨by rw [s6 _ (by omega) (by omega) (by omega) (by omega) (by omega)]; exact g.1, ?_⟩
    by_cases hk : k = w 2916
    · rw [hk, s4]; omega
    · rw [s6 _ (by omega) (by omega) (by omega) (by omega) (by omega)]; exact g.2.2.2.1
  · refine ⟨?_, fun k x y => ?_⟩
    · rw [s2, e10, hR.1]
      rw [csum_upd (f := fun k => if w' (1916 + 5 * k + 3) = 1 then 1 else 0) (g := fun k => if w (1916 + 5 * k + 3) = 1 then 1 else 0) (k := w 2916) gtk.1 (by omega) (fun i a b c => by
        show (if w' (1916 + 5 * i + 3) = 1 then (1 : Int) else 0) = if w (1916 + 5 * i + 3) = 1 then 1 else 0
        rw [s6 _ (by omega) (by omega) (by omega) (by omega) (by omega)])]
      rw [s4, gk3]
      simp
      omega
    · rw [s2] at y
      have g := hR.2 (k + 1) (by omega) (by omega)
      rw [show (2916 : Int) + (k + 1) = 2916 + k + 1 by omega] at g
      have hne : ¬ w (2916 + k + 1) = w 2916 := fun q => g.2.2 0 (by omega) (by omega) (by simpa using q.symm)
      rw [s5 k x y, e10, s6 (1916 + 5 * w (2916 + k + 1) + 3) (by omega) (by omega) (by omega) (by omega) (by omega)]
      refine ⟨g.1, g.2.1, fun i a b => ?_⟩
      rw [s5 i a (by omega)]
      have := g.2.2 (i + 1) (by omega) (by omega)
      rwa [show (2916 : Int) + (i + 1) = 2916 + i + 1 by omega] at this
  · refine ⟨⟨?_, ?_, fun k x y => ?_⟩, rO.k (fun b x y => fd b (by omega) (by omega) (by omega)) (fun i hi => s6 i (by omega) (by omega) (by omega) (by omega) (by omega)) n7, rQ.k (fd _ (by omega) (by omega) (by omega)) (fun i hi => s6 i (by omega) (by omega) (by omega) (by omega) (by omega)) n7 hO, ⟨?_, fun p x y => ?_⟩, rT.k (fun b x y => fd b (by omega) (by omega) (by omega)) (fun i hi => s6 i (by omega) (by omega) (by omega) (by omega) (by omega)) n9, rC.k (fun b x => fd b (by omega) (by omega) (by omega)) (fun i hi => s6 i (by omega) (by omega) (by omega) (by omega) (by omega)) n9, ⟨?_, fun k x y => ?_⟩, ⟨?_, fun k x y => ?_⟩, rB.k (fun b x y => fd b (by omega) (by omega) (by omega)) (fun i hi => s6 i (by omega) (by omega) (by omega) (by omega) (by omega)) n8 n9 n10 hK.of, rH.k (fun b x y => fd b (by omega) (by omega) (by omega)) (fun i hi => s6 i (by omega) (by omega) (by omega) (by omega) (by omega)) n8 n9 n10 hK.of⟩
    · rw [s1, ← hd, ← a1]
      simp (disch := omega) only [ms_a, ms_e]
    · rw [s6 0 (by omega) (by omega) (by omega) (by omega) (by omega), ← hd, ← a2]
      simp (disch := omega) only [ms_a, ms_i]
    · rw [s6 _ (by omega) (by omega) (by omega) (by omega) (by omega), fd _ (by omega) (by omega) (by omega)]
      exact a3 k x y
    · rw [fd _ (by omega) (by omega) (by omega), s6 8 (by omega) (by omega) (by omega) (by omega) (by omega)]
      exact p1
    · rw [s6 8 (by omega) (by omega) (by omega) (by omega) (by omega)] at y
      have g := p2 p x y
      refine ⟨by rw [fd _ (by omega) (by omega) (by omega), s6 _ (by omega) (by omega) (by omega) (by omega) (by omega)]; exact g.1, ?_⟩
      rw [← hd]
      by_cases hp : p = w (1916 + 5 * w 2916 + 0)
      · rw [hp, s3]
        simp (disch := omega) only [ms_a, ms_e]
        rw [(p2 _ gow.1 gow.2).2]
      · rw [s6 _ (by omega) (by omega) (by omega) (by omega) (by omega)]
        simp (disch := omega) only [ms_a, ms_i]
        exact g.2
    · rw [fd _ (by omega) (by omega) (by omega), e10]
      exact k1
    · rw [e10] at y
      have g := k2 k x y
      rw [fd (s + 58) (by omega) (by omega) (by omega), fd (s + 59) (by omega) (by omega) (by omega), fd (s + 60) (by omega) (by omega) (by omega), s6 (1916 + 5 * k + 0) (by omega) (by omega) (by omega) (by omega) (by omega), s6 (1916 + 5 * k + 1) (by omega) (by omega) (by omega) (by omega) (by omega), s6 (1916 + 5 * k + 2) (by omega) (by omega) (by omega) (by omega) (by omega)]
      refine ⟨g.1, g.2.1, g.2.2.1, ?_⟩
      rw [← hd]
      by_cases hk : k = w 2916
      · rw [hk, s4]
        simp (disch := omega) only [ms_e]
      · rw [s6 _ (by omega) (by omega) (by omega) (by omega) (by omega)]
        simp (disch := omega) only [ms_a, ms_i]
        exact g.2.2.2
    · rw [fd _ (by omega) (by omega) (by omega), s2, r1]
      omega
    · rw [s2] at y
      rw [fd _ (by omega) (by omega) (by omega), s5 k x y, show m + 1 + k = m + (k + 1) by omega, r2 (k + 1) (by omega) (by omega), show (2916 : Int) + (k + 1) = 2916 + k + 1 by omega]
theorem stlLoop {s : Int} : ∀ (nc nr : Nat) (m y : Int) (d : mD) (w : Row), 0 ≤ m → GG w → RelS m s d w → w 11 ≤ (nc : Int) → w 11 ≤ (nr : Int) → ∃ (j : Int) (d' : mD) (w' : Row), 0 ≤ j ∧ lp_82_9 s nc m (w 6) d = (m + j, g_116 (s + 57) (m + j) d') ∧ LP_219_2 nr y w = (y + j, w') ∧ GG w' ∧ RelS (m + j) s d' w' ∧ d' (s + 57) 5 = d (s + 57) 5 ∧ ∀ i, ¬ i = 1 → ¬ i = 11 → ¬ (420 ≤ i ∧ i < 452) → i < 1916 → w' i = w i := by
  intro nc
  induction nc with
  | zero =>
    intro nr m y d w hm hg h h1 h2
    have n11 := hg.1.2.2.2.2.1
    obtain ⟨-, -, -, -, -, -, -, ⟨r1, -⟩, -⟩ := id h
    refine ⟨0, d, w, by omega, ?_, ?_, hg, by rw [Int.add_zero]; exact h, rfl, fun _ _ _ _ _ => rfl⟩
    · show st_82_9 s _ m (w 6) d = _
      unfold st_82_9
      rw [if_neg (by omega), Int.add_zero]
    · cases nr with
      | zero =>
        show ST_219_2 _ y w = _
        unfold ST_219_2
        rw [if_neg (by omega), Int.add_zero]
      | succ nr =>
        show ST_219_2 _ y w = _
        unfold ST_219_2
        rw [if_neg (by omega), Int.add_zero]
  | succ nc ih =>
    intro nr m y d w hm hg h h1 h2
    obtain ⟨hN, hO, hQ, hT, hC, hK, hR⟩ := id hg
    obtain ⟨n7, n8, n9, n10, n11, n0, n1, n2, n3, n4, n5, n6⟩ := id hN
    obtain ⟨⟨a1, -⟩, -, -, -, -, -, -, ⟨r1, -⟩, -⟩ := id h
    by_cases c1 : 0 < w 11
    · by_cases c2 : w 1 < w 6
      · refine ⟨0, d, w, by omega, ?_, ?_, hg, by rw [Int.add_zero]; exact h, rfl, fun _ _ _ _ _ => rfl⟩
        · show st_82_9 s _ m (w 6) d = _
          unfold st_82_9
          rw [if_pos (by omega), if_pos (by omega), Int.add_zero]
        · cases nr with
          | zero => omega
          | succ nr =>
            show ST_219_2 _ y w = _
            unfold ST_219_2
            rw [if_pos c1, if_pos c2, Int.add_zero]
      · cases nr with
        | zero => omega
        | succ nr =>
          have gtk := (hR.2 0 (by omega) c1).1
          simp only [Int.add_zero] at gtk
          have gow := (hK (w 2916) gtk.1 gtk.2).1
          obtain ⟨w', e1, hS⟩ := st219 (n := nr) (y := y) c1 n11.2 (by omega) (by omega) (by omega)
          obtain ⟨g', h'⟩ := stlStep hm hg h c1 (by omega) hS
          have e6 : w' 6 = w 6 := hS.2.2.2.2.2 6 (by omega) (by omega) (by omega) (by omega) (by omega)
          have e11 := hS.2.1
          obtain ⟨j, d2, w2, j0, j1, j2, j3, j4, j5, j6⟩ := ih nr (m + 1) (y + 1) _ w' (by omega) g' h' (by omega) (by omega)
          refine ⟨j + 1, d2, w2, by omega, ?_, by rw [e1, j2, show y + 1 + j = y + (j + 1) by omega], j3, by rw [show m + (j + 1) = m + 1 + j by omega]; exact j4, by
            rw [j5]
            simp (disch := omega) only [ms_a], fun i x y z u => by rw [j6 i x y z u, hS.2.2.2.2.2 i x y (by omega) (by omega) (by omega)]⟩
          rw [show m + (j + 1) = m + 1 + j by omega, ← j1, e6]
          show st_82_9 s _ m (w 6) d = _
          unfold st_82_9
          rw [if_pos (by omega), if_neg (by omega)]
    · refine ⟨0, d, w, by omega, ?_, ?_, hg, by rw [Int.add_zero]; exact h, rfl, fun _ _ _ _ _ => rfl⟩
      · show st_82_9 s _ m (w 6) d = _
        unfold st_82_9
        rw [if_neg (by omega), Int.add_zero]
      · cases nr with
        | zero =>
          show ST_219_2 _ y w = _
          unfold ST_219_2
          rw [if_neg (by omega), Int.add_zero]
        | succ nr =>
          show ST_219_2 _ y w = _
          unfold ST_219_2
          rw [if_neg (by omega), Int.add_zero]
theorem drop116 {x m : Int} (hm : 0 ≤ m) : ∀ (n : Nat) (k : Int) (d : mD), m ≤ k → d x 5 - k ≤ (n : Int) → (∀ b, ¬ b = x → ¬ b = x + 5 → lp_116_2 x m n k d b = d b) ∧ (∀ j, ¬ j = 5 → lp_116_2 x m n k d x j = d x j) ∧ lp_116_2 x m n k d x 5 = d x 5 - m ∧ (∀ j, j < k - m → lp_116_2 x m n k d (x + 5) j = d (x + 5) j) ∧ ∀ j, k - m ≤ j → j < d x 5 - m → lp_116_2 x m n k d (x + 5) j = d (x + 5) (j + m) := by
  intro n
  induction n with
  | zero =>
    intro k d hk hn
    have e : lp_116_2 x m 0 k d = mset d x 5 (d x 5 - m) := by
      show st_116_2 x m _ k d = _
      unfold st_116_2
      rw [if_neg (by omega)]
    rw [e]
    exact ⟨fun b h1 h2 => by funext j; exact ms_a h1, fun j hj => ms_i hj, ms_e rfl rfl, fun j _ => ms_a (by omega), fun j a b => by omega⟩
  | succ n ih =>
    intro k d hk hn
    by_cases hc : k < d x 5
    · have e : lp_116_2 x m (n + 1) k d = lp_116_2 x m n (k + 1) (mset d (x + 5) (k - m) (d (x + 5) k)) := by
        show st_116_2 x m _ k d = _
        unfold st_116_2
        rw [if_pos hc]
      have e5 : mset d (x + 5) (k - m) (d (x + 5) k) x 5 = d x 5 := ms_a (by omega)
      rw [e]
      obtain ⟨i1, i2, i3, i4, i5⟩ := ih (k + 1) (mset d (x + 5) (k - m) (d (x + 5) k)) (by omega) (by rw [e5]; omega)
      rw [e5] at i3 i5
      refine ⟨fun b h1 h2 => by rw [i1 b h1 h2]; funext j; exact ms_a h2, fun j hj => by rw [i2 j hj, ms_a (by omega)], i3, fun j a => by rw [i4 j (by omega), ms_i (by omega)], fun j a b => ?_⟩
      by_cases hj : j = k - m
      · rw [i4 j (by omega), ms_e rfl hj]
        congr 1
        omega
      · rw [i5 j (by omega) b, ms_i (by omega)]
    · have e : lp_116_2 x m (n + 1) k d = mset d x 5 (d x 5 - m) := by
        show st_116_2 x m _ k d = _
        unfold st_116_2
        rw [if_neg hc]
      rw [e]
      exact ⟨fun b h1 h2 => by funext j; exact ms_a h1, fun j hj => ms_i hj, ms_e rfl rfl, fun j _ => ms_a (by omega), fun j a b => by omega⟩
theorem RelS.drop {m s : Int} {d : mD} {w : Row} (hm : 0 ≤ m) (hg : GG w) (h5 : d (s + 57) 5 ≤ 200) (h : RelS m s d w) : Rel s (g_116 (s + 57) m d) w := by
  obtain ⟨hN, hO, hQ, hT, hC, hK, hR⟩ := id hg
  obtain ⟨n7, n8, n9, n10, n11, n0, n1, n2, n3, n4, n5, n6⟩ := id hN
  obtain ⟨rA, rO, rQ, rP, rT, rC, rK, ⟨r1, r2⟩, rB, rH⟩ := h
  unfold g_116
  obtain ⟨i1, i2, i3, i4, i5⟩ := drop116 (x := s + 57) hm (200 - m : Int).toNat m d (by omega) (by omega)
  generalize lp_116_2 (s + 57) m (200 - m : Int).toNat m d = d' at *
  refine ⟨rA.k (fun b x => i1 b (by omega) (by omega)) (fun _ _ => rfl), rO.k (fun b x y => i1 b (by omega) (by omega)) (fun _ _ => rfl) n7, rQ.k (i1 _ (by omega) (by omega)) (fun _ _ => rfl) n7 hO, rP.k (fun b x y => i1 b (by omega) (by omega)) (fun _ _ => rfl) n8, rT.k (fun b x y => i1 b (by omega) (by omega)) (fun _ _ => rfl) n9, rC.k (fun b x => i1 b (by omega) (by omega)) (fun _ _ => rfl) n9, rK.k (i2 0 (by omega)) (fun b x y => i1 b (by omega) (by omega)) (fun _ _ => rfl) n10, ⟨by rw [i3, r1]; omega, fun k x y => ?_⟩, rB.k (fun b x y => i1 b (by omega) (by omega)) (fun _ _ => rfl) n8 n9 n10 hK.of, rH.k (fun b x y => i1 b (by omega) (by omega)) (fun _ _ => rfl) n8 n9 n10 hK.of⟩
  rw [show s + 62 = s + 57 + 5 by omega, i5 k (by omega) (by omega), show s + 57 + 5 = s + 62 by omega, Int.add_comm k m]
  exact r2 k x y
theorem settle {s : Int} {d : mD} {w : Row} (hg : GG w) (h : Rel s d w) : v_82 s d = V_219 w ∧ GG (W_219 w) ∧ Rel s (g_82 s d) (W_219 w) ∧ ∀ i, ¬ i = 1 → ¬ i = 11 → ¬ (420 ≤ i ∧ i < 452) → i < 1916 → W_219 w i = w i := by
  obtain ⟨n7, n8, n9, n10, n11, n0, n1, n2, n3, n4, n5, n6⟩ := id hg.1
  obtain ⟨rA, rO, rQ, rP, rT, rC, rK, ⟨r1, r2⟩, rB, rH⟩ := h
  have hS : RelS 0 s d w := ⟨rA, rO, rQ, rP, rT, rC, rK, ⟨by rw [r1]; omega, fun k x y => by rw [Int.zero_add]; exact r2 k x y⟩, rB, rH⟩
  obtain ⟨j, d', w', j0, j1, j2, j3, j4, j5, j6⟩ := stlLoop (s := s) (200 - 0 : Int).toNat (w 11).toNat 0 0 d w (by omega) hg hS (by rw [show (((200 - 0 : Int).toNat : Nat) : Int) = 200 by decide]; omega) (by omega)
  have e6 : d (s + 1) 4 = w 6 := rA.2.2 4 (by omega) (by omega)
  have e1 : f_82 s d = (0 + j, g_116 (s + 57) (0 + j) d') := by
    unfold f_82
    rw [e6]
    exact j1
  have e2 : F_219 w = (0 + j, w') := j2
  unfold v_82 g_82 V_219 W_219
  rw [e1, e2]
  exact ⟨rfl, j3, j4.drop (by omega) j3 (by omega), j6⟩
/-! ===== what else stands in a row: nobody witnesses before he is there, and a purse holds what was paid into it ===== -/
def GWt (w : Row) : Prop := ∀ t, 0 ≤ t → t < w 9 → ∀ q, w 8 ≤ q → q < 16 → w (452 + 24 * t + 8 + q) = 0
def C2 (w : Row) : Int := csum (fun k => if w (1916 + 5 * k + 3) = 2 then 1 else 0) (w 10).toNat
def GP (w : Row) : Prop := ∀ p, 0 ≤ p → p < w 8 → 0 ≤ w (420 + 2 * p + 1) ∧ w (420 + 2 * p + 1) ≤ 99 * C2 w
def GXI (w w' : Row) : Prop := GWt w → GP w → GWt w' ∧ GP w'
def XR (w w' : Row) : Prop := GXI w w' ∧ w' 0 = w 0
theorem GXI.trans {a b c : Row} (h : GXI a b) (g : GXI b c) : GXI a c := fun x y => g (h x y).1 (h x y).2
theorem XR.refl {w : Row} : XR w w := ⟨fun a b => ⟨a, b⟩, rfl⟩
theorem XR.trans {a b c : Row} (h : XR a b) (g : XR b c) : XR a c := ⟨h.1.trans g.1, g.2.trans h.2⟩
theorem C2_of {w w' : Row} (e10 : w' 10 = w 10) (e : ∀ k, 0 ≤ k → k < w 10 → (w' (1916 + 5 * k + 3) = 2 ↔ w (1916 + 5 * k + 3) = 2)) : C2 w' = C2 w := by
  unfold C2
  rw [e10]
  refine csum_congr (fun k a b => ?_)
  have z := e k a (by omega)
  by_cases q : w (1916 + 5 * k + 3) = 2
  · rw [if_pos q, if_pos (z.2 q)]
  · rw [if_neg q, if_neg (fun y => q (z.1 y))]
theorem GXI.keep {w w' : Row} (p8 : 0 ≤ w 8 ∧ w 8 ≤ 16) (e8 : w' 8 = w 8) (e9 : w' 9 = w 9) (ew : ∀ t q, 0 ≤ t → t < w 9 → w 8 ≤ q → q < 16 → w' (452 + 24 * t + 8 + q) = w (452 + 24 * t + 8 + q)) (ep : ∀ p, 0 ≤ p → p < 16 → w' (420 + 2 * p + 1) = w (420 + 2 * p + 1)) (ec : C2 w ≤ C2 w') : GXI w w' := by
  intro a b
  refine ⟨fun t x y q u v => ?_, fun p x y => ?_⟩
  · rw [e9] at y
    rw [e8] at u
    rw [ew t q x y u v]
    exact a t x y q u v
  · rw [e8] at y
    rw [ep p x (by omega)]
    have := b p x y
    omega
theorem stlX {s : Int} : ∀ (n : Nat) (m y : Int) (d : mD) (w : Row), 0 ≤ m → GG w → RelS m s d w → w 11 ≤ (n : Int) → XR w (LP_219_2 n y w).2 := by
  intro n
  induction n with
  | zero =>
    intro m y d w hm hg h hn
    show XR w (ST_219_2 _ y w).2
    unfold ST_219_2
    rw [if_neg (by omega)]
    exact XR.refl
  | succ n ih =>
    intro m y d w hm hg h hn
    by_cases c : 0 < w 11 ∧ ¬ w 1 < w 6
    · obtain ⟨hN, hO, hQ, hT, hC, hK, hR⟩ := id hg
      obtain ⟨n7, n8, n9, n10, n11, n0, n1, n2, n3, n4, n5, n6⟩ := id hN
      have gr := hR.2 0 (by omega) c.1
      simp only [Int.add_zero] at gr
      have gow := (hK (w 2916) gr.1.1 gr.1.2).1
      obtain ⟨w', e1, hS⟩ := st219 (n := n) (y := y) c.1 n11.2 (by omega) (by omega) (by omega)
      obtain ⟨g', h'⟩ := stlStep hm hg h c.1 (by omega) hS
      rw [e1]
      refine XR.trans ?_ (ih (m + 1) (y + 1) _ w' (by omega) g' h' (by have := hS.2.1; omega))
      obtain ⟨s1, s2, s3, s4, s5, s6⟩ := hS
      have e8 : w' 8 = w 8 := s6 8 (by omega) (by omega) (by omega) (by omega) (by omega)
      have e9 : w' 9 = w 9 := s6 9 (by omega) (by omega) (by omega) (by omega) (by omega)
      have e10 : w' 10 = w 10 := s6 10 (by omega) (by omega) (by omega) (by omega) (by omega)
      have ec : C2 w' = C2 w + 1 := by
        unfold C2
        rw [e10]
        have := csum_upd (f := fun k => if w' (1916 + 5 * k + 3) = 2 then (1 : Int) else 0) (g := fun k => if w (1916 + 5 * k + 3) = 2 then 1 else 0) (n := (w 10).toNat) (k := w 2916) gr.1.1 (by omega) (fun i a b c => by
          show (if w' (1916 + 5 * i + 3) = 2 then (1 : Int) else 0) = if w (1916 + 5 * i + 3) = 2 then 1 else 0
          rw [s6 _ (by omega) (by omega) (by omega) (by omega) (by omega)])
        rw [this]
        show _ + ((if w' (1916 + 5 * w 2916 + 3) = 2 then (1 : Int) else 0) - if w (1916 + 5 * w 2916 + 3) = 2 then 1 else 0) = _
        rw [s4, if_pos rfl, gr.2.1, if_neg (by decide)]
        omega
      refine ⟨fun a b => ⟨fun t x z q u v => ?_, fun p x z => ?_⟩, s6 0 (by omega) (by omega) (by omega) (by omega) (by omega)⟩
      · rw [e9] at z
        rw [e8] at u
        rw [s6 _ (by omega) (by omega) (by omega) (by omega) (by omega)]
        exact a t x z q u v
      · rw [e8] at z
        rw [ec]
        have := b p x z
        by_cases q : p = w (1916 + 5 * w 2916 + 0)
        · rw [q] at this ⊢
          rw [s3]
          omega
        · rw [s6 _ (by omega) (by omega) (by omega) (by omega) (by omega)]
          omega
    · have e : (LP_219_2 (n + 1) y w).2 = w := by
        show (ST_219_2 _ y w).2 = w
        unfold ST_219_2
        by_cases c1 : 0 < w 11
        · have c2 : w 1 < w 6 := by omega
          rw [if_pos c1, if_pos c2]
        · rw [if_neg c1]
      rw [e]
      exact XR.refl
theorem settleX {s : Int} {d : mD} {w : Row} (hg : GG w) (h : Rel s d w) : XR w (W_219 w) := by
  have n11 := hg.1.2.2.2.2.1
  obtain ⟨rA, rO, rQ, rP, rT, rC, rK, ⟨r1, r2⟩, rB, rH⟩ := h
  have hS : RelS 0 s d w := ⟨rA, rO, rQ, rP, rT, rC, rK, ⟨by rw [r1]; omega, fun k x y => by rw [Int.zero_add]; exact r2 k x y⟩, rB, rH⟩
  unfold W_219 F_219
  exact stlX (w 11).toNat 0 0 d w (by omega) hg hS (by omega)
/-! ===== queues: a ticket is taken out; the first one is served ===== -/
theorem lp220 {x1 x2 b : Int} : ∀ (n : Nat) (x : Int) (w : Row), 0 ≤ x → w (b + 5) - x ≤ (n : Int) → (∀ k, x ≤ k → k < w (b + 5) → LP_220_20 x1 x2 n b x w (b + 7 + k) = w (b + 7 + k + 1)) ∧ ∀ i, ¬ (b + 7 + x ≤ i ∧ i < b + 7 + w (b + 5)) → LP_220_20 x1 x2 n b x w i = w i := by
  intro n
  induction n with
  | zero =>
    intro x w h0 hn
    have e : LP_220_20 x1 x2 0 b x w = w := by
      show ST_220_20 x1 x2 _ b x w = _
      unfold ST_220_20
      rw [if_neg (by omega)]
    rw [e]
    exact ⟨fun k a c => by omega, fun _ _ => rfl⟩
  | succ n ih =>
    intro x w h0 hn
    by_cases hc : x < w (b + 5)
    · have e : LP_220_20 x1 x2 (n + 1) b x w = LP_220_20 x1 x2 n b (x + 1) (ws w (b + 7 + x) (w (b + 7 + x + 1))) := by
        show ST_220_20 x1 x2 _ b x w = _
        unfold ST_220_20
        rw [if_pos hc]
      have e5 : ws w (b + 7 + x) (w (b + 7 + x + 1)) (b + 5) = w (b + 5) := wsn (by omega)
      rw [e]
      obtain ⟨i1, i2⟩ := ih (x + 1) (ws w (b + 7 + x) (w (b + 7 + x + 1))) (by omega) (by rw [e5]; omega)
      rw [e5] at i1 i2
      refine ⟨fun k a c => ?_, fun i hi => ?_⟩
      · by_cases hk : k = x
        · rw [i2 _ (by omega), wse (by omega), hk]
        · rw [i1 k (by omega) c, wsn (by omega)]
      · rw [i2 i (by omega), wsn (by omega)]
    · have e : LP_220_20 x1 x2 (n + 1) b x w = w := by
        show ST_220_20 x1 x2 _ b x w = _
        unfold ST_220_20
        rw [if_neg hc]
      rw [e]
      exact ⟨fun k a c => by omega, fun _ _ => rfl⟩
def TakeW (o p : Int) (w w' : Row) : Prop := w' (12 + 68 * o + 5) = w (12 + 68 * o + 5) - 1 ∧ (∀ k, p ≤ k → k < w (12 + 68 * o + 5) - 1 → w' (12 + 68 * o + 7 + k) = w (12 + 68 * o + 7 + k + 1)) ∧ ∀ i, ¬ i = 12 + 68 * o + 5 → ¬ (12 + 68 * o + 7 + p ≤ i ∧ i < 12 + 68 * o + 7 + (w (12 + 68 * o + 5) - 1)) → w' i = w i
theorem take220 {o p : Int} {w : Row} (hp : 0 ≤ p) (hl : w (12 + 68 * o + 5) ≤ 62) (hp2 : p ≤ 61) : TakeW o p w (W_220 o p w) := by
  unfold W_220
  have e5 : ws w (12 + 68 * o + 5) (w (12 + 68 * o + 5) - 1) (12 + 68 * o + 5) = w (12 + 68 * o + 5) - 1 := wse rfl
  obtain ⟨i1, i2⟩ := lp220 (x1 := o) (x2 := p) (b := 12 + 68 * o) (61 - p : Int).toNat p (ws w (12 + 68 * o + 5) (w (12 + 68 * o + 5) - 1)) hp (by rw [e5]; omega)
  rw [e5] at i1 i2
  refine ⟨by rw [i2 _ (by omega), e5], fun k a b => by rw [i1 k a b, wsn (by omega)], fun i h1 h2 => by rw [i2 i h2, wsn h1]⟩
theorem lp41 {x0 o p : Int} : ∀ (n : Nat) (x : Int) (d : mD), 1 ≤ x → d (x0 + 6) o - x ≤ (n : Int) → (∀ b, ¬ b = x0 + 6 → ¬ b = x0 + 7 → lp_41_25 x0 o p n (o * 16) x d b = d b) ∧ (∀ j, ¬ j = o → lp_41_25 x0 o p n (o * 16) x d (x0 + 6) j = d (x0 + 6) j) ∧ lp_41_25 x0 o p n (o * 16) x d (x0 + 6) o = d (x0 + 6) o - 1 ∧ (∀ k, x - 1 ≤ k → k < d (x0 + 6) o - 1 → lp_41_25 x0 o p n (o * 16) x d (x0 + 7) (o * 16 + k) = d (x0 + 7) (o * 16 + k + 1)) ∧ ∀ j, ¬ (o * 16 + (x - 1) ≤ j ∧ j < o * 16 + (d (x0 + 6) o - 1)) → lp_41_25 x0 o p n (o * 16) x d (x0 + 7) j = d (x0 + 7) j := by
  intro n
  induction n with
  | zero =>
    intro x d h0 hn
    have e : lp_41_25 x0 o p 0 (o * 16) x d = mset d (x0 + 6) o (d (x0 + 6) o - 1) := by
      show st_41_25 x0 o p _ (o * 16) x d = _
      unfold st_41_25
      rw [if_neg (by omega)]
    rw [e]
    exact ⟨fun b h1 h2 => by funext j; exact ms_a h1, fun j hj => ms_i hj, ms_e rfl rfl, fun k a b => by omega, fun j hj => ms_a (by omega)⟩
  | succ n ih =>
    intro x d h0 hn
    by_cases hc : x < d (x0 + 6) o
    · have e : lp_41_25 x0 o p (n + 1) (o * 16) x d = lp_41_25 x0 o p n (o * 16) (x + 1) (mset d (x0 + 7) (o * 16 + x - 1) (d (x0 + 7) (o * 16 + x))) := by
        show st_41_25 x0 o p _ (o * 16) x d = _
        unfold st_41_25
        rw [if_pos hc]
      have e5 : ∀ j, mset d (x0 + 7) (o * 16 + x - 1) (d (x0 + 7) (o * 16 + x)) (x0 + 6) j = d (x0 + 6) j := fun j => ms_a (by omega)
      rw [e]
      obtain ⟨i1, i2, i3, i4, i5⟩ := ih (x + 1) (mset d (x0 + 7) (o * 16 + x - 1) (d (x0 + 7) (o * 16 + x))) (by omega) (by rw [e5]; omega)
      rw [e5] at i3 i4 i5
      refine ⟨fun b h1 h2 => by rw [i1 b h1 h2]; funext j; exact ms_a h2, fun j hj => by rw [i2 j hj, e5], i3, fun k a b => ?_, fun j hj => by rw [i5 j (by omega), ms_i (by omega)]⟩
      by_cases hk : k = x - 1
      · rw [i5 _ (by omega), ms_e rfl (by omega), hk]
        congr 1
        omega
      · rw [i4 k (by omega) b, ms_i (by omega)]
    · have e : lp_41_25 x0 o p (n + 1) (o * 16) x d = mset d (x0 + 6) o (d (x0 + 6) o - 1) := by
        show st_41_25 x0 o p _ (o * 16) x d = _
        unfold st_41_25
        rw [if_neg hc]
      rw [e]
      exact ⟨fun b h1 h2 => by funext j; exact ms_a h1, fun j hj => ms_i hj, ms_e rfl rfl, fun k a b => by omega, fun j hj => ms_a (by omega)⟩
def TakeD (s o p : Int) (d d' : mD) : Prop := (∀ b, ¬ b = s + 8 → ¬ b = s + 9 → d' b = d b) ∧ (∀ j, ¬ j = o → d' (s + 8) j = d (s + 8) j) ∧ d' (s + 8) o = d (s + 8) o - 1 ∧ (∀ k, p ≤ k → k < d (s + 8) o - 1 → d' (s + 9) (o * 16 + k) = d (s + 9) (o * 16 + k + 1)) ∧ ∀ j, ¬ (o * 16 + p ≤ j ∧ j < o * 16 + (d (s + 8) o - 1)) → d' (s + 9) j = d (s + 9) j
theorem take41 {s o p : Int} {d : mD} (hp : 0 ≤ p) (hl : p < d (s + 8) o) (hl2 : d (s + 8) o ≤ 16) : TakeD s o p d (g_41 (s + 2) o p d) := by
  unfold g_41
  have e8 : s + 2 + 6 = s + 8 := by omega
  have e9 : s + 2 + 7 = s + 9 := by omega
  rw [if_neg (by omega), if_pos (by rw [e8]; exact hl)]
  obtain ⟨i1, i2, i3, i4, i5⟩ := lp41 (x0 := s + 2) (o := o) (p := p) (16 - (p + 1) : Int).toNat (p + 1) d (by omega) (by rw [e8]; omega)
  rw [e8] at i1 i2 i3 i4 i5
  rw [e9] at i1 i4 i5
  rw [show p + 1 - 1 = p by omega] at i4 i5
  exact ⟨i1, i2, i3, i4, i5⟩
-- the first ticket of an office's queue is served
def RelN (s : Int) (d : mD) (w : Row) : Prop := RelA s d w ∧ RelO s d w ∧ RelQ s d w ∧ RelP s d w ∧ RelT s d w ∧ RelC s d w ∧ RelK s d w ∧ RelR s d w ∧ RelH s d w
theorem Rel.n {s : Int} {d : mD} {w : Row} (h : Rel s d w) : RelN s d w ∧ RelB s d w := by
  obtain ⟨a, b, c, e, f, g, i, j, k, l⟩ := h
  exact ⟨⟨a, b, c, e, f, g, i, j, l⟩, k⟩
theorem RelN.r {s : Int} {d : mD} {w : Row} (h : RelN s d w) (hB : RelB s d w) : Rel s d w := by
  obtain ⟨a, b, c, e, f, g, i, j, l⟩ := h
  exact ⟨a, b, c, e, f, g, i, j, hB, l⟩
def StepV (o : Int) (w w' : Row) : Prop := w' (12 + 68 * o + 5) = w (12 + 68 * o + 5) - 1 ∧ w' (12 + 68 * o + 6) = w (12 + 68 * o + 6) + 1 ∧ w' (452 + 24 * w (12 + 68 * o + 7) + 4) = 1 ∧ w' (452 + 24 * w (12 + 68 * o + 7) + 3) = w 0 ∧ (∀ k, 0 ≤ k → k < w (12 + 68 * o + 5) - 1 → w' (12 + 68 * o + 7 + k) = w (12 + 68 * o + 7 + k + 1))
  ∧ ∀ i, ¬ i = 12 + 68 * o + 5 → ¬ i = 12 + 68 * o + 6 → ¬ i = 452 + 24 * w (12 + 68 * o + 7) + 4 → ¬ i = 452 + 24 * w (12 + 68 * o + 7) + 3 → ¬ (12 + 68 * o + 7 ≤ i ∧ i < 12 + 68 * o + 7 + (w (12 + 68 * o + 5) - 1)) → w' i = w i
theorem stepV {o : Int} {w : Row} (ho : 0 ≤ o ∧ o ≤ 5) (hl : w (12 + 68 * o + 5) ≤ 61) (ht : 0 ≤ w (12 + 68 * o + 7) ∧ w (12 + 68 * o + 7) ≤ 60) : StepV o w (W_220 o 0 (ws (ws (ws w ((452 + (24 * (w ((12 + (68 * o)) + 7)))) + 4) 1) ((452 + (24 * (w ((12 + (68 * o)) + 7)))) + 3) (w 0)) ((12 + (68 * o)) + 6) ((w ((12 + (68 * o)) + 6)) + 1))) := by
  generalize hu : (ws (ws (ws w ((452 + (24 * (w ((12 + (68 * o)) + 7)))) + 4) 1) ((452 + (24 * (w ((12 + (68 * o)) + 7)))) + 3) (w 0)) ((12 + (68 * o)) + 6) ((w ((12 + (68 * o)) + 6)) + 1)) = u
  have u5 : u (12 + 68 * o + 5) = w (12 + 68 * o + 5) := by
    rw [← hu]
    simp (disch := omega) only [wsn]
  have h := take220 (o := o) (p := 0) (w := u) (by omega) (by rw [u5]; omega) (by omega)
  obtain ⟨t1, t2, t3⟩ := h
  rw [u5] at t1 t2 t3
  refine ⟨t1, ?_, ?_, ?_, fun k a b => ?_, fun i h1 h2 h3 h4 h5 => ?_⟩
  · rw [t3 _ (by omega) (by omega), ← hu]
    simp (disch := omega) only [wse]
  · rw [t3 _ (by omega) (by omega), ← hu]
    simp (disch := omega) only [wse, wsn]
  · rw [t3 _ (by omega) (by omega), ← hu]
    simp (disch := omega) only [wse, wsn]
  · rw [t2 k a b, ← hu]
    simp (disch := omega) only [wsn]
  · rw [t3 i h1 (by omega), ← hu]
    simp (disch := omega) only [wsn]
-- how many tickets were served
def srvN (w : Row) : Int := csum (fun t => if w (452 + 24 * t + 4) = 1 then 1 else 0) (w 9).toNat
theorem serve1n {o : Int} {w w' : Row} (hg : GG w) (ho : 0 ≤ o ∧ o < w 7) (hq : 0 < w (12 + 68 * o + 5)) (hS : StepV o w w') : srvN w' = srvN w + 1 := by
  obtain ⟨hN, hO, hQ, -⟩ := hg
  obtain ⟨n7, n8, n9, n10, n11, n0, n1, n2, n3, n4, n5, n6⟩ := id hN
  obtain ⟨s1, s2, s3, s4, s5, s6⟩ := hS
  have go := hO o ho.1 ho.2
  have gq := hQ o ho.1 ho.2 0 (by omega) hq
  simp only [Int.add_zero] at gq
  unfold srvN
  rw [s6 9 (by omega) (by omega) (by omega) (by omega) (by omega)]
  have hs := csum_upd (f := fun t => if w' (452 + 24 * t + 4) = 1 then 1 else 0) (g := fun t => if w (452 + 24 * t + 4) = 1 then 1 else 0) (n := (w 9).toNat) (k := w (12 + 68 * o + 7)) gq.1.1 (by omega) (fun i a b c => by
    show (if w' (452 + 24 * i + 4) = 1 then (1 : Int) else 0) = if w (452 + 24 * i + 4) = 1 then 1 else 0
    rw [s6 (452 + 24 * i + 4) (by omega) (by omega) (by omega) (by omega) (by omega)])
  rw [s3, gq.2.2.1] at hs
  rw [hs]
  simp
theorem serve1 {s o : Int} {d : mD} {w w' : Row} {X : Prop} (hg : GG w) (h : RelN s d w) (hX : X → RelB s d w) (ho : 0 ≤ o ∧ o < w 7) (hq : 0 < w (12 + 68 * o + 5)) (hS : StepV o w w') :
    GG w' ∧ RelN s (g_41 (s + 2) o 0 (g_97 (s + 49) (v_38 (s + 2) o 0 d) 1 (d s 2) d)) w' ∧ (X → RelB s (g_41 (s + 2) o 0 (g_97 (s + 49) (v_38 (s + 2) o 0 d) 1 (d s 2) d)) w') := by
  obtain ⟨hN, hO, hQ, hT, hC, hK, hR⟩ := hg
  obtain ⟨n7, n8, n9, n10, n11, n0, n1, n2, n3, n4, n5, n6⟩ := id hN
  obtain ⟨⟨a1, a2, a3⟩, ⟨o1, o2⟩, rQ, rP, ⟨t1, t2⟩, rC, rK, rR, rH⟩ := h
  obtain ⟨s1, s2, s3, s4, s5, s6⟩ := hS
  have S6 : ∀ i, (¬ i = 12 + 68 * o + 5 ∧ ¬ i = 12 + 68 * o + 6 ∧ ¬ i = 452 + 24 * w (12 + 68 * o + 7) + 4 ∧ ¬ i = 452 + 24 * w (12 + 68 * o + 7) + 3 ∧ ¬ (12 + 68 * o + 7 ≤ i ∧ i < 12 + 68 * o + 7 + (w (12 + 68 * o + 5) - 1))) → w' i = w i := fun i h => s6 i h.1 h.2.1 h.2.2.1 h.2.2.2.1 h.2.2.2.2
  have go := (hO o ho.1 ho.2).2.2.2.2.1
  have gq := hQ o ho.1 ho.2 0 (by omega) hq
  simp only [Int.add_zero] at gq
  have et : v_38 (s + 2) o 0 d = w (12 + 68 * o + 7) := by
    have := rQ o ho.1 ho.2 0 (by omega) hq
    simp only [Int.add_zero] at this
    unfold v_38
    rw [show s + 2 + 7 = s + 9 by omega, Int.add_zero]
    exact this
  have e8 : d (s + 8) o = w (12 + 68 * o + 5) := (o2 o ho.1 ho.2).2.2.2.2.2
  rw [et]
  have e1 : g_97 (s + 49) (w (12 + 68 * o + 7)) 1 (d s 2) d = mset (mset d (s + 54) (w (12 + 68 * o + 7)) 1) (s + 53) (w (12 + 68 * o + 7)) (w 0) := by
    unfold g_97
    simp only [Int.add_assoc, Int.reduceAdd, a2]
  rw [e1]
  generalize hd1 : mset (mset d (s + 54) (w (12 + 68 * o + 7)) 1) (s + 53) (w (12 + 68 * o + 7)) (w 0) = d1
  have f1 : ∀ b, ¬ b = s + 54 → ¬ b = s + 53 → d1 b = d b := fun b x y => by
    rw [← hd1]
    funext j
    simp (disch := omega) only [ms_a]
  obtain ⟨q1, q2, q3, q4, q5⟩ := take41 (s := s) (o := o) (p := 0) (d := d1) (by omega) (by rw [f1 _ (by omega) (by omega), e8]; exact hq) (by rw [f1 _ (by omega) (by omega), e8]; omega)
  generalize g_41 (s + 2) o 0 d1 = d' at *
  rw [f1 (s + 8) (by omega) (by omega), e8] at q3 q4 q5
  have fd : ∀ b, ¬ b = s + 54 → ¬ b = s + 53 → ¬ b = s + 8 → ¬ b = s + 9 → d' b = d b := fun b x y z u => by rw [q1 b z u, f1 b x y]
  -- the ticket is in no other place
  have other : ∀ o', 0 ≤ o' → o' < w 7 → ∀ k, 0 ≤ k → k < w (12 + 68 * o' + 5) → ¬ (o' = o ∧ k = 0) → ¬ w (12 + 68 * o' + 7 + k) = w (12 + 68 * o + 7) := by
    intro o' x y k u v hn e
    have g := hQ o' x y k u v
    rw [e] at g
    by_cases hoo : o' = o
    · subst hoo
      have g2 := g.2.2.2 0 (by omega) (by omega)
      simp only [Int.add_zero] at g2
      exact g2.2 trivial
    · omega
  refine ⟨⟨?_, ?_, ?_, ?_, ?_, ?_, hR.k (fun i hi => S6 i (by omega)) hN⟩, ⟨?_, ?_, ?_, rP.k (fun b x y => fd b (by omega) (by omega) (by omega) (by omega)) (fun i hi => S6 i (by omega)) n8, ?_, rC.k (fun b x => fd b (by omega) (by omega) (by omega) (by omega)) (fun i hi => S6 i (by omega)) n9, rK.k (by rw [fd _ (by omega) (by omega) (by omega) (by omega)]) (fun b x y => fd b (by omega) (by omega) (by omega) (by omega)) (fun i hi => S6 i (by omega)) n10, rR.k (by rw [fd _ (by omega) (by omega) (by omega) (by omega)]) (fd _ (by omega) (by omega) (by omega) (by omega)) (fun i hi => S6 i (by omega)) n11, rH.k (fun b x y => fd b (by omega) (by omega) (by omega) (by omega)) (fun i hi => S6 i (by omega)) n8 n9 n10 hK.of⟩, fun hx => (hX hx).k (fun b x y => fd b (by omega) (by omega) (by omega) (by omega)) (fun i hi => S6 i (by omega)) n8 n9 n10 hK.of⟩
  · exact hN.k (fun i hi => S6 i (by omega))
  · -- offices
    intro o' x y
    rw [S6 7 (by omega)] at y
    have g := hO o' x y
    rw [S6 (12 + 68 * o' + 1) (by omega), S6 (12 + 68 * o' + 2) (by omega), S6 (12 + 68 * o' + 3) (by omega), S6 (12 + 68 * o' + 4) (by omega), S6 9 (by omega)]
    have hs := csum_upd (f := fun t => if w' (452 + 24 * t + 4) = 1 ∧ w' (452 + 24 * t + 1) = o' then 1 else 0) (g := fun t => if w (452 + 24 * t + 4) = 1 ∧ w (452 + 24 * t + 1) = o' then 1 else 0) (n := (w 9).toNat) (k := w (12 + 68 * o + 7)) gq.1.1 (by omega) (fun i a b c => by
      show (if w' (452 + 24 * i + 4) = 1 ∧ w' (452 + 24 * i + 1) = o' then (1 : Int) else 0) = if w (452 + 24 * i + 4) = 1 ∧ w (452 + 24 * i + 1) = o' then 1 else 0
      rw [S6 (452 + 24 * i + 4) (by omega), S6 (452 + 24 * i + 1) (by omega)])
    rw [s3, S6 (452 + 24 * w (12 + 68 * o + 7) + 1) (by omega), gq.2.1, gq.2.2.1] at hs
    rw [hs]
    by_cases hoo : o' = o
    · subst hoo
      rw [s1, s2, g.2.2.2.2.2.2]
      simp
      omega
    · rw [S6 (12 + 68 * o' + 5) (by omega), S6 (12 + 68 * o' + 6) (by omega), g.2.2.2.2.2.2]
      rw [if_neg (fun z => hoo z.2.symm), if_neg (fun z => hoo z.2.symm)]
      simp
      omega
  · -- queues
    intro o' x y k u v
    rw [S6 7 (by omega)] at y
    by_cases hoo : o' = o
    · subst hoo
      rw [s1] at v
      have g := hQ o' x y (k + 1) (by omega) (by omega)
      rw [show 12 + 68 * o' + 7 + (k + 1) = 12 + 68 * o' + 7 + k + 1 by omega] at g
      have ne := other o' x y (k + 1) (by omega) (by omega) (by omega)
      rw [show 12 + 68 * o' + 7 + (k + 1) = 12 + 68 * o' + 7 + k + 1 by omega] at ne
      rw [s5 k u v, S6 9 (by omega), S6 (452 + 24 * w (12 + 68 * o' + 7 + k + 1) + 1) (by omega), S6 (452 + 24 * w (12 + 68 * o' + 7 + k + 1) + 4) (by omega)]
      refine ⟨g.1, g.2.1, g.2.2.1, fun i a b => ?_⟩
      have g2 := g.2.2.2 (i + 1) (by omega) (by omega)
      rw [show 12 + 68 * o' + 7 + (i + 1) = 12 + 68 * o' + 7 + i + 1 by omega] at g2
      have gi := hQ o' x y (i + 1) (by omega) (by omega)
      rw [show 12 + 68 * o' + 7 + (i + 1) = 12 + 68 * o' + 7 + i + 1 by omega] at gi
      rw [s5 i a (by omega), S6 (452 + 24 * w (12 + 68 * o' + 7 + k + 1) + 2) (by omega), S6 (452 + 24 * w (12 + 68 * o' + 7 + k + 1) + 0) (by omega), S6 (452 + 24 * w (12 + 68 * o' + 7 + i + 1) + 2) (by omega), S6 (452 + 24 * w (12 + 68 * o' + 7 + i + 1) + 0) (by omega)]
      exact g2
    · have go' := hO o' x y
      rw [S6 (12 + 68 * o' + 5) (by omega)] at v
      have g := hQ o' x y k u v
      have ne := other o' x y k u v (by omega)
      rw [S6 (12 + 68 * o' + 7 + k) (by omega), S6 9 (by omega), S6 (452 + 24 * w (12 + 68 * o' + 7 + k) + 1) (by omega), S6 (452 + 24 * w (12 + 68 * o' + 7 + k) + 4) (by omega)]
      refine ⟨g.1, g.2.1, g.2.2.1, fun i a b => ?_⟩
      have gi := hQ o' x y i a (by omega)
      rw [S6 (12 + 68 * o' + 7 + i) (by omega), S6 (452 + 24 * w (12 + 68 * o' + 7 + k) + 2) (by omega), S6 (452 + 24 * w (12 + 68 * o' + 7 + k) + 0) (by omega), S6 (452 + 24 * w (12 + 68 * o' + 7 + i) + 2) (by omega), S6 (452 + 24 * w (12 + 68 * o' + 7 + i) + 0) (by omega)]
      exact g.2.2.2 i a b
  · -- tickets
    intro t x y
    rw [S6 9 (by omega)] at y
    have g := hT t x y
    rw [S6 (452 + 24 * t + 0) (by omega), S6 (452 + 24 * t + 1) (by omega), S6 (452 + 24 * t + 2) (by omega), S6 0 (by omega), S6 7 (by omega), S6 8 (by omega)]
    by_cases ht : t = w (12 + 68 * o + 7)
    · rw [ht, s3, s4]
      rw [ht] at g
      exact ⟨g.1, g.2.1, g.2.2.1, by omega, fun z => by omega, fun _ => by omega⟩
    · rw [S6 (452 + 24 * t + 3) (by omega), S6 (452 + 24 * t + 4) (by omega)]
      refine ⟨g.1, g.2.1, g.2.2.1, g.2.2.2.1, fun z => ?_, g.2.2.2.2.2⟩
      obtain ⟨z1, k, z2, z3, z4⟩ := g.2.2.2.2.1 z
      refine ⟨z1, ?_⟩
      have go' := hO _ g.2.1.1 g.2.1.2
      by_cases hoo : w (452 + 24 * t + 1) = o
      · rw [hoo] at z3 z4 ⊢
        have hk : ¬ k = 0 := by
          intro hk
          rw [hk, Int.add_zero] at z4
          exact ht z4.symm
        refine ⟨k - 1, by omega, by rw [s1]; omega, ?_⟩
        rw [s5 (k - 1) (by omega) (by omega), show 12 + 68 * o + 7 + (k - 1) + 1 = 12 + 68 * o + 7 + k by omega]
        exact z4
      · exact ⟨k, z2, by rw [S6 _ (by omega)]; exact z3, by rw [S6 _ (by omega)]; exact z4⟩
  · -- claims
    intro t x y
    rw [S6 9 (by omega)] at y
    have g := hC t x y
    rw [S6 (452 + 24 * t + 5) (by omega), S6 (452 + 24 * t + 6) (by omega), S6 0 (by omega)]
    have gp : ∀ p, 0 ≤ p → p < 16 → 0 ≤ w' (452 + 24 * t + 8 + p) ∧ w' (452 + 24 * t + 8 + p) ≤ w 0 + 1 := fun p a b => by
      rw [S6 _ (by omega)]
      exact g.2.2.2.2 p a b
    by_cases ht : t = w (12 + 68 * o + 7)
    · rw [ht] at g gp ⊢
      rw [s3, s4]
      refine ⟨g.1, g.2.1, fun z => ?_, fun _ => rfl, gp⟩
      have := g.2.2.2.1 (g.2.2.1 z).1
      omega
    · rw [S6 (452 + 24 * t + 3) (by omega), S6 (452 + 24 * t + 4) (by omega)]
      exact ⟨g.1, g.2.1, g.2.2.1, g.2.2.2.1, gp⟩
  · exact hK.k (fun i hi => S6 i (by omega)) hN
  · refine ⟨?_, ?_, fun k x y => ?_⟩
    · rw [fd _ (by omega) (by omega) (by omega) (by omega), S6 1 (by omega)]; exact a1
    · rw [fd _ (by omega) (by omega) (by omega) (by omega), S6 0 (by omega)]; exact a2
    · rw [fd _ (by omega) (by omega) (by omega) (by omega), S6 _ (by omega)]; exact a3 k x y
  · refine ⟨?_, fun o' x y => ?_⟩
    · rw [fd _ (by omega) (by omega) (by omega) (by omega), S6 7 (by omega)]; exact o1
    · rw [S6 7 (by omega)] at y
      have g := o2 o' x y
      rw [fd (s + 3) (by omega) (by omega) (by omega) (by omega), fd (s + 4) (by omega) (by omega) (by omega) (by omega), fd (s + 5) (by omega) (by omega) (by omega) (by omega), fd (s + 6) (by omega) (by omega) (by omega) (by omega), fd (s + 7) (by omega) (by omega) (by omega) (by omega), S6 (12 + 68 * o' + 0) (by omega), S6 (12 + 68 * o' + 1) (by omega), S6 (12 + 68 * o' + 2) (by omega), S6 (12 + 68 * o' + 3) (by omega), S6 (12 + 68 * o' + 4) (by omega)]
      refine ⟨g.1, g.2.1, g.2.2.1, g.2.2.2.1, g.2.2.2.2.1, ?_⟩
      by_cases hoo : o' = o
      · rw [hoo, q3, s1]
      · rw [q2 o' hoo, f1 _ (by omega) (by omega), S6 (12 + 68 * o' + 5) (by omega)]
        exact g.2.2.2.2.2
  · intro o' x y k u v
    rw [S6 7 (by omega)] at y
    have go' := hO o' x y
    by_cases hoo : o' = o
    · subst hoo
      rw [s1] at v
      rw [q4 k u (by omega), f1 _ (by omega) (by omega), s5 k u v]
      have := rQ o' x y (k + 1) (by omega) (by omega)
      rw [show o' * 16 + (k + 1) = o' * 16 + k + 1 by omega, show 12 + 68 * o' + 7 + (k + 1) = 12 + 68 * o' + 7 + k + 1 by omega] at this
      exact this
    · rw [S6 (12 + 68 * o' + 5) (by omega)] at v
      rw [q5 _ (by omega), f1 _ (by omega) (by omega), S6 _ (by omega)]
      exact rQ o' x y k u v
  · refine ⟨?_, fun t x y => ?_⟩
    · rw [fd _ (by omega) (by omega) (by omega) (by omega), S6 9 (by omega)]; exact t1
    · rw [S6 9 (by omega)] at y
      have g := t2 t x y
      rw [fd (s + 50) (by omega) (by omega) (by omega) (by omega), fd (s + 51) (by omega) (by omega) (by omega) (by omega), fd (s + 52) (by omega) (by omega) (by omega) (by omega), S6 (452 + 24 * t + 0) (by omega), S6 (452 + 24 * t + 1) (by omega), S6 (452 + 24 * t + 2) (by omega), q1 (s + 53) (by omega) (by omega), q1 (s + 54) (by omega) (by omega), ← hd1]
      by_cases ht : t = w (12 + 68 * o + 7)
      · rw [ht] at g ⊢
        rw [s3, s4]
        simp (disch := omega) only [ms_a, ms_e]
        exact ⟨g.1, g.2.1, g.2.2.1, trivial, trivial⟩
      · rw [S6 (452 + 24 * t + 3) (by omega), S6 (452 + 24 * t + 4) (by omega)]
        simp (disch := omega) only [ms_a, ms_i]
        exact g
/-! ===== an office serves ===== -/
theorem serveLoop {s o many : Int} {X : Prop} : ∀ (nc nr : Nat) (i : Int) (d : mD) (w : Row), 0 ≤ i → i ≤ many → GG w → RelN s d w → (X → RelB s d w) → 0 ≤ o ∧ o < w 7 → many = mmin (w (12 + 68 * o + 1)) (i + w (12 + 68 * o + 5)) → many - i ≤ (nc : Int) → 4 - i ≤ (nr : Int) →
    GG (LP_222_7 o nr (12 + 68 * o) i w) ∧ RelN s (lp_69_15 s o nc many i d).2 (LP_222_7 o nr (12 + 68 * o) i w) ∧ (X → RelB s (lp_69_15 s o nc many i d).2 (LP_222_7 o nr (12 + 68 * o) i w)) ∧ (lp_69_15 s o nc many i d).1 = many ∧ (∀ j, j ≤ 11 ∨ (452 ≤ j ∧ j < 1916 ∧ (5 ≤ (j - 452) % 24 ∨ (j - 452) % 24 ≤ 2)) ∨ (420 ≤ j ∧ j < 452) ∨ 1916 ≤ j → LP_222_7 o nr (12 + 68 * o) i w j = w j) ∧ srvN (LP_222_7 o nr (12 + 68 * o) i w) = srvN w + (many - i) := by
  intro nc
  induction nc with
  | zero =>
    intro nr i d w hi him hg h hX ho hm h1 h2
    have go := hg.2.1 o ho.1 ho.2
    have hmn := mmin_r (w (12 + 68 * o + 1)) (i + w (12 + 68 * o + 5))
    have e : lp_69_15 s o 0 many i d = (many, d) := by
      show st_69_15 s o _ many i d = _
      unfold st_69_15
      rw [if_neg (by omega)]
    have e2 : LP_222_7 o nr (12 + 68 * o) i w = w := by
      cases nr with
      | zero =>
        show ST_222_7 o _ (12 + 68 * o) i w = w
        unfold ST_222_7
        split
        · rw [if_neg (by omega)]
        · rfl
      | succ nr =>
        show ST_222_7 o _ (12 + 68 * o) i w = w
        unfold ST_222_7
        split
        · rw [if_neg (by omega)]
        · rfl
    rw [e, e2]
    exact ⟨hg, h, hX, rfl, fun _ _ => rfl, by omega⟩
  | succ nc ih =>
    intro nr i d w hi him hg h hX ho hm h1 h2
    have go := hg.2.1 o ho.1 ho.2
    have n7 := hg.1.1
    have n9 := hg.1.2.2.1
    have hmn := mmin_r (w (12 + 68 * o + 1)) (i + w (12 + 68 * o + 5))
    by_cases hc : i < many
    · cases nr with
      | zero => omega
      | succ nr =>
        have gq := hg.2.2.1 o ho.1 ho.2 0 (by omega) (by omega)
        simp only [Int.add_zero] at gq
        have hS := stepV (o := o) (w := w) (by omega) (by omega) (by omega)
        have e2 : LP_222_7 o (nr + 1) (12 + 68 * o) i w = LP_222_7 o nr (12 + 68 * o) (i + 1) (W_220 o 0 (ws (ws (ws w ((452 + (24 * (w ((12 + (68 * o)) + 7)))) + 4) 1) ((452 + (24 * (w ((12 + (68 * o)) + 7)))) + 3) (w 0)) ((12 + (68 * o)) + 6) ((w ((12 + (68 * o)) + 6)) + 1))) := by
          show ST_222_7 o _ (12 + 68 * o) i w = _
          unfold ST_222_7
          rw [if_pos (by omega), if_pos (by omega)]
        have e : lp_69_15 s o (nc + 1) many i d = lp_69_15 s o nc many (i + 1) (g_41 (s + 2) o 0 (g_97 (s + 49) (v_38 (s + 2) o 0 d) 1 (d s 2) d)) := by
          show st_69_15 s o _ many i d = _
          unfold st_69_15
          rw [if_pos hc]
        rw [e, e2]
        generalize W_220 o 0 (ws (ws (ws w ((452 + (24 * (w ((12 + (68 * o)) + 7)))) + 4) 1) ((452 + (24 * (w ((12 + (68 * o)) + 7)))) + 3) (w 0)) ((12 + (68 * o)) + 6) ((w ((12 + (68 * o)) + 6)) + 1)) = w' at *
        obtain ⟨g', r', x'⟩ := serve1 hg h hX ho (by omega) hS
        have hsn := serve1n hg ho (by omega) hS
        obtain ⟨s1, s2, s3, s4, s5, s6⟩ := hS
        have e7 : w' 7 = w 7 := s6 7 (by omega) (by omega) (by omega) (by omega) (by omega)
        obtain ⟨j1, j2, j3, j4, j5, j6⟩ := ih nr (i + 1) _ w' (by omega) (by omega) g' r' x' (by rw [e7]; exact ho) (by rw [s1, s6 (12 + 68 * o + 1) (by omega) (by omega) (by omega) (by omega) (by omega), hm]; congr 1; omega) (by omega) (by omega)
        exact ⟨j1, j2, j3, j4, fun j hj => by rw [j5 j hj, s6 j (by omega) (by omega) (by omega) (by omega) (by omega)], by rw [j6, hsn]; omega⟩
    · have e : lp_69_15 s o (nc + 1) many i d = (many, d) := by
        show st_69_15 s o _ many i d = _
        unfold st_69_15
        rw [if_neg hc]
      have e2 : LP_222_7 o nr (12 + 68 * o) i w = w := by
        cases nr with
        | zero =>
          show ST_222_7 o _ (12 + 68 * o) i w = w
          unfold ST_222_7
          split
          · rw [if_neg (by omega)]
          · rfl
        | succ nr =>
          show ST_222_7 o _ (12 + 68 * o) i w = w
          unfold ST_222_7
          split
          · rw [if_neg (by omega)]
          · rfl
      rw [e, e2]
      exact ⟨hg, h, hX, rfl, fun _ _ => rfl, by omega⟩
-- what an office does in an hour, in the reference
def hourO (o : Int) (w : Row) : Row := if w (12 + 68 * o + 4) = 0 then w else if w 0 % w (12 + 68 * o + 2) = 0 then W_222 o w else w
theorem serve {s o : Int} {d : mD} {w : Row} {X : Prop} (hg : GG w) (h : RelN s d w) (hX : X → RelB s d w) (ho : 0 ≤ o ∧ o < w 7) :
    GG (hourO o w) ∧ RelN s (g_69 s o d) (hourO o w) ∧ (X → RelB s (g_69 s o d) (hourO o w)) ∧ (∀ j, j ≤ 11 ∨ (452 ≤ j ∧ j < 1916 ∧ (5 ≤ (j - 452) % 24 ∨ (j - 452) % 24 ≤ 2)) ∨ (420 ≤ j ∧ j < 452) ∨ 1916 ≤ j → hourO o w j = w j) ∧ srvN (hourO o w) = srvN w + v_69 s o d := by
  have go := hg.2.1 o ho.1 ho.2
  have n7 := hg.1.1
  have n0 := hg.1.2.2.2.2.2.1
  obtain ⟨⟨a1, a2, a3⟩, ⟨o1, o2⟩, -⟩ := id h
  have g := o2 o ho.1 ho.2
  have e42 : v_42 (s + 2) o (d s 2) d = if w (12 + 68 * o + 4) = 0 then 0 else if w 0 % w (12 + 68 * o + 2) = 0 then mmin (w (12 + 68 * o + 1)) (w (12 + 68 * o + 5)) else 0 := by
    unfold v_42
    rw [show s + 2 + 5 = s + 7 by omega, show s + 2 + 3 = s + 5 by omega, show s + 2 + 2 = s + 4 by omega, show s + 2 + 6 = s + 8 by omega, g.2.1, g.2.2.1, g.2.2.2.2.1, g.2.2.2.2.2, a2]
    have hmx : mmax 1 (w (12 + 68 * o + 2)) = w (12 + 68 * o + 2) := by
      have := mmax_r 1 (w (12 + 68 * o + 2))
      omega
    rw [hmx]
  unfold v_69 g_69 f_69
  rw [e42]
  unfold hourO
  by_cases c1 : w (12 + 68 * o + 4) = 0
  · rw [if_pos c1, if_pos c1]
    have e : lp_69_15 s o ((0 : Int) - 0).toNat 0 0 d = (0, d) := by
      show st_69_15 s o _ 0 0 d = _
      unfold st_69_15
      rw [if_neg (by omega)]
    rw [e]
    exact ⟨hg, h, hX, fun _ _ => rfl, by simp⟩
  · rw [if_neg c1, if_neg c1]
    by_cases c2 : w 0 % w (12 + 68 * o + 2) = 0
    · rw [if_pos c2, if_pos c2]
      have hmn := mmin_r (w (12 + 68 * o + 1)) (w (12 + 68 * o + 5))
      unfold W_222
      obtain ⟨j1, j2, j3, j4, j5, j6⟩ := serveLoop (s := s) (o := o) (many := mmin (w (12 + 68 * o + 1)) (w (12 + 68 * o + 5))) (X := X) (mmin (w (12 + 68 * o + 1)) (w (12 + 68 * o + 5)) - 0 : Int).toNat (4 - 0 : Int).toNat 0 d w (by omega) (by omega) hg h hX ho (by rw [Int.zero_add]) (by omega) (by decide)
      exact ⟨j1, j2, j3, j5, by rw [j6, j4, Int.sub_zero]⟩
    · rw [if_neg c2, if_neg c2]
      have e : lp_69_15 s o ((0 : Int) - 0).toNat 0 0 d = (0, d) := by
        show st_69_15 s o _ 0 0 d = _
        unfold st_69_15
        rw [if_neg (by omega)]
      rw [e]
      exact ⟨hg, h, hX, fun _ _ => rfl, by simp⟩
/-! ===== tokens are made: the class's makeTokens and the reference's makes ===== -/
theorem lp216 {p h : Int} : ∀ (n : Nat) (k : Int) (w : Row), 0 ≤ k → w 10 - k ≤ (n : Int) → (LP_216_2 p h n k w = 0 ∨ LP_216_2 p h n k w = 1) ∧ (LP_216_2 p h n k w = 0 ↔ ¬ ∃ j, k ≤ j ∧ j < w 10 ∧ w (1916 + 5 * j + 2) = h ∧ perO w j = p) := by
  intro n
  induction n with
  | zero =>
    intro k w h0 hn
    have e : LP_216_2 p h 0 k w = 0 := by
      show ST_216_2 p h _ k w = 0
      unfold ST_216_2
      rw [if_neg (by omega)]
    rw [e]
    exact ⟨Or.inl rfl, ⟨fun _ ⟨j, a, b, _⟩ => by omega, fun _ => rfl⟩⟩
  | succ n ih =>
    intro k w h0 hn
    have i := ih (k + 1) w (by omega) (by omega)
    by_cases c1 : k < w 10
    · by_cases c2 : w (1916 + 5 * k + 2) = h
      · by_cases c3 : perO w k = p
        · have e : LP_216_2 p h (n + 1) k w = 1 := by
            show ST_216_2 p h _ k w = 1
            unfold ST_216_2
            rw [if_pos c1, if_pos c2, if_pos (show V_215 k w = p from c3)]
          rw [e]
          exact ⟨Or.inr rfl, ⟨fun z => by omega, fun z => absurd ⟨k, by omega, c1, c2, c3⟩ z⟩⟩
        · have e : LP_216_2 p h (n + 1) k w = LP_216_2 p h n (k + 1) w := by
            show ST_216_2 p h _ k w = _
            unfold ST_216_2
            rw [if_pos c1, if_pos c2, if_neg (show ¬ V_215 k w = p from c3)]
          rw [e]
          refine ⟨i.1, i.2.trans ⟨fun z ⟨j, a, b, c, dd⟩ => z ⟨j, ?_, b, c, dd⟩, fun z ⟨j, a, b, c, dd⟩ => z ⟨j, by omega, b, c, dd⟩⟩⟩
          by_cases hj : j = k
          · rw [hj] at dd; exact absurd dd c3
          · omega
      · have e : LP_216_2 p h (n + 1) k w = LP_216_2 p h n (k + 1) w := by
          show ST_216_2 p h _ k w = _
          unfold ST_216_2
          rw [if_pos c1, if_neg c2]
        rw [e]
        refine ⟨i.1, i.2.trans ⟨fun z ⟨j, a, b, c, dd⟩ => z ⟨j, ?_, b, c, dd⟩, fun z ⟨j, a, b, c, dd⟩ => z ⟨j, by omega, b, c, dd⟩⟩⟩
        by_cases hj : j = k
        · rw [hj] at c; exact absurd c c2
        · omega
    · have e : LP_216_2 p h (n + 1) k w = 0 := by
        show ST_216_2 p h _ k w = 0
        unfold ST_216_2
        rw [if_neg c1]
      rw [e]
      exact ⟨Or.inl rfl, ⟨fun _ ⟨j, a, b, _⟩ => by omega, fun _ => rfl⟩⟩
theorem v216 {p h : Int} {w : Row} (h10 : 0 ≤ w 10 ∧ w 10 ≤ 200) : (V_216 p h w = 0 ∨ V_216 p h w = 1) ∧ (V_216 p h w = 0 ↔ ¬ ∃ j, 0 ≤ j ∧ j < w 10 ∧ w (1916 + 5 * j + 2) = h ∧ perO w j = p) := lp216 (200 - 0 : Int).toNat 0 w (by decide) (by rw [show (((200 - 0 : Int).toNat : Nat) : Int) = 200 by decide]; omega)
theorem lp217 {p : Int} : ∀ (n : Nat) (a k : Int) (w : Row), 0 ≤ k → k ≤ w 10 → w 10 - k ≤ (n : Int) → LP_217_4 p n a k w = a + (csum (fun k => if perO w k = p ∧ w (1916 + 5 * k + 4) / 20 = w 0 / 20 then 1 else 0) (w 10).toNat - csum (fun k => if perO w k = p ∧ w (1916 + 5 * k + 4) / 20 = w 0 / 20 then 1 else 0) k.toNat) := by
  intro n
  induction n with
  | zero =>
    intro a k w h0 hk hn
    have : k = w 10 := by omega
    rw [this]
    show ST_217_4 p _ a (w 10) w = _
    unfold ST_217_4
    rw [if_neg (by omega)]
    omega
  | succ n ih =>
    intro a k w h0 hk hn
    by_cases c1 : k < w 10
    · have i := fun a => ih a (k + 1) w (by omega) (by omega) (by omega)
      rw [csum_s _ h0] at i
      show ST_217_4 p _ a k w = _
      unfold ST_217_4
      rw [if_pos c1]
      by_cases c2 : perO w k = p
      · rw [if_pos (show V_215 k w = p from c2)]
        by_cases c3 : w (1916 + 5 * k + 4) / 20 = w 0 / 20
        · rw [if_pos c3, i, if_pos ⟨c2, c3⟩]
          omega
        · rw [if_neg c3, i, if_neg (fun z => c3 z.2)]
          omega
      · rw [if_neg (show ¬ V_215 k w = p from c2), i, if_neg (fun z => c2 z.1)]
        omega
    · have : k = w 10 := by omega
      rw [this]
      show ST_217_4 p _ a (w 10) w = _
      unfold ST_217_4
      rw [if_neg (by omega)]
      omega
theorem v217 {p : Int} {w : Row} (h10 : 0 ≤ w 10 ∧ w 10 ≤ 200) : V_217 p w = madeR w p := by
  have h := lp217 (p := p) (200 - 0 : Int).toNat 0 0 w (by decide) h10.1 (by rw [show (((200 - 0 : Int).toNat : Nat) : Int) = 200 by decide]; omega)
  unfold V_217 madeR
  rw [h]
  show 0 + (_ - csum _ 0) = _
  simp only [csum]
  omega
theorem g7_ne {x h : Int} {d : mD} {b : Int} (hb : ¬ b = x + 1) : g_7 x h d b = d b := by
  unfold g_7
  split
  · rfl
  · split
    · rfl
    · funext j
      exact ms_a hb
theorem RelH.has {s : Int} {d : mD} {w : Row} (hH : RelH s d w) (h10 : 0 ≤ w 10 ∧ w 10 ≤ 200) {p h : Int} (p0 : 0 ≤ p) (p1 : p < w 8) (h0 : 0 ≤ h) (h1 : h ≤ 999) : v_6 (s + 10 + 6 + (1 + 2 * p)) h d = V_216 p h w := by
  have a := hH p p0 p1 h h0 h1
  obtain ⟨b, c⟩ := v216 (p := p) (h := h) h10
  rw [has_iff h0 h1, show s + 10 + 6 + (1 + 2 * p) + 1 = s + 18 + 2 * p by omega]
  by_cases z : lb (d (s + 18 + 2 * p) (h / 64)) (h % 64).toNat = true
  · rw [if_pos z]
    rcases b with b | b
    · exact absurd (a.mp z) (c.mp b)
    · exact b.symm
  · rw [if_neg z]
    have := c.mpr (fun q => z (a.mpr q))
    exact this.symm
def RelB' (p m s : Int) (d : mD) (w : Row) : Prop := ∀ q, 0 ≤ q → q < w 8 → d (s + 13) q + (if q = p then m else 0) = madeR w q ∧ d (s + 14) q = attR w q ∧ ∀ r, 0 ≤ r → r < 16 → (ib (d (s + 15) q) r.toNat = true ↔ ∃ t, 0 ≤ t ∧ t < w 9 ∧ w (452 + 24 * t + 0) = r ∧ attd w t q)
def TokW (p t h : Int) (w w' : Row) : Prop := w' 10 = w 10 + 1 ∧ w' (1916 + 5 * w 10 + 0) = p ∧ w' (1916 + 5 * w 10 + 1) = t ∧ w' (1916 + 5 * w 10 + 2) = h ∧ w' (1916 + 5 * w 10 + 3) = 0 ∧ w' (1916 + 5 * w 10 + 4) = w 0 ∧ ∀ i, ¬ i = 10 → ¬ (1916 + 5 * w 10 ≤ i ∧ i < 1916 + 5 * w 10 + 5) → w' i = w i
theorem tokW {p t h : Int} {w : Row} (h10 : 0 ≤ w 10 ∧ w 10 ≤ 200) : TokW p t h w (ws (ws (ws (ws (ws (ws w ((1916 + (5 * (w 10))) + 0) p) ((1916 + (5 * (w 10))) + 1) t) ((1916 + (5 * (w 10))) + 2) h) ((1916 + (5 * (w 10))) + 3) 0) ((1916 + (5 * (w 10))) + 4) (w 0)) 10 ((w 10) + 1)) := by
  refine ⟨?_, ?_, ?_, ?_, ?_, ?_, fun i h1 h2 => ?_⟩ <;> simp (disch := omega) only [wse, wsn]
theorem mk1 {s p t h m : Int} {d : mD} {w w' : Row} (hg : GG w) (hr : RelN s d w) (hB : RelB' p m s d w) (ht : 0 ≤ t ∧ t < w 9) (hp : w (452 + 24 * t + 0) = p) (hh : 0 ≤ h ∧ h ≤ 999) (h10 : w 10 < 200) (hv : V_216 p h w = 0) (hS : TokW p t h w w') :
    GG w' ∧ RelN s (g_109 (s + 57) p t h (g_7 (s + 10 + 6 + (1 + 2 * p)) h d)) w' ∧ RelB' p (m + 1) s (g_109 (s + 57) p t h (g_7 (s + 10 + 6 + (1 + 2 * p)) h d)) w' ∧ madeR w' p = madeR w p + 1 := by
  obtain ⟨hN, hO, hQ, hT, hC, hK, hR⟩ := hg
  obtain ⟨n7, n8, n9, n10, n11, n0, n1, n2, n3, n4, n5, n6⟩ := id hN
  obtain ⟨rA, rO, rQ, rP, rT, rC, ⟨k1, k2⟩, rR, rH⟩ := hr
  obtain ⟨s1, s2, s3, s4, s5, s7, s6⟩ := hS
  have gt := hT t ht.1 ht.2
  rw [hp] at gt
  have hno := (v216 (p := p) (h := h) n10).2.mp hv
  have e10 : g_7 (s + 10 + 6 + (1 + 2 * p)) h d (s + 57) 0 = w 10 := by rw [g7_ne (by omega)]; exact k1
  have eg : g_109 (s + 57) p t h (g_7 (s + 10 + 6 + (1 + 2 * p)) h d) = mset (mset (mset (mset (mset (g_7 (s + 10 + 6 + (1 + 2 * p)) h d) (s + 58) (w 10) p) (s + 59) (w 10) t) (s + 60) (w 10) h) (s + 61) (w 10) 0) (s + 57) 0 (w 10 + 1) := by
    unfold g_109
    rw [e10, if_pos (by omega)]
    simp only [Int.add_assoc, Int.reduceAdd]
  generalize hd : g_109 (s + 57) p t h (g_7 (s + 10 + 6 + (1 + 2 * p)) h d) = d' at *
  have fd : ∀ b, ¬ (s + 57 ≤ b ∧ b ≤ s + 61) → ¬ b = s + 18 + 2 * p → d' b = d b := fun b x y => by
    rw [eg]
    funext j
    simp (disch := omega) only [ms_a]
    rw [g7_ne (by omega)]
  have fh : ∀ q h', d' (s + 18 + 2 * q) h' = g_7 (s + 10 + 6 + (1 + 2 * p)) h d (s + 18 + 2 * q) h' ∨ ¬ (0 ≤ q ∧ q < 16) := fun q h' => by
    by_cases c : 0 ≤ q ∧ q < 16
    · refine Or.inl ?_
      rw [eg]
      simp (disch := omega) only [ms_a]
    · exact Or.inr c
  have pO : ∀ k, 0 ≤ k → k < w 10 → perO w' k = perO w k := fun k a b => by
    have g := hK k a b
    unfold perO
    rw [s6 (1916 + 5 * k + 1) (by omega) (by omega), s6 (452 + 24 * w (1916 + 5 * k + 1) + 0) (by omega) (by omega)]
  have pN : perO w' (w 10) = p := by
    unfold perO
    rw [s3, s6 _ (by omega) (by omega), hp]
  have mR : ∀ q, madeR w' q = madeR w q + (if p = q then 1 else 0) := fun q => by
    unfold madeR
    rw [s1, csum_s _ n10.1, pN, s7, s6 0 (by omega) (by omega)]
    rw [csum_congr (f := fun k => if perO w' k = q ∧ w' (1916 + 5 * k + 4) / 20 = w 0 / 20 then 1 else 0) (g := fun k => if perO w k = q ∧ w (1916 + 5 * k + 4) / 20 = w 0 / 20 then 1 else 0) (fun k a b => by
      show (if perO w' k = q ∧ w' (1916 + 5 * k + 4) / 20 = w 0 / 20 then (1 : Int) else 0) = if perO w k = q ∧ w (1916 + 5 * k + 4) / 20 = w 0 / 20 then 1 else 0
      rw [pO k a (by omega), s6 (1916 + 5 * k + 4) (by omega) (by omega)])]
    simp
  refine ⟨⟨?_, hO.k (fun i hi => s6 i (by omega) (by omega)) hN, hQ.k (fun i hi => s6 i (by omega) (by omega)) hN hO, hT.k (fun i hi => s6 i (by omega) (by omega)) hN hO, hC.k (fun i hi => s6 i (by omega) (by omega)) hN, ?_, ?_⟩, ⟨?_, ?_, ?_, ?_, ?_, ?_, ?_, ?_, ?_⟩, ?_, by rw [mR, if_pos rfl]⟩
  · unfold GN
    rw [s1, s6 0 (by omega) (by omega), s6 1 (by omega) (by omega), s6 2 (by omega) (by omega), s6 3 (by omega) (by omega), s6 4 (by omega) (by omega), s6 5 (by omega) (by omega), s6 6 (by omega) (by omega), s6 7 (by omega) (by omega), s6 8 (by omega) (by omega), s6 9 (by omega) (by omega), s6 11 (by omega) (by omega)]
    omega
  · -- tokens
    intro k x y
    rw [s1] at y
    rw [s6 0 (by omega) (by omega), s6 8 (by omega) (by omega), s6 9 (by omega) (by omega)]
    by_cases hk : k = w 10
    · rw [hk, s2, s3, s4, s5, s7, pN]
      refine ⟨by omega, ht, hh, by omega, by omega, fun i a b => ?_⟩
      rw [s6 (1916 + 5 * i + 2) (by omega) (by omega), pO i a b]
      exact fun z => hno ⟨i, a, b, z.1, z.2⟩
    · have g := hK k x (by omega)
      rw [s6 (1916 + 5 * k + 0) (by omega) (by omega), s6 (1916 + 5 * k + 1) (by omega) (by omega), s6 (1916 + 5 * k + 2) (by omega) (by omega), s6 (1916 + 5 * k + 3) (by omega) (by omega), s6 (1916 + 5 * k + 4) (by omega) (by omega), pO k x (by omega)]
      refine ⟨g.1, g.2.1, g.2.2.1, g.2.2.2.1, g.2.2.2.2.1, fun i a b => ?_⟩
      rw [s6 (1916 + 5 * i + 2) (by omega) (by omega), pO i a (by omega)]
      exact g.2.2.2.2.2 i a b
  · refine ⟨?_, fun k x y => ?_⟩
    · rw [s1, csum_s _ n10.1, s5, s6 11 (by omega) (by omega), hR.1]
      rw [csum_congr (f := fun k => if w' (1916 + 5 * k + 3) = 1 then 1 else 0) (g := fun k => if w (1916 + 5 * k + 3) = 1 then 1 else 0) (fun k a b => by
        show (if w' (1916 + 5 * k + 3) = 1 then (1 : Int) else 0) = if w (1916 + 5 * k + 3) = 1 then 1 else 0
        rw [s6 (1916 + 5 * k + 3) (by omega) (by omega)])]
      simp
    · rw [s6 11 (by omega) (by omega)] at y
      have g := hR.2 k x y
      rw [s6 (2916 + k) (by omega) (by omega), s1, s6 (1916 + 5 * w (2916 + k) + 3) (by omega) (by omega)]
      refine ⟨by omega, g.2.1, fun i a b => ?_⟩
      rw [s6 (2916 + i) (by omega) (by omega)]
      exact g.2.2 i a b
  · exact rA.k (fun b x => fd b (by omega) (by omega)) (fun i hi => s6 i (by omega) (by omega))
  · exact rO.k (fun b x y => fd b (by omega) (by omega)) (fun i hi => s6 i (by omega) (by omega)) n7
  · exact rQ.k (fd _ (by omega) (by omega)) (fun i hi => s6 i (by omega) (by omega)) n7 hO
  · exact rP.k (fun b x y => fd b (by omega) (by omega)) (fun i hi => s6 i (by omega) (by omega)) n8
  · exact rT.k (fun b x y => fd b (by omega) (by omega)) (fun i hi => s6 i (by omega) (by omega)) n9
  · exact rC.k (fun b x => fd b (by omega) (by omega)) (fun i hi => s6 i (by omega) (by omega)) n9
  · refine ⟨by rw [eg, s1]; exact ms_e rfl rfl, fun k x y => ?_⟩
    rw [s1] at y
    rw [eg]
    by_cases hk : k = w 10
    · rw [hk, s2, s3, s4, s5]
      simp (disch := omega) only [ms_a, ms_e]
      exact ⟨trivial, trivial, trivial, trivial⟩
    · have g := k2 k x (by omega)
      rw [s6 (1916 + 5 * k + 0) (by omega) (by omega), s6 (1916 + 5 * k + 1) (by omega) (by omega), s6 (1916 + 5 * k + 2) (by omega) (by omega), s6 (1916 + 5 * k + 3) (by omega) (by omega)]
      simp (disch := omega) only [ms_a, ms_i]
      rw [g7_ne (by omega), g7_ne (by omega), g7_ne (by omega), g7_ne (by omega)]
      exact g
  · refine rR.k ?_ (fd _ (by omega) (by omega)) (fun i hi => s6 i (by omega) (by omega)) n11
    rw [eg]
    simp (disch := omega) only [ms_a, ms_i]
    rw [g7_ne (by omega)]
  · intro q x y h' u v
    rw [s6 8 (by omega) (by omega)] at y
    have ga := rH q x y h' u v
    have gw : lb (d' (s + 18 + 2 * q) (h' / 64)) (h' % 64).toNat = true ↔ (q = p ∧ h' = h) ∨ lb (d (s + 18 + 2 * q) (h' / 64)) (h' % 64).toNat = true := by
      rcases fh q (h' / 64) with e | e
      · rw [e]
        by_cases hqp : q = p
        · subst hqp
          have a1 := add_has (d := d) (x := s + 10 + 6 + (1 + 2 * q)) hh.1 hh.2 u v
          rw [has_iff u v, has_iff u v, show s + 10 + 6 + (1 + 2 * q) + 1 = s + 18 + 2 * q by omega] at a1
          by_cases hhh : h' = h
          · rw [if_pos hhh] at a1
            constructor
            · intro _; exact Or.inl ⟨rfl, hhh⟩
            · intro _
              by_cases z : lb (g_7 (s + 10 + 6 + (1 + 2 * q)) h d (s + 18 + 2 * q) (h' / 64)) (h' % 64).toNat = true
              · exact z
              · rw [if_neg z] at a1; omega
          · rw [if_neg hhh] at a1
            constructor
            · intro z
              rw [if_pos z] at a1
              refine Or.inr ?_
              by_cases z2 : lb (d (s + 18 + 2 * q) (h' / 64)) (h' % 64).toNat = true
              · exact z2
              · rw [if_neg z2] at a1; omega
            · rintro (z | z)
              · exact absurd z.2 hhh
              · rw [if_pos z] at a1
                by_cases z2 : lb (g_7 (s + 10 + 6 + (1 + 2 * q)) h d (s + 18 + 2 * q) (h' / 64)) (h' % 64).toNat = true
                · exact z2
                · rw [if_neg z2] at a1; omega
        · rw [g7_ne (by omega)]
          exact ⟨fun z => Or.inr z, fun z => z.elim (fun z => absurd z.1 hqp) id⟩
      · omega
    rw [gw, ga]
    constructor
    · rintro (⟨z1, z2⟩ | ⟨k, z1, z2, z3, z4⟩)
      · exact ⟨w 10, by omega, by omega, by rw [s4, z2], by rw [pN, z1]⟩
      · exact ⟨k, z1, by omega, by rw [s6 _ (by omega) (by omega)]; exact z3, by rw [pO k z1 z2]; exact z4⟩
    · rintro ⟨k, z1, z2, z3, z4⟩
      by_cases hk : k = w 10
      · rw [hk, s4] at z3
        rw [hk, pN] at z4
        exact Or.inl ⟨z4.symm, z3.symm⟩
      · rw [s6 _ (by omega) (by omega)] at z3
        rw [pO k z1 (by omega)] at z4
        exact Or.inr ⟨k, z1, by omega, z3, z4⟩
  · intro q x y
    rw [s6 8 (by omega) (by omega)] at y
    obtain ⟨g1, g2, g3⟩ := hB q x y
    rw [fd (s + 13) (by omega) (by omega), fd (s + 14) (by omega) (by omega), fd (s + 15) (by omega) (by omega), mR]
    refine ⟨?_, ?_, fun r a b => ?_⟩
    · rw [← g1]
      by_cases hq : q = p
      · subst hq
        simp only [if_true]
        omega
      · rw [if_neg hq, if_neg hq, if_neg (fun z => hq z.symm)]
        omega
    · rw [g2]
      unfold attR
      rw [s6 9 (by omega) (by omega)]
      exact csum_congr (fun t a b => by rw [s6 (452 + 24 * t + 8 + q) (by omega) (by omega), s6 0 (by omega) (by omega)])
    · rw [g3 r a b]
      constructor
      · rintro ⟨t, z1, z2, z3, z4⟩
        refine ⟨t, z1, by rw [s6 9 (by omega) (by omega)]; exact z2, by rw [s6 _ (by omega) (by omega)]; exact z3, ?_⟩
        unfold attd at *
        rw [s6 (452 + 24 * t + 8 + q) (by omega) (by omega), s6 0 (by omega) (by omega)]
        exact z4
      · rintro ⟨t, z1, z2, z3, z4⟩
        rw [s6 9 (by omega) (by omega)] at z2
        rw [s6 _ (by omega) (by omega)] at z3
        refine ⟨t, z1, z2, z3, ?_⟩
        unfold attd at *
        rw [s6 (452 + 24 * t + 8 + q) (by omega) (by omega), s6 0 (by omega) (by omega)] at z4
        exact z4
theorem mkIdle {t p y z : Int} : ∀ (n : Nat) (h : Int) (w : Row), w (452 + 24 * t + 3) - h ≤ (n : Int) → ¬ (z < w 5 ∧ w 10 < 200) → LP_218_41 t n p z y h w = (y, w) := by
  intro n
  induction n with
  | zero =>
    intro h w hn hc
    show ST_218_41 t _ p z y h w = _
    unfold ST_218_41
    rw [if_neg (by omega)]
  | succ n ih =>
    intro h w hn hc
    show ST_218_41 t _ p z y h w = _
    unfold ST_218_41
    by_cases c1 : h < w (452 + 24 * t + 3)
    · rw [if_pos c1]
      by_cases c2 : z < w 5
      · rw [if_pos c2, if_neg (fun z2 => hc ⟨c2, z2⟩)]
        exact ih (h + 1) w (by omega) hc
      · rw [if_neg c2]
        exact ih (h + 1) w (by omega) hc
    · rw [if_neg c1]
theorem RelB'.fin {p m s : Int} {d : mD} {w : Row} (h : RelB' p m s d w) : RelB s (mset d (s + 10 + 3) p (d (s + 10 + 3) p + m)) w := by
  intro q x y
  obtain ⟨g1, g2, g3⟩ := h q x y
  rw [show s + 10 + 3 = s + 13 by omega]
  by_cases hq : q = p
  · subst hq
    rw [if_pos rfl] at g1
    simp (disch := omega) only [ms_a, ms_e]
    exact ⟨g1, g2, g3⟩
  · rw [if_neg hq, Int.add_zero] at g1
    simp (disch := omega) only [ms_a, ms_i]
    exact ⟨g1, g2, g3⟩
theorem RelN.made {p v s : Int} {d : mD} {w : Row} (hg : GG w) (h : RelN s d w) : RelN s (mset d (s + 10 + 3) p v) w := by
  obtain ⟨hN, hO, hQ, hT, hC, hK, hR⟩ := hg
  obtain ⟨n7, n8, n9, n10, n11, n0, n1, n2, n3, n4, n5, n6⟩ := id hN
  obtain ⟨rA, rO, rQ, rP, rT, rC, rK, rR, rH⟩ := h
  have fd : ∀ b, ¬ b = s + 13 → mset d (s + 10 + 3) p v b = d b := fun b x => by
    funext j
    exact ms_a (by omega)
  exact ⟨rA.k (fun b x => fd b (by omega)) (fun _ _ => rfl), rO.k (fun b x y => fd b (by omega)) (fun _ _ => rfl) n7, rQ.k (fd _ (by omega)) (fun _ _ => rfl) n7 hO, rP.k (fun b x y => fd b (by omega)) (fun _ _ => rfl) n8, rT.k (fun b x y => fd b (by omega)) (fun _ _ => rfl) n9, rC.k (fun b x => fd b (by omega)) (fun _ _ => rfl) n9, rK.k (by rw [fd _ (by omega)]) (fun b x y => fd b (by omega)) (fun _ _ => rfl) n10, rR.k (by rw [fd _ (by omega)]) (fd _ (by omega)) (fun _ _ => rfl) n11, rH.k (fun b x y => fd b (by omega)) (fun _ _ => rfl) n8 n9 n10 hK.of⟩
theorem mkLoop {s t p en room : Int} : ∀ (nc nr : Nat) (m y h : Int) (d : mD) (w : Row), GG w → RelN s d w → RelB' p m s d w → 0 ≤ t ∧ t < w 9 → w (452 + 24 * t + 0) = p → w (452 + 24 * t + 3) = en → en ≤ 999 → 0 ≤ h → room = mmin (w 5 - (madeR w p - m)) (200 - (w 10 - m)) → en - h ≤ (nc : Int) → en - h ≤ (nr : Int) →
    (lp_81_48 s t nc p en room m h d).1 - m = (LP_218_41 t nr p (madeR w p) y h w).1 - y ∧ GG (LP_218_41 t nr p (madeR w p) y h w).2 ∧ RelN s (lp_81_48 s t nc p en room m h d).2 (LP_218_41 t nr p (madeR w p) y h w).2 ∧ RelB s (lp_81_48 s t nc p en room m h d).2 (LP_218_41 t nr p (madeR w p) y h w).2 ∧ ∀ i, ¬ i = 10 → ¬ (1916 ≤ i ∧ i < 2916) → (LP_218_41 t nr p (madeR w p) y h w).2 i = w i := by
  intro nc
  induction nc with
  | zero =>
    intro nr m y h d w hg hr hB ht hp he h9 h0 hm h1 h2
    have e : lp_81_48 s t 0 p en room m h d = (m, mset d (s + 10 + 3) p (d (s + 10 + 3) p + m)) := by
      show st_81_48 s t _ p en room m h d = _
      unfold st_81_48
      rw [if_neg (by omega)]
    have e2 : LP_218_41 t nr p (madeR w p) y h w = (y, w) := by
      cases nr with
      | zero =>
        show ST_218_41 t _ p (madeR w p) y h w = _
        unfold ST_218_41
        rw [if_neg (by omega)]
      | succ nr =>
        show ST_218_41 t _ p (madeR w p) y h w = _
        unfold ST_218_41
        rw [if_neg (by omega)]
    rw [e, e2]
    exact ⟨by omega, hg, hr.made hg, hB.fin, fun _ _ _ => rfl⟩
  | succ nc ih =>
    intro nr m y h d w hg hr hB ht hp he h9 h0 hm h1 h2
    have n10 := hg.1.2.2.2.1
    have n9 := hg.1.2.2.1
    have n8 := hg.1.2.1
    have gt := hg.2.2.2.1 t ht.1 ht.2
    rw [hp] at gt
    have hmn := mmin_r (w 5 - (madeR w p - m)) (200 - (w 10 - m))
    by_cases c1 : h < en
    · cases nr with
      | zero => omega
      | succ nr =>
        by_cases c2 : m < room
        · have hv := hr.2.2.2.2.2.2.2.2.has n10 gt.1.1 gt.1.2 h0 (by omega : h ≤ 999)
          by_cases c3 : V_216 p h w = 0
          · have hS := tokW (p := p) (t := t) (h := h) n10
            have e2 : LP_218_41 t (nr + 1) p (madeR w p) y h w = LP_218_41 t nr p (madeR w p + 1) (y + 1) (h + 1) (ws (ws (ws (ws (ws (ws w ((1916 + (5 * (w 10))) + 0) p) ((1916 + (5 * (w 10))) + 1) t) ((1916 + (5 * (w 10))) + 2) h) ((1916 + (5 * (w 10))) + 3) 0) ((1916 + (5 * (w 10))) + 4) (w 0)) 10 ((w 10) + 1)) := by
              show ST_218_41 t _ p (madeR w p) y h w = _
              unfold ST_218_41
              rw [if_pos (by omega), if_pos (by omega), if_pos (by omega), if_pos c3]
            have e : lp_81_48 s t (nc + 1) p en room m h d = lp_81_48 s t nc p en room (m + 1) (h + 1) (g_109 (s + 57) p t h (g_7 (s + 10 + 6 + (1 + 2 * p)) h d)) := by
              show st_81_48 s t _ p en room m h d = _
              unfold st_81_48
              rw [if_pos c1, if_pos c2, if_pos (by rw [hv]; exact c3)]
            rw [e, e2]
            generalize (ws (ws (ws (ws (ws (ws w ((1916 + (5 * (w 10))) + 0) p) ((1916 + (5 * (w 10))) + 1) t) ((1916 + (5 * (w 10))) + 2) h) ((1916 + (5 * (w 10))) + 3) 0) ((1916 + (5 * (w 10))) + 4) (w 0)) 10 ((w 10) + 1)) = w' at *
            obtain ⟨g', r', b', mm⟩ := mk1 hg hr hB ht hp ⟨h0, by omega⟩ (by omega) c3 hS
            obtain ⟨s1, s2, s3, s4, s5, s7, s6⟩ := hS
            obtain ⟨j1, j2, j3, j4, j5⟩ := ih nr (m + 1) (y + 1) (h + 1) _ w' g' r' b' (by rw [s6 9 (by omega) (by omega)]; exact ht) (by rw [s6 _ (by omega) (by omega)]; exact hp) (by rw [s6 _ (by omega) (by omega)]; exact he) h9 (by omega) (by rw [s6 5 (by omega) (by omega), mm, s1, hm]; congr 1 <;> omega) (by omega) (by omega)
            rw [mm] at j1 j2 j3 j4 j5
            exact ⟨by omega, j2, j3, j4, fun i a b => by rw [j5 i a b, s6 i a (by omega)]⟩
          · have e2 : LP_218_41 t (nr + 1) p (madeR w p) y h w = LP_218_41 t nr p (madeR w p) y (h + 1) w := by
              show ST_218_41 t _ p (madeR w p) y h w = _
              unfold ST_218_41
              rw [if_pos (by omega), if_pos (by omega), if_pos (by omega), if_neg c3]
            have e : lp_81_48 s t (nc + 1) p en room m h d = lp_81_48 s t nc p en room m (h + 1) d := by
              show st_81_48 s t _ p en room m h d = _
              unfold st_81_48
              rw [if_pos c1, if_pos c2, if_neg (by rw [hv]; exact c3)]
            rw [e, e2]
            exact ih nr m y (h + 1) d w hg hr hB ht hp he h9 (by omega) hm (by omega) (by omega)
        · have e : lp_81_48 s t (nc + 1) p en room m h d = (m, mset d (s + 10 + 3) p (d (s + 10 + 3) p + m)) := by
            show st_81_48 s t _ p en room m h d = _
            unfold st_81_48
            rw [if_pos c1, if_neg c2]
          rw [e, mkIdle (nr + 1) h w (by omega) (by omega)]
          exact ⟨by omega, hg, hr.made hg, hB.fin, fun _ _ _ => rfl⟩
    · have e : lp_81_48 s t (nc + 1) p en room m h d = (m, mset d (s + 10 + 3) p (d (s + 10 + 3) p + m)) := by
        show st_81_48 s t _ p en room m h d = _
        unfold st_81_48
        rw [if_neg c1]
      have e2 : LP_218_41 t nr p (madeR w p) y h w = (y, w) := by
        cases nr with
        | zero =>
          show ST_218_41 t _ p (madeR w p) y h w = _
          unfold ST_218_41
          rw [if_neg (by omega)]
        | succ nr =>
          show ST_218_41 t _ p (madeR w p) y h w = _
          unfold ST_218_41
          rw [if_neg (by omega)]
      rw [e, e2]
      exact ⟨by omega, hg, hr.made hg, hB.fin, fun _ _ _ => rfl⟩
theorem makes {s t : Int} {d : mD} {w : Row} (hg : GG w) (h : Rel s d w) (ht : 0 ≤ t ∧ t < w 9) (hs : w (452 + 24 * t + 4) = 1) (h9 : w (452 + 24 * t + 3) ≤ 999) :
    v_81 s t d = V_218 t w ∧ GG (W_218 t w) ∧ Rel s (g_81 s t d) (W_218 t w) ∧ ∀ i, ¬ i = 10 → ¬ (1916 ≤ i ∧ i < 2916) → W_218 t w i = w i := by
  obtain ⟨n7, n8, n9, n10, n11, n0, n1, n2, n3, n4, n5, n6⟩ := id hg.1
  obtain ⟨hn, hB⟩ := h.n
  obtain ⟨⟨a1, a2, a3⟩, -, -, -, ⟨t1, t2⟩, -, ⟨k1, -⟩, -, -⟩ := id hn
  have gt := hg.2.2.2.1 t ht.1 ht.2
  have gt2 := t2 t ht.1 ht.2
  have gB := hB _ gt.1.1 gt.1.2
  have hB' : RelB' (w (452 + 24 * t + 0)) 0 s d w := fun q x y => by
    obtain ⟨g1, g2, g3⟩ := hB q x y
    refine ⟨?_, g2, g3⟩
    split <;> omega
  have e3 : d (s + 1) 3 = w 5 := a3 3 (by omega) (by omega)
  have e0 : d (s + 1) 0 = w 2 := a3 0 (by omega) (by omega)
  have e : f_81 s t d = lp_81_48 s t (1300 - (w (452 + 24 * t + 2) + w 2) : Int).toNat (w (452 + 24 * t + 0)) (w (452 + 24 * t + 3)) (mmin (w 5 - (madeR w (w (452 + 24 * t + 0)) - 0)) (200 - (w 10 - 0))) 0 (w (452 + 24 * t + 2) + w 2) d := by
    unfold f_81 v_79
    rw [show s + 49 + 3 = s + 52 by omega, show s + 49 + 1 = s + 50 by omega, show s + 49 + 4 = s + 53 by omega, show s + 10 + 3 = s + 13 by omega, gt2.1, gt2.2.2.1, gt2.2.2.2.1, e0, e3, k1, gB.1]
    rw [Int.sub_zero, Int.sub_zero]
  have e2 : F_218 t w = LP_218_41 t (1301 - (w (452 + 24 * t + 2) + w 2) : Int).toNat (w (452 + 24 * t + 0)) (madeR w (w (452 + 24 * t + 0))) 0 (w (452 + 24 * t + 2) + w 2) w := by
    unfold F_218
    rw [v217 n10]
  obtain ⟨j1, j2, j3, j4, j5⟩ := mkLoop (s := s) (t := t) (p := w (452 + 24 * t + 0)) (en := w (452 + 24 * t + 3)) (room := mmin (w 5 - (madeR w (w (452 + 24 * t + 0)) - 0)) (200 - (w 10 - 0))) (1300 - (w (452 + 24 * t + 2) + w 2) : Int).toNat (1301 - (w (452 + 24 * t + 2) + w 2) : Int).toNat 0 0 (w (452 + 24 * t + 2) + w 2) d w hg hn hB' ht rfl rfl h9 (by omega) rfl (by omega) (by omega)
  unfold v_81 g_81 V_218 W_218
  rw [e, e2]
  exact ⟨by omega, j2, j3.r j4, j5⟩
theorem makesX0 {t p : Int} : ∀ (n : Nat) (m y h : Int) (w : Row), (0 ≤ w 8 ∧ w 8 ≤ 16) → (0 ≤ w 9 ∧ w 9 ≤ 60) → (0 ≤ w 10 ∧ w 10 ≤ 200) → XR w (LP_218_41 t n p m y h w).2 := by
  intro n
  have st : ∀ (r : Int → Int → Int → Int → Row → Int × Row) (m y h : Int) (w : Row), (0 ≤ w 8 ∧ w 8 ≤ 16) → (0 ≤ w 9 ∧ w 9 ≤ 60) → (0 ≤ w 10 ∧ w 10 ≤ 200) → (∀ m y h w, (0 ≤ w 8 ∧ w 8 ≤ 16) → (0 ≤ w 9 ∧ w 9 ≤ 60) → (0 ≤ w 10 ∧ w 10 ≤ 200) → XR w (r p m y h w).2) → XR w (ST_218_41 t r p m y h w).2 := fun r m y h w h8 h9 h10 hr => by
    unfold ST_218_41
    by_cases c1 : h < w (452 + 24 * t + 3)
    · rw [if_pos c1]
      by_cases c2 : m < w 5
      · rw [if_pos c2]
        by_cases c3 : w 10 < 200
        · rw [if_pos c3]
          by_cases c4 : V_216 p h w = 0
          · rw [if_pos c4]
            have hk := tokW (p := p) (t := t) (h := h) h10
            generalize (ws (ws (ws (ws (ws (ws w ((1916 + (5 * (w 10))) + 0) p) ((1916 + (5 * (w 10))) + 1) t) ((1916 + (5 * (w 10))) + 2) h) ((1916 + (5 * (w 10))) + 3) 0) ((1916 + (5 * (w 10))) + 4) (w 0)) 10 ((w 10) + 1)) = u at *
            obtain ⟨k1, k2, k3, k4, k5, k6, k7⟩ := hk
            have e8 : u 8 = w 8 := k7 8 (by omega) (by omega)
            have e9 : u 9 = w 9 := k7 9 (by omega) (by omega)
            refine XR.trans ⟨GXI.keep h8 e8 e9 (fun t q a b c d => k7 _ (by omega) (by omega)) (fun p a b => k7 _ (by omega) (by omega)) ?_, k7 0 (by omega) (by omega)⟩ (hr _ _ _ u (by omega) (by omega) (by omega))
            unfold C2
            rw [k1, csum_s _ h10.1, k5, if_neg (by decide), Int.add_zero]
            have e : csum (fun k => if u (1916 + 5 * k + 3) = 2 then (1 : Int) else 0) (w 10).toNat = csum (fun k => if w (1916 + 5 * k + 3) = 2 then 1 else 0) (w 10).toNat := csum_congr (fun k a b => by
              show (if u (1916 + 5 * k + 3) = 2 then (1 : Int) else 0) = if w (1916 + 5 * k + 3) = 2 then 1 else 0
              rw [k7 _ (by omega) (by omega)])
            rw [e]
            omega
          · rw [if_neg c4]; exact hr _ _ _ w h8 h9 h10
        · rw [if_neg c3]; exact hr _ _ _ w h8 h9 h10
      · rw [if_neg c2]; exact hr _ _ _ w h8 h9 h10
    · rw [if_neg c1]; exact XR.refl
  induction n with
  | zero => intro m y h w h8 h9 h10; exact st _ m y h w h8 h9 h10 (fun _ _ _ _ _ _ _ => XR.refl)
  | succ n ih => intro m y h w h8 h9 h10; exact st _ m y h w h8 h9 h10 ih
theorem makesX {t : Int} {w : Row} (h8 : 0 ≤ w 8 ∧ w 8 ≤ 16) (h9 : 0 ≤ w 9 ∧ w 9 ≤ 60) (h10 : 0 ≤ w 10 ∧ w 10 ≤ 200) : XR w (W_218 t w) := by
  unfold W_218 F_218
  exact makesX0 _ _ _ _ w h8 h9 h10
/-! ===== an hour ===== -/
theorem fl_e {d : mD} {x v n b j : Int} (h : b = x) (h0 : 0 ≤ j) (h1 : j < n) : mfl d x v n b j = v := by
  unfold mfl
  rw [if_pos ⟨h, h0, h1⟩]
theorem fl_n {d : mD} {x v n b j : Int} (h : ¬ b = x) : mfl d x v n b j = d b j := by
  unfold mfl
  rw [if_neg (fun z => h z.1)]
theorem csum_zero {f : Int → Int} {n : Nat} (h : ∀ i : Int, 0 ≤ i → i < (n : Int) → f i = 0) : csum f n = 0 := by
  rw [csum_congr (g := fun _ => 0) h]
  induction n with
  | zero => rfl
  | succ n ih =>
    show csum (fun _ => 0) n + 0 = 0
    rw [ih (fun i a b => h i a (by omega))]
    rfl
theorem srvN_of {w w' : Row} (h9 : 0 ≤ w 9 ∧ w 9 ≤ 60) (e : ∀ i, i = 9 ∨ (452 ≤ i ∧ i < 1916 ∧ (i - 452) % 24 = 4) → w' i = w i) : srvN w' = srvN w := by
  unfold srvN
  rw [e 9 (by omega)]
  exact csum_congr (fun t a b => by rw [e (452 + 24 * t + 4) (by omega)])
theorem weekLoop {s : Int} : ∀ (nc nr : Nat) (t : Int) (d : mD) (w : Row), 0 ≤ t → GG w → Rel s d w → w 0 % 20 = 0 → w 9 - t ≤ (nc : Int) → w 9 - t ≤ (nr : Int) →
    ∃ w', LP_223_71 nr t w = W_219 w' ∧ GG w' ∧ Rel s (lp_70_9 s nc t d) w' ∧ (∀ i, ¬ i = 10 → ¬ (1916 ≤ i ∧ i < 2916) → w' i = w i) ∧ XR w w' := by
  intro nc
  induction nc with
  | zero =>
    intro nr t d w h0 hg h hw h1 h2
    obtain ⟨-, -, -, -, ⟨t1, t2⟩, -⟩ := id h
    have e : lp_70_9 s 0 t d = d := by
      show st_70_9 s _ t d = d
      unfold st_70_9
      rw [if_neg (by rw [t1]; omega)]
    refine ⟨w, ?_, hg, by rw [e]; exact h, fun _ _ _ => rfl, XR.refl⟩
    cases nr with
    | zero =>
      show ST_223_71 _ t w = _
      unfold ST_223_71
      rw [if_neg (by omega)]
    | succ nr =>
      show ST_223_71 _ t w = _
      unfold ST_223_71
      rw [if_neg (by omega)]
  | succ nc ih =>
    intro nr t d w h0 hg h hw h1 h2
    obtain ⟨-, -, -, -, ⟨t1, t2⟩, rC, -⟩ := id h
    by_cases c1 : t < w 9
    · cases nr with
      | zero => omega
      | succ nr =>
        have gC := hg.2.2.2.2.1 t h0 c1
        have gc := (rC t h0 c1).1
        by_cases c2 : w (452 + 24 * t + 6) = 0
        · have e : lp_70_9 s (nc + 1) t d = lp_70_9 s nc (t + 1) d := by
            show st_70_9 s _ t d = _
            unfold st_70_9
            rw [if_pos (by rw [t1]; omega), if_neg (by rw [show s + 49 + 6 = s + 55 by omega]; omega)]
          have e2 : LP_223_71 (nr + 1) t w = LP_223_71 nr (t + 1) w := by
            show ST_223_71 _ t w = _
            unfold ST_223_71
            rw [if_pos c1, if_pos hw, if_pos c2]
          rw [e, e2]
          exact ih nr (t + 1) d w (by omega) hg h hw (by omega) (by omega)
        · have hp : w (452 + 24 * t + 6) = 1 := by omega
          have e : lp_70_9 s (nc + 1) t d = lp_70_9 s nc (t + 1) (g_81 s t d) := by
            show st_70_9 s _ t d = _
            unfold st_70_9
            rw [if_pos (by rw [t1]; omega), if_pos (by rw [show s + 49 + 6 = s + 55 by omega]; omega)]
          have e2 : LP_223_71 (nr + 1) t w = LP_223_71 nr (t + 1) (W_218 t w) := by
            show ST_223_71 _ t w = _
            unfold ST_223_71
            rw [if_pos c1, if_pos hw, if_neg c2]
          rw [e, e2]
          have hcl := gC.2.2.1 hp
          obtain ⟨-, g', r', f'⟩ := makes hg h ⟨h0, c1⟩ (gC.2.2.2.1 hcl.1) hcl.2
          obtain ⟨w', j1, j2, j3, j4, j5⟩ := ih nr (t + 1) (g_81 s t d) (W_218 t w) (by omega) g' r' (by rw [f' 0 (by omega) (by omega)]; exact hw) (by rw [f' 9 (by omega) (by omega)]; omega) (by rw [f' 9 (by omega) (by omega)]; omega)
          exact ⟨w', j1, j2, j3, fun i a b => by rw [j4 i a b, f' i a b], (makesX hg.1.2.1 hg.1.2.2.1 hg.1.2.2.2.1).trans j5⟩
    · have e : lp_70_9 s (nc + 1) t d = d := by
        show st_70_9 s _ t d = d
        unfold st_70_9
        rw [if_neg (by rw [t1]; omega)]
      refine ⟨w, ?_, hg, by rw [e]; exact h, fun _ _ _ => rfl, XR.refl⟩
      cases nr with
      | zero =>
        show ST_223_71 _ t w = _
        unfold ST_223_71
        rw [if_neg (by omega)]
      | succ nr =>
        show ST_223_71 _ t w = _
        unfold ST_223_71
        rw [if_neg (by omega)]
-- a new week: nothing was made or witnessed in it
theorem newWeek {s : Int} {d : mD} {w : Row} (hg : GG w) (h : RelN s d w) (hm : ∀ k, 0 ≤ k → k < w 10 → w (1916 + 5 * k + 4) < w 0) (hwt : ∀ t p, 0 ≤ t → t < w 9 → 0 ≤ p → p < 16 → w (452 + 24 * t + 8 + p) ≤ w 0) (hw : w 0 % 20 = 0) : Rel s (g_49 (s + 10) d) w := by
  obtain ⟨hN, hO, hQ, hT, hC, hK, hR⟩ := id hg
  obtain ⟨n7, n8, n9, n10, n11, n0, n1, n2, n3, n4, n5, n6⟩ := id hN
  obtain ⟨rA, rO, rQ, rP, rT, rC, rK, rR, rH⟩ := h
  generalize hd : g_49 (s + 10) d = d'
  have e : d' = mfl (mfl (mfl d (s + 13) 0 16) (s + 14) 0 16) (s + 15) 0 16 := by
    rw [← hd]
    unfold g_49 g_299
    simp only [Int.add_assoc, Int.reduceAdd]
  have fd : ∀ b, ¬ (s + 13 ≤ b ∧ b ≤ s + 15) → d' b = d b := fun b x => by
    rw [e]
    funext j
    rw [fl_n (by omega), fl_n (by omega), fl_n (by omega)]
  refine ⟨rA.k (fun b x => fd b (by omega)) (fun _ _ => rfl), rO.k (fun b x y => fd b (by omega)) (fun _ _ => rfl) n7, rQ.k (fd _ (by omega)) (fun _ _ => rfl) n7 hO, rP.k (fun b x y => fd b (by omega)) (fun _ _ => rfl) n8, rT.k (fun b x y => fd b (by omega)) (fun _ _ => rfl) n9, rC.k (fun b x => fd b (by omega)) (fun _ _ => rfl) n9, rK.k (by rw [fd _ (by omega)]) (fun b x y => fd b (by omega)) (fun _ _ => rfl) n10, rR.k (by rw [fd _ (by omega)]) (fd _ (by omega)) (fun _ _ => rfl) n11, ?_, rH.k (fun b x y => fd b (by omega)) (fun _ _ => rfl) n8 n9 n10 hK.of⟩
  intro p x y
  have z1 : d' (s + 13) p = 0 := by rw [e, fl_n (by omega), fl_n (by omega), fl_e rfl x (by omega)]
  have z2 : d' (s + 14) p = 0 := by rw [e, fl_n (by omega), fl_e rfl x (by omega)]
  have z3 : d' (s + 15) p = 0 := by rw [e, fl_e rfl x (by omega)]
  have na : ∀ t q, 0 ≤ t → t < w 9 → 0 ≤ q → q < 16 → ¬ (0 < w (452 + 24 * t + 8 + q) ∧ (w (452 + 24 * t + 8 + q) - 1) / 20 = w 0 / 20) := fun t q a b c e => by
    have := hwt t q a b c e
    omega
  refine ⟨?_, ?_, fun q u v => ?_⟩
  · rw [z1]
    unfold madeR
    refine (csum_zero (fun k a b => ?_)).symm
    have := hm k a (by omega)
    have g := hK k a (by omega)
    rw [if_neg (by omega)]
  · rw [z2]
    unfold attR
    refine (csum_zero (fun t a b => ?_)).symm
    rw [if_neg (na t p a (by omega) x (by omega))]
  · rw [z3, ib_zero]
    constructor
    · intro z; cases z
    · rintro ⟨t, a, b, c, e⟩
      exact absurd e (na t p a b x (by omega))
-- the time goes on
theorem tick {s : Int} {d : mD} {w : Row} (hg : GG w) (h : Rel s d w) (h0 : w 0 ≤ 1198) :
    GG (ws w 0 (w 0 + 1)) ∧ RelN s (mset d s 2 (d s 2 + 1)) (ws w 0 (w 0 + 1)) ∧ (¬ (w 0 + 1) % 20 = 0 → RelB s (mset d s 2 (d s 2 + 1)) (ws w 0 (w 0 + 1))) := by
  obtain ⟨hN, hO, hQ, hT, hC, hK, hR⟩ := id hg
  obtain ⟨n7, n8, n9, n10, n11, n0, n1, n2, n3, n4, n5, n6⟩ := id hN
  obtain ⟨⟨a1, a2, a3⟩, rO, rQ, rP, rT, rC, rK, rR, rB, rH⟩ := h
  generalize hw : ws w 0 (w 0 + 1) = w'
  have e0 : w' 0 = w 0 + 1 := by rw [← hw]; exact wse rfl
  have ew : ∀ i, ¬ i = 0 → w' i = w i := fun i hi => by rw [← hw]; exact wsn hi
  generalize hd : mset d s 2 (d s 2 + 1) = d'
  have fd : ∀ b, ¬ b = s → d' b = d b := fun b x => by
    rw [← hd]
    funext j
    exact ms_a x
  have pO : ∀ k, 0 ≤ k → k < w 10 → perO w' k = perO w k := fun k a b => by
    have g := hK k a b
    unfold perO
    rw [ew (1916 + 5 * k + 1) (by omega), ew _ (by omega)]
  refine ⟨⟨?_, hO.k (fun i hi => ew i (by omega)) hN, hQ.k (fun i hi => ew i (by omega)) hN hO, ?_, ?_, ?_, hR.k (fun i hi => ew i (by omega)) hN⟩, ⟨?_, rO.k (fun b x y => fd b (by omega)) (fun i hi => ew i (by omega)) n7, rQ.k (fd _ (by omega)) (fun i hi => ew i (by omega)) n7 hO, rP.k (fun b x y => fd b (by omega)) (fun i hi => ew i (by omega)) n8, rT.k (fun b x y => fd b (by omega)) (fun i hi => ew i (by omega)) n9, rC.k (fun b x => fd b (by omega)) (fun i hi => ew i (by omega)) n9, rK.k (by rw [fd _ (by omega)]) (fun b x y => fd b (by omega)) (fun i hi => ew i (by omega)) n10, rR.k (by rw [fd _ (by omega)]) (fd _ (by omega)) (fun i hi => ew i (by omega)) n11, rH.k (fun b x y => fd b (by omega)) (fun i hi => ew i (by omega)) n8 n9 n10 hK.of⟩, ?_⟩
  · unfold GN
    rw [e0, ew 1 (by omega), ew 2 (by omega), ew 3 (by omega), ew 4 (by omega), ew 5 (by omega), ew 6 (by omega), ew 7 (by omega), ew 8 (by omega), ew 9 (by omega), ew 10 (by omega), ew 11 (by omega)]
    omega
  · intro t x y
    rw [ew 9 (by omega)] at y
    have g := hT t x y
    rw [ew (452 + 24 * t + 0) (by omega), ew (452 + 24 * t + 1) (by omega), ew (452 + 24 * t + 2) (by omega), ew (452 + 24 * t + 3) (by omega), ew (452 + 24 * t + 4) (by omega), e0, ew 7 (by omega), ew 8 (by omega)]
    refine ⟨g.1, g.2.1, by omega, g.2.2.2.1, fun z => ?_, fun z => by have := g.2.2.2.2.2 z; omega⟩
    obtain ⟨z1, k, z2, z3, z4⟩ := g.2.2.2.2.1 z
    exact ⟨z1, k, z2, by rw [ew _ (by omega)]; exact z3, by rw [ew _ (by omega)]; exact z4⟩
  · intro t x y
    rw [ew 9 (by omega)] at y
    have g := hC t x y
    rw [ew (452 + 24 * t + 5) (by omega), ew (452 + 24 * t + 6) (by omega), ew (452 + 24 * t + 3) (by omega), ew (452 + 24 * t + 4) (by omega), e0]
    refine ⟨g.1, g.2.1, g.2.2.1, g.2.2.2.1, fun p a b => ?_⟩
    rw [ew (452 + 24 * t + 8 + p) (by omega)]
    have := g.2.2.2.2 p a b
    omega
  · intro k x y
    rw [ew 10 (by omega)] at y
    have g := hK k x y
    rw [ew (1916 + 5 * k + 0) (by omega), ew (1916 + 5 * k + 1) (by omega), ew (1916 + 5 * k + 2) (by omega), ew (1916 + 5 * k + 3) (by omega), ew (1916 + 5 * k + 4) (by omega), e0, ew 8 (by omega), ew 9 (by omega), pO k x y]
    refine ⟨g.1, g.2.1, g.2.2.1, g.2.2.2.1, by omega, fun i a b => ?_⟩
    rw [ew (1916 + 5 * i + 2) (by omega), pO i a (by omega)]
    exact g.2.2.2.2.2 i a b
  · refine ⟨?_, ?_, fun k x y => ?_⟩
    · rw [ew 1 (by omega), ← hd, ms_i (by omega)]; exact a1
    · rw [e0, ← hd, ms_e rfl rfl, a2]
    · rw [ew (2 + k) (by omega), fd _ (by omega)]; exact a3 k x y
  · intro hz p x y
    rw [ew 8 (by omega)] at y
    obtain ⟨g1, g2, g3⟩ := rB p x y
    have e20 : (w 0 + 1) / 20 = w 0 / 20 := by omega
    rw [fd _ (by omega), fd _ (by omega), fd _ (by omega)]
    refine ⟨?_, ?_, fun q u v => ?_⟩
    · rw [g1]
      unfold madeR
      rw [ew 10 (by omega), e0, e20]
      exact csum_congr (fun k a b => by rw [pO k a (by omega), ew (1916 + 5 * k + 4) (by omega)])
    · rw [g2]
      unfold attR
      rw [ew 9 (by omega), e0, e20]
      exact csum_congr (fun t a b => by rw [ew (452 + 24 * t + 8 + p) (by omega)])
    · rw [g3 q u v]
      unfold attd
      rw [ew 9 (by omega), e0, e20]
      constructor
      · rintro ⟨t, a, b, c, e⟩
        exact ⟨t, a, b, by rw [ew _ (by omega)]; exact c, by rw [ew (452 + 24 * t + 8 + p) (by omega)]; exact e⟩
      · rintro ⟨t, a, b, c, e⟩
        rw [ew _ (by omega)] at c
        rw [ew (452 + 24 * t + 8 + p) (by omega)] at e
        exact ⟨t, a, b, c, e⟩
-- the offices of an hour
theorem officeLoop {s N i : Int} {r4 : Int → Int → mD → Int × mD} {X : Prop} : ∀ (nc nr : Nat) (o acc : Int) (d : mD) (w : Row), 0 ≤ o → GG w → RelN s d w → (X → RelB s d w) → w 7 - o ≤ (nc : Int) → w 7 - o ≤ (nr : Int) →
    ∃ (d' : mD) (w' : Row), lp_68_22 s N r4 nc acc i o d = (if w 0 % 20 = 0 then r4 (acc + (srvN w' - srvN w)) (i + 1) (g_82 s (g_70 s d')) else r4 (acc + (srvN w' - srvN w)) (i + 1) (g_82 s d')) ∧ LP_223_12 nr o w = LP_223_71 (61 - 0 : Int).toNat 0 w' ∧ GG w' ∧ RelN s d' w' ∧ (X → RelB s d' w') ∧ ∀ j, j ≤ 11 ∨ (452 ≤ j ∧ j < 1916 ∧ (5 ≤ (j - 452) % 24 ∨ (j - 452) % 24 ≤ 2)) ∨ (420 ≤ j ∧ j < 452) ∨ 1916 ≤ j → w' j = w j := by
  intro nc
  induction nc with
  | zero =>
    intro nr o acc d w h0 hg h hX h1 h2
    obtain ⟨⟨a1, a2, a3⟩, ⟨o1, o2⟩, -⟩ := id h
    refine ⟨d, w, ?_, ?_, hg, h, hX, fun _ _ => rfl⟩
    · show st_68_22 s N r4 _ acc i o d = _
      unfold st_68_22
      rw [if_neg (by rw [o1]; omega), a2, Int.sub_self, Int.add_zero]
    · cases nr with
      | zero =>
        show ST_223_12 _ o w = _
        unfold ST_223_12
        rw [if_neg (by omega)]
      | succ nr =>
        show ST_223_12 _ o w = _
        unfold ST_223_12
        rw [if_neg (by omega)]
  | succ nc ih =>
    intro nr o acc d w h0 hg h hX h1 h2
    obtain ⟨⟨a1, a2, a3⟩, ⟨o1, o2⟩, -⟩ := id h
    by_cases c1 : o < w 7
    · cases nr with
      | zero => omega
      | succ nr =>
        obtain ⟨j1, j2, j3, j4, j5⟩ := serve hg h hX ⟨h0, c1⟩
        have e : lp_68_22 s N r4 (nc + 1) acc i o d = lp_68_22 s N r4 nc (acc + v_69 s o d) i (o + 1) (g_69 s o d) := by
          show st_68_22 s N r4 _ acc i o d = _
          unfold st_68_22
          rw [if_pos (by rw [o1]; exact c1)]
        have e2 : LP_223_12 (nr + 1) o w = LP_223_12 nr (o + 1) (hourO o w) := by
          show ST_223_12 _ o w = _
          unfold ST_223_12 hourO
          rw [if_pos c1]
          split
          · rfl
          · split <;> rfl
        rw [e, e2]
        have e7 := j4 7 (by omega)
        have e0 := j4 0 (by omega)
        obtain ⟨d', w', k1, k2, k3, k4, k5, k6⟩ := ih nr (o + 1) (acc + v_69 s o d) (g_69 s o d) (hourO o w) (by omega) j1 j2 j3 (by omega) (by omega)
        refine ⟨d', w', ?_, k2, k3, k4, k5, fun j hj => by rw [k6 j hj, j4 j hj]⟩
        rw [k1, e0, j5, show acc + v_69 s o d + (srvN w' - (srvN w + v_69 s o d)) = acc + (srvN w' - srvN w) by omega]
    · refine ⟨d, w, ?_, ?_, hg, h, hX, fun _ _ => rfl⟩
      · show st_68_22 s N r4 _ acc i o d = _
        unfold st_68_22
        rw [if_neg (by rw [o1]; omega), a2, Int.sub_self, Int.add_zero]
      · cases nr with
        | zero =>
          show ST_223_12 _ o w = _
          unfold ST_223_12
          rw [if_neg (by omega)]
        | succ nr =>
          show ST_223_12 _ o w = _
          unfold ST_223_12
          rw [if_neg (by omega)]
theorem hour1 {s N i acc : Int} {r4 : Int → Int → mD → Int × mD} {d : mD} {w : Row} (hg : GG w) (h : Rel s d w) (h0 : w 0 ≤ 1198) :
    ∃ d' : mD, lp_68_22 s N r4 (6 - 0 : Int).toNat acc i 0 (mset d s 2 (d s 2 + 1)) = r4 (acc + (srvN (W_223 w) - srvN w)) (i + 1) d' ∧ GG (W_223 w) ∧ Rel s d' (W_223 w) ∧ (∀ j, j = 0 → W_223 w j = w 0 + 1) ∧ (∀ j, (2 ≤ j ∧ j ≤ 9) ∨ (452 ≤ j ∧ j < 1916 ∧ (5 ≤ (j - 452) % 24 ∨ (j - 452) % 24 ≤ 2)) → W_223 w j = w j) ∧ GXI w (W_223 w) := by
  obtain ⟨n7, n8, n9, n10, n11, n0, n1, n2, n3, n4, n5, n6⟩ := id hg.1
  obtain ⟨g1, r1, b1⟩ := tick hg h h0
  have e0 : ws w 0 (w 0 + 1) 0 = w 0 + 1 := wse rfl
  have ew : ∀ i, ¬ i = 0 → ws w 0 (w 0 + 1) i = w i := fun i hi => wsn hi
  obtain ⟨d1, w1, k1, k2, k3, k4, k5, k6⟩ := officeLoop (s := s) (N := N) (i := i) (r4 := r4) (X := ¬ (w 0 + 1) % 20 = 0) (6 - 0 : Int).toNat (6 - 0 : Int).toNat 0 acc (mset d s 2 (d s 2 + 1)) (ws w 0 (w 0 + 1)) (by omega) g1 r1 b1 (by rw [ew 7 (by omega), show (((6 - 0 : Int).toNat : Nat) : Int) = 6 by decide]; omega) (by rw [ew 7 (by omega), show (((6 - 0 : Int).toNat : Nat) : Int) = 6 by decide]; omega)
  rw [e0] at k1
  have f0 : w1 0 = w 0 + 1 := by rw [k6 0 (by omega), e0]
  have fw : ∀ j, ¬ j = 0 → j ≤ 11 ∨ (452 ≤ j ∧ j < 1916 ∧ (5 ≤ (j - 452) % 24 ∨ (j - 452) % 24 ≤ 2)) ∨ (420 ≤ j ∧ j < 452) ∨ 1916 ≤ j → w1 j = w j := fun j a b => by rw [k6 j b, ew j a]
  have sN : srvN (ws w 0 (w 0 + 1)) = srvN w := srvN_of n9 (fun i hi => ew i (by omega))
  rw [sN] at k1
  have eW : W_223 w = LP_223_71 (61 - 0 : Int).toNat 0 w1 := k2
  have key : ∀ (d2 : mD) (w2 : Row), LP_223_71 (61 - 0 : Int).toNat 0 w1 = W_219 w2 → GG w2 → Rel s d2 w2 → (∀ i, ¬ i = 10 → ¬ (1916 ≤ i ∧ i < 2916) → w2 i = w1 i) ∧ XR w1 w2 → ((acc + (srvN w1 - srvN w)) = acc + (srvN (W_223 w) - srvN w)) ∧ GG (W_223 w) ∧ Rel s (g_82 s d2) (W_223 w) ∧ (∀ j, j = 0 → W_223 w j = w 0 + 1) ∧ (∀ j, (2 ≤ j ∧ j ≤ 9) ∨ (452 ≤ j ∧ j < 1916 ∧ (5 ≤ (j - 452) % 24 ∨ (j - 452) % 24 ≤ 2)) → W_223 w j = w j) ∧ GXI w (W_223 w) := by
    intro d2 w2 q1 q2 q3 ⟨q4, q5⟩
    have q6 := settleX q2 q3
    obtain ⟨-, p2, p3, p4⟩ := settle q2 q3
    rw [eW, q1]
    have hs : srvN (W_219 w2) = srvN w1 := by
      rw [srvN_of (w := w2) (w' := W_219 w2) q2.1.2.2.1 (fun i hi => p4 i (by omega) (by omega) (by omega) (by omega))]
      exact srvN_of k3.1.2.2.1 (fun i hi => q4 i (by omega) (by omega))
    refine ⟨by rw [hs], p2, p3, fun j hj => ?_, fun j hj => ?_, GXI.trans (GXI.keep n8 (fw 8 (by omega) (by omega)) (fw 9 (by omega) (by omega)) (fun t q a b u v => fw _ (by omega) (Or.inr (Or.inl ⟨by omega, by omega, Or.inl (by omega)⟩))) (fun p a b => fw _ (by omega) (by omega)) (Int.le_of_eq (C2_of (fw 10 (by omega) (by omega)) (fun k a b => by rw [fw (1916 + 5 * k + 3) (by omega) (by omega)])).symm)) (q5.trans q6).1⟩
    · rw [hj, p4 0 (by omega) (by omega) (by omega) (by omega), q4 0 (by omega) (by omega), f0]
    · rw [p4 j (by omega) (by omega) (by omega) (by omega), q4 j (by omega) (by omega), fw j (by omega) (by omega)]
  by_cases c : (w 0 + 1) % 20 = 0
  · rw [if_pos c] at k1
    have nw := newWeek k3 k4 (fun k a b => by
      rw [fw 10 (by omega) (by omega)] at b
      have := hg.2.2.2.2.2.1 k a b
      rw [fw _ (by omega) (by omega), f0]
      omega) (fun t p a b x y => by
      rw [fw 9 (by omega) (by omega)] at b
      have := (hg.2.2.2.2.1 t a b).2.2.2.2 p x y
      rw [fw (452 + 24 * t + 8 + p) (by omega) (Or.inr (Or.inl ⟨by omega, by omega, Or.inl (by omega)⟩)), f0]
      omega) (by rw [f0]; exact c)
    obtain ⟨w2, q1, q2, q3, q4⟩ := weekLoop (s := s) (60 - 0 : Int).toNat (61 - 0 : Int).toNat 0 (g_49 (s + 10) d1) w1 (by omega) k3 nw (by rw [f0]; exact c) (by rw [fw 9 (by omega) (by omega), show (((60 - 0 : Int).toNat : Nat) : Int) = 60 by decide]; omega) (by rw [fw 9 (by omega) (by omega), show (((61 - 0 : Int).toNat : Nat) : Int) = 61 by decide]; omega)
    obtain ⟨z1, z2⟩ := key (g_70 s d1) w2 q1 q2 q3 q4
    rw [z1] at k1
    exact ⟨_, k1, z2⟩
  · rw [if_neg c] at k1
    have hr := k4.r (k5 c)
    obtain ⟨z1, z2⟩ := key d1 w1 (by
      have : ∀ n : Nat, 0 < n → LP_223_71 n 0 w1 = W_219 w1 := fun n hn => by
        cases n with
        | zero => omega
        | succ n =>
          show ST_223_71 _ 0 w1 = _
          unfold ST_223_71
          split
          · rw [if_neg (by rw [f0]; exact c)]
          · rfl
      exact this _ (by decide)) k3 hr ⟨fun _ _ _ => rfl, XR.refl⟩
    rw [z1] at k1
    exact ⟨_, k1, z2⟩
def hoursW : Nat → Row → Row
  | 0, w => w
  | n + 1, w => hoursW n (W_223 w)
theorem passLoop {s N : Int} : ∀ (n : Nat) (i acc : Int) (d : mD) (w : Row), GG w → Rel s d w → N - i = (n : Int) → w 0 + (n : Int) ≤ 1199 → (lp_68_4 s N n acc i d).1 = acc + (srvN (hoursW n w) - srvN w) ∧ GG (hoursW n w) ∧ Rel s (lp_68_4 s N n acc i d).2 (hoursW n w) ∧ hoursW n w 0 = w 0 + (n : Int) ∧ (∀ j, (2 ≤ j ∧ j ≤ 9) ∨ (452 ≤ j ∧ j < 1916 ∧ (5 ≤ (j - 452) % 24 ∨ (j - 452) % 24 ≤ 2)) → hoursW n w j = w j) ∧ GXI w (hoursW n w) := by
  intro n
  induction n with
  | zero =>
    intro i acc d w hg h hn h9
    have e : lp_68_4 s N 0 acc i d = (acc, d) := by
      show st_68_4 s N _ acc i d = _
      unfold st_68_4
      rw [if_neg (by omega)]
    rw [e]
    exact ⟨by show acc = acc + (srvN w - srvN w); omega, hg, h, by show w 0 = w 0 + ((0 : Nat) : Int); omega, fun _ _ => rfl, fun a b => ⟨a, b⟩⟩
  | succ n ih =>
    intro i acc d w hg h hn h9
    obtain ⟨d', k1, k2, k3, k4, k5, k6⟩ := hour1 (N := N) (i := i) (acc := acc) (r4 := lp_68_4 s N n) hg h (by omega)
    have e : lp_68_4 s N (n + 1) acc i d = lp_68_4 s N n (acc + (srvN (W_223 w) - srvN w)) (i + 1) d' := by
      rw [← k1]
      show st_68_4 s N _ acc i d = _
      unfold st_68_4
      rw [if_pos (by omega)]
    have f0 := k4 0 rfl
    obtain ⟨j1, j2, j3, j4, j5, j6⟩ := ih (i + 1) (acc + (srvN (W_223 w) - srvN w)) d' (W_223 w) k2 k3 (by omega) (by omega)
    rw [e]
    refine ⟨?_, j2, j3, ?_, fun j hj => ?_, k6.trans j6⟩
    · rw [j1]
      show _ = acc + (srvN (hoursW n (W_223 w)) - srvN w)
      omega
    · show hoursW n (W_223 w) 0 = _
      rw [j4, f0]
      omega
    · show hoursW n (W_223 w) j = _
      rw [j5 j hj, k5 j hj]
theorem passHours {s N : Int} {d : mD} {w : Row} (hN : 0 ≤ N) (hg : GG w) (h : Rel s d w) (h9 : w 0 + N ≤ 1199) : v_68 s N d = srvN (hoursW N.toNat w) - srvN w ∧ GG (hoursW N.toNat w) ∧ Rel s (g_68 s N d) (hoursW N.toNat w) ∧ hoursW N.toNat w 0 = w 0 + N ∧ (∀ j, (2 ≤ j ∧ j ≤ 9) ∨ (452 ≤ j ∧ j < 1916 ∧ (5 ≤ (j - 452) % 24 ∨ (j - 452) % 24 ≤ 2)) → hoursW N.toNat w j = w j) ∧ GXI w (hoursW N.toNat w) := by
  have e : (N - 0).toNat = N.toNat := by rw [Int.sub_zero]
  obtain ⟨j1, j2, j3, j4, j5, j6⟩ := passLoop (s := s) (N := N) N.toNat 0 0 d w hg h (by omega) (by omega)
  unfold v_68 g_68 f_68
  rw [e]
  exact ⟨by rw [j1]; omega, j2, j3, by rw [j4]; omega, j5, j6⟩
/-! ===== joining a queue ===== -/
theorem csum_add {f g : Int → Int} : ∀ n : Nat, csum (fun i => f i + g i) n = csum f n + csum g n
  | 0 => rfl
  | n + 1 => by
    show csum (fun i => f i + g i) n + (f (n : Int) + g (n : Int)) = csum f n + f (n : Int) + (csum g n + g (n : Int))
    rw [csum_add n]
    omega
theorem csum_swap {h : Int → Int → Int} (N : Nat) : ∀ L : Nat, csum (fun k => csum (fun q => h k q) N) L = csum (fun q => csum (fun k => h k q) L) N
  | 0 => by
    show 0 = csum (fun q => 0) N
    exact (csum_zero (fun _ _ _ => rfl)).symm
  | L + 1 => by
    show csum (fun k => csum (fun q => h k q) N) L + csum (fun q => h (L : Int) q) N = csum (fun q => csum (fun k => h k q) L + h (L : Int) q) N
    rw [csum_swap N L, csum_add]
theorem csum_pt {N : Nat} {x : Int} (h0 : 0 ≤ x) (h1 : x < (N : Int)) : csum (fun q => if x = q then 1 else 0) N = 1 := by
  have h := csum_upd (f := fun q => if x = q then 1 else 0) (g := fun _ => 0) (n := N) (k := x) h0 h1 (fun i a b c => by
    show (if x = i then (1 : Int) else 0) = 0
    rw [if_neg (fun z => c z.symm)])
  rw [h, csum_zero (fun _ _ _ => rfl)]
  simp
theorem csum_const {N : Nat} {c : Int} : csum (fun _ => c) N = (N : Int) * c := by
  induction N with
  | zero => simp [csum]
  | succ n ih =>
    show csum (fun _ => c) n + c = _
    rw [ih, Int.natCast_add, Int.add_mul]
    simp
theorem pigeon {f : Int → Int} {L N : Nat} (hr : ∀ k : Int, 0 ≤ k → k < (L : Int) → 0 ≤ f k ∧ f k < (N : Int)) (hi : ∀ k i : Int, 0 ≤ i → i < k → k < (L : Int) → ¬ f i = f k) {p : Int} (p0 : 0 ≤ p) (p1 : p < (N : Int)) (hp : ∀ k : Int, 0 ≤ k → k < (L : Int) → ¬ f k = p) : (L : Int) + 1 ≤ (N : Int) := by
  have one : ∀ q : Int, ∀ M : Nat, (M : Int) ≤ (L : Int) → 0 ≤ csum (fun k => if f k = q then 1 else 0) M ∧ csum (fun k => if f k = q then 1 else 0) M ≤ 1 := by
    intro q M
    induction M with
    | zero => intro _; exact ⟨by simp [csum], by simp [csum]⟩
    | succ M ih =>
      intro hM
      have i := ih (by omega)
      show 0 ≤ csum (fun k => if f k = q then 1 else 0) M + (if f (M : Int) = q then 1 else 0) ∧ csum (fun k => if f k = q then 1 else 0) M + (if f (M : Int) = q then 1 else 0) ≤ 1
      by_cases c : f (M : Int) = q
      · rw [if_pos c, csum_zero (fun k a b => by
          rw [if_neg (fun z => hi (M : Int) k a b (by omega) (z.trans c.symm))])]
        omega
      · rw [if_neg c]
        omega
  have s1 : csum (fun k => csum (fun q => if f k = q then 1 else 0) N) L = (L : Int) := by
    rw [csum_congr (g := fun _ => 1) (fun k a b => csum_pt (hr k a b).1 (hr k a b).2), csum_const, Int.mul_one]
  rw [csum_swap] at s1
  have s2 := csum_upd (f := fun q => csum (fun k => if f k = q then 1 else 0) L) (g := fun q => if q = p then 1 else csum (fun k => if f k = q then 1 else 0) L) (n := N) (k := p) p0 p1 (fun i a b c => by
    show csum (fun k => if f k = i then (1 : Int) else 0) L = if i = p then 1 else csum (fun k => if f k = i then (1 : Int) else 0) L
    rw [if_neg c])
  have z : csum (fun k => if f k = p then (1 : Int) else 0) L = 0 := csum_zero (fun k a b => by rw [if_neg (hp k a b)])
  have s3 := (csum_rng (f := fun q => if q = p then 1 else csum (fun k => if f k = q then 1 else 0) L) (n := N) (B := 1) (fun i a b => by
    show 0 ≤ (if i = p then (1 : Int) else csum (fun k => if f k = i then 1 else 0) L) ∧ (if i = p then (1 : Int) else csum (fun k => if f k = i then 1 else 0) L) ≤ 1
    split
    · omega
    · exact one i L (by omega))).2
  rw [s2] at s1
  simp only [z, if_true] at s1
  omega
def NewW (p o : Int) (w w' : Row) : Prop := (w' (452 + 24 * w 9 + 0) = p ∧ w' (452 + 24 * w 9 + 1) = o ∧ w' (452 + 24 * w 9 + 2) = w 0 ∧ w' (452 + 24 * w 9 + 3) = -1 ∧ ∀ f, 4 ≤ f → f < 24 → w' (452 + 24 * w 9 + f) = 0) ∧ w' (12 + 68 * o + 7 + w (12 + 68 * o + 5)) = w 9 ∧ w' (12 + 68 * o + 5) = w (12 + 68 * o + 5) + 1 ∧ w' 9 = w 9 + 1
  ∧ ∀ i, ¬ (452 + 24 * w 9 ≤ i ∧ i < 452 + 24 * w 9 + 24) → ¬ i = 12 + 68 * o + 7 + w (12 + 68 * o + 5) → ¬ i = 12 + 68 * o + 5 → ¬ i = 9 → w' i = w i
theorem lp224 {p o T b : Int} : ∀ (n : Nat) (x : Int) (w : Row), 0 ≤ x → 24 - x ≤ (n : Int) → 9 < b → ∃ u : Row, LP_224_17 p o n T b x w = (T, ws (ws (ws (ws (ws (ws (ws u (b + 0) p) (b + 1) o) (b + 2) (u 0)) (b + 3) ((-1))) (((12 + (68 * o)) + 7) + (u ((12 + (68 * o)) + 5))) T) ((12 + (68 * o)) + 5) ((u ((12 + (68 * o)) + 5)) + 1)) 9 ((u 9) + 1)) ∧ (∀ f, x ≤ f → f < 24 → u (b + f) = 0) ∧ ∀ i, ¬ (b + x ≤ i ∧ i < b + 24) → u i = w i := by
  intro n
  induction n with
  | zero =>
    intro x w h0 hn hb
    refine ⟨w, ?_, fun f a c => by omega, fun _ _ => rfl⟩
    show ST_224_17 p o _ T b x w = _
    unfold ST_224_17
    rw [if_neg (by omega)]
  | succ n ih =>
    intro x w h0 hn hb
    by_cases c : x < 24
    · obtain ⟨u, i1, i2, i3⟩ := ih (x + 1) (ws w (b + x) 0) (by omega) (by omega) hb
      refine ⟨u, ?_, fun f a e => ?_, fun i hi => by rw [i3 i (by omega), wsn (by omega)]⟩
      · rw [← i1]
        show ST_224_17 p o _ T b x w = _
        unfold ST_224_17
        rw [if_pos c]
      · by_cases hf : f = x
        · rw [i3 _ (by omega), wse (by omega)]
        · exact i2 f (by omega) e
    · refine ⟨w, ?_, fun f a c => by omega, fun _ _ => rfl⟩
      show ST_224_17 p o _ T b x w = _
      unfold ST_224_17
      rw [if_neg c]
theorem newW {p o : Int} {w : Row} (ho : 0 ≤ o ∧ o ≤ 5) (h9 : 0 ≤ w 9 ∧ w 9 ≤ 60) (hl : 0 ≤ w (12 + 68 * o + 5) ∧ w (12 + 68 * o + 5) ≤ 60) : V_224 p o w = w 9 ∧ NewW p o w (W_224 p o w) := by
  obtain ⟨u, i1, i2, i3⟩ := lp224 (p := p) (o := o) (T := w 9) (b := 452 + 24 * w 9) (24 - 0 : Int).toNat 0 w (by omega) (by decide) (by omega)
  have e : F_224 p o w = _ := i1
  unfold V_224 W_224
  rw [e]
  have u0 : u 0 = w 0 := i3 0 (by omega)
  have u9 : u 9 = w 9 := i3 9 (by omega)
  have uq : u (12 + 68 * o + 5) = w (12 + 68 * o + 5) := i3 _ (by omega)
  refine ⟨rfl, ⟨?_, ?_, ?_, ?_, fun f a b => ?_⟩, ?_, ?_, ?_, fun i h1 h2 h3 h4 => ?_⟩
  · show ws _ _ _ _ = _
    rw [uq, u9, u0]
    simp (disch := omega) only [wse, wsn]
  · show ws _ _ _ _ = _
    rw [uq, u9, u0]
    simp (disch := omega) only [wse, wsn]
  · show ws _ _ _ _ = _
    rw [uq, u9, u0]
    simp (disch := omega) only [wse, wsn]
  · show ws _ _ _ _ = _
    rw [uq, u9, u0]
    simp (disch := omega) only [wse, wsn]
  · show ws _ _ _ _ = _
    rw [uq, u9, u0]
    simp (disch := omega) only [wsn]
    exact i2 f (by omega) b
  · show ws _ _ _ _ = _
    rw [uq, u9, u0]
    simp (disch := omega) only [wse, wsn]
  · show ws _ _ _ _ = _
    rw [uq, u9, u0]
    simp (disch := omega) only [wse, wsn]
  · simp (disch := omega) only [wse, wsn, u9]
  · show ws _ _ _ _ = _
    rw [uq, u9, u0]
    simp (disch := omega) only [wse, wsn]
    exact i3 i (by omega)
-- whether a person can join
theorem lp225 {p o : Int} : ∀ (n : Nat) (a x : Int) (w : Row), 0 ≤ x → w (12 + 68 * o + 5) - x ≤ (n : Int) → (a = 0 ∨ a = 1) → (LP_225_57 p o n (12 + 68 * o) a x w = 0 ∨ LP_225_57 p o n (12 + 68 * o) a x w = 1) ∧ (LP_225_57 p o n (12 + 68 * o) a x w = 1 ↔ a = 1 ∧ ∀ k, x ≤ k → k < w (12 + 68 * o + 5) → ¬ w (452 + 24 * w (12 + 68 * o + 7 + k) + 0) = p) := by
  have m00 : miand 0 0 = 0 := by decide
  have m10 : miand 1 0 = 0 := by decide
  have m01 : miand 0 1 = 0 := by decide
  have m11 : miand 1 1 = 1 := by decide
  intro n
  induction n with
  | zero =>
    intro a x w h0 hn ha
    have e : LP_225_57 p o 0 (12 + 68 * o) a x w = a := by
      show ST_225_57 p o _ (12 + 68 * o) a x w = a
      unfold ST_225_57
      rw [if_neg (by omega)]
    rw [e]
    exact ⟨ha, ⟨fun z => ⟨z, fun k b c => by omega⟩, fun z => z.1⟩⟩
  | succ n ih =>
    intro a x w h0 hn ha
    by_cases c : x < w (12 + 68 * o + 5)
    · by_cases c2 : w (452 + 24 * w (12 + 68 * o + 7 + x) + 0) = p
      · have e : LP_225_57 p o (n + 1) (12 + 68 * o) a x w = LP_225_57 p o n (12 + 68 * o) 0 (x + 1) w := by
          show ST_225_57 p o _ (12 + 68 * o) a x w = _
          unfold ST_225_57
          rw [if_pos c, if_pos c2]
          rcases ha with rfl | rfl
          · rw [m00]
          · rw [m10]
        rw [e]
        obtain ⟨i1, i2⟩ := ih 0 (x + 1) w (by omega) (by omega) (Or.inl rfl)
        refine ⟨i1, i2.trans ⟨fun z => absurd z.1 (by decide), fun z => absurd c2 (z.2 x (by omega) c)⟩⟩
      · have e : LP_225_57 p o (n + 1) (12 + 68 * o) a x w = LP_225_57 p o n (12 + 68 * o) a (x + 1) w := by
          show ST_225_57 p o _ (12 + 68 * o) a x w = _
          unfold ST_225_57
          rw [if_pos c, if_neg c2]
          rcases ha with rfl | rfl
          · rw [m01]
          · rw [m11]
        rw [e]
        obtain ⟨i1, i2⟩ := ih a (x + 1) w (by omega) (by omega) ha
        refine ⟨i1, i2.trans ⟨fun z => ⟨z.1, fun k b c => ?_⟩, fun z => ⟨z.1, fun k b c => z.2 k (by omega) c⟩⟩⟩
        by_cases hk : k = x
        · rw [hk]; exact c2
        · exact z.2 k (by omega) c
    · have e : LP_225_57 p o (n + 1) (12 + 68 * o) a x w = a := by
        show ST_225_57 p o _ (12 + 68 * o) a x w = a
        unfold ST_225_57
        rw [if_neg c]
      rw [e]
      exact ⟨ha, ⟨fun z => ⟨z, fun k b c => by omega⟩, fun z => z.1⟩⟩
def CanJ (p o : Int) (w : Row) : Prop := w 9 < 60 ∧ ¬ w (12 + 68 * o + 4) = 0 ∧ w (12 + 68 * o + 5) < w (12 + 68 * o + 3) ∧ ∀ k, 0 ≤ k → k < w (12 + 68 * o + 5) → ¬ w (452 + 24 * w (12 + 68 * o + 7 + k) + 0) = p
theorem v225 {p o : Int} {w : Row} (hl : w (12 + 68 * o + 5) ≤ 61) : (V_225 p o w = 0 ∨ V_225 p o w = 1) ∧ (V_225 p o w = 1 ↔ CanJ p o w) := by
  have hf : (((61 - 0 : Int).toNat : Nat) : Int) = 61 := by decide
  obtain ⟨a1, a2⟩ := lp225 (p := p) (o := o) (61 - 0 : Int).toNat 0 0 w (by omega) (by rw [hf]; omega) (Or.inl rfl)
  obtain ⟨b1, b2⟩ := lp225 (p := p) (o := o) (61 - 0 : Int).toNat 1 0 w (by omega) (by rw [hf]; omega) (Or.inr rfl)
  unfold V_225 CanJ
  by_cases c1 : w 9 < 60
  · rw [if_pos c1]
    by_cases c2 : w (12 + 68 * o + 4) = 0
    · rw [if_pos c2]
      exact ⟨a1, a2.trans ⟨fun z => absurd z.1 (by decide), fun z => absurd c2 z.2.1⟩⟩
    · rw [if_neg c2]
      by_cases c3 : w (12 + 68 * o + 5) < w (12 + 68 * o + 3)
      · rw [if_pos c3]
        exact ⟨b1, b2.trans ⟨fun z => ⟨c1, c2, c3, z.2⟩, fun z => ⟨rfl, z.2.2.2⟩⟩⟩
      · rw [if_neg c3]
        exact ⟨a1, a2.trans ⟨fun z => absurd z.1 (by decide), fun z => absurd z.2.2.1 c3⟩⟩
  · rw [if_neg c1]
    exact ⟨a1, a2.trans ⟨fun z => absurd z.1 (by decide), fun z => absurd z.1 c1⟩⟩
theorem lp62 {s o p : Int} : ∀ (n : Nat) (x : Int) (d : mD), 0 ≤ x → d (s + 8) o - x ≤ (n : Int) → (lp_62_2 s o p n x d = -1 ∧ (∀ k, x ≤ k → k < d (s + 8) o → ¬ d (s + 50) (d (s + 9) (o * 16 + k)) = p)) ∨ (x ≤ lp_62_2 s o p n x d ∧ lp_62_2 s o p n x d < d (s + 8) o ∧ d (s + 50) (d (s + 9) (o * 16 + lp_62_2 s o p n x d)) = p ∧ ∀ k, x ≤ k → k < lp_62_2 s o p n x d → ¬ d (s + 50) (d (s + 9) (o * 16 + k)) = p) := by
  intro n
  induction n with
  | zero =>
    intro x d h0 hn
    have e : lp_62_2 s o p 0 x d = -1 := by
      show st_62_2 s o p _ x d = -1
      unfold st_62_2
      rw [if_neg (by rw [show s + 2 + 6 = s + 8 by omega]; omega)]
    rw [e]
    exact Or.inl ⟨rfl, fun k a b => by omega⟩
  | succ n ih =>
    intro x d h0 hn
    by_cases c : x < d (s + 8) o
    · by_cases c2 : d (s + 50) (d (s + 9) (o * 16 + x)) = p
      · have e : lp_62_2 s o p (n + 1) x d = x := by
          show st_62_2 s o p _ x d = x
          unfold st_62_2 v_38
          rw [show s + 2 + 6 = s + 8 by omega, show s + 49 + 1 = s + 50 by omega, show s + 2 + 7 = s + 9 by omega, if_pos c, if_pos c2]
        rw [e]
        exact Or.inr ⟨by omega, c, c2, fun k a b => by omega⟩
      · have e : lp_62_2 s o p (n + 1) x d = lp_62_2 s o p n (x + 1) d := by
          show st_62_2 s o p _ x d = _
          unfold st_62_2 v_38
          rw [show s + 2 + 6 = s + 8 by omega, show s + 49 + 1 = s + 50 by omega, show s + 2 + 7 = s + 9 by omega, if_pos c, if_neg c2]
        rw [e]
        rcases ih (x + 1) d (by omega) (by omega) with ⟨i1, i2⟩ | ⟨i1, i2, i3, i4⟩
        · refine Or.inl ⟨i1, fun k a b => ?_⟩
          by_cases hk : k = x
          · rw [hk]; exact c2
          · exact i2 k (by omega) b
        · refine Or.inr ⟨by omega, i2, i3, fun k a b => ?_⟩
          by_cases hk : k = x
          · rw [hk]; exact c2
          · exact i4 k (by omega) b
    · have e : lp_62_2 s o p (n + 1) x d = -1 := by
        show st_62_2 s o p _ x d = -1
        unfold st_62_2
        rw [if_neg (by rw [show s + 2 + 6 = s + 8 by omega]; omega)]
      rw [e]
      exact Or.inl ⟨rfl, fun k a b => by omega⟩
-- a queue's tickets and their persons, on both sides
theorem Rel.qp {s : Int} {d : mD} {w : Row} (hg : GG w) (hQ : RelQ s d w) (hT : RelT s d w) {o k : Int} (ho : 0 ≤ o ∧ o < w 7) (h0 : 0 ≤ k) (h1 : k < w (12 + 68 * o + 5)) : d (s + 9) (o * 16 + k) = w (12 + 68 * o + 7 + k) ∧ d (s + 50) (d (s + 9) (o * 16 + k)) = w (452 + 24 * w (12 + 68 * o + 7 + k) + 0) := by
  have e := hQ o ho.1 ho.2 k h0 h1
  have g := hg.2.2.1 o ho.1 ho.2 k h0 h1
  exact ⟨e, by rw [e]; exact (hT.2 _ g.1.1 g.1.2).1⟩
theorem canQ {s p o : Int} {d : mD} {w : Row} (hg : GG w) (h : Rel s d w) (ho : 0 ≤ o ∧ o < w 7) : v_60 s p o d = V_225 p o w ∧ (V_225 p o w = 0 ∨ V_225 p o w = 1) ∧ (V_225 p o w = 1 ↔ CanJ p o w) := by
  have go := hg.2.1 o ho.1 ho.2
  obtain ⟨b1, b2⟩ := v225 (p := p) (o := o) (w := w) (by omega)
  refine ⟨?_, b1, b2⟩
  obtain ⟨-, ⟨o1, o2⟩, rQ, -, rT, -⟩ := h
  have g := o2 o ho.1 ho.2
  have l := lp62 (s := s) (o := o) (p := p) (16 - 0 : Int).toNat 0 d (by omega) (by rw [show (((16 - 0 : Int).toNat : Nat) : Int) = 16 by decide, g.2.2.2.2.2]; omega)
  have e62 : v_62 s o p d = -1 ↔ ∀ k, 0 ≤ k → k < w (12 + 68 * o + 5) → ¬ w (452 + 24 * w (12 + 68 * o + 7 + k) + 0) = p := by
    unfold v_62
    rw [g.2.2.2.2.2] at l
    constructor
    · intro z k a b
      rcases l with ⟨-, l⟩ | ⟨l1, -⟩
      · have := l k a b
        rw [(Rel.qp hg rQ rT ho a b).2] at this
        exact this
      · omega
    · intro z
      rcases l with ⟨l, -⟩ | ⟨l1, l2, l3, -⟩
      · exact l
      · rw [(Rel.qp hg rQ rT ho l1 l2).2] at l3
        exact absurd l3 (z _ l1 l2)
  unfold v_60
  rw [show s + 2 + 5 = s + 7 by omega, show s + 2 + 6 = s + 8 by omega, show s + 2 + 4 = s + 6 by omega, rT.1, g.2.2.2.2.1, g.2.2.2.2.2, g.2.2.2.1]
  unfold CanJ at b2
  by_cases c1 : w 9 < 60
  · rw [if_pos c1]
    by_cases c2 : w (12 + 68 * o + 4) = 0
    · rw [if_pos c2]
      rcases b1 with z | z
      · exact z.symm
      · exact absurd c2 (b2.mp z).2.1
    · rw [if_neg c2]
      by_cases c3 : w (12 + 68 * o + 5) < w (12 + 68 * o + 3)
      · rw [if_pos c3]
        by_cases c4 : v_62 s o p d = -1
        · rw [if_pos c4]
          exact (b2.mpr ⟨c1, c2, c3, e62.mp c4⟩).symm
        · rw [if_neg c4]
          rcases b1 with z | z
          · exact z.symm
          · exact absurd (e62.mpr (b2.mp z).2.2.2) c4
      · rw [if_neg c3]
        rcases b1 with z | z
        · exact z.symm
        · exact absurd (b2.mp z).2.2.1 c3
  · rw [if_neg c1]
    rcases b1 with z | z
    · exact z.symm
    · exact absurd (b2.mp z).1 c1
theorem joinLen {p o : Int} {w : Row} (hg : GG w) (ho : 0 ≤ o ∧ o < w 7) (hp : 0 ≤ p ∧ p < w 8) (hc : CanJ p o w) : w (12 + 68 * o + 5) + 1 ≤ w 8 := by
  have go := hg.2.1 o ho.1 ho.2
  have n8 := hg.1.2.1
  have h := pigeon (f := fun k => w (452 + 24 * w (12 + 68 * o + 7 + k) + 0)) (L := (w (12 + 68 * o + 5)).toNat) (N := (w 8).toNat) (fun k a b => by
    have g := hg.2.2.1 o ho.1 ho.2 k a (by omega)
    have gt := hg.2.2.2.1 _ g.1.1 g.1.2
    show 0 ≤ w (452 + 24 * w (12 + 68 * o + 7 + k) + 0) ∧ w (452 + 24 * w (12 + 68 * o + 7 + k) + 0) < (((w 8).toNat : Nat) : Int)
    omega) (fun k i a b c => (hg.2.2.1 o ho.1 ho.2 k (by omega) (by omega)).2.2.2 i a b |>.2) hp.1 (by omega) (fun k a b => hc.2.2.2 k a (by omega))
  omega
theorem join1 {s p o : Int} {d : mD} {w w' : Row} (hg : GG w) (h : Rel s d w) (ho : 0 ≤ o ∧ o < w 7) (hp : 0 ≤ p ∧ p < w 8) (hc : CanJ p o w) (hS : NewW p o w w') : GG w' ∧ Rel s (g_61 s p o d) w' ∧ v_61 s p o d = w 9 := by
  have jl := joinLen hg ho hp hc
  obtain ⟨hN, hO, hQ, hT, hC, hK, hR⟩ := id hg
  obtain ⟨n7, n8, n9, n10, n11, n0, n1, n2, n3, n4, n5, n6⟩ := id hN
  obtain ⟨⟨a1, a2, a3⟩, ⟨o1, o2⟩, rQ, rP, ⟨t1, t2⟩, rC, rK, rR, rB, rH⟩ := h
  obtain ⟨c1, c2, c3, c4⟩ := hc
  obtain ⟨⟨s1, s2, s3, s4, s5⟩, s7, s8, s9, s6⟩ := hS
  have S6 : ∀ i, (¬ (452 + 24 * w 9 ≤ i ∧ i < 452 + 24 * w 9 + 24) ∧ ¬ i = 12 + 68 * o + 7 + w (12 + 68 * o + 5) ∧ ¬ i = 12 + 68 * o + 5 ∧ ¬ i = 9) → w' i = w i := fun i h => s6 i h.1 h.2.1 h.2.2.1 h.2.2.2
  have go := hO o ho.1 ho.2
  have gc := o2 o ho.1 ho.2
  have e : g_61 s p o d = mset (mset (mset (mset (mset (mset (mset (mset (mset (mset d (s + 50) (w 9) p) (s + 51) (w 9) o) (s + 52) (w 9) (w 0)) (s + 53) (w 9) (-1)) (s + 54) (w 9) 0) (s + 55) (w 9) 0) (s + 56) (w 9) 0) (s + 49) 0 (w 9 + 1)) (s + 9) (o * 16 + w (12 + 68 * o + 5)) (w 9)) (s + 8) o (w (12 + 68 * o + 5) + 1) := by
    unfold g_61
    have e96 : g_96 (s + 49) p o (d s 2) d = mset (mset (mset (mset (mset (mset (mset (mset d (s + 50) (w 9) p) (s + 51) (w 9) o) (s + 52) (w 9) (w 0)) (s + 53) (w 9) (-1)) (s + 54) (w 9) 0) (s + 55) (w 9) 0) (s + 56) (w 9) 0) (s + 49) 0 (w 9 + 1) := by
      unfold g_96
      rw [t1, a2, if_pos c1]
      simp only [Int.add_assoc, Int.reduceAdd]
    rw [e96, t1, show s + 2 + 6 = s + 8 by omega, gc.2.2.2.2.2]
    generalize hd1 : mset (mset (mset (mset (mset (mset (mset (mset d (s + 50) (w 9) p) (s + 51) (w 9) o) (s + 52) (w 9) (w 0)) (s + 53) (w 9) (-1)) (s + 54) (w 9) 0) (s + 55) (w 9) 0) (s + 56) (w 9) 0) (s + 49) 0 (w 9 + 1) = d1
    have e8 : d1 (s + 8) o = w (12 + 68 * o + 5) := by
      rw [← hd1]
      simp (disch := omega) only [ms_a]
      exact gc.2.2.2.2.2
    unfold g_40
    rw [show s + 2 + 6 = s + 8 by omega, e8, if_neg (by omega), if_neg (by omega), if_pos (by omega)]
    have st : ∀ (n : Nat), lp_40_40 (s + 2) o (w (12 + 68 * o + 5)) (w 9) n (o * 16) (w (12 + 68 * o + 5)) d1 = mset (mset d1 (s + 9) (o * 16 + w (12 + 68 * o + 5)) (w 9)) (s + 8) o (w (12 + 68 * o + 5) + 1) := fun n => by
      cases n with
      | zero =>
        show st_40_40 (s + 2) o _ _ _ (o * 16) _ d1 = _
        unfold st_40_40
        rw [if_neg (by omega), show s + 2 + 6 = s + 8 by omega, e8, show s + 2 + 7 = s + 9 by omega]
      | succ n =>
        show st_40_40 (s + 2) o _ _ _ (o * 16) _ d1 = _
        unfold st_40_40
        rw [if_neg (by omega), show s + 2 + 6 = s + 8 by omega, e8, show s + 2 + 7 = s + 9 by omega]
    exact st _
  generalize hd : g_61 s p o d = d' at *
  have fd : ∀ b, ¬ (s + 49 ≤ b ∧ b ≤ s + 56) → ¬ b = s + 9 → ¬ b = s + 8 → d' b = d b := fun b x y z => by
    rw [e]
    funext j
    simp (disch := omega) only [ms_a]
  have ew : ∀ i, (i ≤ 11 ∧ ¬ i = 9) ∨ 1916 ≤ i ∨ (420 ≤ i ∧ i < 452) → w' i = w i := fun i hi => S6 i (by omega)
  have et : ∀ t f, 0 ≤ t → t < w 9 → 0 ≤ f → f < 24 → w' (452 + 24 * t + f) = w (452 + 24 * t + f) := fun t f a b x y => S6 _ (by omega)
  have eo : ∀ o' f, 0 ≤ o' → o' < w 7 → 0 ≤ f → f ≤ 6 → ¬ f = 5 → w' (12 + 68 * o' + f) = w (12 + 68 * o' + f) := fun o' f a b x y z => S6 _ (by omega)
  have pO : ∀ k, 0 ≤ k → k < w 10 → perO w' k = perO w k := fun k a b => by
    have g := hK k a b
    unfold perO
    rw [ew (1916 + 5 * k + 1) (by omega), et _ 0 (by omega) (by omega) (by decide) (by decide)]
  have z8 : ∀ q, 0 ≤ q → q < 16 → w' (452 + 24 * w 9 + 8 + q) = 0 := fun q a b => by
    have := s5 (8 + q) (by omega) (by omega)
    rw [show 452 + 24 * w 9 + (8 + q) = 452 + 24 * w 9 + 8 + q by omega] at this
    exact this
  have e8 : ∀ t q, 0 ≤ t → t < w 9 → 0 ≤ q → q < 16 → w' (452 + 24 * t + 8 + q) = w (452 + 24 * t + 8 + q) := fun t q a b x y => by
    have := et t (8 + q) a b (by omega) (by omega)
    rw [show 452 + 24 * t + (8 + q) = 452 + 24 * t + 8 + q by omega] at this
    exact this
  refine ⟨⟨?_, ?_, ?_, ?_, ?_, ?_, hR.k (fun i hi => ew i (by omega)) hN⟩, ⟨?_, ?_, ?_, rP.k (fun b x y => fd b (by omega) (by omega) (by omega)) (fun i hi => ew i (by omega)) n8, ?_, ?_, rK.k (by rw [fd _ (by omega) (by omega) (by omega)]) (fun b x y => fd b (by omega) (by omega) (by omega)) (fun i hi => ew i (by omega)) n10, rR.k (by rw [fd _ (by omega) (by omega) (by omega)]) (fd _ (by omega) (by omega) (by omega)) (fun i hi => ew i (by omega)) n11, ?_, ?_⟩, ?_⟩
  · unfold GN
    rw [s9, ew 0 (by omega), ew 1 (by omega), ew 2 (by omega), ew 3 (by omega), ew 4 (by omega), ew 5 (by omega), ew 6 (by omega), ew 7 (by omega), ew 8 (by omega), ew 10 (by omega), ew 11 (by omega)]
    omega
  · -- offices
    intro o' x y
    rw [ew 7 (by omega)] at y
    have g := hO o' x y
    rw [eo o' 1 x y (by omega) (by omega) (by omega), eo o' 2 x y (by omega) (by omega) (by omega), eo o' 3 x y (by omega) (by omega) (by omega), eo o' 4 x y (by omega) (by omega) (by omega), eo o' 6 x y (by omega) (by omega) (by omega), s9, csum_s _ n9.1]
    have hs : csum (fun t => if w' (452 + 24 * t + 4) = 1 ∧ w' (452 + 24 * t + 1) = o' then 1 else 0) (w 9).toNat = csum (fun t => if w (452 + 24 * t + 4) = 1 ∧ w (452 + 24 * t + 1) = o' then 1 else 0) (w 9).toNat := csum_congr (fun t a b => by rw [et t 4 a (by omega) (by decide) (by decide), et t 1 a (by omega) (by decide) (by decide)])
    have hz : (if w' (452 + 24 * w 9 + 4) = 1 ∧ w' (452 + 24 * w 9 + 1) = o' then (1 : Int) else 0) = 0 := by
      rw [s5 4 (by omega) (by omega), if_neg (fun z => absurd z.1 (by decide))]
    rw [hs, hz]
    by_cases hoo : o' = o
    · subst hoo
      rw [s8]
      refine ⟨g.1, g.2.1, g.2.2.1, g.2.2.2.1, by omega, fun z => absurd z c2, by omega⟩
    · rw [S6 (12 + 68 * o' + 5) (by omega)]
      exact ⟨g.1, g.2.1, g.2.2.1, g.2.2.2.1, g.2.2.2.2.1, g.2.2.2.2.2.1, by omega⟩
  · -- queues
    intro o' x y k u v
    rw [ew 7 (by omega)] at y
    have go' := hO o' x y
    have old : k < w (12 + 68 * o' + 5) → w' (12 + 68 * o' + 7 + k) = w (12 + 68 * o' + 7 + k) ∧ ((0 ≤ w' (12 + 68 * o' + 7 + k) ∧ w' (12 + 68 * o' + 7 + k) < w' 9) ∧ w' (452 + 24 * w' (12 + 68 * o' + 7 + k) + 1) = o' ∧ w' (452 + 24 * w' (12 + 68 * o' + 7 + k) + 4) = 0
        ∧ ∀ i, 0 ≤ i → i < k → w' (452 + 24 * w' (12 + 68 * o' + 7 + i) + 2) ≤ w' (452 + 24 * w' (12 + 68 * o' + 7 + k) + 2) ∧ ¬ w' (452 + 24 * w' (12 + 68 * o' + 7 + i) + 0) = w' (452 + 24 * w' (12 + 68 * o' + 7 + k) + 0)) := fun hk => by
      have g := hQ o' x y k u hk
      have ek : ∀ i, 0 ≤ i → i < w (12 + 68 * o' + 5) → w' (12 + 68 * o' + 7 + i) = w (12 + 68 * o' + 7 + i) := fun i a b => by
        have hne : ¬ 12 + 68 * o' + 7 + i = 12 + 68 * o + 7 + w (12 + 68 * o + 5) := fun q => by
          by_cases hoo : o' = o
          · rw [hoo] at b q
            omega
          · omega
        exact s6 _ (by omega) hne (by omega) (by omega)
      rw [ek k u hk, s9, et _ 1 g.1.1 g.1.2 (by decide) (by decide), et _ 4 g.1.1 g.1.2 (by decide) (by decide), et _ 2 g.1.1 g.1.2 (by decide) (by decide), et _ 0 g.1.1 g.1.2 (by decide) (by decide)]
      refine ⟨rfl, by omega, g.2.1, g.2.2.1, fun i a b => ?_⟩
      have gi := hQ o' x y i a (by omega)
      rw [ek i a (by omega), et _ 2 gi.1.1 gi.1.2 (by decide) (by decide), et _ 0 gi.1.1 gi.1.2 (by decide) (by decide)]
      exact g.2.2.2 i a b
    by_cases hoo : o' = o
    · subst hoo
      rw [s8] at v
      by_cases hk : k = w (12 + 68 * o' + 5)
      · rw [hk, s7, s9, s2, s5 4 (by omega) (by omega), s3, s1]
        refine ⟨by omega, rfl, rfl, fun i a b => ?_⟩
        have gi := hQ o' x y i a b
        have gt := hT _ gi.1.1 gi.1.2
        rw [S6 (12 + 68 * o' + 7 + i) (by omega), et _ 2 gi.1.1 gi.1.2 (by decide) (by decide), et _ 0 gi.1.1 gi.1.2 (by decide) (by decide)]
        exact ⟨gt.2.2.1.2, c4 i a b⟩
      · exact (old (by omega)).2
    · rw [S6 (12 + 68 * o' + 5) (by omega)] at v
      exact (old v).2
  · -- tickets
    intro t x y
    rw [s9] at y
    rw [ew 0 (by omega), ew 7 (by omega), ew 8 (by omega)]
    by_cases ht : t = w 9
    · rw [ht, s1, s2, s3, s4, s5 4 (by omega) (by omega)]
      refine ⟨hp, ho, by omega, by omega, fun _ => ⟨rfl, w (12 + 68 * o + 5), by omega, by rw [s8]; omega, s7⟩, fun z => absurd rfl z⟩
    · have lt : t < w 9 := by omega
      have g := hT t x lt
      rw [et t 0 x lt (by decide) (by decide), et t 1 x lt (by decide) (by decide), et t 2 x lt (by decide) (by decide), et t 3 x lt (by decide) (by decide), et t 4 x lt (by decide) (by decide)]
      refine ⟨g.1, g.2.1, g.2.2.1, g.2.2.2.1, fun z => ?_, g.2.2.2.2.2⟩
      obtain ⟨z1, k, z2, z3, z4⟩ := g.2.2.2.2.1 z
      have go' := hO _ g.2.1.1 g.2.1.2
      refine ⟨z1, k, z2, ?_, ?_⟩
      · by_cases hoo : w (452 + 24 * t + 1) = o
        · rw [hoo] at z3 ⊢
          rw [s8]
          omega
        · rw [S6 _ (by omega)]
          exact z3
      · have hne : ¬ 12 + 68 * w (452 + 24 * t + 1) + 7 + k = 12 + 68 * o + 7 + w (12 + 68 * o + 5) := fun q => by
          by_cases hoo : w (452 + 24 * t + 1) = o
          · rw [hoo] at z3 q
            omega
          · omega
        rw [s6 _ (by omega) hne (by omega) (by omega)]
        exact z4
  · -- claims
    intro t x y
    rw [s9] at y
    rw [ew 0 (by omega)]
    by_cases ht : t = w 9
    · rw [ht, s5 4 (by omega) (by omega), s5 5 (by omega) (by omega), s5 6 (by omega) (by omega)]
      refine ⟨Or.inl rfl, Or.inl rfl, fun z => absurd z (by decide), fun z => absurd z (by decide), fun q a b => ?_⟩
      rw [z8 q a b]
      omega
    · have lt : t < w 9 := by omega
      have g := hC t x lt
      rw [et t 3 x lt (by decide) (by decide), et t 4 x lt (by decide) (by decide), et t 5 x lt (by decide) (by decide), et t 6 x lt (by decide) (by decide)]
      exact ⟨g.1, g.2.1, g.2.2.1, g.2.2.2.1, fun q a b => by rw [e8 t q x (by omega) a b]; exact g.2.2.2.2 q a b⟩
  · -- tokens
    intro k x y
    rw [ew 10 (by omega)] at y
    have g := hK k x y
    rw [ew (1916 + 5 * k + 0) (by omega), ew (1916 + 5 * k + 1) (by omega), ew (1916 + 5 * k + 2) (by omega), ew (1916 + 5 * k + 3) (by omega), ew (1916 + 5 * k + 4) (by omega), ew 0 (by omega), ew 8 (by omega), s9, pO k x y]
    refine ⟨g.1, by omega, g.2.2.1, g.2.2.2.1, g.2.2.2.2.1, fun i a b => ?_⟩
    rw [ew (1916 + 5 * i + 2) (by omega), pO i a (by omega)]
    exact g.2.2.2.2.2 i a b
  · exact ⟨by rw [fd _ (by omega) (by omega) (by omega), ew 1 (by omega)]; exact a1, by rw [fd _ (by omega) (by omega) (by omega), ew 0 (by omega)]; exact a2, fun k x y => by rw [fd _ (by omega) (by omega) (by omega), ew _ (by omega)]; exact a3 k x y⟩
  · refine ⟨by rw [fd _ (by omega) (by omega) (by omega), ew 7 (by omega)]; exact o1, fun o' x y => ?_⟩
    rw [ew 7 (by omega)] at y
    have g := o2 o' x y
    rw [fd (s + 3) (by omega) (by omega) (by omega), fd (s + 4) (by omega) (by omega) (by omega), fd (s + 5) (by omega) (by omega) (by omega), fd (s + 6) (by omega) (by omega) (by omega), fd (s + 7) (by omega) (by omega) (by omega), eo o' 0 x y (by omega) (by omega) (by omega), eo o' 1 x y (by omega) (by omega) (by omega), eo o' 2 x y (by omega) (by omega) (by omega), eo o' 3 x y (by omega) (by omega) (by omega), eo o' 4 x y (by omega) (by omega) (by omega)]
    refine ⟨g.1, g.2.1, g.2.2.1, g.2.2.2.1, g.2.2.2.2.1, ?_⟩
    rw [e]
    by_cases hoo : o' = o
    · rw [hoo, s8]
      simp (disch := omega) only [ms_e]
    · rw [S6 (12 + 68 * o' + 5) (by omega)]
      simp (disch := omega) only [ms_a, ms_i]
      exact g.2.2.2.2.2
  · intro o' x y k u v
    rw [ew 7 (by omega)] at y
    have go' := hO o' x y
    rw [e]
    by_cases hoo : o' = o
    · subst hoo
      rw [s8] at v
      by_cases hk : k = w (12 + 68 * o' + 5)
      · rw [hk, s7]
        simp (disch := omega) only [ms_a, ms_e]
      · rw [S6 _ (by omega)]
        simp (disch := omega) only [ms_a, ms_i]
        exact rQ o' x y k u (by omega)
    · rw [S6 (12 + 68 * o' + 5) (by omega)] at v
      rw [S6 _ (by omega)]
      simp (disch := omega) only [ms_a, ms_i]
      exact rQ o' x y k u v
  · refine ⟨?_, fun t x y => ?_⟩
    · rw [e, s9]
      simp (disch := omega) only [ms_a, ms_e]
    · rw [s9] at y
      rw [e]
      by_cases ht : t = w 9
      · rw [ht, s1, s2, s3, s4, s5 4 (by omega) (by omega)]
        simp (disch := omega) only [ms_a, ms_e]
        exact ⟨trivial, trivial, trivial, trivial, trivial⟩
      · rw [et t 0 x (by omega) (by decide) (by decide), et t 1 x (by omega) (by decide) (by decide), et t 2 x (by omega) (by decide) (by decide), et t 3 x (by omega) (by decide) (by decide), et t 4 x (by omega) (by decide) (by decide)]
        simp (disch := omega) only [ms_a, ms_i]
        exact t2 t x (by omega)
  · intro t x y
    rw [s9] at y
    rw [e]
    by_cases ht : t = w 9
    · rw [ht, s5 5 (by omega) (by omega), s5 6 (by omega) (by omega), s5 7 (by omega) (by omega)]
      simp (disch := omega) only [ms_a, ms_e]
      refine ⟨by decide, (csum_zero (fun q a b => by rw [if_pos (z8 q a (by omega))])).symm, fun q a b => ?_, by decide⟩
      rw [ib_zero, z8 q a b]
      simp
    · rw [et t 5 x (by omega) (by decide) (by decide), et t 6 x (by omega) (by decide) (by decide), et t 7 x (by omega) (by decide) (by decide)]
      simp (disch := omega) only [ms_a, ms_i]
      obtain ⟨g1, g2, g3, g4⟩ := rC t x (by omega)
      refine ⟨g1, ?_, fun q a b => by rw [e8 t q x (by omega) a b]; exact g3 q a b, g4⟩
      rw [g2]
      exact csum_congr (fun q a b => by rw [e8 t q x (by omega) a (by omega)])
  · intro q x y
    rw [ew 8 (by omega)] at y
    obtain ⟨g1, g2, g3⟩ := rB q x y
    rw [fd (s + 13) (by omega) (by omega) (by omega), fd (s + 14) (by omega) (by omega) (by omega), fd (s + 15) (by omega) (by omega) (by omega)]
    refine ⟨?_, ?_, fun r a b => ?_⟩
    · rw [g1]
      unfold madeR
      rw [ew 10 (by omega), ew 0 (by omega)]
      exact csum_congr (fun k a b => by rw [pO k a (by omega), ew (1916 + 5 * k + 4) (by omega)])
    · rw [g2]
      unfold attR
      rw [s9, csum_s _ n9.1, z8 q x (by omega), ew 0 (by omega), if_neg (fun z => absurd z.1 (by decide)), Int.add_zero]
      exact csum_congr (fun t a b => by rw [e8 t q a (by omega) x (by omega)])
    · rw [g3 r a b]
      unfold attd
      rw [s9, ew 0 (by omega)]
      constructor
      · rintro ⟨t, z1, z2, z3, z4⟩
        exact ⟨t, z1, by omega, by rw [et t 0 z1 z2 (by omega) (by omega)]; exact z3, by rw [e8 t q z1 z2 x (by omega)]; exact z4⟩
      · rintro ⟨t, z1, z2, z3, z4⟩
        by_cases ht : t = w 9
        · rw [ht, z8 q x (by omega)] at z4
          omega
        · rw [et t 0 z1 (by omega) (by decide) (by decide)] at z3
          rw [e8 t q z1 (by omega) x (by omega)] at z4
          exact ⟨t, z1, by omega, z3, z4⟩
  · intro q x y h' u v
    rw [ew 8 (by omega)] at y
    rw [fd _ (by omega) (by omega) (by omega), ew 10 (by omega)]
    refine (rH q x y h' u v).trans ⟨?_, ?_⟩
    · rintro ⟨k, z1, z2, z3, z4⟩
      exact ⟨k, z1, z2, by rw [ew _ (by omega)]; exact z3, by rw [pO k z1 z2]; exact z4⟩
    · rintro ⟨k, z1, z2, z3, z4⟩
      rw [ew _ (by omega)] at z3
      rw [pO k z1 z2] at z4
      exact ⟨k, z1, z2, z3, z4⟩
  · exact t1
theorem join {s p o : Int} {d : mD} {w : Row} (hg : GG w) (h : Rel s d w) (ho : 0 ≤ o ∧ o < w 7) (hp : 0 ≤ p ∧ p < w 8) (hc : CanJ p o w) : v_61 s p o d = V_226 p o w ∧ GG (W_226 p o w) ∧ Rel s (g_61 s p o d) (W_226 p o w) := by
  have n7 := hg.1.1
  have n9 := hg.1.2.2.1
  have go := hg.2.1 o ho.1 ho.2
  obtain ⟨v, hS⟩ := newW (p := p) (o := o) (w := w) (by omega) n9 (by omega)
  obtain ⟨x, y, z⟩ := join1 hg h ho hp hc hS
  unfold V_226 W_226
  exact ⟨by rw [z, v], x, y⟩
/-! ===== a ticket leaves its queue ===== -/
def sg (p k : Int) : Int := if k < p then k else k + 1
theorem sg_r (p k : Int) : (sg p k = k ∧ k < p) ∨ (sg p k = k + 1 ∧ p ≤ k) := by
  unfold sg
  split <;> omega
def StepL (o p t : Int) (w w' : Row) : Prop := w' (12 + 68 * o + 5) = w (12 + 68 * o + 5) - 1 ∧ w' (452 + 24 * t + 4) = 2 ∧ w' (452 + 24 * t + 3) = w 0 ∧ (∀ k, 0 ≤ k → k < w (12 + 68 * o + 5) - 1 → w' (12 + 68 * o + 7 + k) = w (12 + 68 * o + 7 + sg p k))
  ∧ ∀ i, ¬ i = 12 + 68 * o + 5 → ¬ i = 452 + 24 * t + 4 → ¬ i = 452 + 24 * t + 3 → ¬ (12 + 68 * o + 7 ≤ i ∧ i < 12 + 68 * o + 7 + (w (12 + 68 * o + 5) - 1)) → w' i = w i
theorem leave1 {s o p t : Int} {d d1 d' : mD} {w w' : Row} (hg : GG w) (h : Rel s d w) (ho : 0 ≤ o ∧ o < w 7) (hp : 0 ≤ p ∧ p < w (12 + 68 * o + 5)) (et : w (12 + 68 * o + 7 + p) = t) (hS : StepL o p t w w') (hd1 : TakeD s o p d d1) (hd : d' = mset (mset d1 (s + 54) t 2) (s + 53) t (w 0)) : GG w' ∧ Rel s d' w' := by
  obtain ⟨hN, hO, hQ, hT, hC, hK, hR⟩ := hg
  obtain ⟨n7, n8, n9, n10, n11, n0, n1, n2, n3, n4, n5, n6⟩ := id hN
  obtain ⟨⟨a1, a2, a3⟩, ⟨o1, o2⟩, rQ, rP, ⟨t1, t2⟩, rC, rK, rR, rB, rH⟩ := h
  obtain ⟨s1, s3, s4, s5, s6⟩ := hS
  have S6 : ∀ i, (¬ i = 12 + 68 * o + 5 ∧ ¬ i = 452 + 24 * t + 4 ∧ ¬ i = 452 + 24 * t + 3 ∧ ¬ (12 + 68 * o + 7 ≤ i ∧ i < 12 + 68 * o + 7 + (w (12 + 68 * o + 5) - 1))) → w' i = w i := fun i h => s6 i h.1 h.2.1 h.2.2.1 h.2.2.2
  obtain ⟨q1, q2, q3, q4, q5⟩ := hd1
  have go := hO o ho.1 ho.2
  have gq := hQ o ho.1 ho.2 p hp.1 hp.2
  rw [et] at gq
  have e8 : d (s + 8) o = w (12 + 68 * o + 5) := (o2 o ho.1 ho.2).2.2.2.2.2
  rw [e8] at q3 q4 q5
  have fd : ∀ b, ¬ b = s + 54 → ¬ b = s + 53 → ¬ b = s + 8 → ¬ b = s + 9 → d' b = d b := fun b x y z u => by
    rw [hd, ← q1 b z u]
    funext j
    simp (disch := omega) only [ms_a]
  have f1 : ∀ b, ¬ b = s + 54 → ¬ b = s + 53 → d' b = d1 b := fun b x y => by
    rw [hd]
    funext j
    simp (disch := omega) only [ms_a]
  -- the ticket is in no other place
  have other : ∀ o', 0 ≤ o' → o' < w 7 → ∀ k, 0 ≤ k → k < w (12 + 68 * o' + 5) → ¬ (o' = o ∧ k = p) → ¬ w (12 + 68 * o' + 7 + k) = t := by
    intro o' x y k u v hn e
    have g := hQ o' x y k u v
    rw [e] at g
    by_cases hoo : o' = o
    · subst hoo
      rcases Int.lt_trichotomy k p with hk | hk | hk
      · have g2 := (hQ o' x y p hp.1 hp.2).2.2.2 k u hk
        rw [e, et] at g2
        exact g2.2 rfl
      · exact hn ⟨rfl, hk⟩
      · have g2 := g.2.2.2 p hp.1 hk
        rw [et] at g2
        exact g2.2 rfl
    · omega
  have cl := hC _ gq.1.1 gq.1.2
  refine ⟨⟨hN.k (fun i hi => S6 i (by omega)), ?_, ?_, ?_, ?_, hK.k (fun i hi => S6 i (by omega)) hN, hR.k (fun i hi => S6 i (by omega)) hN⟩, ⟨?_, ?_, ?_, rP.k (fun b x y => fd b (by omega) (by omega) (by omega) (by omega)) (fun i hi => S6 i (by omega)) n8, ?_, rC.k (fun b x => fd b (by omega) (by omega) (by omega) (by omega)) (fun i hi => S6 i (by omega)) n9, rK.k (by rw [fd _ (by omega) (by omega) (by omega) (by omega)]) (fun b x y => fd b (by omega) (by omega) (by omega) (by omega)) (fun i hi => S6 i (by omega)) n10, rR.k (by rw [fd _ (by omega) (by omega) (by omega) (by omega)]) (fd _ (by omega) (by omega) (by omega) (by omega)) (fun i hi => S6 i (by omega)) n11, rB.k (fun b x y => fd b (by omega) (by omega) (by omega) (by omega)) (fun i hi => S6 i (by omega)) n8 n9 n10 hK.of, rH.k (fun b x y => fd b (by omega) (by omega) (by omega) (by omega)) (fun i hi => S6 i (by omega)) n8 n9 n10 hK.of⟩⟩
  · -- offices
    intro o' x y
    rw [S6 7 (by omega)] at y
    have g := hO o' x y
    rw [S6 (12 + 68 * o' + 1) (by omega), S6 (12 + 68 * o' + 2) (by omega), S6 (12 + 68 * o' + 3) (by omega), S6 (12 + 68 * o' + 4) (by omega), S6 (12 + 68 * o' + 6) (by omega), S6 9 (by omega)]
    have hs := csum_upd (f := fun t => if w' (452 + 24 * t + 4) = 1 ∧ w' (452 + 24 * t + 1) = o' then 1 else 0) (g := fun t => if w (452 + 24 * t + 4) = 1 ∧ w (452 + 24 * t + 1) = o' then 1 else 0) (n := (w 9).toNat) (k := t) gq.1.1 (by omega) (fun i a b c => by
      show (if w' (452 + 24 * i + 4) = 1 ∧ w' (452 + 24 * i + 1) = o' then (1 : Int) else 0) = if w (452 + 24 * i + 4) = 1 ∧ w (452 + 24 * i + 1) = o' then 1 else 0
      rw [S6 (452 + 24 * i + 4) (by omega), S6 (452 + 24 * i + 1) (by omega)])
    rw [s3, gq.2.2.1, if_neg (fun z => absurd z.1 (by decide)), if_neg (fun z => absurd z.1 (by decide))] at hs
    rw [hs]
    by_cases hoo : o' = o
    · subst hoo
      rw [s1]
      refine ⟨g.1, g.2.1, g.2.2.1, g.2.2.2.1, by omega, fun z => by have := g.2.2.2.2.2.1 z; omega, by rw [g.2.2.2.2.2.2]; omega⟩
    · rw [S6 (12 + 68 * o' + 5) (by omega)]
      refine ⟨g.1, g.2.1, g.2.2.1, g.2.2.2.1, g.2.2.2.2.1, g.2.2.2.2.2.1, by rw [g.2.2.2.2.2.2]; omega⟩
  · -- queues
    intro o' x y k u v
    rw [S6 7 (by omega)] at y
    by_cases hoo : o' = o
    · subst hoo
      rw [s1] at v
      have hk := sg_r p k
      have g := hQ o' x y (sg p k) (by omega) (by omega)
      have ne := other o' x y (sg p k) (by omega) (by omega) (by omega)
      rw [s5 k u v, S6 9 (by omega), S6 (452 + 24 * w (12 + 68 * o' + 7 + sg p k) + 1) (by omega), S6 (452 + 24 * w (12 + 68 * o' + 7 + sg p k) + 4) (by omega)]
      refine ⟨g.1, g.2.1, g.2.2.1, fun i a b => ?_⟩
      have hi := sg_r p i
      have g2 := g.2.2.2 (sg p i) (by omega) (by omega)
      have gi := hQ o' x y (sg p i) (by omega) (by omega)
      rw [s5 i a (by omega), S6 (452 + 24 * w (12 + 68 * o' + 7 + sg p k) + 2) (by omega), S6 (452 + 24 * w (12 + 68 * o' + 7 + sg p k) + 0) (by omega), S6 (452 + 24 * w (12 + 68 * o' + 7 + sg p i) + 2) (by omega), S6 (452 + 24 * w (12 + 68 * o' + 7 + sg p i) + 0) (by omega)]
      exact g2
    · have go' := hO o' x y
      rw [S6 (12 + 68 * o' + 5) (by omega)] at v
      have g := hQ o' x y k u v
      have ne := other o' x y k u v (by omega)
      rw [S6 (12 + 68 * o' + 7 + k) (by omega), S6 9 (by omega), S6 (452 + 24 * w (12 + 68 * o' + 7 + k) + 1) (by omega), S6 (452 + 24 * w (12 + 68 * o' + 7 + k) + 4) (by omega)]
      refine ⟨g.1, g.2.1, g.2.2.1, fun i a b => ?_⟩
      have gi := hQ o' x y i a (by omega)
      rw [S6 (12 + 68 * o' + 7 + i) (by omega), S6 (452 + 24 * w (12 + 68 * o' + 7 + k) + 2) (by omega), S6 (452 + 24 * w (12 + 68 * o' + 7 + k) + 0) (by omega), S6 (452 + 24 * w (12 + 68 * o' + 7 + i) + 2) (by omega), S6 (452 + 24 * w (12 + 68 * o' + 7 + i) + 0) (by omega)]
      exact g.2.2.2 i a b
  · -- tickets
    intro t' x y
    rw [S6 9 (by omega)] at y
    have g := hT t' x y
    rw [S6 (452 + 24 * t' + 0) (by omega), S6 (452 + 24 * t' + 1) (by omega), S6 (452 + 24 * t' + 2) (by omega), S6 0 (by omega), S6 7 (by omega), S6 8 (by omega)]
    by_cases ht : t' = t
    · rw [ht, s3, s4]
      rw [ht] at g
      exact ⟨g.1, g.2.1, g.2.2.1, by omega, fun z => by omega, fun _ => by omega⟩
    · rw [S6 (452 + 24 * t' + 3) (by omega), S6 (452 + 24 * t' + 4) (by omega)]
      refine ⟨g.1, g.2.1, g.2.2.1, g.2.2.2.1, fun z => ?_, g.2.2.2.2.2⟩
      obtain ⟨z1, k, z2, z3, z4⟩ := g.2.2.2.2.1 z
      refine ⟨z1, ?_⟩
      have go' := hO _ g.2.1.1 g.2.1.2
      by_cases hoo : w (452 + 24 * t' + 1) = o
      · rw [hoo] at z3 z4 ⊢
        have hk : ¬ k = p := by
          intro hk
          rw [hk, et] at z4
          exact ht z4.symm
        by_cases hk2 : k < p
        · refine ⟨k, z2, by rw [s1]; omega, ?_⟩
          rw [s5 k z2 (by omega), show sg p k = k by have := sg_r p k; omega]
          exact z4
        · refine ⟨k - 1, by omega, by rw [s1]; omega, ?_⟩
          rw [s5 (k - 1) (by omega) (by omega), show sg p (k - 1) = k by have := sg_r p (k - 1); omega]
          exact z4
      · exact ⟨k, z2, by rw [S6 _ (by omega)]; exact z3, by rw [S6 _ (by omega)]; exact z4⟩
  · -- claims
    intro t' x y
    rw [S6 9 (by omega)] at y
    have g := hC t' x y
    rw [S6 (452 + 24 * t' + 5) (by omega), S6 (452 + 24 * t' + 6) (by omega), S6 0 (by omega)]
    have gp : ∀ p, 0 ≤ p → p < 16 → 0 ≤ w' (452 + 24 * t' + 8 + p) ∧ w' (452 + 24 * t' + 8 + p) ≤ w 0 + 1 := fun p a b => by
      rw [S6 _ (by omega)]
      exact g.2.2.2.2 p a b
    by_cases ht : t' = t
    · rw [ht] at g gp ⊢
      rw [s3, s4]
      have h5 : ¬ w (452 + 24 * t + 5) = 1 := fun z => by
        have := g.2.2.2.1 z
        omega
      exact ⟨g.1, g.2.1, fun z => absurd (g.2.2.1 z).1 h5, fun z => absurd z h5, gp⟩
    · rw [S6 (452 + 24 * t' + 3) (by omega), S6 (452 + 24 * t' + 4) (by omega)]
      exact ⟨g.1, g.2.1, g.2.2.1, g.2.2.2.1, gp⟩
  · refine ⟨?_, ?_, fun k x y => ?_⟩
    · rw [fd _ (by omega) (by omega) (by omega) (by omega), S6 1 (by omega)]; exact a1
    · rw [fd _ (by omega) (by omega) (by omega) (by omega), S6 0 (by omega)]; exact a2
    · rw [fd _ (by omega) (by omega) (by omega) (by omega), S6 _ (by omega)]; exact a3 k x y
  · refine ⟨?_, fun o' x y => ?_⟩
    · rw [fd _ (by omega) (by omega) (by omega) (by omega), S6 7 (by omega)]; exact o1
    · rw [S6 7 (by omega)] at y
      have g := o2 o' x y
      rw [fd (s + 3) (by omega) (by omega) (by omega) (by omega), fd (s + 4) (by omega) (by omega) (by omega) (by omega), fd (s + 5) (by omega) (by omega) (by omega) (by omega), fd (s + 6) (by omega) (by omega) (by omega) (by omega), fd (s + 7) (by omega) (by omega) (by omega) (by omega), S6 (12 + 68 * o' + 0) (by omega), S6 (12 + 68 * o' + 1) (by omega), S6 (12 + 68 * o' + 2) (by omega), S6 (12 + 68 * o' + 3) (by omega), S6 (12 + 68 * o' + 4) (by omega), f1 (s + 8) (by omega) (by omega)]
      refine ⟨g.1, g.2.1, g.2.2.1, g.2.2.2.1, g.2.2.2.2.1, ?_⟩
      by_cases hoo : o' = o
      · rw [hoo, q3, s1]
      · rw [q2 o' hoo, S6 (12 + 68 * o' + 5) (by omega)]
        exact g.2.2.2.2.2
  · intro o' x y k u v
    rw [S6 7 (by omega)] at y
    have go' := hO o' x y
    rw [f1 (s + 9) (by omega) (by omega)]
    by_cases hoo : o' = o
    · subst hoo
      rw [s1] at v
      rw [s5 k u v]
      rcases sg_r p k with hk | hk
      · rw [hk.1, q5 _ (by omega)]
        exact rQ o' x y k u (by omega)
      · rw [hk.1, q4 k hk.2 v]
        have := rQ o' x y (k + 1) (by omega) (by omega)
        rw [show o' * 16 + (k + 1) = o' * 16 + k + 1 by omega] at this
        exact this
    · rw [S6 (12 + 68 * o' + 5) (by omega)] at v
      rw [q5 _ (by omega), S6 _ (by omega)]
      exact rQ o' x y k u v
  · refine ⟨?_, fun t' x y => ?_⟩
    · rw [fd _ (by omega) (by omega) (by omega) (by omega), S6 9 (by omega)]; exact t1
    · rw [S6 9 (by omega)] at y
      have g := t2 t' x y
      rw [fd (s + 50) (by omega) (by omega) (by omega) (by omega), fd (s + 51) (by omega) (by omega) (by omega) (by omega), fd (s + 52) (by omega) (by omega) (by omega) (by omega), S6 (452 + 24 * t' + 0) (by omega), S6 (452 + 24 * t' + 1) (by omega), S6 (452 + 24 * t' + 2) (by omega), hd]
      by_cases ht : t' = t
      · rw [ht] at g ⊢
        rw [s3, s4]
        simp (disch := omega) only [ms_a, ms_e]
        exact ⟨g.1, g.2.1, g.2.2.1, trivial, trivial⟩
      · rw [S6 (452 + 24 * t' + 3) (by omega), S6 (452 + 24 * t' + 4) (by omega)]
        simp (disch := omega) only [ms_a, ms_i]
        rw [q1 (s + 53) (by omega) (by omega), q1 (s + 54) (by omega) (by omega)]
        exact g
-- where a ticket stands
theorem lp221 {t b : Int} : ∀ (n : Nat) (x : Int) (w : Row), 0 ≤ x → w (b + 5) - x ≤ (n : Int) → (LP_221_17 t n b x w = -1 ∧ ∀ k, x ≤ k → k < w (b + 5) → ¬ w (b + 7 + k) = t) ∨ (x ≤ LP_221_17 t n b x w ∧ LP_221_17 t n b x w < w (b + 5) ∧ w (b + 7 + LP_221_17 t n b x w) = t ∧ ∀ k, x ≤ k → k < LP_221_17 t n b x w → ¬ w (b + 7 + k) = t) := by
  intro n
  induction n with
  | zero =>
    intro x w h0 hn
    have e : LP_221_17 t 0 b x w = -1 := by
      show ST_221_17 t _ b x w = -1
      unfold ST_221_17
      rw [if_neg (by omega)]
    rw [e]
    exact Or.inl ⟨rfl, fun k a c => by omega⟩
  | succ n ih =>
    intro x w h0 hn
    by_cases c : x < w (b + 5)
    · by_cases c2 : w (b + 7 + x) = t
      · have e : LP_221_17 t (n + 1) b x w = x := by
          show ST_221_17 t _ b x w = x
          unfold ST_221_17
          rw [if_pos c, if_pos c2]
        rw [e]
        exact Or.inr ⟨by omega, c, c2, fun k a b => by omega⟩
      · have e : LP_221_17 t (n + 1) b x w = LP_221_17 t n b (x + 1) w := by
          show ST_221_17 t _ b x w = _
          unfold ST_221_17
          rw [if_pos c, if_neg c2]
        rw [e]
        rcases ih (x + 1) w (by omega) (by omega) with ⟨i1, i2⟩ | ⟨i1, i2, i3, i4⟩
        · refine Or.inl ⟨i1, fun k a b => ?_⟩
          by_cases hk : k = x
          · rw [hk]; exact c2
          · exact i2 k (by omega) b
        · refine Or.inr ⟨by omega, i2, i3, fun k a b => ?_⟩
          by_cases hk : k = x
          · rw [hk]; exact c2
          · exact i4 k (by omega) b
    · have e : LP_221_17 t (n + 1) b x w = -1 := by
        show ST_221_17 t _ b x w = -1
        unfold ST_221_17
        rw [if_neg c]
      rw [e]
      exact Or.inl ⟨rfl, fun k a c => by omega⟩
theorem lp39 {s o t : Int} : ∀ (n : Nat) (x : Int) (d : mD), 0 ≤ x → d (s + 8) o - x ≤ (n : Int) → (lp_39_2 (s + 2) o t n x d = -1 ∧ ∀ k, x ≤ k → k < d (s + 8) o → ¬ d (s + 9) (o * 16 + k) = t) ∨ (x ≤ lp_39_2 (s + 2) o t n x d ∧ lp_39_2 (s + 2) o t n x d < d (s + 8) o ∧ d (s + 9) (o * 16 + lp_39_2 (s + 2) o t n x d) = t ∧ ∀ k, x ≤ k → k < lp_39_2 (s + 2) o t n x d → ¬ d (s + 9) (o * 16 + k) = t) := by
  intro n
  induction n with
  | zero =>
    intro x d h0 hn
    have e : lp_39_2 (s + 2) o t 0 x d = -1 := by
      show st_39_2 (s + 2) o t _ x d = -1
      unfold st_39_2
      rw [if_neg (by rw [show s + 2 + 6 = s + 8 by omega]; omega)]
    rw [e]
    exact Or.inl ⟨rfl, fun k a c => by omega⟩
  | succ n ih =>
    intro x d h0 hn
    by_cases c : x < d (s + 8) o
    · by_cases c2 : d (s + 9) (o * 16 + x) = t
      · have e : lp_39_2 (s + 2) o t (n + 1) x d = x := by
          show st_39_2 (s + 2) o t _ x d = x
          unfold st_39_2 v_38
          rw [show s + 2 + 6 = s + 8 by omega, show s + 2 + 7 = s + 9 by omega, if_pos c, if_pos c2]
        rw [e]
        exact Or.inr ⟨by omega, c, c2, fun k a b => by omega⟩
      · have e : lp_39_2 (s + 2) o t (n + 1) x d = lp_39_2 (s + 2) o t n (x + 1) d := by
          show st_39_2 (s + 2) o t _ x d = _
          unfold st_39_2 v_38
          rw [show s + 2 + 6 = s + 8 by omega, show s + 2 + 7 = s + 9 by omega, if_pos c, if_neg c2]
        rw [e]
        rcases ih (x + 1) d (by omega) (by omega) with ⟨i1, i2⟩ | ⟨i1, i2, i3, i4⟩
        · refine Or.inl ⟨i1, fun k a b => ?_⟩
          by_cases hk : k = x
          · rw [hk]; exact c2
          · exact i2 k (by omega) b
        · refine Or.inr ⟨by omega, i2, i3, fun k a b => ?_⟩
          by_cases hk : k = x
          · rw [hk]; exact c2
          · exact i4 k (by omega) b
    · have e : lp_39_2 (s + 2) o t (n + 1) x d = -1 := by
        show st_39_2 (s + 2) o t _ x d = -1
        unfold st_39_2
        rw [if_neg (by rw [show s + 2 + 6 = s + 8 by omega]; omega)]
      rw [e]
      exact Or.inl ⟨rfl, fun k a c => by omega⟩
theorem placeEq {s t : Int} {d : mD} {w : Row} (hg : GG w) (h : Rel s d w) (ht : 0 ≤ t ∧ t < w 9) : v_39 (s + 2) (w (452 + 24 * t + 1)) t d = V_221 t w ∧ ((V_221 t w = -1 ∧ ∀ k, 0 ≤ k → k < w (12 + 68 * w (452 + 24 * t + 1) + 5) → ¬ w (12 + 68 * w (452 + 24 * t + 1) + 7 + k) = t) ∨ (0 ≤ V_221 t w ∧ V_221 t w < w (12 + 68 * w (452 + 24 * t + 1) + 5) ∧ w (12 + 68 * w (452 + 24 * t + 1) + 7 + V_221 t w) = t)) := by
  have gt := hg.2.2.2.1 t ht.1 ht.2
  unfold V_221 v_39
  generalize w (452 + 24 * t + 1) = o at *
  have go := hg.2.1 o gt.2.1.1 gt.2.1.2
  obtain ⟨-, ⟨o1, o2⟩, rQ, -, rT, -⟩ := h
  have gc := o2 o gt.2.1.1 gt.2.1.2
  have a := lp221 (t := t) (b := 12 + 68 * o) (61 - 0 : Int).toNat 0 w (by omega) (by rw [show (((61 - 0 : Int).toNat : Nat) : Int) = 61 by decide]; omega)
  have b := lp39 (s := s) (o := o) (t := t) (16 - 0 : Int).toNat 0 d (by omega) (by rw [show (((16 - 0 : Int).toNat : Nat) : Int) = 16 by decide]; omega)
  rw [gc.2.2.2.2.2] at b
  have eq := rQ o gt.2.1.1 gt.2.1.2
  rcases a with ⟨a1, a2⟩ | ⟨a1, a2, a3, a4⟩
  · refine ⟨?_, Or.inl ⟨a1, a2⟩⟩
    rcases b with ⟨b1, b2⟩ | ⟨b1, b2, b3, b4⟩
    · rw [a1, b1]
    · rw [eq _ b1 b2] at b3
      exact absurd b3 (a2 _ b1 b2)
  · refine ⟨?_, Or.inr ⟨a1, a2, a3⟩⟩
    rcases b with ⟨b1, b2⟩ | ⟨b1, b2, b3, b4⟩
    · exact absurd (by rw [eq _ a1 a2]; exact a3) (b2 _ a1 a2)
    · rcases Int.lt_trichotomy (lp_39_2 (s + 2) o t (16 - 0 : Int).toNat 0 d) (LP_221_17 t (61 - 0 : Int).toNat (12 + 68 * o) 0 w) with z | z | z
      · rw [eq _ b1 b2] at b3
        exact absurd b3 (a4 _ b1 z)
      · exact z
      · exact absurd (by rw [eq _ a1 a2]; exact a3) (b4 _ a1 z)
-- a waiting ticket stands in its office's queue
theorem placeIn {s t : Int} {d : mD} {w : Row} (hg : GG w) (h : Rel s d w) (ht : 0 ≤ t ∧ t < w 9) (hw : w (452 + 24 * t + 4) = 0) : v_39 (s + 2) (w (452 + 24 * t + 1)) t d = V_221 t w ∧ 0 ≤ V_221 t w ∧ V_221 t w < w (12 + 68 * w (452 + 24 * t + 1) + 5) ∧ w (12 + 68 * w (452 + 24 * t + 1) + 7 + V_221 t w) = t := by
  obtain ⟨e, a⟩ := placeEq hg h ht
  refine ⟨e, ?_⟩
  rcases a with ⟨a1, a2⟩ | a
  · obtain ⟨-, k, k1, k2, k3⟩ := (hg.2.2.2.1 t ht.1 ht.2).2.2.2.2.1 hw
    exact absurd k3 (a2 k k1 k2)
  · exact a
theorem leave {s t : Int} {d : mD} {w : Row} (hg : GG w) (h : Rel s d w) (ht : 0 ≤ t ∧ t < w 9) (hw : w (452 + 24 * t + 4) = 0) :
    GG (ws (ws (W_220 (w (452 + 24 * t + 1)) (V_221 t w) w) (452 + 24 * t + 4) 2) (452 + 24 * t + 3) (w 0)) ∧ Rel s (mset (mset (g_41 (s + 2) (w (452 + 24 * t + 1)) (V_221 t w) d) (s + 54) t 2) (s + 53) t (w 0)) (ws (ws (W_220 (w (452 + 24 * t + 1)) (V_221 t w) w) (452 + 24 * t + 4) 2) (452 + 24 * t + 3) (w 0)) := by
  obtain ⟨-, p1, p2, p3⟩ := placeIn hg h ht hw
  have gt := hg.2.2.2.1 t ht.1 ht.2
  have n7 := hg.1.1
  have n9 := hg.1.2.2.1
  generalize w (452 + 24 * t + 1) = o at *
  have go := hg.2.1 o gt.2.1.1 gt.2.1.2
  have gc := h.2.1.2 o gt.2.1.1 gt.2.1.2
  have hT := take41 (s := s) (o := o) (p := V_221 t w) (d := d) p1 (by rw [gc.2.2.2.2.2]; exact p2) (by rw [gc.2.2.2.2.2]; omega)
  obtain ⟨u1, u2, u3⟩ := take220 (o := o) (p := V_221 t w) (w := w) p1 (by omega) (by omega)
  refine leave1 hg h gt.2.1 ⟨p1, p2⟩ p3 ⟨?_, ?_, ?_, fun k a b => ?_, fun i e1 e2 e3 e4 => ?_⟩ hT rfl
  · rw [wsn (by omega), wsn (by omega)]; exact u1
  · rw [wsn (by omega), wse rfl]
  · rw [wse rfl]
  · rw [wsn (by omega), wsn (by omega)]
    rcases sg_r (V_221 t w) k with q | q
    · rw [q.1, u3 _ (by omega) (by omega)]
    · rw [q.1, u2 k q.2 b, show 12 + 68 * o + 7 + (k + 1) = 12 + 68 * o + 7 + k + 1 by omega]
  · rw [wsn e3, wsn e2, u3 i e1 (by omega)]
/-! ===== how many bits of sixteen are set ===== -/
def mk8 (c : Nat) : Nat → Nat
  | 0 => 0
  | k + 1 => 256 * mk8 c k + c
theorem land8 (a b : Nat) {s m : Nat} (hs : s < 256) (hm : m < 256) : (256 * a + s) &&& (256 * b + m) = 256 * (a &&& b) + (s &&& m) := by
  have h1 : ((256 * a + s) &&& (256 * b + m)) / 2 ^ 8 = a &&& b := by
    rw [Nat.and_div_two_pow]
    congr 1 <;> omega
  have h2 : ((256 * a + s) &&& (256 * b + m)) % 2 ^ 8 = s &&& m := by
    rw [Nat.and_mod_two_pow]
    congr 1 <;> omega
  omega
def pA (k n : Nat) : Nat := n - (n / 2 &&& mk8 85 k)
def pB (k n : Nat) : Nat := (n &&& mk8 51 k) + (n / 4 &&& mk8 51 k)
def pC (k n : Nat) : Nat := n + n / 16 &&& mk8 15 k
def sA (r : Nat) : Nat := r - (r / 2 &&& 85)
def sB (r : Nat) : Nat := (r &&& 51) + (r / 4 &&& 51)
def bc8 (r : Nat) : Nat := r % 2 + r / 2 % 2 + r / 4 % 2 + r / 8 % 2 + r / 16 % 2 + r / 32 % 2 + r / 64 % 2 + r / 128 % 2
theorem pkA : ∀ q : Fin 2, ∀ r : Fin 256, 128 * q.val + r.val / 2 &&& 85 = r.val / 2 &&& 85 := by decide +kernel
theorem pkB : ∀ q : Fin 4, ∀ r : Fin 256, 64 * q.val + r.val / 4 &&& 51 = r.val / 4 &&& 51 := by decide +kernel
theorem pkC : ∀ q : Fin 5, ∀ r : Fin 73, 16 * q.val + (r.val + r.val / 16) &&& 15 = r.val + r.val / 16 &&& 15 := by decide +kernel
theorem pkD : ∀ r : Fin 256, sB (sA r.val) ≤ 68 ∧ sB (sA r.val) % 16 ≤ 4 ∧ (sB (sA r.val) + sB (sA r.val) / 16 &&& 15) = bc8 r.val := by decide +kernel
theorem pA_s (k q : Nat) {r : Nat} (hr : r < 256) : pA (k + 1) (256 * q + r) = 256 * pA k q + sA r := by
  have e : (256 * q + r) / 2 = 256 * (q / 2) + (128 * (q % 2) + r / 2) := by omega
  have l1 : q / 2 &&& mk8 85 k ≤ q / 2 := Nat.and_le_left
  have l2 : r / 2 &&& 85 ≤ r / 2 := Nat.and_le_left
  have c := pkA ⟨q % 2, by omega⟩ ⟨r, hr⟩
  simp only at c
  unfold pA sA
  show 256 * q + r - ((256 * q + r) / 2 &&& 256 * mk8 85 k + 85) = _
  rw [e, land8 _ _ (by omega) (by decide), c]
  omega
theorem pB_s (k q : Nat) {r : Nat} (hr : r < 256) : pB (k + 1) (256 * q + r) = 256 * pB k q + sB r := by
  have e : (256 * q + r) / 4 = 256 * (q / 4) + (64 * (q % 4) + r / 4) := by omega
  have c := pkB ⟨q % 4, by omega⟩ ⟨r, hr⟩
  simp only at c
  unfold pB sB
  show (256 * q + r &&& 256 * mk8 51 k + 51) + ((256 * q + r) / 4 &&& 256 * mk8 51 k + 51) = _
  rw [e, land8 _ _ hr (by decide), land8 _ _ (by omega) (by decide), c]
  omega
theorem pC_s (k q : Nat) {r : Nat} (hr : r ≤ 68) (hq : q % 16 ≤ 4) : pC (k + 1) (256 * q + r) = 256 * pC k q + (r + r / 16 &&& 15) := by
  have e : 256 * q + r + (256 * q + r) / 16 = 256 * (q + q / 16) + (16 * (q % 16) + (r + r / 16)) := by omega
  have c := pkC ⟨q % 16, by omega⟩ ⟨r, by omega⟩
  simp only at c
  unfold pC
  show 256 * q + r + (256 * q + r) / 16 &&& 256 * mk8 15 k + 15 = _
  rw [e, land8 _ _ (by omega) (by decide), c]
def dig : Nat → Nat → Nat
  | 0, _ => 0
  | k + 1, n => 256 * dig k (n / 256) + bc8 (n % 256)
theorem pcDig : ∀ (k n : Nat), pB k (pA k n) % 16 ≤ 4 ∧ pC k (pB k (pA k n)) = dig k n
  | 0, n => by
    have e : ∀ x : Nat, x &&& mk8 51 0 = 0 := fun x => Nat.and_zero x
    have f : ∀ x : Nat, x &&& mk8 15 0 = 0 := fun x => Nat.and_zero x
    unfold pB pC
    rw [e, e, f]
    exact ⟨by decide, rfl⟩
  | k + 1, n => by
    have hr : n % 256 < 256 := Nat.mod_lt _ (by decide)
    have en : n = 256 * (n / 256) + n % 256 := by omega
    obtain ⟨i1, i2⟩ := pcDig k (n / 256)
    obtain ⟨d1, d2, d3⟩ := pkD ⟨n % 256, hr⟩
    simp only at d1 d2 d3
    have l : sA (n % 256) < 256 := by
      unfold sA
      omega
    have eA : pA (k + 1) n = 256 * pA k (n / 256) + sA (n % 256) := by
      have := pA_s k (n / 256) hr
      rwa [← en] at this
    rw [eA, pB_s _ _ l]
    refine ⟨by omega, ?_⟩
    rw [pC_s _ _ d1 i1, i2, d3]
    rfl
theorem bc8_le (r : Nat) : bc8 r ≤ 8 := by
  unfold bc8
  omega
theorem ndl (m : Nat) (a : Nat) (ha : a < 2147483648) (hm : m < 2147483648) : miand (a : Int) (m : Int) = ((a &&& m : Nat) : Int) := by
  unfold miand mI
  have e : (Int32.ofInt (a : Int) &&& Int32.ofInt (m : Int)).toBitVec.toNat = a &&& m := by
    rw [Int32.toBitVec_and, BitVec.toNat_and, n32 ha, n32 hm]
  rw [i32n (by rw [e]; exact Nat.lt_of_le_of_lt Nat.and_le_left ha), e]
theorem nsr (k : Nat) (hk : k < 32) (a : Nat) (ha : a < 2147483648) : miushr (a : Int) (k : Int) = ((a >>> k : Nat) : Int) := by
  unfold miushr mI
  have e : ((Int32.ofInt (a : Int)).toUInt32 >>> ((Int32.ofInt (k : Int)).toUInt32 &&& Int32.toUInt32 31)).toInt32.toBitVec.toNat = a >>> k := by
    show ((Int32.ofInt (a : Int)).toUInt32 >>> ((Int32.ofInt (k : Int)).toUInt32 &&& Int32.toUInt32 31)).toBitVec.toNat = a >>> k
    rw [UInt32.toBitVec_shiftRight]
    have e3 : (((Int32.ofInt (k : Int)).toUInt32 &&& Int32.toUInt32 31).toBitVec % 32).toNat = k := by
      have : ∀ k : Fin 32, (((Int32.ofInt ((k.val : Nat) : Int)).toUInt32 &&& Int32.toUInt32 31).toBitVec % 32).toNat = k.val := by decide +kernel
      exact this ⟨k, hk⟩
    show ((Int32.ofInt (a : Int)).toBitVec >>> ((((Int32.ofInt (k : Int)).toUInt32 &&& Int32.toUInt32 31).toBitVec % 32).toNat)).toNat = _
    rw [e3, BitVec.toNat_ushiftRight, n32 ha]
  rw [i32n (by rw [e]; exact Nat.lt_of_le_of_lt (Nat.shiftRight_le a k) ha), e]
def pcA (n : Nat) : Nat := n - ((n >>> 1) &&& 1431655765)
def pcB (n : Nat) : Nat := (pcA n &&& 858993459) + ((pcA n >>> 2) &&& 858993459)
def pcC (n : Nat) : Nat := (pcB n + (pcB n >>> 4)) &&& 252645135
def pcD (n : Nat) : Nat := pcC n + (pcC n >>> 8)
def pcN (n : Nat) : Nat := (pcD n + (pcD n >>> 16)) &&& 63
def bcN (n : Nat) : Nat := n % 2 + n / 2 % 2 + n / 4 % 2 + n / 8 % 2 + n / 16 % 2 + n / 32 % 2 + n / 64 % 2 + n / 128 % 2 + n / 256 % 2 + n / 512 % 2 + n / 1024 % 2 + n / 2048 % 2 + n / 4096 % 2 + n / 8192 % 2 + n / 16384 % 2 + n / 32768 % 2
theorem bc16 {n : Nat} (h : n < 65536) : bcN n = bc8 (n % 256) + bc8 (n / 256 % 256) := by
  have e : n / 256 % 256 = n / 256 := Nat.mod_eq_of_lt (by omega)
  have d : ∀ k, n / 256 / k = n / (256 * k) := fun k => Nat.div_div_eq_div_mul n 256 k
  have l : ∀ k m : Nat, k * m = 128 → n % 256 / k % 2 = n / k % 2 := fun k m hk => by
    have : 256 = k * (m * 2) := by rw [← Nat.mul_assoc, hk]
    rw [this, Nat.mod_mul_right_div_self, Nat.mod_mul_left_mod]
  have a : bc8 (n % 256) = n % 2 + n / 2 % 2 + n / 4 % 2 + n / 8 % 2 + n / 16 % 2 + n / 32 % 2 + n / 64 % 2 + n / 128 % 2 := by
    unfold bc8
    rw [l 2 64 rfl, l 4 32 rfl, l 8 16 rfl, l 16 8 rfl, l 32 4 rfl, l 64 2 rfl, l 128 1 rfl, show n % 256 % 2 = n % 2 by omega]
  have b : bc8 (n / 256) = n / 256 % 2 + n / 512 % 2 + n / 1024 % 2 + n / 2048 % 2 + n / 4096 % 2 + n / 8192 % 2 + n / 16384 % 2 + n / 32768 % 2 := by
    unfold bc8
    rw [d 2, d 4, d 8, d 16, d 32, d 64, d 128]
  rw [e, a, b]
  unfold bcN
  simp only [Nat.add_assoc]
theorem pc_all {n : Nat} (h : n < 65536) : pcN n = bcN n := by
  have e1 : pcA n = pA 4 n := by
    unfold pcA pA
    rw [Nat.shiftRight_eq_div_pow]
    rfl
  have e2 : pcB n = pB 4 (pA 4 n) := by
    unfold pcB pB
    rw [e1, Nat.shiftRight_eq_div_pow]
    rfl
  have e3 : pcC n = dig 4 n := by
    unfold pcC
    rw [e2, Nat.shiftRight_eq_div_pow, ← (pcDig 4 n).2]
    rfl
  have e4 : dig 4 n = bc8 (n % 256) + 256 * bc8 (n / 256 % 256) := by
    show 256 * (256 * (256 * (256 * 0 + bc8 (n / 256 / 256 / 256 % 256)) + bc8 (n / 256 / 256 % 256)) + bc8 (n / 256 % 256)) + bc8 (n % 256) = _
    rw [show n / 256 / 256 = 0 by omega]
    show 256 * (256 * (256 * (256 * 0 + 0) + 0) + bc8 (n / 256 % 256)) + bc8 (n % 256) = _
    omega
  have b0 := bc8_le (n % 256)
  have b1 := bc8_le (n / 256 % 256)
  rw [bc16 h]
  unfold pcN pcD
  rw [e3, e4, Nat.shiftRight_eq_div_pow, Nat.shiftRight_eq_div_pow, show (63 : Nat) = 2 ^ 6 - 1 by decide, Nat.and_two_pow_sub_one_eq_mod]
  generalize bc8 (n % 256) = x0 at *
  generalize bc8 (n / 256 % 256) = x1 at *
  rw [show x0 + 256 * x1 + (x0 + 256 * x1) / 2 ^ 8 = (x0 + x1) + 256 * x1 by omega, show (x0 + x1 + 256 * x1) / 2 ^ 16 = 0 by omega]
  omega
theorem v298_n {n : Nat} (h : n < 65536) (d : mD) : v_298 (n : Int) d = (pcN n : Int) := by
  have hl : (n >>> 1) &&& 1431655765 ≤ n := Nat.le_trans Nat.and_le_left (Nat.shiftRight_le n 1)
  have eA : (n : Int) - miand (miushr (n : Int) 1) 1431655765 = (pcA n : Int) := by
    have e1 := nsr 1 (by decide) n (by omega)
    have e2 := ndl 1431655765 (n >>> 1) (Nat.lt_of_le_of_lt (Nat.shiftRight_le n 1) (by omega)) (by decide)
    rw [show ((1 : Nat) : Int) = 1 from rfl] at e1
    rw [show ((1431655765 : Nat) : Int) = 1431655765 from rfl] at e2
    rw [e1, e2]
    unfold pcA
    omega
  have hA : pcA n < 65536 := by unfold pcA; omega
  have eB : miand (pcA n : Int) 858993459 + miand (miushr (pcA n : Int) 2) 858993459 = (pcB n : Int) := by
    have e1 := nsr 2 (by decide) (pcA n) (by omega)
    have e2 := ndl 858993459 (pcA n >>> 2) (Nat.lt_of_le_of_lt (Nat.shiftRight_le _ 2) (by omega)) (by decide)
    have e3 := ndl 858993459 (pcA n) (by omega) (by decide)
    rw [show ((2 : Nat) : Int) = 2 from rfl] at e1
    rw [show ((858993459 : Nat) : Int) = 858993459 from rfl] at e2 e3
    rw [e1, e2, e3]
    unfold pcB
    omega
  have hB : pcB n < 131072 := by
    have a := @Nat.and_le_left (pcA n) 858993459
    have b := Nat.le_trans (@Nat.and_le_left (pcA n >>> 2) 858993459) (Nat.shiftRight_le (pcA n) 2)
    unfold pcB
    omega
  have hs : pcB n >>> 4 ≤ pcB n := Nat.shiftRight_le _ _
  have eC : miand ((pcB n : Int) + miushr (pcB n : Int) 4) 252645135 = (pcC n : Int) := by
    have e1 := nsr 4 (by decide) (pcB n) (by omega)
    have e2 := ndl 252645135 (pcB n + pcB n >>> 4) (by omega) (by decide)
    rw [show ((4 : Nat) : Int) = 4 from rfl] at e1
    rw [show ((252645135 : Nat) : Int) = 252645135 from rfl, Int.natCast_add] at e2
    rw [e1, e2]
    rfl
  have hC : pcC n < 262144 := by
    have a := @Nat.and_le_left (pcB n + pcB n >>> 4) 252645135
    unfold pcC
    omega
  have hs8 : pcC n >>> 8 ≤ pcC n := Nat.shiftRight_le _ _
  have eD : (pcC n : Int) + miushr (pcC n : Int) 8 = (pcD n : Int) := by
    have e1 := nsr 8 (by decide) (pcC n) (by omega)
    rw [show ((8 : Nat) : Int) = 8 from rfl] at e1
    rw [e1]
    unfold pcD
    omega
  have hD : pcD n < 524288 := by unfold pcD; omega
  have hs16 : pcD n >>> 16 ≤ pcD n := Nat.shiftRight_le _ _
  unfold v_298
  rw [eA, eB, eC, eD]
  have e1 := nsr 16 (by decide) (pcD n) (by omega)
  have e2 := ndl 63 (pcD n + pcD n >>> 16) (by omega) (by decide)
  rw [show ((16 : Nat) : Int) = 16 from rfl] at e1
  rw [show ((63 : Nat) : Int) = 63 from rfl, Int.natCast_add] at e2
  rw [e1, e2]
  rfl
theorem ib_n {n : Nat} (h : n < 65536) (p : Nat) : ib (n : Int) p = decide (n / 2 ^ p % 2 = 1) := by
  unfold ib
  show (Int32.ofInt (n : Int)).toBitVec.toNat.testBit p = _
  rw [n32 (by omega), Nat.testBit_eq_decide_div_mod_eq]
theorem ibv {n : Nat} (h : n < 65536) (p : Nat) : (if ib (n : Int) p = true then (1 : Int) else 0) = ((n / 2 ^ p % 2 : Nat) : Int) := by
  rw [ib_n h]
  by_cases c : n / 2 ^ p % 2 = 1
  · rw [if_pos (by simp [c]), c]
    rfl
  · rw [if_neg (by simp [c])]
    have := Nat.mod_lt (n / 2 ^ p) (show 0 < 2 by decide)
    have : n / 2 ^ p % 2 = 0 := by omega
    rw [this]
    rfl
theorem v298_bits {W : Int} (h0 : 0 ≤ W) (h1 : W < 65536) (d : mD) : v_298 W d = csum (fun p => if ib W p.toNat = true then 1 else 0) 16 := by
  obtain ⟨n, rfl⟩ := Int.eq_ofNat_of_zero_le h0
  have h : n < 65536 := by omega
  rw [v298_n h, pc_all h]
  have e : csum (fun p => if ib (n : Int) p.toNat = true then 1 else 0) 16 = csum (fun p => ((n / 2 ^ p.toNat % 2 : Nat) : Int)) 16 := csum_congr (fun p a b => ibv h p.toNat)
  rw [e]
  simp only [csum]
  unfold bcN
  simp
theorem mior_rng {W p : Int} (h0 : 0 ≤ W) (h1 : W < 65536) (p0 : 0 ≤ p) (p1 : p < 16) : 0 ≤ mior W (mishl 1 p) ∧ mior W (mishl 1 p) < 65536 := by
  obtain ⟨n, rfl⟩ := Int.eq_ofNat_of_zero_le h0
  obtain ⟨k, rfl⟩ := Int.eq_ofNat_of_zero_le p0
  have e1 : mishl 1 (k : Int) = ((2 ^ k : Nat) : Int) := by
    have : ∀ k : Fin 16, mishl 1 ((k.val : Nat) : Int) = ((2 ^ k.val : Nat) : Int) := by decide +kernel
    exact this ⟨k, by omega⟩
  have hk : 2 ^ k < 65536 := by
    have : ∀ k : Fin 16, 2 ^ k.val < 65536 := by decide
    exact this ⟨k, by omega⟩
  rw [e1]
  unfold mior mI
  have e : (Int32.ofInt (n : Int) ||| Int32.ofInt ((2 ^ k : Nat) : Int)).toBitVec.toNat = n ||| 2 ^ k := by
    rw [Int32.toBitVec_or, BitVec.toNat_or, n32 (by omega), n32 (by omega)]
  have hb : n ||| 2 ^ k < 65536 := Nat.or_lt_two_pow (n := 16) (by omega) hk
  rw [i32n (by rw [e]; omega), e]
  omega
