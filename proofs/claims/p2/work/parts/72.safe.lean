/-! ===== the ranges of the class's cells ===== -/
def stB (s : Int) : Prop := s = 1 ∨ (66 ≤ s ∧ s ≤ 507 ∧ (s - 66) % 63 = 0) ∨ s = 580 ∨ s = 643 ∨ s = 706
def ofB (x : Int) : Prop := stB (x - 2)
def peB (x : Int) : Prop := stB (x - 10)
def tiB (x : Int) : Prop := stB (x - 49)
def toB (x : Int) : Prop := stB (x - 57)
def hsB (x : Int) : Prop := (16 ≤ x ∧ (∃ s p : Int, stB s ∧ 0 ≤ p ∧ p < 16 ∧ x = s + 17 + 2 * p)) ∨ x = 574
def txB (x : Int) : Prop := x = 572 ∨ x = 578
def reB (x : Int) : Prop := x = 577
def ldB (x : Int) : Prop := x = 576
def hiB (x : Int) : Prop := x = 64
def wbB (x : Int) : Prop := x = 0
-- what a cell is: its number in a state (the spare one's own: 63), or its place
def tcd (a : Int) : Nat := if a < 1 then 999 else if a < 64 then (a - 1).toNat else if a < 66 then a.toNat else if a < 570 then ((a - 66) % 63).toNat else if a < 580 then a.toNat else if a = 580 then 63 else if a < 769 then ((a - 580) % 63).toNat else a.toNat
def rg : Nat → Int → Int → Prop
  | 0, i, v => (i = 1 → 0 ≤ v ∧ v ≤ 99999) ∧ (i = 2 → 0 ≤ v ∧ v ≤ 999)
  | 1, _, v => 0 ≤ v ∧ v ≤ 99
  | 2, i, v => (i = 0 → 0 ≤ v ∧ v ≤ 6)
  | 3, _, v => 0 ≤ v ∧ v ≤ 1073741823
  | 4, _, v => 0 ≤ v ∧ v ≤ 4
  | 5, _, v => 0 ≤ v ∧ v ≤ 6
  | 6, _, v => 0 ≤ v ∧ v ≤ 20
  | 7, _, v => 0 ≤ v ∧ v ≤ 1
  | 8, _, v => 0 ≤ v ∧ v ≤ 16
  | 9, _, v => 0 ≤ v ∧ v ≤ 59
  | 10, i, v => (i = 0 → 0 ≤ v ∧ v ≤ 16)
  | 11, _, v => 0 ≤ v ∧ v ≤ 1073741823
  | 13, _, v => 0 ≤ v ∧ v ≤ 99
  | 14, _, v => 0 ≤ v ∧ v ≤ 3
  | 49, i, v => (i = 0 → 0 ≤ v ∧ v ≤ 60)
  | 50, _, v => 0 ≤ v ∧ v ≤ 15
  | 51, _, v => 0 ≤ v ∧ v ≤ 5
  | 52, _, v => 0 ≤ v ∧ v ≤ 999
  | 53, _, v => -1 ≤ v ∧ v ≤ 1199
  | 54, _, v => 0 ≤ v ∧ v ≤ 2
  | 55, _, v => 0 ≤ v ∧ v ≤ 2
  | 57, i, v => (i = 0 → 0 ≤ v ∧ v ≤ 200) ∧ (i = 5 → 0 ≤ v ∧ v ≤ 200)
  | 58, _, v => 0 ≤ v ∧ v ≤ 15
  | 59, _, v => 0 ≤ v ∧ v ≤ 59
  | 60, _, v => 0 ≤ v ∧ v ≤ 1300
  | 61, _, v => 0 ≤ v ∧ v ≤ 2
  | 62, _, v => 0 ≤ v ∧ v ≤ 199
  | 63, i, v => (i = 1 → 0 ≤ v ∧ v ≤ 99999) ∧ (i = 2 → 0 ≤ v ∧ v ≤ 1199)
  | 64, i, v => (i = 1 → 0 ≤ v ∧ v ≤ 7) ∧ (i = 2 → 0 ≤ v ∧ v ≤ 8)
  | 571, _, v => 0 ≤ v ∧ v ≤ 1
  | 572, i, v => (i = 1 → 0 ≤ v ∧ v ≤ 1000)
  | 573, _, v => -128 ≤ v ∧ v ≤ 127
  | 576, i, v => (i = 2 → 0 ≤ v ∧ v ≤ 6) ∧ (i = 3 → -1 ≤ v ∧ v ≤ 1000) ∧ (i = 4 → 0 ≤ v ∧ v ≤ 99999) ∧ (i = 5 → -1 ≤ v ∧ v ≤ 1073741823) ∧ (i = 6 → -1 ≤ v ∧ v ≤ 59)
  | 577, i, v => (i = 1 → 0 ≤ v ∧ v ≤ 4) ∧ (i = 2 → 0 ≤ v ∧ v ≤ 1000) ∧ (i = 3 → 0 ≤ v ∧ v ≤ 1000) ∧ (i = 4 → 0 ≤ v ∧ v ≤ 99999)
  | 578, i, v => (i = 1 → 0 ≤ v ∧ v ≤ 1000)
  | 579, _, v => -128 ≤ v ∧ v ≤ 127
  | _, _, _ => True
def Safe (d : mD) : Prop := ∀ a i, rg (tcd a) i (d a i)
theorem Safe.rd {d : mD} (h : Safe d) {a : Int} {k : Nat} (e : tcd a = k) (i : Int) : rg k i (d a i) := by
  have := h a i
  rwa [e] at this
theorem Safe.set {d : mD} (h : Safe d) {a i v : Int} {k : Nat} (e : tcd a = k) (hv : rg k i v) : Safe (mset d a i v) := by
  intro b j
  unfold mset
  split
  · rename_i c
    rw [c.1, c.2, e]
    exact hv
  · exact h b j
theorem Safe.copy {d : mD} (h : Safe d) {x y sp dp n : Int} {k : Nat} (ex : tcd x = k) (ey : tcd y = k) (hk : ∀ i j v, rg k i v → rg k j v) : Safe (mcopy d x sp y dp n) := by
  intro b j
  unfold mcopy
  split
  · rename_i c
    rw [c.1, ey]
    exact hk _ _ _ (h.rd ex _)
  · exact h b j
theorem Safe.fill {d : mD} (h : Safe d) {a v : Int} {k : Nat} (e : tcd a = k) (hv : ∀ i, rg k i v) : Safe (mfill d a v) := by
  intro b j
  unfold mfill
  split
  · rename_i c
    rw [c, e]
    exact hv j
  · exact h b j
theorem tcd_st {s k : Int} (hs : stB s) (h1 : 1 ≤ k) (h2 : k ≤ 62) : tcd (s + k) = k.toNat := by
  unfold stB at hs
  unfold tcd
  rcases hs with h | h | h | h | h <;> (repeat' split) <;> omega
theorem tcd_s0 {s : Int} (hs : stB s) (h : s ≠ 580) : tcd s = 0 := by
  unfold stB at hs
  unfold tcd
  rcases hs with h | h | h | h | h <;> (repeat' split) <;> omega
theorem tcd_s580 : tcd 580 = 63 := by decide
theorem stB.of {s : Int} (h : stB s) : ofB (s + 2) := by
  unfold ofB; rwa [show s + 2 - 2 = s by omega]
theorem stB.pe {s : Int} (h : stB s) : peB (s + 10) := by
  unfold peB; rwa [show s + 10 - 10 = s by omega]
theorem stB.ti {s : Int} (h : stB s) : tiB (s + 49) := by
  unfold tiB; rwa [show s + 49 - 49 = s by omega]
theorem stB.to {s : Int} (h : stB s) : toB (s + 57) := by
  unfold toB; rwa [show s + 57 - 57 = s by omega]
theorem stB.pos {s : Int} (h : stB s) : 1 ≤ s ∧ s ≤ 706 := by
  unfold stB at h; omega
theorem peB.hs {x i : Int} (h : peB x) (h0 : 0 ≤ i) (h1 : i < 16) : hsB (x + 6 + (1 + 2 * i)) :=
  Or.inl ⟨by have := stB.pos h; omega, x - 10, i, h, h0, h1, by omega⟩
theorem stB.far {x y : Int} (h : stB x) (k : stB y) : x = y ∨ x + 63 ≤ y ∨ y + 63 ≤ x := by
  unfold stB at h k; omega
theorem hiB.st {x i : Int} (h : hiB x) (h0 : 0 ≤ i) (h1 : i < 8) : stB (x + 1 + (1 + 63 * i)) := by
  unfold hiB at h; unfold stB; omega
theorem wbB.sv {x i : Int} (h : wbB x) (h0 : 0 ≤ i) (h1 : i < 2) : stB (x + 570 + (73 + 63 * i)) := by
  unfold wbB at h; unfold stB; omega
theorem wbB.nw {x : Int} (h : wbB x) : stB (x + 1) := by
  unfold wbB at h; unfold stB; omega
theorem wbB.sp {x : Int} (h : wbB x) : stB (x + 580) := by
  unfold wbB at h; unfold stB; omega
theorem wbB.hi {x : Int} (h : wbB x) : hiB (x + 64) := by
  unfold wbB at h; unfold hiB; omega
theorem wbB.ou {x : Int} (h : wbB x) : txB (x + 572) := by
  unfold wbB at h; unfold txB; omega
theorem wbB.lo {x : Int} (h : wbB x) : hsB (x + 574) := by
  unfold wbB at h; unfold hsB; omega
theorem wbB.ld {x : Int} (h : wbB x) : ldB (x + 576) := by
  unfold wbB at h; unfold ldB; omega
theorem wbB.tx {x : Int} (h : wbB x) : txB (x + 578) := by
  unfold wbB at h; unfold txB; omega
theorem ldB.re {x : Int} (h : ldB x) : reB (x + 1) := by
  unfold ldB at h; unfold reB; omega
theorem ldB.st {x : Int} (h : ldB x) : stB (x + 4) := by
  unfold ldB at h; unfold stB; omega
theorem reB.tx {x : Int} (h : reB x) : txB (x + 1) := by
  unfold reB at h; unfold txB; omega
theorem rg_hs {k : Nat} (h0 : 17 ≤ k) (h1 : k ≤ 48) (i v : Int) : rg k i v := by
  have h : k = 17 ∨ k = 18 ∨ k = 19 ∨ k = 20 ∨ k = 21 ∨ k = 22 ∨ k = 23 ∨ k = 24 ∨ k = 25 ∨ k = 26 ∨ k = 27 ∨ k = 28 ∨ k = 29 ∨ k = 30 ∨ k = 31 ∨ k = 32 ∨ k = 33 ∨ k = 34 ∨ k = 35 ∨ k = 36 ∨ k = 37 ∨ k = 38 ∨ k = 39 ∨ k = 40 ∨ k = 41 ∨ k = 42 ∨ k = 43 ∨ k = 44 ∨ k = 45 ∨ k = 46 ∨ k = 47 ∨ k = 48 := by omega
  rcases h with h | h | h | h | h | h | h | h | h | h | h | h | h | h | h | h | h | h | h | h | h | h | h | h | h | h | h | h | h | h | h | h <;> subst h <;> trivial
theorem tcd_hs {x : Int} (h : hsB x) (i v : Int) : rg (tcd (x + 1)) i v := by
  rcases h with ⟨-, s, p, hs, h0, h1, rfl⟩ | rfl
  · have e := tcd_st hs (k := 18 + 2 * p) (by omega) (by omega)
    rw [show s + 17 + 2 * p + 1 = s + (18 + 2 * p) by omega, e]
    exact rg_hs (by omega) (by omega) i v
  · exact trivial
theorem s_1_1 {d : mD} {x i v : Int} (hS : Safe d) (hx : hsB x) : Safe (mset d (x + 1) i v) := hS.set rfl (tcd_hs hx i v)
theorem f_1_1 {d : mD} {x v : Int} (hS : Safe d) (hx : hsB x) : Safe (mfill d (x + 1) v) := hS.fill rfl (fun i => tcd_hs hx i v)
theorem c_1_1 {d : mD} {x y sp dp n : Int} (hS : Safe d) (hy : hsB y) : Safe (mcopy d (x + 1) sp (y + 1) dp n) := by
  intro b j
  unfold mcopy
  split
  · rename_i c
    rw [c.1]
    exact tcd_hs hy _ _
  · exact hS b j
theorem cd_3_0 {x : Int} (hx : ofB x) : tcd x = 2 := by
  have := tcd_st (k := 2) hx (by omega) (by omega)
  rwa [show x - 2 + 2 = x by omega] at this
theorem cd_3_1 {x : Int} (hx : ofB x) : tcd (x + 1) = 3 := by
  have := tcd_st (k := 3) hx (by omega) (by omega)
  rwa [show x - 2 + 3 = x + 1 by omega] at this
theorem cd_3_2 {x : Int} (hx : ofB x) : tcd (x + 2) = 4 := by
  have := tcd_st (k := 4) hx (by omega) (by omega)
  rwa [show x - 2 + 4 = x + 2 by omega] at this
theorem cd_3_3 {x : Int} (hx : ofB x) : tcd (x + 3) = 5 := by
  have := tcd_st (k := 5) hx (by omega) (by omega)
  rwa [show x - 2 + 5 = x + 3 by omega] at this
theorem cd_3_4 {x : Int} (hx : ofB x) : tcd (x + 4) = 6 := by
  have := tcd_st (k := 6) hx (by omega) (by omega)
  rwa [show x - 2 + 6 = x + 4 by omega] at this
theorem cd_3_5 {x : Int} (hx : ofB x) : tcd (x + 5) = 7 := by
  have := tcd_st (k := 7) hx (by omega) (by omega)
  rwa [show x - 2 + 7 = x + 5 by omega] at this
theorem cd_3_6 {x : Int} (hx : ofB x) : tcd (x + 6) = 8 := by
  have := tcd_st (k := 8) hx (by omega) (by omega)
  rwa [show x - 2 + 8 = x + 6 by omega] at this
theorem cd_3_7 {x : Int} (hx : ofB x) : tcd (x + 7) = 9 := by
  have := tcd_st (k := 9) hx (by omega) (by omega)
  rwa [show x - 2 + 9 = x + 7 by omega] at this
theorem cd_4_0 {x : Int} (hx : peB x) : tcd x = 10 := by
  have := tcd_st (k := 10) hx (by omega) (by omega)
  rwa [show x - 10 + 10 = x by omega] at this
theorem cd_4_1 {x : Int} (hx : peB x) : tcd (x + 1) = 11 := by
  have := tcd_st (k := 11) hx (by omega) (by omega)
  rwa [show x - 10 + 11 = x + 1 by omega] at this
theorem cd_4_2 {x : Int} (hx : peB x) : tcd (x + 2) = 12 := by
  have := tcd_st (k := 12) hx (by omega) (by omega)
  rwa [show x - 10 + 12 = x + 2 by omega] at this
theorem cd_4_3 {x : Int} (hx : peB x) : tcd (x + 3) = 13 := by
  have := tcd_st (k := 13) hx (by omega) (by omega)
  rwa [show x - 10 + 13 = x + 3 by omega] at this
theorem cd_4_4 {x : Int} (hx : peB x) : tcd (x + 4) = 14 := by
  have := tcd_st (k := 14) hx (by omega) (by omega)
  rwa [show x - 10 + 14 = x + 4 by omega] at this
theorem cd_4_5 {x : Int} (hx : peB x) : tcd (x + 5) = 15 := by
  have := tcd_st (k := 15) hx (by omega) (by omega)
  rwa [show x - 10 + 15 = x + 5 by omega] at this
theorem cd_8_0 {x : Int} (hx : tiB x) : tcd x = 49 := by
  have := tcd_st (k := 49) hx (by omega) (by omega)
  rwa [show x - 49 + 49 = x by omega] at this
theorem cd_8_1 {x : Int} (hx : tiB x) : tcd (x + 1) = 50 := by
  have := tcd_st (k := 50) hx (by omega) (by omega)
  rwa [show x - 49 + 50 = x + 1 by omega] at this
theorem cd_8_2 {x : Int} (hx : tiB x) : tcd (x + 2) = 51 := by
  have := tcd_st (k := 51) hx (by omega) (by omega)
  rwa [show x - 49 + 51 = x + 2 by omega] at this
theorem cd_8_3 {x : Int} (hx : tiB x) : tcd (x + 3) = 52 := by
  have := tcd_st (k := 52) hx (by omega) (by omega)
  rwa [show x - 49 + 52 = x + 3 by omega] at this
theorem cd_8_4 {x : Int} (hx : tiB x) : tcd (x + 4) = 53 := by
  have := tcd_st (k := 53) hx (by omega) (by omega)
  rwa [show x - 49 + 53 = x + 4 by omega] at this
theorem cd_8_5 {x : Int} (hx : tiB x) : tcd (x + 5) = 54 := by
  have := tcd_st (k := 54) hx (by omega) (by omega)
  rwa [show x - 49 + 54 = x + 5 by omega] at this
theorem cd_8_6 {x : Int} (hx : tiB x) : tcd (x + 6) = 55 := by
  have := tcd_st (k := 55) hx (by omega) (by omega)
  rwa [show x - 49 + 55 = x + 6 by omega] at this
theorem cd_8_7 {x : Int} (hx : tiB x) : tcd (x + 7) = 56 := by
  have := tcd_st (k := 56) hx (by omega) (by omega)
  rwa [show x - 49 + 56 = x + 7 by omega] at this
theorem cd_9_0 {x : Int} (hx : toB x) : tcd x = 57 := by
  have := tcd_st (k := 57) hx (by omega) (by omega)
  rwa [show x - 57 + 57 = x by omega] at this
theorem cd_9_1 {x : Int} (hx : toB x) : tcd (x + 1) = 58 := by
  have := tcd_st (k := 58) hx (by omega) (by omega)
  rwa [show x - 57 + 58 = x + 1 by omega] at this
theorem cd_9_2 {x : Int} (hx : toB x) : tcd (x + 2) = 59 := by
  have := tcd_st (k := 59) hx (by omega) (by omega)
  rwa [show x - 57 + 59 = x + 2 by omega] at this
theorem cd_9_3 {x : Int} (hx : toB x) : tcd (x + 3) = 60 := by
  have := tcd_st (k := 60) hx (by omega) (by omega)
  rwa [show x - 57 + 60 = x + 3 by omega] at this
theorem cd_9_4 {x : Int} (hx : toB x) : tcd (x + 4) = 61 := by
  have := tcd_st (k := 61) hx (by omega) (by omega)
  rwa [show x - 57 + 61 = x + 4 by omega] at this
theorem cd_9_5 {x : Int} (hx : toB x) : tcd (x + 5) = 62 := by
  have := tcd_st (k := 62) hx (by omega) (by omega)
  rwa [show x - 57 + 62 = x + 5 by omega] at this
theorem cd_6_1 {x : Int} (hx : stB x) : tcd (x + 1) = 1 := tcd_st hx (by omega) (by omega)
theorem cd_5_0 {x : Int} (hx : reB x) : tcd x = 577 := by
  rw [show x = 577 from hx]; rfl
theorem cd_2_0 {x : Int} (hx : ldB x) : tcd x = 576 := by
  rw [show x = 576 from hx]; rfl
theorem cd_0_0 {x : Int} (hx : hiB x) : tcd x = 64 := by
  rw [show x = 64 from hx]; rfl
theorem cd_10_571 {x : Int} (hx : wbB x) : tcd (x + 571) = 571 := by
  rw [show x = 0 from hx]; rfl
theorem r_3_f0 {d : mD} {x : Int} (hS : Safe d) (hx : ofB x) : 0 ≤ d x 0 ∧ d x 0 ≤ 6 := (hS.rd (cd_3_0 hx) 0) rfl
theorem s_3_f0 {d : mD} {x v : Int} (hS : Safe d) (hx : ofB x) (hv : 0 ≤ v ∧ v ≤ 6) : Safe (mset d x 0 v) := hS.set (cd_3_0 hx) (fun _ => hv)
theorem r_3_1 {d : mD} {x : Int} (hS : Safe d) (hx : ofB x) (i : Int) : 0 ≤ d (x + 1) i ∧ d (x + 1) i ≤ 1073741823 := hS.rd (cd_3_1 hx) i
theorem s_3_1 {d : mD} {x i v : Int} (hS : Safe d) (hx : ofB x) (hv : 0 ≤ v ∧ v ≤ 1073741823) : Safe (mset d (x + 1) i v) := hS.set (cd_3_1 hx) hv
theorem c_3_1 {d : mD} {x y sp dp n : Int} (hS : Safe d) (hx : ofB x) (hy : ofB y) : Safe (mcopy d (x + 1) sp (y + 1) dp n) := hS.copy (cd_3_1 hx) (cd_3_1 hy) (fun _ _ _ h => h)
theorem f_3_1 {d : mD} {x v : Int} (hS : Safe d) (hx : ofB x) (hv : 0 ≤ v ∧ v ≤ 1073741823) : Safe (mfill d (x + 1) v) := hS.fill (cd_3_1 hx) (fun _ => hv)
theorem r_3_2 {d : mD} {x : Int} (hS : Safe d) (hx : ofB x) (i : Int) : 0 ≤ d (x + 2) i ∧ d (x + 2) i ≤ 4 := hS.rd (cd_3_2 hx) i
theorem s_3_2 {d : mD} {x i v : Int} (hS : Safe d) (hx : ofB x) (hv : 0 ≤ v ∧ v ≤ 4) : Safe (mset d (x + 2) i v) := hS.set (cd_3_2 hx) hv
theorem c_3_2 {d : mD} {x y sp dp n : Int} (hS : Safe d) (hx : ofB x) (hy : ofB y) : Safe (mcopy d (x + 2) sp (y + 2) dp n) := hS.copy (cd_3_2 hx) (cd_3_2 hy) (fun _ _ _ h => h)
theorem f_3_2 {d : mD} {x v : Int} (hS : Safe d) (hx : ofB x) (hv : 0 ≤ v ∧ v ≤ 4) : Safe (mfill d (x + 2) v) := hS.fill (cd_3_2 hx) (fun _ => hv)
theorem r_3_3 {d : mD} {x : Int} (hS : Safe d) (hx : ofB x) (i : Int) : 0 ≤ d (x + 3) i ∧ d (x + 3) i ≤ 6 := hS.rd (cd_3_3 hx) i
theorem s_3_3 {d : mD} {x i v : Int} (hS : Safe d) (hx : ofB x) (hv : 0 ≤ v ∧ v ≤ 6) : Safe (mset d (x + 3) i v) := hS.set (cd_3_3 hx) hv
theorem c_3_3 {d : mD} {x y sp dp n : Int} (hS : Safe d) (hx : ofB x) (hy : ofB y) : Safe (mcopy d (x + 3) sp (y + 3) dp n) := hS.copy (cd_3_3 hx) (cd_3_3 hy) (fun _ _ _ h => h)
theorem f_3_3 {d : mD} {x v : Int} (hS : Safe d) (hx : ofB x) (hv : 0 ≤ v ∧ v ≤ 6) : Safe (mfill d (x + 3) v) := hS.fill (cd_3_3 hx) (fun _ => hv)
theorem r_3_4 {d : mD} {x : Int} (hS : Safe d) (hx : ofB x) (i : Int) : 0 ≤ d (x + 4) i ∧ d (x + 4) i ≤ 20 := hS.rd (cd_3_4 hx) i
theorem s_3_4 {d : mD} {x i v : Int} (hS : Safe d) (hx : ofB x) (hv : 0 ≤ v ∧ v ≤ 20) : Safe (mset d (x + 4) i v) := hS.set (cd_3_4 hx) hv
theorem c_3_4 {d : mD} {x y sp dp n : Int} (hS : Safe d) (hx : ofB x) (hy : ofB y) : Safe (mcopy d (x + 4) sp (y + 4) dp n) := hS.copy (cd_3_4 hx) (cd_3_4 hy) (fun _ _ _ h => h)
theorem f_3_4 {d : mD} {x v : Int} (hS : Safe d) (hx : ofB x) (hv : 0 ≤ v ∧ v ≤ 20) : Safe (mfill d (x + 4) v) := hS.fill (cd_3_4 hx) (fun _ => hv)
theorem r_3_5 {d : mD} {x : Int} (hS : Safe d) (hx : ofB x) (i : Int) : 0 ≤ d (x + 5) i ∧ d (x + 5) i ≤ 1 := hS.rd (cd_3_5 hx) i
theorem s_3_5 {d : mD} {x i v : Int} (hS : Safe d) (hx : ofB x) (hv : 0 ≤ v ∧ v ≤ 1) : Safe (mset d (x + 5) i v) := hS.set (cd_3_5 hx) hv
theorem c_3_5 {d : mD} {x y sp dp n : Int} (hS : Safe d) (hx : ofB x) (hy : ofB y) : Safe (mcopy d (x + 5) sp (y + 5) dp n) := hS.copy (cd_3_5 hx) (cd_3_5 hy) (fun _ _ _ h => h)
theorem f_3_5 {d : mD} {x v : Int} (hS : Safe d) (hx : ofB x) (hv : 0 ≤ v ∧ v ≤ 1) : Safe (mfill d (x + 5) v) := hS.fill (cd_3_5 hx) (fun _ => hv)
theorem r_3_6 {d : mD} {x : Int} (hS : Safe d) (hx : ofB x) (i : Int) : 0 ≤ d (x + 6) i ∧ d (x + 6) i ≤ 16 := hS.rd (cd_3_6 hx) i
theorem s_3_6 {d : mD} {x i v : Int} (hS : Safe d) (hx : ofB x) (hv : 0 ≤ v ∧ v ≤ 16) : Safe (mset d (x + 6) i v) := hS.set (cd_3_6 hx) hv
theorem c_3_6 {d : mD} {x y sp dp n : Int} (hS : Safe d) (hx : ofB x) (hy : ofB y) : Safe (mcopy d (x + 6) sp (y + 6) dp n) := hS.copy (cd_3_6 hx) (cd_3_6 hy) (fun _ _ _ h => h)
theorem f_3_6 {d : mD} {x v : Int} (hS : Safe d) (hx : ofB x) (hv : 0 ≤ v ∧ v ≤ 16) : Safe (mfill d (x + 6) v) := hS.fill (cd_3_6 hx) (fun _ => hv)
theorem r_3_7 {d : mD} {x : Int} (hS : Safe d) (hx : ofB x) (i : Int) : 0 ≤ d (x + 7) i ∧ d (x + 7) i ≤ 59 := hS.rd (cd_3_7 hx) i
theorem s_3_7 {d : mD} {x i v : Int} (hS : Safe d) (hx : ofB x) (hv : 0 ≤ v ∧ v ≤ 59) : Safe (mset d (x + 7) i v) := hS.set (cd_3_7 hx) hv
theorem c_3_7 {d : mD} {x y sp dp n : Int} (hS : Safe d) (hx : ofB x) (hy : ofB y) : Safe (mcopy d (x + 7) sp (y + 7) dp n) := hS.copy (cd_3_7 hx) (cd_3_7 hy) (fun _ _ _ h => h)
theorem f_3_7 {d : mD} {x v : Int} (hS : Safe d) (hx : ofB x) (hv : 0 ≤ v ∧ v ≤ 59) : Safe (mfill d (x + 7) v) := hS.fill (cd_3_7 hx) (fun _ => hv)
theorem r_4_f0 {d : mD} {x : Int} (hS : Safe d) (hx : peB x) : 0 ≤ d x 0 ∧ d x 0 ≤ 16 := (hS.rd (cd_4_0 hx) 0) rfl
theorem s_4_f0 {d : mD} {x v : Int} (hS : Safe d) (hx : peB x) (hv : 0 ≤ v ∧ v ≤ 16) : Safe (mset d x 0 v) := hS.set (cd_4_0 hx) (fun _ => hv)
theorem r_4_1 {d : mD} {x : Int} (hS : Safe d) (hx : peB x) (i : Int) : 0 ≤ d (x + 1) i ∧ d (x + 1) i ≤ 1073741823 := hS.rd (cd_4_1 hx) i
theorem s_4_1 {d : mD} {x i v : Int} (hS : Safe d) (hx : peB x) (hv : 0 ≤ v ∧ v ≤ 1073741823) : Safe (mset d (x + 1) i v) := hS.set (cd_4_1 hx) hv
theorem c_4_1 {d : mD} {x y sp dp n : Int} (hS : Safe d) (hx : peB x) (hy : peB y) : Safe (mcopy d (x + 1) sp (y + 1) dp n) := hS.copy (cd_4_1 hx) (cd_4_1 hy) (fun _ _ _ h => h)
theorem f_4_1 {d : mD} {x v : Int} (hS : Safe d) (hx : peB x) (hv : 0 ≤ v ∧ v ≤ 1073741823) : Safe (mfill d (x + 1) v) := hS.fill (cd_4_1 hx) (fun _ => hv)
theorem s_4_2 {d : mD} {x i v : Int} (hS : Safe d) (hx : peB x) : Safe (mset d (x + 2) i v) := hS.set (cd_4_2 hx) trivial
theorem c_4_2 {d : mD} {x y sp dp n : Int} (hS : Safe d) (hx : peB x) (hy : peB y) : Safe (mcopy d (x + 2) sp (y + 2) dp n) := hS.copy (cd_4_2 hx) (cd_4_2 hy) (fun _ _ _ h => h)
theorem f_4_2 {d : mD} {x v : Int} (hS : Safe d) (hx : peB x) : Safe (mfill d (x + 2) v) := hS.fill (cd_4_2 hx) (fun _ => trivial)
theorem r_4_3 {d : mD} {x : Int} (hS : Safe d) (hx : peB x) (i : Int) : 0 ≤ d (x + 3) i ∧ d (x + 3) i ≤ 99 := hS.rd (cd_4_3 hx) i
theorem s_4_3 {d : mD} {x i v : Int} (hS : Safe d) (hx : peB x) (hv : 0 ≤ v ∧ v ≤ 99) : Safe (mset d (x + 3) i v) := hS.set (cd_4_3 hx) hv
theorem c_4_3 {d : mD} {x y sp dp n : Int} (hS : Safe d) (hx : peB x) (hy : peB y) : Safe (mcopy d (x + 3) sp (y + 3) dp n) := hS.copy (cd_4_3 hx) (cd_4_3 hy) (fun _ _ _ h => h)
theorem f_4_3 {d : mD} {x v : Int} (hS : Safe d) (hx : peB x) (hv : 0 ≤ v ∧ v ≤ 99) : Safe (mfill d (x + 3) v) := hS.fill (cd_4_3 hx) (fun _ => hv)
theorem r_4_4 {d : mD} {x : Int} (hS : Safe d) (hx : peB x) (i : Int) : 0 ≤ d (x + 4) i ∧ d (x + 4) i ≤ 3 := hS.rd (cd_4_4 hx) i
theorem s_4_4 {d : mD} {x i v : Int} (hS : Safe d) (hx : peB x) (hv : 0 ≤ v ∧ v ≤ 3) : Safe (mset d (x + 4) i v) := hS.set (cd_4_4 hx) hv
theorem c_4_4 {d : mD} {x y sp dp n : Int} (hS : Safe d) (hx : peB x) (hy : peB y) : Safe (mcopy d (x + 4) sp (y + 4) dp n) := hS.copy (cd_4_4 hx) (cd_4_4 hy) (fun _ _ _ h => h)
theorem f_4_4 {d : mD} {x v : Int} (hS : Safe d) (hx : peB x) (hv : 0 ≤ v ∧ v ≤ 3) : Safe (mfill d (x + 4) v) := hS.fill (cd_4_4 hx) (fun _ => hv)
theorem s_4_5 {d : mD} {x i v : Int} (hS : Safe d) (hx : peB x) : Safe (mset d (x + 5) i v) := hS.set (cd_4_5 hx) trivial
theorem c_4_5 {d : mD} {x y sp dp n : Int} (hS : Safe d) (hx : peB x) (hy : peB y) : Safe (mcopy d (x + 5) sp (y + 5) dp n) := hS.copy (cd_4_5 hx) (cd_4_5 hy) (fun _ _ _ h => h)
theorem f_4_5 {d : mD} {x v : Int} (hS : Safe d) (hx : peB x) : Safe (mfill d (x + 5) v) := hS.fill (cd_4_5 hx) (fun _ => trivial)
theorem r_8_f0 {d : mD} {x : Int} (hS : Safe d) (hx : tiB x) : 0 ≤ d x 0 ∧ d x 0 ≤ 60 := (hS.rd (cd_8_0 hx) 0) rfl
theorem s_8_f0 {d : mD} {x v : Int} (hS : Safe d) (hx : tiB x) (hv : 0 ≤ v ∧ v ≤ 60) : Safe (mset d x 0 v) := hS.set (cd_8_0 hx) (fun _ => hv)
theorem r_8_1 {d : mD} {x : Int} (hS : Safe d) (hx : tiB x) (i : Int) : 0 ≤ d (x + 1) i ∧ d (x + 1) i ≤ 15 := hS.rd (cd_8_1 hx) i
theorem s_8_1 {d : mD} {x i v : Int} (hS : Safe d) (hx : tiB x) (hv : 0 ≤ v ∧ v ≤ 15) : Safe (mset d (x + 1) i v) := hS.set (cd_8_1 hx) hv
theorem c_8_1 {d : mD} {x y sp dp n : Int} (hS : Safe d) (hx : tiB x) (hy : tiB y) : Safe (mcopy d (x + 1) sp (y + 1) dp n) := hS.copy (cd_8_1 hx) (cd_8_1 hy) (fun _ _ _ h => h)
theorem f_8_1 {d : mD} {x v : Int} (hS : Safe d) (hx : tiB x) (hv : 0 ≤ v ∧ v ≤ 15) : Safe (mfill d (x + 1) v) := hS.fill (cd_8_1 hx) (fun _ => hv)
theorem r_8_2 {d : mD} {x : Int} (hS : Safe d) (hx : tiB x) (i : Int) : 0 ≤ d (x + 2) i ∧ d (x + 2) i ≤ 5 := hS.rd (cd_8_2 hx) i
theorem s_8_2 {d : mD} {x i v : Int} (hS : Safe d) (hx : tiB x) (hv : 0 ≤ v ∧ v ≤ 5) : Safe (mset d (x + 2) i v) := hS.set (cd_8_2 hx) hv
theorem c_8_2 {d : mD} {x y sp dp n : Int} (hS : Safe d) (hx : tiB x) (hy : tiB y) : Safe (mcopy d (x + 2) sp (y + 2) dp n) := hS.copy (cd_8_2 hx) (cd_8_2 hy) (fun _ _ _ h => h)
theorem f_8_2 {d : mD} {x v : Int} (hS : Safe d) (hx : tiB x) (hv : 0 ≤ v ∧ v ≤ 5) : Safe (mfill d (x + 2) v) := hS.fill (cd_8_2 hx) (fun _ => hv)
theorem r_8_3 {d : mD} {x : Int} (hS : Safe d) (hx : tiB x) (i : Int) : 0 ≤ d (x + 3) i ∧ d (x + 3) i ≤ 999 := hS.rd (cd_8_3 hx) i
theorem s_8_3 {d : mD} {x i v : Int} (hS : Safe d) (hx : tiB x) (hv : 0 ≤ v ∧ v ≤ 999) : Safe (mset d (x + 3) i v) := hS.set (cd_8_3 hx) hv
theorem c_8_3 {d : mD} {x y sp dp n : Int} (hS : Safe d) (hx : tiB x) (hy : tiB y) : Safe (mcopy d (x + 3) sp (y + 3) dp n) := hS.copy (cd_8_3 hx) (cd_8_3 hy) (fun _ _ _ h => h)
theorem f_8_3 {d : mD} {x v : Int} (hS : Safe d) (hx : tiB x) (hv : 0 ≤ v ∧ v ≤ 999) : Safe (mfill d (x + 3) v) := hS.fill (cd_8_3 hx) (fun _ => hv)
theorem r_8_4 {d : mD} {x : Int} (hS : Safe d) (hx : tiB x) (i : Int) : -1 ≤ d (x + 4) i ∧ d (x + 4) i ≤ 1199 := hS.rd (cd_8_4 hx) i
theorem s_8_4 {d : mD} {x i v : Int} (hS : Safe d) (hx : tiB x) (hv : -1 ≤ v ∧ v ≤ 1199) : Safe (mset d (x + 4) i v) := hS.set (cd_8_4 hx) hv
theorem c_8_4 {d : mD} {x y sp dp n : Int} (hS : Safe d) (hx : tiB x) (hy : tiB y) : Safe (mcopy d (x + 4) sp (y + 4) dp n) := hS.copy (cd_8_4 hx) (cd_8_4 hy) (fun _ _ _ h => h)
theorem f_8_4 {d : mD} {x v : Int} (hS : Safe d) (hx : tiB x) (hv : -1 ≤ v ∧ v ≤ 1199) : Safe (mfill d (x + 4) v) := hS.fill (cd_8_4 hx) (fun _ => hv)
theorem r_8_5 {d : mD} {x : Int} (hS : Safe d) (hx : tiB x) (i : Int) : 0 ≤ d (x + 5) i ∧ d (x + 5) i ≤ 2 := hS.rd (cd_8_5 hx) i
theorem s_8_5 {d : mD} {x i v : Int} (hS : Safe d) (hx : tiB x) (hv : 0 ≤ v ∧ v ≤ 2) : Safe (mset d (x + 5) i v) := hS.set (cd_8_5 hx) hv
theorem c_8_5 {d : mD} {x y sp dp n : Int} (hS : Safe d) (hx : tiB x) (hy : tiB y) : Safe (mcopy d (x + 5) sp (y + 5) dp n) := hS.copy (cd_8_5 hx) (cd_8_5 hy) (fun _ _ _ h => h)
theorem f_8_5 {d : mD} {x v : Int} (hS : Safe d) (hx : tiB x) (hv : 0 ≤ v ∧ v ≤ 2) : Safe (mfill d (x + 5) v) := hS.fill (cd_8_5 hx) (fun _ => hv)
theorem r_8_6 {d : mD} {x : Int} (hS : Safe d) (hx : tiB x) (i : Int) : 0 ≤ d (x + 6) i ∧ d (x + 6) i ≤ 2 := hS.rd (cd_8_6 hx) i
theorem s_8_6 {d : mD} {x i v : Int} (hS : Safe d) (hx : tiB x) (hv : 0 ≤ v ∧ v ≤ 2) : Safe (mset d (x + 6) i v) := hS.set (cd_8_6 hx) hv
theorem c_8_6 {d : mD} {x y sp dp n : Int} (hS : Safe d) (hx : tiB x) (hy : tiB y) : Safe (mcopy d (x + 6) sp (y + 6) dp n) := hS.copy (cd_8_6 hx) (cd_8_6 hy) (fun _ _ _ h => h)
theorem f_8_6 {d : mD} {x v : Int} (hS : Safe d) (hx : tiB x) (hv : 0 ≤ v ∧ v ≤ 2) : Safe (mfill d (x + 6) v) := hS.fill (cd_8_6 hx) (fun _ => hv)
theorem s_8_7 {d : mD} {x i v : Int} (hS : Safe d) (hx : tiB x) : Safe (mset d (x + 7) i v) := hS.set (cd_8_7 hx) trivial
theorem c_8_7 {d : mD} {x y sp dp n : Int} (hS : Safe d) (hx : tiB x) (hy : tiB y) : Safe (mcopy d (x + 7) sp (y + 7) dp n) := hS.copy (cd_8_7 hx) (cd_8_7 hy) (fun _ _ _ h => h)
theorem f_8_7 {d : mD} {x v : Int} (hS : Safe d) (hx : tiB x) : Safe (mfill d (x + 7) v) := hS.fill (cd_8_7 hx) (fun _ => trivial)
theorem r_9_f0 {d : mD} {x : Int} (hS : Safe d) (hx : toB x) : 0 ≤ d x 0 ∧ d x 0 ≤ 200 := (hS.rd (cd_9_0 hx) 0).1 rfl
theorem s_9_f0 {d : mD} {x v : Int} (hS : Safe d) (hx : toB x) (hv : 0 ≤ v ∧ v ≤ 200) : Safe (mset d x 0 v) := hS.set (cd_9_0 hx) (⟨fun _ => hv, fun h => absurd h (by decide)⟩)
theorem r_9_f5 {d : mD} {x : Int} (hS : Safe d) (hx : toB x) : 0 ≤ d x 5 ∧ d x 5 ≤ 200 := (hS.rd (cd_9_0 hx) 5).2 rfl
theorem s_9_f5 {d : mD} {x v : Int} (hS : Safe d) (hx : toB x) (hv : 0 ≤ v ∧ v ≤ 200) : Safe (mset d x 5 v) := hS.set (cd_9_0 hx) (⟨fun h => absurd h (by decide), fun _ => hv⟩)
theorem r_9_1 {d : mD} {x : Int} (hS : Safe d) (hx : toB x) (i : Int) : 0 ≤ d (x + 1) i ∧ d (x + 1) i ≤ 15 := hS.rd (cd_9_1 hx) i
theorem s_9_1 {d : mD} {x i v : Int} (hS : Safe d) (hx : toB x) (hv : 0 ≤ v ∧ v ≤ 15) : Safe (mset d (x + 1) i v) := hS.set (cd_9_1 hx) hv
theorem c_9_1 {d : mD} {x y sp dp n : Int} (hS : Safe d) (hx : toB x) (hy : toB y) : Safe (mcopy d (x + 1) sp (y + 1) dp n) := hS.copy (cd_9_1 hx) (cd_9_1 hy) (fun _ _ _ h => h)
theorem f_9_1 {d : mD} {x v : Int} (hS : Safe d) (hx : toB x) (hv : 0 ≤ v ∧ v ≤ 15) : Safe (mfill d (x + 1) v) := hS.fill (cd_9_1 hx) (fun _ => hv)
theorem r_9_2 {d : mD} {x : Int} (hS : Safe d) (hx : toB x) (i : Int) : 0 ≤ d (x + 2) i ∧ d (x + 2) i ≤ 59 := hS.rd (cd_9_2 hx) i
theorem s_9_2 {d : mD} {x i v : Int} (hS : Safe d) (hx : toB x) (hv : 0 ≤ v ∧ v ≤ 59) : Safe (mset d (x + 2) i v) := hS.set (cd_9_2 hx) hv
theorem c_9_2 {d : mD} {x y sp dp n : Int} (hS : Safe d) (hx : toB x) (hy : toB y) : Safe (mcopy d (x + 2) sp (y + 2) dp n) := hS.copy (cd_9_2 hx) (cd_9_2 hy) (fun _ _ _ h => h)
theorem f_9_2 {d : mD} {x v : Int} (hS : Safe d) (hx : toB x) (hv : 0 ≤ v ∧ v ≤ 59) : Safe (mfill d (x + 2) v) := hS.fill (cd_9_2 hx) (fun _ => hv)
theorem r_9_3 {d : mD} {x : Int} (hS : Safe d) (hx : toB x) (i : Int) : 0 ≤ d (x + 3) i ∧ d (x + 3) i ≤ 1300 := hS.rd (cd_9_3 hx) i
theorem s_9_3 {d : mD} {x i v : Int} (hS : Safe d) (hx : toB x) (hv : 0 ≤ v ∧ v ≤ 1300) : Safe (mset d (x + 3) i v) := hS.set (cd_9_3 hx) hv
theorem c_9_3 {d : mD} {x y sp dp n : Int} (hS : Safe d) (hx : toB x) (hy : toB y) : Safe (mcopy d (x + 3) sp (y + 3) dp n) := hS.copy (cd_9_3 hx) (cd_9_3 hy) (fun _ _ _ h => h)
theorem f_9_3 {d : mD} {x v : Int} (hS : Safe d) (hx : toB x) (hv : 0 ≤ v ∧ v ≤ 1300) : Safe (mfill d (x + 3) v) := hS.fill (cd_9_3 hx) (fun _ => hv)
theorem r_9_4 {d : mD} {x : Int} (hS : Safe d) (hx : toB x) (i : Int) : 0 ≤ d (x + 4) i ∧ d (x + 4) i ≤ 2 := hS.rd (cd_9_4 hx) i
theorem s_9_4 {d : mD} {x i v : Int} (hS : Safe d) (hx : toB x) (hv : 0 ≤ v ∧ v ≤ 2) : Safe (mset d (x + 4) i v) := hS.set (cd_9_4 hx) hv
theorem c_9_4 {d : mD} {x y sp dp n : Int} (hS : Safe d) (hx : toB x) (hy : toB y) : Safe (mcopy d (x + 4) sp (y + 4) dp n) := hS.copy (cd_9_4 hx) (cd_9_4 hy) (fun _ _ _ h => h)
theorem f_9_4 {d : mD} {x v : Int} (hS : Safe d) (hx : toB x) (hv : 0 ≤ v ∧ v ≤ 2) : Safe (mfill d (x + 4) v) := hS.fill (cd_9_4 hx) (fun _ => hv)
theorem r_9_5 {d : mD} {x : Int} (hS : Safe d) (hx : toB x) (i : Int) : 0 ≤ d (x + 5) i ∧ d (x + 5) i ≤ 199 := hS.rd (cd_9_5 hx) i
theorem s_9_5 {d : mD} {x i v : Int} (hS : Safe d) (hx : toB x) (hv : 0 ≤ v ∧ v ≤ 199) : Safe (mset d (x + 5) i v) := hS.set (cd_9_5 hx) hv
theorem c_9_5 {d : mD} {x y sp dp n : Int} (hS : Safe d) (hx : toB x) (hy : toB y) : Safe (mcopy d (x + 5) sp (y + 5) dp n) := hS.copy (cd_9_5 hx) (cd_9_5 hy) (fun _ _ _ h => h)
theorem f_9_5 {d : mD} {x v : Int} (hS : Safe d) (hx : toB x) (hv : 0 ≤ v ∧ v ≤ 199) : Safe (mfill d (x + 5) v) := hS.fill (cd_9_5 hx) (fun _ => hv)
theorem r_6_1 {d : mD} {x : Int} (hS : Safe d) (hx : stB x) (i : Int) : 0 ≤ d (x + 1) i ∧ d (x + 1) i ≤ 99 := hS.rd (cd_6_1 hx) i
theorem s_6_1 {d : mD} {x i v : Int} (hS : Safe d) (hx : stB x) (hv : 0 ≤ v ∧ v ≤ 99) : Safe (mset d (x + 1) i v) := hS.set (cd_6_1 hx) hv
theorem c_6_1 {d : mD} {x y sp dp n : Int} (hS : Safe d) (hx : stB x) (hy : stB y) : Safe (mcopy d (x + 1) sp (y + 1) dp n) := hS.copy (cd_6_1 hx) (cd_6_1 hy) (fun _ _ _ h => h)
theorem f_6_1 {d : mD} {x v : Int} (hS : Safe d) (hx : stB x) (hv : 0 ≤ v ∧ v ≤ 99) : Safe (mfill d (x + 1) v) := hS.fill (cd_6_1 hx) (fun _ => hv)
theorem r_5_f1 {d : mD} {x : Int} (hS : Safe d) (hx : reB x) : 0 ≤ d x 1 ∧ d x 1 ≤ 4 := (hS.rd (cd_5_0 hx) 1).1 rfl
theorem s_5_f1 {d : mD} {x v : Int} (hS : Safe d) (hx : reB x) (hv : 0 ≤ v ∧ v ≤ 4) : Safe (mset d x 1 v) := hS.set (cd_5_0 hx) (⟨fun _ => hv, fun h => absurd h (by decide), fun h => absurd h (by decide), fun h => absurd h (by decide)⟩)
theorem r_5_f2 {d : mD} {x : Int} (hS : Safe d) (hx : reB x) : 0 ≤ d x 2 ∧ d x 2 ≤ 1000 := (hS.rd (cd_5_0 hx) 2).2.1 rfl
theorem s_5_f2 {d : mD} {x v : Int} (hS : Safe d) (hx : reB x) (hv : 0 ≤ v ∧ v ≤ 1000) : Safe (mset d x 2 v) := hS.set (cd_5_0 hx) (⟨fun h => absurd h (by decide), fun _ => hv, fun h => absurd h (by decide), fun h => absurd h (by decide)⟩)
theorem r_5_f3 {d : mD} {x : Int} (hS : Safe d) (hx : reB x) : 0 ≤ d x 3 ∧ d x 3 ≤ 1000 := (hS.rd (cd_5_0 hx) 3).2.2.1 rfl
theorem s_5_f3 {d : mD} {x v : Int} (hS : Safe d) (hx : reB x) (hv : 0 ≤ v ∧ v ≤ 1000) : Safe (mset d x 3 v) := hS.set (cd_5_0 hx) (⟨fun h => absurd h (by decide), fun h => absurd h (by decide), fun _ => hv, fun h => absurd h (by decide)⟩)
theorem r_5_f4 {d : mD} {x : Int} (hS : Safe d) (hx : reB x) : 0 ≤ d x 4 ∧ d x 4 ≤ 99999 := (hS.rd (cd_5_0 hx) 4).2.2.2 rfl
theorem s_5_f4 {d : mD} {x v : Int} (hS : Safe d) (hx : reB x) (hv : 0 ≤ v ∧ v ≤ 99999) : Safe (mset d x 4 v) := hS.set (cd_5_0 hx) (⟨fun h => absurd h (by decide), fun h => absurd h (by decide), fun h => absurd h (by decide), fun _ => hv⟩)
theorem r_2_f2 {d : mD} {x : Int} (hS : Safe d) (hx : ldB x) : 0 ≤ d x 2 ∧ d x 2 ≤ 6 := (hS.rd (cd_2_0 hx) 2).1 rfl
theorem s_2_f2 {d : mD} {x v : Int} (hS : Safe d) (hx : ldB x) (hv : 0 ≤ v ∧ v ≤ 6) : Safe (mset d x 2 v) := hS.set (cd_2_0 hx) (⟨fun _ => hv, fun h => absurd h (by decide), fun h => absurd h (by decide), fun h => absurd h (by decide), fun h => absurd h (by decide)⟩)
theorem r_2_f3 {d : mD} {x : Int} (hS : Safe d) (hx : ldB x) : -1 ≤ d x 3 ∧ d x 3 ≤ 1000 := (hS.rd (cd_2_0 hx) 3).2.1 rfl
theorem s_2_f3 {d : mD} {x v : Int} (hS : Safe d) (hx : ldB x) (hv : -1 ≤ v ∧ v ≤ 1000) : Safe (mset d x 3 v) := hS.set (cd_2_0 hx) (⟨fun h => absurd h (by decide), fun _ => hv, fun h => absurd h (by decide), fun h => absurd h (by decide), fun h => absurd h (by decide)⟩)
theorem r_2_f4 {d : mD} {x : Int} (hS : Safe d) (hx : ldB x) : 0 ≤ d x 4 ∧ d x 4 ≤ 99999 := (hS.rd (cd_2_0 hx) 4).2.2.1 rfl
theorem s_2_f4 {d : mD} {x v : Int} (hS : Safe d) (hx : ldB x) (hv : 0 ≤ v ∧ v ≤ 99999) : Safe (mset d x 4 v) := hS.set (cd_2_0 hx) (⟨fun h => absurd h (by decide), fun h => absurd h (by decide), fun _ => hv, fun h => absurd h (by decide), fun h => absurd h (by decide)⟩)
theorem r_2_f5 {d : mD} {x : Int} (hS : Safe d) (hx : ldB x) : -1 ≤ d x 5 ∧ d x 5 ≤ 1073741823 := (hS.rd (cd_2_0 hx) 5).2.2.2.1 rfl
theorem s_2_f5 {d : mD} {x v : Int} (hS : Safe d) (hx : ldB x) (hv : -1 ≤ v ∧ v ≤ 1073741823) : Safe (mset d x 5 v) := hS.set (cd_2_0 hx) (⟨fun h => absurd h (by decide), fun h => absurd h (by decide), fun h => absurd h (by decide), fun _ => hv, fun h => absurd h (by decide)⟩)
theorem r_2_f6 {d : mD} {x : Int} (hS : Safe d) (hx : ldB x) : -1 ≤ d x 6 ∧ d x 6 ≤ 59 := (hS.rd (cd_2_0 hx) 6).2.2.2.2 rfl
theorem s_2_f6 {d : mD} {x v : Int} (hS : Safe d) (hx : ldB x) (hv : -1 ≤ v ∧ v ≤ 59) : Safe (mset d x 6 v) := hS.set (cd_2_0 hx) (⟨fun h => absurd h (by decide), fun h => absurd h (by decide), fun h => absurd h (by decide), fun h => absurd h (by decide), fun _ => hv⟩)
theorem r_0_f1 {d : mD} {x : Int} (hS : Safe d) (hx : hiB x) : 0 ≤ d x 1 ∧ d x 1 ≤ 7 := (hS.rd (cd_0_0 hx) 1).1 rfl
theorem s_0_f1 {d : mD} {x v : Int} (hS : Safe d) (hx : hiB x) (hv : 0 ≤ v ∧ v ≤ 7) : Safe (mset d x 1 v) := hS.set (cd_0_0 hx) (⟨fun _ => hv, fun h => absurd h (by decide)⟩)
theorem r_0_f2 {d : mD} {x : Int} (hS : Safe d) (hx : hiB x) : 0 ≤ d x 2 ∧ d x 2 ≤ 8 := (hS.rd (cd_0_0 hx) 2).2 rfl
theorem s_0_f2 {d : mD} {x v : Int} (hS : Safe d) (hx : hiB x) (hv : 0 ≤ v ∧ v ≤ 8) : Safe (mset d x 2 v) := hS.set (cd_0_0 hx) (⟨fun h => absurd h (by decide), fun _ => hv⟩)
theorem r_10_571 {d : mD} {x : Int} (hS : Safe d) (hx : wbB x) (i : Int) : 0 ≤ d (x + 571) i ∧ d (x + 571) i ≤ 1 := hS.rd (cd_10_571 hx) i
theorem s_10_571 {d : mD} {x i v : Int} (hS : Safe d) (hx : wbB x) (hv : 0 ≤ v ∧ v ≤ 1) : Safe (mset d (x + 571) i v) := hS.set (cd_10_571 hx) hv
theorem c_10_571 {d : mD} {x y sp dp n : Int} (hS : Safe d) (hx : wbB x) (hy : wbB y) : Safe (mcopy d (x + 571) sp (y + 571) dp n) := hS.copy (cd_10_571 hx) (cd_10_571 hy) (fun _ _ _ h => h)
theorem f_10_571 {d : mD} {x v : Int} (hS : Safe d) (hx : wbB x) (hv : 0 ≤ v ∧ v ≤ 1) : Safe (mfill d (x + 571) v) := hS.fill (cd_10_571 hx) (fun _ => hv)
theorem r_6_f1 {d : mD} {x : Int} (hS : Safe d) (hx : stB x) : 0 ≤ d x 1 ∧ d x 1 ≤ 99999 := by
  by_cases h : x = 580
  · subst h; exact (hS.rd tcd_s580 1).1 rfl
  · exact (hS.rd (tcd_s0 hx h) 1).1 rfl
theorem r_6_f2 {d : mD} {x : Int} (hS : Safe d) (hx : stB x) : 0 ≤ d x 2 ∧ d x 2 ≤ 1199 ∧ (x = 580 ∨ d x 2 ≤ 999) := by
  by_cases h : x = 580
  · subst h; have := (hS.rd tcd_s580 2).2 rfl; omega
  · have := (hS.rd (tcd_s0 hx h) 2).2 rfl; omega
theorem s_6_f1 {d : mD} {x v : Int} (hS : Safe d) (hx : stB x) (hv : 0 ≤ v ∧ v ≤ 99999) : Safe (mset d x 1 v) := by
  by_cases h : x = 580
  · subst h; exact hS.set tcd_s580 ⟨fun _ => hv, fun h => absurd h (by decide)⟩
  · exact hS.set (tcd_s0 hx h) ⟨fun _ => hv, fun h => absurd h (by decide)⟩
theorem s_6_f2 {d : mD} {x v : Int} (hS : Safe d) (hx : stB x) (hv : 0 ≤ v ∧ v ≤ 1199 ∧ (x = 580 ∨ v ≤ 999)) : Safe (mset d x 2 v) := by
  by_cases h : x = 580
  · subst h; exact hS.set tcd_s580 ⟨fun h => absurd h (by decide), fun _ => ⟨hv.1, hv.2.1⟩⟩
  · exact hS.set (tcd_s0 hx h) ⟨fun h => absurd h (by decide), fun _ => ⟨hv.1, hv.2.2.resolve_left h⟩⟩
theorem r_7_f1 {d : mD} {x : Int} (hS : Safe d) (hx : txB x) : 0 ≤ d x 1 ∧ d x 1 ≤ 1000 := by
  rcases hx with rfl | rfl
  · exact (hS.rd (a := 572) (k := 572) rfl 1) rfl
  · exact (hS.rd (a := 578) (k := 578) rfl 1) rfl
theorem s_7_f1 {d : mD} {x v : Int} (hS : Safe d) (hx : txB x) (hv : 0 ≤ v ∧ v ≤ 1000) : Safe (mset d x 1 v) := by
  rcases hx with rfl | rfl
  · exact hS.set (k := 572) rfl (fun _ => hv)
  · exact hS.set (k := 578) rfl (fun _ => hv)
theorem r_7_1 {d : mD} {x : Int} (hS : Safe d) (hx : txB x) (i : Int) : -128 ≤ d (x + 1) i ∧ d (x + 1) i ≤ 127 := by
  rcases hx with rfl | rfl
  · exact hS.rd (a := 572 + 1) (k := 573) rfl i
  · exact hS.rd (a := 578 + 1) (k := 579) rfl i
theorem s_7_1 {d : mD} {x i v : Int} (hS : Safe d) (hx : txB x) (hv : -128 ≤ v ∧ v ≤ 127) : Safe (mset d (x + 1) i v) := by
  rcases hx with rfl | rfl
  · exact hS.set (k := 573) rfl hv
  · exact hS.set (k := 579) rfl hv
theorem s_11_any {d : mD} {a i v : Int} (hS : Safe d) (ha : 769 ≤ a) (ha' : a ≤ 778) : Safe (mset d a i v) := by
  have h : tcd a = a.toNat := by unfold tcd; (repeat' split) <;> omega
  refine hS.set h ?_
  have h : a = 769 ∨ a = 770 ∨ a = 771 ∨ a = 772 ∨ a = 773 ∨ a = 774 ∨ a = 775 ∨ a = 776 ∨ a = 777 ∨ a = 778 := by omega
  rcases h with h | h | h | h | h | h | h | h | h | h <;> subst h <;> trivial
-- what the machine's words give
theorem mI_inR (f : Int32 → Int32 → Int32) (x y : Int) : mInR (mI f x y) := ⟨Int32.le_toInt _, Int32.toInt_le _⟩
theorem mJ_inL (f : Int64 → Int64 → Int64) (x y : Int) : mInL (mJ f x y) := ⟨Int64.le_toInt _, Int64.toInt_le _⟩
theorem miand_r (x m : Int) (h0 : 0 ≤ m) (h1 : m < 2147483648) : 0 ≤ miand x m ∧ miand x m ≤ m := by
  obtain ⟨n, rfl⟩ := Int.eq_ofNat_of_zero_le h0
  have e : miand x (n : Int) = (((Int32.ofInt x).toBitVec.toNat &&& n : Nat) : Int) := by
    show (Int32.ofInt x &&& Int32.ofInt (n : Int)).toBitVec.toInt = _
    rw [Int32.toBitVec_and, BitVec.toInt_and]
    have hn : (Int32.ofInt (n : Int)).toBitVec.toNat = n := by
      show (BitVec.ofInt 32 (n : Int)).toNat = n
      rw [BitVec.toNat_ofInt]
      omega
    rw [hn]
    have hl : (Int32.ofInt x).toBitVec.toNat &&& n ≤ n := Nat.and_le_right
    rw [Int.bmod_eq_of_le] <;> omega
  have hl : (Int32.ofInt x).toBitVec.toNat &&& n ≤ n := Nat.and_le_right
  rw [e]
  omega
def mfl (d : mD) (a v n : Int) : mD := fun b j => if b = a ∧ 0 ≤ j ∧ j < n then v else d b j
theorem mfl_ne {d : mD} {a v n b : Int} (h : b ≠ a) : mfl d a v n b = d b := by
  unfold mfl; exact funext (fun j => if_neg (fun c => h c.1))
theorem Safe.fl {d : mD} (h : Safe d) {a v n : Int} (hv : ∀ i, rg (tcd a) i v) : Safe (mfl d a v n) := by
  intro b j
  unfold mfl
  split
  · rename_i c
    rw [c.1]
    exact hv j
  · exact h b j
theorem mfl_s (d : mD) (a v : Int) {n : Int} (h : 0 ≤ n) : mset (mfl d a v n) a n v = mfl d a v (n + 1) := by
  funext b j
  unfold mset mfl
  by_cases hb : b = a
  · subst hb
    by_cases hj : j = n
    · subst hj
      rw [if_pos ⟨rfl, rfl⟩, if_pos ⟨rfl, h, by omega⟩]
    · rw [if_neg (fun c => hj c.2)]
      by_cases hr : 0 ≤ j ∧ j < n
      · rw [if_pos ⟨rfl, hr⟩, if_pos ⟨rfl, hr.1, by omega⟩]
      · rw [if_neg (fun c => hr c.2), if_neg (fun c => hr ⟨c.2.1, by omega⟩)]
  · rw [if_neg (fun c => hb c.1), if_neg (fun c => hb c.1), if_neg (fun c => hb c.1)]
theorem mfl_0 (d : mD) (a v : Int) : mfl d a v 0 = d := by
  funext b j
  unfold mfl
  exact if_neg (fun c => by omega)
theorem hus_r {b t r : Int} (hb : 1 ≤ b ∧ b ≤ 6) (ht : 0 ≤ t) (hr : 1 ≤ r ∧ r ≤ 17) : 1 ≤ (t / b + r) * b - t ∧ (t / b + r) * b - t ≤ 102 := by
  obtain ⟨h0, h1⟩ := hb
  have h : b = 1 ∨ b = 2 ∨ b = 3 ∨ b = 4 ∨ b = 5 ∨ b = 6 := by omega
  rcases h with h | h | h | h | h | h <;> subst h <;> omega
theorem mdiv_r {x y : Int} (hx : 0 ≤ x) (hy : 0 < y) : 0 ≤ x / y ∧ x / y ≤ x := ⟨Int.ediv_nonneg hx (Int.le_of_lt hy), Int.ediv_le_self y hx⟩
theorem lin_r {b t h w : Int} (hb : 1 ≤ b) (ht : 0 ≤ t ∧ t ≤ 1199) (hh : 0 ≤ h ∧ h ≤ 200) (hw : 0 ≤ w ∧ w ≤ 4) : 0 ≤ ((t + h) / b - t / b) * w ∧ ((t + h) / b - t / b) * w ≤ 6000 := by
  have h1 := mdiv_r (x := t + h) (y := b) (by omega) (by omega)
  have h2 := mdiv_r (x := t) (y := b) (by omega) (by omega)
  have h3 : t / b ≤ (t + h) / b := Int.ediv_le_ediv (by omega) (by omega)
  obtain ⟨w0, w1⟩ := hw
  have h4 : w = 0 ∨ w = 1 ∨ w = 2 ∨ w = 3 ∨ w = 4 := by omega
  rcases h4 with h | h | h | h | h <;> subst h <;> omega
theorem mul_r {a b : Int} (ha : -200 ≤ a ∧ a ≤ 200) (hb : 0 ≤ b ∧ b ≤ 99) : -19800 ≤ a * b ∧ a * b ≤ 19800 := by
  have h1 : -200 * b ≤ a * b := Int.mul_le_mul_of_nonneg_right ha.1 hb.1
  have h2 : a * b ≤ 200 * b := Int.mul_le_mul_of_nonneg_right ha.2 hb.1
  omega
theorem dd_ok {a b : Int} (hb : 1 ≤ b ∧ b ≤ 2147483647) : vf_n64 (FP.ddiv (mbit (mi2d a)) (mbit (mi2d b))) := by
  have e : ∀ x, mbit (mi2d x) = FP.i2d (Int32.ofInt x) := fun x => by
    unfold mbit mi2d mof
    rw [Int.toNat_natCast, UInt64.ofNat_toNat]
  rw [e, e]
  have hn : Int32.ofInt b ≠ 0 := fun h => by
    have h1 := congrArg Int32.toInt h
    rw [Int32.toInt_ofInt_of_le (by omega) (by omega)] at h1
    have h2 : (0 : Int32).toInt = 0 := by decide
    omega
  have h := FP.Core.ddiv_out (a := FP.i2d (Int32.ofInt a)) (b := FP.i2d (Int32.ofInt b)) (FP.Core.DFin.notNaN (FP.Core.i2d_fin _)) (FP.Core.i2d_fin _) (fun z => FP.Core.i2d_ne_zero hn ((FP.Core.zero_bits2 _).mp z))
  have h2 : ¬ 9218868437227405312 < (FP.ddiv (FP.i2d (Int32.ofInt a)) (FP.i2d (Int32.ofInt b))).toNat % 2 ^ 63 := fun c => by
    have h3 := (FP.Core.isNaN_bits _).mpr c
    exact Bool.false_ne_true (h.symm.trans h3)
  unfold vf_n64
  rw [UInt64.le_iff_toNat_le, UInt64.toNat_and]
  have e3 : (0x7fffffffffffffff : UInt64).toNat = 2 ^ 63 - 1 := by decide
  have e4 : (0x7ff0000000000000 : UInt64).toNat = 9218868437227405312 := by decide
  rw [e3, e4, Nat.and_two_pow_sub_one_eq_mod]
  exact Nat.le_of_not_lt h2
def EOK (E : mO × tW) : Prop := E.1.1 0 = 5 ∧ E.1.1 1 = 5 ∧ (E.1.2 0 0 = 0 ∧ E.1.2 0 1 = 0 ∧ E.1.2 0 2 = 1 ∧ E.1.2 0 3 = 1 ∧ E.1.2 0 4 = 1) ∧ (E.1.2 1 0 = 9 ∧ E.1.2 1 1 = 3 ∧ E.1.2 1 2 = 9 ∧ E.1.2 1 3 = 20 ∧ E.1.2 1 4 = 99)
theorem EOK.rd {E : mO × tW} (h : EOK E) {i : Int} (hi : 0 ≤ i ∧ i ≤ 4) : 0 ≤ E.1.2 0 i ∧ E.1.2 0 i ≤ 1 ∧ 1 ≤ E.1.2 1 i ∧ E.1.2 1 i ≤ 99 := by
  obtain ⟨-, -, h1, h2⟩ := h
  have h : i = 0 ∨ i = 1 ∨ i = 2 ∨ i = 3 ∨ i = 4 := by omega
  rcases h with h | h | h | h | h <;> subst h <;> omega
theorem mset_eq {d : mD} {a i v : Int} : mset d a i v a i = v := by
  unfold mset; exact if_pos ⟨rfl, rfl⟩
theorem mset_ni {d : mD} {a i v b j : Int} (h : j ≠ i) : mset d a i v b j = d b j := by
  unfold mset; exact if_neg (fun c => h c.2)
theorem mcmp_r (x y : Int) : -1 ≤ mcmp x y ∧ mcmp x y ≤ 1 := by
  unfold mcmp; split <;> (try split) <;> omega
theorem mmax_r (x y : Int) : (mmax x y = x ∧ y ≤ x) ∨ (mmax x y = y ∧ x ≤ y) := by
  unfold mmax; split <;> omega
theorem mmin_r (x y : Int) : (mmin x y = x ∧ x ≤ y) ∨ (mmin x y = y ∧ y ≤ x) := by
  unfold mmin; split <;> omega
theorem mi2b_r (x : Int) : -128 ≤ mi2b x ∧ mi2b x ≤ 127 := by
  unfold mi2b
  rw [Int8.toInt_toInt32]
  exact ⟨Int8.le_toInt _, Int8.toInt_le _⟩
theorem mmod_r {x y : Int} (hx : 0 ≤ x) (hy : 0 < y) : 0 ≤ x % y ∧ x % y < y := ⟨Int.emod_nonneg x (by omega), Int.emod_lt_of_pos x hy⟩
