/-! ===== the ranges of the class's cells ===== -/
def stB (s : Int) : Prop := s = 1 ∨ (66 ≤ s ∧ s ≤ 507 ∧ (s - 66) % 63 = 0) ∨ s = 580 ∨ s = 643 ∨ s = 706
def ofB (x : Int) : Prop := stB (x - 2)
def peB (x : Int) : Prop := stB (x - 10)
def tiB (x : Int) : Prop := stB (x - 49)
def toB (x : Int) : Prop := stB (x - 57)
def hsB (x : Int) : Prop := (16 ≤ x ∧ (∃ s p : Int, stB s ∧ 0 ≤ p ∧ p < 16 ∧ x = s + 17 + 2 * p)) ∨ x = 574
def txB (x : Int) : Prop := x = 572 ∨ x = 578
def reB (x : Int) : Prop := x = 577
def ldB (x : Int) : Prop := x = 576
def hiB (x : Int) : Prop := x = 64
def wbB (x : Int) : Prop := x = 0
def mdB (x : Int) : Prop := x = 769
-- what a cell is: its number in a state (the spare one's own: 63), or its place
def tcd (a : Int) : Nat := if a < 1 then 999 else if a < 64 then (a - 1).toNat else if a < 66 then a.toNat else if a < 570 then ((a - 66) % 63).toNat else if a < 580 then a.toNat else if a = 580 then 63 else if a < 769 then ((a - 580) % 63).toNat else a.toNat
-- a row of the reference: what may stand at place i
def wk (i : Int) : Nat := if i < 0 then 99 else if i < 12 then i.toNat else if i < 420 then (if (i - 12) % 68 < 7 then (20 + (i - 12) % 68).toNat else 27) else if i < 452 then (30 + i % 2).toNat else if i < 1916 then (if (i - 452) % 24 < 8 then (40 + (i - 452) % 24).toNat else 48) else if i < 2916 then (50 + (i - 1916) % 5).toNat else if i < 3116 then 60 else 99
def rk : Nat → Int → Prop
  | 0, v => 0 ≤ v ∧ v ≤ 1200
  | 1, v => 0 ≤ v ∧ v ≤ 99999
  | 2, v => 0 ≤ v ∧ v ≤ 99
  | 3, v => 0 ≤ v ∧ v ≤ 3
  | 4, v => 0 ≤ v ∧ v ≤ 99
  | 5, v => 0 ≤ v ∧ v ≤ 99
  | 6, v => 0 ≤ v ∧ v ≤ 99
  | 7, v => 0 ≤ v ∧ v ≤ 6
  | 8, v => 0 ≤ v ∧ v ≤ 16
  | 9, v => 0 ≤ v ∧ v ≤ 61
  | 10, v => 0 ≤ v ∧ v ≤ 200
  | 11, v => 0 ≤ v ∧ v ≤ 200
  | 20, v => 0 ≤ v ∧ v ≤ 387420488
  | 21, v => 0 ≤ v ∧ v ≤ 4
  | 22, v => 0 ≤ v ∧ v ≤ 6
  | 23, v => 0 ≤ v ∧ v ≤ 20
  | 24, v => 0 ≤ v ∧ v ≤ 1
  | 25, v => 0 ≤ v ∧ v ≤ 61
  | 27, v => 0 ≤ v ∧ v ≤ 60
  | 30, v => 0 ≤ v ∧ v ≤ 387420488
  | 40, v => 0 ≤ v ∧ v ≤ 15
  | 41, v => 0 ≤ v ∧ v ≤ 5
  | 42, v => 0 ≤ v ∧ v ≤ 1200
  | 43, v => -1 ≤ v ∧ v ≤ 1200
  | 44, v => 0 ≤ v ∧ v ≤ 2
  | 45, v => 0 ≤ v ∧ v ≤ 1
  | 46, v => 0 ≤ v ∧ v ≤ 1
  | 47, v => 0 ≤ v ∧ v ≤ 1000
  | 48, v => 0 ≤ v ∧ v ≤ 1201
  | 50, v => 0 ≤ v ∧ v ≤ 15
  | 51, v => 0 ≤ v ∧ v ≤ 60
  | 52, v => 0 ≤ v ∧ v ≤ 1300
  | 53, v => 0 ≤ v ∧ v ≤ 2
  | 54, v => 0 ≤ v ∧ v ≤ 1200
  | 60, v => 0 ≤ v ∧ v ≤ 199
  | _, _ => True
def rgW (i v : Int) : Prop := rk (wk i) v
theorem rgW_at {i v : Int} {n : Nat} (e : wk i = n) (h : rgW i v) : rk n v := by
  unfold rgW at h; rwa [e] at h
theorem rgW_of {i v : Int} {n : Nat} (e : wk i = n) (h : rk n v) : rgW i v := by
  unfold rgW; rwa [e]
theorem wk_o {k f i : Int} {n : Nat} (hk : 0 ≤ k ∧ k ≤ 5) (hf : 0 ≤ f ∧ f ≤ 6) (hn : (n : Int) = 20 + f) (he : i = 12 + 68 * k + f) : wk i = n := by
  have h1 : (i - 12) % 68 = f := by omega
  unfold wk
  rw [if_neg (by omega), if_neg (by omega), if_pos (by omega), h1, if_pos (by omega)]
  omega
theorem wk_q {k e i : Int} (hk : 0 ≤ k ∧ k ≤ 5) (hf : 0 ≤ e ∧ e ≤ 60) (he : i = 12 + 68 * k + 7 + e) : wk i = 27 := by
  have h1 : (i - 12) % 68 = 7 + e := by omega
  unfold wk
  rw [if_neg (by omega), if_neg (by omega), if_pos (by omega), h1, if_neg (by omega)]
theorem wk_p {k f i : Int} {n : Nat} (hk : 0 ≤ k ∧ k ≤ 15) (hf : 0 ≤ f ∧ f ≤ 1) (hn : (n : Int) = 30 + f) (he : i = 420 + 2 * k + f) : wk i = n := by
  have h1 : i % 2 = f := by omega
  unfold wk
  rw [if_neg (by omega), if_neg (by omega), if_neg (by omega), if_pos (by omega), h1]
  omega
theorem wk_t {k f i : Int} {n : Nat} (hk : 0 ≤ k ∧ k ≤ 60) (hf : 0 ≤ f ∧ f ≤ 7) (hn : (n : Int) = 40 + f) (he : i = 452 + 24 * k + f) : wk i = n := by
  have h1 : (i - 452) % 24 = f := by omega
  unfold wk
  rw [if_neg (by omega), if_neg (by omega), if_neg (by omega), if_neg (by omega), if_pos (by omega), h1, if_pos (by omega)]
  omega
theorem wk_w {k e i : Int} (hk : 0 ≤ k ∧ k ≤ 60) (hf : 0 ≤ e ∧ e ≤ 15) (he : i = 452 + 24 * k + 8 + e) : wk i = 48 := by
  have h1 : (i - 452) % 24 = 8 + e := by omega
  unfold wk
  rw [if_neg (by omega), if_neg (by omega), if_neg (by omega), if_neg (by omega), if_pos (by omega), h1, if_neg (by omega)]
theorem wk_k {k f i : Int} {n : Nat} (hk : 0 ≤ k ∧ k ≤ 199) (hf : 0 ≤ f ∧ f ≤ 4) (hn : (n : Int) = 50 + f) (he : i = 1916 + 5 * k + f) : wk i = n := by
  have h1 : (i - 1916) % 5 = f := by omega
  unfold wk
  rw [if_neg (by omega), if_neg (by omega), if_neg (by omega), if_neg (by omega), if_neg (by omega), if_pos (by omega), h1]
  omega
theorem wk_f {k i : Int} (hk : 0 ≤ k ∧ k ≤ 199) (he : i = 2916 + k) : wk i = 60 := by
  unfold wk
  rw [if_neg (by omega), if_neg (by omega), if_neg (by omega), if_neg (by omega), if_neg (by omega), if_neg (by omega), if_pos (by omega)]
def rg : Nat → Int → Int → Prop
  | 0, i, v => (i = 1 → 0 ≤ v ∧ v ≤ 99999) ∧ (i = 2 → 0 ≤ v ∧ v ≤ 999)
  | 1, _, v => 0 ≤ v ∧ v ≤ 99
  | 2, i, v => (i = 0 → 0 ≤ v ∧ v ≤ 6)
  | 3, _, v => 0 ≤ v ∧ v ≤ 1073741823
  | 4, _, v => 0 ≤ v ∧ v ≤ 4
  | 5, _, v => 0 ≤ v ∧ v ≤ 6
  | 6, _, v => 0 ≤ v ∧ v ≤ 20
  | 7, _, v => 0 ≤ v ∧ v ≤ 1
  | 8, _, v => 0 ≤ v ∧ v ≤ 16
  | 9, _, v => 0 ≤ v ∧ v ≤ 59
  | 10, i, v => (i = 0 → 0 ≤ v ∧ v ≤ 16)
  | 11, _, v => 0 ≤ v ∧ v ≤ 1073741823
  | 13, _, v => 0 ≤ v ∧ v ≤ 99
  | 14, _, v => 0 ≤ v ∧ v ≤ 3
  | 49, i, v => (i = 0 → 0 ≤ v ∧ v ≤ 60)
  | 50, _, v => 0 ≤ v ∧ v ≤ 15
  | 51, _, v => 0 ≤ v ∧ v ≤ 5
  | 52, _, v => 0 ≤ v ∧ v ≤ 999
  | 53, _, v => -1 ≤ v ∧ v ≤ 1199
  | 54, _, v => 0 ≤ v ∧ v ≤ 2
  | 55, _, v => 0 ≤ v ∧ v ≤ 2
  | 57, i, v => (i = 0 → 0 ≤ v ∧ v ≤ 200) ∧ (i = 5 → 0 ≤ v ∧ v ≤ 200)
  | 58, _, v => 0 ≤ v ∧ v ≤ 15
  | 59, _, v => 0 ≤ v ∧ v ≤ 59
  | 60, _, v => 0 ≤ v ∧ v ≤ 1300
  | 61, _, v => 0 ≤ v ∧ v ≤ 2
  | 62, _, v => 0 ≤ v ∧ v ≤ 199
  | 63, i, v => (i = 1 → 0 ≤ v ∧ v ≤ 99999) ∧ (i = 2 → 0 ≤ v ∧ v ≤ 1199)
  | 64, i, v => (i = 1 → 0 ≤ v ∧ v ≤ 7) ∧ (i = 2 → 0 ≤ v ∧ v ≤ 8)
  | 571, _, v => 0 ≤ v ∧ v ≤ 1
  | 572, i, v => (i = 1 → 0 ≤ v ∧ v ≤ 1000)
  | 573, _, v => -128 ≤ v ∧ v ≤ 127
  | 576, i, v => (i = 2 → 0 ≤ v ∧ v ≤ 6) ∧ (i = 3 → -1 ≤ v ∧ v ≤ 1000) ∧ (i = 4 → 0 ≤ v ∧ v ≤ 99999) ∧ (i = 5 → -1 ≤ v ∧ v ≤ 1073741823) ∧ (i = 6 → -1 ≤ v ∧ v ≤ 59)
  | 577, i, v => (i = 1 → 0 ≤ v ∧ v ≤ 4) ∧ (i = 2 → 0 ≤ v ∧ v ≤ 1000) ∧ (i = 3 → 0 ≤ v ∧ v ≤ 1000) ∧ (i = 4 → 0 ≤ v ∧ v ≤ 99999)
  | 578, i, v => (i = 1 → 0 ≤ v ∧ v ≤ 1000)
  | 579, _, v => -128 ≤ v ∧ v ≤ 127
  | 769, i, v => (i = 0 → 0 ≤ v ∧ v ≤ 3) ∧ (i = 7 → 0 ≤ v ∧ v ≤ 8) ∧ (i = 9 → 0 ≤ v ∧ v ≤ 1000) ∧ (i = 10 → 0 ≤ v ∧ v ≤ 1000) ∧ (i = 11 → 0 ≤ v ∧ v ≤ 6) ∧ (i = 12 → -1 ≤ v ∧ v ≤ 1000) ∧ (i = 13 → 0 ≤ v ∧ v ≤ 1) ∧ (i = 14 → 0 ≤ v ∧ v ≤ 99999) ∧ (i = 15 → 0 ≤ v ∧ v ≤ 1000) ∧ (i = 16 → 0 ≤ v ∧ v ≤ 1000) ∧ (i = 18 → 0 ≤ v ∧ v ≤ 800)
  | 775, _, v => 0 ≤ v ∧ v ≤ 1
  | 776, _, v => 0 ≤ v ∧ v ≤ 255
  | 777, _, v => 0 ≤ v ∧ v ≤ 255
  | 770, i, v => rgW i v
  | 771, i, v => rgW (i % 3116) v
  | 772, i, v => rgW (i % 3116) v
  | 773, i, v => rgW i v
  | 774, i, v => rgW i v
  | _, _, _ => True
def Safe (d : mD) : Prop := ∀ a i : Int, 0 ≤ i → rg (tcd a) i (d a i)
theorem Safe.rd {d : mD} (h : Safe d) {a : Int} {k : Nat} (e : tcd a = k) (i : Int) (h0 : 0 ≤ i) : rg k i (d a i) := by
  have := h a i h0
  rwa [e] at this
theorem Safe.set {d : mD} (h : Safe d) {a i v : Int} {k : Nat} (e : tcd a = k) (hv : rg k i v) : Safe (mset d a i v) := by
  intro b j hj
  unfold mset
  split
  · rename_i c
    rw [c.1, c.2, e]
    exact hv
  · exact h b j hj
theorem Safe.copy {d : mD} (h : Safe d) {x y sp dp n : Int} {k : Nat} (ex : tcd x = k) (ey : tcd y = k) (hk : ∀ i j v, rg k i v → rg k j v) (hsp : 0 ≤ sp) : Safe (mcopy d x sp y dp n) := by
  intro b j hj
  unfold mcopy
  split
  · rename_i c
    rw [c.1, ey]
    exact hk _ _ _ (h.rd ex _ (by omega))
  · exact h b j hj
theorem Safe.fill {d : mD} (h : Safe d) {a v : Int} {k : Nat} (e : tcd a = k) (hv : ∀ i, rg k i v) : Safe (mfill d a v) := by
  intro b j hj
  unfold mfill
  split
  · rename_i c
    rw [c, e]
    exact hv j
  · exact h b j hj
theorem tcd_st {s k : Int} (hs : stB s) (h1 : 1 ≤ k) (h2 : k ≤ 62) : tcd (s + k) = k.toNat := by
  unfold stB at hs
  unfold tcd
  rcases hs with h | h | h | h | h <;> (repeat' split) <;> omega
theorem tcd_s0 {s : Int} (hs : stB s) (h : s ≠ 580) : tcd s = 0 := by
  unfold stB at hs
  unfold tcd
  rcases hs with h | h | h | h | h <;> (repeat' split) <;> omega
theorem tcd_s580 : tcd 580 = 63 := by decide
theorem stB.of {s : Int} (h : stB s) : ofB (s + 2) := by
  unfold ofB; rwa [show s + 2 - 2 = s by omega]
theorem stB.pe {s : Int} (h : stB s) : peB (s + 10) := by
  unfold peB; rwa [show s + 10 - 10 = s by omega]
theorem stB.ti {s : Int} (h : stB s) : tiB (s + 49) := by
  unfold tiB; rwa [show s + 49 - 49 = s by omega]
theorem stB.to {s : Int} (h : stB s) : toB (s + 57) := by
  unfold toB; rwa [show s + 57 - 57 = s by omega]
theorem stB.pos {s : Int} (h : stB s) : 1 ≤ s ∧ s ≤ 706 := by
  unfold stB at h; omega
theorem peB.hs {x i : Int} (h : peB x) (h0 : 0 ≤ i) (h1 : i < 16) : hsB (x + 6 + (1 + 2 * i)) :=
  Or.inl ⟨by have := stB.pos h; omega, x - 10, i, h, h0, h1, by omega⟩
theorem stB.far {x y : Int} (h : stB x) (k : stB y) : x = y ∨ x + 63 ≤ y ∨ y + 63 ≤ x := by
  unfold stB at h k; omega
theorem hiB.st {x i : Int} (h : hiB x) (h0 : 0 ≤ i) (h1 : i < 8) : stB (x + 1 + (1 + 63 * i)) := by
  unfold hiB at h; unfold stB; omega
theorem wbB.sv {x i : Int} (h : wbB x) (h0 : 0 ≤ i) (h1 : i < 2) : stB (x + 570 + (73 + 63 * i)) := by
  unfold wbB at h; unfold stB; omega
theorem wbB.nw {x : Int} (h : wbB x) : stB (x + 1) := by
  unfold wbB at h; unfold stB; omega
theorem wbB.sp {x : Int} (h : wbB x) : stB (x + 580) := by
  unfold wbB at h; unfold stB; omega
theorem wbB.hi {x : Int} (h : wbB x) : hiB (x + 64) := by
  unfold wbB at h; unfold hiB; omega
theorem wbB.ou {x : Int} (h : wbB x) : txB (x + 572) := by
  unfold wbB at h; unfold txB; omega
theorem wbB.lo {x : Int} (h : wbB x) : hsB (x + 574) := by
  unfold wbB at h; unfold hsB; omega
theorem wbB.ld {x : Int} (h : wbB x) : ldB (x + 576) := by
  unfold wbB at h; unfold ldB; omega
theorem wbB.tx {x : Int} (h : wbB x) : txB (x + 578) := by
  unfold wbB at h; unfold txB; omega
theorem ldB.re {x : Int} (h : ldB x) : reB (x + 1) := by
  unfold ldB at h; unfold reB; omega
theorem ldB.st {x : Int} (h : ldB x) : stB (x + 4) := by
  unfold ldB at h; unfold stB; omega
theorem reB.tx {x : Int} (h : reB x) : txB (x + 1) := by
  unfold reB at h; unfold txB; omega
theorem rg_hs {k : Nat} (h0 : 17 ≤ k) (h1 : k ≤ 48) (i v : Int) : rg k i v := by
  have h : k = 17 ∨ k = 18 ∨ k = 19 ∨ k = 20 ∨ k = 21 ∨ k = 22 ∨ k = 23 ∨ k = 24 ∨ k = 25 ∨ k = 26 ∨ k = 27 ∨ k = 28 ∨ k = 29 ∨ k = 30 ∨ k = 31 ∨ k = 32 ∨ k = 33 ∨ k = 34 ∨ k = 35 ∨ k = 36 ∨ k = 37 ∨ k = 38 ∨ k = 39 ∨ k = 40 ∨ k = 41 ∨ k = 42 ∨ k = 43 ∨ k = 44 ∨ k = 45 ∨ k = 46 ∨ k = 47 ∨ k = 48 := by omega
  rcases h with h | h | h | h | h | h | h | h | h | h | h | h | h | h | h | h | h | h | h | h | h | h | h | h | h | h | h | h | h | h | h | h <;> subst h <;> trivial
theorem tcd_hs {x : Int} (h : hsB x) (i v : Int) : rg (tcd (x + 1)) i v := by
  rcases h with ⟨-, s, p, hs, h0, h1, rfl⟩ | rfl
  · have e := tcd_st hs (k := 18 + 2 * p) (by omega) (by omega)
    rw [show s + 17 + 2 * p + 1 = s + (18 + 2 * p) by omega, e]
    exact rg_hs (by omega) (by omega) i v
  · exact trivial
theorem s_1_1 {d : mD} {x i v : Int} (hS : Safe d) (hx : hsB x) : Safe (mset d (x + 1) i v) := hS.set rfl (tcd_hs hx i v)
theorem f_1_1 {d : mD} {x v : Int} (hS : Safe d) (hx : hsB x) : Safe (mfill d (x + 1) v) := hS.fill rfl (fun i => tcd_hs hx i v)
theorem c_1_1 {d : mD} {x y sp dp n : Int} (hS : Safe d) (hy : hsB y) : Safe (mcopy d (x + 1) sp (y + 1) dp n) := by
  intro b j hj
  unfold mcopy
  split
  · rename_i c
    rw [c.1]
    exact tcd_hs hy _ _
  · exact hS b j hj
theorem cd_3_0 {x : Int} (hx : ofB x) : tcd x = 2 := by
  have := tcd_st (k := 2) hx (by omega) (by omega)
  rwa [show x - 2 + 2 = x by omega] at this
theorem cd_3_1 {x : Int} (hx : ofB x) : tcd (x + 1) = 3 := by
  have := tcd_st (k := 3) hx (by omega) (by omega)
  rwa [show x - 2 + 3 = x + 1 by omega] at this
theorem cd_3_2 {x : Int} (hx : ofB x) : tcd (x + 2) = 4 := by
  have := tcd_st (k := 4) hx (by omega) (by omega)
  rwa [show x - 2 + 4 = x + 2 by omega] at this
theorem cd_3_3 {x : Int} (hx : ofB x) : tcd (x + 3) = 5 := by
  have := tcd_st (k := 5) hx (by omega) (by omega)
  rwa [show x - 2 + 5 = x + 3 by omega] at this
theorem cd_3_4 {x : Int} (hx : ofB x) : tcd (x + 4) = 6 := by
  have := tcd_st (k := 6) hx (by omega) (by omega)
  rwa [show x - 2 + 6 = x + 4 by omega] at this
theorem cd_3_5 {x : Int} (hx : ofB x) : tcd (x + 5) = 7 := by
  have := tcd_st (k := 7) hx (by omega) (by omega)
  rwa [show x - 2 + 7 = x + 5 by omega] at this
theorem cd_3_6 {x : Int} (hx : ofB x) : tcd (x + 6) = 8 := by
  have := tcd_st (k := 8) hx (by omega) (by omega)
  rwa [show x - 2 + 8 = x + 6 by omega] at this
theorem cd_3_7 {x : Int} (hx : ofB x) : tcd (x + 7) = 9 := by
  have := tcd_st (k := 9) hx (by omega) (by omega)
  rwa [show x - 2 + 9 = x + 7 by omega] at this
theorem cd_4_0 {x : Int} (hx : peB x) : tcd x = 10 := by
  have := tcd_st (k := 10) hx (by omega) (by omega)
  rwa [show x - 10 + 10 = x by omega] at this
theorem cd_4_1 {x : Int} (hx : peB x) : tcd (x + 1) = 11 := by
  have := tcd_st (k := 11) hx (by omega) (by omega)
  rwa [show x - 10 + 11 = x + 1 by omega] at this
theorem cd_4_2 {x : Int} (hx : peB x) : tcd (x + 2) = 12 := by
  have := tcd_st (k := 12) hx (by omega) (by omega)
  rwa [show x - 10 + 12 = x + 2 by omega] at this
theorem cd_4_3 {x : Int} (hx : peB x) : tcd (x + 3) = 13 := by
  have := tcd_st (k := 13) hx (by omega) (by omega)
  rwa [show x - 10 + 13 = x + 3 by omega] at this
theorem cd_4_4 {x : Int} (hx : peB x) : tcd (x + 4) = 14 := by
  have := tcd_st (k := 14) hx (by omega) (by omega)
  rwa [show x - 10 + 14 = x + 4 by omega] at this
theorem cd_4_5 {x : Int} (hx : peB x) : tcd (x + 5) = 15 := by
  have := tcd_st (k := 15) hx (by omega) (by omega)
  rwa [show x - 10 + 15 = x + 5 by omega] at this
theorem cd_8_0 {x : Int} (hx : tiB x) : tcd x = 49 := by
  have := tcd_st (k := 49) hx (by omega) (by omega)
  rwa [show x - 49 + 49 = x by omega] at this
theorem cd_8_1 {x : Int} (hx : tiB x) : tcd (x + 1) = 50 := by
  have := tcd_st (k := 50) hx (by omega) (by omega)
  rwa [show x - 49 + 50 = x + 1 by omega] at this
theorem cd_8_2 {x : Int} (hx : tiB x) : tcd (x + 2) = 51 := by
  have := tcd_st (k := 51) hx (by omega) (by omega)
  rwa [show x - 49 + 51 = x + 2 by omega] at this
theorem cd_8_3 {x : Int} (hx : tiB x) : tcd (x + 3) = 52 := by
  have := tcd_st (k := 52) hx (by omega) (by omega)
  rwa [show x - 49 + 52 = x + 3 by omega] at this
theorem cd_8_4 {x : Int} (hx : tiB x) : tcd (x + 4) = 53 := by
  have := tcd_st (k := 53) hx (by omega) (by omega)
  rwa [show x - 49 + 53 = x + 4 by omega] at this
theorem cd_8_5 {x : Int} (hx : tiB x) : tcd (x + 5) = 54 := by
  have := tcd_st (k := 54) hx (by omega) (by omega)
  rwa [show x - 49 + 54 = x + 5 by omega] at this
theorem cd_8_6 {x : Int} (hx : tiB x) : tcd (x + 6) = 55 := by
  have := tcd_st (k := 55) hx (by omega) (by omega)
  rwa [show x - 49 + 55 = x + 6 by omega] at this
theorem cd_8_7 {x : Int} (hx : tiB x) : tcd (x + 7) = 56 := by
  have := tcd_st (k := 56) hx (by omega) (by omega)
  rwa [show x - 49 + 56 = x + 7 by omega] at this
theorem cd_9_0 {x : Int} (hx : toB x) : tcd x = 57 := by
  have := tcd_st (k := 57) hx (by omega) (by omega)
  rwa [show x - 57 + 57 = x by omega] at this
theorem cd_9_1 {x : Int} (hx : toB x) : tcd (x + 1) = 58 := by
  have := tcd_st (k := 58) hx (by omega) (by omega)
  rwa [show x - 57 + 58 = x + 1 by omega] at this
theorem cd_9_2 {x : Int} (hx : toB x) : tcd (x + 2) = 59 := by
  have := tcd_st (k := 59) hx (by omega) (by omega)
  rwa [show x - 57 + 59 = x + 2 by omega] at this
theorem cd_9_3 {x : Int} (hx : toB x) : tcd (x + 3) = 60 := by
  have := tcd_st (k := 60) hx (by omega) (by omega)
  rwa [show x - 57 + 60 = x + 3 by omega] at this
theorem cd_9_4 {x : Int} (hx : toB x) : tcd (x + 4) = 61 := by
  have := tcd_st (k := 61) hx (by omega) (by omega)
  rwa [show x - 57 + 61 = x + 4 by omega] at this
theorem cd_9_5 {x : Int} (hx : toB x) : tcd (x + 5) = 62 := by
  have := tcd_st (k := 62) hx (by omega) (by omega)
  rwa [show x - 57 + 62 = x + 5 by omega] at this
theorem cd_6_1 {x : Int} (hx : stB x) : tcd (x + 1) = 1 := tcd_st hx (by omega) (by omega)
theorem cd_5_0 {x : Int} (hx : reB x) : tcd x = 577 := by
  rw [show x = 577 from hx]; rfl
theorem cd_2_0 {x : Int} (hx : ldB x) : tcd x = 576 := by
  rw [show x = 576 from hx]; rfl
theorem cd_0_0 {x : Int} (hx : hiB x) : tcd x = 64 := by
  rw [show x = 64 from hx]; rfl
theorem cd_10_571 {x : Int} (hx : wbB x) : tcd (x + 571) = 571 := by
  rw [show x = 0 from hx]; rfl
theorem r_3_f0 {d : mD} {x : Int} (hS : Safe d) (hx : ofB x) : 0 ≤ d x 0 ∧ d x 0 ≤ 6 := (hS.rd (cd_3_0 hx) 0 (by decide)) rfl
theorem s_3_f0 {d : mD} {x v : Int} (hS : Safe d) (hx : ofB x) (hv : 0 ≤ v ∧ v ≤ 6) : Safe (mset d x 0 v) := hS.set (cd_3_0 hx) (fun _ => hv)
theorem r_3_1 {d : mD} {x : Int} (hS : Safe d) (hx : ofB x) (i : Int) (h0 : 0 ≤ i := by omega) : 0 ≤ d (x + 1) i ∧ d (x + 1) i ≤ 1073741823 := hS.rd (cd_3_1 hx) i h0
theorem s_3_1 {d : mD} {x i v : Int} (hS : Safe d) (hx : ofB x) (hv : 0 ≤ v ∧ v ≤ 1073741823) : Safe (mset d (x + 1) i v) := hS.set (cd_3_1 hx) hv
theorem c_3_1 {d : mD} {x y sp dp n : Int} (hS : Safe d) (hx : ofB x) (hy : ofB y) (hsp : 0 ≤ sp := by omega) : Safe (mcopy d (x + 1) sp (y + 1) dp n) := hS.copy (cd_3_1 hx) (cd_3_1 hy) (fun _ _ _ h => h) hsp
theorem f_3_1 {d : mD} {x v : Int} (hS : Safe d) (hx : ofB x) (hv : 0 ≤ v ∧ v ≤ 1073741823) : Safe (mfill d (x + 1) v) := hS.fill (cd_3_1 hx) (fun _ => hv)
theorem r_3_2 {d : mD} {x : Int} (hS : Safe d) (hx : ofB x) (i : Int) (h0 : 0 ≤ i := by omega) : 0 ≤ d (x + 2) i ∧ d (x + 2) i ≤ 4 := hS.rd (cd_3_2 hx) i h0
theorem s_3_2 {d : mD} {x i v : Int} (hS : Safe d) (hx : ofB x) (hv : 0 ≤ v ∧ v ≤ 4) : Safe (mset d (x + 2) i v) := hS.set (cd_3_2 hx) hv
theorem c_3_2 {d : mD} {x y sp dp n : Int} (hS : Safe d) (hx : ofB x) (hy : ofB y) (hsp : 0 ≤ sp := by omega) : Safe (mcopy d (x + 2) sp (y + 2) dp n) := hS.copy (cd_3_2 hx) (cd_3_2 hy) (fun _ _ _ h => h) hsp
theorem f_3_2 {d : mD} {x v : Int} (hS : Safe d) (hx : ofB x) (hv : 0 ≤ v ∧ v ≤ 4) : Safe (mfill d (x + 2) v) := hS.fill (cd_3_2 hx) (fun _ => hv)
theorem r_3_3 {d : mD} {x : Int} (hS : Safe d) (hx : ofB x) (i : Int) (h0 : 0 ≤ i := by omega) : 0 ≤ d (x + 3) i ∧ d (x + 3) i ≤ 6 := hS.rd (cd_3_3 hx) i h0
theorem s_3_3 {d : mD} {x i v : Int} (hS : Safe d) (hx : ofB x) (hv : 0 ≤ v ∧ v ≤ 6) : Safe (mset d (x + 3) i v) := hS.set (cd_3_3 hx) hv
theorem c_3_3 {d : mD} {x y sp dp n : Int} (hS : Safe d) (hx : ofB x) (hy : ofB y) (hsp : 0 ≤ sp := by omega) : Safe (mcopy d (x + 3) sp (y + 3) dp n) := hS.copy (cd_3_3 hx) (cd_3_3 hy) (fun _ _ _ h => h) hsp
theorem f_3_3 {d : mD} {x v : Int} (hS : Safe d) (hx : ofB x) (hv : 0 ≤ v ∧ v ≤ 6) : Safe (mfill d (x + 3) v) := hS.fill (cd_3_3 hx) (fun _ => hv)
theorem r_3_4 {d : mD} {x : Int} (hS : Safe d) (hx : ofB x) (i : Int) (h0 : 0 ≤ i := by omega) : 0 ≤ d (x + 4) i ∧ d (x + 4) i ≤ 20 := hS.rd (cd_3_4 hx) i h0
theorem s_3_4 {d : mD} {x i v : Int} (hS : Safe d) (hx : ofB x) (hv : 0 ≤ v ∧ v ≤ 20) : Safe (mset d (x + 4) i v) := hS.set (cd_3_4 hx) hv
theorem c_3_4 {d : mD} {x y sp dp n : Int} (hS : Safe d) (hx : ofB x) (hy : ofB y) (hsp : 0 ≤ sp := by omega) : Safe (mcopy d (x + 4) sp (y + 4) dp n) := hS.copy (cd_3_4 hx) (cd_3_4 hy) (fun _ _ _ h => h) hsp
theorem f_3_4 {d : mD} {x v : Int} (hS : Safe d) (hx : ofB x) (hv : 0 ≤ v ∧ v ≤ 20) : Safe (mfill d (x + 4) v) := hS.fill (cd_3_4 hx) (fun _ => hv)
theorem r_3_5 {d : mD} {x : Int} (hS : Safe d) (hx : ofB x) (i : Int) (h0 : 0 ≤ i := by omega) : 0 ≤ d (x + 5) i ∧ d (x + 5) i ≤ 1 := hS.rd (cd_3_5 hx) i h0
theorem s_3_5 {d : mD} {x i v : Int} (hS : Safe d) (hx : ofB x) (hv : 0 ≤ v ∧ v ≤ 1) : Safe (mset d (x + 5) i v) := hS.set (cd_3_5 hx) hv
theorem c_3_5 {d : mD} {x y sp dp n : Int} (hS : Safe d) (hx : ofB x) (hy : ofB y) (hsp : 0 ≤ sp := by omega) : Safe (mcopy d (x + 5) sp (y + 5) dp n) := hS.copy (cd_3_5 hx) (cd_3_5 hy) (fun _ _ _ h => h) hsp
theorem f_3_5 {d : mD} {x v : Int} (hS : Safe d) (hx : ofB x) (hv : 0 ≤ v ∧ v ≤ 1) : Safe (mfill d (x + 5) v) := hS.fill (cd_3_5 hx) (fun _ => hv)
theorem r_3_6 {d : mD} {x : Int} (hS : Safe d) (hx : ofB x) (i : Int) (h0 : 0 ≤ i := by omega) : 0 ≤ d (x + 6) i ∧ d (x + 6) i ≤ 16 := hS.rd (cd_3_6 hx) i h0
theorem s_3_6 {d : mD} {x i v : Int} (hS : Safe d) (hx : ofB x) (hv : 0 ≤ v ∧ v ≤ 16) : Safe (mset d (x + 6) i v) := hS.set (cd_3_6 hx) hv
theorem c_3_6 {d : mD} {x y sp dp n : Int} (hS : Safe d) (hx : ofB x) (hy : ofB y) (hsp : 0 ≤ sp := by omega) : Safe (mcopy d (x + 6) sp (y + 6) dp n) := hS.copy (cd_3_6 hx) (cd_3_6 hy) (fun _ _ _ h => h) hsp
theorem f_3_6 {d : mD} {x v : Int} (hS : Safe d) (hx : ofB x) (hv : 0 ≤ v ∧ v ≤ 16) : Safe (mfill d (x + 6) v) := hS.fill (cd_3_6 hx) (fun _ => hv)
theorem r_3_7 {d : mD} {x : Int} (hS : Safe d) (hx : ofB x) (i : Int) (h0 : 0 ≤ i := by omega) : 0 ≤ d (x + 7) i ∧ d (x + 7) i ≤ 59 := hS.rd (cd_3_7 hx) i h0
theorem s_3_7 {d : mD} {x i v : Int} (hS : Safe d) (hx : ofB x) (hv : 0 ≤ v ∧ v ≤ 59) : Safe (mset d (x + 7) i v) := hS.set (cd_3_7 hx) hv
theorem c_3_7 {d : mD} {x y sp dp n : Int} (hS : Safe d) (hx : ofB x) (hy : ofB y) (hsp : 0 ≤ sp := by omega) : Safe (mcopy d (x + 7) sp (y + 7) dp n) := hS.copy (cd_3_7 hx) (cd_3_7 hy) (fun _ _ _ h => h) hsp
theorem f_3_7 {d : mD} {x v : Int} (hS : Safe d) (hx : ofB x) (hv : 0 ≤ v ∧ v ≤ 59) : Safe (mfill d (x + 7) v) := hS.fill (cd_3_7 hx) (fun _ => hv)
theorem r_4_f0 {d : mD} {x : Int} (hS : Safe d) (hx : peB x) : 0 ≤ d x 0 ∧ d x 0 ≤ 16 := (hS.rd (cd_4_0 hx) 0 (by decide)) rfl
theorem s_4_f0 {d : mD} {x v : Int} (hS : Safe d) (hx : peB x) (hv : 0 ≤ v ∧ v ≤ 16) : Safe (mset d x 0 v) := hS.set (cd_4_0 hx) (fun _ => hv)
theorem r_4_1 {d : mD} {x : Int} (hS : Safe d) (hx : peB x) (i : Int) (h0 : 0 ≤ i := by omega) : 0 ≤ d (x + 1) i ∧ d (x + 1) i ≤ 1073741823 := hS.rd (cd_4_1 hx) i h0
theorem s_4_1 {d : mD} {x i v : Int} (hS : Safe d) (hx : peB x) (hv : 0 ≤ v ∧ v ≤ 1073741823) : Safe (mset d (x + 1) i v) := hS.set (cd_4_1 hx) hv
theorem c_4_1 {d : mD} {x y sp dp n : Int} (hS : Safe d) (hx : peB x) (hy : peB y) (hsp : 0 ≤ sp := by omega) : Safe (mcopy d (x + 1) sp (y + 1) dp n) := hS.copy (cd_4_1 hx) (cd_4_1 hy) (fun _ _ _ h => h) hsp
theorem f_4_1 {d : mD} {x v : Int} (hS : Safe d) (hx : peB x) (hv : 0 ≤ v ∧ v ≤ 1073741823) : Safe (mfill d (x + 1) v) := hS.fill (cd_4_1 hx) (fun _ => hv)
theorem s_4_2 {d : mD} {x i v : Int} (hS : Safe d) (hx : peB x) : Safe (mset d (x + 2) i v) := hS.set (cd_4_2 hx) trivial
theorem c_4_2 {d : mD} {x y sp dp n : Int} (hS : Safe d) (hx : peB x) (hy : peB y) (hsp : 0 ≤ sp := by omega) : Safe (mcopy d (x + 2) sp (y + 2) dp n) := hS.copy (cd_4_2 hx) (cd_4_2 hy) (fun _ _ _ h => h) hsp
theorem f_4_2 {d : mD} {x v : Int} (hS : Safe d) (hx : peB x) : Safe (mfill d (x + 2) v) := hS.fill (cd_4_2 hx) (fun _ => trivial)
theorem r_4_3 {d : mD} {x : Int} (hS : Safe d) (hx : peB x) (i : Int) (h0 : 0 ≤ i := by omega) : 0 ≤ d (x + 3) i ∧ d (x + 3) i ≤ 99 := hS.rd (cd_4_3 hx) i h0
theorem s_4_3 {d : mD} {x i v : Int} (hS : Safe d) (hx : peB x) (hv : 0 ≤ v ∧ v ≤ 99) : Safe (mset d (x + 3) i v) := hS.set (cd_4_3 hx) hv
theorem c_4_3 {d : mD} {x y sp dp n : Int} (hS : Safe d) (hx : peB x) (hy : peB y) (hsp : 0 ≤ sp := by omega) : Safe (mcopy d (x + 3) sp (y + 3) dp n) := hS.copy (cd_4_3 hx) (cd_4_3 hy) (fun _ _ _ h => h) hsp
theorem f_4_3 {d : mD} {x v : Int} (hS : Safe d) (hx : peB x) (hv : 0 ≤ v ∧ v ≤ 99) : Safe (mfill d (x + 3) v) := hS.fill (cd_4_3 hx) (fun _ => hv)
theorem r_4_4 {d : mD} {x : Int} (hS : Safe d) (hx : peB x) (i : Int) (h0 : 0 ≤ i := by omega) : 0 ≤ d (x + 4) i ∧ d (x + 4) i ≤ 3 := hS.rd (cd_4_4 hx) i h0
theorem s_4_4 {d : mD} {x i v : Int} (hS : Safe d) (hx : peB x) (hv : 0 ≤ v ∧ v ≤ 3) : Safe (mset d (x + 4) i v) := hS.set (cd_4_4 hx) hv
theorem c_4_4 {d : mD} {x y sp dp n : Int} (hS : Safe d) (hx : peB x) (hy : peB y) (hsp : 0 ≤ sp := by omega) : Safe (mcopy d (x + 4) sp (y + 4) dp n) := hS.copy (cd_4_4 hx) (cd_4_4 hy) (fun _ _ _ h => h) hsp
theorem f_4_4 {d : mD} {x v : Int} (hS : Safe d) (hx : peB x) (hv : 0 ≤ v ∧ v ≤ 3) : Safe (mfill d (x + 4) v) := hS.fill (cd_4_4 hx) (fun _ => hv)
theorem s_4_5 {d : mD} {x i v : Int} (hS : Safe d) (hx : peB x) : Safe (mset d (x + 5) i v) := hS.set (cd_4_5 hx) trivial
theorem c_4_5 {d : mD} {x y sp dp n : Int} (hS : Safe d) (hx : peB x) (hy : peB y) (hsp : 0 ≤ sp := by omega) : Safe (mcopy d (x + 5) sp (y + 5) dp n) := hS.copy (cd_4_5 hx) (cd_4_5 hy) (fun _ _ _ h => h) hsp
theorem f_4_5 {d : mD} {x v : Int} (hS : Safe d) (hx : peB x) : Safe (mfill d (x + 5) v) := hS.fill (cd_4_5 hx) (fun _ => trivial)
theorem r_8_f0 {d : mD} {x : Int} (hS : Safe d) (hx : tiB x) : 0 ≤ d x 0 ∧ d x 0 ≤ 60 := (hS.rd (cd_8_0 hx) 0 (by decide)) rfl
theorem s_8_f0 {d : mD} {x v : Int} (hS : Safe d) (hx : tiB x) (hv : 0 ≤ v ∧ v ≤ 60) : Safe (mset d x 0 v) := hS.set (cd_8_0 hx) (fun _ => hv)
theorem r_8_1 {d : mD} {x : Int} (hS : Safe d) (hx : tiB x) (i : Int) (h0 : 0 ≤ i := by omega) : 0 ≤ d (x + 1) i ∧ d (x + 1) i ≤ 15 := hS.rd (cd_8_1 hx) i h0
theorem s_8_1 {d : mD} {x i v : Int} (hS : Safe d) (hx : tiB x) (hv : 0 ≤ v ∧ v ≤ 15) : Safe (mset d (x + 1) i v) := hS.set (cd_8_1 hx) hv
theorem c_8_1 {d : mD} {x y sp dp n : Int} (hS : Safe d) (hx : tiB x) (hy : tiB y) (hsp : 0 ≤ sp := by omega) : Safe (mcopy d (x + 1) sp (y + 1) dp n) := hS.copy (cd_8_1 hx) (cd_8_1 hy) (fun _ _ _ h => h) hsp
theorem f_8_1 {d : mD} {x v : Int} (hS : Safe d) (hx : tiB x) (hv : 0 ≤ v ∧ v ≤ 15) : Safe (mfill d (x + 1) v) := hS.fill (cd_8_1 hx) (fun _ => hv)
theorem r_8_2 {d : mD} {x : Int} (hS : Safe d) (hx : tiB x) (i : Int) (h0 : 0 ≤ i := by omega) : 0 ≤ d (x + 2) i ∧ d (x + 2) i ≤ 5 := hS.rd (cd_8_2 hx) i h0
theorem s_8_2 {d : mD} {x i v : Int} (hS : Safe d) (hx : tiB x) (hv : 0 ≤ v ∧ v ≤ 5) : Safe (mset d (x + 2) i v) := hS.set (cd_8_2 hx) hv
theorem c_8_2 {d : mD} {x y sp dp n : Int} (hS : Safe d) (hx : tiB x) (hy : tiB y) (hsp : 0 ≤ sp := by omega) : Safe (mcopy d (x + 2) sp (y + 2) dp n) := hS.copy (cd_8_2 hx) (cd_8_2 hy) (fun _ _ _ h => h) hsp
theorem f_8_2 {d : mD} {x v : Int} (hS : Safe d) (hx : tiB x) (hv : 0 ≤ v ∧ v ≤ 5) : Safe (mfill d (x + 2) v) := hS.fill (cd_8_2 hx) (fun _ => hv)
theorem r_8_3 {d : mD} {x : Int} (hS : Safe d) (hx : tiB x) (i : Int) (h0 : 0 ≤ i := by omega) : 0 ≤ d (x + 3) i ∧ d (x + 3) i ≤ 999 := hS.rd (cd_8_3 hx) i h0
theorem s_8_3 {d : mD} {x i v : Int} (hS : Safe d) (hx : tiB x) (hv : 0 ≤ v ∧ v ≤ 999) : Safe (mset d (x + 3) i v) := hS.set (cd_8_3 hx) hv
theorem c_8_3 {d : mD} {x y sp dp n : Int} (hS : Safe d) (hx : tiB x) (hy : tiB y) (hsp : 0 ≤ sp := by omega) : Safe (mcopy d (x + 3) sp (y + 3) dp n) := hS.copy (cd_8_3 hx) (cd_8_3 hy) (fun _ _ _ h => h) hsp
theorem f_8_3 {d : mD} {x v : Int} (hS : Safe d) (hx : tiB x) (hv : 0 ≤ v ∧ v ≤ 999) : Safe (mfill d (x + 3) v) := hS.fill (cd_8_3 hx) (fun _ => hv)
theorem r_8_4 {d : mD} {x : Int} (hS : Safe d) (hx : tiB x) (i : Int) (h0 : 0 ≤ i := by omega) : -1 ≤ d (x + 4) i ∧ d (x + 4) i ≤ 1199 := hS.rd (cd_8_4 hx) i h0
theorem s_8_4 {d : mD} {x i v : Int} (hS : Safe d) (hx : tiB x) (hv : -1 ≤ v ∧ v ≤ 1199) : Safe (mset d (x + 4) i v) := hS.set (cd_8_4 hx) hv
theorem c_8_4 {d : mD} {x y sp dp n : Int} (hS : Safe d) (hx : tiB x) (hy : tiB y) (hsp : 0 ≤ sp := by omega) : Safe (mcopy d (x + 4) sp (y + 4) dp n) := hS.copy (cd_8_4 hx) (cd_8_4 hy) (fun _ _ _ h => h) hsp
theorem f_8_4 {d : mD} {x v : Int} (hS : Safe d) (hx : tiB x) (hv : -1 ≤ v ∧ v ≤ 1199) : Safe (mfill d (x + 4) v) := hS.fill (cd_8_4 hx) (fun _ => hv)
theorem r_8_5 {d : mD} {x : Int} (hS : Safe d) (hx : tiB x) (i : Int) (h0 : 0 ≤ i := by omega) : 0 ≤ d (x + 5) i ∧ d (x + 5) i ≤ 2 := hS.rd (cd_8_5 hx) i h0
theorem s_8_5 {d : mD} {x i v : Int} (hS : Safe d) (hx : tiB x) (hv : 0 ≤ v ∧ v ≤ 2) : Safe (mset d (x + 5) i v) := hS.set (cd_8_5 hx) hv
theorem c_8_5 {d : mD} {x y sp dp n : Int} (hS : Safe d) (hx : tiB x) (hy : tiB y) (hsp : 0 ≤ sp := by omega) : Safe (mcopy d (x + 5) sp (y + 5) dp n) := hS.copy (cd_8_5 hx) (cd_8_5 hy) (fun _ _ _ h => h) hsp
theorem f_8_5 {d : mD} {x v : Int} (hS : Safe d) (hx : tiB x) (hv : 0 ≤ v ∧ v ≤ 2) : Safe (mfill d (x + 5) v) := hS.fill (cd_8_5 hx) (fun _ => hv)
theorem r_8_6 {d : mD} {x : Int} (hS : Safe d) (hx : tiB x) (i : Int) (h0 : 0 ≤ i := by omega) : 0 ≤ d (x + 6) i ∧ d (x + 6) i ≤ 2 := hS.rd (cd_8_6 hx) i h0
theorem s_8_6 {d : mD} {x i v : Int} (hS : Safe d) (hx : tiB x) (hv : 0 ≤ v ∧ v ≤ 2) : Safe (mset d (x + 6) i v) := hS.set (cd_8_6 hx) hv
theorem c_8_6 {d : mD} {x y sp dp n : Int} (hS : Safe d) (hx : tiB x) (hy : tiB y) (hsp : 0 ≤ sp := by omega) : Safe (mcopy d (x + 6) sp (y + 6) dp n) := hS.copy (cd_8_6 hx) (cd_8_6 hy) (fun _ _ _ h => h) hsp
theorem f_8_6 {d : mD} {x v : Int} (hS : Safe d) (hx : tiB x) (hv : 0 ≤ v ∧ v ≤ 2) : Safe (mfill d (x + 6) v) := hS.fill (cd_8_6 hx) (fun _ => hv)
theorem s_8_7 {d : mD} {x i v : Int} (hS : Safe d) (hx : tiB x) : Safe (mset d (x + 7) i v) := hS.set (cd_8_7 hx) trivial
theorem c_8_7 {d : mD} {x y sp dp n : Int} (hS : Safe d) (hx : tiB x) (hy : tiB y) (hsp : 0 ≤ sp := by omega) : Safe (mcopy d (x + 7) sp (y + 7) dp n) := hS.copy (cd_8_7 hx) (cd_8_7 hy) (fun _ _ _ h => h) hsp
theorem f_8_7 {d : mD} {x v : Int} (hS : Safe d) (hx : tiB x) : Safe (mfill d (x + 7) v) := hS.fill (cd_8_7 hx) (fun _ => trivial)
theorem r_9_f0 {d : mD} {x : Int} (hS : Safe d) (hx : toB x) : 0 ≤ d x 0 ∧ d x 0 ≤ 200 := (hS.rd (cd_9_0 hx) 0 (by decide)).1 rfl
theorem s_9_f0 {d : mD} {x v : Int} (hS : Safe d) (hx : toB x) (hv : 0 ≤ v ∧ v ≤ 200) : Safe (mset d x 0 v) := hS.set (cd_9_0 hx) (⟨fun _ => hv, fun h => absurd h (by decide)⟩)
theorem r_9_f5 {d : mD} {x : Int} (hS : Safe d) (hx : toB x) : 0 ≤ d x 5 ∧ d x 5 ≤ 200 := (hS.rd (cd_9_0 hx) 5 (by decide)).2 rfl
theorem s_9_f5 {d : mD} {x v : Int} (hS : Safe d) (hx : toB x) (hv : 0 ≤ v ∧ v ≤ 200) : Safe (mset d x 5 v) := hS.set (cd_9_0 hx) (⟨fun h => absurd h (by decide), fun _ => hv⟩)
theorem r_9_1 {d : mD} {x : Int} (hS : Safe d) (hx : toB x) (i : Int) (h0 : 0 ≤ i := by omega) : 0 ≤ d (x + 1) i ∧ d (x + 1) i ≤ 15 := hS.rd (cd_9_1 hx) i h0
theorem s_9_1 {d : mD} {x i v : Int} (hS : Safe d) (hx : toB x) (hv : 0 ≤ v ∧ v ≤ 15) : Safe (mset d (x + 1) i v) := hS.set (cd_9_1 hx) hv
theorem c_9_1 {d : mD} {x y sp dp n : Int} (hS : Safe d) (hx : toB x) (hy : toB y) (hsp : 0 ≤ sp := by omega) : Safe (mcopy d (x + 1) sp (y + 1) dp n) := hS.copy (cd_9_1 hx) (cd_9_1 hy) (fun _ _ _ h => h) hsp
theorem f_9_1 {d : mD} {x v : Int} (hS : Safe d) (hx : toB x) (hv : 0 ≤ v ∧ v ≤ 15) : Safe (mfill d (x + 1) v) := hS.fill (cd_9_1 hx) (fun _ => hv)
theorem r_9_2 {d : mD} {x : Int} (hS : Safe d) (hx : toB x) (i : Int) (h0 : 0 ≤ i := by omega) : 0 ≤ d (x + 2) i ∧ d (x + 2) i ≤ 59 := hS.rd (cd_9_2 hx) i h0
theorem s_9_2 {d : mD} {x i v : Int} (hS : Safe d) (hx : toB x) (hv : 0 ≤ v ∧ v ≤ 59) : Safe (mset d (x + 2) i v) := hS.set (cd_9_2 hx) hv
theorem c_9_2 {d : mD} {x y sp dp n : Int} (hS : Safe d) (hx : toB x) (hy : toB y) (hsp : 0 ≤ sp := by omega) : Safe (mcopy d (x + 2) sp (y + 2) dp n) := hS.copy (cd_9_2 hx) (cd_9_2 hy) (fun _ _ _ h => h) hsp
theorem f_9_2 {d : mD} {x v : Int} (hS : Safe d) (hx : toB x) (hv : 0 ≤ v ∧ v ≤ 59) : Safe (mfill d (x + 2) v) := hS.fill (cd_9_2 hx) (fun _ => hv)
theorem r_9_3 {d : mD} {x : Int} (hS : Safe d) (hx : toB x) (i : Int) (h0 : 0 ≤ i := by omega) : 0 ≤ d (x + 3) i ∧ d (x + 3) i ≤ 1300 := hS.rd (cd_9_3 hx) i h0
theorem s_9_3 {d : mD} {x i v : Int} (hS : Safe d) (hx : toB x) (hv : 0 ≤ v ∧ v ≤ 1300) : Safe (mset d (x + 3) i v) := hS.set (cd_9_3 hx) hv
theorem c_9_3 {d : mD} {x y sp dp n : Int} (hS : Safe d) (hx : toB x) (hy : toB y) (hsp : 0 ≤ sp := by omega) : Safe (mcopy d (x + 3) sp (y + 3) dp n) := hS.copy (cd_9_3 hx) (cd_9_3 hy) (fun _ _ _ h => h) hsp
theorem f_9_3 {d : mD} {x v : Int} (hS : Safe d) (hx : toB x) (hv : 0 ≤ v ∧ v ≤ 1300) : Safe (mfill d (x + 3) v) := hS.fill (cd_9_3 hx) (fun _ => hv)
theorem r_9_4 {d : mD} {x : Int} (hS : Safe d) (hx : toB x) (i : Int) (h0 : 0 ≤ i := by omega) : 0 ≤ d (x + 4) i ∧ d (x + 4) i ≤ 2 := hS.rd (cd_9_4 hx) i h0
theorem s_9_4 {d : mD} {x i v : Int} (hS : Safe d) (hx : toB x) (hv : 0 ≤ v ∧ v ≤ 2) : Safe (mset d (x + 4) i v) := hS.set (cd_9_4 hx) hv
theorem c_9_4 {d : mD} {x y sp dp n : Int} (hS : Safe d) (hx : toB x) (hy : toB y) (hsp : 0 ≤ sp := by omega) : Safe (mcopy d (x + 4) sp (y + 4) dp n) := hS.copy (cd_9_4 hx) (cd_9_4 hy) (fun _ _ _ h => h) hsp
theorem f_9_4 {d : mD} {x v : Int} (hS : Safe d) (hx : toB x) (hv : 0 ≤ v ∧ v ≤ 2) : Safe (mfill d (x + 4) v) := hS.fill (cd_9_4 hx) (fun _ => hv)
theorem r_9_5 {d : mD} {x : Int} (hS : Safe d) (hx : toB x) (i : Int) (h0 : 0 ≤ i := by omega) : 0 ≤ d (x + 5) i ∧ d (x + 5) i ≤ 199 := hS.rd (cd_9_5 hx) i h0
theorem s_9_5 {d : mD} {x i v : Int} (hS : Safe d) (hx : toB x) (hv : 0 ≤ v ∧ v ≤ 199) : Safe (mset d (x + 5) i v) := hS.set (cd_9_5 hx) hv
theorem c_9_5 {d : mD} {x y sp dp n : Int} (hS : Safe d) (hx : toB x) (hy : toB y) (hsp : 0 ≤ sp := by omega) : Safe (mcopy d (x + 5) sp (y + 5) dp n) := hS.copy (cd_9_5 hx) (cd_9_5 hy) (fun _ _ _ h => h) hsp
theorem f_9_5 {d : mD} {x v : Int} (hS : Safe d) (hx : toB x) (hv : 0 ≤ v ∧ v ≤ 199) : Safe (mfill d (x + 5) v) := hS.fill (cd_9_5 hx) (fun _ => hv)
theorem r_6_1 {d : mD} {x : Int} (hS : Safe d) (hx : stB x) (i : Int) (h0 : 0 ≤ i := by omega) : 0 ≤ d (x + 1) i ∧ d (x + 1) i ≤ 99 := hS.rd (cd_6_1 hx) i h0
theorem s_6_1 {d : mD} {x i v : Int} (hS : Safe d) (hx : stB x) (hv : 0 ≤ v ∧ v ≤ 99) : Safe (mset d (x + 1) i v) := hS.set (cd_6_1 hx) hv
theorem c_6_1 {d : mD} {x y sp dp n : Int} (hS : Safe d) (hx : stB x) (hy : stB y) (hsp : 0 ≤ sp := by omega) : Safe (mcopy d (x + 1) sp (y + 1) dp n) := hS.copy (cd_6_1 hx) (cd_6_1 hy) (fun _ _ _ h => h) hsp
theorem f_6_1 {d : mD} {x v : Int} (hS : Safe d) (hx : stB x) (hv : 0 ≤ v ∧ v ≤ 99) : Safe (mfill d (x + 1) v) := hS.fill (cd_6_1 hx) (fun _ => hv)
theorem r_5_f1 {d : mD} {x : Int} (hS : Safe d) (hx : reB x) : 0 ≤ d x 1 ∧ d x 1 ≤ 4 := (hS.rd (cd_5_0 hx) 1 (by decide)).1 rfl
theorem s_5_f1 {d : mD} {x v : Int} (hS : Safe d) (hx : reB x) (hv : 0 ≤ v ∧ v ≤ 4) : Safe (mset d x 1 v) := hS.set (cd_5_0 hx) (⟨fun _ => hv, fun h => absurd h (by decide), fun h => absurd h (by decide), fun h => absurd h (by decide)⟩)
theorem r_5_f2 {d : mD} {x : Int} (hS : Safe d) (hx : reB x) : 0 ≤ d x 2 ∧ d x 2 ≤ 1000 := (hS.rd (cd_5_0 hx) 2 (by decide)).2.1 rfl
theorem s_5_f2 {d : mD} {x v : Int} (hS : Safe d) (hx : reB x) (hv : 0 ≤ v ∧ v ≤ 1000) : Safe (mset d x 2 v) := hS.set (cd_5_0 hx) (⟨fun h => absurd h (by decide), fun _ => hv, fun h => absurd h (by decide), fun h => absurd h (by decide)⟩)
theorem r_5_f3 {d : mD} {x : Int} (hS : Safe d) (hx : reB x) : 0 ≤ d x 3 ∧ d x 3 ≤ 1000 := (hS.rd (cd_5_0 hx) 3 (by decide)).2.2.1 rfl
theorem s_5_f3 {d : mD} {x v : Int} (hS : Safe d) (hx : reB x) (hv : 0 ≤ v ∧ v ≤ 1000) : Safe (mset d x 3 v) := hS.set (cd_5_0 hx) (⟨fun h => absurd h (by decide), fun h => absurd h (by decide), fun _ => hv, fun h => absurd h (by decide)⟩)
theorem r_5_f4 {d : mD} {x : Int} (hS : Safe d) (hx : reB x) : 0 ≤ d x 4 ∧ d x 4 ≤ 99999 := (hS.rd (cd_5_0 hx) 4 (by decide)).2.2.2 rfl
theorem s_5_f4 {d : mD} {x v : Int} (hS : Safe d) (hx : reB x) (hv : 0 ≤ v ∧ v ≤ 99999) : Safe (mset d x 4 v) := hS.set (cd_5_0 hx) (⟨fun h => absurd h (by decide), fun h => absurd h (by decide), fun h => absurd h (by decide), fun _ => hv⟩)
theorem r_2_f2 {d : mD} {x : Int} (hS : Safe d) (hx : ldB x) : 0 ≤ d x 2 ∧ d x 2 ≤ 6 := (hS.rd (cd_2_0 hx) 2 (by decide)).1 rfl
theorem s_2_f2 {d : mD} {x v : Int} (hS : Safe d) (hx : ldB x) (hv : 0 ≤ v ∧ v ≤ 6) : Safe (mset d x 2 v) := hS.set (cd_2_0 hx) (⟨fun _ => hv, fun h => absurd h (by decide), fun h => absurd h (by decide), fun h => absurd h (by decide), fun h => absurd h (by decide)⟩)
theorem r_2_f3 {d : mD} {x : Int} (hS : Safe d) (hx : ldB x) : -1 ≤ d x 3 ∧ d x 3 ≤ 1000 := (hS.rd (cd_2_0 hx) 3 (by decide)).2.1 rfl
theorem s_2_f3 {d : mD} {x v : Int} (hS : Safe d) (hx : ldB x) (hv : -1 ≤ v ∧ v ≤ 1000) : Safe (mset d x 3 v) := hS.set (cd_2_0 hx) (⟨fun h => absurd h (by decide), fun _ => hv, fun h => absurd h (by decide), fun h => absurd h (by decide), fun h => absurd h (by decide)⟩)
theorem r_2_f4 {d : mD} {x : Int} (hS : Safe d) (hx : ldB x) : 0 ≤ d x 4 ∧ d x 4 ≤ 99999 := (hS.rd (cd_2_0 hx) 4 (by decide)).2.2.1 rfl
theorem s_2_f4 {d : mD} {x v : Int} (hS : Safe d) (hx : ldB x) (hv : 0 ≤ v ∧ v ≤ 99999) : Safe (mset d x 4 v) := hS.set (cd_2_0 hx) (⟨fun h => absurd h (by decide), fun h => absurd h (by decide), fun _ => hv, fun h => absurd h (by decide), fun h => absurd h (by decide)⟩)
theorem r_2_f5 {d : mD} {x : Int} (hS : Safe d) (hx : ldB x) : -1 ≤ d x 5 ∧ d x 5 ≤ 1073741823 := (hS.rd (cd_2_0 hx) 5 (by decide)).2.2.2.1 rfl
theorem s_2_f5 {d : mD} {x v : Int} (hS : Safe d) (hx : ldB x) (hv : -1 ≤ v ∧ v ≤ 1073741823) : Safe (mset d x 5 v) := hS.set (cd_2_0 hx) (⟨fun h => absurd h (by decide), fun h => absurd h (by decide), fun h => absurd h (by decide), fun _ => hv, fun h => absurd h (by decide)⟩)
theorem r_2_f6 {d : mD} {x : Int} (hS : Safe d) (hx : ldB x) : -1 ≤ d x 6 ∧ d x 6 ≤ 59 := (hS.rd (cd_2_0 hx) 6 (by decide)).2.2.2.2 rfl
theorem s_2_f6 {d : mD} {x v : Int} (hS : Safe d) (hx : ldB x) (hv : -1 ≤ v ∧ v ≤ 59) : Safe (mset d x 6 v) := hS.set (cd_2_0 hx) (⟨fun h => absurd h (by decide), fun h => absurd h (by decide), fun h => absurd h (by decide), fun h => absurd h (by decide), fun _ => hv⟩)
theorem r_0_f1 {d : mD} {x : Int} (hS : Safe d) (hx : hiB x) : 0 ≤ d x 1 ∧ d x 1 ≤ 7 := (hS.rd (cd_0_0 hx) 1 (by decide)).1 rfl
theorem s_0_f1 {d : mD} {x v : Int} (hS : Safe d) (hx : hiB x) (hv : 0 ≤ v ∧ v ≤ 7) : Safe (mset d x 1 v) := hS.set (cd_0_0 hx) (⟨fun _ => hv, fun h => absurd h (by decide)⟩)
theorem r_0_f2 {d : mD} {x : Int} (hS : Safe d) (hx : hiB x) : 0 ≤ d x 2 ∧ d x 2 ≤ 8 := (hS.rd (cd_0_0 hx) 2 (by decide)).2 rfl
theorem s_0_f2 {d : mD} {x v : Int} (hS : Safe d) (hx : hiB x) (hv : 0 ≤ v ∧ v ≤ 8) : Safe (mset d x 2 v) := hS.set (cd_0_0 hx) (⟨fun h => absurd h (by decide), fun _ => hv⟩)
theorem r_10_571 {d : mD} {x : Int} (hS : Safe d) (hx : wbB x) (i : Int) (h0 : 0 ≤ i := by omega) : 0 ≤ d (x + 571) i ∧ d (x + 571) i ≤ 1 := hS.rd (cd_10_571 hx) i h0
theorem s_10_571 {d : mD} {x i v : Int} (hS : Safe d) (hx : wbB x) (hv : 0 ≤ v ∧ v ≤ 1) : Safe (mset d (x + 571) i v) := hS.set (cd_10_571 hx) hv
theorem c_10_571 {d : mD} {x y sp dp n : Int} (hS : Safe d) (hx : wbB x) (hy : wbB y) (hsp : 0 ≤ sp := by omega) : Safe (mcopy d (x + 571) sp (y + 571) dp n) := hS.copy (cd_10_571 hx) (cd_10_571 hy) (fun _ _ _ h => h) hsp
theorem f_10_571 {d : mD} {x v : Int} (hS : Safe d) (hx : wbB x) (hv : 0 ≤ v ∧ v ≤ 1) : Safe (mfill d (x + 571) v) := hS.fill (cd_10_571 hx) (fun _ => hv)
theorem r_6_f1 {d : mD} {x : Int} (hS : Safe d) (hx : stB x) : 0 ≤ d x 1 ∧ d x 1 ≤ 99999 := by
  by_cases h : x = 580
  · subst h; exact (hS.rd tcd_s580 1 (by decide)).1 rfl
  · exact (hS.rd (tcd_s0 hx h) 1 (by decide)).1 rfl
theorem r_6_f2 {d : mD} {x : Int} (hS : Safe d) (hx : stB x) : 0 ≤ d x 2 ∧ d x 2 ≤ 1199 ∧ (x = 580 ∨ d x 2 ≤ 999) := by
  by_cases h : x = 580
  · subst h; have := (hS.rd tcd_s580 2 (by decide)).2 rfl; omega
  · have := (hS.rd (tcd_s0 hx h) 2 (by decide)).2 rfl; omega
theorem s_6_f1 {d : mD} {x v : Int} (hS : Safe d) (hx : stB x) (hv : 0 ≤ v ∧ v ≤ 99999) : Safe (mset d x 1 v) := by
  by_cases h : x = 580
  · subst h; exact hS.set tcd_s580 ⟨fun _ => hv, fun h => absurd h (by decide)⟩
  · exact hS.set (tcd_s0 hx h) ⟨fun _ => hv, fun h => absurd h (by decide)⟩
theorem s_6_f2 {d : mD} {x v : Int} (hS : Safe d) (hx : stB x) (hv : 0 ≤ v ∧ v ≤ 1199 ∧ (x = 580 ∨ v ≤ 999)) : Safe (mset d x 2 v) := by
  by_cases h : x = 580
  · subst h; exact hS.set tcd_s580 ⟨fun h => absurd h (by decide), fun _ => ⟨hv.1, hv.2.1⟩⟩
  · exact hS.set (tcd_s0 hx h) ⟨fun h => absurd h (by decide), fun _ => ⟨hv.1, hv.2.2.resolve_left h⟩⟩
theorem r_7_f1 {d : mD} {x : Int} (hS : Safe d) (hx : txB x) : 0 ≤ d x 1 ∧ d x 1 ≤ 1000 := by
  rcases hx with rfl | rfl
  · exact (hS.rd (a := 572) (k := 572) rfl 1 (by decide)) rfl
  · exact (hS.rd (a := 578) (k := 578) rfl 1 (by decide)) rfl
theorem s_7_f1 {d : mD} {x v : Int} (hS : Safe d) (hx : txB x) (hv : 0 ≤ v ∧ v ≤ 1000) : Safe (mset d x 1 v) := by
  rcases hx with rfl | rfl
  · exact hS.set (k := 572) rfl (fun _ => hv)
  · exact hS.set (k := 578) rfl (fun _ => hv)
theorem r_7_1 {d : mD} {x : Int} (hS : Safe d) (hx : txB x) (i : Int) (h0 : 0 ≤ i := by omega) : -128 ≤ d (x + 1) i ∧ d (x + 1) i ≤ 127 := by
  rcases hx with rfl | rfl
  · exact hS.rd (a := 572 + 1) (k := 573) rfl i h0
  · exact hS.rd (a := 578 + 1) (k := 579) rfl i h0
theorem s_7_1 {d : mD} {x i v : Int} (hS : Safe d) (hx : txB x) (hv : -128 ≤ v ∧ v ≤ 127) : Safe (mset d (x + 1) i v) := by
  rcases hx with rfl | rfl
  · exact hS.set (k := 573) rfl hv
  · exact hS.set (k := 579) rfl hv
-- what the machine's words give
theorem mI_inR (f : Int32 → Int32 → Int32) (x y : Int) : mInR (mI f x y) := ⟨Int32.le_toInt _, Int32.toInt_le _⟩
theorem mJ_inL (f : Int64 → Int64 → Int64) (x y : Int) : mInL (mJ f x y) := ⟨Int64.le_toInt _, Int64.toInt_le _⟩
theorem miand_r (x m : Int) (h0 : 0 ≤ m) (h1 : m < 2147483648) : 0 ≤ miand x m ∧ miand x m ≤ m := by
  obtain ⟨n, rfl⟩ := Int.eq_ofNat_of_zero_le h0
  have e : miand x (n : Int) = (((Int32.ofInt x).toBitVec.toNat &&& n : Nat) : Int) := by
    show (Int32.ofInt x &&& Int32.ofInt (n : Int)).toBitVec.toInt = _
    rw [Int32.toBitVec_and, BitVec.toInt_and]
    have hn : (Int32.ofInt (n : Int)).toBitVec.toNat = n := by
      show (BitVec.ofInt 32 (n : Int)).toNat = n
      rw [BitVec.toNat_ofInt]
      omega
    rw [hn]
    have hl : (Int32.ofInt x).toBitVec.toNat &&& n ≤ n := Nat.and_le_right
    rw [Int.bmod_eq_of_le] <;> omega
  have hl : (Int32.ofInt x).toBitVec.toNat &&& n ≤ n := Nat.and_le_right
  rw [e]
  omega
def mfl (d : mD) (a v n : Int) : mD := fun b j => if b = a ∧ 0 ≤ j ∧ j < n then v else d b j
theorem mfl_ne {d : mD} {a v n b : Int} (h : b ≠ a) : mfl d a v n b = d b := by
  unfold mfl; exact funext (fun j => if_neg (fun c => h c.1))
theorem Safe.fl {d : mD} (h : Safe d) {a v n : Int} (hv : ∀ i, rg (tcd a) i v) : Safe (mfl d a v n) := by
  intro b j hj
  unfold mfl
  split
  · rename_i c
    rw [c.1]
    exact hv j
  · exact h b j hj
theorem mfl_s (d : mD) (a v : Int) {n : Int} (h : 0 ≤ n) : mset (mfl d a v n) a n v = mfl d a v (n + 1) := by
  funext b j
  unfold mset mfl
  by_cases hb : b = a
  · subst hb
    by_cases hj : j = n
    · subst hj
      rw [if_pos ⟨rfl, rfl⟩, if_pos ⟨rfl, h, by omega⟩]
    · rw [if_neg (fun c => hj c.2)]
      by_cases hr : 0 ≤ j ∧ j < n
      · rw [if_pos ⟨rfl, hr⟩, if_pos ⟨rfl, hr.1, by omega⟩]
      · rw [if_neg (fun c => hr c.2), if_neg (fun c => hr ⟨c.2.1, by omega⟩)]
  · rw [if_neg (fun c => hb c.1), if_neg (fun c => hb c.1), if_neg (fun c => hb c.1)]
theorem mfl_0 (d : mD) (a v : Int) : mfl d a v 0 = d := by
  funext b j
  unfold mfl
  exact if_neg (fun c => by omega)
theorem hus_r {b t r : Int} (hb : 1 ≤ b ∧ b ≤ 6) (ht : 0 ≤ t) (hr : 1 ≤ r ∧ r ≤ 17) : 1 ≤ (t / b + r) * b - t ∧ (t / b + r) * b - t ≤ 102 := by
  obtain ⟨h0, h1⟩ := hb
  have h : b = 1 ∨ b = 2 ∨ b = 3 ∨ b = 4 ∨ b = 5 ∨ b = 6 := by omega
  rcases h with h | h | h | h | h | h <;> subst h <;> omega
theorem mdiv_r {x y : Int} (hx : 0 ≤ x) (hy : 0 < y) : 0 ≤ x / y ∧ x / y ≤ x := ⟨Int.ediv_nonneg hx (Int.le_of_lt hy), Int.ediv_le_self y hx⟩
theorem lin_r {b t h w : Int} (hb : 1 ≤ b) (ht : 0 ≤ t ∧ t ≤ 1199) (hh : 0 ≤ h ∧ h ≤ 200) (hw : 0 ≤ w ∧ w ≤ 4) : 0 ≤ ((t + h) / b - t / b) * w ∧ ((t + h) / b - t / b) * w ≤ 6000 := by
  have h1 := mdiv_r (x := t + h) (y := b) (by omega) (by omega)
  have h2 := mdiv_r (x := t) (y := b) (by omega) (by omega)
  have h3 : t / b ≤ (t + h) / b := Int.ediv_le_ediv (by omega) (by omega)
  obtain ⟨w0, w1⟩ := hw
  have h4 : w = 0 ∨ w = 1 ∨ w = 2 ∨ w = 3 ∨ w = 4 := by omega
  rcases h4 with h | h | h | h | h <;> subst h <;> omega
theorem mul_r {a b : Int} (ha : -200 ≤ a ∧ a ≤ 200) (hb : 0 ≤ b ∧ b ≤ 99) : -19800 ≤ a * b ∧ a * b ≤ 19800 := by
  have h1 : -200 * b ≤ a * b := Int.mul_le_mul_of_nonneg_right ha.1 hb.1
  have h2 : a * b ≤ 200 * b := Int.mul_le_mul_of_nonneg_right ha.2 hb.1
  omega
theorem dd_ok {a b : Int} (hb : 1 ≤ b ∧ b ≤ 2147483647) : vf_n64 (FP.ddiv (mbit (mi2d a)) (mbit (mi2d b))) := by
  have e : ∀ x, mbit (mi2d x) = FP.i2d (Int32.ofInt x) := fun x => by
    unfold mbit mi2d mof
    rw [Int.toNat_natCast, UInt64.ofNat_toNat]
  rw [e, e]
  have hn : Int32.ofInt b ≠ 0 := fun h => by
    have h1 := congrArg Int32.toInt h
    rw [Int32.toInt_ofInt_of_le (by omega) (by omega)] at h1
    have h2 : (0 : Int32).toInt = 0 := by decide
    omega
  have h := FP.Core.ddiv_out (a := FP.i2d (Int32.ofInt a)) (b := FP.i2d (Int32.ofInt b)) (FP.Core.DFin.notNaN (FP.Core.i2d_fin _)) (FP.Core.i2d_fin _) (fun z => FP.Core.i2d_ne_zero hn ((FP.Core.zero_bits2 _).mp z))
  have h2 : ¬ 9218868437227405312 < (FP.ddiv (FP.i2d (Int32.ofInt a)) (FP.i2d (Int32.ofInt b))).toNat % 2 ^ 63 := fun c => by
    have h3 := (FP.Core.isNaN_bits _).mpr c
    exact Bool.false_ne_true (h.symm.trans h3)
  unfold vf_n64
  rw [UInt64.le_iff_toNat_le, UInt64.toNat_and]
  have e3 : (0x7fffffffffffffff : UInt64).toNat = 2 ^ 63 - 1 := by decide
  have e4 : (0x7ff0000000000000 : UInt64).toNat = 9218868437227405312 := by decide
  rw [e3, e4, Nat.and_two_pow_sub_one_eq_mod]
  exact Nat.le_of_not_lt h2
theorem mbool (x : Int) : (x = 0 ∧ miand x 0 = 0 ∧ miand x 1 = 0 ∧ mior x 0 = 0 ∧ mior x 1 = 1) ∨ (x = 1 ∧ miand x 0 = 0 ∧ miand x 1 = 1 ∧ mior x 0 = 1 ∧ mior x 1 = 1) ∨ x < 0 ∨ 1 < x := by
  by_cases h0 : x = 0
  · subst h0; left; decide
  · by_cases h1 : x = 1
    · subst h1; right; left; decide
    · omega
def EOK (E : mO × tW) : Prop := E.1.1 0 = 5 ∧ E.1.1 1 = 5 ∧ (E.1.2 0 0 = 0 ∧ E.1.2 0 1 = 0 ∧ E.1.2 0 2 = 1 ∧ E.1.2 0 3 = 1 ∧ E.1.2 0 4 = 1) ∧ (E.1.2 1 0 = 9 ∧ E.1.2 1 1 = 3 ∧ E.1.2 1 2 = 9 ∧ E.1.2 1 3 = 20 ∧ E.1.2 1 4 = 99)
theorem EOK.rd {E : mO × tW} (h : EOK E) {i : Int} (hi : 0 ≤ i ∧ i ≤ 4) : 0 ≤ E.1.2 0 i ∧ E.1.2 0 i ≤ 1 ∧ 1 ≤ E.1.2 1 i ∧ E.1.2 1 i ≤ 99 := by
  obtain ⟨-, -, h1, h2⟩ := h
  have h : i = 0 ∨ i = 1 ∨ i = 2 ∨ i = 3 ∨ i = 4 := by omega
  rcases h with h | h | h | h | h <;> subst h <;> omega
theorem mset_eq {d : mD} {a i v : Int} : mset d a i v a i = v := by
  unfold mset; exact if_pos ⟨rfl, rfl⟩
theorem mset_e2 {d : mD} {a i v j : Int} (h : j = i) : mset d a i v a j = v := by
  unfold mset; exact if_pos ⟨rfl, h⟩
theorem mset_ni {d : mD} {a i v b j : Int} (h : j ≠ i) : mset d a i v b j = d b j := by
  unfold mset; exact if_neg (fun c => h c.2)
theorem mcmp_r (x y : Int) : (x < y ∧ mcmp x y = -1) ∨ (x = y ∧ mcmp x y = 0) ∨ (y < x ∧ mcmp x y = 1) := by
  unfold mcmp; split <;> (try split) <;> omega
theorem mmax_r (x y : Int) : (mmax x y = x ∧ y ≤ x) ∨ (mmax x y = y ∧ x ≤ y) := by
  unfold mmax; split <;> omega
theorem mmin_r (x y : Int) : (mmin x y = x ∧ x ≤ y) ∨ (mmin x y = y ∧ y ≤ x) := by
  unfold mmin; split <;> omega
theorem mi2b_r (x : Int) : -128 ≤ mi2b x ∧ mi2b x ≤ 127 := by
  unfold mi2b
  rw [Int8.toInt_toInt32]
  exact ⟨Int8.le_toInt _, Int8.toInt_le _⟩
theorem mmod_r {x y : Int} (hx : 0 ≤ x) (hy : 0 < y) : 0 ≤ x % y ∧ x % y < y := ⟨Int.emod_nonneg x (by omega), Int.emod_lt_of_pos x hy⟩
theorem cd_11_0 {x : Int} (hx : mdB x) : tcd x = 769 := by
  rw [show x = 769 from hx]; rfl
theorem cd_11_1 {x : Int} (hx : mdB x) : tcd (x + 1) = 770 := by
  rw [show x = 769 from hx]; rfl
theorem cd_11_2 {x : Int} (hx : mdB x) : tcd (x + 2) = 771 := by
  rw [show x = 769 from hx]; rfl
theorem cd_11_3 {x : Int} (hx : mdB x) : tcd (x + 3) = 772 := by
  rw [show x = 769 from hx]; rfl
theorem cd_11_4 {x : Int} (hx : mdB x) : tcd (x + 4) = 773 := by
  rw [show x = 769 from hx]; rfl
theorem cd_11_5 {x : Int} (hx : mdB x) : tcd (x + 5) = 774 := by
  rw [show x = 769 from hx]; rfl
theorem cd_11_6 {x : Int} (hx : mdB x) : tcd (x + 6) = 775 := by
  rw [show x = 769 from hx]; rfl
theorem cd_11_7 {x : Int} (hx : mdB x) : tcd (x + 7) = 776 := by
  rw [show x = 769 from hx]; rfl
theorem cd_11_8 {x : Int} (hx : mdB x) : tcd (x + 8) = 777 := by
  rw [show x = 769 from hx]; rfl
theorem r_11_f0 {d : mD} {x : Int} (hS : Safe d) (hx : mdB x) : 0 ≤ d x 0 ∧ d x 0 ≤ 3 := (hS.rd (cd_11_0 hx) 0 (by decide)).1 rfl
theorem s_11_f0 {d : mD} {x v : Int} (hS : Safe d) (hx : mdB x) (hv : 0 ≤ v ∧ v ≤ 3) : Safe (mset d x 0 v) := hS.set (cd_11_0 hx) (⟨fun _ => hv, fun h => absurd h (by decide), fun h => absurd h (by decide), fun h => absurd h (by decide), fun h => absurd h (by decide), fun h => absurd h (by decide), fun h => absurd h (by decide), fun h => absurd h (by decide), fun h => absurd h (by decide), fun h => absurd h (by decide), fun h => absurd h (by decide)⟩)
theorem r_11_f7 {d : mD} {x : Int} (hS : Safe d) (hx : mdB x) : 0 ≤ d x 7 ∧ d x 7 ≤ 8 := (hS.rd (cd_11_0 hx) 7 (by decide)).2.1 rfl
theorem s_11_f7 {d : mD} {x v : Int} (hS : Safe d) (hx : mdB x) (hv : 0 ≤ v ∧ v ≤ 8) : Safe (mset d x 7 v) := hS.set (cd_11_0 hx) (⟨fun h => absurd h (by decide), fun _ => hv, fun h => absurd h (by decide), fun h => absurd h (by decide), fun h => absurd h (by decide), fun h => absurd h (by decide), fun h => absurd h (by decide), fun h => absurd h (by decide), fun h => absurd h (by decide), fun h => absurd h (by decide), fun h => absurd h (by decide)⟩)
theorem r_11_f9 {d : mD} {x : Int} (hS : Safe d) (hx : mdB x) : 0 ≤ d x 9 ∧ d x 9 ≤ 1000 := (hS.rd (cd_11_0 hx) 9 (by decide)).2.2.1 rfl
theorem s_11_f9 {d : mD} {x v : Int} (hS : Safe d) (hx : mdB x) (hv : 0 ≤ v ∧ v ≤ 1000) : Safe (mset d x 9 v) := hS.set (cd_11_0 hx) (⟨fun h => absurd h (by decide), fun h => absurd h (by decide), fun _ => hv, fun h => absurd h (by decide), fun h => absurd h (by decide), fun h => absurd h (by decide), fun h => absurd h (by decide), fun h => absurd h (by decide), fun h => absurd h (by decide), fun h => absurd h (by decide), fun h => absurd h (by decide)⟩)
theorem r_11_f10 {d : mD} {x : Int} (hS : Safe d) (hx : mdB x) : 0 ≤ d x 10 ∧ d x 10 ≤ 1000 := (hS.rd (cd_11_0 hx) 10 (by decide)).2.2.2.1 rfl
theorem s_11_f10 {d : mD} {x v : Int} (hS : Safe d) (hx : mdB x) (hv : 0 ≤ v ∧ v ≤ 1000) : Safe (mset d x 10 v) := hS.set (cd_11_0 hx) (⟨fun h => absurd h (by decide), fun h => absurd h (by decide), fun h => absurd h (by decide), fun _ => hv, fun h => absurd h (by decide), fun h => absurd h (by decide), fun h => absurd h (by decide), fun h => absurd h (by decide), fun h => absurd h (by decide), fun h => absurd h (by decide), fun h => absurd h (by decide)⟩)
theorem r_11_f11 {d : mD} {x : Int} (hS : Safe d) (hx : mdB x) : 0 ≤ d x 11 ∧ d x 11 ≤ 6 := (hS.rd (cd_11_0 hx) 11 (by decide)).2.2.2.2.1 rfl
theorem s_11_f11 {d : mD} {x v : Int} (hS : Safe d) (hx : mdB x) (hv : 0 ≤ v ∧ v ≤ 6) : Safe (mset d x 11 v) := hS.set (cd_11_0 hx) (⟨fun h => absurd h (by decide), fun h => absurd h (by decide), fun h => absurd h (by decide), fun h => absurd h (by decide), fun _ => hv, fun h => absurd h (by decide), fun h => absurd h (by decide), fun h => absurd h (by decide), fun h => absurd h (by decide), fun h => absurd h (by decide), fun h => absurd h (by decide)⟩)
theorem r_11_f12 {d : mD} {x : Int} (hS : Safe d) (hx : mdB x) : -1 ≤ d x 12 ∧ d x 12 ≤ 1000 := (hS.rd (cd_11_0 hx) 12 (by decide)).2.2.2.2.2.1 rfl
theorem s_11_f12 {d : mD} {x v : Int} (hS : Safe d) (hx : mdB x) (hv : -1 ≤ v ∧ v ≤ 1000) : Safe (mset d x 12 v) := hS.set (cd_11_0 hx) (⟨fun h => absurd h (by decide), fun h => absurd h (by decide), fun h => absurd h (by decide), fun h => absurd h (by decide), fun h => absurd h (by decide), fun _ => hv, fun h => absurd h (by decide), fun h => absurd h (by decide), fun h => absurd h (by decide), fun h => absurd h (by decide), fun h => absurd h (by decide)⟩)
theorem r_11_f13 {d : mD} {x : Int} (hS : Safe d) (hx : mdB x) : 0 ≤ d x 13 ∧ d x 13 ≤ 1 := (hS.rd (cd_11_0 hx) 13 (by decide)).2.2.2.2.2.2.1 rfl
theorem s_11_f13 {d : mD} {x v : Int} (hS : Safe d) (hx : mdB x) (hv : 0 ≤ v ∧ v ≤ 1) : Safe (mset d x 13 v) := hS.set (cd_11_0 hx) (⟨fun h => absurd h (by decide), fun h => absurd h (by decide), fun h => absurd h (by decide), fun h => absurd h (by decide), fun h => absurd h (by decide), fun h => absurd h (by decide), fun _ => hv, fun h => absurd h (by decide), fun h => absurd h (by decide), fun h => absurd h (by decide), fun h => absurd h (by decide)⟩)
theorem r_11_f14 {d : mD} {x : Int} (hS : Safe d) (hx : mdB x) : 0 ≤ d x 14 ∧ d x 14 ≤ 99999 := (hS.rd (cd_11_0 hx) 14 (by decide)).2.2.2.2.2.2.2.1 rfl
theorem s_11_f14 {d : mD} {x v : Int} (hS : Safe d) (hx : mdB x) (hv : 0 ≤ v ∧ v ≤ 99999) : Safe (mset d x 14 v) := hS.set (cd_11_0 hx) (⟨fun h => absurd h (by decide), fun h => absurd h (by decide), fun h => absurd h (by decide), fun h => absurd h (by decide), fun h => absurd h (by decide), fun h => absurd h (by decide), fun h => absurd h (by decide), fun _ => hv, fun h => absurd h (by decide), fun h => absurd h (by decide), fun h => absurd h (by decide)⟩)
theorem r_11_f15 {d : mD} {x : Int} (hS : Safe d) (hx : mdB x) : 0 ≤ d x 15 ∧ d x 15 ≤ 1000 := (hS.rd (cd_11_0 hx) 15 (by decide)).2.2.2.2.2.2.2.2.1 rfl
theorem s_11_f15 {d : mD} {x v : Int} (hS : Safe d) (hx : mdB x) (hv : 0 ≤ v ∧ v ≤ 1000) : Safe (mset d x 15 v) := hS.set (cd_11_0 hx) (⟨fun h => absurd h (by decide), fun h => absurd h (by decide), fun h => absurd h (by decide), fun h => absurd h (by decide), fun h => absurd h (by decide), fun h => absurd h (by decide), fun h => absurd h (by decide), fun h => absurd h (by decide), fun _ => hv, fun h => absurd h (by decide), fun h => absurd h (by decide)⟩)
theorem r_11_f16 {d : mD} {x : Int} (hS : Safe d) (hx : mdB x) : 0 ≤ d x 16 ∧ d x 16 ≤ 1000 := (hS.rd (cd_11_0 hx) 16 (by decide)).2.2.2.2.2.2.2.2.2.1 rfl
theorem s_11_f16 {d : mD} {x v : Int} (hS : Safe d) (hx : mdB x) (hv : 0 ≤ v ∧ v ≤ 1000) : Safe (mset d x 16 v) := hS.set (cd_11_0 hx) (⟨fun h => absurd h (by decide), fun h => absurd h (by decide), fun h => absurd h (by decide), fun h => absurd h (by decide), fun h => absurd h (by decide), fun h => absurd h (by decide), fun h => absurd h (by decide), fun h => absurd h (by decide), fun h => absurd h (by decide), fun _ => hv, fun h => absurd h (by decide)⟩)
theorem r_11_f18 {d : mD} {x : Int} (hS : Safe d) (hx : mdB x) : 0 ≤ d x 18 ∧ d x 18 ≤ 800 := (hS.rd (cd_11_0 hx) 18 (by decide)).2.2.2.2.2.2.2.2.2.2 rfl
theorem s_11_f18 {d : mD} {x v : Int} (hS : Safe d) (hx : mdB x) (hv : 0 ≤ v ∧ v ≤ 800) : Safe (mset d x 18 v) := hS.set (cd_11_0 hx) (⟨fun h => absurd h (by decide), fun h => absurd h (by decide), fun h => absurd h (by decide), fun h => absurd h (by decide), fun h => absurd h (by decide), fun h => absurd h (by decide), fun h => absurd h (by decide), fun h => absurd h (by decide), fun h => absurd h (by decide), fun h => absurd h (by decide), fun _ => hv⟩)
theorem r_11_6 {d : mD} {x : Int} (hS : Safe d) (hx : mdB x) (i : Int) (h0 : 0 ≤ i := by omega) : 0 ≤ d (x + 6) i ∧ d (x + 6) i ≤ 1 := hS.rd (cd_11_6 hx) i h0
theorem s_11_6 {d : mD} {x i v : Int} (hS : Safe d) (hx : mdB x) (hv : 0 ≤ v ∧ v ≤ 1) : Safe (mset d (x + 6) i v) := hS.set (cd_11_6 hx) hv
theorem c_11_6 {d : mD} {x y sp dp n : Int} (hS : Safe d) (hx : mdB x) (hy : mdB y) (hsp : 0 ≤ sp := by omega) : Safe (mcopy d (x + 6) sp (y + 6) dp n) := hS.copy (cd_11_6 hx) (cd_11_6 hy) (fun _ _ _ h => h) hsp
theorem f_11_6 {d : mD} {x v : Int} (hS : Safe d) (hx : mdB x) (hv : 0 ≤ v ∧ v ≤ 1) : Safe (mfill d (x + 6) v) := hS.fill (cd_11_6 hx) (fun _ => hv)
theorem r_11_7 {d : mD} {x : Int} (hS : Safe d) (hx : mdB x) (i : Int) (h0 : 0 ≤ i := by omega) : 0 ≤ d (x + 7) i ∧ d (x + 7) i ≤ 255 := hS.rd (cd_11_7 hx) i h0
theorem s_11_7 {d : mD} {x i v : Int} (hS : Safe d) (hx : mdB x) (hv : 0 ≤ v ∧ v ≤ 255) : Safe (mset d (x + 7) i v) := hS.set (cd_11_7 hx) hv
theorem c_11_7 {d : mD} {x y sp dp n : Int} (hS : Safe d) (hx : mdB x) (hy : mdB y) (hsp : 0 ≤ sp := by omega) : Safe (mcopy d (x + 7) sp (y + 7) dp n) := hS.copy (cd_11_7 hx) (cd_11_7 hy) (fun _ _ _ h => h) hsp
theorem f_11_7 {d : mD} {x v : Int} (hS : Safe d) (hx : mdB x) (hv : 0 ≤ v ∧ v ≤ 255) : Safe (mfill d (x + 7) v) := hS.fill (cd_11_7 hx) (fun _ => hv)
theorem r_11_8 {d : mD} {x : Int} (hS : Safe d) (hx : mdB x) (i : Int) (h0 : 0 ≤ i := by omega) : 0 ≤ d (x + 8) i ∧ d (x + 8) i ≤ 255 := hS.rd (cd_11_8 hx) i h0
theorem s_11_8 {d : mD} {x i v : Int} (hS : Safe d) (hx : mdB x) (hv : 0 ≤ v ∧ v ≤ 255) : Safe (mset d (x + 8) i v) := hS.set (cd_11_8 hx) hv
theorem c_11_8 {d : mD} {x y sp dp n : Int} (hS : Safe d) (hx : mdB x) (hy : mdB y) (hsp : 0 ≤ sp := by omega) : Safe (mcopy d (x + 8) sp (y + 8) dp n) := hS.copy (cd_11_8 hx) (cd_11_8 hy) (fun _ _ _ h => h) hsp
theorem f_11_8 {d : mD} {x v : Int} (hS : Safe d) (hx : mdB x) (hv : 0 ≤ v ∧ v ≤ 255) : Safe (mfill d (x + 8) v) := hS.fill (cd_11_8 hx) (fun _ => hv)
theorem rr_1 {d : mD} {x : Int} (hS : Safe d) (hx : mdB x) (i : Int) (h0 : 0 ≤ i := by omega) : rgW i (d (x + 1) i) := hS.rd (cd_11_1 hx) i h0
theorem sr_1 {d : mD} {x i j v : Int} (hS : Safe d) (hx : mdB x) (e : i = j) (q : rgW j v) : Safe (mset d (x + 1) i v) := hS.set (cd_11_1 hx) (show rgW i v by rw [e]; exact q)
theorem rr_2 {d : mD} {x : Int} (hS : Safe d) (hx : mdB x) (i : Int) (h0 : 0 ≤ i := by omega) : rgW (i % 3116) (d (x + 2) i) := hS.rd (cd_11_2 hx) i h0
theorem sr_2 {d : mD} {x i j v : Int} (hS : Safe d) (hx : mdB x) (e : (i % 3116) = j) (q : rgW j v) : Safe (mset d (x + 2) i v) := hS.set (cd_11_2 hx) (show rgW (i % 3116) v by rw [e]; exact q)
theorem rr_3 {d : mD} {x : Int} (hS : Safe d) (hx : mdB x) (i : Int) (h0 : 0 ≤ i := by omega) : rgW (i % 3116) (d (x + 3) i) := hS.rd (cd_11_3 hx) i h0
theorem sr_3 {d : mD} {x i j v : Int} (hS : Safe d) (hx : mdB x) (e : (i % 3116) = j) (q : rgW j v) : Safe (mset d (x + 3) i v) := hS.set (cd_11_3 hx) (show rgW (i % 3116) v by rw [e]; exact q)
theorem rr_4 {d : mD} {x : Int} (hS : Safe d) (hx : mdB x) (i : Int) (h0 : 0 ≤ i := by omega) : rgW i (d (x + 4) i) := hS.rd (cd_11_4 hx) i h0
theorem sr_4 {d : mD} {x i j v : Int} (hS : Safe d) (hx : mdB x) (e : i = j) (q : rgW j v) : Safe (mset d (x + 4) i v) := hS.set (cd_11_4 hx) (show rgW i v by rw [e]; exact q)
theorem rr_5 {d : mD} {x : Int} (hS : Safe d) (hx : mdB x) (i : Int) (h0 : 0 ≤ i := by omega) : rgW i (d (x + 5) i) := hS.rd (cd_11_5 hx) i h0
theorem sr_5 {d : mD} {x i j v : Int} (hS : Safe d) (hx : mdB x) (e : i = j) (q : rgW j v) : Safe (mset d (x + 5) i v) := hS.set (cd_11_5 hx) (show rgW i v by rw [e]; exact q)
theorem mh_0 {d : mD} {x : Int} (hS : Safe d) (hx : mdB x) (i : Int) (he : i = 0) : 0 ≤ d (x + 1) i ∧ d (x + 1) i ≤ 1200 := rgW_at (show wk i = 0 by rw [he]; decide) (rr_1 hS hx i (by omega))
theorem smh_0 {d : mD} {x v : Int} (hS : Safe d) (hx : mdB x) (i : Int) (he : i = 0) (hv : 0 ≤ v ∧ v ≤ 1200) : Safe (mset d (x + 1) i v) := hS.set (cd_11_1 hx) (show rgW i v from rgW_of (show wk i = 0 by rw [he]; decide) hv)
theorem mh_1 {d : mD} {x : Int} (hS : Safe d) (hx : mdB x) (i : Int) (he : i = 1) : 0 ≤ d (x + 1) i ∧ d (x + 1) i ≤ 99999 := rgW_at (show wk i = 1 by rw [he]; decide) (rr_1 hS hx i (by omega))
theorem smh_1 {d : mD} {x v : Int} (hS : Safe d) (hx : mdB x) (i : Int) (he : i = 1) (hv : 0 ≤ v ∧ v ≤ 99999) : Safe (mset d (x + 1) i v) := hS.set (cd_11_1 hx) (show rgW i v from rgW_of (show wk i = 1 by rw [he]; decide) hv)
theorem mh_7 {d : mD} {x : Int} (hS : Safe d) (hx : mdB x) (i : Int) (he : i = 7) : 0 ≤ d (x + 1) i ∧ d (x + 1) i ≤ 6 := rgW_at (show wk i = 7 by rw [he]; decide) (rr_1 hS hx i (by omega))
theorem smh_7 {d : mD} {x v : Int} (hS : Safe d) (hx : mdB x) (i : Int) (he : i = 7) (hv : 0 ≤ v ∧ v ≤ 6) : Safe (mset d (x + 1) i v) := hS.set (cd_11_1 hx) (show rgW i v from rgW_of (show wk i = 7 by rw [he]; decide) hv)
theorem mh_8 {d : mD} {x : Int} (hS : Safe d) (hx : mdB x) (i : Int) (he : i = 8) : 0 ≤ d (x + 1) i ∧ d (x + 1) i ≤ 16 := rgW_at (show wk i = 8 by rw [he]; decide) (rr_1 hS hx i (by omega))
theorem smh_8 {d : mD} {x v : Int} (hS : Safe d) (hx : mdB x) (i : Int) (he : i = 8) (hv : 0 ≤ v ∧ v ≤ 16) : Safe (mset d (x + 1) i v) := hS.set (cd_11_1 hx) (show rgW i v from rgW_of (show wk i = 8 by rw [he]; decide) hv)
theorem mh_9 {d : mD} {x : Int} (hS : Safe d) (hx : mdB x) (i : Int) (he : i = 9) : 0 ≤ d (x + 1) i ∧ d (x + 1) i ≤ 61 := rgW_at (show wk i = 9 by rw [he]; decide) (rr_1 hS hx i (by omega))
theorem smh_9 {d : mD} {x v : Int} (hS : Safe d) (hx : mdB x) (i : Int) (he : i = 9) (hv : 0 ≤ v ∧ v ≤ 61) : Safe (mset d (x + 1) i v) := hS.set (cd_11_1 hx) (show rgW i v from rgW_of (show wk i = 9 by rw [he]; decide) hv)
theorem mh_10 {d : mD} {x : Int} (hS : Safe d) (hx : mdB x) (i : Int) (he : i = 10) : 0 ≤ d (x + 1) i ∧ d (x + 1) i ≤ 200 := rgW_at (show wk i = 10 by rw [he]; decide) (rr_1 hS hx i (by omega))
theorem smh_10 {d : mD} {x v : Int} (hS : Safe d) (hx : mdB x) (i : Int) (he : i = 10) (hv : 0 ≤ v ∧ v ≤ 200) : Safe (mset d (x + 1) i v) := hS.set (cd_11_1 hx) (show rgW i v from rgW_of (show wk i = 10 by rw [he]; decide) hv)
theorem mh_11 {d : mD} {x : Int} (hS : Safe d) (hx : mdB x) (i : Int) (he : i = 11) : 0 ≤ d (x + 1) i ∧ d (x + 1) i ≤ 200 := rgW_at (show wk i = 11 by rw [he]; decide) (rr_1 hS hx i (by omega))
theorem smh_11 {d : mD} {x v : Int} (hS : Safe d) (hx : mdB x) (i : Int) (he : i = 11) (hv : 0 ≤ v ∧ v ≤ 200) : Safe (mset d (x + 1) i v) := hS.set (cd_11_1 hx) (show rgW i v from rgW_of (show wk i = 11 by rw [he]; decide) hv)
theorem mh_2 {d : mD} {x : Int} (hS : Safe d) (hx : mdB x) (i : Int) (he : i = 2) : 0 ≤ d (x + 1) i ∧ d (x + 1) i ≤ 99 := rgW_at (show wk i = 2 by rw [he]; decide) (rr_1 hS hx i (by omega))
theorem smh_2 {d : mD} {x v : Int} (hS : Safe d) (hx : mdB x) (i : Int) (he : i = 2) (hv : 0 ≤ v ∧ v ≤ 99) : Safe (mset d (x + 1) i v) := hS.set (cd_11_1 hx) (show rgW i v from rgW_of (show wk i = 2 by rw [he]; decide) hv)
theorem mh_4 {d : mD} {x : Int} (hS : Safe d) (hx : mdB x) (i : Int) (he : i = 4) : 0 ≤ d (x + 1) i ∧ d (x + 1) i ≤ 99 := rgW_at (show wk i = 4 by rw [he]; decide) (rr_1 hS hx i (by omega))
theorem smh_4 {d : mD} {x v : Int} (hS : Safe d) (hx : mdB x) (i : Int) (he : i = 4) (hv : 0 ≤ v ∧ v ≤ 99) : Safe (mset d (x + 1) i v) := hS.set (cd_11_1 hx) (show rgW i v from rgW_of (show wk i = 4 by rw [he]; decide) hv)
theorem mh_5 {d : mD} {x : Int} (hS : Safe d) (hx : mdB x) (i : Int) (he : i = 5) : 0 ≤ d (x + 1) i ∧ d (x + 1) i ≤ 99 := rgW_at (show wk i = 5 by rw [he]; decide) (rr_1 hS hx i (by omega))
theorem smh_5 {d : mD} {x v : Int} (hS : Safe d) (hx : mdB x) (i : Int) (he : i = 5) (hv : 0 ≤ v ∧ v ≤ 99) : Safe (mset d (x + 1) i v) := hS.set (cd_11_1 hx) (show rgW i v from rgW_of (show wk i = 5 by rw [he]; decide) hv)
theorem mh_6 {d : mD} {x : Int} (hS : Safe d) (hx : mdB x) (i : Int) (he : i = 6) : 0 ≤ d (x + 1) i ∧ d (x + 1) i ≤ 99 := rgW_at (show wk i = 6 by rw [he]; decide) (rr_1 hS hx i (by omega))
theorem smh_6 {d : mD} {x v : Int} (hS : Safe d) (hx : mdB x) (i : Int) (he : i = 6) (hv : 0 ≤ v ∧ v ≤ 99) : Safe (mset d (x + 1) i v) := hS.set (cd_11_1 hx) (show rgW i v from rgW_of (show wk i = 6 by rw [he]; decide) hv)
theorem mh_3 {d : mD} {x : Int} (hS : Safe d) (hx : mdB x) (i : Int) (he : i = 3) : 0 ≤ d (x + 1) i ∧ d (x + 1) i ≤ 3 := rgW_at (show wk i = 3 by rw [he]; decide) (rr_1 hS hx i (by omega))
theorem smh_3 {d : mD} {x v : Int} (hS : Safe d) (hx : mdB x) (i : Int) (he : i = 3) (hv : 0 ≤ v ∧ v ≤ 3) : Safe (mset d (x + 1) i v) := hS.set (cd_11_1 hx) (show rgW i v from rgW_of (show wk i = 3 by rw [he]; decide) hv)
theorem mo_0 {d : mD} {x : Int} (hS : Safe d) (hx : mdB x) (k : Int) (i : Int) (hk : 0 ≤ k ∧ k ≤ 5) (he : i = 12 + 68 * k + 0) : 0 ≤ d (x + 1) i ∧ d (x + 1) i ≤ 387420488 := rgW_at (wk_o hk (f := 0) (by decide) (n := 20) (by decide) (by omega)) (rr_1 hS hx i (by omega))
theorem smo_0 {d : mD} {x v : Int} (hS : Safe d) (hx : mdB x) (k : Int) (i : Int) (hk : 0 ≤ k ∧ k ≤ 5) (he : i = 12 + 68 * k + 0) (hv : 0 ≤ v ∧ v ≤ 387420488) : Safe (mset d (x + 1) i v) := hS.set (cd_11_1 hx) (show rgW i v from rgW_of (wk_o hk (f := 0) (by decide) (n := 20) (by decide) (by omega)) hv)
theorem mo_1 {d : mD} {x : Int} (hS : Safe d) (hx : mdB x) (k : Int) (i : Int) (hk : 0 ≤ k ∧ k ≤ 5) (he : i = 12 + 68 * k + 1) : 0 ≤ d (x + 1) i ∧ d (x + 1) i ≤ 4 := rgW_at (wk_o hk (f := 1) (by decide) (n := 21) (by decide) (by omega)) (rr_1 hS hx i (by omega))
theorem smo_1 {d : mD} {x v : Int} (hS : Safe d) (hx : mdB x) (k : Int) (i : Int) (hk : 0 ≤ k ∧ k ≤ 5) (he : i = 12 + 68 * k + 1) (hv : 0 ≤ v ∧ v ≤ 4) : Safe (mset d (x + 1) i v) := hS.set (cd_11_1 hx) (show rgW i v from rgW_of (wk_o hk (f := 1) (by decide) (n := 21) (by decide) (by omega)) hv)
theorem mo_2 {d : mD} {x : Int} (hS : Safe d) (hx : mdB x) (k : Int) (i : Int) (hk : 0 ≤ k ∧ k ≤ 5) (he : i = 12 + 68 * k + 2) : 0 ≤ d (x + 1) i ∧ d (x + 1) i ≤ 6 := rgW_at (wk_o hk (f := 2) (by decide) (n := 22) (by decide) (by omega)) (rr_1 hS hx i (by omega))
theorem smo_2 {d : mD} {x v : Int} (hS : Safe d) (hx : mdB x) (k : Int) (i : Int) (hk : 0 ≤ k ∧ k ≤ 5) (he : i = 12 + 68 * k + 2) (hv : 0 ≤ v ∧ v ≤ 6) : Safe (mset d (x + 1) i v) := hS.set (cd_11_1 hx) (show rgW i v from rgW_of (wk_o hk (f := 2) (by decide) (n := 22) (by decide) (by omega)) hv)
theorem mo_3 {d : mD} {x : Int} (hS : Safe d) (hx : mdB x) (k : Int) (i : Int) (hk : 0 ≤ k ∧ k ≤ 5) (he : i = 12 + 68 * k + 3) : 0 ≤ d (x + 1) i ∧ d (x + 1) i ≤ 20 := rgW_at (wk_o hk (f := 3) (by decide) (n := 23) (by decide) (by omega)) (rr_1 hS hx i (by omega))
theorem smo_3 {d : mD} {x v : Int} (hS : Safe d) (hx : mdB x) (k : Int) (i : Int) (hk : 0 ≤ k ∧ k ≤ 5) (he : i = 12 + 68 * k + 3) (hv : 0 ≤ v ∧ v ≤ 20) : Safe (mset d (x + 1) i v) := hS.set (cd_11_1 hx) (show rgW i v from rgW_of (wk_o hk (f := 3) (by decide) (n := 23) (by decide) (by omega)) hv)
theorem mo_4 {d : mD} {x : Int} (hS : Safe d) (hx : mdB x) (k : Int) (i : Int) (hk : 0 ≤ k ∧ k ≤ 5) (he : i = 12 + 68 * k + 4) : 0 ≤ d (x + 1) i ∧ d (x + 1) i ≤ 1 := rgW_at (wk_o hk (f := 4) (by decide) (n := 24) (by decide) (by omega)) (rr_1 hS hx i (by omega))
theorem smo_4 {d : mD} {x v : Int} (hS : Safe d) (hx : mdB x) (k : Int) (i : Int) (hk : 0 ≤ k ∧ k ≤ 5) (he : i = 12 + 68 * k + 4) (hv : 0 ≤ v ∧ v ≤ 1) : Safe (mset d (x + 1) i v) := hS.set (cd_11_1 hx) (show rgW i v from rgW_of (wk_o hk (f := 4) (by decide) (n := 24) (by decide) (by omega)) hv)
theorem mo_5 {d : mD} {x : Int} (hS : Safe d) (hx : mdB x) (k : Int) (i : Int) (hk : 0 ≤ k ∧ k ≤ 5) (he : i = 12 + 68 * k + 5) : 0 ≤ d (x + 1) i ∧ d (x + 1) i ≤ 61 := rgW_at (wk_o hk (f := 5) (by decide) (n := 25) (by decide) (by omega)) (rr_1 hS hx i (by omega))
theorem smo_5 {d : mD} {x v : Int} (hS : Safe d) (hx : mdB x) (k : Int) (i : Int) (hk : 0 ≤ k ∧ k ≤ 5) (he : i = 12 + 68 * k + 5) (hv : 0 ≤ v ∧ v ≤ 61) : Safe (mset d (x + 1) i v) := hS.set (cd_11_1 hx) (show rgW i v from rgW_of (wk_o hk (f := 5) (by decide) (n := 25) (by decide) (by omega)) hv)
theorem smo_6 {d : mD} {x v : Int} (hS : Safe d) (hx : mdB x) (k : Int) (i : Int) (hk : 0 ≤ k ∧ k ≤ 5) (he : i = 12 + 68 * k + 6) : Safe (mset d (x + 1) i v) := hS.set (cd_11_1 hx) (show rgW i v from rgW_of (wk_o hk (f := 6) (by decide) (n := 26) (by decide) (by omega)) trivial)
theorem mp_0 {d : mD} {x : Int} (hS : Safe d) (hx : mdB x) (k : Int) (i : Int) (hk : 0 ≤ k ∧ k ≤ 15) (he : i = 420 + 2 * k) : 0 ≤ d (x + 1) i ∧ d (x + 1) i ≤ 387420488 := rgW_at (wk_p hk (f := 0) (by decide) (n := 30) (by decide) (by omega)) (rr_1 hS hx i (by omega))
theorem smp_0 {d : mD} {x v : Int} (hS : Safe d) (hx : mdB x) (k : Int) (i : Int) (hk : 0 ≤ k ∧ k ≤ 15) (he : i = 420 + 2 * k) (hv : 0 ≤ v ∧ v ≤ 387420488) : Safe (mset d (x + 1) i v) := hS.set (cd_11_1 hx) (show rgW i v from rgW_of (wk_p hk (f := 0) (by decide) (n := 30) (by decide) (by omega)) hv)
theorem smp_1 {d : mD} {x v : Int} (hS : Safe d) (hx : mdB x) (k : Int) (i : Int) (hk : 0 ≤ k ∧ k ≤ 15) (he : i = 420 + 2 * k + 1) : Safe (mset d (x + 1) i v) := hS.set (cd_11_1 hx) (show rgW i v from rgW_of (wk_p hk (f := 1) (by decide) (n := 31) (by decide) (by omega)) trivial)
theorem mt_0 {d : mD} {x : Int} (hS : Safe d) (hx : mdB x) (k : Int) (i : Int) (hk : 0 ≤ k ∧ k ≤ 60) (he : i = 452 + 24 * k + 0) : 0 ≤ d (x + 1) i ∧ d (x + 1) i ≤ 15 := rgW_at (wk_t hk (f := 0) (by decide) (n := 40) (by decide) (by omega)) (rr_1 hS hx i (by omega))
theorem smt_0 {d : mD} {x v : Int} (hS : Safe d) (hx : mdB x) (k : Int) (i : Int) (hk : 0 ≤ k ∧ k ≤ 60) (he : i = 452 + 24 * k + 0) (hv : 0 ≤ v ∧ v ≤ 15) : Safe (mset d (x + 1) i v) := hS.set (cd_11_1 hx) (show rgW i v from rgW_of (wk_t hk (f := 0) (by decide) (n := 40) (by decide) (by omega)) hv)
theorem mt_1 {d : mD} {x : Int} (hS : Safe d) (hx : mdB x) (k : Int) (i : Int) (hk : 0 ≤ k ∧ k ≤ 60) (he : i = 452 + 24 * k + 1) : 0 ≤ d (x + 1) i ∧ d (x + 1) i ≤ 5 := rgW_at (wk_t hk (f := 1) (by decide) (n := 41) (by decide) (by omega)) (rr_1 hS hx i (by omega))
theorem smt_1 {d : mD} {x v : Int} (hS : Safe d) (hx : mdB x) (k : Int) (i : Int) (hk : 0 ≤ k ∧ k ≤ 60) (he : i = 452 + 24 * k + 1) (hv : 0 ≤ v ∧ v ≤ 5) : Safe (mset d (x + 1) i v) := hS.set (cd_11_1 hx) (show rgW i v from rgW_of (wk_t hk (f := 1) (by decide) (n := 41) (by decide) (by omega)) hv)
theorem mt_2 {d : mD} {x : Int} (hS : Safe d) (hx : mdB x) (k : Int) (i : Int) (hk : 0 ≤ k ∧ k ≤ 60) (he : i = 452 + 24 * k + 2) : 0 ≤ d (x + 1) i ∧ d (x + 1) i ≤ 1200 := rgW_at (wk_t hk (f := 2) (by decide) (n := 42) (by decide) (by omega)) (rr_1 hS hx i (by omega))
theorem smt_2 {d : mD} {x v : Int} (hS : Safe d) (hx : mdB x) (k : Int) (i : Int) (hk : 0 ≤ k ∧ k ≤ 60) (he : i = 452 + 24 * k + 2) (hv : 0 ≤ v ∧ v ≤ 1200) : Safe (mset d (x + 1) i v) := hS.set (cd_11_1 hx) (show rgW i v from rgW_of (wk_t hk (f := 2) (by decide) (n := 42) (by decide) (by omega)) hv)
theorem mt_3 {d : mD} {x : Int} (hS : Safe d) (hx : mdB x) (k : Int) (i : Int) (hk : 0 ≤ k ∧ k ≤ 60) (he : i = 452 + 24 * k + 3) : -1 ≤ d (x + 1) i ∧ d (x + 1) i ≤ 1200 := rgW_at (wk_t hk (f := 3) (by decide) (n := 43) (by decide) (by omega)) (rr_1 hS hx i (by omega))
theorem smt_3 {d : mD} {x v : Int} (hS : Safe d) (hx : mdB x) (k : Int) (i : Int) (hk : 0 ≤ k ∧ k ≤ 60) (he : i = 452 + 24 * k + 3) (hv : -1 ≤ v ∧ v ≤ 1200) : Safe (mset d (x + 1) i v) := hS.set (cd_11_1 hx) (show rgW i v from rgW_of (wk_t hk (f := 3) (by decide) (n := 43) (by decide) (by omega)) hv)
theorem mt_4 {d : mD} {x : Int} (hS : Safe d) (hx : mdB x) (k : Int) (i : Int) (hk : 0 ≤ k ∧ k ≤ 60) (he : i = 452 + 24 * k + 4) : 0 ≤ d (x + 1) i ∧ d (x + 1) i ≤ 2 := rgW_at (wk_t hk (f := 4) (by decide) (n := 44) (by decide) (by omega)) (rr_1 hS hx i (by omega))
theorem smt_4 {d : mD} {x v : Int} (hS : Safe d) (hx : mdB x) (k : Int) (i : Int) (hk : 0 ≤ k ∧ k ≤ 60) (he : i = 452 + 24 * k + 4) (hv : 0 ≤ v ∧ v ≤ 2) : Safe (mset d (x + 1) i v) := hS.set (cd_11_1 hx) (show rgW i v from rgW_of (wk_t hk (f := 4) (by decide) (n := 44) (by decide) (by omega)) hv)
theorem mt_5 {d : mD} {x : Int} (hS : Safe d) (hx : mdB x) (k : Int) (i : Int) (hk : 0 ≤ k ∧ k ≤ 60) (he : i = 452 + 24 * k + 5) : 0 ≤ d (x + 1) i ∧ d (x + 1) i ≤ 1 := rgW_at (wk_t hk (f := 5) (by decide) (n := 45) (by decide) (by omega)) (rr_1 hS hx i (by omega))
theorem smt_5 {d : mD} {x v : Int} (hS : Safe d) (hx : mdB x) (k : Int) (i : Int) (hk : 0 ≤ k ∧ k ≤ 60) (he : i = 452 + 24 * k + 5) (hv : 0 ≤ v ∧ v ≤ 1) : Safe (mset d (x + 1) i v) := hS.set (cd_11_1 hx) (show rgW i v from rgW_of (wk_t hk (f := 5) (by decide) (n := 45) (by decide) (by omega)) hv)
theorem mt_6 {d : mD} {x : Int} (hS : Safe d) (hx : mdB x) (k : Int) (i : Int) (hk : 0 ≤ k ∧ k ≤ 60) (he : i = 452 + 24 * k + 6) : 0 ≤ d (x + 1) i ∧ d (x + 1) i ≤ 1 := rgW_at (wk_t hk (f := 6) (by decide) (n := 46) (by decide) (by omega)) (rr_1 hS hx i (by omega))
theorem smt_6 {d : mD} {x v : Int} (hS : Safe d) (hx : mdB x) (k : Int) (i : Int) (hk : 0 ≤ k ∧ k ≤ 60) (he : i = 452 + 24 * k + 6) (hv : 0 ≤ v ∧ v ≤ 1) : Safe (mset d (x + 1) i v) := hS.set (cd_11_1 hx) (show rgW i v from rgW_of (wk_t hk (f := 6) (by decide) (n := 46) (by decide) (by omega)) hv)
theorem mt_7 {d : mD} {x : Int} (hS : Safe d) (hx : mdB x) (k : Int) (i : Int) (hk : 0 ≤ k ∧ k ≤ 60) (he : i = 452 + 24 * k + 7) : 0 ≤ d (x + 1) i ∧ d (x + 1) i ≤ 1000 := rgW_at (wk_t hk (f := 7) (by decide) (n := 47) (by decide) (by omega)) (rr_1 hS hx i (by omega))
theorem smt_7 {d : mD} {x v : Int} (hS : Safe d) (hx : mdB x) (k : Int) (i : Int) (hk : 0 ≤ k ∧ k ≤ 60) (he : i = 452 + 24 * k + 7) (hv : 0 ≤ v ∧ v ≤ 1000) : Safe (mset d (x + 1) i v) := hS.set (cd_11_1 hx) (show rgW i v from rgW_of (wk_t hk (f := 7) (by decide) (n := 47) (by decide) (by omega)) hv)
theorem mk_0 {d : mD} {x : Int} (hS : Safe d) (hx : mdB x) (k : Int) (i : Int) (hk : 0 ≤ k ∧ k ≤ 199) (he : i = 1916 + 5 * k + 0) : 0 ≤ d (x + 1) i ∧ d (x + 1) i ≤ 15 := rgW_at (wk_k hk (f := 0) (by decide) (n := 50) (by decide) (by omega)) (rr_1 hS hx i (by omega))
theorem smk_0 {d : mD} {x v : Int} (hS : Safe d) (hx : mdB x) (k : Int) (i : Int) (hk : 0 ≤ k ∧ k ≤ 199) (he : i = 1916 + 5 * k + 0) (hv : 0 ≤ v ∧ v ≤ 15) : Safe (mset d (x + 1) i v) := hS.set (cd_11_1 hx) (show rgW i v from rgW_of (wk_k hk (f := 0) (by decide) (n := 50) (by decide) (by omega)) hv)
theorem mk_1 {d : mD} {x : Int} (hS : Safe d) (hx : mdB x) (k : Int) (i : Int) (hk : 0 ≤ k ∧ k ≤ 199) (he : i = 1916 + 5 * k + 1) : 0 ≤ d (x + 1) i ∧ d (x + 1) i ≤ 60 := rgW_at (wk_k hk (f := 1) (by decide) (n := 51) (by decide) (by omega)) (rr_1 hS hx i (by omega))
theorem smk_1 {d : mD} {x v : Int} (hS : Safe d) (hx : mdB x) (k : Int) (i : Int) (hk : 0 ≤ k ∧ k ≤ 199) (he : i = 1916 + 5 * k + 1) (hv : 0 ≤ v ∧ v ≤ 60) : Safe (mset d (x + 1) i v) := hS.set (cd_11_1 hx) (show rgW i v from rgW_of (wk_k hk (f := 1) (by decide) (n := 51) (by decide) (by omega)) hv)
theorem mk_2 {d : mD} {x : Int} (hS : Safe d) (hx : mdB x) (k : Int) (i : Int) (hk : 0 ≤ k ∧ k ≤ 199) (he : i = 1916 + 5 * k + 2) : 0 ≤ d (x + 1) i ∧ d (x + 1) i ≤ 1300 := rgW_at (wk_k hk (f := 2) (by decide) (n := 52) (by decide) (by omega)) (rr_1 hS hx i (by omega))
theorem smk_2 {d : mD} {x v : Int} (hS : Safe d) (hx : mdB x) (k : Int) (i : Int) (hk : 0 ≤ k ∧ k ≤ 199) (he : i = 1916 + 5 * k + 2) (hv : 0 ≤ v ∧ v ≤ 1300) : Safe (mset d (x + 1) i v) := hS.set (cd_11_1 hx) (show rgW i v from rgW_of (wk_k hk (f := 2) (by decide) (n := 52) (by decide) (by omega)) hv)
theorem mk_3 {d : mD} {x : Int} (hS : Safe d) (hx : mdB x) (k : Int) (i : Int) (hk : 0 ≤ k ∧ k ≤ 199) (he : i = 1916 + 5 * k + 3) : 0 ≤ d (x + 1) i ∧ d (x + 1) i ≤ 2 := rgW_at (wk_k hk (f := 3) (by decide) (n := 53) (by decide) (by omega)) (rr_1 hS hx i (by omega))
theorem smk_3 {d : mD} {x v : Int} (hS : Safe d) (hx : mdB x) (k : Int) (i : Int) (hk : 0 ≤ k ∧ k ≤ 199) (he : i = 1916 + 5 * k + 3) (hv : 0 ≤ v ∧ v ≤ 2) : Safe (mset d (x + 1) i v) := hS.set (cd_11_1 hx) (show rgW i v from rgW_of (wk_k hk (f := 3) (by decide) (n := 53) (by decide) (by omega)) hv)
theorem mk_4 {d : mD} {x : Int} (hS : Safe d) (hx : mdB x) (k : Int) (i : Int) (hk : 0 ≤ k ∧ k ≤ 199) (he : i = 1916 + 5 * k + 4) : 0 ≤ d (x + 1) i ∧ d (x + 1) i ≤ 1200 := rgW_at (wk_k hk (f := 4) (by decide) (n := 54) (by decide) (by omega)) (rr_1 hS hx i (by omega))
theorem smk_4 {d : mD} {x v : Int} (hS : Safe d) (hx : mdB x) (k : Int) (i : Int) (hk : 0 ≤ k ∧ k ≤ 199) (he : i = 1916 + 5 * k + 4) (hv : 0 ≤ v ∧ v ≤ 1200) : Safe (mset d (x + 1) i v) := hS.set (cd_11_1 hx) (show rgW i v from rgW_of (wk_k hk (f := 4) (by decide) (n := 54) (by decide) (by omega)) hv)
theorem mf {d : mD} {x : Int} (hS : Safe d) (hx : mdB x) (k : Int) (i : Int) (hk : 0 ≤ k ∧ k ≤ 199) (he : i = 2916 + k) : 0 ≤ d (x + 1) i ∧ d (x + 1) i ≤ 199 := rgW_at (wk_f hk he) (rr_1 hS hx i (by omega))
theorem smf {d : mD} {x v : Int} (hS : Safe d) (hx : mdB x) (k : Int) (i : Int) (hk : 0 ≤ k ∧ k ≤ 199) (he : i = 2916 + k) (hv : 0 ≤ v ∧ v ≤ 199) : Safe (mset d (x + 1) i v) := hS.set (cd_11_1 hx) (show rgW i v from rgW_of (wk_f hk he) hv)
theorem mo_q {d : mD} {x : Int} (hS : Safe d) (hx : mdB x) (k e i : Int) (hk : 0 ≤ k ∧ k ≤ 5) (hq : 0 ≤ e ∧ e ≤ 60) (he : i = 12 + 68 * k + 7 + e) : 0 ≤ d (x + 1) i ∧ d (x + 1) i ≤ 60 := rgW_at (wk_q hk hq he) (rr_1 hS hx i (by omega))
theorem smo_q {d : mD} {x v : Int} (hS : Safe d) (hx : mdB x) (k e i : Int) (hk : 0 ≤ k ∧ k ≤ 5) (hq : 0 ≤ e ∧ e ≤ 60) (he : i = 12 + 68 * k + 7 + e) (hv : 0 ≤ v ∧ v ≤ 60) : Safe (mset d (x + 1) i v) := hS.set (cd_11_1 hx) (show rgW i v from rgW_of (wk_q hk hq he) hv)
theorem mt_w {d : mD} {x : Int} (hS : Safe d) (hx : mdB x) (k e i : Int) (hk : 0 ≤ k ∧ k ≤ 60) (hq : 0 ≤ e ∧ e ≤ 15) (he : i = 452 + 24 * k + 8 + e) : 0 ≤ d (x + 1) i ∧ d (x + 1) i ≤ 1201 := rgW_at (wk_w hk hq he) (rr_1 hS hx i (by omega))
theorem smt_w {d : mD} {x v : Int} (hS : Safe d) (hx : mdB x) (k e i : Int) (hk : 0 ≤ k ∧ k ≤ 60) (hq : 0 ≤ e ∧ e ≤ 15) (he : i = 452 + 24 * k + 8 + e) (hv : 0 ≤ v ∧ v ≤ 1201) : Safe (mset d (x + 1) i v) := hS.set (cd_11_1 hx) (show rgW i v from rgW_of (wk_w hk hq he) hv)
theorem smz {d : mD} {x : Int} (hS : Safe d) (hx : mdB x) (i : Int) : Safe (mset d (x + 1) i 0) := by
  refine hS.set (cd_11_1 hx) (show rk (wk i) 0 from ?_)
  generalize wk i = n
  unfold rk
  split <;> (first | trivial | exact ⟨by decide, by decide⟩)
theorem mstg {d : mD} {x : Int} (hS : Safe d) (hx : mdB x) (k i : Int) (hk : 0 ≤ k ∧ k ≤ 4) (he : i = 2 + k) : 0 ≤ d (x + 1) i ∧ d (x + 1) i ≤ 99 := by
  have h : k = 0 ∨ k = 1 ∨ k = 2 ∨ k = 3 ∨ k = 4 := by omega
  rcases h with h | h | h | h | h <;> subst h
  · exact mh_2 hS hx i he
  · have := mh_3 hS hx i he; omega
  · exact mh_4 hS hx i he
  · exact mh_5 hS hx i he
  · exact mh_6 hS hx i he
theorem smstg {d : mD} {x v : Int} (hS : Safe d) (hx : mdB x) (k i : Int) (hk : 0 ≤ k ∧ k ≤ 4) (he : i = 2 + k) (hv : (0 ≤ v ∧ v ≤ 99) ∧ (¬ k = 1 ∨ v ≤ 3)) : Safe (mset d (x + 1) i v) := by
  have h : k = 0 ∨ k = 1 ∨ k = 2 ∨ k = 3 ∨ k = 4 := by omega
  rcases h with h | h | h | h | h <;> subst h
  · exact smh_2 hS hx i he hv.1
  · exact smh_3 hS hx i he (by omega)
  · exact smh_4 hS hx i he hv.1
  · exact smh_5 hS hx i he hv.1
  · exact smh_6 hS hx i he hv.1
/-! ===== contracts of the methods: printed by a program of mine ===== -/
def v_297 (x0 : Int) (d : mD) : Int := miand ((((mland (((mland (x0 - (mland (mlushr x0 1) 6148914691236517205)) 3689348814741910323) + (mland (mlushr (x0 - (mland (mlushr x0 1) 6148914691236517205)) 2) 3689348814741910323)) + (mlushr ((mland (x0 - (mland (mlushr x0 1) 6148914691236517205)) 3689348814741910323) + (mland (mlushr (x0 - (mland (mlushr x0 1) 6148914691236517205)) 2) 3689348814741910323)) 4)) 1085102592571150095) + (mlushr (mland (((mland (x0 - (mland (mlushr x0 1) 6148914691236517205)) 3689348814741910323) + (mland (mlushr (x0 - (mland (mlushr x0 1) 6148914691236517205)) 2) 3689348814741910323)) + (mlushr ((mland (x0 - (mland (mlushr x0 1) 6148914691236517205)) 3689348814741910323) + (mland (mlushr (x0 - (mland (mlushr x0 1) 6148914691236517205)) 2) 3689348814741910323)) 4)) 1085102592571150095) 8)) + (mlushr ((mland (((mland (x0 - (mland (mlushr x0 1) 6148914691236517205)) 3689348814741910323) + (mland (mlushr (x0 - (mland (mlushr x0 1) 6148914691236517205)) 2) 3689348814741910323)) + (mlushr ((mland (x0 - (mland (mlushr x0 1) 6148914691236517205)) 3689348814741910323) + (mland (mlushr (x0 - (mland (mlushr x0 1) 6148914691236517205)) 2) 3689348814741910323)) 4)) 1085102592571150095) + (mlushr (mland (((mland (x0 - (mland (mlushr x0 1) 6148914691236517205)) 3689348814741910323) + (mland (mlushr (x0 - (mland (mlushr x0 1) 6148914691236517205)) 2) 3689348814741910323)) + (mlushr ((mland (x0 - (mland (mlushr x0 1) 6148914691236517205)) 3689348814741910323) + (mland (mlushr (x0 - (mland (mlushr x0 1) 6148914691236517205)) 2) 3689348814741910323)) 4)) 1085102592571150095) 8)) 16)) + (mlushr (((mland (((mland (x0 - (mland (mlushr x0 1) 6148914691236517205)) 3689348814741910323) + (mland (mlushr (x0 - (mland (mlushr x0 1) 6148914691236517205)) 2) 3689348814741910323)) + (mlushr ((mland (x0 - (mland (mlushr x0 1) 6148914691236517205)) 3689348814741910323) + (mland (mlushr (x0 - (mland (mlushr x0 1) 6148914691236517205)) 2) 3689348814741910323)) 4)) 1085102592571150095) + (mlushr (mland (((mland (x0 - (mland (mlushr x0 1) 6148914691236517205)) 3689348814741910323) + (mland (mlushr (x0 - (mland (mlushr x0 1) 6148914691236517205)) 2) 3689348814741910323)) + (mlushr ((mland (x0 - (mland (mlushr x0 1) 6148914691236517205)) 3689348814741910323) + (mland (mlushr (x0 - (mland (mlushr x0 1) 6148914691236517205)) 2) 3689348814741910323)) 4)) 1085102592571150095) 8)) + (mlushr ((mland (((mland (x0 - (mland (mlushr x0 1) 6148914691236517205)) 3689348814741910323) + (mland (mlushr (x0 - (mland (mlushr x0 1) 6148914691236517205)) 2) 3689348814741910323)) + (mlushr ((mland (x0 - (mland (mlushr x0 1) 6148914691236517205)) 3689348814741910323) + (mland (mlushr (x0 - (mland (mlushr x0 1) 6148914691236517205)) 2) 3689348814741910323)) 4)) 1085102592571150095) + (mlushr (mland (((mland (x0 - (mland (mlushr x0 1) 6148914691236517205)) 3689348814741910323) + (mland (mlushr (x0 - (mland (mlushr x0 1) 6148914691236517205)) 2) 3689348814741910323)) + (mlushr ((mland (x0 - (mland (mlushr x0 1) 6148914691236517205)) 3689348814741910323) + (mland (mlushr (x0 - (mland (mlushr x0 1) 6148914691236517205)) 2) 3689348814741910323)) 4)) 1085102592571150095) 8)) 16)) 32)) 127
theorem k_297 {E : mO × tW} {K : tK} {d : mD} {x0 : Int} (hS : Safe d) (h : (0 ≤ (v_297 x0 d) ∧ (v_297 x0 d) ≤ 127) → K (.inl (some (0, (v_297 x0 d)))) d) : tCall E 297 [.inl (1, x0)] d K := by
  refine t_297_0 ?_
  have q1 := miand_r ((((mland (((mland (x0 - (mland (mlushr x0 1) 6148914691236517205)) 3689348814741910323) + (mland (mlushr (x0 - (mland (mlushr x0 1) 6148914691236517205)) 2) 3689348814741910323)) + (mlushr ((mland (x0 - (mland (mlushr x0 1) 6148914691236517205)) 3689348814741910323) + (mland (mlushr (x0 - (mland (mlushr x0 1) 6148914691236517205)) 2) 3689348814741910323)) 4)) 1085102592571150095) + (mlushr (mland (((mland (x0 - (mland (mlushr x0 1) 6148914691236517205)) 3689348814741910323) + (mland (mlushr (x0 - (mland (mlushr x0 1) 6148914691236517205)) 2) 3689348814741910323)) + (mlushr ((mland (x0 - (mland (mlushr x0 1) 6148914691236517205)) 3689348814741910323) + (mland (mlushr (x0 - (mland (mlushr x0 1) 6148914691236517205)) 2) 3689348814741910323)) 4)) 1085102592571150095) 8)) + (mlushr ((mland (((mland (x0 - (mland (mlushr x0 1) 6148914691236517205)) 3689348814741910323) + (mland (mlushr (x0 - (mland (mlushr x0 1) 6148914691236517205)) 2) 3689348814741910323)) + (mlushr ((mland (x0 - (mland (mlushr x0 1) 6148914691236517205)) 3689348814741910323) + (mland (mlushr (x0 - (mland (mlushr x0 1) 6148914691236517205)) 2) 3689348814741910323)) 4)) 1085102592571150095) + (mlushr (mland (((mland (x0 - (mland (mlushr x0 1) 6148914691236517205)) 3689348814741910323) + (mland (mlushr (x0 - (mland (mlushr x0 1) 6148914691236517205)) 2) 3689348814741910323)) + (mlushr ((mland (x0 - (mland (mlushr x0 1) 6148914691236517205)) 3689348814741910323) + (mland (mlushr (x0 - (mland (mlushr x0 1) 6148914691236517205)) 2) 3689348814741910323)) 4)) 1085102592571150095) 8)) 16)) + (mlushr (((mland (((mland (x0 - (mland (mlushr x0 1) 6148914691236517205)) 3689348814741910323) + (mland (mlushr (x0 - (mland (mlushr x0 1) 6148914691236517205)) 2) 3689348814741910323)) + (mlushr ((mland (x0 - (mland (mlushr x0 1) 6148914691236517205)) 3689348814741910323) + (mland (mlushr (x0 - (mland (mlushr x0 1) 6148914691236517205)) 2) 3689348814741910323)) 4)) 1085102592571150095) + (mlushr (mland (((mland (x0 - (mland (mlushr x0 1) 6148914691236517205)) 3689348814741910323) + (mland (mlushr (x0 - (mland (mlushr x0 1) 6148914691236517205)) 2) 3689348814741910323)) + (mlushr ((mland (x0 - (mland (mlushr x0 1) 6148914691236517205)) 3689348814741910323) + (mland (mlushr (x0 - (mland (mlushr x0 1) 6148914691236517205)) 2) 3689348814741910323)) 4)) 1085102592571150095) 8)) + (mlushr ((mland (((mland (x0 - (mland (mlushr x0 1) 6148914691236517205)) 3689348814741910323) + (mland (mlushr (x0 - (mland (mlushr x0 1) 6148914691236517205)) 2) 3689348814741910323)) + (mlushr ((mland (x0 - (mland (mlushr x0 1) 6148914691236517205)) 3689348814741910323) + (mland (mlushr (x0 - (mland (mlushr x0 1) 6148914691236517205)) 2) 3689348814741910323)) 4)) 1085102592571150095) + (mlushr (mland (((mland (x0 - (mland (mlushr x0 1) 6148914691236517205)) 3689348814741910323) + (mland (mlushr (x0 - (mland (mlushr x0 1) 6148914691236517205)) 2) 3689348814741910323)) + (mlushr ((mland (x0 - (mland (mlushr x0 1) 6148914691236517205)) 3689348814741910323) + (mland (mlushr (x0 - (mland (mlushr x0 1) 6148914691236517205)) 2) 3689348814741910323)) 4)) 1085102592571150095) 8)) 16)) 32)) 127 (by decide) (by decide)
  have y0 : v_297 x0 d = miand ((((mland (((mland (x0 - (mland (mlushr x0 1) 6148914691236517205)) 3689348814741910323) + (mland (mlushr (x0 - (mland (mlushr x0 1) 6148914691236517205)) 2) 3689348814741910323)) + (mlushr ((mland (x0 - (mland (mlushr x0 1) 6148914691236517205)) 3689348814741910323) + (mland (mlushr (x0 - (mland (mlushr x0 1) 6148914691236517205)) 2) 3689348814741910323)) 4)) 1085102592571150095) + (mlushr (mland (((mland (x0 - (mland (mlushr x0 1) 6148914691236517205)) 3689348814741910323) + (mland (mlushr (x0 - (mland (mlushr x0 1) 6148914691236517205)) 2) 3689348814741910323)) + (mlushr ((mland (x0 - (mland (mlushr x0 1) 6148914691236517205)) 3689348814741910323) + (mland (mlushr (x0 - (mland (mlushr x0 1) 6148914691236517205)) 2) 3689348814741910323)) 4)) 1085102592571150095) 8)) + (mlushr ((mland (((mland (x0 - (mland (mlushr x0 1) 6148914691236517205)) 3689348814741910323) + (mland (mlushr (x0 - (mland (mlushr x0 1) 6148914691236517205)) 2) 3689348814741910323)) + (mlushr ((mland (x0 - (mland (mlushr x0 1) 6148914691236517205)) 3689348814741910323) + (mland (mlushr (x0 - (mland (mlushr x0 1) 6148914691236517205)) 2) 3689348814741910323)) 4)) 1085102592571150095) + (mlushr (mland (((mland (x0 - (mland (mlushr x0 1) 6148914691236517205)) 3689348814741910323) + (mland (mlushr (x0 - (mland (mlushr x0 1) 6148914691236517205)) 2) 3689348814741910323)) + (mlushr ((mland (x0 - (mland (mlushr x0 1) 6148914691236517205)) 3689348814741910323) + (mland (mlushr (x0 - (mland (mlushr x0 1) 6148914691236517205)) 2) 3689348814741910323)) 4)) 1085102592571150095) 8)) 16)) + (mlushr (((mland (((mland (x0 - (mland (mlushr x0 1) 6148914691236517205)) 3689348814741910323) + (mland (mlushr (x0 - (mland (mlushr x0 1) 6148914691236517205)) 2) 3689348814741910323)) + (mlushr ((mland (x0 - (mland (mlushr x0 1) 6148914691236517205)) 3689348814741910323) + (mland (mlushr (x0 - (mland (mlushr x0 1) 6148914691236517205)) 2) 3689348814741910323)) 4)) 1085102592571150095) + (mlushr (mland (((mland (x0 - (mland (mlushr x0 1) 6148914691236517205)) 3689348814741910323) + (mland (mlushr (x0 - (mland (mlushr x0 1) 6148914691236517205)) 2) 3689348814741910323)) + (mlushr ((mland (x0 - (mland (mlushr x0 1) 6148914691236517205)) 3689348814741910323) + (mland (mlushr (x0 - (mland (mlushr x0 1) 6148914691236517205)) 2) 3689348814741910323)) 4)) 1085102592571150095) 8)) + (mlushr ((mland (((mland (x0 - (mland (mlushr x0 1) 6148914691236517205)) 3689348814741910323) + (mland (mlushr (x0 - (mland (mlushr x0 1) 6148914691236517205)) 2) 3689348814741910323)) + (mlushr ((mland (x0 - (mland (mlushr x0 1) 6148914691236517205)) 3689348814741910323) + (mland (mlushr (x0 - (mland (mlushr x0 1) 6148914691236517205)) 2) 3689348814741910323)) 4)) 1085102592571150095) + (mlushr (mland (((mland (x0 - (mland (mlushr x0 1) 6148914691236517205)) 3689348814741910323) + (mland (mlushr (x0 - (mland (mlushr x0 1) 6148914691236517205)) 2) 3689348814741910323)) + (mlushr ((mland (x0 - (mland (mlushr x0 1) 6148914691236517205)) 3689348814741910323) + (mland (mlushr (x0 - (mland (mlushr x0 1) 6148914691236517205)) 2) 3689348814741910323)) 4)) 1085102592571150095) 8)) 16)) 32)) 127 := by simp only [v_297]
  rw [y0] at h
  exact h (show 0 ≤ (miand ((((mland (((mland (x0 - (mland (mlushr x0 1) 6148914691236517205)) 3689348814741910323) + (mland (mlushr (x0 - (mland (mlushr x0 1) 6148914691236517205)) 2) 3689348814741910323)) + (mlushr ((mland (x0 - (mland (mlushr x0 1) 6148914691236517205)) 3689348814741910323) + (mland (mlushr (x0 - (mland (mlushr x0 1) 6148914691236517205)) 2) 3689348814741910323)) 4)) 1085102592571150095) + (mlushr (mland (((mland (x0 - (mland (mlushr x0 1) 6148914691236517205)) 3689348814741910323) + (mland (mlushr (x0 - (mland (mlushr x0 1) 6148914691236517205)) 2) 3689348814741910323)) + (mlushr ((mland (x0 - (mland (mlushr x0 1) 6148914691236517205)) 3689348814741910323) + (mland (mlushr (x0 - (mland (mlushr x0 1) 6148914691236517205)) 2) 3689348814741910323)) 4)) 1085102592571150095) 8)) + (mlushr ((mland (((mland (x0 - (mland (mlushr x0 1) 6148914691236517205)) 3689348814741910323) + (mland (mlushr (x0 - (mland (mlushr x0 1) 6148914691236517205)) 2) 3689348814741910323)) + (mlushr ((mland (x0 - (mland (mlushr x0 1) 6148914691236517205)) 3689348814741910323) + (mland (mlushr (x0 - (mland (mlushr x0 1) 6148914691236517205)) 2) 3689348814741910323)) 4)) 1085102592571150095) + (mlushr (mland (((mland (x0 - (mland (mlushr x0 1) 6148914691236517205)) 3689348814741910323) + (mland (mlushr (x0 - (mland (mlushr x0 1) 6148914691236517205)) 2) 3689348814741910323)) + (mlushr ((mland (x0 - (mland (mlushr x0 1) 6148914691236517205)) 3689348814741910323) + (mland (mlushr (x0 - (mland (mlushr x0 1) 6148914691236517205)) 2) 3689348814741910323)) 4)) 1085102592571150095) 8)) 16)) + (mlushr (((mland (((mland (x0 - (mland (mlushr x0 1) 6148914691236517205)) 3689348814741910323) + (mland (mlushr (x0 - (mland (mlushr x0 1) 6148914691236517205)) 2) 3689348814741910323)) + (mlushr ((mland (x0 - (mland (mlushr x0 1) 6148914691236517205)) 3689348814741910323) + (mland (mlushr (x0 - (mland (mlushr x0 1) 6148914691236517205)) 2) 3689348814741910323)) 4)) 1085102592571150095) + (mlushr (mland (((mland (x0 - (mland (mlushr x0 1) 6148914691236517205)) 3689348814741910323) + (mland (mlushr (x0 - (mland (mlushr x0 1) 6148914691236517205)) 2) 3689348814741910323)) + (mlushr ((mland (x0 - (mland (mlushr x0 1) 6148914691236517205)) 3689348814741910323) + (mland (mlushr (x0 - (mland (mlushr x0 1) 6148914691236517205)) 2) 3689348814741910323)) 4)) 1085102592571150095) 8)) + (mlushr ((mland (((mland (x0 - (mland (mlushr x0 1) 6148914691236517205)) 3689348814741910323) + (mland (mlushr (x0 - (mland (mlushr x0 1) 6148914691236517205)) 2) 3689348814741910323)) + (mlushr ((mland (x0 - (mland (mlushr x0 1) 6148914691236517205)) 3689348814741910323) + (mland (mlushr (x0 - (mland (mlushr x0 1) 6148914691236517205)) 2) 3689348814741910323)) 4)) 1085102592571150095) + (mlushr (mland (((mland (x0 - (mland (mlushr x0 1) 6148914691236517205)) 3689348814741910323) + (mland (mlushr (x0 - (mland (mlushr x0 1) 6148914691236517205)) 2) 3689348814741910323)) + (mlushr ((mland (x0 - (mland (mlushr x0 1) 6148914691236517205)) 3689348814741910323) + (mland (mlushr (x0 - (mland (mlushr x0 1) 6148914691236517205)) 2) 3689348814741910323)) 4)) 1085102592571150095) 8)) 16)) 32)) 127) ∧ (miand ((((mland (((mland (x0 - (mland (mlushr x0 1) 6148914691236517205)) 3689348814741910323) + (mland (mlushr (x0 - (mland (mlushr x0 1) 6148914691236517205)) 2) 3689348814741910323)) + (mlushr ((mland (x0 - (mland (mlushr x0 1) 6148914691236517205)) 3689348814741910323) + (mland (mlushr (x0 - (mland (mlushr x0 1) 6148914691236517205)) 2) 3689348814741910323)) 4)) 1085102592571150095) + (mlushr (mland (((mland (x0 - (mland (mlushr x0 1) 6148914691236517205)) 3689348814741910323) + (mland (mlushr (x0 - (mland (mlushr x0 1) 6148914691236517205)) 2) 3689348814741910323)) + (mlushr ((mland (x0 - (mland (mlushr x0 1) 6148914691236517205)) 3689348814741910323) + (mland (mlushr (x0 - (mland (mlushr x0 1) 6148914691236517205)) 2) 3689348814741910323)) 4)) 1085102592571150095) 8)) + (mlushr ((mland (((mland (x0 - (mland (mlushr x0 1) 6148914691236517205)) 3689348814741910323) + (mland (mlushr (x0 - (mland (mlushr x0 1) 6148914691236517205)) 2) 3689348814741910323)) + (mlushr ((mland (x0 - (mland (mlushr x0 1) 6148914691236517205)) 3689348814741910323) + (mland (mlushr (x0 - (mland (mlushr x0 1) 6148914691236517205)) 2) 3689348814741910323)) 4)) 1085102592571150095) + (mlushr (mland (((mland (x0 - (mland (mlushr x0 1) 6148914691236517205)) 3689348814741910323) + (mland (mlushr (x0 - (mland (mlushr x0 1) 6148914691236517205)) 2) 3689348814741910323)) + (mlushr ((mland (x0 - (mland (mlushr x0 1) 6148914691236517205)) 3689348814741910323) + (mland (mlushr (x0 - (mland (mlushr x0 1) 6148914691236517205)) 2) 3689348814741910323)) 4)) 1085102592571150095) 8)) 16)) + (mlushr (((mland (((mland (x0 - (mland (mlushr x0 1) 6148914691236517205)) 3689348814741910323) + (mland (mlushr (x0 - (mland (mlushr x0 1) 6148914691236517205)) 2) 3689348814741910323)) + (mlushr ((mland (x0 - (mland (mlushr x0 1) 6148914691236517205)) 3689348814741910323) + (mland (mlushr (x0 - (mland (mlushr x0 1) 6148914691236517205)) 2) 3689348814741910323)) 4)) 1085102592571150095) + (mlushr (mland (((mland (x0 - (mland (mlushr x0 1) 6148914691236517205)) 3689348814741910323) + (mland (mlushr (x0 - (mland (mlushr x0 1) 6148914691236517205)) 2) 3689348814741910323)) + (mlushr ((mland (x0 - (mland (mlushr x0 1) 6148914691236517205)) 3689348814741910323) + (mland (mlushr (x0 - (mland (mlushr x0 1) 6148914691236517205)) 2) 3689348814741910323)) 4)) 1085102592571150095) 8)) + (mlushr ((mland (((mland (x0 - (mland (mlushr x0 1) 6148914691236517205)) 3689348814741910323) + (mland (mlushr (x0 - (mland (mlushr x0 1) 6148914691236517205)) 2) 3689348814741910323)) + (mlushr ((mland (x0 - (mland (mlushr x0 1) 6148914691236517205)) 3689348814741910323) + (mland (mlushr (x0 - (mland (mlushr x0 1) 6148914691236517205)) 2) 3689348814741910323)) 4)) 1085102592571150095) + (mlushr (mland (((mland (x0 - (mland (mlushr x0 1) 6148914691236517205)) 3689348814741910323) + (mland (mlushr (x0 - (mland (mlushr x0 1) 6148914691236517205)) 2) 3689348814741910323)) + (mlushr ((mland (x0 - (mland (mlushr x0 1) 6148914691236517205)) 3689348814741910323) + (mland (mlushr (x0 - (mland (mlushr x0 1) 6148914691236517205)) 2) 3689348814741910323)) 4)) 1085102592571150095) 8)) 16)) 32)) 127) ≤ 127 from (miand_r _ _ (by decide) (by decide)))
def v_298 (x0 : Int) (d : mD) : Int := miand (((miand (((miand (x0 - (miand (miushr x0 1) 1431655765)) 858993459) + (miand (miushr (x0 - (miand (miushr x0 1) 1431655765)) 2) 858993459)) + (miushr ((miand (x0 - (miand (miushr x0 1) 1431655765)) 858993459) + (miand (miushr (x0 - (miand (miushr x0 1) 1431655765)) 2) 858993459)) 4)) 252645135) + (miushr (miand (((miand (x0 - (miand (miushr x0 1) 1431655765)) 858993459) + (miand (miushr (x0 - (miand (miushr x0 1) 1431655765)) 2) 858993459)) + (miushr ((miand (x0 - (miand (miushr x0 1) 1431655765)) 858993459) + (miand (miushr (x0 - (miand (miushr x0 1) 1431655765)) 2) 858993459)) 4)) 252645135) 8)) + (miushr ((miand (((miand (x0 - (miand (miushr x0 1) 1431655765)) 858993459) + (miand (miushr (x0 - (miand (miushr x0 1) 1431655765)) 2) 858993459)) + (miushr ((miand (x0 - (miand (miushr x0 1) 1431655765)) 858993459) + (miand (miushr (x0 - (miand (miushr x0 1) 1431655765)) 2) 858993459)) 4)) 252645135) + (miushr (miand (((miand (x0 - (miand (miushr x0 1) 1431655765)) 858993459) + (miand (miushr (x0 - (miand (miushr x0 1) 1431655765)) 2) 858993459)) + (miushr ((miand (x0 - (miand (miushr x0 1) 1431655765)) 858993459) + (miand (miushr (x0 - (miand (miushr x0 1) 1431655765)) 2) 858993459)) 4)) 252645135) 8)) 16)) 63
theorem k_298 {E : mO × tW} {K : tK} {d : mD} {x0 : Int} (hS : Safe d) (h : (0 ≤ (v_298 x0 d) ∧ (v_298 x0 d) ≤ 63) → K (.inl (some (0, (v_298 x0 d)))) d) : tCall E 298 [.inl (0, x0)] d K := by
  refine t_298_0 ?_
  have q1 := miand_r (((miand (((miand (x0 - (miand (miushr x0 1) 1431655765)) 858993459) + (miand (miushr (x0 - (miand (miushr x0 1) 1431655765)) 2) 858993459)) + (miushr ((miand (x0 - (miand (miushr x0 1) 1431655765)) 858993459) + (miand (miushr (x0 - (miand (miushr x0 1) 1431655765)) 2) 858993459)) 4)) 252645135) + (miushr (miand (((miand (x0 - (miand (miushr x0 1) 1431655765)) 858993459) + (miand (miushr (x0 - (miand (miushr x0 1) 1431655765)) 2) 858993459)) + (miushr ((miand (x0 - (miand (miushr x0 1) 1431655765)) 858993459) + (miand (miushr (x0 - (miand (miushr x0 1) 1431655765)) 2) 858993459)) 4)) 252645135) 8)) + (miushr ((miand (((miand (x0 - (miand (miushr x0 1) 1431655765)) 858993459) + (miand (miushr (x0 - (miand (miushr x0 1) 1431655765)) 2) 858993459)) + (miushr ((miand (x0 - (miand (miushr x0 1) 1431655765)) 858993459) + (miand (miushr (x0 - (miand (miushr x0 1) 1431655765)) 2) 858993459)) 4)) 252645135) + (miushr (miand (((miand (x0 - (miand (miushr x0 1) 1431655765)) 858993459) + (miand (miushr (x0 - (miand (miushr x0 1) 1431655765)) 2) 858993459)) + (miushr ((miand (x0 - (miand (miushr x0 1) 1431655765)) 858993459) + (miand (miushr (x0 - (miand (miushr x0 1) 1431655765)) 2) 858993459)) 4)) 252645135) 8)) 16)) 63 (by decide) (by decide)
  have y0 : v_298 x0 d = miand (((miand (((miand (x0 - (miand (miushr x0 1) 1431655765)) 858993459) + (miand (miushr (x0 - (miand (miushr x0 1) 1431655765)) 2) 858993459)) + (miushr ((miand (x0 - (miand (miushr x0 1) 1431655765)) 858993459) + (miand (miushr (x0 - (miand (miushr x0 1) 1431655765)) 2) 858993459)) 4)) 252645135) + (miushr (miand (((miand (x0 - (miand (miushr x0 1) 1431655765)) 858993459) + (miand (miushr (x0 - (miand (miushr x0 1) 1431655765)) 2) 858993459)) + (miushr ((miand (x0 - (miand (miushr x0 1) 1431655765)) 858993459) + (miand (miushr (x0 - (miand (miushr x0 1) 1431655765)) 2) 858993459)) 4)) 252645135) 8)) + (miushr ((miand (((miand (x0 - (miand (miushr x0 1) 1431655765)) 858993459) + (miand (miushr (x0 - (miand (miushr x0 1) 1431655765)) 2) 858993459)) + (miushr ((miand (x0 - (miand (miushr x0 1) 1431655765)) 858993459) + (miand (miushr (x0 - (miand (miushr x0 1) 1431655765)) 2) 858993459)) 4)) 252645135) + (miushr (miand (((miand (x0 - (miand (miushr x0 1) 1431655765)) 858993459) + (miand (miushr (x0 - (miand (miushr x0 1) 1431655765)) 2) 858993459)) + (miushr ((miand (x0 - (miand (miushr x0 1) 1431655765)) 858993459) + (miand (miushr (x0 - (miand (miushr x0 1) 1431655765)) 2) 858993459)) 4)) 252645135) 8)) 16)) 63 := by simp only [v_298]
  rw [y0] at h
  exact h (show 0 ≤ (miand (((miand (((miand (x0 - (miand (miushr x0 1) 1431655765)) 858993459) + (miand (miushr (x0 - (miand (miushr x0 1) 1431655765)) 2) 858993459)) + (miushr ((miand (x0 - (miand (miushr x0 1) 1431655765)) 858993459) + (miand (miushr (x0 - (miand (miushr x0 1) 1431655765)) 2) 858993459)) 4)) 252645135) + (miushr (miand (((miand (x0 - (miand (miushr x0 1) 1431655765)) 858993459) + (miand (miushr (x0 - (miand (miushr x0 1) 1431655765)) 2) 858993459)) + (miushr ((miand (x0 - (miand (miushr x0 1) 1431655765)) 858993459) + (miand (miushr (x0 - (miand (miushr x0 1) 1431655765)) 2) 858993459)) 4)) 252645135) 8)) + (miushr ((miand (((miand (x0 - (miand (miushr x0 1) 1431655765)) 858993459) + (miand (miushr (x0 - (miand (miushr x0 1) 1431655765)) 2) 858993459)) + (miushr ((miand (x0 - (miand (miushr x0 1) 1431655765)) 858993459) + (miand (miushr (x0 - (miand (miushr x0 1) 1431655765)) 2) 858993459)) 4)) 252645135) + (miushr (miand (((miand (x0 - (miand (miushr x0 1) 1431655765)) 858993459) + (miand (miushr (x0 - (miand (miushr x0 1) 1431655765)) 2) 858993459)) + (miushr ((miand (x0 - (miand (miushr x0 1) 1431655765)) 858993459) + (miand (miushr (x0 - (miand (miushr x0 1) 1431655765)) 2) 858993459)) 4)) 252645135) 8)) 16)) 63) ∧ (miand (((miand (((miand (x0 - (miand (miushr x0 1) 1431655765)) 858993459) + (miand (miushr (x0 - (miand (miushr x0 1) 1431655765)) 2) 858993459)) + (miushr ((miand (x0 - (miand (miushr x0 1) 1431655765)) 858993459) + (miand (miushr (x0 - (miand (miushr x0 1) 1431655765)) 2) 858993459)) 4)) 252645135) + (miushr (miand (((miand (x0 - (miand (miushr x0 1) 1431655765)) 858993459) + (miand (miushr (x0 - (miand (miushr x0 1) 1431655765)) 2) 858993459)) + (miushr ((miand (x0 - (miand (miushr x0 1) 1431655765)) 858993459) + (miand (miushr (x0 - (miand (miushr x0 1) 1431655765)) 2) 858993459)) 4)) 252645135) 8)) + (miushr ((miand (((miand (x0 - (miand (miushr x0 1) 1431655765)) 858993459) + (miand (miushr (x0 - (miand (miushr x0 1) 1431655765)) 2) 858993459)) + (miushr ((miand (x0 - (miand (miushr x0 1) 1431655765)) 858993459) + (miand (miushr (x0 - (miand (miushr x0 1) 1431655765)) 2) 858993459)) 4)) 252645135) + (miushr (miand (((miand (x0 - (miand (miushr x0 1) 1431655765)) 858993459) + (miand (miushr (x0 - (miand (miushr x0 1) 1431655765)) 2) 858993459)) + (miushr ((miand (x0 - (miand (miushr x0 1) 1431655765)) 858993459) + (miand (miushr (x0 - (miand (miushr x0 1) 1431655765)) 2) 858993459)) 4)) 252645135) 8)) 16)) 63) ≤ 63 from (miand_r _ _ (by decide) (by decide)))
def g_299 (x0 x1 : Int) (d : mD) : mD := mfl d x0 x1 16
theorem k_299 {E : mO × tW} {K : tK} {d : mD} {x0 x1 : Int} (hS : Safe d) (hr : ∀ i, rg (tcd x0) i x1) (h : (∀ b : Int, (b < x0 ∨ x0 < b) → (g_299 x0 x1 d) b = d b) → Safe (g_299 x0 x1 d) → K (.inl none) (g_299 x0 x1 d)) : tCall E 299 [.inr (18, x0), .inl (0, x1)] d K := by
  refine t_299_0 ?_
  refine t_rounds (fun i d => (5, [.inr (18, x0), .inl (0, x1), .inl (0, i), .inl (0, 16)], [], 0, 0, d)) (fun i d' => d' = mfl d x0 x1 i) (N := 16) (by decide) (fun i d' h0 h1 hd k => ?_) (fun d' hd => ?_) (mfl_0 d x0 x1).symm
  · subst hd
    exact t_299_5 ⟨⟨m_inR (by omega) (by omega), m_inR (by omega) (by omega)⟩, fun c => absurd c (by omega), fun _ => ⟨⟨h0, h1⟩, k _ (mfl_s d x0 x1 h0)⟩⟩
  · subst hd
    exact t_299_5 ⟨⟨m_inR (by omega) (by omega), m_inR (by omega) (by omega)⟩, fun _ => h (fun b hb => mfl_ne (by omega)) (hS.fl hr), fun c => absurd c (by omega)⟩
def g_300 (x0 x1 : Int) (d : mD) : mD := mfl d x0 x1 16
theorem k_300 {E : mO × tW} {K : tK} {d : mD} {x0 x1 : Int} (hS : Safe d) (hr : ∀ i, rg (tcd x0) i x1) (h : (∀ b : Int, (b < x0 ∨ x0 < b) → (g_300 x0 x1 d) b = d b) → Safe (g_300 x0 x1 d) → K (.inl none) (g_300 x0 x1 d)) : tCall E 300 [.inr (20, x0), .inl (1, x1)] d K := by
  refine t_300_0 ?_
  refine t_rounds (fun i d => (6, [.inr (20, x0), .inl (1, x1), tu, .inl (0, i), .inl (0, 16)], [], 0, 0, d)) (fun i d' => d' = mfl d x0 x1 i) (N := 16) (by decide) (fun i d' h0 h1 hd k => ?_) (fun d' hd => ?_) (mfl_0 d x0 x1).symm
  · subst hd
    exact t_300_6 ⟨⟨m_inR (by omega) (by omega), m_inR (by omega) (by omega)⟩, fun c => absurd c (by omega), fun _ => ⟨⟨h0, h1⟩, k _ (mfl_s d x0 x1 h0)⟩⟩
  · subst hd
    exact t_300_6 ⟨⟨m_inR (by omega) (by omega), m_inR (by omega) (by omega)⟩, fun _ => h (fun b hb => mfl_ne (by omega)) (hS.fl hr), fun c => absurd c (by omega)⟩
def v_6 (x0 x1 : Int) (d : mD) : Int := if x1 < 0 then 0 else if (999 : Int) < x1 then 0 else if mcmp (mland (mlushr (d (x0 + 1) (mishr x1 6)) (miand x1 63)) 1) 0 = 0 then 0 else 1
theorem k_6 {E : mO × tW} {K : tK} {d : mD} {x0 x1 : Int} (hS : Safe d) (hx0 : hsB x0) (p1 : -2147483648 ≤ x1 ∧ x1 ≤ 2147483647) (h : (0 ≤ (v_6 x0 x1 d) ∧ (v_6 x0 x1 d) ≤ 1) → K (.inl (some (0, (v_6 x0 x1 d)))) d) : tCall E 6 [.inr (1, x0), .inl (0, x1)] d K := by
  refine t_6_0 ?_
  have w1 := mishr6_r x1
  refine ⟨m_inR (by omega) (by omega), fun c0 => ?_, fun c0 => ?_⟩
  · refine ⟨by omega, ?_⟩
    have y0 : v_6 x0 x1 d = 0 := by simp only [v_6, if_pos (show x1 < 0 from c0)]
    rw [y0] at h
    exact h (show 0 ≤ ((0 : Int)) ∧ ((0 : Int)) ≤ 1 from (by omega))
  · refine ⟨⟨m_inR (by omega) (by omega), m_inR (by omega) (by omega)⟩, fun c1 => ?_, fun c1 => ?_⟩
    · refine ⟨by omega, ?_⟩
      have y0 : v_6 x0 x1 d = 0 := by simp only [v_6, if_neg (show ¬ x1 < 0 from Int.not_lt.mpr c0), if_pos (show (999 : Int) < x1 from c1)]
      rw [y0] at h
      exact h (show 0 ≤ ((0 : Int)) ∧ ((0 : Int)) ≤ 1 from (by omega))
    · have q1 := mcmp_r (mland (mlushr (d (x0 + 1) (mishr x1 6)) (miand x1 63)) 1) 0
      refine ⟨by omega, ⟨mJ_inL _ _ _, ⟨by omega, by omega⟩⟩, m_inR (by omega) (by omega), fun c2 => ?_, fun c2 => ?_⟩
      · refine ⟨by omega, ?_⟩
        have y0 : v_6 x0 x1 d = 0 := by simp only [v_6, if_neg (show ¬ x1 < 0 from Int.not_lt.mpr c0), if_neg (show ¬ (999 : Int) < x1 from Int.not_lt.mpr c1), if_pos (show mcmp (mland (mlushr (d (x0 + 1) (mishr x1 6)) (miand x1 63)) 1) 0 = 0 from c2)]
        rw [y0] at h
        exact h (show 0 ≤ ((0 : Int)) ∧ ((0 : Int)) ≤ 1 from (by omega))
      · refine ⟨by omega, ?_⟩
        have y0 : v_6 x0 x1 d = 1 := by simp only [v_6, if_neg (show ¬ x1 < 0 from Int.not_lt.mpr c0), if_neg (show ¬ (999 : Int) < x1 from Int.not_lt.mpr c1), if_neg (show ¬ mcmp (mland (mlushr (d (x0 + 1) (mishr x1 6)) (miand x1 63)) 1) 0 = 0 from c2)]
        rw [y0] at h
        exact h (show 0 ≤ ((1 : Int)) ∧ ((1 : Int)) ≤ 1 from (by omega))
def g_7 (x0 x1 : Int) (d : mD) : mD := if x1 < 0 then d else if (999 : Int) < x1 then d else mset d (x0 + 1) (mishr x1 6) (mlor (d (x0 + 1) (mishr x1 6)) (mlshl 1 (miand x1 63)))
theorem k_7 {E : mO × tW} {K : tK} {d : mD} {x0 x1 : Int} (hS : Safe d) (hx0 : hsB x0) (p1 : -2147483648 ≤ x1 ∧ x1 ≤ 2147483647) (h : (∀ b : Int, (b < x0 + 1 ∨ x0 + 1 < b) → (g_7 x0 x1 d) b = d b) → Safe (g_7 x0 x1 d) → K (.inl none) (g_7 x0 x1 d)) : tCall E 7 [.inr (1, x0), .inl (0, x1)] d K := by
  refine t_7_0 ?_
  have w1 := mishr6_r x1
  refine ⟨m_inR (by omega) (by omega), fun c0 => ?_, fun c0 => ?_⟩
  · have y0 : g_7 x0 x1 d = d := by simp only [g_7, if_pos (show x1 < 0 from c0)]
    rw [y0] at h
    exact h (show ∀ b : Int, (b < x0 + 1 ∨ x0 + 1 < b) → d b = d b from fun _ _ => rfl) hS
  · refine ⟨⟨m_inR (by omega) (by omega), m_inR (by omega) (by omega)⟩, fun c1 => ?_, fun c1 => ?_⟩
    · have y0 : g_7 x0 x1 d = d := by simp only [g_7, if_neg (show ¬ x1 < 0 from Int.not_lt.mpr c0), if_pos (show (999 : Int) < x1 from c1)]
      rw [y0] at h
      exact h (show ∀ b : Int, (b < x0 + 1 ∨ x0 + 1 < b) → d b = d b from fun _ _ => rfl) hS
    · refine ⟨by omega, by omega, ?_⟩
      have hS1 : Safe (mset d (x0 + 1) (mishr x1 6) (mlor (d (x0 + 1) (mishr x1 6)) (mlshl 1 (miand x1 63)))) := s_1_1 hS hx0
      have y0 : g_7 x0 x1 d = mset d (x0 + 1) (mishr x1 6) (mlor (d (x0 + 1) (mishr x1 6)) (mlshl 1 (miand x1 63))) := by simp only [g_7, if_neg (show ¬ x1 < 0 from Int.not_lt.mpr c0), if_neg (show ¬ (999 : Int) < x1 from Int.not_lt.mpr c1)]
      rw [y0] at h
      exact h (show ∀ b : Int, (b < x0 + 1 ∨ x0 + 1 < b) → (mset d (x0 + 1) (mishr x1 6) (mlor (d (x0 + 1) (mishr x1 6)) (mlshl 1 (miand x1 63)))) b = d b from fun b hb => mset_ne (by omega)) hS1
def g_8 (x0 : Int) (d : mD) : mD := g_300 (x0 + 1) 0 d
theorem k_8 {E : mO × tW} {K : tK} {d : mD} {x0 : Int} (hS : Safe d) (hx0 : hsB x0) (h : (∀ b : Int, (b < x0 + 1 ∨ x0 + 1 < b) → (g_8 x0 d) b = d b) → Safe (g_8 x0 d) → K (.inl none) (g_8 x0 d)) : tCall E 8 [.inr (1, x0)] d K := by
  refine t_8_0 ?_
  refine k_300 hS (fun i => tcd_hs hx0 i _) (fun F1 hS1 => ?_)
  refine t_8_8 ?_
  have y0 : g_8 x0 d = g_300 (x0 + 1) 0 d := by simp only [g_8]
  rw [y0] at h
  exact h (show ∀ b : Int, (b < x0 + 1 ∨ x0 + 1 < b) → (g_300 (x0 + 1) 0 d) b = d b from fun b hb => F1 b (by omega)) hS1
def st_9_4 (x0 : Int) (r4 : Int → Int → mD → Int) (x1 x2 : Int) (d : mD) : Int := if x2 < 16 then r4 (x1 + (v_297 (d (x0 + 1) x2) d)) (x2 + 1) d else x1
def lp_9_4 (x0 : Int) : Nat → Int → Int → mD → Int
  | 0 => st_9_4 x0 (fun _ _ d => 0)
  | n + 1 => st_9_4 x0 (lp_9_4 x0 n)
theorem ls_9_4 {E : mO × tW} {K : tK} {x0 : Int} (hx0 : hsB x0) (N4 : Int) (r4 : Int → Int → mD → Int) (ih4 : ∀ (x1 x2 : Int) (d : mD), Safe d → (0 ≤ x2 ∧ x2 ≤ 16) → (0 ≤ x1 ∧ x1 ≤ 127 * x2) → 0 ≤ 16 - x2 → 16 - x2 < N4 → ((0 ≤ (r4 x1 x2 d) ∧ (r4 x1 x2 d) ≤ 2032) → K (.inl (some (0, (r4 x1 x2 d)))) d) → tRun E 9 (4, [.inr (1, x0), .inl (0, x1), .inl (0, x2)], [], 0, 0, d) K) (x1 x2 : Int) (d : mD) (hS : Safe d) (i0 : 0 ≤ x2 ∧ x2 ≤ 16) (i1 : 0 ≤ x1 ∧ x1 ≤ 127 * x2) (hm : 16 - x2 ≤ N4) (h : (0 ≤ (st_9_4 x0 r4 x1 x2 d) ∧ (st_9_4 x0 r4 x1 x2 d) ≤ 2032) → K (.inl (some (0, (st_9_4 x0 r4 x1 x2 d)))) d) : tRun E 9 (4, [.inr (1, x0), .inl (0, x1), .inl (0, x2)], [], 0, 0, d) K := by
  refine t_9_4 ?_
  refine ⟨⟨m_inR (by omega) (by omega), m_inR (by omega) (by omega)⟩, fun c0 => ?_, fun c0 => ?_⟩
  · have y0 : st_9_4 x0 r4 x1 x2 d = x1 := by simp only [st_9_4, if_neg (show ¬ x2 < 16 from Int.not_lt.mpr c0)]
    rw [y0] at h
    exact h (show 0 ≤ x1 ∧ x1 ≤ 2032 from (by omega))
  · refine ⟨by omega, ?_⟩
    refine k_297 hS (fun e1 => ?_)
    refine t_9_20 ?_
    refine ih4 (x1 + (v_297 (d (x0 + 1) x2) d)) (x2 + 1)  d hS (by omega) (by omega) (by omega) (by omega) ?_
    intro e
    have y0 : st_9_4 x0 r4 x1 x2 d = r4 (x1 + (v_297 (d (x0 + 1) x2) d)) (x2 + 1) d := by simp only [st_9_4, if_pos (show x2 < 16 from c0)]
    rw [y0] at h
    exact h e
theorem l_9_4 {E : mO × tW} {K : tK} {x0 : Int} (hx0 : hsB x0) : ∀ (n : Nat) (x1 x2 : Int) (d : mD), Safe d → (0 ≤ x2 ∧ x2 ≤ 16) → (0 ≤ x1 ∧ x1 ≤ 127 * x2) → 16 - x2 ≤ (n : Int) → ((0 ≤ (lp_9_4 x0 n x1 x2 d) ∧ (lp_9_4 x0 n x1 x2 d) ≤ 2032) → K (.inl (some (0, (lp_9_4 x0 n x1 x2 d)))) d) → tRun E 9 (4, [.inr (1, x0), .inl (0, x1), .inl (0, x2)], [], 0, 0, d) K := by
  intro n
  induction n with
  | zero =>
    intro x1 x2  d hS i0 i1 hm  h
    exact ls_9_4 hx0 0 _ (fun _ _  _ _ _ _ m0 m1 _ => absurd m1 (by omega)) x1 x2  d hS i0 i1 hm  h
  | succ n ih =>
    intro x1 x2  d hS i0 i1 hm  h
    exact ls_9_4 hx0 ((n + 1 : Nat) : Int) _ (fun x1 x2  d hS i0 i1  m0 m1 h => ih x1 x2  d hS i0 i1 (by omega)  h) x1 x2  d hS i0 i1 hm  h
def v_9 (x0 : Int) (d : mD) : Int := lp_9_4 x0 (16 - 0 : Int).toNat 0 0 d
theorem k_9 {E : mO × tW} {K : tK} {d : mD} {x0 : Int} (hS : Safe d) (hx0 : hsB x0) (h : (0 ≤ (v_9 x0 d) ∧ (v_9 x0 d) ≤ 2032) → K (.inl (some (0, (v_9 x0 d)))) d) : tCall E 9 [.inr (1, x0)] d K := by
  refine t_9_0 ?_
  refine l_9_4 hx0 (16 - 0 : Int).toNat 0 0  d hS (by omega) (by omega) (by omega) ?_
  intro e
  have y0 : v_9 x0 d = lp_9_4 x0 (16 - 0 : Int).toNat 0 0 d := by simp only [v_9]
  rw [y0] at h
  exact h e
def st_10_4 (x0 x1 : Int) (r4 : Int → Int → mD → Int) (x2 x3 : Int) (d : mD) : Int := if x3 < 16 then r4 (x2 + (v_297 (mland (d (x0 + 1) x3) (mlxor (d (x1 + 1) x3) ((-1)))) d)) (x3 + 1) d else x2
def lp_10_4 (x0 x1 : Int) : Nat → Int → Int → mD → Int
  | 0 => st_10_4 x0 x1 (fun _ _ d => 0)
  | n + 1 => st_10_4 x0 x1 (lp_10_4 x0 x1 n)
theorem ls_10_4 {E : mO × tW} {K : tK} {x0 x1 : Int} (hx0 : hsB x0) (hx1 : hsB x1) (N4 : Int) (r4 : Int → Int → mD → Int) (ih4 : ∀ (x2 x3 : Int) (d : mD), Safe d → (0 ≤ x3 ∧ x3 ≤ 16) → (0 ≤ x2 ∧ x2 ≤ 127 * x3) → 0 ≤ 16 - x3 → 16 - x3 < N4 → ((0 ≤ (r4 x2 x3 d) ∧ (r4 x2 x3 d) ≤ 2032) → K (.inl (some (0, (r4 x2 x3 d)))) d) → tRun E 10 (4, [.inr (1, x0), .inr (1, x1), .inl (0, x2), .inl (0, x3)], [], 0, 0, d) K) (x2 x3 : Int) (d : mD) (hS : Safe d) (i0 : 0 ≤ x3 ∧ x3 ≤ 16) (i1 : 0 ≤ x2 ∧ x2 ≤ 127 * x3) (hm : 16 - x3 ≤ N4) (h : (0 ≤ (st_10_4 x0 x1 r4 x2 x3 d) ∧ (st_10_4 x0 x1 r4 x2 x3 d) ≤ 2032) → K (.inl (some (0, (st_10_4 x0 x1 r4 x2 x3 d)))) d) : tRun E 10 (4, [.inr (1, x0), .inr (1, x1), .inl (0, x2), .inl (0, x3)], [], 0, 0, d) K := by
  refine t_10_4 ?_
  refine ⟨⟨m_inR (by omega) (by omega), m_inR (by omega) (by omega)⟩, fun c0 => ?_, fun c0 => ?_⟩
  · have y0 : st_10_4 x0 x1 r4 x2 x3 d = x2 := by simp only [st_10_4, if_neg (show ¬ x3 < 16 from Int.not_lt.mpr c0)]
    rw [y0] at h
    exact h (show 0 ≤ x2 ∧ x2 ≤ 2032 from (by omega))
  · refine ⟨by omega, by omega, ?_⟩
    refine k_297 hS (fun e1 => ?_)
    refine t_10_31 ?_
    refine ih4 (x2 + (v_297 (mland (d (x0 + 1) x3) (mlxor (d (x1 + 1) x3) ((-1)))) d)) (x3 + 1)  d hS (by omega) (by omega) (by omega) (by omega) ?_
    intro e
    have y0 : st_10_4 x0 x1 r4 x2 x3 d = r4 (x2 + (v_297 (mland (d (x0 + 1) x3) (mlxor (d (x1 + 1) x3) ((-1)))) d)) (x3 + 1) d := by simp only [st_10_4, if_pos (show x3 < 16 from c0)]
    rw [y0] at h
    exact h e
theorem l_10_4 {E : mO × tW} {K : tK} {x0 x1 : Int} (hx0 : hsB x0) (hx1 : hsB x1) : ∀ (n : Nat) (x2 x3 : Int) (d : mD), Safe d → (0 ≤ x3 ∧ x3 ≤ 16) → (0 ≤ x2 ∧ x2 ≤ 127 * x3) → 16 - x3 ≤ (n : Int) → ((0 ≤ (lp_10_4 x0 x1 n x2 x3 d) ∧ (lp_10_4 x0 x1 n x2 x3 d) ≤ 2032) → K (.inl (some (0, (lp_10_4 x0 x1 n x2 x3 d)))) d) → tRun E 10 (4, [.inr (1, x0), .inr (1, x1), .inl (0, x2), .inl (0, x3)], [], 0, 0, d) K := by
  intro n
  induction n with
  | zero =>
    intro x2 x3  d hS i0 i1 hm  h
    exact ls_10_4 hx0 hx1 0 _ (fun _ _  _ _ _ _ m0 m1 _ => absurd m1 (by omega)) x2 x3  d hS i0 i1 hm  h
  | succ n ih =>
    intro x2 x3  d hS i0 i1 hm  h
    exact ls_10_4 hx0 hx1 ((n + 1 : Nat) : Int) _ (fun x2 x3  d hS i0 i1  m0 m1 h => ih x2 x3  d hS i0 i1 (by omega)  h) x2 x3  d hS i0 i1 hm  h
def v_10 (x0 x1 : Int) (d : mD) : Int := lp_10_4 x0 x1 (16 - 0 : Int).toNat 0 0 d
theorem k_10 {E : mO × tW} {K : tK} {d : mD} {x0 x1 : Int} (hS : Safe d) (hx0 : hsB x0) (hx1 : hsB x1) (h : (0 ≤ (v_10 x0 x1 d) ∧ (v_10 x0 x1 d) ≤ 2032) → K (.inl (some (0, (v_10 x0 x1 d)))) d) : tCall E 10 [.inr (1, x0), .inr (1, x1)] d K := by
  refine t_10_0 ?_
  refine l_10_4 hx0 hx1 (16 - 0 : Int).toNat 0 0  d hS (by omega) (by omega) (by omega) ?_
  intro e
  have y0 : v_10 x0 x1 d = lp_10_4 x0 x1 (16 - 0 : Int).toNat 0 0 d := by simp only [v_10]
  rw [y0] at h
  exact h e
def g_11 (x0 x1 : Int) (d : mD) : mD := mcopy d (x1 + 1) 0 (x0 + 1) 0 16
theorem k_11 {E : mO × tW} {K : tK} {d : mD} {x0 x1 : Int} (hS : Safe d) (hx0 : hsB x0) (hx1 : hsB x1) (h : (∀ b : Int, (b < x0 + 1 ∨ x0 + 1 < b) → (g_11 x0 x1 d) b = d b) → Safe (g_11 x0 x1 d) → K (.inl none) (g_11 x0 x1 d)) : tCall E 11 [.inr (1, x0), .inr (1, x1)] d K := by
  refine t_11_0 ?_
  refine ⟨by omega, ?_⟩
  have hS1 : Safe (mcopy d (x1 + 1) 0 (x0 + 1) 0 16) := c_1_1 hS hx0
  have y0 : g_11 x0 x1 d = mcopy d (x1 + 1) 0 (x0 + 1) 0 16 := by simp only [g_11]
  rw [y0] at h
  exact h (show ∀ b : Int, (b < x0 + 1 ∨ x0 + 1 < b) → (mcopy d (x1 + 1) 0 (x0 + 1) 0 16) b = d b from fun b hb => mcopy_ne (by omega)) hS1
def st_34_100 (x0 x1 : Int) (r100 : Int → mD → mD) (x2 : Int) (d : mD) : mD := if x2 < 6 then r100 (x2 + 1) (mset d (x0 + 5) x2 (d (x1 + 5) x2)) else d
def lp_34_100 (x0 x1 : Int) : Nat → Int → mD → mD
  | 0 => st_34_100 x0 x1 (fun _ d => d)
  | n + 1 => st_34_100 x0 x1 (lp_34_100 x0 x1 n)
theorem ls_34_100 {E : mO × tW} {K : tK} {x0 x1 : Int} (hx0 : ofB x0) (hx1 : ofB x1) (N100 : Int) (r100 : Int → mD → mD) (ih100 : ∀ (x2 : Int) (d : mD), Safe d → (0 ≤ x2 ∧ x2 ≤ 6) → 0 ≤ 6 - x2 → 6 - x2 < N100 → ((∀ b : Int, (b < x0 ∨ x0 + 7 < b) → (r100 x2 d) b = d b) → Safe (r100 x2 d) → K (.inl none) (r100 x2 d)) → tRun E 34 (100, [.inr (3, x0), .inr (3, x1), .inl (0, x2)], [], 0, 0, d) K) (x2 : Int) (d : mD) (hS : Safe d) (i0 : 0 ≤ x2 ∧ x2 ≤ 6) (hm : 6 - x2 ≤ N100) (h : (∀ b : Int, (b < x0 ∨ x0 + 7 < b) → (st_34_100 x0 x1 r100 x2 d) b = d b) → Safe (st_34_100 x0 x1 r100 x2 d) → K (.inl none) (st_34_100 x0 x1 r100 x2 d)) : tRun E 34 (100, [.inr (3, x0), .inr (3, x1), .inl (0, x2)], [], 0, 0, d) K := by
  refine t_34_100 ?_
  refine ⟨⟨m_inR (by omega) (by omega), m_inR (by omega) (by omega)⟩, fun c0 => ?_, fun c0 => ?_⟩
  · have y0 : st_34_100 x0 x1 r100 x2 d = d := by simp only [st_34_100, if_neg (show ¬ x2 < 6 from Int.not_lt.mpr c0)]
    rw [y0] at h
    exact h (show ∀ b : Int, (b < x0 ∨ x0 + 7 < b) → d b = d b from fun _ _ => rfl) hS
  · have q1 := r_3_5 hS hx1 x2
    refine ⟨by omega, by omega, ?_⟩
    have hS1 : Safe (mset d (x0 + 5) x2 (d (x1 + 5) x2)) := s_3_5 hS hx0 (by omega)
    refine ih100 (x2 + 1)  (mset d (x0 + 5) x2 (d (x1 + 5) x2)) hS1 (by omega) (by omega) (by omega) ?_
    intro F hS_
    have y0 : st_34_100 x0 x1 r100 x2 d = r100 (x2 + 1) (mset d (x0 + 5) x2 (d (x1 + 5) x2)) := by simp only [st_34_100, if_pos (show x2 < 6 from c0)]
    rw [y0] at h
    exact h (fun b hb => (F b hb).trans ((show ∀ b : Int, (b < x0 ∨ x0 + 7 < b) → (mset d (x0 + 5) x2 (d (x1 + 5) x2)) b = d b from fun b hb => mset_ne (by omega)) b hb)) hS_
theorem l_34_100 {E : mO × tW} {K : tK} {x0 x1 : Int} (hx0 : ofB x0) (hx1 : ofB x1) : ∀ (n : Nat) (x2 : Int) (d : mD), Safe d → (0 ≤ x2 ∧ x2 ≤ 6) → 6 - x2 ≤ (n : Int) → ((∀ b : Int, (b < x0 ∨ x0 + 7 < b) → (lp_34_100 x0 x1 n x2 d) b = d b) → Safe (lp_34_100 x0 x1 n x2 d) → K (.inl none) (lp_34_100 x0 x1 n x2 d)) → tRun E 34 (100, [.inr (3, x0), .inr (3, x1), .inl (0, x2)], [], 0, 0, d) K := by
  intro n
  induction n with
  | zero =>
    intro x2  d hS i0 hm  h
    exact ls_34_100 hx0 hx1 0 _ (fun _  _ _ _ m0 m1 _ => absurd m1 (by omega)) x2  d hS i0 hm  h
  | succ n ih =>
    intro x2  d hS i0 hm  h
    exact ls_34_100 hx0 hx1 ((n + 1 : Nat) : Int) _ (fun x2  d hS i0  m0 m1 h => ih x2  d hS i0 (by omega)  h) x2  d hS i0 hm  h
def g_34 (x0 x1 : Int) (d : mD) : mD := lp_34_100 x0 x1 (6 - 0 : Int).toNat 0 (mcopy (mcopy (mcopy (mcopy (mcopy (mcopy (mset d x0 0 (d x1 0)) (x1 + 1) 0 (x0 + 1) 0 6) (x1 + 2) 0 (x0 + 2) 0 6) (x1 + 3) 0 (x0 + 3) 0 6) (x1 + 4) 0 (x0 + 4) 0 6) (x1 + 6) 0 (x0 + 6) 0 6) (x1 + 7) 0 (x0 + 7) 0 96)
theorem k_34 {E : mO × tW} {K : tK} {d : mD} {x0 x1 : Int} (hS : Safe d) (hx0 : ofB x0) (hx1 : ofB x1) (h : (∀ b : Int, (b < x0 ∨ x0 + 7 < b) → (g_34 x0 x1 d) b = d b) → Safe (g_34 x0 x1 d) → K (.inl none) (g_34 x0 x1 d)) : tCall E 34 [.inr (3, x0), .inr (3, x1)] d K := by
  refine t_34_0 ?_
  have q2 := r_3_f0 hS hx1
  have hS2 : Safe (mset d x0 0 (d x1 0)) := s_3_f0 hS hx0 (by omega)
  refine ⟨by omega, ?_⟩
  have hS3 : Safe (mcopy (mset d x0 0 (d x1 0)) (x1 + 1) 0 (x0 + 1) 0 6) := c_3_1 hS2 hx1 hx0
  refine t_34_23 ?_
  refine ⟨by omega, ?_⟩
  have hS4 : Safe (mcopy (mcopy (mset d x0 0 (d x1 0)) (x1 + 1) 0 (x0 + 1) 0 6) (x1 + 2) 0 (x0 + 2) 0 6) := c_3_2 hS3 hx1 hx0
  refine t_34_38 ?_
  refine ⟨by omega, ?_⟩
  have hS5 : Safe (mcopy (mcopy (mcopy (mset d x0 0 (d x1 0)) (x1 + 1) 0 (x0 + 1) 0 6) (x1 + 2) 0 (x0 + 2) 0 6) (x1 + 3) 0 (x0 + 3) 0 6) := c_3_3 hS4 hx1 hx0
  refine t_34_53 ?_
  refine ⟨by omega, ?_⟩
  have hS6 : Safe (mcopy (mcopy (mcopy (mcopy (mset d x0 0 (d x1 0)) (x1 + 1) 0 (x0 + 1) 0 6) (x1 + 2) 0 (x0 + 2) 0 6) (x1 + 3) 0 (x0 + 3) 0 6) (x1 + 4) 0 (x0 + 4) 0 6) := c_3_4 hS5 hx1 hx0
  refine t_34_68 ?_
  refine ⟨by omega, ?_⟩
  have hS7 : Safe (mcopy (mcopy (mcopy (mcopy (mcopy (mset d x0 0 (d x1 0)) (x1 + 1) 0 (x0 + 1) 0 6) (x1 + 2) 0 (x0 + 2) 0 6) (x1 + 3) 0 (x0 + 3) 0 6) (x1 + 4) 0 (x0 + 4) 0 6) (x1 + 6) 0 (x0 + 6) 0 6) := c_3_6 hS6 hx1 hx0
  refine t_34_83 ?_
  refine ⟨by omega, ?_⟩
  have hS8 : Safe (mcopy (mcopy (mcopy (mcopy (mcopy (mcopy (mset d x0 0 (d x1 0)) (x1 + 1) 0 (x0 + 1) 0 6) (x1 + 2) 0 (x0 + 2) 0 6) (x1 + 3) 0 (x0 + 3) 0 6) (x1 + 4) 0 (x0 + 4) 0 6) (x1 + 6) 0 (x0 + 6) 0 6) (x1 + 7) 0 (x0 + 7) 0 96) := c_3_7 hS7 hx1 hx0
  refine t_34_98 ?_
  refine l_34_100 hx0 hx1 (6 - 0 : Int).toNat 0  (mcopy (mcopy (mcopy (mcopy (mcopy (mcopy (mset d x0 0 (d x1 0)) (x1 + 1) 0 (x0 + 1) 0 6) (x1 + 2) 0 (x0 + 2) 0 6) (x1 + 3) 0 (x0 + 3) 0 6) (x1 + 4) 0 (x0 + 4) 0 6) (x1 + 6) 0 (x0 + 6) 0 6) (x1 + 7) 0 (x0 + 7) 0 96) hS8 (by omega) (by omega) ?_
  intro F hS_
  have y0 : g_34 x0 x1 d = lp_34_100 x0 x1 (6 - 0 : Int).toNat 0 (mcopy (mcopy (mcopy (mcopy (mcopy (mcopy (mset d x0 0 (d x1 0)) (x1 + 1) 0 (x0 + 1) 0 6) (x1 + 2) 0 (x0 + 2) 0 6) (x1 + 3) 0 (x0 + 3) 0 6) (x1 + 4) 0 (x0 + 4) 0 6) (x1 + 6) 0 (x0 + 6) 0 6) (x1 + 7) 0 (x0 + 7) 0 96) := by simp only [g_34]
  rw [y0] at h
  exact h (fun b hb => (F b hb).trans ((show ∀ b : Int, (b < x0 ∨ x0 + 7 < b) → (mcopy (mcopy (mcopy (mcopy (mcopy (mcopy (mset d x0 0 (d x1 0)) (x1 + 1) 0 (x0 + 1) 0 6) (x1 + 2) 0 (x0 + 2) 0 6) (x1 + 3) 0 (x0 + 3) 0 6) (x1 + 4) 0 (x0 + 4) 0 6) (x1 + 6) 0 (x0 + 6) 0 6) (x1 + 7) 0 (x0 + 7) 0 96) b = d b from fun b hb => (mcopy_ne (by omega)).trans ((mcopy_ne (by omega)).trans ((mcopy_ne (by omega)).trans ((mcopy_ne (by omega)).trans ((mcopy_ne (by omega)).trans ((mcopy_ne (by omega)).trans (mset_ne (by omega)))))))) b hb)) hS_
def g_35 (x0 x1 x2 x3 x4 : Int) (d : mD) : mD := if d x0 0 < 6 then mset (mset (mset (mset (mset (mset (mset d (x0 + 1) (d x0 0) x1) (x0 + 2) (d x0 0) x2) (x0 + 3) (d x0 0) x3) (x0 + 4) (d x0 0) x4) (x0 + 5) (d x0 0) 1) (x0 + 6) (d x0 0) 0) x0 0 ((d x0 0) + 1) else d
theorem k_35 {E : mO × tW} {K : tK} {d : mD} {x0 x1 x2 x3 x4 : Int} (hS : Safe d) (hx0 : ofB x0) (p1 : 0 ≤ x1 ∧ x1 ≤ 1073741823) (p2 : 0 ≤ x2 ∧ x2 ≤ 4) (p3 : 0 ≤ x3 ∧ x3 ≤ 6) (p4 : 0 ≤ x4 ∧ x4 ≤ 20) (h : (∀ b : Int, (b < x0 ∨ x0 + 6 < b) → (g_35 x0 x1 x2 x3 x4 d) b = d b) → Safe (g_35 x0 x1 x2 x3 x4 d) → K (.inl none) (g_35 x0 x1 x2 x3 x4 d)) : tCall E 35 [.inr (3, x0), .inl (0, x1), .inl (0, x2), .inl (0, x3), .inl (0, x4)] d K := by
  refine t_35_0 ?_
  have q1 := r_3_f0 hS hx0
  refine ⟨⟨m_inR (by omega) (by omega), m_inR (by omega) (by omega)⟩, fun c0 => ?_, fun c0 => ?_⟩
  · refine ⟨by omega, ?_⟩
    have hS1 : Safe (mset d (x0 + 1) (d x0 0) x1) := s_3_1 hS hx0 (by omega)
    refine t_35_20 ?_
    rw [mset_ne (d := d) (a := x0 + 1) (i := d x0 0) (v := x1) (b := x0) (by omega)]
    refine ⟨by omega, ?_⟩
    have hS2 : Safe (mset (mset d (x0 + 1) (d x0 0) x1) (x0 + 2) (d x0 0) x2) := s_3_2 hS1 hx0 (by omega)
    refine t_35_30 ?_
    rw [mset_ne (d := mset d (x0 + 1) (d x0 0) x1) (a := x0 + 2) (i := d x0 0) (v := x2) (b := x0) (by omega)]
    rw [mset_ne (d := d) (a := x0 + 1) (i := d x0 0) (v := x1) (b := x0) (by omega)]
    refine ⟨by omega, ?_⟩
    have hS3 : Safe (mset (mset (mset d (x0 + 1) (d x0 0) x1) (x0 + 2) (d x0 0) x2) (x0 + 3) (d x0 0) x3) := s_3_3 hS2 hx0 (by omega)
    refine t_35_40 ?_
    rw [mset_ne (d := mset (mset d (x0 + 1) (d x0 0) x1) (x0 + 2) (d x0 0) x2) (a := x0 + 3) (i := d x0 0) (v := x3) (b := x0) (by omega)]
    rw [mset_ne (d := mset d (x0 + 1) (d x0 0) x1) (a := x0 + 2) (i := d x0 0) (v := x2) (b := x0) (by omega)]
    rw [mset_ne (d := d) (a := x0 + 1) (i := d x0 0) (v := x1) (b := x0) (by omega)]
    refine ⟨by omega, ?_⟩
    have hS4 : Safe (mset (mset (mset (mset d (x0 + 1) (d x0 0) x1) (x0 + 2) (d x0 0) x2) (x0 + 3) (d x0 0) x3) (x0 + 4) (d x0 0) x4) := s_3_4 hS3 hx0 (by omega)
    refine t_35_51 ?_
    rw [mset_ne (d := mset (mset (mset d (x0 + 1) (d x0 0) x1) (x0 + 2) (d x0 0) x2) (x0 + 3) (d x0 0) x3) (a := x0 + 4) (i := d x0 0) (v := x4) (b := x0) (by omega)]
    rw [mset_ne (d := mset (mset d (x0 + 1) (d x0 0) x1) (x0 + 2) (d x0 0) x2) (a := x0 + 3) (i := d x0 0) (v := x3) (b := x0) (by omega)]
    rw [mset_ne (d := mset d (x0 + 1) (d x0 0) x1) (a := x0 + 2) (i := d x0 0) (v := x2) (b := x0) (by omega)]
    rw [mset_ne (d := d) (a := x0 + 1) (i := d x0 0) (v := x1) (b := x0) (by omega)]
    refine ⟨by omega, ?_⟩
    have hS5 : Safe (mset (mset (mset (mset (mset d (x0 + 1) (d x0 0) x1) (x0 + 2) (d x0 0) x2) (x0 + 3) (d x0 0) x3) (x0 + 4) (d x0 0) x4) (x0 + 5) (d x0 0) 1) := s_3_5 hS4 hx0 (by omega)
    refine t_35_61 ?_
    rw [mset_ne (d := mset (mset (mset (mset d (x0 + 1) (d x0 0) x1) (x0 + 2) (d x0 0) x2) (x0 + 3) (d x0 0) x3) (x0 + 4) (d x0 0) x4) (a := x0 + 5) (i := d x0 0) (v := (1 : Int)) (b := x0) (by omega)]
    rw [mset_ne (d := mset (mset (mset d (x0 + 1) (d x0 0) x1) (x0 + 2) (d x0 0) x2) (x0 + 3) (d x0 0) x3) (a := x0 + 4) (i := d x0 0) (v := x4) (b := x0) (by omega)]
    rw [mset_ne (d := mset (mset d (x0 + 1) (d x0 0) x1) (x0 + 2) (d x0 0) x2) (a := x0 + 3) (i := d x0 0) (v := x3) (b := x0) (by omega)]
    rw [mset_ne (d := mset d (x0 + 1) (d x0 0) x1) (a := x0 + 2) (i := d x0 0) (v := x2) (b := x0) (by omega)]
    rw [mset_ne (d := d) (a := x0 + 1) (i := d x0 0) (v := x1) (b := x0) (by omega)]
    refine ⟨by omega, ?_⟩
    have hS6 : Safe (mset (mset (mset (mset (mset (mset d (x0 + 1) (d x0 0) x1) (x0 + 2) (d x0 0) x2) (x0 + 3) (d x0 0) x3) (x0 + 4) (d x0 0) x4) (x0 + 5) (d x0 0) 1) (x0 + 6) (d x0 0) 0) := s_3_6 hS5 hx0 (by omega)
    refine t_35_71 ?_
    rw [mset_ne (d := mset (mset (mset (mset (mset d (x0 + 1) (d x0 0) x1) (x0 + 2) (d x0 0) x2) (x0 + 3) (d x0 0) x3) (x0 + 4) (d x0 0) x4) (x0 + 5) (d x0 0) 1) (a := x0 + 6) (i := d x0 0) (v := (0 : Int)) (b := x0) (by omega)]
    rw [mset_ne (d := mset (mset (mset (mset d (x0 + 1) (d x0 0) x1) (x0 + 2) (d x0 0) x2) (x0 + 3) (d x0 0) x3) (x0 + 4) (d x0 0) x4) (a := x0 + 5) (i := d x0 0) (v := (1 : Int)) (b := x0) (by omega)]
    rw [mset_ne (d := mset (mset (mset d (x0 + 1) (d x0 0) x1) (x0 + 2) (d x0 0) x2) (x0 + 3) (d x0 0) x3) (a := x0 + 4) (i := d x0 0) (v := x4) (b := x0) (by omega)]
    rw [mset_ne (d := mset (mset d (x0 + 1) (d x0 0) x1) (x0 + 2) (d x0 0) x2) (a := x0 + 3) (i := d x0 0) (v := x3) (b := x0) (by omega)]
    rw [mset_ne (d := mset d (x0 + 1) (d x0 0) x1) (a := x0 + 2) (i := d x0 0) (v := x2) (b := x0) (by omega)]
    rw [mset_ne (d := d) (a := x0 + 1) (i := d x0 0) (v := x1) (b := x0) (by omega)]
    have hS7 : Safe (mset (mset (mset (mset (mset (mset (mset d (x0 + 1) (d x0 0) x1) (x0 + 2) (d x0 0) x2) (x0 + 3) (d x0 0) x3) (x0 + 4) (d x0 0) x4) (x0 + 5) (d x0 0) 1) (x0 + 6) (d x0 0) 0) x0 0 ((d x0 0) + 1)) := s_3_f0 hS6 hx0 (by omega)
    have y0 : g_35 x0 x1 x2 x3 x4 d = mset (mset (mset (mset (mset (mset (mset d (x0 + 1) (d x0 0) x1) (x0 + 2) (d x0 0) x2) (x0 + 3) (d x0 0) x3) (x0 + 4) (d x0 0) x4) (x0 + 5) (d x0 0) 1) (x0 + 6) (d x0 0) 0) x0 0 ((d x0 0) + 1) := by simp only [g_35, if_pos (show d x0 0 < 6 from c0)]
    rw [y0] at h
    exact h (show ∀ b : Int, (b < x0 ∨ x0 + 6 < b) → (mset (mset (mset (mset (mset (mset (mset d (x0 + 1) (d x0 0) x1) (x0 + 2) (d x0 0) x2) (x0 + 3) (d x0 0) x3) (x0 + 4) (d x0 0) x4) (x0 + 5) (d x0 0) 1) (x0 + 6) (d x0 0) 0) x0 0 ((d x0 0) + 1)) b = d b from fun b hb => (mset_ne (by omega)).trans ((mset_ne (by omega)).trans ((mset_ne (by omega)).trans ((mset_ne (by omega)).trans ((mset_ne (by omega)).trans ((mset_ne (by omega)).trans (mset_ne (by omega)))))))) hS7
  · have y0 : g_35 x0 x1 x2 x3 x4 d = d := by simp only [g_35, if_neg (show ¬ d x0 0 < 6 from Int.not_lt.mpr c0)]
    rw [y0] at h
    exact h (show ∀ b : Int, (b < x0 ∨ x0 + 6 < b) → d b = d b from fun _ _ => rfl) hS
def st_36_2 (x0 x1 : Int) (r2 : Int → mD → Int) (x2 : Int) (d : mD) : Int := if x2 < d x0 0 then (if d (x0 + 1) x2 = x1 then x2 else r2 (x2 + 1) d) else (-1)
def lp_36_2 (x0 x1 : Int) : Nat → Int → mD → Int
  | 0 => st_36_2 x0 x1 (fun _ d => 0)
  | n + 1 => st_36_2 x0 x1 (lp_36_2 x0 x1 n)
theorem ls_36_2 {E : mO × tW} {K : tK} {x0 x1 : Int} (hx0 : ofB x0) (p1 : -2147483648 ≤ x1 ∧ x1 ≤ 2147483647) (N2 : Int) (r2 : Int → mD → Int) (ih2 : ∀ (x2 : Int) (d : mD), Safe d → (0 ≤ x2 ∧ x2 ≤ 6) → 0 ≤ 6 - x2 → 6 - x2 < N2 → ((-1 ≤ (r2 x2 d) ∧ (r2 x2 d) ≤ 5) → K (.inl (some (0, (r2 x2 d)))) d) → tRun E 36 (2, [.inr (3, x0), .inl (0, x1), .inl (0, x2)], [], 0, 0, d) K) (x2 : Int) (d : mD) (hS : Safe d) (i0 : 0 ≤ x2 ∧ x2 ≤ 6) (hm : 6 - x2 ≤ N2) (h : (-1 ≤ (st_36_2 x0 x1 r2 x2 d) ∧ (st_36_2 x0 x1 r2 x2 d) ≤ 5) → K (.inl (some (0, (st_36_2 x0 x1 r2 x2 d)))) d) : tRun E 36 (2, [.inr (3, x0), .inl (0, x1), .inl (0, x2)], [], 0, 0, d) K := by
  refine t_36_2 ?_
  have q1 := r_3_f0 hS hx0
  refine ⟨⟨m_inR (by omega) (by omega), m_inR (by omega) (by omega)⟩, fun c0 => ?_, fun c0 => ?_⟩
  · have y0 : st_36_2 x0 x1 r2 x2 d = (-1) := by simp only [st_36_2, if_neg (show ¬ x2 < d x0 0 from Int.not_lt.mpr c0)]
    rw [y0] at h
    exact h (show -1 ≤ ((-1 : Int)) ∧ ((-1 : Int)) ≤ 5 from (by omega))
  · have q2 := r_3_1 hS hx0 x2
    refine ⟨by omega, ⟨m_inR (by omega) (by omega), m_inR (by omega) (by omega)⟩, fun c1 => ?_, fun c1 => ?_⟩
    · refine ih2 (x2 + 1)  d hS (by omega) (by omega) (by omega) ?_
      intro e
      have y0 : st_36_2 x0 x1 r2 x2 d = r2 (x2 + 1) d := by simp only [st_36_2, if_pos (show x2 < d x0 0 from c0), if_neg (show ¬ d (x0 + 1) x2 = x1 from c1)]
      rw [y0] at h
      exact h e
    · have y0 : st_36_2 x0 x1 r2 x2 d = x2 := by simp only [st_36_2, if_pos (show x2 < d x0 0 from c0), if_pos (show d (x0 + 1) x2 = x1 from c1)]
      rw [y0] at h
      exact h (show -1 ≤ x2 ∧ x2 ≤ 5 from (by omega))
theorem l_36_2 {E : mO × tW} {K : tK} {x0 x1 : Int} (hx0 : ofB x0) (p1 : -2147483648 ≤ x1 ∧ x1 ≤ 2147483647) : ∀ (n : Nat) (x2 : Int) (d : mD), Safe d → (0 ≤ x2 ∧ x2 ≤ 6) → 6 - x2 ≤ (n : Int) → ((-1 ≤ (lp_36_2 x0 x1 n x2 d) ∧ (lp_36_2 x0 x1 n x2 d) ≤ 5) → K (.inl (some (0, (lp_36_2 x0 x1 n x2 d)))) d) → tRun E 36 (2, [.inr (3, x0), .inl (0, x1), .inl (0, x2)], [], 0, 0, d) K := by
  intro n
  induction n with
  | zero =>
    intro x2  d hS i0 hm  h
    exact ls_36_2 hx0 p1 0 _ (fun _  _ _ _ m0 m1 _ => absurd m1 (by omega)) x2  d hS i0 hm  h
  | succ n ih =>
    intro x2  d hS i0 hm  h
    exact ls_36_2 hx0 p1 ((n + 1 : Nat) : Int) _ (fun x2  d hS i0  m0 m1 h => ih x2  d hS i0 (by omega)  h) x2  d hS i0 hm  h
def v_36 (x0 x1 : Int) (d : mD) : Int := lp_36_2 x0 x1 (6 - 0 : Int).toNat 0 d
theorem k_36 {E : mO × tW} {K : tK} {d : mD} {x0 x1 : Int} (hS : Safe d) (hx0 : ofB x0) (p1 : -2147483648 ≤ x1 ∧ x1 ≤ 2147483647) (h : (-1 ≤ (v_36 x0 x1 d) ∧ (v_36 x0 x1 d) ≤ 5) → K (.inl (some (0, (v_36 x0 x1 d)))) d) : tCall E 36 [.inr (3, x0), .inl (0, x1)] d K := by
  refine t_36_0 ?_
  refine l_36_2 hx0 p1 (6 - 0 : Int).toNat 0  d hS (by omega) (by omega) ?_
  intro e
  have y0 : v_36 x0 x1 d = lp_36_2 x0 x1 (6 - 0 : Int).toNat 0 d := by simp only [v_36]
  rw [y0] at h
  exact h e
def st_37_4 (x0 : Int) (r4 : Int → Int → mD → Int) (x1 x2 : Int) (d : mD) : Int := if x2 < d x0 0 then (if d (x0 + 5) x2 = 0 then r4 (x1 + 0) (x2 + 1) d else r4 (x1 + 1) (x2 + 1) d) else x1
def lp_37_4 (x0 : Int) : Nat → Int → Int → mD → Int
  | 0 => st_37_4 x0 (fun _ _ d => 0)
  | n + 1 => st_37_4 x0 (lp_37_4 x0 n)
theorem ls_37_4 {E : mO × tW} {K : tK} {x0 : Int} (hx0 : ofB x0) (N4 : Int) (r4 : Int → Int → mD → Int) (ih4 : ∀ (x1 x2 : Int) (d : mD), Safe d → (0 ≤ x2 ∧ x2 ≤ 6) → (0 ≤ x1 ∧ x1 ≤ x2) → 0 ≤ 6 - x2 → 6 - x2 < N4 → ((0 ≤ (r4 x1 x2 d) ∧ (r4 x1 x2 d) ≤ 6) → K (.inl (some (0, (r4 x1 x2 d)))) d) → tRun E 37 (4, [.inr (3, x0), .inl (0, x1), .inl (0, x2)], [], 0, 0, d) K) (x1 x2 : Int) (d : mD) (hS : Safe d) (i0 : 0 ≤ x2 ∧ x2 ≤ 6) (i1 : 0 ≤ x1 ∧ x1 ≤ x2) (hm : 6 - x2 ≤ N4) (h : (0 ≤ (st_37_4 x0 r4 x1 x2 d) ∧ (st_37_4 x0 r4 x1 x2 d) ≤ 6) → K (.inl (some (0, (st_37_4 x0 r4 x1 x2 d)))) d) : tRun E 37 (4, [.inr (3, x0), .inl (0, x1), .inl (0, x2)], [], 0, 0, d) K := by
  refine t_37_4 ?_
  have q1 := r_3_f0 hS hx0
  refine ⟨⟨m_inR (by omega) (by omega), m_inR (by omega) (by omega)⟩, fun c0 => ?_, fun c0 => ?_⟩
  · have y0 : st_37_4 x0 r4 x1 x2 d = x1 := by simp only [st_37_4, if_neg (show ¬ x2 < d x0 0 from Int.not_lt.mpr c0)]
    rw [y0] at h
    exact h (show 0 ≤ x1 ∧ x1 ≤ 6 from (by omega))
  · have q2 := r_3_5 hS hx0 x2
    refine ⟨by omega, m_inR (by omega) (by omega), fun c1 => ?_, fun c1 => ?_⟩
    · refine ih4 (x1 + 0) (x2 + 1)  d hS (by omega) (by omega) (by omega) (by omega) ?_
      intro e
      have y0 : st_37_4 x0 r4 x1 x2 d = r4 (x1 + 0) (x2 + 1) d := by simp only [st_37_4, if_pos (show x2 < d x0 0 from c0), if_pos (show d (x0 + 5) x2 = 0 from c1)]
      rw [y0] at h
      exact h e
    · refine ih4 (x1 + 1) (x2 + 1)  d hS (by omega) (by omega) (by omega) (by omega) ?_
      intro e
      have y0 : st_37_4 x0 r4 x1 x2 d = r4 (x1 + 1) (x2 + 1) d := by simp only [st_37_4, if_pos (show x2 < d x0 0 from c0), if_neg (show ¬ d (x0 + 5) x2 = 0 from c1)]
      rw [y0] at h
      exact h e
theorem l_37_4 {E : mO × tW} {K : tK} {x0 : Int} (hx0 : ofB x0) : ∀ (n : Nat) (x1 x2 : Int) (d : mD), Safe d → (0 ≤ x2 ∧ x2 ≤ 6) → (0 ≤ x1 ∧ x1 ≤ x2) → 6 - x2 ≤ (n : Int) → ((0 ≤ (lp_37_4 x0 n x1 x2 d) ∧ (lp_37_4 x0 n x1 x2 d) ≤ 6) → K (.inl (some (0, (lp_37_4 x0 n x1 x2 d)))) d) → tRun E 37 (4, [.inr (3, x0), .inl (0, x1), .inl (0, x2)], [], 0, 0, d) K := by
  intro n
  induction n with
  | zero =>
    intro x1 x2  d hS i0 i1 hm  h
    exact ls_37_4 hx0 0 _ (fun _ _  _ _ _ _ m0 m1 _ => absurd m1 (by omega)) x1 x2  d hS i0 i1 hm  h
  | succ n ih =>
    intro x1 x2  d hS i0 i1 hm  h
    exact ls_37_4 hx0 ((n + 1 : Nat) : Int) _ (fun x1 x2  d hS i0 i1  m0 m1 h => ih x1 x2  d hS i0 i1 (by omega)  h) x1 x2  d hS i0 i1 hm  h
def v_37 (x0 : Int) (d : mD) : Int := lp_37_4 x0 (6 - 0 : Int).toNat 0 0 d
theorem k_37 {E : mO × tW} {K : tK} {d : mD} {x0 : Int} (hS : Safe d) (hx0 : ofB x0) (h : (0 ≤ (v_37 x0 d) ∧ (v_37 x0 d) ≤ 6) → K (.inl (some (0, (v_37 x0 d)))) d) : tCall E 37 [.inr (3, x0)] d K := by
  refine t_37_0 ?_
  refine l_37_4 hx0 (6 - 0 : Int).toNat 0 0  d hS (by omega) (by omega) (by omega) ?_
  intro e
  have y0 : v_37 x0 d = lp_37_4 x0 (6 - 0 : Int).toNat 0 0 d := by simp only [v_37]
  rw [y0] at h
  exact h e
def v_38 (x0 x1 x2 : Int) (d : mD) : Int := d (x0 + 7) ((x1 * 16) + x2)
theorem k_38 {E : mO × tW} {K : tK} {d : mD} {x0 x1 x2 : Int} (hS : Safe d) (hx0 : ofB x0) (p1 : 0 ≤ x1 ∧ x1 ≤ 5) (p2 : 0 ≤ x2 ∧ x2 ≤ 15) (h : (0 ≤ (v_38 x0 x1 x2 d) ∧ (v_38 x0 x1 x2 d) ≤ 59) → K (.inl (some (0, (v_38 x0 x1 x2 d)))) d) : tCall E 38 [.inr (3, x0), .inl (0, x1), .inl (0, x2)] d K := by
  refine t_38_0 ?_
  have q1 := r_3_7 hS hx0 ((x1 * 16) + x2)
  refine ⟨by omega, ?_⟩
  have y0 : v_38 x0 x1 x2 d = d (x0 + 7) ((x1 * 16) + x2) := by simp only [v_38]
  rw [y0] at h
  exact h (show 0 ≤ (d (x0 + 7) ((x1 * 16) + x2)) ∧ (d (x0 + 7) ((x1 * 16) + x2)) ≤ 59 from (by omega))
def st_39_2 (x0 x1 x2 : Int) (r2 : Int → mD → Int) (x3 : Int) (d : mD) : Int := if x3 < d (x0 + 6) x1 then (if v_38 x0 x1 x3 d = x2 then x3 else r2 (x3 + 1) d) else (-1)
def lp_39_2 (x0 x1 x2 : Int) : Nat → Int → mD → Int
  | 0 => st_39_2 x0 x1 x2 (fun _ d => 0)
  | n + 1 => st_39_2 x0 x1 x2 (lp_39_2 x0 x1 x2 n)
theorem ls_39_2 {E : mO × tW} {K : tK} {x0 x1 x2 : Int} (hx0 : ofB x0) (p1 : 0 ≤ x1 ∧ x1 ≤ 5) (p2 : -2147483648 ≤ x2 ∧ x2 ≤ 2147483647) (N2 : Int) (r2 : Int → mD → Int) (ih2 : ∀ (x3 : Int) (d : mD), Safe d → (0 ≤ x3 ∧ x3 ≤ 16) → 0 ≤ 16 - x3 → 16 - x3 < N2 → ((-1 ≤ (r2 x3 d) ∧ (r2 x3 d) ≤ 15) → K (.inl (some (0, (r2 x3 d)))) d) → tRun E 39 (2, [.inr (3, x0), .inl (0, x1), .inl (0, x2), .inl (0, x3)], [], 0, 0, d) K) (x3 : Int) (d : mD) (hS : Safe d) (i0 : 0 ≤ x3 ∧ x3 ≤ 16) (hm : 16 - x3 ≤ N2) (h : (-1 ≤ (st_39_2 x0 x1 x2 r2 x3 d) ∧ (st_39_2 x0 x1 x2 r2 x3 d) ≤ 15) → K (.inl (some (0, (st_39_2 x0 x1 x2 r2 x3 d)))) d) : tRun E 39 (2, [.inr (3, x0), .inl (0, x1), .inl (0, x2), .inl (0, x3)], [], 0, 0, d) K := by
  refine t_39_2 ?_
  have q1 := r_3_6 hS hx0 x1
  refine ⟨by omega, ⟨m_inR (by omega) (by omega), m_inR (by omega) (by omega)⟩, fun c0 => ?_, fun c0 => ?_⟩
  · have y0 : st_39_2 x0 x1 x2 r2 x3 d = (-1) := by simp only [st_39_2, if_neg (show ¬ x3 < d (x0 + 6) x1 from Int.not_lt.mpr c0)]
    rw [y0] at h
    exact h (show -1 ≤ ((-1 : Int)) ∧ ((-1 : Int)) ≤ 15 from (by omega))
  · refine k_38 hS hx0 (by omega) (by omega) (fun e1 => ?_)
    refine t_39_18 ?_
    refine ⟨⟨m_inR (by omega) (by omega), m_inR (by omega) (by omega)⟩, fun c1 => ?_, fun c1 => ?_⟩
    · refine ih2 (x3 + 1)  d hS (by omega) (by omega) (by omega) ?_
      intro e
      have y0 : st_39_2 x0 x1 x2 r2 x3 d = r2 (x3 + 1) d := by simp only [st_39_2, if_pos (show x3 < d (x0 + 6) x1 from c0), if_neg (show ¬ v_38 x0 x1 x3 d = x2 from c1)]
      rw [y0] at h
      exact h e
    · have y0 : st_39_2 x0 x1 x2 r2 x3 d = x3 := by simp only [st_39_2, if_pos (show x3 < d (x0 + 6) x1 from c0), if_pos (show v_38 x0 x1 x3 d = x2 from c1)]
      rw [y0] at h
      exact h (show -1 ≤ x3 ∧ x3 ≤ 15 from (by omega))
theorem l_39_2 {E : mO × tW} {K : tK} {x0 x1 x2 : Int} (hx0 : ofB x0) (p1 : 0 ≤ x1 ∧ x1 ≤ 5) (p2 : -2147483648 ≤ x2 ∧ x2 ≤ 2147483647) : ∀ (n : Nat) (x3 : Int) (d : mD), Safe d → (0 ≤ x3 ∧ x3 ≤ 16) → 16 - x3 ≤ (n : Int) → ((-1 ≤ (lp_39_2 x0 x1 x2 n x3 d) ∧ (lp_39_2 x0 x1 x2 n x3 d) ≤ 15) → K (.inl (some (0, (lp_39_2 x0 x1 x2 n x3 d)))) d) → tRun E 39 (2, [.inr (3, x0), .inl (0, x1), .inl (0, x2), .inl (0, x3)], [], 0, 0, d) K := by
  intro n
  induction n with
  | zero =>
    intro x3  d hS i0 hm  h
    exact ls_39_2 hx0 p1 p2 0 _ (fun _  _ _ _ m0 m1 _ => absurd m1 (by omega)) x3  d hS i0 hm  h
  | succ n ih =>
    intro x3  d hS i0 hm  h
    exact ls_39_2 hx0 p1 p2 ((n + 1 : Nat) : Int) _ (fun x3  d hS i0  m0 m1 h => ih x3  d hS i0 (by omega)  h) x3  d hS i0 hm  h
def v_39 (x0 x1 x2 : Int) (d : mD) : Int := lp_39_2 x0 x1 x2 (16 - 0 : Int).toNat 0 d
theorem k_39 {E : mO × tW} {K : tK} {d : mD} {x0 x1 x2 : Int} (hS : Safe d) (hx0 : ofB x0) (p1 : 0 ≤ x1 ∧ x1 ≤ 5) (p2 : -2147483648 ≤ x2 ∧ x2 ≤ 2147483647) (h : (-1 ≤ (v_39 x0 x1 x2 d) ∧ (v_39 x0 x1 x2 d) ≤ 15) → K (.inl (some (0, (v_39 x0 x1 x2 d)))) d) : tCall E 39 [.inr (3, x0), .inl (0, x1), .inl (0, x2)] d K := by
  refine t_39_0 ?_
  refine l_39_2 hx0 p1 p2 (16 - 0 : Int).toNat 0  d hS (by omega) (by omega) ?_
  intro e
  have y0 : v_39 x0 x1 x2 d = lp_39_2 x0 x1 x2 (16 - 0 : Int).toNat 0 d := by simp only [v_39]
  rw [y0] at h
  exact h e
def st_40_40 (x0 x1 x2 x3 : Int) (r40 : Int → Int → mD → mD) (x4 x5 : Int) (d : mD) : mD := if x2 < x5 then r40 x4 (x5 + (-1)) (mset d (x0 + 7) (x4 + x5) (d (x0 + 7) ((x4 + x5) - 1))) else mset (mset d (x0 + 7) (x4 + x2) x3) (x0 + 6) x1 ((d (x0 + 6) x1) + 1)
def lp_40_40 (x0 x1 x2 x3 : Int) : Nat → Int → Int → mD → mD
  | 0 => st_40_40 x0 x1 x2 x3 (fun _ _ d => d)
  | n + 1 => st_40_40 x0 x1 x2 x3 (lp_40_40 x0 x1 x2 x3 n)
theorem ls_40_40 {E : mO × tW} {K : tK} {x0 x1 x2 x3 : Int} (hx0 : ofB x0) (p1 : 0 ≤ x1 ∧ x1 ≤ 5) (p2 : -2147483648 ≤ x2 ∧ x2 ≤ 2147483647) (p3 : 0 ≤ x3 ∧ x3 ≤ 59) (N40 : Int) (r40 : Int → Int → mD → mD) (ih40 : ∀ (x4 x5 : Int) (d : mD), Safe d → (0 ≤ x2 ∧ x2 ≤ x5 ∧ x5 ≤ 15) → (x4 = x1 * 16) → (d (x0 + 6) x1 ≤ 15) → 0 ≤ x5 → x5 < N40 → ((∀ b : Int, (b < x0 + 6 ∨ x0 + 7 < b) → (r40 x4 x5 d) b = d b) → Safe (r40 x4 x5 d) → K (.inl none) (r40 x4 x5 d)) → tRun E 40 (40, [.inr (3, x0), .inl (0, x1), .inl (0, x2), .inl (0, x3), .inl (0, x4), .inl (0, x5)], [], 0, 0, d) K) (x4 x5 : Int) (d : mD) (hS : Safe d) (i0 : 0 ≤ x2 ∧ x2 ≤ x5 ∧ x5 ≤ 15) (i1 : x4 = x1 * 16) (i2 : d (x0 + 6) x1 ≤ 15) (hm : x5 ≤ N40) (h : (∀ b : Int, (b < x0 + 6 ∨ x0 + 7 < b) → (st_40_40 x0 x1 x2 x3 r40 x4 x5 d) b = d b) → Safe (st_40_40 x0 x1 x2 x3 r40 x4 x5 d) → K (.inl none) (st_40_40 x0 x1 x2 x3 r40 x4 x5 d)) : tRun E 40 (40, [.inr (3, x0), .inl (0, x1), .inl (0, x2), .inl (0, x3), .inl (0, x4), .inl (0, x5)], [], 0, 0, d) K := by
  refine t_40_40 ?_
  refine ⟨⟨m_inR (by omega) (by omega), m_inR (by omega) (by omega)⟩, fun c0 => ?_, fun c0 => ?_⟩
  · refine ⟨by omega, ?_⟩
    have hS1 : Safe (mset d (x0 + 7) (x4 + x2) x3) := s_3_7 hS hx0 (by omega)
    rw [mset_ne (d := d) (a := x0 + 7) (i := x4 + x2) (v := x3) (b := x0 + 6) (by omega)]
    have q1 := r_3_6 hS hx0 x1
    refine ⟨by omega, by omega, ?_⟩
    have hS2 : Safe (mset (mset d (x0 + 7) (x4 + x2) x3) (x0 + 6) x1 ((d (x0 + 6) x1) + 1)) := s_3_6 hS1 hx0 (by omega)
    have y0 : st_40_40 x0 x1 x2 x3 r40 x4 x5 d = mset (mset d (x0 + 7) (x4 + x2) x3) (x0 + 6) x1 ((d (x0 + 6) x1) + 1) := by simp only [st_40_40, if_neg (show ¬ x2 < x5 from Int.not_lt.mpr c0)]
    rw [y0] at h
    exact h (show ∀ b : Int, (b < x0 + 6 ∨ x0 + 7 < b) → (mset (mset d (x0 + 7) (x4 + x2) x3) (x0 + 6) x1 ((d (x0 + 6) x1) + 1)) b = d b from fun b hb => (mset_ne (by omega)).trans (mset_ne (by omega))) hS2
  · have q2 := r_3_7 hS hx0 ((x4 + x5) - 1)
    refine ⟨by omega, by omega, ?_⟩
    have hS3 : Safe (mset d (x0 + 7) (x4 + x5) (d (x0 + 7) ((x4 + x5) - 1))) := s_3_7 hS hx0 (by omega)
    have q3 : (mset d (x0 + 7) (x4 + x5) (d (x0 + 7) ((x4 + x5) - 1))) (x0 + 6) x1 = d (x0 + 6) x1 := congrFun (mset_ne (by omega)) x1
    refine ih40 x4 (x5 + (-1))  (mset d (x0 + 7) (x4 + x5) (d (x0 + 7) ((x4 + x5) - 1))) hS3 (by omega) (by omega) (by omega) (by omega) (by omega) ?_
    intro F hS_
    have y0 : st_40_40 x0 x1 x2 x3 r40 x4 x5 d = r40 x4 (x5 + (-1)) (mset d (x0 + 7) (x4 + x5) (d (x0 + 7) ((x4 + x5) - 1))) := by simp only [st_40_40, if_pos (show x2 < x5 from c0)]
    rw [y0] at h
    exact h (fun b hb => (F b hb).trans ((show ∀ b : Int, (b < x0 + 6 ∨ x0 + 7 < b) → (mset d (x0 + 7) (x4 + x5) (d (x0 + 7) ((x4 + x5) - 1))) b = d b from fun b hb => mset_ne (by omega)) b hb)) hS_
theorem l_40_40 {E : mO × tW} {K : tK} {x0 x1 x2 x3 : Int} (hx0 : ofB x0) (p1 : 0 ≤ x1 ∧ x1 ≤ 5) (p2 : -2147483648 ≤ x2 ∧ x2 ≤ 2147483647) (p3 : 0 ≤ x3 ∧ x3 ≤ 59) : ∀ (n : Nat) (x4 x5 : Int) (d : mD), Safe d → (0 ≤ x2 ∧ x2 ≤ x5 ∧ x5 ≤ 15) → (x4 = x1 * 16) → (d (x0 + 6) x1 ≤ 15) → x5 ≤ (n : Int) → ((∀ b : Int, (b < x0 + 6 ∨ x0 + 7 < b) → (lp_40_40 x0 x1 x2 x3 n x4 x5 d) b = d b) → Safe (lp_40_40 x0 x1 x2 x3 n x4 x5 d) → K (.inl none) (lp_40_40 x0 x1 x2 x3 n x4 x5 d)) → tRun E 40 (40, [.inr (3, x0), .inl (0, x1), .inl (0, x2), .inl (0, x3), .inl (0, x4), .inl (0, x5)], [], 0, 0, d) K := by
  intro n
  induction n with
  | zero =>
    intro x4 x5  d hS i0 i1 i2 hm  h
    exact ls_40_40 hx0 p1 p2 p3 0 _ (fun _ _  _ _ _ _ _ m0 m1 _ => absurd m1 (by omega)) x4 x5  d hS i0 i1 i2 hm  h
  | succ n ih =>
    intro x4 x5  d hS i0 i1 i2 hm  h
    exact ls_40_40 hx0 p1 p2 p3 ((n + 1 : Nat) : Int) _ (fun x4 x5  d hS i0 i1 i2  m0 m1 h => ih x4 x5  d hS i0 i1 i2 (by omega)  h) x4 x5  d hS i0 i1 i2 hm  h
def g_40 (x0 x1 x2 x3 : Int) (d : mD) : mD := if x2 < 0 then d else if d (x0 + 6) x1 < x2 then d else if d (x0 + 6) x1 < 16 then lp_40_40 x0 x1 x2 x3 ((d (x0 + 6) x1) : Int).toNat (x1 * 16) (d (x0 + 6) x1) d else d
theorem k_40 {E : mO × tW} {K : tK} {d : mD} {x0 x1 x2 x3 : Int} (hS : Safe d) (hx0 : ofB x0) (p1 : 0 ≤ x1 ∧ x1 ≤ 5) (p2 : -2147483648 ≤ x2 ∧ x2 ≤ 2147483647) (p3 : 0 ≤ x3 ∧ x3 ≤ 59) (h : (∀ b : Int, (b < x0 + 6 ∨ x0 + 7 < b) → (g_40 x0 x1 x2 x3 d) b = d b) → Safe (g_40 x0 x1 x2 x3 d) → K (.inl none) (g_40 x0 x1 x2 x3 d)) : tCall E 40 [.inr (3, x0), .inl (0, x1), .inl (0, x2), .inl (0, x3)] d K := by
  refine t_40_0 ?_
  refine ⟨m_inR (by omega) (by omega), fun c0 => ?_, fun c0 => ?_⟩
  · have y0 : g_40 x0 x1 x2 x3 d = d := by simp only [g_40, if_pos (show x2 < 0 from c0)]
    rw [y0] at h
    exact h (show ∀ b : Int, (b < x0 + 6 ∨ x0 + 7 < b) → d b = d b from fun _ _ => rfl) hS
  · have q4 := r_3_6 hS hx0 x1
    refine ⟨by omega, ⟨m_inR (by omega) (by omega), m_inR (by omega) (by omega)⟩, fun c1 => ?_, fun c1 => ?_⟩
    · have y0 : g_40 x0 x1 x2 x3 d = d := by simp only [g_40, if_neg (show ¬ x2 < 0 from Int.not_lt.mpr c0), if_pos (show d (x0 + 6) x1 < x2 from c1)]
      rw [y0] at h
      exact h (show ∀ b : Int, (b < x0 + 6 ∨ x0 + 7 < b) → d b = d b from fun _ _ => rfl) hS
    · refine ⟨by omega, ⟨m_inR (by omega) (by omega), m_inR (by omega) (by omega)⟩, fun c2 => ?_, fun c2 => ?_⟩
      · refine ⟨by omega, ?_⟩
        refine l_40_40 hx0 p1 p2 p3 ((d (x0 + 6) x1) : Int).toNat (x1 * 16) (d (x0 + 6) x1)  d hS (by omega) (by omega) (by omega) (by omega) ?_
        intro F hS_
        have y0 : g_40 x0 x1 x2 x3 d = lp_40_40 x0 x1 x2 x3 ((d (x0 + 6) x1) : Int).toNat (x1 * 16) (d (x0 + 6) x1) d := by simp only [g_40, if_neg (show ¬ x2 < 0 from Int.not_lt.mpr c0), if_neg (show ¬ d (x0 + 6) x1 < x2 from Int.not_lt.mpr c1), if_pos (show d (x0 + 6) x1 < 16 from c2)]
        rw [y0] at h
        exact h F hS_
      · have y0 : g_40 x0 x1 x2 x3 d = d := by simp only [g_40, if_neg (show ¬ x2 < 0 from Int.not_lt.mpr c0), if_neg (show ¬ d (x0 + 6) x1 < x2 from Int.not_lt.mpr c1), if_neg (show ¬ d (x0 + 6) x1 < 16 from Int.not_lt.mpr c2)]
        rw [y0] at h
        exact h (show ∀ b : Int, (b < x0 + 6 ∨ x0 + 7 < b) → d b = d b from fun _ _ => rfl) hS
def st_41_25 (x0 x1 x2 : Int) (r25 : Int → Int → mD → mD) (x3 x4 : Int) (d : mD) : mD := if x4 < d (x0 + 6) x1 then r25 x3 (x4 + 1) (mset d (x0 + 7) ((x3 + x4) - 1) (d (x0 + 7) (x3 + x4))) else mset d (x0 + 6) x1 ((d (x0 + 6) x1) - 1)
def lp_41_25 (x0 x1 x2 : Int) : Nat → Int → Int → mD → mD
  | 0 => st_41_25 x0 x1 x2 (fun _ _ d => d)
  | n + 1 => st_41_25 x0 x1 x2 (lp_41_25 x0 x1 x2 n)
theorem ls_41_25 {E : mO × tW} {K : tK} {x0 x1 x2 : Int} (hx0 : ofB x0) (p1 : 0 ≤ x1 ∧ x1 ≤ 5) (p2 : -2147483648 ≤ x2 ∧ x2 ≤ 2147483647) (N25 : Int) (r25 : Int → Int → mD → mD) (ih25 : ∀ (x3 x4 : Int) (d : mD), Safe d → (1 ≤ x4 ∧ x4 ≤ 16) → (x3 = x1 * 16) → (1 ≤ d (x0 + 6) x1) → 0 ≤ 16 - x4 → 16 - x4 < N25 → ((∀ b : Int, (b < x0 + 6 ∨ x0 + 7 < b) → (r25 x3 x4 d) b = d b) → Safe (r25 x3 x4 d) → K (.inl none) (r25 x3 x4 d)) → tRun E 41 (25, [.inr (3, x0), .inl (0, x1), .inl (0, x2), .inl (0, x3), .inl (0, x4)], [], 0, 0, d) K) (x3 x4 : Int) (d : mD) (hS : Safe d) (i0 : 1 ≤ x4 ∧ x4 ≤ 16) (i1 : x3 = x1 * 16) (i2 : 1 ≤ d (x0 + 6) x1) (hm : 16 - x4 ≤ N25) (h : (∀ b : Int, (b < x0 + 6 ∨ x0 + 7 < b) → (st_41_25 x0 x1 x2 r25 x3 x4 d) b = d b) → Safe (st_41_25 x0 x1 x2 r25 x3 x4 d) → K (.inl none) (st_41_25 x0 x1 x2 r25 x3 x4 d)) : tRun E 41 (25, [.inr (3, x0), .inl (0, x1), .inl (0, x2), .inl (0, x3), .inl (0, x4)], [], 0, 0, d) K := by
  refine t_41_25 ?_
  have q1 := r_3_6 hS hx0 x1
  refine ⟨by omega, ⟨m_inR (by omega) (by omega), m_inR (by omega) (by omega)⟩, fun c0 => ?_, fun c0 => ?_⟩
  · refine ⟨by omega, by omega, ?_⟩
    have hS1 : Safe (mset d (x0 + 6) x1 ((d (x0 + 6) x1) - 1)) := s_3_6 hS hx0 (by omega)
    have y0 : st_41_25 x0 x1 x2 r25 x3 x4 d = mset d (x0 + 6) x1 ((d (x0 + 6) x1) - 1) := by simp only [st_41_25, if_neg (show ¬ x4 < d (x0 + 6) x1 from Int.not_lt.mpr c0)]
    rw [y0] at h
    exact h (show ∀ b : Int, (b < x0 + 6 ∨ x0 + 7 < b) → (mset d (x0 + 6) x1 ((d (x0 + 6) x1) - 1)) b = d b from fun b hb => mset_ne (by omega)) hS1
  · have q2 := r_3_7 hS hx0 (x3 + x4)
    refine ⟨by omega, by omega, ?_⟩
    have hS2 : Safe (mset d (x0 + 7) ((x3 + x4) - 1) (d (x0 + 7) (x3 + x4))) := s_3_7 hS hx0 (by omega)
    have q3 : (mset d (x0 + 7) ((x3 + x4) - 1) (d (x0 + 7) (x3 + x4))) (x0 + 6) x1 = d (x0 + 6) x1 := congrFun (mset_ne (by omega)) x1
    refine ih25 x3 (x4 + 1)  (mset d (x0 + 7) ((x3 + x4) - 1) (d (x0 + 7) (x3 + x4))) hS2 (by omega) (by omega) (by omega) (by omega) (by omega) ?_
    intro F hS_
    have y0 : st_41_25 x0 x1 x2 r25 x3 x4 d = r25 x3 (x4 + 1) (mset d (x0 + 7) ((x3 + x4) - 1) (d (x0 + 7) (x3 + x4))) := by simp only [st_41_25, if_pos (show x4 < d (x0 + 6) x1 from c0)]
    rw [y0] at h
    exact h (fun b hb => (F b hb).trans ((show ∀ b : Int, (b < x0 + 6 ∨ x0 + 7 < b) → (mset d (x0 + 7) ((x3 + x4) - 1) (d (x0 + 7) (x3 + x4))) b = d b from fun b hb => mset_ne (by omega)) b hb)) hS_
theorem l_41_25 {E : mO × tW} {K : tK} {x0 x1 x2 : Int} (hx0 : ofB x0) (p1 : 0 ≤ x1 ∧ x1 ≤ 5) (p2 : -2147483648 ≤ x2 ∧ x2 ≤ 2147483647) : ∀ (n : Nat) (x3 x4 : Int) (d : mD), Safe d → (1 ≤ x4 ∧ x4 ≤ 16) → (x3 = x1 * 16) → (1 ≤ d (x0 + 6) x1) → 16 - x4 ≤ (n : Int) → ((∀ b : Int, (b < x0 + 6 ∨ x0 + 7 < b) → (lp_41_25 x0 x1 x2 n x3 x4 d) b = d b) → Safe (lp_41_25 x0 x1 x2 n x3 x4 d) → K (.inl none) (lp_41_25 x0 x1 x2 n x3 x4 d)) → tRun E 41 (25, [.inr (3, x0), .inl (0, x1), .inl (0, x2), .inl (0, x3), .inl (0, x4)], [], 0, 0, d) K := by
  intro n
  induction n with
  | zero =>
    intro x3 x4  d hS i0 i1 i2 hm  h
    exact ls_41_25 hx0 p1 p2 0 _ (fun _ _  _ _ _ _ _ m0 m1 _ => absurd m1 (by omega)) x3 x4  d hS i0 i1 i2 hm  h
  | succ n ih =>
    intro x3 x4  d hS i0 i1 i2 hm  h
    exact ls_41_25 hx0 p1 p2 ((n + 1 : Nat) : Int) _ (fun x3 x4  d hS i0 i1 i2  m0 m1 h => ih x3 x4  d hS i0 i1 i2 (by omega)  h) x3 x4  d hS i0 i1 i2 hm  h
def g_41 (x0 x1 x2 : Int) (d : mD) : mD := if x2 < 0 then d else if x2 < d (x0 + 6) x1 then lp_41_25 x0 x1 x2 (16 - (x2 + 1) : Int).toNat (x1 * 16) (x2 + 1) d else d
theorem k_41 {E : mO × tW} {K : tK} {d : mD} {x0 x1 x2 : Int} (hS : Safe d) (hx0 : ofB x0) (p1 : 0 ≤ x1 ∧ x1 ≤ 5) (p2 : -2147483648 ≤ x2 ∧ x2 ≤ 2147483647) (h : (∀ b : Int, (b < x0 + 6 ∨ x0 + 7 < b) → (g_41 x0 x1 x2 d) b = d b) → Safe (g_41 x0 x1 x2 d) → K (.inl none) (g_41 x0 x1 x2 d)) : tCall E 41 [.inr (3, x0), .inl (0, x1), .inl (0, x2)] d K := by
  refine t_41_0 ?_
  refine ⟨m_inR (by omega) (by omega), fun c0 => ?_, fun c0 => ?_⟩
  · have y0 : g_41 x0 x1 x2 d = d := by simp only [g_41, if_pos (show x2 < 0 from c0)]
    rw [y0] at h
    exact h (show ∀ b : Int, (b < x0 + 6 ∨ x0 + 7 < b) → d b = d b from fun _ _ => rfl) hS
  · have q4 := r_3_6 hS hx0 x1
    refine ⟨by omega, ⟨m_inR (by omega) (by omega), m_inR (by omega) (by omega)⟩, fun c1 => ?_, fun c1 => ?_⟩
    · refine l_41_25 hx0 p1 p2 (16 - (x2 + 1) : Int).toNat (x1 * 16) (x2 + 1)  d hS (by omega) (by omega) (by omega) (by omega) ?_
      intro F hS_
      have y0 : g_41 x0 x1 x2 d = lp_41_25 x0 x1 x2 (16 - (x2 + 1) : Int).toNat (x1 * 16) (x2 + 1) d := by simp only [g_41, if_neg (show ¬ x2 < 0 from Int.not_lt.mpr c0), if_pos (show x2 < d (x0 + 6) x1 from c1)]
      rw [y0] at h
      exact h F hS_
    · have y0 : g_41 x0 x1 x2 d = d := by simp only [g_41, if_neg (show ¬ x2 < 0 from Int.not_lt.mpr c0), if_neg (show ¬ x2 < d (x0 + 6) x1 from Int.not_lt.mpr c1)]
      rw [y0] at h
      exact h (show ∀ b : Int, (b < x0 + 6 ∨ x0 + 7 < b) → d b = d b from fun _ _ => rfl) hS
def v_42 (x0 x1 x2 : Int) (d : mD) : Int := if d (x0 + 5) x1 = 0 then 0 else if x2 % (mmax 1 (d (x0 + 3) x1)) = 0 then mmin (d (x0 + 2) x1) (d (x0 + 6) x1) else 0
theorem k_42 {E : mO × tW} {K : tK} {d : mD} {x0 x1 x2 : Int} (hS : Safe d) (hx0 : ofB x0) (p1 : 0 ≤ x1 ∧ x1 ≤ 5) (p2 : 0 ≤ x2 ∧ x2 ≤ 1199) (h : (0 ≤ (v_42 x0 x1 x2 d) ∧ (v_42 x0 x1 x2 d) ≤ 4) → K (.inl (some (0, (v_42 x0 x1 x2 d)))) d) : tCall E 42 [.inr (3, x0), .inl (0, x1), .inl (0, x2)] d K := by
  refine t_42_0 ?_
  have q1 := r_3_5 hS hx0 x1
  refine ⟨by omega, m_inR (by omega) (by omega), fun c0 => ?_, fun c0 => ?_⟩
  · have y0 : v_42 x0 x1 x2 d = 0 := by simp only [v_42, if_pos (show d (x0 + 5) x1 = 0 from c0)]
    rw [y0] at h
    exact h (show 0 ≤ ((0 : Int)) ∧ ((0 : Int)) ≤ 4 from (by omega))
  · have q2 := r_3_3 hS hx0 x1
    have q3 := mmax_r 1 (d (x0 + 3) x1)
    have q4 := mmod_r (x := x2) (y := mmax 1 (d (x0 + 3) x1)) (by omega) (by omega)
    refine ⟨by omega, ⟨m_inR (by omega) (by omega), m_inR (by omega) (by omega)⟩, by omega, m_inR (by omega) (by omega), fun c1 => ?_, fun c1 => ?_⟩
    · have q5 := r_3_2 hS hx0 x1
      have q6 := r_3_6 hS hx0 x1
      have q7 := mmin_r (d (x0 + 2) x1) (d (x0 + 6) x1)
      refine ⟨by omega, by omega, ⟨m_inR (by omega) (by omega), m_inR (by omega) (by omega)⟩, ?_⟩
      have y0 : v_42 x0 x1 x2 d = mmin (d (x0 + 2) x1) (d (x0 + 6) x1) := by simp only [v_42, if_neg (show ¬ d (x0 + 5) x1 = 0 from c0), if_pos (show x2 % (mmax 1 (d (x0 + 3) x1)) = 0 from c1)]
      rw [y0] at h
      exact h (show 0 ≤ (mmin (d (x0 + 2) x1) (d (x0 + 6) x1)) ∧ (mmin (d (x0 + 2) x1) (d (x0 + 6) x1)) ≤ 4 from (by omega))
    · have y0 : v_42 x0 x1 x2 d = 0 := by simp only [v_42, if_neg (show ¬ d (x0 + 5) x1 = 0 from c0), if_neg (show ¬ x2 % (mmax 1 (d (x0 + 3) x1)) = 0 from c1)]
      rw [y0] at h
      exact h (show 0 ≤ ((0 : Int)) ∧ ((0 : Int)) ≤ 4 from (by omega))
def v_43 (x0 x1 x2 x3 : Int) (d : mD) : Int := (((x3 / (mmax 1 (d (x0 + 3) x1))) + ((x2 / (mmax 1 (d (x0 + 2) x1))) + 1)) * (mmax 1 (d (x0 + 3) x1))) - x3
theorem k_43 {E : mO × tW} {K : tK} {d : mD} {x0 x1 x2 x3 : Int} (hS : Safe d) (hx0 : ofB x0) (p1 : 0 ≤ x1 ∧ x1 ≤ 5) (p2 : 0 ≤ x2 ∧ x2 ≤ 16) (p3 : 0 ≤ x3 ∧ x3 ≤ 1199) (h : (1 ≤ (v_43 x0 x1 x2 x3 d) ∧ (v_43 x0 x1 x2 x3 d) ≤ 102) → K (.inl (some (0, (v_43 x0 x1 x2 x3 d)))) d) : tCall E 43 [.inr (3, x0), .inl (0, x1), .inl (0, x2), .inl (0, x3)] d K := by
  refine t_43_0 ?_
  have q1 := r_3_3 hS hx0 x1
  have q2 := r_3_2 hS hx0 x1
  have q3 := mmax_r 1 (d (x0 + 2) x1)
  have q4 := mmax_r 1 (d (x0 + 3) x1)
  have q5 := mdiv_r (x := x3) (y := mmax 1 (d (x0 + 3) x1)) (by omega) (by omega)
  have q6 := mdiv_r (x := x2) (y := mmax 1 (d (x0 + 2) x1)) (by omega) (by omega)
  refine ⟨by omega, ⟨m_inR (by omega) (by omega), m_inR (by omega) (by omega)⟩, by omega, ⟨m_inR (by omega) (by omega), m_inR (by omega) (by omega)⟩, by omega, by omega, ?_⟩
  have y0 : v_43 x0 x1 x2 x3 d = (((x3 / (mmax 1 (d (x0 + 3) x1))) + ((x2 / (mmax 1 (d (x0 + 2) x1))) + 1)) * (mmax 1 (d (x0 + 3) x1))) - x3 := by simp only [v_43]
  rw [y0] at h
  exact h (show 1 ≤ ((((x3 / (mmax 1 (d (x0 + 3) x1))) + ((x2 / (mmax 1 (d (x0 + 2) x1))) + 1)) * (mmax 1 (d (x0 + 3) x1))) - x3) ∧ ((((x3 / (mmax 1 (d (x0 + 3) x1))) + ((x2 / (mmax 1 (d (x0 + 2) x1))) + 1)) * (mmax 1 (d (x0 + 3) x1))) - x3) ≤ 102 from (hus_r (by omega) (by omega) (by omega)))
def v_44 (x0 x1 x2 x3 : Int) (d : mD) : Int := mmax 0 ((d (x0 + 6) x1) - ((((x3 + x2) / (mmax 1 (d (x0 + 3) x1))) - (x3 / (mmax 1 (d (x0 + 3) x1)))) * (d (x0 + 2) x1)))
theorem k_44 {E : mO × tW} {K : tK} {d : mD} {x0 x1 x2 x3 : Int} (hS : Safe d) (hx0 : ofB x0) (p1 : 0 ≤ x1 ∧ x1 ≤ 5) (p2 : 0 ≤ x2 ∧ x2 ≤ 200) (p3 : 0 ≤ x3 ∧ x3 ≤ 1199) (h : (0 ≤ (v_44 x0 x1 x2 x3 d) ∧ (v_44 x0 x1 x2 x3 d) ≤ 16) → K (.inl (some (0, (v_44 x0 x1 x2 x3 d)))) d) : tCall E 44 [.inr (3, x0), .inl (0, x1), .inl (0, x2), .inl (0, x3)] d K := by
  refine t_44_0 ?_
  have w0 := mmax_r 1 (d (x0 + 3) x1)
  have w2 := r_3_2 hS hx0 x1
  have w1 := lin_r (b := mmax 1 (d (x0 + 3) x1)) (t := x3) (h := x2) (w := d (x0 + 2) x1) (by omega) (by omega) (by omega) (by omega)
  have q1 := r_3_3 hS hx0 x1
  have q2 := mmax_r 1 (d (x0 + 3) x1)
  have q3 := r_3_6 hS hx0 x1
  have q4 := mdiv_r (x := x3 + x2) (y := mmax 1 (d (x0 + 3) x1)) (by omega) (by omega)
  have q5 := mdiv_r (x := x3) (y := mmax 1 (d (x0 + 3) x1)) (by omega) (by omega)
  have q6 := r_3_2 hS hx0 x1
  have q7 := mmax_r 0 ((d (x0 + 6) x1) - ((((x3 + x2) / (mmax 1 (d (x0 + 3) x1))) - (x3 / (mmax 1 (d (x0 + 3) x1)))) * (d (x0 + 2) x1)))
  refine ⟨by omega, ⟨m_inR (by omega) (by omega), m_inR (by omega) (by omega)⟩, by omega, by omega, by omega, by omega, ⟨m_inR (by omega) (by omega), m_inR (by omega) (by omega)⟩, ?_⟩
  have y0 : v_44 x0 x1 x2 x3 d = mmax 0 ((d (x0 + 6) x1) - ((((x3 + x2) / (mmax 1 (d (x0 + 3) x1))) - (x3 / (mmax 1 (d (x0 + 3) x1)))) * (d (x0 + 2) x1))) := by simp only [v_44]
  rw [y0] at h
  exact h (show 0 ≤ (mmax 0 ((d (x0 + 6) x1) - ((((x3 + x2) / (mmax 1 (d (x0 + 3) x1))) - (x3 / (mmax 1 (d (x0 + 3) x1)))) * (d (x0 + 2) x1)))) ∧ (mmax 0 ((d (x0 + 6) x1) - ((((x3 + x2) / (mmax 1 (d (x0 + 3) x1))) - (x3 / (mmax 1 (d (x0 + 3) x1)))) * (d (x0 + 2) x1)))) ≤ 16 from (by omega))
/-! ===== contracts of the methods: printed by a program of mine ===== -/
def st_46_85 (x0 x1 : Int) (r85 : Int → mD → mD) (x2 : Int) (d : mD) : mD := if x2 < d x0 0 then r85 (x2 + 1) (g_11 (x0 + 6 + (1 + 2 * x2)) (x1 + 6 + (1 + 2 * x2)) d) else d
def lp_46_85 (x0 x1 : Int) : Nat → Int → mD → mD
  | 0 => st_46_85 x0 x1 (fun _ d => d)
  | n + 1 => st_46_85 x0 x1 (lp_46_85 x0 x1 n)
theorem ls_46_85 {E : mO × tW} {K : tK} {x0 x1 : Int} (hx0 : peB x0) (hx1 : peB x1) (N85 : Int) (r85 : Int → mD → mD) (ih85 : ∀ (x2 : Int) (d : mD), Safe d → (0 ≤ x2 ∧ x2 ≤ 16) → 0 ≤ 16 - x2 → 16 - x2 < N85 → ((∀ b : Int, (b < x0 ∨ x0 + 5 < b) ∧ (b < x0 + 8 ∨ x0 + 38 < b) → (r85 x2 d) b = d b) → Safe (r85 x2 d) → K (.inl none) (r85 x2 d)) → tRun E 46 (85, [.inr (4, x0), .inr (4, x1), .inl (0, x2)], [], 0, 0, d) K) (x2 : Int) (d : mD) (hS : Safe d) (i0 : 0 ≤ x2 ∧ x2 ≤ 16) (hm : 16 - x2 ≤ N85) (h : (∀ b : Int, (b < x0 ∨ x0 + 5 < b) ∧ (b < x0 + 8 ∨ x0 + 38 < b) → (st_46_85 x0 x1 r85 x2 d) b = d b) → Safe (st_46_85 x0 x1 r85 x2 d) → K (.inl none) (st_46_85 x0 x1 r85 x2 d)) : tRun E 46 (85, [.inr (4, x0), .inr (4, x1), .inl (0, x2)], [], 0, 0, d) K := by
  refine t_46_85 ?_
  have q1 := r_4_f0 hS hx0
  refine ⟨⟨m_inR (by omega) (by omega), m_inR (by omega) (by omega)⟩, fun c0 => ?_, fun c0 => ?_⟩
  · have y0 : st_46_85 x0 x1 r85 x2 d = d := by simp only [st_46_85, if_neg (show ¬ x2 < d x0 0 from Int.not_lt.mpr c0)]
    rw [y0] at h
    exact h (show ∀ b : Int, (b < x0 ∨ x0 + 5 < b) ∧ (b < x0 + 8 ∨ x0 + 38 < b) → d b = d b from fun _ _ => rfl) hS
  · refine ⟨by omega, ?_⟩
    have hp1 : hsB (x0 + 6 + (1 + 2 * x2)) := peB.hs hx0 (by omega) (by omega)
    refine ⟨by omega, ?_⟩
    have hp2 : hsB (x1 + 6 + (1 + 2 * x2)) := peB.hs hx1 (by omega) (by omega)
    refine k_11 hS hp1 hp2 (fun F1 hS3 => ?_)
    refine t_46_108 ?_
    refine ih85 (x2 + 1)  (g_11 (x0 + 6 + (1 + 2 * x2)) (x1 + 6 + (1 + 2 * x2)) d) hS3 (by omega) (by omega) (by omega) ?_
    intro F hS_
    have y0 : st_46_85 x0 x1 r85 x2 d = r85 (x2 + 1) (g_11 (x0 + 6 + (1 + 2 * x2)) (x1 + 6 + (1 + 2 * x2)) d) := by simp only [st_46_85, if_pos (show x2 < d x0 0 from c0)]
    rw [y0] at h
    exact h (fun b hb => (F b hb).trans ((show ∀ b : Int, (b < x0 ∨ x0 + 5 < b) ∧ (b < x0 + 8 ∨ x0 + 38 < b) → (g_11 (x0 + 6 + (1 + 2 * x2)) (x1 + 6 + (1 + 2 * x2)) d) b = d b from fun b hb => F1 b (by omega)) b hb)) hS_
theorem l_46_85 {E : mO × tW} {K : tK} {x0 x1 : Int} (hx0 : peB x0) (hx1 : peB x1) : ∀ (n : Nat) (x2 : Int) (d : mD), Safe d → (0 ≤ x2 ∧ x2 ≤ 16) → 16 - x2 ≤ (n : Int) → ((∀ b : Int, (b < x0 ∨ x0 + 5 < b) ∧ (b < x0 + 8 ∨ x0 + 38 < b) → (lp_46_85 x0 x1 n x2 d) b = d b) → Safe (lp_46_85 x0 x1 n x2 d) → K (.inl none) (lp_46_85 x0 x1 n x2 d)) → tRun E 46 (85, [.inr (4, x0), .inr (4, x1), .inl (0, x2)], [], 0, 0, d) K := by
  intro n
  induction n with
  | zero =>
    intro x2  d hS i0 hm  h
    exact ls_46_85 hx0 hx1 0 _ (fun _  _ _ _ m0 m1 _ => absurd m1 (by omega)) x2  d hS i0 hm  h
  | succ n ih =>
    intro x2  d hS i0 hm  h
    exact ls_46_85 hx0 hx1 ((n + 1 : Nat) : Int) _ (fun x2  d hS i0  m0 m1 h => ih x2  d hS i0 (by omega)  h) x2  d hS i0 hm  h
def g_46 (x0 x1 : Int) (d : mD) : mD := lp_46_85 x0 x1 (16 - 0 : Int).toNat 0 (mcopy (mcopy (mcopy (mcopy (mcopy (mset d x0 0 (d x1 0)) (x1 + 1) 0 (x0 + 1) 0 16) (x1 + 2) 0 (x0 + 2) 0 16) (x1 + 3) 0 (x0 + 3) 0 16) (x1 + 4) 0 (x0 + 4) 0 16) (x1 + 5) 0 (x0 + 5) 0 16)
theorem k_46 {E : mO × tW} {K : tK} {d : mD} {x0 x1 : Int} (hS : Safe d) (hx0 : peB x0) (hx1 : peB x1) (h : (∀ b : Int, (b < x0 ∨ x0 + 5 < b) ∧ (b < x0 + 8 ∨ x0 + 38 < b) → (g_46 x0 x1 d) b = d b) → Safe (g_46 x0 x1 d) → K (.inl none) (g_46 x0 x1 d)) : tCall E 46 [.inr (4, x0), .inr (4, x1)] d K := by
  refine t_46_0 ?_
  have q2 := r_4_f0 hS hx1
  have hS4 : Safe (mset d x0 0 (d x1 0)) := s_4_f0 hS hx0 (by omega)
  refine ⟨by omega, ?_⟩
  have hS5 : Safe (mcopy (mset d x0 0 (d x1 0)) (x1 + 1) 0 (x0 + 1) 0 16) := c_4_1 hS4 hx1 hx0
  refine t_46_23 ?_
  refine ⟨by omega, ?_⟩
  have hS6 : Safe (mcopy (mcopy (mset d x0 0 (d x1 0)) (x1 + 1) 0 (x0 + 1) 0 16) (x1 + 2) 0 (x0 + 2) 0 16) := c_4_2 hS5 hx1 hx0
  refine t_46_38 ?_
  refine ⟨by omega, ?_⟩
  have hS7 : Safe (mcopy (mcopy (mcopy (mset d x0 0 (d x1 0)) (x1 + 1) 0 (x0 + 1) 0 16) (x1 + 2) 0 (x0 + 2) 0 16) (x1 + 3) 0 (x0 + 3) 0 16) := c_4_3 hS6 hx1 hx0
  refine t_46_53 ?_
  refine ⟨by omega, ?_⟩
  have hS8 : Safe (mcopy (mcopy (mcopy (mcopy (mset d x0 0 (d x1 0)) (x1 + 1) 0 (x0 + 1) 0 16) (x1 + 2) 0 (x0 + 2) 0 16) (x1 + 3) 0 (x0 + 3) 0 16) (x1 + 4) 0 (x0 + 4) 0 16) := c_4_4 hS7 hx1 hx0
  refine t_46_68 ?_
  refine ⟨by omega, ?_⟩
  have hS9 : Safe (mcopy (mcopy (mcopy (mcopy (mcopy (mset d x0 0 (d x1 0)) (x1 + 1) 0 (x0 + 1) 0 16) (x1 + 2) 0 (x0 + 2) 0 16) (x1 + 3) 0 (x0 + 3) 0 16) (x1 + 4) 0 (x0 + 4) 0 16) (x1 + 5) 0 (x0 + 5) 0 16) := c_4_5 hS8 hx1 hx0
  refine t_46_83 ?_
  refine l_46_85 hx0 hx1 (16 - 0 : Int).toNat 0  (mcopy (mcopy (mcopy (mcopy (mcopy (mset d x0 0 (d x1 0)) (x1 + 1) 0 (x0 + 1) 0 16) (x1 + 2) 0 (x0 + 2) 0 16) (x1 + 3) 0 (x0 + 3) 0 16) (x1 + 4) 0 (x0 + 4) 0 16) (x1 + 5) 0 (x0 + 5) 0 16) hS9 (by omega) (by omega) ?_
  intro F hS_
  have y0 : g_46 x0 x1 d = lp_46_85 x0 x1 (16 - 0 : Int).toNat 0 (mcopy (mcopy (mcopy (mcopy (mcopy (mset d x0 0 (d x1 0)) (x1 + 1) 0 (x0 + 1) 0 16) (x1 + 2) 0 (x0 + 2) 0 16) (x1 + 3) 0 (x0 + 3) 0 16) (x1 + 4) 0 (x0 + 4) 0 16) (x1 + 5) 0 (x0 + 5) 0 16) := by simp only [g_46]
  rw [y0] at h
  exact h (fun b hb => (F b hb).trans ((show ∀ b : Int, (b < x0 ∨ x0 + 5 < b) ∧ (b < x0 + 8 ∨ x0 + 38 < b) → (mcopy (mcopy (mcopy (mcopy (mcopy (mset d x0 0 (d x1 0)) (x1 + 1) 0 (x0 + 1) 0 16) (x1 + 2) 0 (x0 + 2) 0 16) (x1 + 3) 0 (x0 + 3) 0 16) (x1 + 4) 0 (x0 + 4) 0 16) (x1 + 5) 0 (x0 + 5) 0 16) b = d b from fun b hb => (mcopy_ne (by omega)).trans ((mcopy_ne (by omega)).trans ((mcopy_ne (by omega)).trans ((mcopy_ne (by omega)).trans ((mcopy_ne (by omega)).trans (mset_ne (by omega))))))) b hb)) hS_
def g_47 (x0 x1 : Int) (d : mD) : mD := if d x0 0 < 16 then mset (g_8 (x0 + 6 + (1 + 2 * (d x0 0))) (mset (mset (mset (mset (mset d (x0 + 1) (d x0 0) x1) (x0 + 2) (d x0 0) 0) (x0 + 3) (d x0 0) 0) (x0 + 4) (d x0 0) 0) (x0 + 5) (d x0 0) 0)) x0 0 ((d x0 0) + 1) else d
theorem k_47 {E : mO × tW} {K : tK} {d : mD} {x0 x1 : Int} (hS : Safe d) (hx0 : peB x0) (p1 : 0 ≤ x1 ∧ x1 ≤ 1073741823) (h : (∀ b : Int, (b < x0 ∨ x0 + 5 < b) ∧ (b < x0 + 8 ∨ x0 + 38 < b) → (g_47 x0 x1 d) b = d b) → Safe (g_47 x0 x1 d) → K (.inl none) (g_47 x0 x1 d)) : tCall E 47 [.inr (4, x0), .inl (0, x1)] d K := by
  refine t_47_0 ?_
  have q1 := r_4_f0 hS hx0
  refine ⟨⟨m_inR (by omega) (by omega), m_inR (by omega) (by omega)⟩, fun c0 => ?_, fun c0 => ?_⟩
  · refine ⟨by omega, ?_⟩
    have hS1 : Safe (mset d (x0 + 1) (d x0 0) x1) := s_4_1 hS hx0 (by omega)
    refine t_47_20 ?_
    rw [mset_ne (d := d) (a := x0 + 1) (i := d x0 0) (v := x1) (b := x0) (by omega)]
    refine ⟨by omega, ?_⟩
    have hS2 : Safe (mset (mset d (x0 + 1) (d x0 0) x1) (x0 + 2) (d x0 0) 0) := s_4_2 hS1 hx0
    refine t_47_30 ?_
    rw [mset_ne (d := mset d (x0 + 1) (d x0 0) x1) (a := x0 + 2) (i := d x0 0) (v := (0 : Int)) (b := x0) (by omega)]
    rw [mset_ne (d := d) (a := x0 + 1) (i := d x0 0) (v := x1) (b := x0) (by omega)]
    refine ⟨by omega, ?_⟩
    have hS3 : Safe (mset (mset (mset d (x0 + 1) (d x0 0) x1) (x0 + 2) (d x0 0) 0) (x0 + 3) (d x0 0) 0) := s_4_3 hS2 hx0 (by omega)
    refine t_47_40 ?_
    rw [mset_ne (d := mset (mset d (x0 + 1) (d x0 0) x1) (x0 + 2) (d x0 0) 0) (a := x0 + 3) (i := d x0 0) (v := (0 : Int)) (b := x0) (by omega)]
    rw [mset_ne (d := mset d (x0 + 1) (d x0 0) x1) (a := x0 + 2) (i := d x0 0) (v := (0 : Int)) (b := x0) (by omega)]
    rw [mset_ne (d := d) (a := x0 + 1) (i := d x0 0) (v := x1) (b := x0) (by omega)]
    refine ⟨by omega, ?_⟩
    have hS4 : Safe (mset (mset (mset (mset d (x0 + 1) (d x0 0) x1) (x0 + 2) (d x0 0) 0) (x0 + 3) (d x0 0) 0) (x0 + 4) (d x0 0) 0) := s_4_4 hS3 hx0 (by omega)
    refine t_47_50 ?_
    rw [mset_ne (d := mset (mset (mset d (x0 + 1) (d x0 0) x1) (x0 + 2) (d x0 0) 0) (x0 + 3) (d x0 0) 0) (a := x0 + 4) (i := d x0 0) (v := (0 : Int)) (b := x0) (by omega)]
    rw [mset_ne (d := mset (mset d (x0 + 1) (d x0 0) x1) (x0 + 2) (d x0 0) 0) (a := x0 + 3) (i := d x0 0) (v := (0 : Int)) (b := x0) (by omega)]
    rw [mset_ne (d := mset d (x0 + 1) (d x0 0) x1) (a := x0 + 2) (i := d x0 0) (v := (0 : Int)) (b := x0) (by omega)]
    rw [mset_ne (d := d) (a := x0 + 1) (i := d x0 0) (v := x1) (b := x0) (by omega)]
    refine ⟨by omega, ?_⟩
    have hS5 : Safe (mset (mset (mset (mset (mset d (x0 + 1) (d x0 0) x1) (x0 + 2) (d x0 0) 0) (x0 + 3) (d x0 0) 0) (x0 + 4) (d x0 0) 0) (x0 + 5) (d x0 0) 0) := s_4_5 hS4 hx0
    refine t_47_60 ?_
    rw [mset_ne (d := mset (mset (mset (mset d (x0 + 1) (d x0 0) x1) (x0 + 2) (d x0 0) 0) (x0 + 3) (d x0 0) 0) (x0 + 4) (d x0 0) 0) (a := x0 + 5) (i := d x0 0) (v := (0 : Int)) (b := x0) (by omega)]
    rw [mset_ne (d := mset (mset (mset d (x0 + 1) (d x0 0) x1) (x0 + 2) (d x0 0) 0) (x0 + 3) (d x0 0) 0) (a := x0 + 4) (i := d x0 0) (v := (0 : Int)) (b := x0) (by omega)]
    rw [mset_ne (d := mset (mset d (x0 + 1) (d x0 0) x1) (x0 + 2) (d x0 0) 0) (a := x0 + 3) (i := d x0 0) (v := (0 : Int)) (b := x0) (by omega)]
    rw [mset_ne (d := mset d (x0 + 1) (d x0 0) x1) (a := x0 + 2) (i := d x0 0) (v := (0 : Int)) (b := x0) (by omega)]
    rw [mset_ne (d := d) (a := x0 + 1) (i := d x0 0) (v := x1) (b := x0) (by omega)]
    refine ⟨by omega, ?_⟩
    have hp6 : hsB (x0 + 6 + (1 + 2 * (d x0 0))) := peB.hs hx0 (by omega) (by omega)
    refine k_8 hS5 hp6 (fun F1 hS7 => ?_)
    refine t_47_72 ?_
    rw [F1 x0 (by omega)]
    rw [mset_ne (d := mset (mset (mset (mset d (x0 + 1) (d x0 0) x1) (x0 + 2) (d x0 0) 0) (x0 + 3) (d x0 0) 0) (x0 + 4) (d x0 0) 0) (a := x0 + 5) (i := d x0 0) (v := (0 : Int)) (b := x0) (by omega)]
    rw [mset_ne (d := mset (mset (mset d (x0 + 1) (d x0 0) x1) (x0 + 2) (d x0 0) 0) (x0 + 3) (d x0 0) 0) (a := x0 + 4) (i := d x0 0) (v := (0 : Int)) (b := x0) (by omega)]
    rw [mset_ne (d := mset (mset d (x0 + 1) (d x0 0) x1) (x0 + 2) (d x0 0) 0) (a := x0 + 3) (i := d x0 0) (v := (0 : Int)) (b := x0) (by omega)]
    rw [mset_ne (d := mset d (x0 + 1) (d x0 0) x1) (a := x0 + 2) (i := d x0 0) (v := (0 : Int)) (b := x0) (by omega)]
    rw [mset_ne (d := d) (a := x0 + 1) (i := d x0 0) (v := x1) (b := x0) (by omega)]
    have hS8 : Safe (mset (g_8 (x0 + 6 + (1 + 2 * (d x0 0))) (mset (mset (mset (mset (mset d (x0 + 1) (d x0 0) x1) (x0 + 2) (d x0 0) 0) (x0 + 3) (d x0 0) 0) (x0 + 4) (d x0 0) 0) (x0 + 5) (d x0 0) 0)) x0 0 ((d x0 0) + 1)) := s_4_f0 hS7 hx0 (by omega)
    have y0 : g_47 x0 x1 d = mset (g_8 (x0 + 6 + (1 + 2 * (d x0 0))) (mset (mset (mset (mset (mset d (x0 + 1) (d x0 0) x1) (x0 + 2) (d x0 0) 0) (x0 + 3) (d x0 0) 0) (x0 + 4) (d x0 0) 0) (x0 + 5) (d x0 0) 0)) x0 0 ((d x0 0) + 1) := by simp only [g_47, if_pos (show d x0 0 < 16 from c0)]
    rw [y0] at h
    exact h (show ∀ b : Int, (b < x0 ∨ x0 + 5 < b) ∧ (b < x0 + 8 ∨ x0 + 38 < b) → (mset (g_8 (x0 + 6 + (1 + 2 * (d x0 0))) (mset (mset (mset (mset (mset d (x0 + 1) (d x0 0) x1) (x0 + 2) (d x0 0) 0) (x0 + 3) (d x0 0) 0) (x0 + 4) (d x0 0) 0) (x0 + 5) (d x0 0) 0)) x0 0 ((d x0 0) + 1)) b = d b from fun b hb => (mset_ne (by omega)).trans ((F1 b (by omega)).trans ((mset_ne (by omega)).trans ((mset_ne (by omega)).trans ((mset_ne (by omega)).trans ((mset_ne (by omega)).trans (mset_ne (by omega)))))))) hS8
  · have y0 : g_47 x0 x1 d = d := by simp only [g_47, if_neg (show ¬ d x0 0 < 16 from Int.not_lt.mpr c0)]
    rw [y0] at h
    exact h (show ∀ b : Int, (b < x0 ∨ x0 + 5 < b) ∧ (b < x0 + 8 ∨ x0 + 38 < b) → d b = d b from fun _ _ => rfl) hS
def st_48_2 (x0 x1 : Int) (r2 : Int → mD → Int) (x2 : Int) (d : mD) : Int := if x2 < d x0 0 then (if d (x0 + 1) x2 = x1 then x2 else r2 (x2 + 1) d) else (-1)
def lp_48_2 (x0 x1 : Int) : Nat → Int → mD → Int
  | 0 => st_48_2 x0 x1 (fun _ d => 0)
  | n + 1 => st_48_2 x0 x1 (lp_48_2 x0 x1 n)
theorem ls_48_2 {E : mO × tW} {K : tK} {x0 x1 : Int} (hx0 : peB x0) (p1 : -2147483648 ≤ x1 ∧ x1 ≤ 2147483647) (N2 : Int) (r2 : Int → mD → Int) (ih2 : ∀ (x2 : Int) (d : mD), Safe d → (0 ≤ x2 ∧ x2 ≤ 16) → 0 ≤ 16 - x2 → 16 - x2 < N2 → ((-1 ≤ (r2 x2 d) ∧ (r2 x2 d) ≤ 15) → K (.inl (some (0, (r2 x2 d)))) d) → tRun E 48 (2, [.inr (4, x0), .inl (0, x1), .inl (0, x2)], [], 0, 0, d) K) (x2 : Int) (d : mD) (hS : Safe d) (i0 : 0 ≤ x2 ∧ x2 ≤ 16) (hm : 16 - x2 ≤ N2) (h : (-1 ≤ (st_48_2 x0 x1 r2 x2 d) ∧ (st_48_2 x0 x1 r2 x2 d) ≤ 15) → K (.inl (some (0, (st_48_2 x0 x1 r2 x2 d)))) d) : tRun E 48 (2, [.inr (4, x0), .inl (0, x1), .inl (0, x2)], [], 0, 0, d) K := by
  refine t_48_2 ?_
  have q1 := r_4_f0 hS hx0
  refine ⟨⟨m_inR (by omega) (by omega), m_inR (by omega) (by omega)⟩, fun c0 => ?_, fun c0 => ?_⟩
  · have y0 : st_48_2 x0 x1 r2 x2 d = (-1) := by simp only [st_48_2, if_neg (show ¬ x2 < d x0 0 from Int.not_lt.mpr c0)]
    rw [y0] at h
    exact h (show -1 ≤ ((-1 : Int)) ∧ ((-1 : Int)) ≤ 15 from (by omega))
  · have q2 := r_4_1 hS hx0 x2
    refine ⟨by omega, ⟨m_inR (by omega) (by omega), m_inR (by omega) (by omega)⟩, fun c1 => ?_, fun c1 => ?_⟩
    · refine ih2 (x2 + 1)  d hS (by omega) (by omega) (by omega) ?_
      intro e
      have y0 : st_48_2 x0 x1 r2 x2 d = r2 (x2 + 1) d := by simp only [st_48_2, if_pos (show x2 < d x0 0 from c0), if_neg (show ¬ d (x0 + 1) x2 = x1 from c1)]
      rw [y0] at h
      exact h e
    · have y0 : st_48_2 x0 x1 r2 x2 d = x2 := by simp only [st_48_2, if_pos (show x2 < d x0 0 from c0), if_pos (show d (x0 + 1) x2 = x1 from c1)]
      rw [y0] at h
      exact h (show -1 ≤ x2 ∧ x2 ≤ 15 from (by omega))
theorem l_48_2 {E : mO × tW} {K : tK} {x0 x1 : Int} (hx0 : peB x0) (p1 : -2147483648 ≤ x1 ∧ x1 ≤ 2147483647) : ∀ (n : Nat) (x2 : Int) (d : mD), Safe d → (0 ≤ x2 ∧ x2 ≤ 16) → 16 - x2 ≤ (n : Int) → ((-1 ≤ (lp_48_2 x0 x1 n x2 d) ∧ (lp_48_2 x0 x1 n x2 d) ≤ 15) → K (.inl (some (0, (lp_48_2 x0 x1 n x2 d)))) d) → tRun E 48 (2, [.inr (4, x0), .inl (0, x1), .inl (0, x2)], [], 0, 0, d) K := by
  intro n
  induction n with
  | zero =>
    intro x2  d hS i0 hm  h
    exact ls_48_2 hx0 p1 0 _ (fun _  _ _ _ m0 m1 _ => absurd m1 (by omega)) x2  d hS i0 hm  h
  | succ n ih =>
    intro x2  d hS i0 hm  h
    exact ls_48_2 hx0 p1 ((n + 1 : Nat) : Int) _ (fun x2  d hS i0  m0 m1 h => ih x2  d hS i0 (by omega)  h) x2  d hS i0 hm  h
def v_48 (x0 x1 : Int) (d : mD) : Int := lp_48_2 x0 x1 (16 - 0 : Int).toNat 0 d
theorem k_48 {E : mO × tW} {K : tK} {d : mD} {x0 x1 : Int} (hS : Safe d) (hx0 : peB x0) (p1 : -2147483648 ≤ x1 ∧ x1 ≤ 2147483647) (h : (-1 ≤ (v_48 x0 x1 d) ∧ (v_48 x0 x1 d) ≤ 15) → K (.inl (some (0, (v_48 x0 x1 d)))) d) : tCall E 48 [.inr (4, x0), .inl (0, x1)] d K := by
  refine t_48_0 ?_
  refine l_48_2 hx0 p1 (16 - 0 : Int).toNat 0  d hS (by omega) (by omega) ?_
  intro e
  have y0 : v_48 x0 x1 d = lp_48_2 x0 x1 (16 - 0 : Int).toNat 0 d := by simp only [v_48]
  rw [y0] at h
  exact h e
def g_49 (x0 : Int) (d : mD) : mD := g_299 (x0 + 5) 0 (g_299 (x0 + 4) 0 (g_299 (x0 + 3) 0 d))
theorem k_49 {E : mO × tW} {K : tK} {d : mD} {x0 : Int} (hS : Safe d) (hx0 : peB x0) (h : (∀ b : Int, (b < x0 + 3 ∨ x0 + 5 < b) → (g_49 x0 d) b = d b) → Safe (g_49 x0 d) → K (.inl none) (g_49 x0 d)) : tCall E 49 [.inr (4, x0)] d K := by
  refine t_49_0 ?_
  refine k_299 hS (by intro i; first | (rw [cd_4_3 hx0]; exact ⟨by decide, by decide⟩) | (rw [cd_4_4 hx0]; exact ⟨by decide, by decide⟩) | (rw [cd_4_5 hx0]; trivial)) (fun F1 hS1 => ?_)
  refine t_49_8 ?_
  refine k_299 hS1 (by intro i; first | (rw [cd_4_3 hx0]; exact ⟨by decide, by decide⟩) | (rw [cd_4_4 hx0]; exact ⟨by decide, by decide⟩) | (rw [cd_4_5 hx0]; trivial)) (fun F2 hS2 => ?_)
  refine t_49_16 ?_
  refine k_299 hS2 (by intro i; first | (rw [cd_4_3 hx0]; exact ⟨by decide, by decide⟩) | (rw [cd_4_4 hx0]; exact ⟨by decide, by decide⟩) | (rw [cd_4_5 hx0]; trivial)) (fun F3 hS3 => ?_)
  refine t_49_24 ?_
  have y0 : g_49 x0 d = g_299 (x0 + 5) 0 (g_299 (x0 + 4) 0 (g_299 (x0 + 3) 0 d)) := by simp only [g_49]
  rw [y0] at h
  exact h (show ∀ b : Int, (b < x0 + 3 ∨ x0 + 5 < b) → (g_299 (x0 + 5) 0 (g_299 (x0 + 4) 0 (g_299 (x0 + 3) 0 d))) b = d b from fun b hb => (F3 b (by omega)).trans ((F2 b (by omega)).trans (F1 b (by omega)))) hS3
def g_95 (x0 x1 : Int) (d : mD) : mD := mcopy (mcopy (mcopy (mcopy (mcopy (mcopy (mcopy (mset d x0 0 (d x1 0)) (x1 + 1) 0 (x0 + 1) 0 (d x1 0)) (x1 + 2) 0 (x0 + 2) 0 (d x1 0)) (x1 + 3) 0 (x0 + 3) 0 (d x1 0)) (x1 + 4) 0 (x0 + 4) 0 (d x1 0)) (x1 + 5) 0 (x0 + 5) 0 (d x1 0)) (x1 + 6) 0 (x0 + 6) 0 (d x1 0)) (x1 + 7) 0 (x0 + 7) 0 (d x1 0)
theorem k_95 {E : mO × tW} {K : tK} {d : mD} {x0 x1 : Int} (hS : Safe d) (hx0 : tiB x0) (hx1 : tiB x1) (h : (∀ b : Int, (b < x0 ∨ x0 + 7 < b) → (g_95 x0 x1 d) b = d b) → Safe (g_95 x0 x1 d) → K (.inl none) (g_95 x0 x1 d)) : tCall E 95 [.inr (8, x0), .inr (8, x1)] d K := by
  refine t_95_0 ?_
  have q1 := r_8_f0 hS hx1
  have hS1 : Safe (mset d x0 0 (d x1 0)) := s_8_f0 hS hx0 (by omega)
  rw [mset_eq (d := d) (a := x0) (i := (0 : Int)) (v := d x1 0)]
  refine ⟨by omega, ?_⟩
  have hS2 : Safe (mcopy (mset d x0 0 (d x1 0)) (x1 + 1) 0 (x0 + 1) 0 (d x1 0)) := c_8_1 hS1 hx1 hx0
  refine t_95_25 ?_
  rw [mcopy_ne (show x0 ≠ x0 + 1 by omega)]
  rw [mset_eq (d := d) (a := x0) (i := (0 : Int)) (v := d x1 0)]
  refine ⟨by omega, ?_⟩
  have hS3 : Safe (mcopy (mcopy (mset d x0 0 (d x1 0)) (x1 + 1) 0 (x0 + 1) 0 (d x1 0)) (x1 + 2) 0 (x0 + 2) 0 (d x1 0)) := c_8_2 hS2 hx1 hx0
  refine t_95_42 ?_
  rw [mcopy_ne (show x0 ≠ x0 + 2 by omega)]
  rw [mcopy_ne (show x0 ≠ x0 + 1 by omega)]
  rw [mset_eq (d := d) (a := x0) (i := (0 : Int)) (v := d x1 0)]
  refine ⟨by omega, ?_⟩
  have hS4 : Safe (mcopy (mcopy (mcopy (mset d x0 0 (d x1 0)) (x1 + 1) 0 (x0 + 1) 0 (d x1 0)) (x1 + 2) 0 (x0 + 2) 0 (d x1 0)) (x1 + 3) 0 (x0 + 3) 0 (d x1 0)) := c_8_3 hS3 hx1 hx0
  refine t_95_59 ?_
  rw [mcopy_ne (show x0 ≠ x0 + 3 by omega)]
  rw [mcopy_ne (show x0 ≠ x0 + 2 by omega)]
  rw [mcopy_ne (show x0 ≠ x0 + 1 by omega)]
  rw [mset_eq (d := d) (a := x0) (i := (0 : Int)) (v := d x1 0)]
  refine ⟨by omega, ?_⟩
  have hS5 : Safe (mcopy (mcopy (mcopy (mcopy (mset d x0 0 (d x1 0)) (x1 + 1) 0 (x0 + 1) 0 (d x1 0)) (x1 + 2) 0 (x0 + 2) 0 (d x1 0)) (x1 + 3) 0 (x0 + 3) 0 (d x1 0)) (x1 + 4) 0 (x0 + 4) 0 (d x1 0)) := c_8_4 hS4 hx1 hx0
  refine t_95_76 ?_
  rw [mcopy_ne (show x0 ≠ x0 + 4 by omega)]
  rw [mcopy_ne (show x0 ≠ x0 + 3 by omega)]
  rw [mcopy_ne (show x0 ≠ x0 + 2 by omega)]
  rw [mcopy_ne (show x0 ≠ x0 + 1 by omega)]
  rw [mset_eq (d := d) (a := x0) (i := (0 : Int)) (v := d x1 0)]
  refine ⟨by omega, ?_⟩
  have hS6 : Safe (mcopy (mcopy (mcopy (mcopy (mcopy (mset d x0 0 (d x1 0)) (x1 + 1) 0 (x0 + 1) 0 (d x1 0)) (x1 + 2) 0 (x0 + 2) 0 (d x1 0)) (x1 + 3) 0 (x0 + 3) 0 (d x1 0)) (x1 + 4) 0 (x0 + 4) 0 (d x1 0)) (x1 + 5) 0 (x0 + 5) 0 (d x1 0)) := c_8_5 hS5 hx1 hx0
  refine t_95_93 ?_
  rw [mcopy_ne (show x0 ≠ x0 + 5 by omega)]
  rw [mcopy_ne (show x0 ≠ x0 + 4 by omega)]
  rw [mcopy_ne (show x0 ≠ x0 + 3 by omega)]
  rw [mcopy_ne (show x0 ≠ x0 + 2 by omega)]
  rw [mcopy_ne (show x0 ≠ x0 + 1 by omega)]
  rw [mset_eq (d := d) (a := x0) (i := (0 : Int)) (v := d x1 0)]
  refine ⟨by omega, ?_⟩
  have hS7 : Safe (mcopy (mcopy (mcopy (mcopy (mcopy (mcopy (mset d x0 0 (d x1 0)) (x1 + 1) 0 (x0 + 1) 0 (d x1 0)) (x1 + 2) 0 (x0 + 2) 0 (d x1 0)) (x1 + 3) 0 (x0 + 3) 0 (d x1 0)) (x1 + 4) 0 (x0 + 4) 0 (d x1 0)) (x1 + 5) 0 (x0 + 5) 0 (d x1 0)) (x1 + 6) 0 (x0 + 6) 0 (d x1 0)) := c_8_6 hS6 hx1 hx0
  refine t_95_110 ?_
  rw [mcopy_ne (show x0 ≠ x0 + 6 by omega)]
  rw [mcopy_ne (show x0 ≠ x0 + 5 by omega)]
  rw [mcopy_ne (show x0 ≠ x0 + 4 by omega)]
  rw [mcopy_ne (show x0 ≠ x0 + 3 by omega)]
  rw [mcopy_ne (show x0 ≠ x0 + 2 by omega)]
  rw [mcopy_ne (show x0 ≠ x0 + 1 by omega)]
  rw [mset_eq (d := d) (a := x0) (i := (0 : Int)) (v := d x1 0)]
  refine ⟨by omega, ?_⟩
  have hS8 : Safe (mcopy (mcopy (mcopy (mcopy (mcopy (mcopy (mcopy (mset d x0 0 (d x1 0)) (x1 + 1) 0 (x0 + 1) 0 (d x1 0)) (x1 + 2) 0 (x0 + 2) 0 (d x1 0)) (x1 + 3) 0 (x0 + 3) 0 (d x1 0)) (x1 + 4) 0 (x0 + 4) 0 (d x1 0)) (x1 + 5) 0 (x0 + 5) 0 (d x1 0)) (x1 + 6) 0 (x0 + 6) 0 (d x1 0)) (x1 + 7) 0 (x0 + 7) 0 (d x1 0)) := c_8_7 hS7 hx1 hx0
  refine t_95_127 ?_
  have y0 : g_95 x0 x1 d = mcopy (mcopy (mcopy (mcopy (mcopy (mcopy (mcopy (mset d x0 0 (d x1 0)) (x1 + 1) 0 (x0 + 1) 0 (d x1 0)) (x1 + 2) 0 (x0 + 2) 0 (d x1 0)) (x1 + 3) 0 (x0 + 3) 0 (d x1 0)) (x1 + 4) 0 (x0 + 4) 0 (d x1 0)) (x1 + 5) 0 (x0 + 5) 0 (d x1 0)) (x1 + 6) 0 (x0 + 6) 0 (d x1 0)) (x1 + 7) 0 (x0 + 7) 0 (d x1 0) := by simp only [g_95]
  rw [y0] at h
  exact h (show ∀ b : Int, (b < x0 ∨ x0 + 7 < b) → (mcopy (mcopy (mcopy (mcopy (mcopy (mcopy (mcopy (mset d x0 0 (d x1 0)) (x1 + 1) 0 (x0 + 1) 0 (d x1 0)) (x1 + 2) 0 (x0 + 2) 0 (d x1 0)) (x1 + 3) 0 (x0 + 3) 0 (d x1 0)) (x1 + 4) 0 (x0 + 4) 0 (d x1 0)) (x1 + 5) 0 (x0 + 5) 0 (d x1 0)) (x1 + 6) 0 (x0 + 6) 0 (d x1 0)) (x1 + 7) 0 (x0 + 7) 0 (d x1 0)) b = d b from fun b hb => (mcopy_ne (by omega)).trans ((mcopy_ne (by omega)).trans ((mcopy_ne (by omega)).trans ((mcopy_ne (by omega)).trans ((mcopy_ne (by omega)).trans ((mcopy_ne (by omega)).trans ((mcopy_ne (by omega)).trans (mset_ne (by omega))))))))) hS8
def g_96 (x0 x1 x2 x3 : Int) (d : mD) : mD := if d x0 0 < 60 then mset (mset (mset (mset (mset (mset (mset (mset d (x0 + 1) (d x0 0) x1) (x0 + 2) (d x0 0) x2) (x0 + 3) (d x0 0) x3) (x0 + 4) (d x0 0) ((-1))) (x0 + 5) (d x0 0) 0) (x0 + 6) (d x0 0) 0) (x0 + 7) (d x0 0) 0) x0 0 ((d x0 0) + 1) else d
theorem k_96 {E : mO × tW} {K : tK} {d : mD} {x0 x1 x2 x3 : Int} (hS : Safe d) (hx0 : tiB x0) (p1 : 0 ≤ x1 ∧ x1 ≤ 15) (p2 : 0 ≤ x2 ∧ x2 ≤ 5) (p3 : 0 ≤ x3 ∧ x3 ≤ 999) (h : (∀ b : Int, (b < x0 ∨ x0 + 7 < b) → (g_96 x0 x1 x2 x3 d) b = d b) → Safe (g_96 x0 x1 x2 x3 d) → K (.inl none) (g_96 x0 x1 x2 x3 d)) : tCall E 96 [.inr (8, x0), .inl (0, x1), .inl (0, x2), .inl (0, x3)] d K := by
  refine t_96_0 ?_
  have q1 := r_8_f0 hS hx0
  refine ⟨⟨m_inR (by omega) (by omega), m_inR (by omega) (by omega)⟩, fun c0 => ?_, fun c0 => ?_⟩
  · refine ⟨by omega, ?_⟩
    have hS1 : Safe (mset d (x0 + 1) (d x0 0) x1) := s_8_1 hS hx0 (by omega)
    refine t_96_20 ?_
    rw [mset_ne (d := d) (a := x0 + 1) (i := d x0 0) (v := x1) (b := x0) (by omega)]
    refine ⟨by omega, ?_⟩
    have hS2 : Safe (mset (mset d (x0 + 1) (d x0 0) x1) (x0 + 2) (d x0 0) x2) := s_8_2 hS1 hx0 (by omega)
    refine t_96_30 ?_
    rw [mset_ne (d := mset d (x0 + 1) (d x0 0) x1) (a := x0 + 2) (i := d x0 0) (v := x2) (b := x0) (by omega)]
    rw [mset_ne (d := d) (a := x0 + 1) (i := d x0 0) (v := x1) (b := x0) (by omega)]
    refine ⟨by omega, ?_⟩
    have hS3 : Safe (mset (mset (mset d (x0 + 1) (d x0 0) x1) (x0 + 2) (d x0 0) x2) (x0 + 3) (d x0 0) x3) := s_8_3 hS2 hx0 (by omega)
    refine t_96_40 ?_
    rw [mset_ne (d := mset (mset d (x0 + 1) (d x0 0) x1) (x0 + 2) (d x0 0) x2) (a := x0 + 3) (i := d x0 0) (v := x3) (b := x0) (by omega)]
    rw [mset_ne (d := mset d (x0 + 1) (d x0 0) x1) (a := x0 + 2) (i := d x0 0) (v := x2) (b := x0) (by omega)]
    rw [mset_ne (d := d) (a := x0 + 1) (i := d x0 0) (v := x1) (b := x0) (by omega)]
    refine ⟨by omega, ?_⟩
    have hS4 : Safe (mset (mset (mset (mset d (x0 + 1) (d x0 0) x1) (x0 + 2) (d x0 0) x2) (x0 + 3) (d x0 0) x3) (x0 + 4) (d x0 0) ((-1))) := s_8_4 hS3 hx0 (by omega)
    refine t_96_50 ?_
    rw [mset_ne (d := mset (mset (mset d (x0 + 1) (d x0 0) x1) (x0 + 2) (d x0 0) x2) (x0 + 3) (d x0 0) x3) (a := x0 + 4) (i := d x0 0) (v := (-1 : Int)) (b := x0) (by omega)]
    rw [mset_ne (d := mset (mset d (x0 + 1) (d x0 0) x1) (x0 + 2) (d x0 0) x2) (a := x0 + 3) (i := d x0 0) (v := x3) (b := x0) (by omega)]
    rw [mset_ne (d := mset d (x0 + 1) (d x0 0) x1) (a := x0 + 2) (i := d x0 0) (v := x2) (b := x0) (by omega)]
    rw [mset_ne (d := d) (a := x0 + 1) (i := d x0 0) (v := x1) (b := x0) (by omega)]
    refine ⟨by omega, ?_⟩
    have hS5 : Safe (mset (mset (mset (mset (mset d (x0 + 1) (d x0 0) x1) (x0 + 2) (d x0 0) x2) (x0 + 3) (d x0 0) x3) (x0 + 4) (d x0 0) ((-1))) (x0 + 5) (d x0 0) 0) := s_8_5 hS4 hx0 (by omega)
    refine t_96_60 ?_
    rw [mset_ne (d := mset (mset (mset (mset d (x0 + 1) (d x0 0) x1) (x0 + 2) (d x0 0) x2) (x0 + 3) (d x0 0) x3) (x0 + 4) (d x0 0) ((-1))) (a := x0 + 5) (i := d x0 0) (v := (0 : Int)) (b := x0) (by omega)]
    rw [mset_ne (d := mset (mset (mset d (x0 + 1) (d x0 0) x1) (x0 + 2) (d x0 0) x2) (x0 + 3) (d x0 0) x3) (a := x0 + 4) (i := d x0 0) (v := (-1 : Int)) (b := x0) (by omega)]
    rw [mset_ne (d := mset (mset d (x0 + 1) (d x0 0) x1) (x0 + 2) (d x0 0) x2) (a := x0 + 3) (i := d x0 0) (v := x3) (b := x0) (by omega)]
    rw [mset_ne (d := mset d (x0 + 1) (d x0 0) x1) (a := x0 + 2) (i := d x0 0) (v := x2) (b := x0) (by omega)]
    rw [mset_ne (d := d) (a := x0 + 1) (i := d x0 0) (v := x1) (b := x0) (by omega)]
    refine ⟨by omega, ?_⟩
    have hS6 : Safe (mset (mset (mset (mset (mset (mset d (x0 + 1) (d x0 0) x1) (x0 + 2) (d x0 0) x2) (x0 + 3) (d x0 0) x3) (x0 + 4) (d x0 0) ((-1))) (x0 + 5) (d x0 0) 0) (x0 + 6) (d x0 0) 0) := s_8_6 hS5 hx0 (by omega)
    refine t_96_70 ?_
    rw [mset_ne (d := mset (mset (mset (mset (mset d (x0 + 1) (d x0 0) x1) (x0 + 2) (d x0 0) x2) (x0 + 3) (d x0 0) x3) (x0 + 4) (d x0 0) ((-1))) (x0 + 5) (d x0 0) 0) (a := x0 + 6) (i := d x0 0) (v := (0 : Int)) (b := x0) (by omega)]
    rw [mset_ne (d := mset (mset (mset (mset d (x0 + 1) (d x0 0) x1) (x0 + 2) (d x0 0) x2) (x0 + 3) (d x0 0) x3) (x0 + 4) (d x0 0) ((-1))) (a := x0 + 5) (i := d x0 0) (v := (0 : Int)) (b := x0) (by omega)]
    rw [mset_ne (d := mset (mset (mset d (x0 + 1) (d x0 0) x1) (x0 + 2) (d x0 0) x2) (x0 + 3) (d x0 0) x3) (a := x0 + 4) (i := d x0 0) (v := (-1 : Int)) (b := x0) (by omega)]
    rw [mset_ne (d := mset (mset d (x0 + 1) (d x0 0) x1) (x0 + 2) (d x0 0) x2) (a := x0 + 3) (i := d x0 0) (v := x3) (b := x0) (by omega)]
    rw [mset_ne (d := mset d (x0 + 1) (d x0 0) x1) (a := x0 + 2) (i := d x0 0) (v := x2) (b := x0) (by omega)]
    rw [mset_ne (d := d) (a := x0 + 1) (i := d x0 0) (v := x1) (b := x0) (by omega)]
    refine ⟨by omega, ?_⟩
    have hS7 : Safe (mset (mset (mset (mset (mset (mset (mset d (x0 + 1) (d x0 0) x1) (x0 + 2) (d x0 0) x2) (x0 + 3) (d x0 0) x3) (x0 + 4) (d x0 0) ((-1))) (x0 + 5) (d x0 0) 0) (x0 + 6) (d x0 0) 0) (x0 + 7) (d x0 0) 0) := s_8_7 hS6 hx0
    refine t_96_80 ?_
    rw [mset_ne (d := mset (mset (mset (mset (mset (mset d (x0 + 1) (d x0 0) x1) (x0 + 2) (d x0 0) x2) (x0 + 3) (d x0 0) x3) (x0 + 4) (d x0 0) ((-1))) (x0 + 5) (d x0 0) 0) (x0 + 6) (d x0 0) 0) (a := x0 + 7) (i := d x0 0) (v := (0 : Int)) (b := x0) (by omega)]
    rw [mset_ne (d := mset (mset (mset (mset (mset d (x0 + 1) (d x0 0) x1) (x0 + 2) (d x0 0) x2) (x0 + 3) (d x0 0) x3) (x0 + 4) (d x0 0) ((-1))) (x0 + 5) (d x0 0) 0) (a := x0 + 6) (i := d x0 0) (v := (0 : Int)) (b := x0) (by omega)]
    rw [mset_ne (d := mset (mset (mset (mset d (x0 + 1) (d x0 0) x1) (x0 + 2) (d x0 0) x2) (x0 + 3) (d x0 0) x3) (x0 + 4) (d x0 0) ((-1))) (a := x0 + 5) (i := d x0 0) (v := (0 : Int)) (b := x0) (by omega)]
    rw [mset_ne (d := mset (mset (mset d (x0 + 1) (d x0 0) x1) (x0 + 2) (d x0 0) x2) (x0 + 3) (d x0 0) x3) (a := x0 + 4) (i := d x0 0) (v := (-1 : Int)) (b := x0) (by omega)]
    rw [mset_ne (d := mset (mset d (x0 + 1) (d x0 0) x1) (x0 + 2) (d x0 0) x2) (a := x0 + 3) (i := d x0 0) (v := x3) (b := x0) (by omega)]
    rw [mset_ne (d := mset d (x0 + 1) (d x0 0) x1) (a := x0 + 2) (i := d x0 0) (v := x2) (b := x0) (by omega)]
    rw [mset_ne (d := d) (a := x0 + 1) (i := d x0 0) (v := x1) (b := x0) (by omega)]
    have hS8 : Safe (mset (mset (mset (mset (mset (mset (mset (mset d (x0 + 1) (d x0 0) x1) (x0 + 2) (d x0 0) x2) (x0 + 3) (d x0 0) x3) (x0 + 4) (d x0 0) ((-1))) (x0 + 5) (d x0 0) 0) (x0 + 6) (d x0 0) 0) (x0 + 7) (d x0 0) 0) x0 0 ((d x0 0) + 1)) := s_8_f0 hS7 hx0 (by omega)
    have y0 : g_96 x0 x1 x2 x3 d = mset (mset (mset (mset (mset (mset (mset (mset d (x0 + 1) (d x0 0) x1) (x0 + 2) (d x0 0) x2) (x0 + 3) (d x0 0) x3) (x0 + 4) (d x0 0) ((-1))) (x0 + 5) (d x0 0) 0) (x0 + 6) (d x0 0) 0) (x0 + 7) (d x0 0) 0) x0 0 ((d x0 0) + 1) := by simp only [g_96, if_pos (show d x0 0 < 60 from c0)]
    rw [y0] at h
    exact h (show ∀ b : Int, (b < x0 ∨ x0 + 7 < b) → (mset (mset (mset (mset (mset (mset (mset (mset d (x0 + 1) (d x0 0) x1) (x0 + 2) (d x0 0) x2) (x0 + 3) (d x0 0) x3) (x0 + 4) (d x0 0) ((-1))) (x0 + 5) (d x0 0) 0) (x0 + 6) (d x0 0) 0) (x0 + 7) (d x0 0) 0) x0 0 ((d x0 0) + 1)) b = d b from fun b hb => (mset_ne (by omega)).trans ((mset_ne (by omega)).trans ((mset_ne (by omega)).trans ((mset_ne (by omega)).trans ((mset_ne (by omega)).trans ((mset_ne (by omega)).trans ((mset_ne (by omega)).trans (mset_ne (by omega))))))))) hS8
  · have y0 : g_96 x0 x1 x2 x3 d = d := by simp only [g_96, if_neg (show ¬ d x0 0 < 60 from Int.not_lt.mpr c0)]
    rw [y0] at h
    exact h (show ∀ b : Int, (b < x0 ∨ x0 + 7 < b) → d b = d b from fun _ _ => rfl) hS
def g_97 (x0 x1 x2 x3 : Int) (d : mD) : mD := mset (mset d (x0 + 5) x1 x2) (x0 + 4) x1 x3
theorem k_97 {E : mO × tW} {K : tK} {d : mD} {x0 x1 x2 x3 : Int} (hS : Safe d) (hx0 : tiB x0) (p1 : 0 ≤ x1 ∧ x1 ≤ 59) (p2 : 0 ≤ x2 ∧ x2 ≤ 2) (p3 : 0 ≤ x3 ∧ x3 ≤ 1199) (h : (∀ b : Int, (b < x0 + 4 ∨ x0 + 5 < b) → (g_97 x0 x1 x2 x3 d) b = d b) → Safe (g_97 x0 x1 x2 x3 d) → K (.inl none) (g_97 x0 x1 x2 x3 d)) : tCall E 97 [.inr (8, x0), .inl (0, x1), .inl (0, x2), .inl (0, x3)] d K := by
  refine t_97_0 ?_
  refine ⟨by omega, ?_⟩
  have hS1 : Safe (mset d (x0 + 5) x1 x2) := s_8_5 hS hx0 (by omega)
  refine ⟨by omega, ?_⟩
  have hS2 : Safe (mset (mset d (x0 + 5) x1 x2) (x0 + 4) x1 x3) := s_8_4 hS1 hx0 (by omega)
  have y0 : g_97 x0 x1 x2 x3 d = mset (mset d (x0 + 5) x1 x2) (x0 + 4) x1 x3 := by simp only [g_97]
  rw [y0] at h
  exact h (show ∀ b : Int, (b < x0 + 4 ∨ x0 + 5 < b) → (mset (mset d (x0 + 5) x1 x2) (x0 + 4) x1 x3) b = d b from fun b hb => (mset_ne (by omega)).trans (mset_ne (by omega))) hS2
def v_98 (x0 x1 x2 : Int) (d : mD) : Int := if d (x0 + 4) x1 = (-1) then x2 else d (x0 + 4) x1
theorem k_98 {E : mO × tW} {K : tK} {d : mD} {x0 x1 x2 : Int} (hS : Safe d) (hx0 : tiB x0) (p1 : 0 ≤ x1 ∧ x1 ≤ 59) (p2 : 0 ≤ x2 ∧ x2 ≤ 1199) (h : (0 ≤ (v_98 x0 x1 x2 d) ∧ (v_98 x0 x1 x2 d) ≤ 1199) → K (.inl (some (0, (v_98 x0 x1 x2 d)))) d) : tCall E 98 [.inr (8, x0), .inl (0, x1), .inl (0, x2)] d K := by
  refine t_98_0 ?_
  have q1 := r_8_4 hS hx0 x1
  refine ⟨by omega, ⟨m_inR (by omega) (by omega), m_inR (by omega) (by omega)⟩, fun c0 => ?_, fun c0 => ?_⟩
  · refine ⟨by omega, ?_⟩
    have y0 : v_98 x0 x1 x2 d = d (x0 + 4) x1 := by simp only [v_98, if_neg (show ¬ d (x0 + 4) x1 = (-1) from c0)]
    rw [y0] at h
    exact h (show 0 ≤ (d (x0 + 4) x1) ∧ (d (x0 + 4) x1) ≤ 1199 from (by omega))
  · have y0 : v_98 x0 x1 x2 d = x2 := by simp only [v_98, if_pos (show d (x0 + 4) x1 = (-1) from c0)]
    rw [y0] at h
    exact h (show 0 ≤ x2 ∧ x2 ≤ 1199 from (by omega))
def v_99 (x0 x1 x2 : Int) (d : mD) : Int := if miand (mishr (d (x0 + 7) x1) x2) 1 = 0 then 0 else 1
theorem k_99 {E : mO × tW} {K : tK} {d : mD} {x0 x1 x2 : Int} (hS : Safe d) (hx0 : tiB x0) (p1 : 0 ≤ x1 ∧ x1 ≤ 59) (p2 : -2147483648 ≤ x2 ∧ x2 ≤ 2147483647) (h : (0 ≤ (v_99 x0 x1 x2 d) ∧ (v_99 x0 x1 x2 d) ≤ 1) → K (.inl (some (0, (v_99 x0 x1 x2 d)))) d) : tCall E 99 [.inr (8, x0), .inl (0, x1), .inl (0, x2)] d K := by
  refine t_99_0 ?_
  have q1 := miand_r (mishr (d (x0 + 7) x1) x2) 1 (by decide) (by decide)
  have q2 := mbool (mishr (d (x0 + 7) x1) x2)
  refine ⟨by omega, mI_inR _ _ _, fun c0 => ?_, fun c0 => ?_⟩
  · refine ⟨by omega, ?_⟩
    have y0 : v_99 x0 x1 x2 d = 0 := by simp only [v_99, if_pos (show miand (mishr (d (x0 + 7) x1) x2) 1 = 0 from c0)]
    rw [y0] at h
    exact h (show 0 ≤ ((0 : Int)) ∧ ((0 : Int)) ≤ 1 from (by omega))
  · refine ⟨by omega, ?_⟩
    have y0 : v_99 x0 x1 x2 d = 1 := by simp only [v_99, if_neg (show ¬ miand (mishr (d (x0 + 7) x1) x2) 1 = 0 from c0)]
    rw [y0] at h
    exact h (show 0 ≤ ((1 : Int)) ∧ ((1 : Int)) ≤ 1 from (by omega))
def st_100_7 (x0 x1 : Int) (r7 : Int → mD → Int) (x2 : Int) (d : mD) : Int := if x2 < 0 then (-1) else if d (x0 + 1) x2 = x1 then x2 else r7 (x2 + (-1)) d
def lp_100_7 (x0 x1 : Int) : Nat → Int → mD → Int
  | 0 => st_100_7 x0 x1 (fun _ d => 0)
  | n + 1 => st_100_7 x0 x1 (lp_100_7 x0 x1 n)
theorem ls_100_7 {E : mO × tW} {K : tK} {x0 x1 : Int} (hx0 : tiB x0) (p1 : -2147483648 ≤ x1 ∧ x1 ≤ 2147483647) (N7 : Int) (r7 : Int → mD → Int) (ih7 : ∀ (x2 : Int) (d : mD), Safe d → (-1 ≤ x2 ∧ x2 ≤ 59) → 0 ≤ x2 + 1 → x2 + 1 < N7 → ((-1 ≤ (r7 x2 d) ∧ (r7 x2 d) ≤ 59) → K (.inl (some (0, (r7 x2 d)))) d) → tRun E 100 (7, [.inr (8, x0), .inl (0, x1), .inl (0, x2)], [], 0, 0, d) K) (x2 : Int) (d : mD) (hS : Safe d) (i0 : -1 ≤ x2 ∧ x2 ≤ 59) (hm : x2 + 1 ≤ N7) (h : (-1 ≤ (st_100_7 x0 x1 r7 x2 d) ∧ (st_100_7 x0 x1 r7 x2 d) ≤ 59) → K (.inl (some (0, (st_100_7 x0 x1 r7 x2 d)))) d) : tRun E 100 (7, [.inr (8, x0), .inl (0, x1), .inl (0, x2)], [], 0, 0, d) K := by
  refine t_100_7 ?_
  refine ⟨m_inR (by omega) (by omega), fun c0 => ?_, fun c0 => ?_⟩
  · have y0 : st_100_7 x0 x1 r7 x2 d = (-1) := by simp only [st_100_7, if_pos (show x2 < 0 from c0)]
    rw [y0] at h
    exact h (show -1 ≤ ((-1 : Int)) ∧ ((-1 : Int)) ≤ 59 from (by omega))
  · have q1 := r_8_1 hS hx0 x2
    refine ⟨by omega, ⟨m_inR (by omega) (by omega), m_inR (by omega) (by omega)⟩, fun c1 => ?_, fun c1 => ?_⟩
    · refine ih7 (x2 + (-1))  d hS (by omega) (by omega) (by omega) ?_
      intro e
      have y0 : st_100_7 x0 x1 r7 x2 d = r7 (x2 + (-1)) d := by simp only [st_100_7, if_neg (show ¬ x2 < 0 from Int.not_lt.mpr c0), if_neg (show ¬ d (x0 + 1) x2 = x1 from c1)]
      rw [y0] at h
      exact h e
    · have y0 : st_100_7 x0 x1 r7 x2 d = x2 := by simp only [st_100_7, if_neg (show ¬ x2 < 0 from Int.not_lt.mpr c0), if_pos (show d (x0 + 1) x2 = x1 from c1)]
      rw [y0] at h
      exact h (show -1 ≤ x2 ∧ x2 ≤ 59 from (by omega))
theorem l_100_7 {E : mO × tW} {K : tK} {x0 x1 : Int} (hx0 : tiB x0) (p1 : -2147483648 ≤ x1 ∧ x1 ≤ 2147483647) : ∀ (n : Nat) (x2 : Int) (d : mD), Safe d → (-1 ≤ x2 ∧ x2 ≤ 59) → x2 + 1 ≤ (n : Int) → ((-1 ≤ (lp_100_7 x0 x1 n x2 d) ∧ (lp_100_7 x0 x1 n x2 d) ≤ 59) → K (.inl (some (0, (lp_100_7 x0 x1 n x2 d)))) d) → tRun E 100 (7, [.inr (8, x0), .inl (0, x1), .inl (0, x2)], [], 0, 0, d) K := by
  intro n
  induction n with
  | zero =>
    intro x2  d hS i0 hm  h
    exact ls_100_7 hx0 p1 0 _ (fun _  _ _ _ m0 m1 _ => absurd m1 (by omega)) x2  d hS i0 hm  h
  | succ n ih =>
    intro x2  d hS i0 hm  h
    exact ls_100_7 hx0 p1 ((n + 1 : Nat) : Int) _ (fun x2  d hS i0  m0 m1 h => ih x2  d hS i0 (by omega)  h) x2  d hS i0 hm  h
def v_100 (x0 x1 : Int) (d : mD) : Int := lp_100_7 x0 x1 (((d x0 0) - 1) + 1 : Int).toNat ((d x0 0) - 1) d
theorem k_100 {E : mO × tW} {K : tK} {d : mD} {x0 x1 : Int} (hS : Safe d) (hx0 : tiB x0) (p1 : -2147483648 ≤ x1 ∧ x1 ≤ 2147483647) (h : (-1 ≤ (v_100 x0 x1 d) ∧ (v_100 x0 x1 d) ≤ 59) → K (.inl (some (0, (v_100 x0 x1 d)))) d) : tCall E 100 [.inr (8, x0), .inl (0, x1)] d K := by
  refine t_100_0 ?_
  have q2 := r_8_f0 hS hx0
  refine l_100_7 hx0 p1 (((d x0 0) - 1) + 1 : Int).toNat ((d x0 0) - 1)  d hS (by omega) (by omega) ?_
  intro e
  have y0 : v_100 x0 x1 d = lp_100_7 x0 x1 (((d x0 0) - 1) + 1 : Int).toNat ((d x0 0) - 1) d := by simp only [v_100]
  rw [y0] at h
  exact h e
def st_101_4 (x0 x1 : Int) (r4 : Int → Int → mD → Int) (x2 x3 : Int) (d : mD) : Int := if x3 < d x0 0 then (if d (x0 + 5) x3 = x1 then r4 (x2 + 1) (x3 + 1) d else r4 (x2 + 0) (x3 + 1) d) else x2
def lp_101_4 (x0 x1 : Int) : Nat → Int → Int → mD → Int
  | 0 => st_101_4 x0 x1 (fun _ _ d => 0)
  | n + 1 => st_101_4 x0 x1 (lp_101_4 x0 x1 n)
theorem ls_101_4 {E : mO × tW} {K : tK} {x0 x1 : Int} (hx0 : tiB x0) (p1 : -2147483648 ≤ x1 ∧ x1 ≤ 2147483647) (N4 : Int) (r4 : Int → Int → mD → Int) (ih4 : ∀ (x2 x3 : Int) (d : mD), Safe d → (0 ≤ x3 ∧ x3 ≤ 60) → (0 ≤ x2 ∧ x2 ≤ x3) → 0 ≤ 60 - x3 → 60 - x3 < N4 → ((0 ≤ (r4 x2 x3 d) ∧ (r4 x2 x3 d) ≤ 60) → K (.inl (some (0, (r4 x2 x3 d)))) d) → tRun E 101 (4, [.inr (8, x0), .inl (0, x1), .inl (0, x2), .inl (0, x3)], [], 0, 0, d) K) (x2 x3 : Int) (d : mD) (hS : Safe d) (i0 : 0 ≤ x3 ∧ x3 ≤ 60) (i1 : 0 ≤ x2 ∧ x2 ≤ x3) (hm : 60 - x3 ≤ N4) (h : (0 ≤ (st_101_4 x0 x1 r4 x2 x3 d) ∧ (st_101_4 x0 x1 r4 x2 x3 d) ≤ 60) → K (.inl (some (0, (st_101_4 x0 x1 r4 x2 x3 d)))) d) : tRun E 101 (4, [.inr (8, x0), .inl (0, x1), .inl (0, x2), .inl (0, x3)], [], 0, 0, d) K := by
  refine t_101_4 ?_
  have q1 := r_8_f0 hS hx0
  refine ⟨⟨m_inR (by omega) (by omega), m_inR (by omega) (by omega)⟩, fun c0 => ?_, fun c0 => ?_⟩
  · have y0 : st_101_4 x0 x1 r4 x2 x3 d = x2 := by simp only [st_101_4, if_neg (show ¬ x3 < d x0 0 from Int.not_lt.mpr c0)]
    rw [y0] at h
    exact h (show 0 ≤ x2 ∧ x2 ≤ 60 from (by omega))
  · have q2 := r_8_5 hS hx0 x3
    refine ⟨by omega, ⟨m_inR (by omega) (by omega), m_inR (by omega) (by omega)⟩, fun c1 => ?_, fun c1 => ?_⟩
    · refine ih4 (x2 + 0) (x3 + 1)  d hS (by omega) (by omega) (by omega) (by omega) ?_
      intro e
      have y0 : st_101_4 x0 x1 r4 x2 x3 d = r4 (x2 + 0) (x3 + 1) d := by simp only [st_101_4, if_pos (show x3 < d x0 0 from c0), if_neg (show ¬ d (x0 + 5) x3 = x1 from c1)]
      rw [y0] at h
      exact h e
    · refine ih4 (x2 + 1) (x3 + 1)  d hS (by omega) (by omega) (by omega) (by omega) ?_
      intro e
      have y0 : st_101_4 x0 x1 r4 x2 x3 d = r4 (x2 + 1) (x3 + 1) d := by simp only [st_101_4, if_pos (show x3 < d x0 0 from c0), if_pos (show d (x0 + 5) x3 = x1 from c1)]
      rw [y0] at h
      exact h e
theorem l_101_4 {E : mO × tW} {K : tK} {x0 x1 : Int} (hx0 : tiB x0) (p1 : -2147483648 ≤ x1 ∧ x1 ≤ 2147483647) : ∀ (n : Nat) (x2 x3 : Int) (d : mD), Safe d → (0 ≤ x3 ∧ x3 ≤ 60) → (0 ≤ x2 ∧ x2 ≤ x3) → 60 - x3 ≤ (n : Int) → ((0 ≤ (lp_101_4 x0 x1 n x2 x3 d) ∧ (lp_101_4 x0 x1 n x2 x3 d) ≤ 60) → K (.inl (some (0, (lp_101_4 x0 x1 n x2 x3 d)))) d) → tRun E 101 (4, [.inr (8, x0), .inl (0, x1), .inl (0, x2), .inl (0, x3)], [], 0, 0, d) K := by
  intro n
  induction n with
  | zero =>
    intro x2 x3  d hS i0 i1 hm  h
    exact ls_101_4 hx0 p1 0 _ (fun _ _  _ _ _ _ m0 m1 _ => absurd m1 (by omega)) x2 x3  d hS i0 i1 hm  h
  | succ n ih =>
    intro x2 x3  d hS i0 i1 hm  h
    exact ls_101_4 hx0 p1 ((n + 1 : Nat) : Int) _ (fun x2 x3  d hS i0 i1  m0 m1 h => ih x2 x3  d hS i0 i1 (by omega)  h) x2 x3  d hS i0 i1 hm  h
def v_101 (x0 x1 : Int) (d : mD) : Int := lp_101_4 x0 x1 (60 - 0 : Int).toNat 0 0 d
theorem k_101 {E : mO × tW} {K : tK} {d : mD} {x0 x1 : Int} (hS : Safe d) (hx0 : tiB x0) (p1 : -2147483648 ≤ x1 ∧ x1 ≤ 2147483647) (h : (0 ≤ (v_101 x0 x1 d) ∧ (v_101 x0 x1 d) ≤ 60) → K (.inl (some (0, (v_101 x0 x1 d)))) d) : tCall E 101 [.inr (8, x0), .inl (0, x1)] d K := by
  refine t_101_0 ?_
  refine l_101_4 hx0 p1 (60 - 0 : Int).toNat 0 0  d hS (by omega) (by omega) (by omega) ?_
  intro e
  have y0 : v_101 x0 x1 d = lp_101_4 x0 x1 (60 - 0 : Int).toNat 0 0 d := by simp only [v_101]
  rw [y0] at h
  exact h e
def st_102_4 (x0 x1 : Int) (r4 : Int → Int → mD → Int) (x2 x3 : Int) (d : mD) : Int := if x3 < d x0 0 then (if d (x0 + 6) x3 = x1 then r4 (x2 + 1) (x3 + 1) d else r4 (x2 + 0) (x3 + 1) d) else x2
def lp_102_4 (x0 x1 : Int) : Nat → Int → Int → mD → Int
  | 0 => st_102_4 x0 x1 (fun _ _ d => 0)
  | n + 1 => st_102_4 x0 x1 (lp_102_4 x0 x1 n)
theorem ls_102_4 {E : mO × tW} {K : tK} {x0 x1 : Int} (hx0 : tiB x0) (p1 : -2147483648 ≤ x1 ∧ x1 ≤ 2147483647) (N4 : Int) (r4 : Int → Int → mD → Int) (ih4 : ∀ (x2 x3 : Int) (d : mD), Safe d → (0 ≤ x3 ∧ x3 ≤ 60) → (0 ≤ x2 ∧ x2 ≤ x3) → 0 ≤ 60 - x3 → 60 - x3 < N4 → ((0 ≤ (r4 x2 x3 d) ∧ (r4 x2 x3 d) ≤ 60) → K (.inl (some (0, (r4 x2 x3 d)))) d) → tRun E 102 (4, [.inr (8, x0), .inl (0, x1), .inl (0, x2), .inl (0, x3)], [], 0, 0, d) K) (x2 x3 : Int) (d : mD) (hS : Safe d) (i0 : 0 ≤ x3 ∧ x3 ≤ 60) (i1 : 0 ≤ x2 ∧ x2 ≤ x3) (hm : 60 - x3 ≤ N4) (h : (0 ≤ (st_102_4 x0 x1 r4 x2 x3 d) ∧ (st_102_4 x0 x1 r4 x2 x3 d) ≤ 60) → K (.inl (some (0, (st_102_4 x0 x1 r4 x2 x3 d)))) d) : tRun E 102 (4, [.inr (8, x0), .inl (0, x1), .inl (0, x2), .inl (0, x3)], [], 0, 0, d) K := by
  refine t_102_4 ?_
  have q1 := r_8_f0 hS hx0
  refine ⟨⟨m_inR (by omega) (by omega), m_inR (by omega) (by omega)⟩, fun c0 => ?_, fun c0 => ?_⟩
  · have y0 : st_102_4 x0 x1 r4 x2 x3 d = x2 := by simp only [st_102_4, if_neg (show ¬ x3 < d x0 0 from Int.not_lt.mpr c0)]
    rw [y0] at h
    exact h (show 0 ≤ x2 ∧ x2 ≤ 60 from (by omega))
  · have q2 := r_8_6 hS hx0 x3
    refine ⟨by omega, ⟨m_inR (by omega) (by omega), m_inR (by omega) (by omega)⟩, fun c1 => ?_, fun c1 => ?_⟩
    · refine ih4 (x2 + 0) (x3 + 1)  d hS (by omega) (by omega) (by omega) (by omega) ?_
      intro e
      have y0 : st_102_4 x0 x1 r4 x2 x3 d = r4 (x2 + 0) (x3 + 1) d := by simp only [st_102_4, if_pos (show x3 < d x0 0 from c0), if_neg (show ¬ d (x0 + 6) x3 = x1 from c1)]
      rw [y0] at h
      exact h e
    · refine ih4 (x2 + 1) (x3 + 1)  d hS (by omega) (by omega) (by omega) (by omega) ?_
      intro e
      have y0 : st_102_4 x0 x1 r4 x2 x3 d = r4 (x2 + 1) (x3 + 1) d := by simp only [st_102_4, if_pos (show x3 < d x0 0 from c0), if_pos (show d (x0 + 6) x3 = x1 from c1)]
      rw [y0] at h
      exact h e
theorem l_102_4 {E : mO × tW} {K : tK} {x0 x1 : Int} (hx0 : tiB x0) (p1 : -2147483648 ≤ x1 ∧ x1 ≤ 2147483647) : ∀ (n : Nat) (x2 x3 : Int) (d : mD), Safe d → (0 ≤ x3 ∧ x3 ≤ 60) → (0 ≤ x2 ∧ x2 ≤ x3) → 60 - x3 ≤ (n : Int) → ((0 ≤ (lp_102_4 x0 x1 n x2 x3 d) ∧ (lp_102_4 x0 x1 n x2 x3 d) ≤ 60) → K (.inl (some (0, (lp_102_4 x0 x1 n x2 x3 d)))) d) → tRun E 102 (4, [.inr (8, x0), .inl (0, x1), .inl (0, x2), .inl (0, x3)], [], 0, 0, d) K := by
  intro n
  induction n with
  | zero =>
    intro x2 x3  d hS i0 i1 hm  h
    exact ls_102_4 hx0 p1 0 _ (fun _ _  _ _ _ _ m0 m1 _ => absurd m1 (by omega)) x2 x3  d hS i0 i1 hm  h
  | succ n ih =>
    intro x2 x3  d hS i0 i1 hm  h
    exact ls_102_4 hx0 p1 ((n + 1 : Nat) : Int) _ (fun x2 x3  d hS i0 i1  m0 m1 h => ih x2 x3  d hS i0 i1 (by omega)  h) x2 x3  d hS i0 i1 hm  h
def v_102 (x0 x1 : Int) (d : mD) : Int := lp_102_4 x0 x1 (60 - 0 : Int).toNat 0 0 d
theorem k_102 {E : mO × tW} {K : tK} {d : mD} {x0 x1 : Int} (hS : Safe d) (hx0 : tiB x0) (p1 : -2147483648 ≤ x1 ∧ x1 ≤ 2147483647) (h : (0 ≤ (v_102 x0 x1 d) ∧ (v_102 x0 x1 d) ≤ 60) → K (.inl (some (0, (v_102 x0 x1 d)))) d) : tCall E 102 [.inr (8, x0), .inl (0, x1)] d K := by
  refine t_102_0 ?_
  refine l_102_4 hx0 p1 (60 - 0 : Int).toNat 0 0  d hS (by omega) (by omega) (by omega) ?_
  intro e
  have y0 : v_102 x0 x1 d = lp_102_4 x0 x1 (60 - 0 : Int).toNat 0 0 d := by simp only [v_102]
  rw [y0] at h
  exact h e
def st_103_4 (x0 x1 : Int) (r4 : Int → Int → mD → Int) (x2 x3 : Int) (d : mD) : Int := if x3 < d x0 0 then (if d (x0 + 5) x3 = 1 then (if d (x0 + 2) x3 = x1 then r4 (x2 + 1) (x3 + 1) d else r4 (x2 + 0) (x3 + 1) d) else r4 (x2 + 0) (x3 + 1) d) else x2
def lp_103_4 (x0 x1 : Int) : Nat → Int → Int → mD → Int
  | 0 => st_103_4 x0 x1 (fun _ _ d => 0)
  | n + 1 => st_103_4 x0 x1 (lp_103_4 x0 x1 n)
theorem ls_103_4 {E : mO × tW} {K : tK} {x0 x1 : Int} (hx0 : tiB x0) (p1 : -2147483648 ≤ x1 ∧ x1 ≤ 2147483647) (N4 : Int) (r4 : Int → Int → mD → Int) (ih4 : ∀ (x2 x3 : Int) (d : mD), Safe d → (0 ≤ x3 ∧ x3 ≤ 60) → (0 ≤ x2 ∧ x2 ≤ x3) → 0 ≤ 60 - x3 → 60 - x3 < N4 → ((0 ≤ (r4 x2 x3 d) ∧ (r4 x2 x3 d) ≤ 60) → K (.inl (some (0, (r4 x2 x3 d)))) d) → tRun E 103 (4, [.inr (8, x0), .inl (0, x1), .inl (0, x2), .inl (0, x3)], [], 0, 0, d) K) (x2 x3 : Int) (d : mD) (hS : Safe d) (i0 : 0 ≤ x3 ∧ x3 ≤ 60) (i1 : 0 ≤ x2 ∧ x2 ≤ x3) (hm : 60 - x3 ≤ N4) (h : (0 ≤ (st_103_4 x0 x1 r4 x2 x3 d) ∧ (st_103_4 x0 x1 r4 x2 x3 d) ≤ 60) → K (.inl (some (0, (st_103_4 x0 x1 r4 x2 x3 d)))) d) : tRun E 103 (4, [.inr (8, x0), .inl (0, x1), .inl (0, x2), .inl (0, x3)], [], 0, 0, d) K := by
  refine t_103_4 ?_
  have q1 := r_8_f0 hS hx0
  refine ⟨⟨m_inR (by omega) (by omega), m_inR (by omega) (by omega)⟩, fun c0 => ?_, fun c0 => ?_⟩
  · have y0 : st_103_4 x0 x1 r4 x2 x3 d = x2 := by simp only [st_103_4, if_neg (show ¬ x3 < d x0 0 from Int.not_lt.mpr c0)]
    rw [y0] at h
    exact h (show 0 ≤ x2 ∧ x2 ≤ 60 from (by omega))
  · have q2 := r_8_5 hS hx0 x3
    refine ⟨by omega, ⟨m_inR (by omega) (by omega), m_inR (by omega) (by omega)⟩, fun c1 => ?_, fun c1 => ?_⟩
    · refine ih4 (x2 + 0) (x3 + 1)  d hS (by omega) (by omega) (by omega) (by omega) ?_
      intro e
      have y0 : st_103_4 x0 x1 r4 x2 x3 d = r4 (x2 + 0) (x3 + 1) d := by simp only [st_103_4, if_pos (show x3 < d x0 0 from c0), if_neg (show ¬ d (x0 + 5) x3 = 1 from c1)]
      rw [y0] at h
      exact h e
    · have q3 := r_8_2 hS hx0 x3
      refine ⟨by omega, ⟨m_inR (by omega) (by omega), m_inR (by omega) (by omega)⟩, fun c2 => ?_, fun c2 => ?_⟩
      · refine ih4 (x2 + 0) (x3 + 1)  d hS (by omega) (by omega) (by omega) (by omega) ?_
        intro e
        have y0 : st_103_4 x0 x1 r4 x2 x3 d = r4 (x2 + 0) (x3 + 1) d := by simp only [st_103_4, if_pos (show x3 < d x0 0 from c0), if_pos (show d (x0 + 5) x3 = 1 from c1), if_neg (show ¬ d (x0 + 2) x3 = x1 from c2)]
        rw [y0] at h
        exact h e
      · refine ih4 (x2 + 1) (x3 + 1)  d hS (by omega) (by omega) (by omega) (by omega) ?_
        intro e
        have y0 : st_103_4 x0 x1 r4 x2 x3 d = r4 (x2 + 1) (x3 + 1) d := by simp only [st_103_4, if_pos (show x3 < d x0 0 from c0), if_pos (show d (x0 + 5) x3 = 1 from c1), if_pos (show d (x0 + 2) x3 = x1 from c2)]
        rw [y0] at h
        exact h e
theorem l_103_4 {E : mO × tW} {K : tK} {x0 x1 : Int} (hx0 : tiB x0) (p1 : -2147483648 ≤ x1 ∧ x1 ≤ 2147483647) : ∀ (n : Nat) (x2 x3 : Int) (d : mD), Safe d → (0 ≤ x3 ∧ x3 ≤ 60) → (0 ≤ x2 ∧ x2 ≤ x3) → 60 - x3 ≤ (n : Int) → ((0 ≤ (lp_103_4 x0 x1 n x2 x3 d) ∧ (lp_103_4 x0 x1 n x2 x3 d) ≤ 60) → K (.inl (some (0, (lp_103_4 x0 x1 n x2 x3 d)))) d) → tRun E 103 (4, [.inr (8, x0), .inl (0, x1), .inl (0, x2), .inl (0, x3)], [], 0, 0, d) K := by
  intro n
  induction n with
  | zero =>
    intro x2 x3  d hS i0 i1 hm  h
    exact ls_103_4 hx0 p1 0 _ (fun _ _  _ _ _ _ m0 m1 _ => absurd m1 (by omega)) x2 x3  d hS i0 i1 hm  h
  | succ n ih =>
    intro x2 x3  d hS i0 i1 hm  h
    exact ls_103_4 hx0 p1 ((n + 1 : Nat) : Int) _ (fun x2 x3  d hS i0 i1  m0 m1 h => ih x2 x3  d hS i0 i1 (by omega)  h) x2 x3  d hS i0 i1 hm  h
def v_103 (x0 x1 : Int) (d : mD) : Int := lp_103_4 x0 x1 (60 - 0 : Int).toNat 0 0 d
theorem k_103 {E : mO × tW} {K : tK} {d : mD} {x0 x1 : Int} (hS : Safe d) (hx0 : tiB x0) (p1 : -2147483648 ≤ x1 ∧ x1 ≤ 2147483647) (h : (0 ≤ (v_103 x0 x1 d) ∧ (v_103 x0 x1 d) ≤ 60) → K (.inl (some (0, (v_103 x0 x1 d)))) d) : tCall E 103 [.inr (8, x0), .inl (0, x1)] d K := by
  refine t_103_0 ?_
  refine l_103_4 hx0 p1 (60 - 0 : Int).toNat 0 0  d hS (by omega) (by omega) (by omega) ?_
  intro e
  have y0 : v_103 x0 x1 d = lp_103_4 x0 x1 (60 - 0 : Int).toNat 0 0 d := by simp only [v_103]
  rw [y0] at h
  exact h e
def st_104_4 (x0 x1 : Int) (r4 : Int → Int → mD → Int) (x2 x3 : Int) (d : mD) : Int := if x3 < d x0 0 then (if d (x0 + 1) x3 = x1 then r4 (x2 + 1) (x3 + 1) d else r4 (x2 + 0) (x3 + 1) d) else x2
def lp_104_4 (x0 x1 : Int) : Nat → Int → Int → mD → Int
  | 0 => st_104_4 x0 x1 (fun _ _ d => 0)
  | n + 1 => st_104_4 x0 x1 (lp_104_4 x0 x1 n)
theorem ls_104_4 {E : mO × tW} {K : tK} {x0 x1 : Int} (hx0 : tiB x0) (p1 : -2147483648 ≤ x1 ∧ x1 ≤ 2147483647) (N4 : Int) (r4 : Int → Int → mD → Int) (ih4 : ∀ (x2 x3 : Int) (d : mD), Safe d → (0 ≤ x3 ∧ x3 ≤ 60) → (0 ≤ x2 ∧ x2 ≤ x3) → 0 ≤ 60 - x3 → 60 - x3 < N4 → ((0 ≤ (r4 x2 x3 d) ∧ (r4 x2 x3 d) ≤ 60) → K (.inl (some (0, (r4 x2 x3 d)))) d) → tRun E 104 (4, [.inr (8, x0), .inl (0, x1), .inl (0, x2), .inl (0, x3)], [], 0, 0, d) K) (x2 x3 : Int) (d : mD) (hS : Safe d) (i0 : 0 ≤ x3 ∧ x3 ≤ 60) (i1 : 0 ≤ x2 ∧ x2 ≤ x3) (hm : 60 - x3 ≤ N4) (h : (0 ≤ (st_104_4 x0 x1 r4 x2 x3 d) ∧ (st_104_4 x0 x1 r4 x2 x3 d) ≤ 60) → K (.inl (some (0, (st_104_4 x0 x1 r4 x2 x3 d)))) d) : tRun E 104 (4, [.inr (8, x0), .inl (0, x1), .inl (0, x2), .inl (0, x3)], [], 0, 0, d) K := by
  refine t_104_4 ?_
  have q1 := r_8_f0 hS hx0
  refine ⟨⟨m_inR (by omega) (by omega), m_inR (by omega) (by omega)⟩, fun c0 => ?_, fun c0 => ?_⟩
  · have y0 : st_104_4 x0 x1 r4 x2 x3 d = x2 := by simp only [st_104_4, if_neg (show ¬ x3 < d x0 0 from Int.not_lt.mpr c0)]
    rw [y0] at h
    exact h (show 0 ≤ x2 ∧ x2 ≤ 60 from (by omega))
  · have q2 := r_8_1 hS hx0 x3
    refine ⟨by omega, ⟨m_inR (by omega) (by omega), m_inR (by omega) (by omega)⟩, fun c1 => ?_, fun c1 => ?_⟩
    · refine ih4 (x2 + 0) (x3 + 1)  d hS (by omega) (by omega) (by omega) (by omega) ?_
      intro e
      have y0 : st_104_4 x0 x1 r4 x2 x3 d = r4 (x2 + 0) (x3 + 1) d := by simp only [st_104_4, if_pos (show x3 < d x0 0 from c0), if_neg (show ¬ d (x0 + 1) x3 = x1 from c1)]
      rw [y0] at h
      exact h e
    · refine ih4 (x2 + 1) (x3 + 1)  d hS (by omega) (by omega) (by omega) (by omega) ?_
      intro e
      have y0 : st_104_4 x0 x1 r4 x2 x3 d = r4 (x2 + 1) (x3 + 1) d := by simp only [st_104_4, if_pos (show x3 < d x0 0 from c0), if_pos (show d (x0 + 1) x3 = x1 from c1)]
      rw [y0] at h
      exact h e
theorem l_104_4 {E : mO × tW} {K : tK} {x0 x1 : Int} (hx0 : tiB x0) (p1 : -2147483648 ≤ x1 ∧ x1 ≤ 2147483647) : ∀ (n : Nat) (x2 x3 : Int) (d : mD), Safe d → (0 ≤ x3 ∧ x3 ≤ 60) → (0 ≤ x2 ∧ x2 ≤ x3) → 60 - x3 ≤ (n : Int) → ((0 ≤ (lp_104_4 x0 x1 n x2 x3 d) ∧ (lp_104_4 x0 x1 n x2 x3 d) ≤ 60) → K (.inl (some (0, (lp_104_4 x0 x1 n x2 x3 d)))) d) → tRun E 104 (4, [.inr (8, x0), .inl (0, x1), .inl (0, x2), .inl (0, x3)], [], 0, 0, d) K := by
  intro n
  induction n with
  | zero =>
    intro x2 x3  d hS i0 i1 hm  h
    exact ls_104_4 hx0 p1 0 _ (fun _ _  _ _ _ _ m0 m1 _ => absurd m1 (by omega)) x2 x3  d hS i0 i1 hm  h
  | succ n ih =>
    intro x2 x3  d hS i0 i1 hm  h
    exact ls_104_4 hx0 p1 ((n + 1 : Nat) : Int) _ (fun x2 x3  d hS i0 i1  m0 m1 h => ih x2 x3  d hS i0 i1 (by omega)  h) x2 x3  d hS i0 i1 hm  h
def v_104 (x0 x1 : Int) (d : mD) : Int := lp_104_4 x0 x1 (60 - 0 : Int).toNat 0 0 d
theorem k_104 {E : mO × tW} {K : tK} {d : mD} {x0 x1 : Int} (hS : Safe d) (hx0 : tiB x0) (p1 : -2147483648 ≤ x1 ∧ x1 ≤ 2147483647) (h : (0 ≤ (v_104 x0 x1 d) ∧ (v_104 x0 x1 d) ≤ 60) → K (.inl (some (0, (v_104 x0 x1 d)))) d) : tCall E 104 [.inr (8, x0), .inl (0, x1)] d K := by
  refine t_104_0 ?_
  refine l_104_4 hx0 p1 (60 - 0 : Int).toNat 0 0  d hS (by omega) (by omega) (by omega) ?_
  intro e
  have y0 : v_104 x0 x1 d = lp_104_4 x0 x1 (60 - 0 : Int).toNat 0 0 d := by simp only [v_104]
  rw [y0] at h
  exact h e
def st_105_4 (x0 x1 : Int) (r4 : Int → Int → mD → Int) (x2 x3 : Int) (d : mD) : Int := if x3 < d x0 0 then (if d (x0 + 1) x3 = x1 then (if d (x0 + 5) x3 = 0 then r4 (x2 + 1) (x3 + 1) d else r4 (x2 + 0) (x3 + 1) d) else r4 (x2 + 0) (x3 + 1) d) else x2
def lp_105_4 (x0 x1 : Int) : Nat → Int → Int → mD → Int
  | 0 => st_105_4 x0 x1 (fun _ _ d => 0)
  | n + 1 => st_105_4 x0 x1 (lp_105_4 x0 x1 n)
theorem ls_105_4 {E : mO × tW} {K : tK} {x0 x1 : Int} (hx0 : tiB x0) (p1 : -2147483648 ≤ x1 ∧ x1 ≤ 2147483647) (N4 : Int) (r4 : Int → Int → mD → Int) (ih4 : ∀ (x2 x3 : Int) (d : mD), Safe d → (0 ≤ x3 ∧ x3 ≤ 60) → (0 ≤ x2 ∧ x2 ≤ x3) → 0 ≤ 60 - x3 → 60 - x3 < N4 → ((0 ≤ (r4 x2 x3 d) ∧ (r4 x2 x3 d) ≤ 60) → K (.inl (some (0, (r4 x2 x3 d)))) d) → tRun E 105 (4, [.inr (8, x0), .inl (0, x1), .inl (0, x2), .inl (0, x3)], [], 0, 0, d) K) (x2 x3 : Int) (d : mD) (hS : Safe d) (i0 : 0 ≤ x3 ∧ x3 ≤ 60) (i1 : 0 ≤ x2 ∧ x2 ≤ x3) (hm : 60 - x3 ≤ N4) (h : (0 ≤ (st_105_4 x0 x1 r4 x2 x3 d) ∧ (st_105_4 x0 x1 r4 x2 x3 d) ≤ 60) → K (.inl (some (0, (st_105_4 x0 x1 r4 x2 x3 d)))) d) : tRun E 105 (4, [.inr (8, x0), .inl (0, x1), .inl (0, x2), .inl (0, x3)], [], 0, 0, d) K := by
  refine t_105_4 ?_
  have q1 := r_8_f0 hS hx0
  refine ⟨⟨m_inR (by omega) (by omega), m_inR (by omega) (by omega)⟩, fun c0 => ?_, fun c0 => ?_⟩
  · have y0 : st_105_4 x0 x1 r4 x2 x3 d = x2 := by simp only [st_105_4, if_neg (show ¬ x3 < d x0 0 from Int.not_lt.mpr c0)]
    rw [y0] at h
    exact h (show 0 ≤ x2 ∧ x2 ≤ 60 from (by omega))
  · have q2 := r_8_1 hS hx0 x3
    refine ⟨by omega, ⟨m_inR (by omega) (by omega), m_inR (by omega) (by omega)⟩, fun c1 => ?_, fun c1 => ?_⟩
    · refine ih4 (x2 + 0) (x3 + 1)  d hS (by omega) (by omega) (by omega) (by omega) ?_
      intro e
      have y0 : st_105_4 x0 x1 r4 x2 x3 d = r4 (x2 + 0) (x3 + 1) d := by simp only [st_105_4, if_pos (show x3 < d x0 0 from c0), if_neg (show ¬ d (x0 + 1) x3 = x1 from c1)]
      rw [y0] at h
      exact h e
    · have q3 := r_8_5 hS hx0 x3
      refine ⟨by omega, m_inR (by omega) (by omega), fun c2 => ?_, fun c2 => ?_⟩
      · refine ih4 (x2 + 0) (x3 + 1)  d hS (by omega) (by omega) (by omega) (by omega) ?_
        intro e
        have y0 : st_105_4 x0 x1 r4 x2 x3 d = r4 (x2 + 0) (x3 + 1) d := by simp only [st_105_4, if_pos (show x3 < d x0 0 from c0), if_pos (show d (x0 + 1) x3 = x1 from c1), if_neg (show ¬ d (x0 + 5) x3 = 0 from c2)]
        rw [y0] at h
        exact h e
      · refine ih4 (x2 + 1) (x3 + 1)  d hS (by omega) (by omega) (by omega) (by omega) ?_
        intro e
        have y0 : st_105_4 x0 x1 r4 x2 x3 d = r4 (x2 + 1) (x3 + 1) d := by simp only [st_105_4, if_pos (show x3 < d x0 0 from c0), if_pos (show d (x0 + 1) x3 = x1 from c1), if_pos (show d (x0 + 5) x3 = 0 from c2)]
        rw [y0] at h
        exact h e
theorem l_105_4 {E : mO × tW} {K : tK} {x0 x1 : Int} (hx0 : tiB x0) (p1 : -2147483648 ≤ x1 ∧ x1 ≤ 2147483647) : ∀ (n : Nat) (x2 x3 : Int) (d : mD), Safe d → (0 ≤ x3 ∧ x3 ≤ 60) → (0 ≤ x2 ∧ x2 ≤ x3) → 60 - x3 ≤ (n : Int) → ((0 ≤ (lp_105_4 x0 x1 n x2 x3 d) ∧ (lp_105_4 x0 x1 n x2 x3 d) ≤ 60) → K (.inl (some (0, (lp_105_4 x0 x1 n x2 x3 d)))) d) → tRun E 105 (4, [.inr (8, x0), .inl (0, x1), .inl (0, x2), .inl (0, x3)], [], 0, 0, d) K := by
  intro n
  induction n with
  | zero =>
    intro x2 x3  d hS i0 i1 hm  h
    exact ls_105_4 hx0 p1 0 _ (fun _ _  _ _ _ _ m0 m1 _ => absurd m1 (by omega)) x2 x3  d hS i0 i1 hm  h
  | succ n ih =>
    intro x2 x3  d hS i0 i1 hm  h
    exact ls_105_4 hx0 p1 ((n + 1 : Nat) : Int) _ (fun x2 x3  d hS i0 i1  m0 m1 h => ih x2 x3  d hS i0 i1 (by omega)  h) x2 x3  d hS i0 i1 hm  h
def v_105 (x0 x1 : Int) (d : mD) : Int := lp_105_4 x0 x1 (60 - 0 : Int).toNat 0 0 d
theorem k_105 {E : mO × tW} {K : tK} {d : mD} {x0 x1 : Int} (hS : Safe d) (hx0 : tiB x0) (p1 : -2147483648 ≤ x1 ∧ x1 ≤ 2147483647) (h : (0 ≤ (v_105 x0 x1 d) ∧ (v_105 x0 x1 d) ≤ 60) → K (.inl (some (0, (v_105 x0 x1 d)))) d) : tCall E 105 [.inr (8, x0), .inl (0, x1)] d K := by
  refine t_105_0 ?_
  refine l_105_4 hx0 p1 (60 - 0 : Int).toNat 0 0  d hS (by omega) (by omega) (by omega) ?_
  intro e
  have y0 : v_105 x0 x1 d = lp_105_4 x0 x1 (60 - 0 : Int).toNat 0 0 d := by simp only [v_105]
  rw [y0] at h
  exact h e
def st_106_4 (x0 : Int) (r4 : Int → Int → mD → Int) (x1 x2 : Int) (d : mD) : Int := if x2 < d x0 0 then (if d (x0 + 5) x2 = 1 then r4 (x1 + ((d (x0 + 4) x2) - (d (x0 + 3) x2))) (x2 + 1) d else r4 (x1 + 0) (x2 + 1) d) else x1
def lp_106_4 (x0 : Int) : Nat → Int → Int → mD → Int
  | 0 => st_106_4 x0 (fun _ _ d => 0)
  | n + 1 => st_106_4 x0 (lp_106_4 x0 n)
theorem ls_106_4 {E : mO × tW} {K : tK} {x0 : Int} (hx0 : tiB x0) (N4 : Int) (r4 : Int → Int → mD → Int) (ih4 : ∀ (x1 x2 : Int) (d : mD), Safe d → (0 ≤ x2 ∧ x2 ≤ 60) → (-1000 * x2 ≤ x1 ∧ x1 ≤ 1200 * x2) → 0 ≤ 60 - x2 → 60 - x2 < N4 → ((-60000 ≤ (r4 x1 x2 d) ∧ (r4 x1 x2 d) ≤ 72000) → K (.inl (some (0, (r4 x1 x2 d)))) d) → tRun E 106 (4, [.inr (8, x0), .inl (0, x1), .inl (0, x2)], [], 0, 0, d) K) (x1 x2 : Int) (d : mD) (hS : Safe d) (i0 : 0 ≤ x2 ∧ x2 ≤ 60) (i1 : -1000 * x2 ≤ x1 ∧ x1 ≤ 1200 * x2) (hm : 60 - x2 ≤ N4) (h : (-60000 ≤ (st_106_4 x0 r4 x1 x2 d) ∧ (st_106_4 x0 r4 x1 x2 d) ≤ 72000) → K (.inl (some (0, (st_106_4 x0 r4 x1 x2 d)))) d) : tRun E 106 (4, [.inr (8, x0), .inl (0, x1), .inl (0, x2)], [], 0, 0, d) K := by
  refine t_106_4 ?_
  have q1 := r_8_f0 hS hx0
  refine ⟨⟨m_inR (by omega) (by omega), m_inR (by omega) (by omega)⟩, fun c0 => ?_, fun c0 => ?_⟩
  · have y0 : st_106_4 x0 r4 x1 x2 d = x1 := by simp only [st_106_4, if_neg (show ¬ x2 < d x0 0 from Int.not_lt.mpr c0)]
    rw [y0] at h
    exact h (show -60000 ≤ x1 ∧ x1 ≤ 72000 from (by omega))
  · have q2 := r_8_5 hS hx0 x2
    refine ⟨by omega, ⟨m_inR (by omega) (by omega), m_inR (by omega) (by omega)⟩, fun c1 => ?_, fun c1 => ?_⟩
    · refine ih4 (x1 + 0) (x2 + 1)  d hS (by omega) (by omega) (by omega) (by omega) ?_
      intro e
      have y0 : st_106_4 x0 r4 x1 x2 d = r4 (x1 + 0) (x2 + 1) d := by simp only [st_106_4, if_pos (show x2 < d x0 0 from c0), if_neg (show ¬ d (x0 + 5) x2 = 1 from c1)]
      rw [y0] at h
      exact h e
    · refine ⟨by omega, by omega, ?_⟩
      have q3 := r_8_4 hS hx0 x2
      have q4 := r_8_3 hS hx0 x2
      refine ih4 (x1 + ((d (x0 + 4) x2) - (d (x0 + 3) x2))) (x2 + 1)  d hS (by omega) (by omega) (by omega) (by omega) ?_
      intro e
      have y0 : st_106_4 x0 r4 x1 x2 d = r4 (x1 + ((d (x0 + 4) x2) - (d (x0 + 3) x2))) (x2 + 1) d := by simp only [st_106_4, if_pos (show x2 < d x0 0 from c0), if_pos (show d (x0 + 5) x2 = 1 from c1)]
      rw [y0] at h
      exact h e
theorem l_106_4 {E : mO × tW} {K : tK} {x0 : Int} (hx0 : tiB x0) : ∀ (n : Nat) (x1 x2 : Int) (d : mD), Safe d → (0 ≤ x2 ∧ x2 ≤ 60) → (-1000 * x2 ≤ x1 ∧ x1 ≤ 1200 * x2) → 60 - x2 ≤ (n : Int) → ((-60000 ≤ (lp_106_4 x0 n x1 x2 d) ∧ (lp_106_4 x0 n x1 x2 d) ≤ 72000) → K (.inl (some (0, (lp_106_4 x0 n x1 x2 d)))) d) → tRun E 106 (4, [.inr (8, x0), .inl (0, x1), .inl (0, x2)], [], 0, 0, d) K := by
  intro n
  induction n with
  | zero =>
    intro x1 x2  d hS i0 i1 hm  h
    exact ls_106_4 hx0 0 _ (fun _ _  _ _ _ _ m0 m1 _ => absurd m1 (by omega)) x1 x2  d hS i0 i1 hm  h
  | succ n ih =>
    intro x1 x2  d hS i0 i1 hm  h
    exact ls_106_4 hx0 ((n + 1 : Nat) : Int) _ (fun x1 x2  d hS i0 i1  m0 m1 h => ih x1 x2  d hS i0 i1 (by omega)  h) x1 x2  d hS i0 i1 hm  h
def v_106 (x0 : Int) (d : mD) : Int := lp_106_4 x0 (60 - 0 : Int).toNat 0 0 d
theorem k_106 {E : mO × tW} {K : tK} {d : mD} {x0 : Int} (hS : Safe d) (hx0 : tiB x0) (h : (-60000 ≤ (v_106 x0 d) ∧ (v_106 x0 d) ≤ 72000) → K (.inl (some (0, (v_106 x0 d)))) d) : tCall E 106 [.inr (8, x0)] d K := by
  refine t_106_0 ?_
  refine l_106_4 hx0 (60 - 0 : Int).toNat 0 0  d hS (by omega) (by omega) (by omega) ?_
  intro e
  have y0 : v_106 x0 d = lp_106_4 x0 (60 - 0 : Int).toNat 0 0 d := by simp only [v_106]
  rw [y0] at h
  exact h e
def g_108 (x0 x1 : Int) (d : mD) : mD := mcopy (mset (mcopy (mcopy (mcopy (mcopy (mset d x0 0 (d x1 0)) (x1 + 1) 0 (x0 + 1) 0 (d x1 0)) (x1 + 2) 0 (x0 + 2) 0 (d x1 0)) (x1 + 3) 0 (x0 + 3) 0 (d x1 0)) (x1 + 4) 0 (x0 + 4) 0 (d x1 0)) x0 5 ((mcopy (mcopy (mcopy (mcopy (mset d x0 0 (d x1 0)) (x1 + 1) 0 (x0 + 1) 0 (d x1 0)) (x1 + 2) 0 (x0 + 2) 0 (d x1 0)) (x1 + 3) 0 (x0 + 3) 0 (d x1 0)) (x1 + 4) 0 (x0 + 4) 0 (d x1 0)) x1 5)) (x1 + 5) 0 (x0 + 5) 0 ((mcopy (mcopy (mcopy (mcopy (mset d x0 0 (d x1 0)) (x1 + 1) 0 (x0 + 1) 0 (d x1 0)) (x1 + 2) 0 (x0 + 2) 0 (d x1 0)) (x1 + 3) 0 (x0 + 3) 0 (d x1 0)) (x1 + 4) 0 (x0 + 4) 0 (d x1 0)) x1 5)
theorem k_108 {E : mO × tW} {K : tK} {d : mD} {x0 x1 : Int} (hS : Safe d) (hx0 : toB x0) (hx1 : toB x1) (h : (∀ b : Int, (b < x0 ∨ x0 + 5 < b) → (g_108 x0 x1 d) b = d b) → Safe (g_108 x0 x1 d) → K (.inl none) (g_108 x0 x1 d)) : tCall E 108 [.inr (9, x0), .inr (9, x1)] d K := by
  refine t_108_0 ?_
  have q1 := r_9_f0 hS hx1
  have hS1 : Safe (mset d x0 0 (d x1 0)) := s_9_f0 hS hx0 (by omega)
  rw [mset_eq (d := d) (a := x0) (i := (0 : Int)) (v := d x1 0)]
  refine ⟨by omega, ?_⟩
  have hS2 : Safe (mcopy (mset d x0 0 (d x1 0)) (x1 + 1) 0 (x0 + 1) 0 (d x1 0)) := c_9_1 hS1 hx1 hx0
  refine t_108_25 ?_
  rw [mcopy_ne (show x0 ≠ x0 + 1 by omega)]
  rw [mset_eq (d := d) (a := x0) (i := (0 : Int)) (v := d x1 0)]
  refine ⟨by omega, ?_⟩
  have hS3 : Safe (mcopy (mcopy (mset d x0 0 (d x1 0)) (x1 + 1) 0 (x0 + 1) 0 (d x1 0)) (x1 + 2) 0 (x0 + 2) 0 (d x1 0)) := c_9_2 hS2 hx1 hx0
  refine t_108_42 ?_
  rw [mcopy_ne (show x0 ≠ x0 + 2 by omega)]
  rw [mcopy_ne (show x0 ≠ x0 + 1 by omega)]
  rw [mset_eq (d := d) (a := x0) (i := (0 : Int)) (v := d x1 0)]
  refine ⟨by omega, ?_⟩
  have hS4 : Safe (mcopy (mcopy (mcopy (mset d x0 0 (d x1 0)) (x1 + 1) 0 (x0 + 1) 0 (d x1 0)) (x1 + 2) 0 (x0 + 2) 0 (d x1 0)) (x1 + 3) 0 (x0 + 3) 0 (d x1 0)) := c_9_3 hS3 hx1 hx0
  refine t_108_59 ?_
  rw [mcopy_ne (show x0 ≠ x0 + 3 by omega)]
  rw [mcopy_ne (show x0 ≠ x0 + 2 by omega)]
  rw [mcopy_ne (show x0 ≠ x0 + 1 by omega)]
  rw [mset_eq (d := d) (a := x0) (i := (0 : Int)) (v := d x1 0)]
  refine ⟨by omega, ?_⟩
  have hS5 : Safe (mcopy (mcopy (mcopy (mcopy (mset d x0 0 (d x1 0)) (x1 + 1) 0 (x0 + 1) 0 (d x1 0)) (x1 + 2) 0 (x0 + 2) 0 (d x1 0)) (x1 + 3) 0 (x0 + 3) 0 (d x1 0)) (x1 + 4) 0 (x0 + 4) 0 (d x1 0)) := c_9_4 hS4 hx1 hx0
  refine t_108_76 ?_
  have q2 := r_9_f5 hS5 hx1
  have hS6 : Safe (mset (mcopy (mcopy (mcopy (mcopy (mset d x0 0 (d x1 0)) (x1 + 1) 0 (x0 + 1) 0 (d x1 0)) (x1 + 2) 0 (x0 + 2) 0 (d x1 0)) (x1 + 3) 0 (x0 + 3) 0 (d x1 0)) (x1 + 4) 0 (x0 + 4) 0 (d x1 0)) x0 5 ((mcopy (mcopy (mcopy (mcopy (mset d x0 0 (d x1 0)) (x1 + 1) 0 (x0 + 1) 0 (d x1 0)) (x1 + 2) 0 (x0 + 2) 0 (d x1 0)) (x1 + 3) 0 (x0 + 3) 0 (d x1 0)) (x1 + 4) 0 (x0 + 4) 0 (d x1 0)) x1 5)) := s_9_f5 hS5 hx0 (by omega)
  rw [mset_eq (d := mcopy (mcopy (mcopy (mcopy (mset d x0 0 (d x1 0)) (x1 + 1) 0 (x0 + 1) 0 (d x1 0)) (x1 + 2) 0 (x0 + 2) 0 (d x1 0)) (x1 + 3) 0 (x0 + 3) 0 (d x1 0)) (x1 + 4) 0 (x0 + 4) 0 (d x1 0)) (a := x0) (i := (5 : Int)) (v := (mcopy (mcopy (mcopy (mcopy (mset d x0 0 (d x1 0)) (x1 + 1) 0 (x0 + 1) 0 (d x1 0)) (x1 + 2) 0 (x0 + 2) 0 (d x1 0)) (x1 + 3) 0 (x0 + 3) 0 (d x1 0)) (x1 + 4) 0 (x0 + 4) 0 (d x1 0)) x1 5)]
  refine ⟨by omega, ?_⟩
  have hS7 : Safe (mcopy (mset (mcopy (mcopy (mcopy (mcopy (mset d x0 0 (d x1 0)) (x1 + 1) 0 (x0 + 1) 0 (d x1 0)) (x1 + 2) 0 (x0 + 2) 0 (d x1 0)) (x1 + 3) 0 (x0 + 3) 0 (d x1 0)) (x1 + 4) 0 (x0 + 4) 0 (d x1 0)) x0 5 ((mcopy (mcopy (mcopy (mcopy (mset d x0 0 (d x1 0)) (x1 + 1) 0 (x0 + 1) 0 (d x1 0)) (x1 + 2) 0 (x0 + 2) 0 (d x1 0)) (x1 + 3) 0 (x0 + 3) 0 (d x1 0)) (x1 + 4) 0 (x0 + 4) 0 (d x1 0)) x1 5)) (x1 + 5) 0 (x0 + 5) 0 ((mcopy (mcopy (mcopy (mcopy (mset d x0 0 (d x1 0)) (x1 + 1) 0 (x0 + 1) 0 (d x1 0)) (x1 + 2) 0 (x0 + 2) 0 (d x1 0)) (x1 + 3) 0 (x0 + 3) 0 (d x1 0)) (x1 + 4) 0 (x0 + 4) 0 (d x1 0)) x1 5)) := c_9_5 hS6 hx1 hx0
  refine t_108_101 ?_
  have y0 : g_108 x0 x1 d = mcopy (mset (mcopy (mcopy (mcopy (mcopy (mset d x0 0 (d x1 0)) (x1 + 1) 0 (x0 + 1) 0 (d x1 0)) (x1 + 2) 0 (x0 + 2) 0 (d x1 0)) (x1 + 3) 0 (x0 + 3) 0 (d x1 0)) (x1 + 4) 0 (x0 + 4) 0 (d x1 0)) x0 5 ((mcopy (mcopy (mcopy (mcopy (mset d x0 0 (d x1 0)) (x1 + 1) 0 (x0 + 1) 0 (d x1 0)) (x1 + 2) 0 (x0 + 2) 0 (d x1 0)) (x1 + 3) 0 (x0 + 3) 0 (d x1 0)) (x1 + 4) 0 (x0 + 4) 0 (d x1 0)) x1 5)) (x1 + 5) 0 (x0 + 5) 0 ((mcopy (mcopy (mcopy (mcopy (mset d x0 0 (d x1 0)) (x1 + 1) 0 (x0 + 1) 0 (d x1 0)) (x1 + 2) 0 (x0 + 2) 0 (d x1 0)) (x1 + 3) 0 (x0 + 3) 0 (d x1 0)) (x1 + 4) 0 (x0 + 4) 0 (d x1 0)) x1 5) := by simp only [g_108]
  rw [y0] at h
  exact h (show ∀ b : Int, (b < x0 ∨ x0 + 5 < b) → (mcopy (mset (mcopy (mcopy (mcopy (mcopy (mset d x0 0 (d x1 0)) (x1 + 1) 0 (x0 + 1) 0 (d x1 0)) (x1 + 2) 0 (x0 + 2) 0 (d x1 0)) (x1 + 3) 0 (x0 + 3) 0 (d x1 0)) (x1 + 4) 0 (x0 + 4) 0 (d x1 0)) x0 5 ((mcopy (mcopy (mcopy (mcopy (mset d x0 0 (d x1 0)) (x1 + 1) 0 (x0 + 1) 0 (d x1 0)) (x1 + 2) 0 (x0 + 2) 0 (d x1 0)) (x1 + 3) 0 (x0 + 3) 0 (d x1 0)) (x1 + 4) 0 (x0 + 4) 0 (d x1 0)) x1 5)) (x1 + 5) 0 (x0 + 5) 0 ((mcopy (mcopy (mcopy (mcopy (mset d x0 0 (d x1 0)) (x1 + 1) 0 (x0 + 1) 0 (d x1 0)) (x1 + 2) 0 (x0 + 2) 0 (d x1 0)) (x1 + 3) 0 (x0 + 3) 0 (d x1 0)) (x1 + 4) 0 (x0 + 4) 0 (d x1 0)) x1 5)) b = d b from fun b hb => (mcopy_ne (by omega)).trans ((mset_ne (by omega)).trans ((mcopy_ne (by omega)).trans ((mcopy_ne (by omega)).trans ((mcopy_ne (by omega)).trans ((mcopy_ne (by omega)).trans (mset_ne (by omega)))))))) hS7
def g_109 (x0 x1 x2 x3 : Int) (d : mD) : mD := if d x0 0 < 200 then mset (mset (mset (mset (mset d (x0 + 1) (d x0 0) x1) (x0 + 2) (d x0 0) x2) (x0 + 3) (d x0 0) x3) (x0 + 4) (d x0 0) 0) x0 0 ((d x0 0) + 1) else d
theorem k_109 {E : mO × tW} {K : tK} {d : mD} {x0 x1 x2 x3 : Int} (hS : Safe d) (hx0 : toB x0) (p1 : 0 ≤ x1 ∧ x1 ≤ 15) (p2 : 0 ≤ x2 ∧ x2 ≤ 59) (p3 : 0 ≤ x3 ∧ x3 ≤ 1300) (h : (∀ b : Int, (b < x0 ∨ x0 + 4 < b) → (g_109 x0 x1 x2 x3 d) b = d b) → Safe (g_109 x0 x1 x2 x3 d) → K (.inl none) (g_109 x0 x1 x2 x3 d)) : tCall E 109 [.inr (9, x0), .inl (0, x1), .inl (0, x2), .inl (0, x3)] d K := by
  refine t_109_0 ?_
  have q1 := r_9_f0 hS hx0
  refine ⟨⟨m_inR (by omega) (by omega), m_inR (by omega) (by omega)⟩, fun c0 => ?_, fun c0 => ?_⟩
  · refine ⟨by omega, ?_⟩
    have hS1 : Safe (mset d (x0 + 1) (d x0 0) x1) := s_9_1 hS hx0 (by omega)
    rw [mset_ne (d := d) (a := x0 + 1) (i := d x0 0) (v := x1) (b := x0) (by omega)]
    refine ⟨by omega, ?_⟩
    have hS2 : Safe (mset (mset d (x0 + 1) (d x0 0) x1) (x0 + 2) (d x0 0) x2) := s_9_2 hS1 hx0 (by omega)
    rw [mset_ne (d := mset d (x0 + 1) (d x0 0) x1) (a := x0 + 2) (i := d x0 0) (v := x2) (b := x0) (by omega)]
    rw [mset_ne (d := d) (a := x0 + 1) (i := d x0 0) (v := x1) (b := x0) (by omega)]
    refine ⟨by omega, ?_⟩
    have hS3 : Safe (mset (mset (mset d (x0 + 1) (d x0 0) x1) (x0 + 2) (d x0 0) x2) (x0 + 3) (d x0 0) x3) := s_9_3 hS2 hx0 (by omega)
    rw [mset_ne (d := mset (mset d (x0 + 1) (d x0 0) x1) (x0 + 2) (d x0 0) x2) (a := x0 + 3) (i := d x0 0) (v := x3) (b := x0) (by omega)]
    rw [mset_ne (d := mset d (x0 + 1) (d x0 0) x1) (a := x0 + 2) (i := d x0 0) (v := x2) (b := x0) (by omega)]
    rw [mset_ne (d := d) (a := x0 + 1) (i := d x0 0) (v := x1) (b := x0) (by omega)]
    refine ⟨by omega, ?_⟩
    have hS4 : Safe (mset (mset (mset (mset d (x0 + 1) (d x0 0) x1) (x0 + 2) (d x0 0) x2) (x0 + 3) (d x0 0) x3) (x0 + 4) (d x0 0) 0) := s_9_4 hS3 hx0 (by omega)
    rw [mset_ne (d := mset (mset (mset d (x0 + 1) (d x0 0) x1) (x0 + 2) (d x0 0) x2) (x0 + 3) (d x0 0) x3) (a := x0 + 4) (i := d x0 0) (v := (0 : Int)) (b := x0) (by omega)]
    rw [mset_ne (d := mset (mset d (x0 + 1) (d x0 0) x1) (x0 + 2) (d x0 0) x2) (a := x0 + 3) (i := d x0 0) (v := x3) (b := x0) (by omega)]
    rw [mset_ne (d := mset d (x0 + 1) (d x0 0) x1) (a := x0 + 2) (i := d x0 0) (v := x2) (b := x0) (by omega)]
    rw [mset_ne (d := d) (a := x0 + 1) (i := d x0 0) (v := x1) (b := x0) (by omega)]
    have hS5 : Safe (mset (mset (mset (mset (mset d (x0 + 1) (d x0 0) x1) (x0 + 2) (d x0 0) x2) (x0 + 3) (d x0 0) x3) (x0 + 4) (d x0 0) 0) x0 0 ((d x0 0) + 1)) := s_9_f0 hS4 hx0 (by omega)
    have y0 : g_109 x0 x1 x2 x3 d = mset (mset (mset (mset (mset d (x0 + 1) (d x0 0) x1) (x0 + 2) (d x0 0) x2) (x0 + 3) (d x0 0) x3) (x0 + 4) (d x0 0) 0) x0 0 ((d x0 0) + 1) := by simp only [g_109, if_pos (show d x0 0 < 200 from c0)]
    rw [y0] at h
    exact h (show ∀ b : Int, (b < x0 ∨ x0 + 4 < b) → (mset (mset (mset (mset (mset d (x0 + 1) (d x0 0) x1) (x0 + 2) (d x0 0) x2) (x0 + 3) (d x0 0) x3) (x0 + 4) (d x0 0) 0) x0 0 ((d x0 0) + 1)) b = d b from fun b hb => (mset_ne (by omega)).trans ((mset_ne (by omega)).trans ((mset_ne (by omega)).trans ((mset_ne (by omega)).trans (mset_ne (by omega)))))) hS5
  · have y0 : g_109 x0 x1 x2 x3 d = d := by simp only [g_109, if_neg (show ¬ d x0 0 < 200 from Int.not_lt.mpr c0)]
    rw [y0] at h
    exact h (show ∀ b : Int, (b < x0 ∨ x0 + 4 < b) → d b = d b from fun _ _ => rfl) hS
def st_110_4 (x0 x1 : Int) (r4 : Int → Int → mD → Int) (x2 x3 : Int) (d : mD) : Int := if x3 < d x0 0 then (if d (x0 + 4) x3 = x1 then r4 (x2 + 1) (x3 + 1) d else r4 (x2 + 0) (x3 + 1) d) else x2
def lp_110_4 (x0 x1 : Int) : Nat → Int → Int → mD → Int
  | 0 => st_110_4 x0 x1 (fun _ _ d => 0)
  | n + 1 => st_110_4 x0 x1 (lp_110_4 x0 x1 n)
theorem ls_110_4 {E : mO × tW} {K : tK} {x0 x1 : Int} (hx0 : toB x0) (p1 : -2147483648 ≤ x1 ∧ x1 ≤ 2147483647) (N4 : Int) (r4 : Int → Int → mD → Int) (ih4 : ∀ (x2 x3 : Int) (d : mD), Safe d → (0 ≤ x3 ∧ x3 ≤ 200) → (0 ≤ x2 ∧ x2 ≤ x3) → 0 ≤ 200 - x3 → 200 - x3 < N4 → ((0 ≤ (r4 x2 x3 d) ∧ (r4 x2 x3 d) ≤ 200) → K (.inl (some (0, (r4 x2 x3 d)))) d) → tRun E 110 (4, [.inr (9, x0), .inl (0, x1), .inl (0, x2), .inl (0, x3)], [], 0, 0, d) K) (x2 x3 : Int) (d : mD) (hS : Safe d) (i0 : 0 ≤ x3 ∧ x3 ≤ 200) (i1 : 0 ≤ x2 ∧ x2 ≤ x3) (hm : 200 - x3 ≤ N4) (h : (0 ≤ (st_110_4 x0 x1 r4 x2 x3 d) ∧ (st_110_4 x0 x1 r4 x2 x3 d) ≤ 200) → K (.inl (some (0, (st_110_4 x0 x1 r4 x2 x3 d)))) d) : tRun E 110 (4, [.inr (9, x0), .inl (0, x1), .inl (0, x2), .inl (0, x3)], [], 0, 0, d) K := by
  refine t_110_4 ?_
  have q1 := r_9_f0 hS hx0
  refine ⟨⟨m_inR (by omega) (by omega), m_inR (by omega) (by omega)⟩, fun c0 => ?_, fun c0 => ?_⟩
  · have y0 : st_110_4 x0 x1 r4 x2 x3 d = x2 := by simp only [st_110_4, if_neg (show ¬ x3 < d x0 0 from Int.not_lt.mpr c0)]
    rw [y0] at h
    exact h (show 0 ≤ x2 ∧ x2 ≤ 200 from (by omega))
  · have q2 := r_9_4 hS hx0 x3
    refine ⟨by omega, ⟨m_inR (by omega) (by omega), m_inR (by omega) (by omega)⟩, fun c1 => ?_, fun c1 => ?_⟩
    · refine ih4 (x2 + 0) (x3 + 1)  d hS (by omega) (by omega) (by omega) (by omega) ?_
      intro e
      have y0 : st_110_4 x0 x1 r4 x2 x3 d = r4 (x2 + 0) (x3 + 1) d := by simp only [st_110_4, if_pos (show x3 < d x0 0 from c0), if_neg (show ¬ d (x0 + 4) x3 = x1 from c1)]
      rw [y0] at h
      exact h e
    · refine ih4 (x2 + 1) (x3 + 1)  d hS (by omega) (by omega) (by omega) (by omega) ?_
      intro e
      have y0 : st_110_4 x0 x1 r4 x2 x3 d = r4 (x2 + 1) (x3 + 1) d := by simp only [st_110_4, if_pos (show x3 < d x0 0 from c0), if_pos (show d (x0 + 4) x3 = x1 from c1)]
      rw [y0] at h
      exact h e
theorem l_110_4 {E : mO × tW} {K : tK} {x0 x1 : Int} (hx0 : toB x0) (p1 : -2147483648 ≤ x1 ∧ x1 ≤ 2147483647) : ∀ (n : Nat) (x2 x3 : Int) (d : mD), Safe d → (0 ≤ x3 ∧ x3 ≤ 200) → (0 ≤ x2 ∧ x2 ≤ x3) → 200 - x3 ≤ (n : Int) → ((0 ≤ (lp_110_4 x0 x1 n x2 x3 d) ∧ (lp_110_4 x0 x1 n x2 x3 d) ≤ 200) → K (.inl (some (0, (lp_110_4 x0 x1 n x2 x3 d)))) d) → tRun E 110 (4, [.inr (9, x0), .inl (0, x1), .inl (0, x2), .inl (0, x3)], [], 0, 0, d) K := by
  intro n
  induction n with
  | zero =>
    intro x2 x3  d hS i0 i1 hm  h
    exact ls_110_4 hx0 p1 0 _ (fun _ _  _ _ _ _ m0 m1 _ => absurd m1 (by omega)) x2 x3  d hS i0 i1 hm  h
  | succ n ih =>
    intro x2 x3  d hS i0 i1 hm  h
    exact ls_110_4 hx0 p1 ((n + 1 : Nat) : Int) _ (fun x2 x3  d hS i0 i1  m0 m1 h => ih x2 x3  d hS i0 i1 (by omega)  h) x2 x3  d hS i0 i1 hm  h
def v_110 (x0 x1 : Int) (d : mD) : Int := lp_110_4 x0 x1 (200 - 0 : Int).toNat 0 0 d
theorem k_110 {E : mO × tW} {K : tK} {d : mD} {x0 x1 : Int} (hS : Safe d) (hx0 : toB x0) (p1 : -2147483648 ≤ x1 ∧ x1 ≤ 2147483647) (h : (0 ≤ (v_110 x0 x1 d) ∧ (v_110 x0 x1 d) ≤ 200) → K (.inl (some (0, (v_110 x0 x1 d)))) d) : tCall E 110 [.inr (9, x0), .inl (0, x1)] d K := by
  refine t_110_0 ?_
  refine l_110_4 hx0 p1 (200 - 0 : Int).toNat 0 0  d hS (by omega) (by omega) (by omega) ?_
  intro e
  have y0 : v_110 x0 x1 d = lp_110_4 x0 x1 (200 - 0 : Int).toNat 0 0 d := by simp only [v_110]
  rw [y0] at h
  exact h e
def st_112_4 (x0 x1 : Int) (r4 : Int → Int → mD → Int) (x2 x3 : Int) (d : mD) : Int := if x3 < d x0 0 then (if d (x0 + 2) x3 = x1 then r4 (x2 + 1) (x3 + 1) d else r4 (x2 + 0) (x3 + 1) d) else x2
def lp_112_4 (x0 x1 : Int) : Nat → Int → Int → mD → Int
  | 0 => st_112_4 x0 x1 (fun _ _ d => 0)
  | n + 1 => st_112_4 x0 x1 (lp_112_4 x0 x1 n)
theorem ls_112_4 {E : mO × tW} {K : tK} {x0 x1 : Int} (hx0 : toB x0) (p1 : -2147483648 ≤ x1 ∧ x1 ≤ 2147483647) (N4 : Int) (r4 : Int → Int → mD → Int) (ih4 : ∀ (x2 x3 : Int) (d : mD), Safe d → (0 ≤ x3 ∧ x3 ≤ 200) → (0 ≤ x2 ∧ x2 ≤ x3) → 0 ≤ 200 - x3 → 200 - x3 < N4 → ((0 ≤ (r4 x2 x3 d) ∧ (r4 x2 x3 d) ≤ 200) → K (.inl (some (0, (r4 x2 x3 d)))) d) → tRun E 112 (4, [.inr (9, x0), .inl (0, x1), .inl (0, x2), .inl (0, x3)], [], 0, 0, d) K) (x2 x3 : Int) (d : mD) (hS : Safe d) (i0 : 0 ≤ x3 ∧ x3 ≤ 200) (i1 : 0 ≤ x2 ∧ x2 ≤ x3) (hm : 200 - x3 ≤ N4) (h : (0 ≤ (st_112_4 x0 x1 r4 x2 x3 d) ∧ (st_112_4 x0 x1 r4 x2 x3 d) ≤ 200) → K (.inl (some (0, (st_112_4 x0 x1 r4 x2 x3 d)))) d) : tRun E 112 (4, [.inr (9, x0), .inl (0, x1), .inl (0, x2), .inl (0, x3)], [], 0, 0, d) K := by
  refine t_112_4 ?_
  have q1 := r_9_f0 hS hx0
  refine ⟨⟨m_inR (by omega) (by omega), m_inR (by omega) (by omega)⟩, fun c0 => ?_, fun c0 => ?_⟩
  · have y0 : st_112_4 x0 x1 r4 x2 x3 d = x2 := by simp only [st_112_4, if_neg (show ¬ x3 < d x0 0 from Int.not_lt.mpr c0)]
    rw [y0] at h
    exact h (show 0 ≤ x2 ∧ x2 ≤ 200 from (by omega))
  · have q2 := r_9_2 hS hx0 x3
    refine ⟨by omega, ⟨m_inR (by omega) (by omega), m_inR (by omega) (by omega)⟩, fun c1 => ?_, fun c1 => ?_⟩
    · refine ih4 (x2 + 0) (x3 + 1)  d hS (by omega) (by omega) (by omega) (by omega) ?_
      intro e
      have y0 : st_112_4 x0 x1 r4 x2 x3 d = r4 (x2 + 0) (x3 + 1) d := by simp only [st_112_4, if_pos (show x3 < d x0 0 from c0), if_neg (show ¬ d (x0 + 2) x3 = x1 from c1)]
      rw [y0] at h
      exact h e
    · refine ih4 (x2 + 1) (x3 + 1)  d hS (by omega) (by omega) (by omega) (by omega) ?_
      intro e
      have y0 : st_112_4 x0 x1 r4 x2 x3 d = r4 (x2 + 1) (x3 + 1) d := by simp only [st_112_4, if_pos (show x3 < d x0 0 from c0), if_pos (show d (x0 + 2) x3 = x1 from c1)]
      rw [y0] at h
      exact h e
theorem l_112_4 {E : mO × tW} {K : tK} {x0 x1 : Int} (hx0 : toB x0) (p1 : -2147483648 ≤ x1 ∧ x1 ≤ 2147483647) : ∀ (n : Nat) (x2 x3 : Int) (d : mD), Safe d → (0 ≤ x3 ∧ x3 ≤ 200) → (0 ≤ x2 ∧ x2 ≤ x3) → 200 - x3 ≤ (n : Int) → ((0 ≤ (lp_112_4 x0 x1 n x2 x3 d) ∧ (lp_112_4 x0 x1 n x2 x3 d) ≤ 200) → K (.inl (some (0, (lp_112_4 x0 x1 n x2 x3 d)))) d) → tRun E 112 (4, [.inr (9, x0), .inl (0, x1), .inl (0, x2), .inl (0, x3)], [], 0, 0, d) K := by
  intro n
  induction n with
  | zero =>
    intro x2 x3  d hS i0 i1 hm  h
    exact ls_112_4 hx0 p1 0 _ (fun _ _  _ _ _ _ m0 m1 _ => absurd m1 (by omega)) x2 x3  d hS i0 i1 hm  h
  | succ n ih =>
    intro x2 x3  d hS i0 i1 hm  h
    exact ls_112_4 hx0 p1 ((n + 1 : Nat) : Int) _ (fun x2 x3  d hS i0 i1  m0 m1 h => ih x2 x3  d hS i0 i1 (by omega)  h) x2 x3  d hS i0 i1 hm  h
def v_112 (x0 x1 : Int) (d : mD) : Int := lp_112_4 x0 x1 (200 - 0 : Int).toNat 0 0 d
theorem k_112 {E : mO × tW} {K : tK} {d : mD} {x0 x1 : Int} (hS : Safe d) (hx0 : toB x0) (p1 : -2147483648 ≤ x1 ∧ x1 ≤ 2147483647) (h : (0 ≤ (v_112 x0 x1 d) ∧ (v_112 x0 x1 d) ≤ 200) → K (.inl (some (0, (v_112 x0 x1 d)))) d) : tCall E 112 [.inr (9, x0), .inl (0, x1)] d K := by
  refine t_112_0 ?_
  refine l_112_4 hx0 p1 (200 - 0 : Int).toNat 0 0  d hS (by omega) (by omega) (by omega) ?_
  intro e
  have y0 : v_112 x0 x1 d = lp_112_4 x0 x1 (200 - 0 : Int).toNat 0 0 d := by simp only [v_112]
  rw [y0] at h
  exact h e
def st_111_5 (x0 x1 x2 : Int) (r5 : Int → Int → mD → Int) (x3 x4 : Int) (d : mD) : Int := if x4 < d x0 0 then (if d (x0 + 1) x4 = x1 then (if d (x0 + 4) x4 = x2 then r5 (x3 + 1) (x4 + 1) d else r5 (x3 + 0) (x4 + 1) d) else r5 (x3 + 0) (x4 + 1) d) else x3
def lp_111_5 (x0 x1 x2 : Int) : Nat → Int → Int → mD → Int
  | 0 => st_111_5 x0 x1 x2 (fun _ _ d => 0)
  | n + 1 => st_111_5 x0 x1 x2 (lp_111_5 x0 x1 x2 n)
theorem ls_111_5 {E : mO × tW} {K : tK} {x0 x1 x2 : Int} (hx0 : toB x0) (p1 : -2147483648 ≤ x1 ∧ x1 ≤ 2147483647) (p2 : -2147483648 ≤ x2 ∧ x2 ≤ 2147483647) (N5 : Int) (r5 : Int → Int → mD → Int) (ih5 : ∀ (x3 x4 : Int) (d : mD), Safe d → (0 ≤ x4 ∧ x4 ≤ 200) → (0 ≤ x3 ∧ x3 ≤ x4) → 0 ≤ 200 - x4 → 200 - x4 < N5 → ((0 ≤ (r5 x3 x4 d) ∧ (r5 x3 x4 d) ≤ 200) → K (.inl (some (0, (r5 x3 x4 d)))) d) → tRun E 111 (5, [.inr (9, x0), .inl (0, x1), .inl (0, x2), .inl (0, x3), .inl (0, x4)], [], 0, 0, d) K) (x3 x4 : Int) (d : mD) (hS : Safe d) (i0 : 0 ≤ x4 ∧ x4 ≤ 200) (i1 : 0 ≤ x3 ∧ x3 ≤ x4) (hm : 200 - x4 ≤ N5) (h : (0 ≤ (st_111_5 x0 x1 x2 r5 x3 x4 d) ∧ (st_111_5 x0 x1 x2 r5 x3 x4 d) ≤ 200) → K (.inl (some (0, (st_111_5 x0 x1 x2 r5 x3 x4 d)))) d) : tRun E 111 (5, [.inr (9, x0), .inl (0, x1), .inl (0, x2), .inl (0, x3), .inl (0, x4)], [], 0, 0, d) K := by
  refine t_111_5 ?_
  have q1 := r_9_f0 hS hx0
  refine ⟨⟨m_inR (by omega) (by omega), m_inR (by omega) (by omega)⟩, fun c0 => ?_, fun c0 => ?_⟩
  · have y0 : st_111_5 x0 x1 x2 r5 x3 x4 d = x3 := by simp only [st_111_5, if_neg (show ¬ x4 < d x0 0 from Int.not_lt.mpr c0)]
    rw [y0] at h
    exact h (show 0 ≤ x3 ∧ x3 ≤ 200 from (by omega))
  · have q2 := r_9_1 hS hx0 x4
    refine ⟨by omega, ⟨m_inR (by omega) (by omega), m_inR (by omega) (by omega)⟩, fun c1 => ?_, fun c1 => ?_⟩
    · refine ih5 (x3 + 0) (x4 + 1)  d hS (by omega) (by omega) (by omega) (by omega) ?_
      intro e
      have y0 : st_111_5 x0 x1 x2 r5 x3 x4 d = r5 (x3 + 0) (x4 + 1) d := by simp only [st_111_5, if_pos (show x4 < d x0 0 from c0), if_neg (show ¬ d (x0 + 1) x4 = x1 from c1)]
      rw [y0] at h
      exact h e
    · have q3 := r_9_4 hS hx0 x4
      refine ⟨by omega, ⟨m_inR (by omega) (by omega), m_inR (by omega) (by omega)⟩, fun c2 => ?_, fun c2 => ?_⟩
      · refine ih5 (x3 + 0) (x4 + 1)  d hS (by omega) (by omega) (by omega) (by omega) ?_
        intro e
        have y0 : st_111_5 x0 x1 x2 r5 x3 x4 d = r5 (x3 + 0) (x4 + 1) d := by simp only [st_111_5, if_pos (show x4 < d x0 0 from c0), if_pos (show d (x0 + 1) x4 = x1 from c1), if_neg (show ¬ d (x0 + 4) x4 = x2 from c2)]
        rw [y0] at h
        exact h e
      · refine ih5 (x3 + 1) (x4 + 1)  d hS (by omega) (by omega) (by omega) (by omega) ?_
        intro e
        have y0 : st_111_5 x0 x1 x2 r5 x3 x4 d = r5 (x3 + 1) (x4 + 1) d := by simp only [st_111_5, if_pos (show x4 < d x0 0 from c0), if_pos (show d (x0 + 1) x4 = x1 from c1), if_pos (show d (x0 + 4) x4 = x2 from c2)]
        rw [y0] at h
        exact h e
theorem l_111_5 {E : mO × tW} {K : tK} {x0 x1 x2 : Int} (hx0 : toB x0) (p1 : -2147483648 ≤ x1 ∧ x1 ≤ 2147483647) (p2 : -2147483648 ≤ x2 ∧ x2 ≤ 2147483647) : ∀ (n : Nat) (x3 x4 : Int) (d : mD), Safe d → (0 ≤ x4 ∧ x4 ≤ 200) → (0 ≤ x3 ∧ x3 ≤ x4) → 200 - x4 ≤ (n : Int) → ((0 ≤ (lp_111_5 x0 x1 x2 n x3 x4 d) ∧ (lp_111_5 x0 x1 x2 n x3 x4 d) ≤ 200) → K (.inl (some (0, (lp_111_5 x0 x1 x2 n x3 x4 d)))) d) → tRun E 111 (5, [.inr (9, x0), .inl (0, x1), .inl (0, x2), .inl (0, x3), .inl (0, x4)], [], 0, 0, d) K := by
  intro n
  induction n with
  | zero =>
    intro x3 x4  d hS i0 i1 hm  h
    exact ls_111_5 hx0 p1 p2 0 _ (fun _ _  _ _ _ _ m0 m1 _ => absurd m1 (by omega)) x3 x4  d hS i0 i1 hm  h
  | succ n ih =>
    intro x3 x4  d hS i0 i1 hm  h
    exact ls_111_5 hx0 p1 p2 ((n + 1 : Nat) : Int) _ (fun x3 x4  d hS i0 i1  m0 m1 h => ih x3 x4  d hS i0 i1 (by omega)  h) x3 x4  d hS i0 i1 hm  h
def v_111 (x0 x1 x2 : Int) (d : mD) : Int := lp_111_5 x0 x1 x2 (200 - 0 : Int).toNat 0 0 d
theorem k_111 {E : mO × tW} {K : tK} {d : mD} {x0 x1 x2 : Int} (hS : Safe d) (hx0 : toB x0) (p1 : -2147483648 ≤ x1 ∧ x1 ≤ 2147483647) (p2 : -2147483648 ≤ x2 ∧ x2 ≤ 2147483647) (h : (0 ≤ (v_111 x0 x1 x2 d) ∧ (v_111 x0 x1 x2 d) ≤ 200) → K (.inl (some (0, (v_111 x0 x1 x2 d)))) d) : tCall E 111 [.inr (9, x0), .inl (0, x1), .inl (0, x2)] d K := by
  refine t_111_0 ?_
  refine l_111_5 hx0 p1 p2 (200 - 0 : Int).toNat 0 0  d hS (by omega) (by omega) (by omega) ?_
  intro e
  have y0 : v_111 x0 x1 x2 d = lp_111_5 x0 x1 x2 (200 - 0 : Int).toNat 0 0 d := by simp only [v_111]
  rw [y0] at h
  exact h e
def st_113_2 (x0 x1 : Int) (r2 : Int → mD → Int) (x2 : Int) (d : mD) : Int := if x2 < d x0 5 then (if d (x0 + 5) x2 = x1 then x2 else r2 (x2 + 1) d) else (-1)
def lp_113_2 (x0 x1 : Int) : Nat → Int → mD → Int
  | 0 => st_113_2 x0 x1 (fun _ d => 0)
  | n + 1 => st_113_2 x0 x1 (lp_113_2 x0 x1 n)
theorem ls_113_2 {E : mO × tW} {K : tK} {x0 x1 : Int} (hx0 : toB x0) (p1 : -2147483648 ≤ x1 ∧ x1 ≤ 2147483647) (N2 : Int) (r2 : Int → mD → Int) (ih2 : ∀ (x2 : Int) (d : mD), Safe d → (0 ≤ x2 ∧ x2 ≤ 200) → 0 ≤ 200 - x2 → 200 - x2 < N2 → ((-1 ≤ (r2 x2 d) ∧ (r2 x2 d) ≤ 199) → K (.inl (some (0, (r2 x2 d)))) d) → tRun E 113 (2, [.inr (9, x0), .inl (0, x1), .inl (0, x2)], [], 0, 0, d) K) (x2 : Int) (d : mD) (hS : Safe d) (i0 : 0 ≤ x2 ∧ x2 ≤ 200) (hm : 200 - x2 ≤ N2) (h : (-1 ≤ (st_113_2 x0 x1 r2 x2 d) ∧ (st_113_2 x0 x1 r2 x2 d) ≤ 199) → K (.inl (some (0, (st_113_2 x0 x1 r2 x2 d)))) d) : tRun E 113 (2, [.inr (9, x0), .inl (0, x1), .inl (0, x2)], [], 0, 0, d) K := by
  refine t_113_2 ?_
  have q1 := r_9_f5 hS hx0
  refine ⟨⟨m_inR (by omega) (by omega), m_inR (by omega) (by omega)⟩, fun c0 => ?_, fun c0 => ?_⟩
  · have y0 : st_113_2 x0 x1 r2 x2 d = (-1) := by simp only [st_113_2, if_neg (show ¬ x2 < d x0 5 from Int.not_lt.mpr c0)]
    rw [y0] at h
    exact h (show -1 ≤ ((-1 : Int)) ∧ ((-1 : Int)) ≤ 199 from (by omega))
  · have q2 := r_9_5 hS hx0 x2
    refine ⟨by omega, ⟨m_inR (by omega) (by omega), m_inR (by omega) (by omega)⟩, fun c1 => ?_, fun c1 => ?_⟩
    · refine ih2 (x2 + 1)  d hS (by omega) (by omega) (by omega) ?_
      intro e
      have y0 : st_113_2 x0 x1 r2 x2 d = r2 (x2 + 1) d := by simp only [st_113_2, if_pos (show x2 < d x0 5 from c0), if_neg (show ¬ d (x0 + 5) x2 = x1 from c1)]
      rw [y0] at h
      exact h e
    · have y0 : st_113_2 x0 x1 r2 x2 d = x2 := by simp only [st_113_2, if_pos (show x2 < d x0 5 from c0), if_pos (show d (x0 + 5) x2 = x1 from c1)]
      rw [y0] at h
      exact h (show -1 ≤ x2 ∧ x2 ≤ 199 from (by omega))
theorem l_113_2 {E : mO × tW} {K : tK} {x0 x1 : Int} (hx0 : toB x0) (p1 : -2147483648 ≤ x1 ∧ x1 ≤ 2147483647) : ∀ (n : Nat) (x2 : Int) (d : mD), Safe d → (0 ≤ x2 ∧ x2 ≤ 200) → 200 - x2 ≤ (n : Int) → ((-1 ≤ (lp_113_2 x0 x1 n x2 d) ∧ (lp_113_2 x0 x1 n x2 d) ≤ 199) → K (.inl (some (0, (lp_113_2 x0 x1 n x2 d)))) d) → tRun E 113 (2, [.inr (9, x0), .inl (0, x1), .inl (0, x2)], [], 0, 0, d) K := by
  intro n
  induction n with
  | zero =>
    intro x2  d hS i0 hm  h
    exact ls_113_2 hx0 p1 0 _ (fun _  _ _ _ m0 m1 _ => absurd m1 (by omega)) x2  d hS i0 hm  h
  | succ n ih =>
    intro x2  d hS i0 hm  h
    exact ls_113_2 hx0 p1 ((n + 1 : Nat) : Int) _ (fun x2  d hS i0  m0 m1 h => ih x2  d hS i0 (by omega)  h) x2  d hS i0 hm  h
def v_113 (x0 x1 : Int) (d : mD) : Int := lp_113_2 x0 x1 (200 - 0 : Int).toNat 0 d
theorem k_113 {E : mO × tW} {K : tK} {d : mD} {x0 x1 : Int} (hS : Safe d) (hx0 : toB x0) (p1 : -2147483648 ≤ x1 ∧ x1 ≤ 2147483647) (h : (-1 ≤ (v_113 x0 x1 d) ∧ (v_113 x0 x1 d) ≤ 199) → K (.inl (some (0, (v_113 x0 x1 d)))) d) : tCall E 113 [.inr (9, x0), .inl (0, x1)] d K := by
  refine t_113_0 ?_
  refine l_113_2 hx0 p1 (200 - 0 : Int).toNat 0  d hS (by omega) (by omega) ?_
  intro e
  have y0 : v_113 x0 x1 d = lp_113_2 x0 x1 (200 - 0 : Int).toNat 0 d := by simp only [v_113]
  rw [y0] at h
  exact h e
def st_114_6 (x0 x1 x2 x3 : Int) (r6 : Int → Int → mD → mD) (x4 x5 : Int) (d : mD) : mD := if x5 < d x0 0 then (if (0 : Int) < x4 then (if d (x0 + 1) x5 = x1 then (if d (x0 + 4) x5 = 0 then r6 (x4 + (-1)) (x5 + 1) (mset d (x0 + 1) x5 x2) else r6 x4 (x5 + 1) d) else r6 x4 (x5 + 1) d) else d) else d
def lp_114_6 (x0 x1 x2 x3 : Int) : Nat → Int → Int → mD → mD
  | 0 => st_114_6 x0 x1 x2 x3 (fun _ _ d => d)
  | n + 1 => st_114_6 x0 x1 x2 x3 (lp_114_6 x0 x1 x2 x3 n)
theorem ls_114_6 {E : mO × tW} {K : tK} {x0 x1 x2 x3 : Int} (hx0 : toB x0) (p1 : 0 ≤ x1 ∧ x1 ≤ 15) (p2 : 0 ≤ x2 ∧ x2 ≤ 15) (p3 : 0 ≤ x3 ∧ x3 ≤ 200) (N6 : Int) (r6 : Int → Int → mD → mD) (ih6 : ∀ (x4 x5 : Int) (d : mD), Safe d → (0 ≤ x5 ∧ x5 ≤ 200) → (0 ≤ x4 ∧ x4 ≤ 200) → 0 ≤ 200 - x5 → 200 - x5 < N6 → ((∀ b : Int, (b < x0 + 1 ∨ x0 + 1 < b) → (r6 x4 x5 d) b = d b) → Safe (r6 x4 x5 d) → K (.inl none) (r6 x4 x5 d)) → tRun E 114 (6, [.inr (9, x0), .inl (0, x1), .inl (0, x2), .inl (0, x3), .inl (0, x4), .inl (0, x5)], [], 0, 0, d) K) (x4 x5 : Int) (d : mD) (hS : Safe d) (i0 : 0 ≤ x5 ∧ x5 ≤ 200) (i1 : 0 ≤ x4 ∧ x4 ≤ 200) (hm : 200 - x5 ≤ N6) (h : (∀ b : Int, (b < x0 + 1 ∨ x0 + 1 < b) → (st_114_6 x0 x1 x2 x3 r6 x4 x5 d) b = d b) → Safe (st_114_6 x0 x1 x2 x3 r6 x4 x5 d) → K (.inl none) (st_114_6 x0 x1 x2 x3 r6 x4 x5 d)) : tRun E 114 (6, [.inr (9, x0), .inl (0, x1), .inl (0, x2), .inl (0, x3), .inl (0, x4), .inl (0, x5)], [], 0, 0, d) K := by
  refine t_114_6 ?_
  have q1 := r_9_f0 hS hx0
  refine ⟨⟨m_inR (by omega) (by omega), m_inR (by omega) (by omega)⟩, fun c0 => ?_, fun c0 => ?_⟩
  · have y0 : st_114_6 x0 x1 x2 x3 r6 x4 x5 d = d := by simp only [st_114_6, if_neg (show ¬ x5 < d x0 0 from Int.not_lt.mpr c0)]
    rw [y0] at h
    exact h (show ∀ b : Int, (b < x0 + 1 ∨ x0 + 1 < b) → d b = d b from fun _ _ => rfl) hS
  · refine ⟨m_inR (by omega) (by omega), fun c1 => ?_, fun c1 => ?_⟩
    · have y0 : st_114_6 x0 x1 x2 x3 r6 x4 x5 d = d := by simp only [st_114_6, if_pos (show x5 < d x0 0 from c0), if_neg (show ¬ (0 : Int) < x4 from Int.not_lt.mpr c1)]
      rw [y0] at h
      exact h (show ∀ b : Int, (b < x0 + 1 ∨ x0 + 1 < b) → d b = d b from fun _ _ => rfl) hS
    · have q2 := r_9_1 hS hx0 x5
      refine ⟨by omega, ⟨m_inR (by omega) (by omega), m_inR (by omega) (by omega)⟩, fun c2 => ?_, fun c2 => ?_⟩
      · refine ih6 x4 (x5 + 1)  d hS (by omega) (by omega) (by omega) (by omega) ?_
        intro F hS_
        have y0 : st_114_6 x0 x1 x2 x3 r6 x4 x5 d = r6 x4 (x5 + 1) d := by simp only [st_114_6, if_pos (show x5 < d x0 0 from c0), if_pos (show (0 : Int) < x4 from c1), if_neg (show ¬ d (x0 + 1) x5 = x1 from c2)]
        rw [y0] at h
        exact h F hS_
      · have q3 := r_9_4 hS hx0 x5
        refine ⟨by omega, m_inR (by omega) (by omega), fun c3 => ?_, fun c3 => ?_⟩
        · refine ih6 x4 (x5 + 1)  d hS (by omega) (by omega) (by omega) (by omega) ?_
          intro F hS_
          have y0 : st_114_6 x0 x1 x2 x3 r6 x4 x5 d = r6 x4 (x5 + 1) d := by simp only [st_114_6, if_pos (show x5 < d x0 0 from c0), if_pos (show (0 : Int) < x4 from c1), if_pos (show d (x0 + 1) x5 = x1 from c2), if_neg (show ¬ d (x0 + 4) x5 = 0 from c3)]
          rw [y0] at h
          exact h F hS_
        · refine ⟨by omega, ?_⟩
          have hS1 : Safe (mset d (x0 + 1) x5 x2) := s_9_1 hS hx0 (by omega)
          refine ih6 (x4 + (-1)) (x5 + 1)  (mset d (x0 + 1) x5 x2) hS1 (by omega) (by omega) (by omega) (by omega) ?_
          intro F hS_
          have y0 : st_114_6 x0 x1 x2 x3 r6 x4 x5 d = r6 (x4 + (-1)) (x5 + 1) (mset d (x0 + 1) x5 x2) := by simp only [st_114_6, if_pos (show x5 < d x0 0 from c0), if_pos (show (0 : Int) < x4 from c1), if_pos (show d (x0 + 1) x5 = x1 from c2), if_pos (show d (x0 + 4) x5 = 0 from c3)]
          rw [y0] at h
          exact h (fun b hb => (F b hb).trans ((show ∀ b : Int, (b < x0 + 1 ∨ x0 + 1 < b) → (mset d (x0 + 1) x5 x2) b = d b from fun b hb => mset_ne (by omega)) b hb)) hS_
theorem l_114_6 {E : mO × tW} {K : tK} {x0 x1 x2 x3 : Int} (hx0 : toB x0) (p1 : 0 ≤ x1 ∧ x1 ≤ 15) (p2 : 0 ≤ x2 ∧ x2 ≤ 15) (p3 : 0 ≤ x3 ∧ x3 ≤ 200) : ∀ (n : Nat) (x4 x5 : Int) (d : mD), Safe d → (0 ≤ x5 ∧ x5 ≤ 200) → (0 ≤ x4 ∧ x4 ≤ 200) → 200 - x5 ≤ (n : Int) → ((∀ b : Int, (b < x0 + 1 ∨ x0 + 1 < b) → (lp_114_6 x0 x1 x2 x3 n x4 x5 d) b = d b) → Safe (lp_114_6 x0 x1 x2 x3 n x4 x5 d) → K (.inl none) (lp_114_6 x0 x1 x2 x3 n x4 x5 d)) → tRun E 114 (6, [.inr (9, x0), .inl (0, x1), .inl (0, x2), .inl (0, x3), .inl (0, x4), .inl (0, x5)], [], 0, 0, d) K := by
  intro n
  induction n with
  | zero =>
    intro x4 x5  d hS i0 i1 hm  h
    exact ls_114_6 hx0 p1 p2 p3 0 _ (fun _ _  _ _ _ _ m0 m1 _ => absurd m1 (by omega)) x4 x5  d hS i0 i1 hm  h
  | succ n ih =>
    intro x4 x5  d hS i0 i1 hm  h
    exact ls_114_6 hx0 p1 p2 p3 ((n + 1 : Nat) : Int) _ (fun x4 x5  d hS i0 i1  m0 m1 h => ih x4 x5  d hS i0 i1 (by omega)  h) x4 x5  d hS i0 i1 hm  h
def g_114 (x0 x1 x2 x3 : Int) (d : mD) : mD := lp_114_6 x0 x1 x2 x3 (200 - 0 : Int).toNat x3 0 d
theorem k_114 {E : mO × tW} {K : tK} {d : mD} {x0 x1 x2 x3 : Int} (hS : Safe d) (hx0 : toB x0) (p1 : 0 ≤ x1 ∧ x1 ≤ 15) (p2 : 0 ≤ x2 ∧ x2 ≤ 15) (p3 : 0 ≤ x3 ∧ x3 ≤ 200) (h : (∀ b : Int, (b < x0 + 1 ∨ x0 + 1 < b) → (g_114 x0 x1 x2 x3 d) b = d b) → Safe (g_114 x0 x1 x2 x3 d) → K (.inl none) (g_114 x0 x1 x2 x3 d)) : tCall E 114 [.inr (9, x0), .inl (0, x1), .inl (0, x2), .inl (0, x3)] d K := by
  refine t_114_0 ?_
  refine l_114_6 hx0 p1 p2 p3 (200 - 0 : Int).toNat x3 0  d hS (by omega) (by omega) (by omega) ?_
  intro F hS_
  have y0 : g_114 x0 x1 x2 x3 d = lp_114_6 x0 x1 x2 x3 (200 - 0 : Int).toNat x3 0 d := by simp only [g_114]
  rw [y0] at h
  exact h F hS_
def st_115_5 (x0 x1 x2 : Int) (r5 : Int → Int → mD → mD) (x3 x4 : Int) (d : mD) : mD := if x4 < d x0 0 then (if (0 : Int) < x3 then (if d x0 5 < 200 then (if d (x0 + 1) x4 = x1 then (if d (x0 + 4) x4 = 0 then r5 (x3 + (-1)) (x4 + 1) (mset (mset (mset d (x0 + 4) x4 1) (x0 + 5) (d x0 5) x4) x0 5 ((d x0 5) + 1)) else r5 x3 (x4 + 1) d) else r5 x3 (x4 + 1) d) else d) else d) else d
def lp_115_5 (x0 x1 x2 : Int) : Nat → Int → Int → mD → mD
  | 0 => st_115_5 x0 x1 x2 (fun _ _ d => d)
  | n + 1 => st_115_5 x0 x1 x2 (lp_115_5 x0 x1 x2 n)
theorem ls_115_5 {E : mO × tW} {K : tK} {x0 x1 x2 : Int} (hx0 : toB x0) (p1 : 0 ≤ x1 ∧ x1 ≤ 15) (p2 : 0 ≤ x2 ∧ x2 ≤ 200) (N5 : Int) (r5 : Int → Int → mD → mD) (ih5 : ∀ (x3 x4 : Int) (d : mD), Safe d → (0 ≤ x4 ∧ x4 ≤ 200) → (0 ≤ x3 ∧ x3 ≤ 200) → 0 ≤ 200 - x4 → 200 - x4 < N5 → ((∀ b : Int, (b < x0 ∨ x0 < b) ∧ (b < x0 + 4 ∨ x0 + 5 < b) → (r5 x3 x4 d) b = d b) → Safe (r5 x3 x4 d) → K (.inl none) (r5 x3 x4 d)) → tRun E 115 (5, [.inr (9, x0), .inl (0, x1), .inl (0, x2), .inl (0, x3), .inl (0, x4)], [], 0, 0, d) K) (x3 x4 : Int) (d : mD) (hS : Safe d) (i0 : 0 ≤ x4 ∧ x4 ≤ 200) (i1 : 0 ≤ x3 ∧ x3 ≤ 200) (hm : 200 - x4 ≤ N5) (h : (∀ b : Int, (b < x0 ∨ x0 < b) ∧ (b < x0 + 4 ∨ x0 + 5 < b) → (st_115_5 x0 x1 x2 r5 x3 x4 d) b = d b) → Safe (st_115_5 x0 x1 x2 r5 x3 x4 d) → K (.inl none) (st_115_5 x0 x1 x2 r5 x3 x4 d)) : tRun E 115 (5, [.inr (9, x0), .inl (0, x1), .inl (0, x2), .inl (0, x3), .inl (0, x4)], [], 0, 0, d) K := by
  refine t_115_5 ?_
  have q1 := r_9_f0 hS hx0
  refine ⟨⟨m_inR (by omega) (by omega), m_inR (by omega) (by omega)⟩, fun c0 => ?_, fun c0 => ?_⟩
  · have y0 : st_115_5 x0 x1 x2 r5 x3 x4 d = d := by simp only [st_115_5, if_neg (show ¬ x4 < d x0 0 from Int.not_lt.mpr c0)]
    rw [y0] at h
    exact h (show ∀ b : Int, (b < x0 ∨ x0 < b) ∧ (b < x0 + 4 ∨ x0 + 5 < b) → d b = d b from fun _ _ => rfl) hS
  · refine ⟨m_inR (by omega) (by omega), fun c1 => ?_, fun c1 => ?_⟩
    · have y0 : st_115_5 x0 x1 x2 r5 x3 x4 d = d := by simp only [st_115_5, if_pos (show x4 < d x0 0 from c0), if_neg (show ¬ (0 : Int) < x3 from Int.not_lt.mpr c1)]
      rw [y0] at h
      exact h (show ∀ b : Int, (b < x0 ∨ x0 < b) ∧ (b < x0 + 4 ∨ x0 + 5 < b) → d b = d b from fun _ _ => rfl) hS
    · have q2 := r_9_f5 hS hx0
      refine ⟨⟨m_inR (by omega) (by omega), m_inR (by omega) (by omega)⟩, fun c2 => ?_, fun c2 => ?_⟩
      · have y0 : st_115_5 x0 x1 x2 r5 x3 x4 d = d := by simp only [st_115_5, if_pos (show x4 < d x0 0 from c0), if_pos (show (0 : Int) < x3 from c1), if_neg (show ¬ d x0 5 < 200 from Int.not_lt.mpr c2)]
        rw [y0] at h
        exact h (show ∀ b : Int, (b < x0 ∨ x0 < b) ∧ (b < x0 + 4 ∨ x0 + 5 < b) → d b = d b from fun _ _ => rfl) hS
      · have q3 := r_9_1 hS hx0 x4
        refine ⟨by omega, ⟨m_inR (by omega) (by omega), m_inR (by omega) (by omega)⟩, fun c3 => ?_, fun c3 => ?_⟩
        · refine ih5 x3 (x4 + 1)  d hS (by omega) (by omega) (by omega) (by omega) ?_
          intro F hS_
          have y0 : st_115_5 x0 x1 x2 r5 x3 x4 d = r5 x3 (x4 + 1) d := by simp only [st_115_5, if_pos (show x4 < d x0 0 from c0), if_pos (show (0 : Int) < x3 from c1), if_pos (show d x0 5 < 200 from c2), if_neg (show ¬ d (x0 + 1) x4 = x1 from c3)]
          rw [y0] at h
          exact h F hS_
        · have q4 := r_9_4 hS hx0 x4
          refine ⟨by omega, m_inR (by omega) (by omega), fun c4 => ?_, fun c4 => ?_⟩
          · refine ih5 x3 (x4 + 1)  d hS (by omega) (by omega) (by omega) (by omega) ?_
            intro F hS_
            have y0 : st_115_5 x0 x1 x2 r5 x3 x4 d = r5 x3 (x4 + 1) d := by simp only [st_115_5, if_pos (show x4 < d x0 0 from c0), if_pos (show (0 : Int) < x3 from c1), if_pos (show d x0 5 < 200 from c2), if_pos (show d (x0 + 1) x4 = x1 from c3), if_neg (show ¬ d (x0 + 4) x4 = 0 from c4)]
            rw [y0] at h
            exact h F hS_
          · refine ⟨by omega, ?_⟩
            have hS1 : Safe (mset d (x0 + 4) x4 1) := s_9_4 hS hx0 (by omega)
            rw [mset_ne (d := d) (a := x0 + 4) (i := x4) (v := (1 : Int)) (b := x0) (by omega)]
            refine ⟨by omega, ?_⟩
            have hS2 : Safe (mset (mset d (x0 + 4) x4 1) (x0 + 5) (d x0 5) x4) := s_9_5 hS1 hx0 (by omega)
            rw [mset_ne (d := mset d (x0 + 4) x4 1) (a := x0 + 5) (i := d x0 5) (v := x4) (b := x0) (by omega)]
            rw [mset_ne (d := d) (a := x0 + 4) (i := x4) (v := (1 : Int)) (b := x0) (by omega)]
            have hS3 : Safe (mset (mset (mset d (x0 + 4) x4 1) (x0 + 5) (d x0 5) x4) x0 5 ((d x0 5) + 1)) := s_9_f5 hS2 hx0 (by omega)
            refine ih5 (x3 + (-1)) (x4 + 1)  (mset (mset (mset d (x0 + 4) x4 1) (x0 + 5) (d x0 5) x4) x0 5 ((d x0 5) + 1)) hS3 (by omega) (by omega) (by omega) (by omega) ?_
            intro F hS_
            have y0 : st_115_5 x0 x1 x2 r5 x3 x4 d = r5 (x3 + (-1)) (x4 + 1) (mset (mset (mset d (x0 + 4) x4 1) (x0 + 5) (d x0 5) x4) x0 5 ((d x0 5) + 1)) := by simp only [st_115_5, if_pos (show x4 < d x0 0 from c0), if_pos (show (0 : Int) < x3 from c1), if_pos (show d x0 5 < 200 from c2), if_pos (show d (x0 + 1) x4 = x1 from c3), if_pos (show d (x0 + 4) x4 = 0 from c4)]
            rw [y0] at h
            exact h (fun b hb => (F b hb).trans ((show ∀ b : Int, (b < x0 ∨ x0 < b) ∧ (b < x0 + 4 ∨ x0 + 5 < b) → (mset (mset (mset d (x0 + 4) x4 1) (x0 + 5) (d x0 5) x4) x0 5 ((d x0 5) + 1)) b = d b from fun b hb => (mset_ne (by omega)).trans ((mset_ne (by omega)).trans (mset_ne (by omega)))) b hb)) hS_
theorem l_115_5 {E : mO × tW} {K : tK} {x0 x1 x2 : Int} (hx0 : toB x0) (p1 : 0 ≤ x1 ∧ x1 ≤ 15) (p2 : 0 ≤ x2 ∧ x2 ≤ 200) : ∀ (n : Nat) (x3 x4 : Int) (d : mD), Safe d → (0 ≤ x4 ∧ x4 ≤ 200) → (0 ≤ x3 ∧ x3 ≤ 200) → 200 - x4 ≤ (n : Int) → ((∀ b : Int, (b < x0 ∨ x0 < b) ∧ (b < x0 + 4 ∨ x0 + 5 < b) → (lp_115_5 x0 x1 x2 n x3 x4 d) b = d b) → Safe (lp_115_5 x0 x1 x2 n x3 x4 d) → K (.inl none) (lp_115_5 x0 x1 x2 n x3 x4 d)) → tRun E 115 (5, [.inr (9, x0), .inl (0, x1), .inl (0, x2), .inl (0, x3), .inl (0, x4)], [], 0, 0, d) K := by
  intro n
  induction n with
  | zero =>
    intro x3 x4  d hS i0 i1 hm  h
    exact ls_115_5 hx0 p1 p2 0 _ (fun _ _  _ _ _ _ m0 m1 _ => absurd m1 (by omega)) x3 x4  d hS i0 i1 hm  h
  | succ n ih =>
    intro x3 x4  d hS i0 i1 hm  h
    exact ls_115_5 hx0 p1 p2 ((n + 1 : Nat) : Int) _ (fun x3 x4  d hS i0 i1  m0 m1 h => ih x3 x4  d hS i0 i1 (by omega)  h) x3 x4  d hS i0 i1 hm  h
def g_115 (x0 x1 x2 : Int) (d : mD) : mD := lp_115_5 x0 x1 x2 (200 - 0 : Int).toNat x2 0 d
theorem k_115 {E : mO × tW} {K : tK} {d : mD} {x0 x1 x2 : Int} (hS : Safe d) (hx0 : toB x0) (p1 : 0 ≤ x1 ∧ x1 ≤ 15) (p2 : 0 ≤ x2 ∧ x2 ≤ 200) (h : (∀ b : Int, (b < x0 ∨ x0 < b) ∧ (b < x0 + 4 ∨ x0 + 5 < b) → (g_115 x0 x1 x2 d) b = d b) → Safe (g_115 x0 x1 x2 d) → K (.inl none) (g_115 x0 x1 x2 d)) : tCall E 115 [.inr (9, x0), .inl (0, x1), .inl (0, x2)] d K := by
  refine t_115_0 ?_
  refine l_115_5 hx0 p1 p2 (200 - 0 : Int).toNat x2 0  d hS (by omega) (by omega) (by omega) ?_
  intro F hS_
  have y0 : g_115 x0 x1 x2 d = lp_115_5 x0 x1 x2 (200 - 0 : Int).toNat x2 0 d := by simp only [g_115]
  rw [y0] at h
  exact h F hS_
def st_116_2 (x0 x1 : Int) (r2 : Int → mD → mD) (x2 : Int) (d : mD) : mD := if x2 < d x0 5 then r2 (x2 + 1) (mset d (x0 + 5) (x2 - x1) (d (x0 + 5) x2)) else mset d x0 5 ((d x0 5) - x1)
def lp_116_2 (x0 x1 : Int) : Nat → Int → mD → mD
  | 0 => st_116_2 x0 x1 (fun _ d => d)
  | n + 1 => st_116_2 x0 x1 (lp_116_2 x0 x1 n)
theorem ls_116_2 {E : mO × tW} {K : tK} {x0 x1 : Int} (hx0 : toB x0) (p1 : 0 ≤ x1 ∧ x1 ≤ 200) (N2 : Int) (r2 : Int → mD → mD) (ih2 : ∀ (x2 : Int) (d : mD), Safe d → (x1 ≤ x2 ∧ x2 ≤ 200) → (x1 ≤ d x0 5) → 0 ≤ 200 - x2 → 200 - x2 < N2 → ((∀ b : Int, (b < x0 ∨ x0 < b) ∧ (b < x0 + 5 ∨ x0 + 5 < b) → (r2 x2 d) b = d b) → Safe (r2 x2 d) → K (.inl none) (r2 x2 d)) → tRun E 116 (2, [.inr (9, x0), .inl (0, x1), .inl (0, x2)], [], 0, 0, d) K) (x2 : Int) (d : mD) (hS : Safe d) (i0 : x1 ≤ x2 ∧ x2 ≤ 200) (i1 : x1 ≤ d x0 5) (hm : 200 - x2 ≤ N2) (h : (∀ b : Int, (b < x0 ∨ x0 < b) ∧ (b < x0 + 5 ∨ x0 + 5 < b) → (st_116_2 x0 x1 r2 x2 d) b = d b) → Safe (st_116_2 x0 x1 r2 x2 d) → K (.inl none) (st_116_2 x0 x1 r2 x2 d)) : tRun E 116 (2, [.inr (9, x0), .inl (0, x1), .inl (0, x2)], [], 0, 0, d) K := by
  refine t_116_2 ?_
  have q1 := r_9_f5 hS hx0
  refine ⟨⟨m_inR (by omega) (by omega), m_inR (by omega) (by omega)⟩, fun c0 => ?_, fun c0 => ?_⟩
  · have hS1 : Safe (mset d x0 5 ((d x0 5) - x1)) := s_9_f5 hS hx0 (by omega)
    have y0 : st_116_2 x0 x1 r2 x2 d = mset d x0 5 ((d x0 5) - x1) := by simp only [st_116_2, if_neg (show ¬ x2 < d x0 5 from Int.not_lt.mpr c0)]
    rw [y0] at h
    exact h (show ∀ b : Int, (b < x0 ∨ x0 < b) ∧ (b < x0 + 5 ∨ x0 + 5 < b) → (mset d x0 5 ((d x0 5) - x1)) b = d b from fun b hb => mset_ne (by omega)) hS1
  · have q2 := r_9_5 hS hx0 x2
    refine ⟨by omega, by omega, ?_⟩
    have hS2 : Safe (mset d (x0 + 5) (x2 - x1) (d (x0 + 5) x2)) := s_9_5 hS hx0 (by omega)
    have q3 : (mset d (x0 + 5) (x2 - x1) (d (x0 + 5) x2)) x0 5 = d x0 5 := congrFun (mset_ne (by omega)) 5
    refine ih2 (x2 + 1)  (mset d (x0 + 5) (x2 - x1) (d (x0 + 5) x2)) hS2 (by omega) (by omega) (by omega) (by omega) ?_
    intro F hS_
    have y0 : st_116_2 x0 x1 r2 x2 d = r2 (x2 + 1) (mset d (x0 + 5) (x2 - x1) (d (x0 + 5) x2)) := by simp only [st_116_2, if_pos (show x2 < d x0 5 from c0)]
    rw [y0] at h
    exact h (fun b hb => (F b hb).trans ((show ∀ b : Int, (b < x0 ∨ x0 < b) ∧ (b < x0 + 5 ∨ x0 + 5 < b) → (mset d (x0 + 5) (x2 - x1) (d (x0 + 5) x2)) b = d b from fun b hb => mset_ne (by omega)) b hb)) hS_
theorem l_116_2 {E : mO × tW} {K : tK} {x0 x1 : Int} (hx0 : toB x0) (p1 : 0 ≤ x1 ∧ x1 ≤ 200) : ∀ (n : Nat) (x2 : Int) (d : mD), Safe d → (x1 ≤ x2 ∧ x2 ≤ 200) → (x1 ≤ d x0 5) → 200 - x2 ≤ (n : Int) → ((∀ b : Int, (b < x0 ∨ x0 < b) ∧ (b < x0 + 5 ∨ x0 + 5 < b) → (lp_116_2 x0 x1 n x2 d) b = d b) → Safe (lp_116_2 x0 x1 n x2 d) → K (.inl none) (lp_116_2 x0 x1 n x2 d)) → tRun E 116 (2, [.inr (9, x0), .inl (0, x1), .inl (0, x2)], [], 0, 0, d) K := by
  intro n
  induction n with
  | zero =>
    intro x2  d hS i0 i1 hm  h
    exact ls_116_2 hx0 p1 0 _ (fun _  _ _ _ _ m0 m1 _ => absurd m1 (by omega)) x2  d hS i0 i1 hm  h
  | succ n ih =>
    intro x2  d hS i0 i1 hm  h
    exact ls_116_2 hx0 p1 ((n + 1 : Nat) : Int) _ (fun x2  d hS i0 i1  m0 m1 h => ih x2  d hS i0 i1 (by omega)  h) x2  d hS i0 i1 hm  h
def g_116 (x0 x1 : Int) (d : mD) : mD := lp_116_2 x0 x1 (200 - x1 : Int).toNat x1 d
theorem k_116 {E : mO × tW} {K : tK} {d : mD} {x0 x1 : Int} (hS : Safe d) (hx0 : toB x0) (p1 : 0 ≤ x1 ∧ x1 ≤ 200) (hd : x1 ≤ d x0 5) (h : (∀ b : Int, (b < x0 ∨ x0 < b) ∧ (b < x0 + 5 ∨ x0 + 5 < b) → (g_116 x0 x1 d) b = d b) → Safe (g_116 x0 x1 d) → K (.inl none) (g_116 x0 x1 d)) : tCall E 116 [.inr (9, x0), .inl (0, x1)] d K := by
  refine t_116_0 ?_
  refine l_116_2 hx0 p1 (200 - x1 : Int).toNat x1  d hS (by omega) (by omega) (by omega) ?_
  intro F hS_
  have y0 : g_116 x0 x1 d = lp_116_2 x0 x1 (200 - x1 : Int).toNat x1 d := by simp only [g_116]
  rw [y0] at h
  exact h F hS_
