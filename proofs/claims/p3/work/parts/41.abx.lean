/-! ===== lists written at once, in the order in which the kernel is to see them ===== -/
noncomputable def lupdK {α β : Type} (z : α) (f : α → α) (l : List α) : Nat → (List α → β) → β := List.rec (motive := fun _ => Nat → (List α → β) → β)
  (fun i => Nat.rec (motive := fun _ => (List α → β) → β) (fun k => k [f z]) (fun _ ih k => ih (fun l => k (z :: l))) i)
  (fun a l ih i k => Nat.rec (motive := fun _ => β) (k (f a :: l)) (fun j _ => ih j (fun l => k (a :: l))) i) l
theorem lupdK_eq {α β : Type} (z : α) (f : α → α) : ∀ (l : List α) (i : Nat) (k : List α → β), lupdK z f l i k = k (lupd z f l i)
  | [], 0, k => rfl
  | [], i + 1, k => lupdK_eq z f [] i (fun l => k (z :: l))
  | a :: l, 0, k => rfl
  | a :: l, i + 1, k => lupdK_eq z f l i (fun l => k (a :: l))
-- a cell's place; the cell
noncomputable def asetK {β : Type} (c : aC) (i : Nat) (v : aN) (k : aC → β) : β := lupdK c.2.2.1 (fun _ => v) (lget [] c.2.2.2 (i / 32)) (i % 32) (fun r => lupdK [] (fun _ => r) c.2.2.2 (i / 32) (fun rs => k (c.1, c.2.1, c.2.2.1, rs)))
noncomputable def aputK {β : Type} (M : aM) (a : Nat) (c : aC) (k : aM → β) : β := lupdK aC0 (fun _ => c) (lget [] M (a / 32)) (a % 32) (fun r => lupdK [] (fun _ => r) M (a / 32) k)
theorem lupd_fix {α : Type} (z : α) (f : α → α) : ∀ (l : List α) (i : Nat), lupd z (fun _ => f (lget z l i)) l i = lupd z f l i
  | [], 0 => rfl
  | [], i + 1 => by
    simp only [lupd, lget_nil, lget_0, lget_s]
    rw [← lupd_fix z f [] i]
    rfl
  | a :: l, 0 => rfl
  | a :: l, i + 1 => by
    simp only [lupd, lget_nil, lget_0, lget_s]
    rw [lupd_fix z f l i]
theorem asetK_eq {β : Type} (c : aC) (i : Nat) (v : aN) (k : aC → β) : asetK c i v k = k (aset c i v) := by
  unfold asetK aset
  rw [lupdK_eq, lupdK_eq, ← lupd_fix [] (fun r => lupd c.2.2.1 (fun _ => v) r (i % 32))]
theorem aputK_eq {β : Type} (M : aM) (a : Nat) (c : aC) (k : aM → β) : aputK M a c k = k (aput M a c) := by
  unfold aputK aput
  rw [lupdK_eq, lupdK_eq, ← lupd_fix [] (fun r => lupd aC0 (fun _ => c) r (a % 32))]
noncomputable def au : aV := (7, 0, 0)
noncomputable def agt (l : List aV) : Nat → aV := List.rec (motive := fun _ => Nat → aV) (fun _ => au) (fun a _ ih i => Nat.rec (motive := fun _ => aV) a (fun j _ => ih j) i) l
noncomputable def ac2 (v : aV) : Bool := Nat.beq v.1 1 || Nat.beq v.1 2
noncomputable def al1 : List aV → Nat → aV → List aV
  | [], _, _ => []
  | _ :: l, 0, v => v :: l
  | w :: l, 1, v => (bif ac2 w then au else w) :: al1 l 0 v
  | w :: l, i + 2, v => w :: al1 l (i + 1) v
noncomputable def ahead : List aV → List aV
  | [] => []
  | _ :: l => au :: l
noncomputable def al2 : List aV → Nat → aV → List aV
  | [], _, _ => []
  | _ :: l, 0, v => v :: ahead l
  | w :: l, 1, v => (bif ac2 w then au else w) :: al2 l 0 v
  | w :: l, i + 2, v => w :: al2 l (i + 1) v
noncomputable def al1K {β : Type} (l : List aV) (i : Nat) (v : aV) (k : List aV → β) : β := List.rec (motive := fun _ => Nat → (List aV → β) → β) (fun _ k => k [])
  (fun w l ih i k => Nat.rec (motive := fun _ => β) (k (v :: l)) (fun j _ => Nat.rec (motive := fun _ => β) (ih 0 (fun l => bif ac2 w then k (au :: l) else k (w :: l))) (fun j _ => ih (Nat.succ j) (fun l => k (w :: l))) j) i) l i k
noncomputable def al2K {β : Type} (l : List aV) (i : Nat) (v : aV) (k : List aV → β) : β := List.rec (motive := fun _ => Nat → (List aV → β) → β) (fun _ k => k [])
  (fun w l ih i k => Nat.rec (motive := fun _ => β) (k (v :: ahead l)) (fun j _ => Nat.rec (motive := fun _ => β) (ih 0 (fun l => bif ac2 w then k (au :: l) else k (w :: l))) (fun j _ => ih (Nat.succ j) (fun l => k (w :: l))) j) i) l i k
theorem al1K_eq {β : Type} : ∀ (l : List aV) (i : Nat) (v : aV) (k : List aV → β), al1K l i v k = k (al1 l i v)
  | [], _, _, _ => rfl
  | _ :: l, 0, v, k => rfl
  | w :: l, 1, v, k => by
    show al1K l 0 v (fun l => bif ac2 w then k (au :: l) else k (w :: l)) = _
    rw [al1K_eq l 0 v]
    simp only [al1]
    cases ac2 w <;> rfl
  | w :: l, i + 2, v, k => by
    show al1K l (i + 1) v (fun l => k (w :: l)) = _
    rw [al1K_eq l (i + 1) v]
    simp only [al1]
theorem al2K_eq {β : Type} : ∀ (l : List aV) (i : Nat) (v : aV) (k : List aV → β), al2K l i v k = k (al2 l i v)
  | [], _, _, _ => rfl
  | _ :: l, 0, v, k => rfl
  | w :: l, 1, v, k => by
    show al2K l 0 v (fun l => bif ac2 w then k (au :: l) else k (w :: l)) = _
    rw [al2K_eq l 0 v]
    simp only [al2]
    cases ac2 w <;> rfl
  | w :: l, i + 2, v, k => by
    show al2K l (i + 1) v (fun l => k (w :: l)) = _
    rw [al2K_eq l (i + 1) v]
    simp only [al2]
theorem gV_c2 {ρ : Nat → Int} {v : aV} {w : mV} (h : gV ρ v w) : ac2 v = mc2 w := by
  unfold ac2 mc2
  rw [h.1]
theorem gV_u {ρ : Nat → Int} : gV ρ au mu := ⟨rfl, rfl⟩
theorem gL_get {ρ : Nat → Int} : ∀ {L : List aV} {L' : List mV}, gL ρ L L' → ∀ i, gV ρ (agt L i) (mget L' i)
  | [], [], _, _ => gV_u
  | v :: _, w :: _, h, 0 => h.1
  | _ :: l, _ :: l', h, i + 1 => gL_get (L := l) (L' := l') h.2 i
  | [], _ :: _, h, _ => h.elim
  | _ :: _, [], h, _ => h.elim
theorem gL_put1 {ρ : Nat → Int} {v : aV} {w : mV} (hv : gV ρ v w) : ∀ {L : List aV} {L' : List mV}, gL ρ L L' → ∀ i, gL ρ (al1 L i v) (mput1 L' i w)
  | [], [], _, _ => by simp [al1, mput1, gL]
  | a :: l, b :: l', h, 0 => ⟨hv, h.2⟩
  | a :: l, b :: l', h, 1 => by
    refine ⟨?_, gL_put1 hv h.2 0⟩
    rw [gV_c2 h.1]
    cases mc2 b
    · exact h.1
    · exact gV_u
  | a :: l, b :: l', h, i + 2 => ⟨h.1, gL_put1 hv h.2 (i + 1)⟩
  | [], _ :: _, h, _ => h.elim
  | _ :: _, [], h, _ => h.elim
theorem gL_head {ρ : Nat → Int} : ∀ {L : List aV} {L' : List mV}, gL ρ L L' → gL ρ (ahead L) (mhead L')
  | [], [], _ => trivial
  | _ :: _, _ :: _, h => ⟨gV_u, h.2⟩
  | [], _ :: _, h => h.elim
  | _ :: _, [], h => h.elim
theorem gL_put2 {ρ : Nat → Int} {v : aV} {w : mV} (hv : gV ρ v w) : ∀ {L : List aV} {L' : List mV}, gL ρ L L' → ∀ i, gL ρ (al2 L i v) (mput2 L' i w)
  | [], [], _, _ => by simp [al2, mput2, gL]
  | a :: l, b :: l', h, 0 => ⟨hv, gL_head h.2⟩
  | a :: l, b :: l', h, 1 => by
    refine ⟨?_, gL_put2 hv h.2 0⟩
    rw [gV_c2 h.1]
    cases mc2 b
    · exact h.1
    · exact gV_u
  | a :: l, b :: l', h, i + 2 => ⟨h.1, gL_put2 hv h.2 (i + 1)⟩
  | [], _ :: _, h, _ => h.elim
  | _ :: _, [], h, _ => h.elim
-- numbers
noncomputable def aadd (x y : aN) : aN := match x, y with
  | (0, a), (0, b) => (0, a + b)
  | (k + 2, a), (0, b) => (k + 2, a + b)
  | (0, a), (k + 2, b) => (k + 2, a + b)
  | _, _ => (1, 0)
noncomputable def asub (x y : aN) : aN := match x, y with
  | (0, a), (0, b) => (0, a - b)
  | (k + 2, a), (0, b) => (k + 2, a - b)
  | _, _ => (1, 0)
noncomputable def abin (f : Int → Int → Int) (x y : aN) : aN := match x, y with
  | (0, a), (0, b) => (0, f a b)
  | _, _ => (1, 0)
noncomputable def aun (f : Int → Int) (x : aN) : aN := match x with
  | (0, a) => (0, f a)
  | _ => (1, 0)
theorem aadd_ok {ρ : Nat → Int} {x y : aN} {a b : Int} (hx : gN ρ x a) (hy : gN ρ y b) : gN ρ (aadd x y) (a + b) := by
  obtain ⟨t, c⟩ := x
  obtain ⟨u, e⟩ := y
  match t, u, hx, hy with
  | 0, 0, hx, hy =>
    have hx : a = c := hx
    have hy : b = e := hy
    show a + b = c + e
    omega
  | 0, 1, _, _ => trivial
  | 0, k + 2, hx, hy =>
    have hx : a = c := hx
    have hy : b = ρ k + e := hy
    show a + b = ρ k + (c + e)
    omega
  | 1, 0, _, _ => trivial
  | 1, 1, _, _ => trivial
  | 1, k + 2, _, _ => trivial
  | k + 2, 0, hx, hy =>
    have hx : a = ρ k + c := hx
    have hy : b = e := hy
    show a + b = ρ k + (c + e)
    omega
  | k + 2, 1, _, _ => trivial
  | k + 2, k' + 2, _, _ => trivial
theorem asub_ok {ρ : Nat → Int} {x y : aN} {a b : Int} (hx : gN ρ x a) (hy : gN ρ y b) : gN ρ (asub x y) (a - b) := by
  obtain ⟨t, c⟩ := x
  obtain ⟨u, e⟩ := y
  match t, u, hx, hy with
  | 0, 0, hx, hy =>
    have hx : a = c := hx
    have hy : b = e := hy
    show a - b = c - e
    omega
  | 0, 1, _, _ => trivial
  | 0, k + 2, _, _ => trivial
  | 1, 0, _, _ => trivial
  | 1, 1, _, _ => trivial
  | 1, k + 2, _, _ => trivial
  | k + 2, 0, hx, hy =>
    have hx : a = ρ k + c := hx
    have hy : b = e := hy
    show a - b = ρ k + (c - e)
    omega
  | k + 2, 1, _, _ => trivial
  | k + 2, k' + 2, _, _ => trivial
theorem abin_ok {ρ : Nat → Int} {f : Int → Int → Int} {x y : aN} {a b : Int} (hx : gN ρ x a) (hy : gN ρ y b) : gN ρ (abin f x y) (f a b) := by
  unfold abin
  split
  · have hx : a = _ := hx
    have hy : b = _ := hy
    rw [hx, hy]
    rfl
  · trivial
theorem aun_ok {ρ : Nat → Int} {f : Int → Int} {x : aN} {a : Int} (hx : gN ρ x a) : gN ρ (aun f x) (f a) := by
  unfold aun
  split
  · have hx : a = _ := hx
    rw [hx]
    rfl
  · trivial
-- an int cut to a byte; 0 shifted; a place shifted by 6
noncomputable def ai2b (x : aN) : aN := match x with
  | (0, a) => (0, mi2b a)
  | _ => (1, .negSucc 0)
theorem mi2b_rng (x : Int) : -128 ≤ mi2b x ∧ mi2b x ≤ 127 := by
  unfold mi2b
  rw [Int8.toInt_toInt32]
  have h1 := Int8.le_toInt (Int32.ofInt x).toInt8
  have h2 := Int8.toInt_lt (Int32.ofInt x).toInt8
  exact ⟨by omega, by omega⟩
theorem ai2b_ok {ρ : Nat → Int} {x : aN} {a : Int} (hx : gN ρ x a) : gN ρ (ai2b x) (mi2b a) := by
  unfold ai2b
  split
  · have hx : a = _ := hx
    rw [hx]
    rfl
  · exact mi2b_rng a
noncomputable def ausr (x y : aN) : aN := bif Nat.beq x.1 0 && zeq x.2 0 then (0, 0) else abin mlushr x y
theorem mlushr_0 (y : Int) : mlushr 0 y = 0 := by
  unfold mlushr
  have e : (Int64.ofInt 0).toUInt64 = 0 := by decide
  rw [e, UInt64.zero_shiftRight]
  decide
theorem ausr_ok {ρ : Nat → Int} {x y : aN} {a b : Int} (hx : gN ρ x a) (hy : gN ρ y b) : gN ρ (ausr x y) (mlushr a b) := by
  unfold ausr
  cases hc : (Nat.beq x.1 0 && zeq x.2 0) with
  | false => exact abin_ok hx hy
  | true =>
    obtain ⟨t, c⟩ := x
    rw [Bool.and_eq_true] at hc
    have h1 : t = 0 := Nat.eq_of_beq_eq_true hc.1
    have h2 : c = 0 := of_decide_eq_true hc.2
    subst h1
    subst h2
    have hx : a = 0 := hx
    rw [hx, mlushr_0]
    rfl
theorem mishr_6 {x : Int} (h0 : 0 ≤ x) (h1 : x ≤ 100000) : mishr x 6 = x / 64 := by
  unfold mishr mI
  have e : (Int32.ofInt 6 &&& 31) = 6 := by decide
  show ((Int32.ofInt x) >>> (Int32.ofInt 6 &&& 31)).toInt = x / 64
  rw [e]
  show (BitVec.sshiftRight' (Int32.ofInt x).toBitVec ((6 : Int32).toBitVec.smod 32)).toInt = x / 64
  rw [BitVec.toInt_sshiftRight']
  have e2 : ((6 : Int32).toBitVec.smod 32).toNat = 6 := by decide
  rw [e2]
  have e3 : (Int32.ofInt x).toBitVec.toInt = x := Int32.toInt_ofInt_of_le (by omega) (by omega)
  rw [e3, Int.shiftRight_eq_div_pow]
  rfl
-- the first number's last bits are known
noncomputable def aand (I : aI) (x y : aN) : aN := bif Nat.beq x.1 2 && zeq x.2 0 && Nat.beq y.1 0 && zeq y.2 63 then (8, 0) else abin miand x y
theorem aand_ok {ρ : Nat → Int} {I : aI} {O : mO} (hI : gI ρ I O) {x y : aN} {a b : Int} (hx : gN ρ x a) (hy : gN ρ y b) : gN ρ (aand I x y) (miand a b) := by
  unfold aand
  cases hc : (Nat.beq x.1 2 && zeq x.2 0 && Nat.beq y.1 0 && zeq y.2 63) with
  | false => exact abin_ok hx hy
  | true =>
    simp only [Bool.and_eq_true] at hc
    obtain ⟨⟨⟨h1, h2⟩, h3⟩, h4⟩ := hc
    obtain ⟨t, c⟩ := x
    obtain ⟨u, e⟩ := y
    have g1 : t = 2 := Nat.eq_of_beq_eq_true h1
    have g2 : c = 0 := of_decide_eq_true h2
    have g3 : u = 0 := Nat.eq_of_beq_eq_true h3
    have g4 : e = 63 := of_decide_eq_true h4
    subst g1
    subst g2
    subst g3
    subst g4
    have hx : a = ρ 0 + 0 := hx
    have hy : b = 63 := hy
    rw [hx, hy, Int.add_zero]
    show miand (ρ 0) 63 = ρ 6 + 0
    rw [Int.add_zero]
    exact hI.2.1
-- the script's numbers
noncomputable def ascr (I : aI) (i : Nat) : aN := bif Nat.blt i I.2.length && zeq (lget (0, 0) I.2 i).1 (lget (0, 0) I.2 i).2 then (0, (lget (0, 0) I.2 i).1) else (i + 2, 0)
theorem ascr_ok {ρ : Nat → Int} {I : aI} {O : mO} (hI : gI ρ I O) (i : Nat) (hi : i < I.1) : gN ρ (ascr I i) (O.2 2 (i : Int)) := by
  rw [hI.2.2.1 i hi]
  unfold ascr
  cases hc : (Nat.blt i I.2.length && zeq (lget (0, 0) I.2 i).1 (lget (0, 0) I.2 i).2) with
  | false => show ρ i = ρ i + 0; omega
  | true =>
    simp only [Bool.and_eq_true, Nat.blt_eq] at hc
    have h1 := hI.2.2.2.1 i hc.1
    have h2 : (lget (0, 0) I.2 i).1 = (lget (0, 0) I.2 i).2 := of_decide_eq_true hc.2
    show ρ i = (lget (0, 0) I.2 i).1
    omega
-- a symbol whose bounds differ is split at its lower bound
noncomputable def asp1 (I : aI) (x : aN) (k : aNx → Bool) : Bool := match x with
  | (q + 2, _) => bif zlt (lget (0, 0) I.2 q).1 (lget (0, 0) I.2 q).2 then k (.inr (.inr (.inr (q, (lget (0, 0) I.2 q).1)))) else false
  | _ => false
theorem asp1_ok {I : aI} {x : aN} {k : aNx → Bool} (h : asp1 I x k = true) : ∃ q, k (.inr (.inr (.inr q))) = true := by
  unfold asp1 at h
  split at h
  · rename_i q c
    cases hc : zlt (lget (0, 0) I.2 q).1 (lget (0, 0) I.2 q).2 with
    | false => rw [hc] at h; cases h
    | true => rw [hc] at h; exact ⟨_, h⟩
  · cases h
