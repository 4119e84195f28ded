/-! ===== what the small machine's things are in the machine ===== -/
-- where our cells begin, where the old rows lie, where the texts lie
abbrev mE : Type := Nat × (Nat → Nat) × (Nat → Nat)
def mslot (B t : Nat) (x : Int) : Value := match t with
  | 0 => .int (Int32.ofInt x)
  | 1 => .int (Int32.ofInt x)
  | 2 => .int (Int32.ofInt x)
  | 3 => .long (Int64.ofInt x)
  | _ => if x < 0 then .null else .ref (B + x.toNat)
def mval (E : mE) (v : mV) : Value := match v with
  | (0, x) => .int (Int32.ofInt x)
  | (1, x) => .long (Int64.ofInt x)
  | (2, x) => .double (mbit x)
  | (3, x) => if x < 0 then .null else .ref (E.1 + x.toNat)
  | (4, x) => .ref (E.2.1 x.toNat)
  | (5, x) => .ref (E.2.2 x.toNat)
  | _ => .null
def mety (k : Int) : Nat := if k = 101 then 3 else if 200 ≤ k then 4 else 0
def metyF (k : Int) : FieldType := if k = 100 then .int else if k = 101 then .long else if k = 102 then .byte else if k = 103 then .boolean else if k = 201 then .object "WaitingBureau$HourSet" else .object "WaitingBureau$State"
def mkinds : List Int := [100, 101, 102, 103, 201, 206]
def mtys (tc : Int → ClassId) : List (ClassId × FieldType) := mkinds.map (fun k => (tc k, metyF k))
abbrev mAr (E : mE) : Nat → Prop := fun q => E.1 ≤ q
abbrev mfun (E : mE) (c : Nat) (f : Int → Int) : Nat → Value := fun j => mslot E.1 (mfty (32 * c + j)) (f (j : Int))
abbrev mrow (E : mE) (k : Int) (f : Int → Int) : Nat → Value := fun j => mslot E.1 (mety k) (f (j : Int))
def mcellO (E : mE) (D : va_G) (a k : Int) (f : Int → Int) (H : Heap) : Prop := k < 12 ∧ t_OB (E.1 + a.toNat) (D.1 k.toNat) (mnf k.toNat) (D.2 k.toNat) H (mfun E k.toNat f)
def mcellA (E : mE) (tc : Int → ClassId) (a k n : Int) (f : Int → Int) (H : Heap) : Prop := k ∈ mkinds ∧ 0 ≤ n ∧ n ≤ 100000 ∧ H[E.1 + a.toNat]? = some (arrV (tc k) n.toNat (mrow E k f))
def mRep (E : mE) (D : va_G) (tc : Int → ClassId) (G : mG) (d : mD) (H : Heap) : Prop :=
  E.1 ≤ H.size ∧ (0 ≤ G.2.2 → H.size = E.1 + G.2.2.toNat) ∧ ∀ a, 0 ≤ G.1 a → 0 ≤ a ∧ (G.1 a < 100 → mcellO E D a (G.1 a) (d a) H) ∧ (100 ≤ G.1 a → mcellA E tc a (G.1 a) (G.2.1 a) (d a) H)
def mLoc (E : mE) (ls : Array Slot) (nL : Nat) (L : List mV) : Prop := ls.size = nL ∧ lv_wf ls ∧ L.length = nL ∧ ∀ i : Nat, (mget L i).1 < 6 → ls[i]? = some (.val (mval E (mget L i)))
abbrev mst (E : mE) (S : List mV) : List Value := S.map (mval E)
theorem mval_tag (E : mE) (t : Nat) (x : Int) : mval E (mtag t, x) = mslot E.1 t x := by
  match t with
  | 0 => rfl
  | 1 => rfl
  | 2 => rfl
  | 3 => rfl
  | _ + 4 => rfl
-- numbers
theorem m_toInt {x : Int} (h : mInR x) : (Int32.ofInt x).toInt = x := by
  unfold mInR at h
  rw [Int32.toInt_ofInt]
  have e : ((Int32.size : Nat) : Int) = 4294967296 := rfl
  exact Int.bmod_eq_of_le (by rw [e]; omega) (by rw [e]; omega)
theorem m_toIntL {x : Int} (h : mInL x) : (Int64.ofInt x).toInt = x := by
  unfold mInL at h
  rw [Int64.toInt_ofInt]
  have e : ((Int64.size : Nat) : Int) = 18446744073709551616 := rfl
  exact Int.bmod_eq_of_le (by rw [e]; omega) (by rw [e]; omega)
theorem m_lt {x y : Int} (hx : mInR x) (hy : mInR y) : Int32.ofInt x < Int32.ofInt y ↔ x < y := by
  rw [Int32.lt_iff_toInt_lt, m_toInt hx, m_toInt hy]
theorem m_le {x y : Int} (hx : mInR x) (hy : mInR y) : Int32.ofInt x ≤ Int32.ofInt y ↔ x ≤ y := by
  rw [Int32.le_iff_toInt_le, m_toInt hx, m_toInt hy]
theorem m_eq {x y : Int} (hx : mInR x) (hy : mInR y) : Int32.ofInt x = Int32.ofInt y ↔ x = y := by
  rw [← Int32.toInt_inj, m_toInt hx, m_toInt hy]
theorem m_nat {i : Int} (h0 : 0 ≤ i) (h1 : i ≤ 2147483647) : (Int32.ofInt i).toNatClampNeg = i.toNat := by
  show (Int32.ofInt i).toInt.toNat = i.toNat
  rw [m_toInt ⟨by omega, by omega⟩]
theorem m_nneg {i : Int} (h0 : 0 ≤ i) (h1 : i ≤ 2147483647) : ¬ Int32.ofInt i < 0 := by
  have h : ¬ Int32.ofInt i < Int32.ofInt 0 := by
    rw [m_lt ⟨by omega, by omega⟩ ⟨by omega, by omega⟩]; omega
  exact h
theorem m_in {i n : Int} (h0 : 0 ≤ i) (h1 : i < n) (hn : n ≤ 2147483647) : ¬ (Int32.ofInt i < 0 ∨ n.toNat ≤ (Int32.ofInt i).toNatClampNeg) := by
  rw [m_nat h0 (by omega)]
  intro h
  rcases h with h | h
  · exact m_nneg h0 (by omega) h
  · omega
theorem m_back (x : Int32) : Int32.ofInt x.toInt = x := Int32.ofInt_toInt x
theorem m_backL (x : Int64) : Int64.ofInt x.toInt = x := Int64.ofInt_toInt x
theorem m_nneg0 {y : Int} (h0 : 0 < y) (h1 : y ≤ 2147483647) : ¬ Int32.ofInt y = 0 := by
  have h : ¬ Int32.ofInt y = Int32.ofInt 0 := by
    rw [m_eq ⟨by omega, by omega⟩ ⟨by omega, by omega⟩]; omega
  exact h
theorem m_div {x y : Int} (hx : 0 ≤ x) (hx1 : x ≤ 2147483647) (hy : 0 < y) (hy1 : y ≤ 2147483647) : Int32.ofInt x / Int32.ofInt y = Int32.ofInt (x / y) := by
  rw [← Int32.toInt_inj, Int32.toInt_div, m_toInt ⟨by omega, by omega⟩, m_toInt ⟨by omega, by omega⟩, Int32.toInt_ofInt, Int.tdiv_eq_ediv_of_nonneg hx]
theorem m_rem {x y : Int} (hx : 0 ≤ x) (hx1 : x ≤ 2147483647) (hy : 0 < y) (hy1 : y ≤ 2147483647) : Int32.ofInt x - Int32.ofInt x / Int32.ofInt y * Int32.ofInt y = Int32.ofInt (x % y) := by
  rw [m_div hx hx1 hy hy1, ← Int32.ofInt_mul, ← Int32.ofInt_sub]
  congr 1
  rw [Int.emod_def, Int.mul_comm]
theorem m_i2l {x : Int} (h : mInR x) : (Int32.ofInt x).toInt64 = Int64.ofInt x := by
  rw [← Int64.toInt_inj, Int32.toInt_toInt64, m_toInt h, m_toIntL]
  unfold mInR at h
  exact ⟨by omega, by omega⟩
theorem m_l2i (x : Int) : (Int64.ofInt x).toInt32 = Int32.ofInt x := by
  rw [← Int32.toInt_inj, Int64.toInt_toInt32, Int64.toInt_ofInt, Int32.toInt_ofInt]
  exact Int.bmod_bmod_of_dvd (by decide)
-- locals
theorem mget_put1 : ∀ (L : List mV) (k : Nat) (v : mV) (i : Nat), k < L.length → mget (mput1 L k v) i = if i = k then v else if i + 1 = k ∧ mc2 (mget L i) = true then mu else mget L i
  | w :: l, 0, v, 0, _ => by simp [mput1, mget]
  | w :: l, 0, v, i + 1, _ => by simp [mput1, mget]
  | w :: l, 1, v, 0, h => by
    cases hc : mc2 w <;> simp [mput1, mget, hc]
  | w :: l, 1, v, i + 1, h => by
    have := mget_put1 l 0 v i (by simp at h ⊢; omega)
    simp only [mput1, mget, this]
    by_cases hi : i = 0
    · subst hi; simp
    · simp [hi]
  | w :: l, k + 2, v, 0, h => by simp [mput1, mget]
  | w :: l, k + 2, v, i + 1, h => by
    have := mget_put1 l (k + 1) v i (by simp at h ⊢; omega)
    simp only [mput1, mget, this]
    by_cases hi : i = k + 1
    · subst hi; simp
    · simp [hi]
theorem mput1_len : ∀ (L : List mV) (k : Nat) (v : mV), (mput1 L k v).length = L.length
  | [], _, _ => by simp [mput1]
  | _ :: l, 0, v => by simp [mput1]
  | w :: l, 1, v => by simp [mput1, mput1_len l 0 v]
  | w :: l, k + 2, v => by simp [mput1, mput1_len l (k + 1) v]
theorem mget_head : ∀ (L : List mV) (i : Nat), mget (mhead L) i = if i = 0 then mu else mget L i
  | [], i => by simp [mhead, mget]
  | _ :: l, 0 => by simp [mhead, mget]
  | _ :: l, i + 1 => by simp [mhead, mget]
theorem mhead_len (L : List mV) : (mhead L).length = L.length := by cases L <;> simp [mhead]
theorem mget_put2 : ∀ (L : List mV) (k : Nat) (v : mV) (i : Nat), k < L.length → mget (mput2 L k v) i = if i = k then v else if i = k + 1 then mu else if i + 1 = k ∧ mc2 (mget L i) = true then mu else mget L i
  | w :: l, 0, v, 0, _ => by simp [mput2, mget]
  | w :: l, 0, v, i + 1, _ => by simp [mput2, mget, mget_head]
  | w :: l, 1, v, 0, h => by
    cases hc : mc2 w <;> simp [mput2, mget, hc]
  | w :: l, 1, v, i + 1, h => by
    have := mget_put2 l 0 v i (by simp at h ⊢; omega)
    simp only [mput2, mget, this]
    by_cases hi : i = 0
    · subst hi; simp
    · simp [hi]
  | w :: l, k + 2, v, 0, h => by simp [mput2, mget]
  | w :: l, k + 2, v, i + 1, h => by
    have := mget_put2 l (k + 1) v i (by simp at h ⊢; omega)
    simp only [mput2, mget, this]
    by_cases hi : i = k + 1
    · subst hi; simp
    · simp [hi]
theorem mput2_len : ∀ (L : List mV) (k : Nat) (v : mV), (mput2 L k v).length = L.length
  | [], _, _ => by simp [mput2]
  | _ :: l, 0, v => by simp [mput2, mhead_len]
  | w :: l, 1, v => by simp [mput2, mput2_len l 0 v]
  | w :: l, k + 2, v => by simp [mput2, mput2_len l (k + 1) v]
