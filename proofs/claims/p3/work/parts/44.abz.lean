/-! ===== one abstract step: cells, calls, ends ===== -/
noncomputable def a01 (v : aN) : Bool := Nat.beq v.1 0 && (zeq v.2 0 || zeq v.2 1)
theorem a01_ok {ρ : Nat → Int} {v : aN} {x : Int} (hv : gN ρ v x) (h : a01 v = true) : x = 0 ∨ x = 1 := by
  obtain ⟨t, c⟩ := v
  simp only [a01, Bool.and_eq_true, Bool.or_eq_true] at h
  have h1 : t = 0 := Nat.eq_of_beq_eq_true h.1
  subst h1
  have hv : x = c := hv
  rw [hv]
  exact h.2.imp of_decide_eq_true of_decide_eq_true
noncomputable def abyt (I : aI) (v : aN) : Bool := match arng I v with
  | some p => zle (-128) p.1 && zle p.2 127
  | none => false
theorem abyt_ok {ρ : Nat → Int} {I : aI} {O : mO} (hI : gI ρ I O) {v : aN} {x : Int} (hv : gN ρ v x) (h : abyt I v = true) : -128 ≤ x ∧ x ≤ 127 := by
  unfold abyt at h
  split at h
  · rename_i p hp
    have h1 := arng_ok hI hv hp
    simp only [Bool.and_eq_true] at h
    have h2 := of_decide_eq_true h.1
    have h3 := of_decide_eq_true h.2
    exact ⟨by omega, by omega⟩
  · cases h
noncomputable def afit (I : aI) (t : Nat) (v : aV) : Bool := match t with
  | 0 => Nat.beq v.1 0
  | 1 => Nat.beq v.1 0 && a01 v.2
  | 2 => Nat.beq v.1 0 && abyt I v.2
  | 3 => Nat.beq v.1 1
  | _ => Nat.beq v.1 3
theorem afit_ok {ρ : Nat → Int} {I : aI} {O : mO} (hI : gI ρ I O) {t : Nat} {v : aV} {w : mV} (hv : gV ρ v w) (h : afit I t v = true) : mfit t w := by
  unfold afit at h
  unfold mfit
  rw [← hv.1]
  split at h
  · exact Nat.eq_of_beq_eq_true h
  · rw [Bool.and_eq_true] at h
    exact ⟨Nat.eq_of_beq_eq_true h.1, a01_ok hv.2 h.2⟩
  · rw [Bool.and_eq_true] at h
    exact ⟨Nat.eq_of_beq_eq_true h.1, abyt_ok hI hv.2 h.2⟩
  · exact Nat.eq_of_beq_eq_true h
  · split
    · contradiction
    · contradiction
    · contradiction
    · contradiction
    · exact Nat.eq_of_beq_eq_true h
theorem gL_consV {ρ : Nat → Int} {v : aV} {S : List aV} {S' : List mV} (h : gL ρ (v :: S) S') : ∃ v' S'', S' = v' :: S'' ∧ gV ρ v v' ∧ gL ρ S S'' := by
  match S', h with
  | w :: S'', h => exact ⟨w, S'', rfl, h.1, h.2⟩
theorem gL_nil {ρ : Nat → Int} {S' : List mV} (h : gL ρ [] S') : S' = [] := by
  match S', h with
  | [], _ => rfl
theorem acon {ρ : Nat → Int} {x : aN} {a z : Int} (hx : gN ρ x a) (h : (Nat.beq x.1 0 && zeq x.2 z) = true) : a = z := by
  obtain ⟨t, c⟩ := x
  rw [Bool.and_eq_true] at h
  have h1 : t = 0 := Nat.eq_of_beq_eq_true h.1
  have h2 : c = z := of_decide_eq_true h.2
  subst h1
  have hx : a = c := hx
  rw [hx, h2]
theorem akb {q : Nat} (h : (Nat.beq q 102 || Nat.beq q 103) = true) : (q : Int) = 102 ∨ (q : Int) = 103 := by
  rw [Bool.or_eq_true] at h
  rcases h with h | h
  · left; rw [Nat.eq_of_beq_eq_true h]; rfl
  · right; rw [Nat.eq_of_beq_eq_true h]; rfl
theorem akbs {ρ : Nat → Int} {I : aI} {O : mO} (hI : gI ρ I O) {v : aN} {x : Int} (hv : gN ρ v x) {q : Nat} (h : (Nat.beq q 102 && abyt I v || Nat.beq q 103 && a01 v) = true) : ((q : Int) = 102 ∧ -128 ≤ x ∧ x ≤ 127) ∨ ((q : Int) = 103 ∧ (x = 0 ∨ x = 1)) := by
  simp only [Bool.or_eq_true, Bool.and_eq_true] at h
  rcases h with h | h
  · left; rw [Nat.eq_of_beq_eq_true h.1]; exact ⟨rfl, abyt_ok hI hv h.2⟩
  · right; rw [Nat.eq_of_beq_eq_true h.1]; exact ⟨rfl, a01_ok hv h.2⟩
theorem aka {v g1 g2 : Int} {r9 : Nat} {d c : Nat} (h1 : v = (r9 : Int)) (h2 : g1 = (d : Int)) (h3 : g2 = (c : Int)) (h : (Nat.ble 200 c && Nat.beq (d + 200) c) = true) {a ln : Int} (h5 : 0 ≤ a) (h6 : a < ln) : 200 ≤ g2 ∧ 0 ≤ v ∧ g1 = g2 - 200 ∧ 0 ≤ a ∧ a < ln := by
  rw [Bool.and_eq_true] at h
  have e1 := Nat.le_of_ble_eq_true h.1
  have e2 := Nat.eq_of_beq_eq_true h.2
  exact ⟨by omega, by omega, by omega, h5, h6⟩
noncomputable def akd (t : ArrayType) : Nat := match t with
  | .int => 100
  | .long => 101
  | .byte => 102
  | .boolean => 103
  | _ => 199
theorem akd_ok (t : ArrayType) : matyp t = (akd t : Int) := by cases t <;> rfl
noncomputable def anr (k : Nat) : List aN := (List.range (mnf k)).map (fun i => (0, if mfty (32 * k + i) = 4 then -1 else 0))
theorem lget_map {f : Nat → aN} {z : aN} : ∀ (l : List Nat) (i : Nat), lget z (l.map f) i = match l[i]? with
    | some a => f a
    | none => z
  | [], _ => by simp [lget_nil, lget_0]
  | _ :: _, 0 => by simp [lget_nil, lget_0]
  | _ :: l, i + 1 => by
    simp only [List.map_cons, lget_s, List.getElem?_cons_succ]
    exact lget_map l i
theorem anr_ok {ρ : Nat → Int} (k i : Nat) : gN ρ (aget (k, 0, (1, 0), [anr k]) i) (if mfty (32 * k + i) = 4 then -1 else 0) := by
  unfold aget
  dsimp only
  by_cases h : i / 32 = 0
  · rw [h]
    show gN ρ (lget (1, 0) (anr k) (i % 32)) _
    have e : i % 32 = i := by omega
    rw [e]
    unfold anr
    rw [lget_map]
    by_cases h2 : i < mnf k
    · rw [List.getElem?_range h2]
      rfl
    · rw [List.getElem?_eq_none (by simp; omega)]
      trivial
  · have e : lget [] [anr k] (i / 32) = [] := by
      match i / 32, h with
      | 0, h => exact absurd rfl h
      | q + 1, _ => rfl
    rw [e]
    trivial
noncomputable def aret1 (m : Nat) (v : aN) : Bool := match mret m with
  | 1 => true
  | 2 => a01 v
  | _ => false
theorem aret1_ok {ρ : Nat → Int} {m : Nat} {v : aN} {x : Int} (hv : gN ρ v x) (h : aret1 m v = true) : mret1 m x := by
  unfold aret1 at h
  unfold mret1
  split at h
  · rename_i e; rw [e]; trivial
  · rename_i e; rw [e]; exact a01_ok hv h
  · cases h
noncomputable def arecv (M : aM) (n j : Nat) (as : List aV) : Bool := match mkd j with
  | 0 => true
  | _ => match as with
    | (3, x) :: _ => (match acl M n x with
      | some (_, c) => Nat.beq c.1 (mcl j)
      | none => false)
    | _ => false
theorem arecv_ok {ρ : Nat → Int} {M : aM} {n : Nat} {kn : Bool} {G : mG} {d : mD} (hM : gM ρ M n kn G d) {j : Nat} {as : List aV} {as' : List mV} (ha : gL ρ as as') (h : arecv M n j as = true) : mrecv j as' G.1 := by
  unfold arecv at h
  unfold mrecv
  split at h
  · rename_i e; rw [e]; trivial
  · rename_i hne
    split at h
    · rename_i x r
      obtain ⟨x', S', rfl, hx, hS⟩ := gL_cons ha
      split at h
      · rename_i q c hcl
        obtain ⟨-, -, -, -, h5, -⟩ := acl_ok hM hx hcl
        split
        · trivial
        · show G.1 x' = (mcl j : Int)
          rw [h5, Nat.eq_of_beq_eq_true h]
      · cases h
    · cases h
theorem a_end {ρ : Nat → Int} {m : Nat} {mn : mNx} {k : aNx → Bool} {r : aRes} (h : k (.inr (.inr (.inl r))) = true) (hs : ∀ (B : mSt → Prop) (C : Nat → List mV → mG → mD → mK → Prop) (K : mK), (∀ q G d, gR ρ r q G d → K q G d) → mint B C m K mn) : ∃ nx, k nx = true ∧ aSnd ρ m nx mn := ⟨.inr (.inr (.inl r)), h, hs⟩
theorem a_call {ρ : Nat → Int} {m : Nat} {mn : mNx} {k : aNx → Bool} {j : Nat} {as : List aV} {st : aSt} (h : k (.inr (.inl (j, as, st))) = true)
    (hs : ∀ (B : mSt → Prop) (C : Nat → List mV → mG → mD → mK → Prop) (K : mK), (∀ as' pc L S c s G d, gL ρ as as' → gS ρ st (pc, L, S, c, s, G, d) → C j as' G d (mback m pc L S c s B K)) → mint B C m K mn) : ∃ nx, k nx = true ∧ aSnd ρ m nx mn := ⟨.inr (.inl (j, as, st)), h, hs⟩
noncomputable def aXb (I : aI) (m : Nat) (i : Instr) (pc : Nat) (L S : List aV) (c s : Nat) (M : aM) (n : Nat) (kn : Bool) (k : aNx → Bool) : Bool := match i with
  | .getfield g => match S with
    | (3, x) :: S => (match acl M n x with
      | some (_, c9) => bif Nat.beq c9.1 (g / 32) then agoN (mtag (mfty g)) (aget c9 (g % 32)) (pc + 3) L S c s M n kn k else false
      | none => false)
    | _ => false
  | .putfield g => match S with
    | v :: (3, x) :: S => (match acl M n x with
      | some (q9, c9) => bif Nat.beq c9.1 (g / 32) && afit I (mfty g) v then asetK c9 (g % 32) v.2 (fun c9 => aputK M q9 c9 (fun M => ago (pc + 3) L S c s M n kn k)) else false
      | none => false)
    | _ => false
  | .arraylength => match S with
    | (4, x) :: S => bif Nat.beq x.1 0 && zeq x.2 2 && !Nat.beq I.1 0 then agoN 0 (0, (I.1 : Int)) (pc + 1) L S c s M n kn k else false
    | (3, x) :: S => (match acl M n x with
      | some (_, c9) => bif Nat.ble 100 c9.1 then agoN 0 (0, (c9.2.1 : Int)) (pc + 1) L S c s M n kn k else false
      | none => false)
    | _ => false
  | .iaload => match S with
    | (0, i) :: (3, x) :: S => (match acl M n x with
      | some (_, c9) => bif Nat.beq c9.1 100 then (match aix I i c9.2.1 with
        | some i9 => agoN 0 (aget c9 i9) (pc + 1) L S c s M n kn k
        | none => asp1 I i k) else false
      | none => false)
    | (0, i) :: (4, x) :: S => bif Nat.beq x.1 0 && zeq x.2 2 then (match aix I i I.1 with
      | some i9 => agoN 0 (ascr I i9) (pc + 1) L S c s M n kn k
      | none => asp1 I i k) else (match aix I x 2, aix I i 5 with
      | some k9, some i9 => agoN 0 (0, mStv k9 i9) (pc + 1) L S c s M n kn k
      | some _, none => asp1 I i k
      | _, _ => false)
    | _ => false
  | .laload => match S with
    | (0, i) :: (3, x) :: S => (match acl M n x with
      | some (_, c9) => bif Nat.beq c9.1 101 then (match aix I i c9.2.1 with
        | some i9 => agoN 1 (aget c9 i9) (pc + 1) L S c s M n kn k
        | none => asp1 I i k) else false
      | none => false)
    | _ => false
  | .baload => match S with
    | (0, i) :: (3, x) :: S => (match acl M n x with
      | some (_, c9) => bif Nat.beq c9.1 102 || Nat.beq c9.1 103 then (match aix I i c9.2.1 with
        | some i9 => agoN 0 (aget c9 i9) (pc + 1) L S c s M n kn k
        | none => asp1 I i k) else false
      | none => false)
    | _ => false
  | .aaload => match S with
    | (0, i) :: (3, x) :: S => (match acl M n x with
      | some (_, c9) => bif Nat.ble 200 c9.1 then (match aix I i c9.2.1 with
        | some i9 => agoN 3 (aget c9 i9) (pc + 1) L S c s M n kn k
        | none => asp1 I i k) else false
      | none => false)
    | _ => false
  | .iastore => match S with
    | (0, v) :: (0, i) :: (3, x) :: S => (match acl M n x with
      | some (q9, c9) => bif Nat.beq c9.1 100 then (match aix I i c9.2.1 with
        | some i9 => asetK c9 i9 v (fun c9 => aputK M q9 c9 (fun M => ago (pc + 1) L S c s M n kn k))
        | none => asp1 I i k) else false
      | none => false)
    | _ => false
  | .lastore => match S with
    | (1, v) :: (0, i) :: (3, x) :: S => (match acl M n x with
      | some (q9, c9) => bif Nat.beq c9.1 101 then (match aix I i c9.2.1 with
        | some i9 => asetK c9 i9 v (fun c9 => aputK M q9 c9 (fun M => ago (pc + 1) L S c s M n kn k))
        | none => asp1 I i k) else false
      | none => false)
    | _ => false
  | .bastore => match S with
    | (0, v) :: (0, i) :: (3, x) :: S => (match acl M n x with
      | some (q9, c9) => bif (Nat.beq c9.1 102 && abyt I v) || (Nat.beq c9.1 103 && a01 v) then (match aix I i c9.2.1 with
        | some i9 => asetK c9 i9 v (fun c9 => aputK M q9 c9 (fun M => ago (pc + 1) L S c s M n kn k))
        | none => asp1 I i k) else false
      | none => false)
    | _ => false
  | .aastore => match S with
    | (3, v) :: (0, i) :: (3, x) :: S => (match acl M n v with
      | some (_, d9) => (match acl M n x with
      | some (q9, c9) => bif Nat.ble 200 c9.1 && Nat.beq (d9.1 + 200) c9.1 then (match aix I i c9.2.1 with
        | some i9 => asetK c9 i9 v (fun c9 => aputK M q9 c9 (fun M => ago (pc + 1) L S c s M n kn k))
        | none => asp1 I i k) else false
      | none => false)
      | none => false)
    | _ => false
  | .newarray t => match S with
    | (0, (0, .ofNat N)) :: S => bif Nat.ble N 100000 && kn && Nat.ble (c + 1) (mmc m) && Nat.ble (s + N) (mms m) && !Nat.beq (akd t) 199 then frcN (c + 1) (fun c => frcN (s + N) (fun s => frcN (n + 1) (fun n1 => aputK M n (akd t, N, (0, 0), []) (fun M => agoN 3 (0, (n : Int)) (pc + 2) L S c s M n1 kn k)))) else false
    | _ => false
  | .anewarray j => match S with
    | (0, (0, .ofNat N)) :: S => bif Nat.ble N 100000 && kn && Nat.ble (c + 1) (mmc m) && Nat.ble (s + N) (mms m) then frcN (c + 1) (fun c => frcN (s + N) (fun s => frcN (n + 1) (fun n1 => aputK M n (200 + j, N, (0, -1), []) (fun M => agoN 3 (0, (n : Int)) (pc + 3) L S c s M n1 kn k)))) else false
    | _ => false
  | .new j => bif kn && Nat.ble (c + 1) (mmc m) && Nat.ble (s + mnf j) (mms m) then frcN (c + 1) (fun c => frcN (s + mnf j) (fun s => frcN (n + 1) (fun n1 => aputK M n (j, 0, (1, 0), [anr j]) (fun M => agoN 3 (0, (n : Int)) (pc + 3) L S c s M n1 kn k)))) else false
  | .checkcast e => bif Nat.blt 5 (mdep m) && Nat.ble (acats S + 82) (mneed m) && Nat.ble (c + 1) (mmc m) && Nat.ble (s + 6) (mms m) then k (.inr (.inr (.inl (.inr e, M, n, false)))) else false
  | .ireturn => match S with
    | [(0, v)] => bif aret1 m v then k (.inr (.inr (.inl (.inl (some (0, v)), M, n, kn)))) else false
    | _ => false
  | .lreturn => match S with
    | [(1, v)] => bif Nat.beq (mret m) 3 then k (.inr (.inr (.inl (.inl (some (1, v)), M, n, kn)))) else false
    | _ => false
  | .dreturn => match S with
    | [(2, v)] => bif Nat.beq (mret m) 4 then k (.inr (.inr (.inl (.inl (some (2, v)), M, n, kn)))) else false
    | _ => false
  | .return_ => match S with
    | [] => bif Nat.beq (mret m) 0 then k (.inr (.inr (.inl (.inl none, M, n, kn)))) else false
    | _ => false
  | .invokestatic j => match apop (mnp j) S [] with
    | some (as, S) => bif mroom m j && Nat.ble (alay as).length (mmaxL j) && Nat.ble (acats S) 8 && Nat.ble (c + mmc j) (mmc m) && Nat.ble (s + mms j) (mms m) && arecv M n j as then frcN (c + mmc j) (fun c => frcN (s + mms j) (fun s => k (.inr (.inl (j, as, (pc, L, S, c, s, M, n, kn)))))) else false
    | none => false
  | _ => false
theorem aXb_ok {ρ : Nat → Int} {I : aI} {O : mO} (hI : gI ρ I O) {m len : Nat} {i : Instr} {pc : Nat} {L S : List aV} {L' S' : List mV} {c s : Nat} {M : aM} {n : Nat} {kn : Bool} {G : mG} {d : mD} {k : aNx → Bool}
    (hL : gL ρ L L') (hS : gL ρ S S') (hM : gM ρ M n kn G d) (h : aXb I m i pc L S c s M n kn k = true) : ∃ nx, k nx = true ∧ aSnd ρ m nx (mX O m len i pc L' S' c s G d) := by
  unfold aXb at h
  split at h
  · rename_i g9
    split at h
    · rename_i x S0
      obtain ⟨x', S', rfl, hx, hS⟩ := gL_cons hS
      cases hcl : acl M n x with
      | none => rw [hcl] at h; cases h
      | some q9p =>
        obtain ⟨q9, c9⟩ := q9p
        rw [hcl] at h
        dsimp only at h
        obtain ⟨hcl1, hcl2, hcl3, hcl4, hcl5, hcl6, hcl7⟩ := acl_ok hM hx hcl
        cases hc : (Nat.beq c9.1 (g9 / 32)) with
        | false => rw [hc] at h; cases h
        | true =>
          rw [hc] at h
          dsimp only [cond] at h
          rw [agoN_eq] at h
          exact a_next h (fun B C K hB => ⟨(by rw [hcl5, Nat.eq_of_beq_eq_true hc]), hB _ ⟨rfl, hL, ⟨⟨rfl, (hcl7 _)⟩, hS⟩, rfl, rfl, hM⟩⟩)
    · cases h
  · rename_i g9
    split at h
    · rename_i v x S0
      obtain ⟨v', S', rfl, hv, hS⟩ := gL_consV hS
      obtain ⟨x', S', rfl, hx, hS⟩ := gL_cons hS
      cases hcl : acl M n x with
      | none => rw [hcl] at h; cases h
      | some q9p =>
        obtain ⟨q9, c9⟩ := q9p
        rw [hcl] at h
        dsimp only at h
        obtain ⟨hcl1, hcl2, hcl3, hcl4, hcl5, hcl6, hcl7⟩ := acl_ok hM hx hcl
        cases hc : (Nat.beq c9.1 (g9 / 32) && afit I (mfty g9) v) with
        | false => rw [hc] at h; cases h
        | true =>
          rw [hc] at h
          dsimp only [cond] at h
          rw [asetK_eq, aputK_eq, ago_eq] at h
          rw [Bool.and_eq_true] at hc
          subst hcl3
          have hM2 := gM_set hM hcl2 hcl4 (i := g9 % 32) hv.2
          rw [← hcl1] at hM2
          exact a_next h (fun B C K hB => ⟨⟨by rw [hcl5, Nat.eq_of_beq_eq_true hc.1], afit_ok hI hv hc.2⟩, hB _ ⟨rfl, hL, hS, rfl, rfl, hM2⟩⟩)
    · cases h
  · split at h
    · rename_i x S0
      obtain ⟨x', S', rfl, hx, hS⟩ := gL_cons hS
      cases hc : (Nat.beq x.1 0 && zeq x.2 2 && !Nat.beq I.1 0) with
      | false => rw [hc] at h; cases h
      | true =>
        rw [hc] at h
        dsimp only [cond] at h
        rw [Bool.and_eq_true] at hc
        obtain ⟨hc, hc9⟩ := hc
        have hx2 := acon hx hc
        have hI9 : I.1 ≠ 0 := fun e => by rw [e] at hc9; cases hc9
        rw [agoN_eq] at h
        exact a_next h (fun B C K hB => ⟨hx2, hB _ ⟨rfl, hL, ⟨⟨rfl, (by rw [hx2]; exact hI.1 hI9)⟩, hS⟩, rfl, rfl, hM⟩⟩)
    · rename_i x S0
      obtain ⟨x', S', rfl, hx, hS⟩ := gL_cons hS
      cases hcl : acl M n x with
      | none => rw [hcl] at h; cases h
      | some q9p =>
        obtain ⟨q9, c9⟩ := q9p
        rw [hcl] at h
        dsimp only at h
        obtain ⟨hcl1, hcl2, hcl3, hcl4, hcl5, hcl6, hcl7⟩ := acl_ok hM hx hcl
        cases hc : (Nat.ble 100 c9.1) with
        | false => rw [hc] at h; cases h
        | true =>
          rw [hc] at h
          dsimp only [cond] at h
          have hc := Nat.le_of_ble_eq_true hc
          rw [agoN_eq] at h
          exact a_next h (fun B C K hB => ⟨(by rw [hcl5]; omega), hB _ ⟨rfl, hL, ⟨⟨rfl, hcl6⟩, hS⟩, rfl, rfl, hM⟩⟩)
    · cases h
  · split at h
    · rename_i i x S0
      obtain ⟨i', S', rfl, hi, hS⟩ := gL_cons hS
      obtain ⟨x', S', rfl, hx, hS⟩ := gL_cons hS
      cases hcl : acl M n x with
      | none => rw [hcl] at h; cases h
      | some q9p =>
        obtain ⟨q9, c9⟩ := q9p
        rw [hcl] at h
        dsimp only at h
        obtain ⟨hcl1, hcl2, hcl3, hcl4, hcl5, hcl6, hcl7⟩ := acl_ok hM hx hcl
        cases hc : (Nat.beq c9.1 100) with
        | false => rw [hc] at h; cases h
        | true =>
          rw [hc] at h
          dsimp only [cond] at h
          cases hix : aix I i (c9.2.1) with
          | none => rw [hix] at h; exact a_splt (asp1_ok h)
          | some i9 =>
            rw [hix] at h
            dsimp only at h
            obtain ⟨hix1, hix2⟩ := aix_ok hI hi hix
            rw [agoN_eq] at h
            exact a_next h (fun B C K hB => ⟨⟨by rw [hcl5, Nat.eq_of_beq_eq_true hc]; rfl, by omega, by omega⟩, hB _ ⟨rfl, hL, ⟨⟨rfl, (by rw [hix1]; exact hcl7 i9)⟩, hS⟩, rfl, rfl, hM⟩⟩)
    · rename_i i x S0
      obtain ⟨i', S', rfl, hi, hS⟩ := gL_cons hS
      obtain ⟨x', S', rfl, hx, hS⟩ := gL_cons hS
      cases hc : (Nat.beq x.1 0 && zeq x.2 2) with
      | true =>
        rw [hc] at h
        dsimp only [cond] at h
        have hx2 := acon hx hc
        cases hix : aix I i (I.1) with
        | none => rw [hix] at h; exact a_splt (asp1_ok h)
        | some i9 =>
          rw [hix] at h
          dsimp only at h
          obtain ⟨hix1, hix2⟩ := aix_ok hI hi hix
          rw [agoN_eq] at h
          exact a_next h (fun B C K hB => ⟨⟨Or.inr (Or.inr hx2), by omega, by rw [hx2, hI.1 (by omega)]; omega⟩, hB _ ⟨rfl, hL, ⟨⟨rfl, (by rw [hx2, hix1]; exact ascr_ok hI i9 hix2)⟩, hS⟩, rfl, rfl, hM⟩⟩)
      | false =>
        rw [hc] at h
        dsimp only [cond] at h
        split at h
        · rename_i k9 i9 hk9 hi9
          obtain ⟨e1, e2⟩ := aix_ok hI hx hk9
          obtain ⟨e3, e4⟩ := aix_ok hI hi hi9
          obtain ⟨e5, e6⟩ := hI.2.2.2.2 k9 e2
          rw [agoN_eq] at h
          exact a_next h (fun B C K hB => ⟨⟨by omega, by omega, by rw [e1, e5]; omega⟩, hB _ ⟨rfl, hL, ⟨⟨rfl, (by rw [e1, e3]; exact e6 i9)⟩, hS⟩, rfl, rfl, hM⟩⟩)
        · exact a_splt (asp1_ok h)
        · cases h
    · cases h
  · split at h
    · rename_i i x S0
      obtain ⟨i', S', rfl, hi, hS⟩ := gL_cons hS
      obtain ⟨x', S', rfl, hx, hS⟩ := gL_cons hS
      cases hcl : acl M n x with
      | none => rw [hcl] at h; cases h
      | some q9p =>
        obtain ⟨q9, c9⟩ := q9p
        rw [hcl] at h
        dsimp only at h
        obtain ⟨hcl1, hcl2, hcl3, hcl4, hcl5, hcl6, hcl7⟩ := acl_ok hM hx hcl
        cases hc : (Nat.beq c9.1 101) with
        | false => rw [hc] at h; cases h
        | true =>
          rw [hc] at h
          dsimp only [cond] at h
          cases hix : aix I i (c9.2.1) with
          | none => rw [hix] at h; exact a_splt (asp1_ok h)
          | some i9 =>
            rw [hix] at h
            dsimp only at h
            obtain ⟨hix1, hix2⟩ := aix_ok hI hi hix
            rw [agoN_eq] at h
            exact a_next h (fun B C K hB => ⟨⟨by rw [hcl5, Nat.eq_of_beq_eq_true hc]; rfl, by omega, by omega⟩, hB _ ⟨rfl, hL, ⟨⟨rfl, (by rw [hix1]; exact hcl7 i9)⟩, hS⟩, rfl, rfl, hM⟩⟩)
    · cases h
  · split at h
    · rename_i i x S0
      obtain ⟨i', S', rfl, hi, hS⟩ := gL_cons hS
      obtain ⟨x', S', rfl, hx, hS⟩ := gL_cons hS
      cases hcl : acl M n x with
      | none => rw [hcl] at h; cases h
      | some q9p =>
        obtain ⟨q9, c9⟩ := q9p
        rw [hcl] at h
        dsimp only at h
        obtain ⟨hcl1, hcl2, hcl3, hcl4, hcl5, hcl6, hcl7⟩ := acl_ok hM hx hcl
        cases hc : (Nat.beq c9.1 102 || Nat.beq c9.1 103) with
        | false => rw [hc] at h; cases h
        | true =>
          rw [hc] at h
          dsimp only [cond] at h
          cases hix : aix I i (c9.2.1) with
          | none => rw [hix] at h; exact a_splt (asp1_ok h)
          | some i9 =>
            rw [hix] at h
            dsimp only at h
            obtain ⟨hix1, hix2⟩ := aix_ok hI hi hix
            rw [agoN_eq] at h
            exact a_next h (fun B C K hB => ⟨⟨by rw [hcl5]; exact akb hc, by omega, by omega⟩, hB _ ⟨rfl, hL, ⟨⟨rfl, (by rw [hix1]; exact hcl7 i9)⟩, hS⟩, rfl, rfl, hM⟩⟩)
    · cases h
  · split at h
    · rename_i i x S0
      obtain ⟨i', S', rfl, hi, hS⟩ := gL_cons hS
      obtain ⟨x', S', rfl, hx, hS⟩ := gL_cons hS
      cases hcl : acl M n x with
      | none => rw [hcl] at h; cases h
      | some q9p =>
        obtain ⟨q9, c9⟩ := q9p
        rw [hcl] at h
        dsimp only at h
        obtain ⟨hcl1, hcl2, hcl3, hcl4, hcl5, hcl6, hcl7⟩ := acl_ok hM hx hcl
        cases hc : (Nat.ble 200 c9.1) with
        | false => rw [hc] at h; cases h
        | true =>
          rw [hc] at h
          dsimp only [cond] at h
          cases hix : aix I i (c9.2.1) with
          | none => rw [hix] at h; exact a_splt (asp1_ok h)
          | some i9 =>
            rw [hix] at h
            dsimp only at h
            obtain ⟨hix1, hix2⟩ := aix_ok hI hi hix
            rw [agoN_eq] at h
            exact a_next h (fun B C K hB => ⟨⟨by have := Nat.le_of_ble_eq_true hc; rw [hcl5]; omega, by omega, by omega⟩, hB _ ⟨rfl, hL, ⟨⟨rfl, (by rw [hix1]; exact hcl7 i9)⟩, hS⟩, rfl, rfl, hM⟩⟩)
    · cases h
  · split at h
    · rename_i v i x S0
      obtain ⟨v', S', rfl, hv, hS⟩ := gL_cons hS
      obtain ⟨i', S', rfl, hi, hS⟩ := gL_cons hS
      obtain ⟨x', S', rfl, hx, hS⟩ := gL_cons hS
      cases hcl : acl M n x with
      | none => rw [hcl] at h; cases h
      | some q9p =>
        obtain ⟨q9, c9⟩ := q9p
        rw [hcl] at h
        dsimp only at h
        obtain ⟨hcl1, hcl2, hcl3, hcl4, hcl5, hcl6, hcl7⟩ := acl_ok hM hx hcl
        cases hc : (Nat.beq c9.1 100) with
        | false => rw [hc] at h; cases h
        | true =>
          rw [hc] at h
          dsimp only [cond] at h
          cases hix : aix I i (c9.2.1) with
          | none => rw [hix] at h; exact a_splt (asp1_ok h)
          | some i9 =>
            rw [hix] at h
            dsimp only at h
            obtain ⟨hix1, hix2⟩ := aix_ok hI hi hix
            rw [asetK_eq, aputK_eq, ago_eq] at h
            subst hcl3
            have hM2 := gM_set hM hcl2 hcl4 (i := i9) hv
            rw [← hcl1, ← hix1] at hM2
            exact a_next h (fun B C K hB => ⟨⟨by rw [hcl5, Nat.eq_of_beq_eq_true hc]; rfl, by omega, by omega⟩, hB _ ⟨rfl, hL, hS, rfl, rfl, hM2⟩⟩)
    · cases h
  · split at h
    · rename_i v i x S0
      obtain ⟨v', S', rfl, hv, hS⟩ := gL_cons hS
      obtain ⟨i', S', rfl, hi, hS⟩ := gL_cons hS
      obtain ⟨x', S', rfl, hx, hS⟩ := gL_cons hS
      cases hcl : acl M n x with
      | none => rw [hcl] at h; cases h
      | some q9p =>
        obtain ⟨q9, c9⟩ := q9p
        rw [hcl] at h
        dsimp only at h
        obtain ⟨hcl1, hcl2, hcl3, hcl4, hcl5, hcl6, hcl7⟩ := acl_ok hM hx hcl
        cases hc : (Nat.beq c9.1 101) with
        | false => rw [hc] at h; cases h
        | true =>
          rw [hc] at h
          dsimp only [cond] at h
          cases hix : aix I i (c9.2.1) with
          | none => rw [hix] at h; exact a_splt (asp1_ok h)
          | some i9 =>
            rw [hix] at h
            dsimp only at h
            obtain ⟨hix1, hix2⟩ := aix_ok hI hi hix
            rw [asetK_eq, aputK_eq, ago_eq] at h
            subst hcl3
            have hM2 := gM_set hM hcl2 hcl4 (i := i9) hv
            rw [← hcl1, ← hix1] at hM2
            exact a_next h (fun B C K hB => ⟨⟨by rw [hcl5, Nat.eq_of_beq_eq_true hc]; rfl, by omega, by omega⟩, hB _ ⟨rfl, hL, hS, rfl, rfl, hM2⟩⟩)
    · cases h
  · split at h
    · rename_i v i x S0
      obtain ⟨v', S', rfl, hv, hS⟩ := gL_cons hS
      obtain ⟨i', S', rfl, hi, hS⟩ := gL_cons hS
      obtain ⟨x', S', rfl, hx, hS⟩ := gL_cons hS
      cases hcl : acl M n x with
      | none => rw [hcl] at h; cases h
      | some q9p =>
        obtain ⟨q9, c9⟩ := q9p
        rw [hcl] at h
        dsimp only at h
        obtain ⟨hcl1, hcl2, hcl3, hcl4, hcl5, hcl6, hcl7⟩ := acl_ok hM hx hcl
        cases hc : ((Nat.beq c9.1 102 && abyt I v) || (Nat.beq c9.1 103 && a01 v)) with
        | false => rw [hc] at h; cases h
        | true =>
          rw [hc] at h
          dsimp only [cond] at h
          cases hix : aix I i (c9.2.1) with
          | none => rw [hix] at h; exact a_splt (asp1_ok h)
          | some i9 =>
            rw [hix] at h
            dsimp only at h
            obtain ⟨hix1, hix2⟩ := aix_ok hI hi hix
            rw [asetK_eq, aputK_eq, ago_eq] at h
            subst hcl3
            have hM2 := gM_set hM hcl2 hcl4 (i := i9) hv
            rw [← hcl1, ← hix1] at hM2
            exact a_next h (fun B C K hB => ⟨⟨by rw [hcl5]; exact akbs hI hv hc, by omega, by omega⟩, hB _ ⟨rfl, hL, hS, rfl, rfl, hM2⟩⟩)
    · cases h
  · split at h
    · rename_i v i x S0
      obtain ⟨v', S', rfl, hv, hS⟩ := gL_cons hS
      obtain ⟨i', S', rfl, hi, hS⟩ := gL_cons hS
      obtain ⟨x', S', rfl, hx, hS⟩ := gL_cons hS
      cases hcv : acl M n v with
      | none => rw [hcv] at h; cases h
      | some r9p =>
        obtain ⟨r9, d9⟩ := r9p
        rw [hcv] at h
        dsimp only at h
        obtain ⟨hcv1, hcv2, hcv3, hcv4, hcv5, hcv6, hcv7⟩ := acl_ok hM hv hcv
        cases hcl : acl M n x with
        | none => rw [hcl] at h; cases h
        | some q9p =>
          obtain ⟨q9, c9⟩ := q9p
          rw [hcl] at h
          dsimp only at h
          obtain ⟨hcl1, hcl2, hcl3, hcl4, hcl5, hcl6, hcl7⟩ := acl_ok hM hx hcl
          cases hc : (Nat.ble 200 c9.1 && Nat.beq (d9.1 + 200) c9.1) with
          | false => rw [hc] at h; cases h
          | true =>
            rw [hc] at h
            dsimp only [cond] at h
            cases hix : aix I i (c9.2.1) with
            | none => rw [hix] at h; exact a_splt (asp1_ok h)
            | some i9 =>
              rw [hix] at h
              dsimp only at h
              obtain ⟨hix1, hix2⟩ := aix_ok hI hi hix
              rw [asetK_eq, aputK_eq, ago_eq] at h
              subst hcl3
              have hM2 := gM_set hM hcl2 hcl4 (i := i9) hv
              rw [← hcl1, ← hix1] at hM2
              exact a_next h (fun B C K hB => ⟨aka hcv1 hcv5 hcl5 hc (by omega) (by omega), hB _ ⟨rfl, hL, hS, rfl, rfl, hM2⟩⟩)
    · cases h
  · rename_i t9
    split at h
    · rename_i N S0
      obtain ⟨N', S', rfl, hN, hS⟩ := gL_cons hS
      have hN : N' = (N : Int) := hN
      cases hc : (Nat.ble N 100000 && kn && Nat.ble (c + 1) (mmc m) && Nat.ble (s + N) (mms m) && !Nat.beq (akd t9) 199) with
      | false => rw [hc] at h; cases h
      | true =>
        rw [hc] at h
        dsimp only [cond] at h
        rw [frcN_eq, frcN_eq, frcN_eq, aputK_eq, agoN_eq] at h
        simp only [Bool.and_eq_true, Bool.not_eq_true'] at hc
        obtain ⟨⟨⟨⟨g1, g2⟩, g3⟩, g4⟩, g5⟩ := hc
        subst g2
        have g1 := Nat.le_of_ble_eq_true g1
        have g3 := Nat.le_of_ble_eq_true g3
        have g4 := Nat.le_of_ble_eq_true g4
        have hn := hM.1 rfl
        have hM2 := gM_new hM (d' := mfill d G.2.2 0) (c := (akd t9, N, (0, 0), [])) (kd := matyp t9) (ln := N') (akd_ok t9) hN (fun i => by rw [aget_nil]; unfold mfill; rw [if_pos hn.symm]; rfl) (fun b hb => by funext j; unfold mfill; rw [if_neg (by rw [hn]; exact hb)])
        refine a_next h (fun B C K hB => ⟨⟨by omega, by omega, by omega, g3, by rw [hN, Int.toNat_natCast]; exact g4, fun e => ?_⟩, hB _ ⟨rfl, hL, ⟨⟨rfl, hn⟩, hS⟩, rfl, by show s + N = s + N'.toNat; rw [hN, Int.toNat_natCast], hM2⟩⟩)
        rw [akd_ok t9] at e
        have e : akd t9 = 199 := by omega
        rw [e] at g5
        cases g5
    · cases h
  · rename_i j9
    split at h
    · rename_i N S0
      obtain ⟨N', S', rfl, hN, hS⟩ := gL_cons hS
      have hN : N' = (N : Int) := hN
      cases hc : (Nat.ble N 100000 && kn && Nat.ble (c + 1) (mmc m) && Nat.ble (s + N) (mms m)) with
      | false => rw [hc] at h; cases h
      | true =>
        rw [hc] at h
        dsimp only [cond] at h
        rw [frcN_eq, frcN_eq, frcN_eq, aputK_eq, agoN_eq] at h
        simp only [Bool.and_eq_true] at hc
        obtain ⟨⟨⟨g1, g2⟩, g3⟩, g4⟩ := hc
        subst g2
        have g1 := Nat.le_of_ble_eq_true g1
        have g3 := Nat.le_of_ble_eq_true g3
        have g4 := Nat.le_of_ble_eq_true g4
        have hn := hM.1 rfl
        have hM2 := gM_new hM (d' := mfill d G.2.2 (-1)) (c := (200 + j9, N, (0, -1), [])) (kd := 200 + (j9 : Int)) (ln := N') (by show (200 + (j9 : Int)) = ((200 + j9 : Nat) : Int); omega) hN (fun i => by rw [aget_nil]; unfold mfill; rw [if_pos hn.symm]; rfl) (fun b hb => by funext j; unfold mfill; rw [if_neg (by rw [hn]; exact hb)])
        exact a_next h (fun B C K hB => ⟨⟨by omega, by omega, by omega, g3, by rw [hN, Int.toNat_natCast]; exact g4⟩, hB _ ⟨rfl, hL, ⟨⟨rfl, hn⟩, hS⟩, rfl, by show s + N = s + N'.toNat; rw [hN, Int.toNat_natCast], hM2⟩⟩)
    · cases h
  · rename_i j9
    cases hc : (kn && Nat.ble (c + 1) (mmc m) && Nat.ble (s + mnf j9) (mms m)) with
    | false => rw [hc] at h; cases h
    | true =>
      rw [hc] at h
      dsimp only [cond] at h
      rw [frcN_eq, frcN_eq, frcN_eq, aputK_eq, agoN_eq] at h
      simp only [Bool.and_eq_true] at hc
      obtain ⟨⟨g2, g3⟩, g4⟩ := hc
      subst g2
      have g3 := Nat.le_of_ble_eq_true g3
      have g4 := Nat.le_of_ble_eq_true g4
      have hn := hM.1 rfl
      have hM2 := gM_new hM (d' := fun b j => if b = G.2.2 then (if mfty (32 * j9 + j.toNat) = 4 then -1 else 0) else d b j) (c := (j9, 0, (1, 0), [anr j9])) (kd := (j9 : Int)) (ln := 0) rfl rfl (fun i => by rw [if_pos hn.symm, Int.toNat_natCast]; exact anr_ok j9 i) (fun b hb => by funext j; rw [if_neg (by rw [hn]; exact hb)])
      exact a_next h (fun B C K hB => ⟨⟨by omega, g3, g4⟩, hB _ ⟨rfl, hL, ⟨⟨rfl, hn⟩, hS⟩, rfl, rfl, hM2⟩⟩)
  · rename_i e9
    cases hc : (Nat.blt 5 (mdep m) && Nat.ble (acats S + 82) (mneed m) && Nat.ble (c + 1) (mmc m) && Nat.ble (s + 6) (mms m)) with
    | false => rw [hc] at h; cases h
    | true =>
      rw [hc] at h
      dsimp only [cond] at h
      simp only [Bool.and_eq_true, Nat.blt_eq] at hc
      obtain ⟨⟨⟨g1, g2⟩, g3⟩, g4⟩ := hc
      have g2 := Nat.le_of_ble_eq_true g2
      rw [gL_cats hS] at g2
      exact a_end h (fun B C K hB => ⟨⟨g1, g2, Nat.le_of_ble_eq_true g3, Nat.le_of_ble_eq_true g4⟩, hB _ _ _ ⟨⟨fun e => (by cases e), hM.2⟩, rfl⟩⟩)
  · split at h
    · rename_i v
      obtain ⟨v', S', rfl, hv, hS⟩ := gL_cons hS
      obtain rfl := gL_nil hS
      cases hc : (aret1 m v) with
      | false => rw [hc] at h; cases h
      | true =>
        rw [hc] at h
        dsimp only [cond] at h
        exact a_end h (fun B C K hB => ⟨aret1_ok hv hc, hB _ _ _ ⟨hM, rfl, hv⟩⟩)
    · cases h
  · split at h
    · rename_i v
      obtain ⟨v', S', rfl, hv, hS⟩ := gL_cons hS
      obtain rfl := gL_nil hS
      cases hc : (Nat.beq (mret m) 3) with
      | false => rw [hc] at h; cases h
      | true =>
        rw [hc] at h
        dsimp only [cond] at h
        exact a_end h (fun B C K hB => ⟨Nat.eq_of_beq_eq_true hc, hB _ _ _ ⟨hM, rfl, hv⟩⟩)
    · cases h
  · split at h
    · rename_i v
      obtain ⟨v', S', rfl, hv, hS⟩ := gL_cons hS
      obtain rfl := gL_nil hS
      cases hc : (Nat.beq (mret m) 4) with
      | false => rw [hc] at h; cases h
      | true =>
        rw [hc] at h
        dsimp only [cond] at h
        exact a_end h (fun B C K hB => ⟨Nat.eq_of_beq_eq_true hc, hB _ _ _ ⟨hM, rfl, hv⟩⟩)
    · cases h
  · split at h
    · obtain rfl := gL_nil hS
      cases hc : (Nat.beq (mret m) 0) with
      | false => rw [hc] at h; cases h
      | true =>
        rw [hc] at h
        dsimp only [cond] at h
        exact a_end h (fun B C K hB => ⟨Nat.eq_of_beq_eq_true hc, hB _ _ _ ⟨hM, trivial⟩⟩)
    · cases h
  · rename_i j9
    split at h
    · rename_i as S0 hp
      obtain ⟨as', S1, hp', has, hS⟩ := gL_pop (as := []) (as' := []) _ hS trivial hp
      simp only [mX, hp']
      cases hc : (mroom m j9 && Nat.ble (alay as).length (mmaxL j9) && Nat.ble (acats S0) 8 && Nat.ble (c + mmc j9) (mmc m) && Nat.ble (s + mms j9) (mms m) && arecv M n j9 as) with
      | false => rw [hc] at h; cases h
      | true =>
        rw [hc] at h
        dsimp only [cond] at h
        rw [frcN_eq, frcN_eq] at h
        simp only [Bool.and_eq_true] at hc
        obtain ⟨⟨⟨⟨⟨g1, g2⟩, g3⟩, g4⟩, g5⟩, g6⟩ := hc
        rw [gL_len (gL_lay has)] at g2
        have g3 := Nat.le_of_ble_eq_true g3
        rw [gL_cats hS] at g3
        exact a_call h (fun B C K hB => ⟨⟨⟨g1, g2, g3, Nat.le_of_ble_eq_true g4, Nat.le_of_ble_eq_true g5⟩, arecv_ok hM has g6⟩, hB _ _ _ _ _ _ _ _ has ⟨rfl, hL, hS, rfl, rfl, hM⟩⟩)
    · cases h
  · cases h
