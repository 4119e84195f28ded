/-! ===== a small machine with typed places: the cells' shape is fixed ===== -/
-- a number, or a place: its type (0 to 11: an object of the class; from 12 on rows of a kind and a length) and its cell
abbrev tV : Type := mV ⊕ (Nat × Int)
def tk (j : Nat) : Nat := bif Nat.ble 15 j then (bif Nat.ble 23 j then (bif Nat.ble 27 j then (bif Nat.ble 29 j then (bif Nat.ble 30 j then (bif Nat.beq j 30 then 101 else 199) else (bif Nat.beq j 29 then 100 else 199)) else (bif Nat.ble 28 j then (bif Nat.beq j 28 then 100 else 199) else (bif Nat.beq j 27 then 100 else 199))) else (bif Nat.ble 25 j then (bif Nat.ble 26 j then (bif Nat.beq j 26 then 100 else 199) else (bif Nat.beq j 25 then 100 else 199)) else (bif Nat.ble 24 j then (bif Nat.beq j 24 then 102 else 199) else (bif Nat.beq j 23 then 206 else 199)))) else (bif Nat.ble 19 j then (bif Nat.ble 21 j then (bif Nat.ble 22 j then (bif Nat.beq j 22 then 100 else 199) else (bif Nat.beq j 21 then 100 else 199)) else (bif Nat.ble 20 j then (bif Nat.beq j 20 then 101 else 199) else (bif Nat.beq j 19 then 201 else 199))) else (bif Nat.ble 17 j then (bif Nat.ble 18 j then (bif Nat.beq j 18 then 100 else 199) else (bif Nat.beq j 17 then 100 else 199)) else (bif Nat.ble 16 j then (bif Nat.beq j 16 then 103 else 199) else (bif Nat.beq j 15 then 100 else 199))))) else (bif Nat.ble 7 j then (bif Nat.ble 11 j then (bif Nat.ble 13 j then (bif Nat.ble 14 j then (bif Nat.beq j 14 then 100 else 199) else (bif Nat.beq j 13 then 103 else 199)) else (bif Nat.ble 12 j then (bif Nat.beq j 12 then 206 else 199) else (bif Nat.beq j 11 then 11 else 199))) else (bif Nat.ble 9 j then (bif Nat.ble 10 j then (bif Nat.beq j 10 then 10 else 199) else (bif Nat.beq j 9 then 9 else 199)) else (bif Nat.ble 8 j then (bif Nat.beq j 8 then 8 else 199) else (bif Nat.beq j 7 then 7 else 199)))) else (bif Nat.ble 3 j then (bif Nat.ble 5 j then (bif Nat.ble 6 j then (bif Nat.beq j 6 then 6 else 199) else (bif Nat.beq j 5 then 5 else 199)) else (bif Nat.ble 4 j then (bif Nat.beq j 4 then 4 else 199) else (bif Nat.beq j 3 then 3 else 199))) else (bif Nat.ble 1 j then (bif Nat.ble 2 j then (bif Nat.beq j 2 then 2 else 199) else (bif Nat.beq j 1 then 1 else 199)) else (bif Nat.beq j 0 then 0 else 199))))
def tl (j : Nat) : Int := bif Nat.ble 15 j then (bif Nat.ble 23 j then (bif Nat.ble 27 j then (bif Nat.ble 29 j then (bif Nat.ble 30 j then (bif Nat.beq j 30 then 1 else 0) else (bif Nat.beq j 29 then 800 else 0)) else (bif Nat.ble 28 j then (bif Nat.beq j 28 then 1000 else 0) else (bif Nat.beq j 27 then 6232 else 0))) else (bif Nat.ble 25 j then (bif Nat.ble 26 j then (bif Nat.beq j 26 then 24928 else 0) else (bif Nat.beq j 25 then 3116 else 0)) else (bif Nat.ble 24 j then (bif Nat.beq j 24 then 1000 else 0) else (bif Nat.beq j 23 then 8 else 0)))) else (bif Nat.ble 19 j then (bif Nat.ble 21 j then (bif Nat.ble 22 j then (bif Nat.beq j 22 then 200 else 0) else (bif Nat.beq j 21 then 60 else 0)) else (bif Nat.ble 20 j then (bif Nat.beq j 20 then 16 else 0) else (bif Nat.beq j 19 then 16 else 0))) else (bif Nat.ble 17 j then (bif Nat.ble 18 j then (bif Nat.beq j 18 then 16 else 0) else (bif Nat.beq j 17 then 96 else 0)) else (bif Nat.ble 16 j then (bif Nat.beq j 16 then 6 else 0) else (bif Nat.beq j 15 then 6 else 0))))) else (bif Nat.ble 7 j then (bif Nat.ble 11 j then (bif Nat.ble 13 j then (bif Nat.ble 14 j then (bif Nat.beq j 14 then 5 else 0) else (bif Nat.beq j 13 then 2 else 0)) else (bif Nat.ble 12 j then (bif Nat.beq j 12 then 2 else 0) else (bif Nat.beq j 11 then 0 else 0))) else (bif Nat.ble 9 j then (bif Nat.ble 10 j then (bif Nat.beq j 10 then 0 else 0) else (bif Nat.beq j 9 then 0 else 0)) else (bif Nat.ble 8 j then (bif Nat.beq j 8 then 0 else 0) else (bif Nat.beq j 7 then 0 else 0)))) else (bif Nat.ble 3 j then (bif Nat.ble 5 j then (bif Nat.ble 6 j then (bif Nat.beq j 6 then 0 else 0) else (bif Nat.beq j 5 then 0 else 0)) else (bif Nat.ble 4 j then (bif Nat.beq j 4 then 0 else 0) else (bif Nat.beq j 3 then 0 else 0))) else (bif Nat.ble 1 j then (bif Nat.ble 2 j then (bif Nat.beq j 2 then 0 else 0) else (bif Nat.beq j 1 then 0 else 0)) else (bif Nat.beq j 0 then 0 else 0))))
-- a field that holds a place: its type, its distance
def tpy (j : Nat) : Nat := bif Nat.ble 259 j then (bif Nat.ble 323 j then (bif Nat.ble 354 j then (bif Nat.ble 357 j then (bif Nat.ble 360 j then (bif Nat.ble 369 j then (bif Nat.beq j 369 then 29 else 99) else (bif Nat.beq j 360 then 28 else 99)) else (bif Nat.ble 358 j then (bif Nat.beq j 358 then 13 else 99) else (bif Nat.beq j 357 then 25 else 99))) else (bif Nat.ble 355 j then (bif Nat.ble 356 j then (bif Nat.beq j 356 then 25 else 99) else (bif Nat.beq j 355 then 27 else 99)) else (bif Nat.beq j 354 then 26 else 99))) else (bif Nat.ble 326 j then (bif Nat.ble 328 j then (bif Nat.ble 353 j then (bif Nat.beq j 353 then 25 else 99) else (bif Nat.beq j 328 then 6 else 99)) else (bif Nat.ble 327 j then (bif Nat.beq j 327 then 7 else 99) else (bif Nat.beq j 326 then 2 else 99))) else (bif Nat.ble 324 j then (bif Nat.ble 325 j then (bif Nat.beq j 325 then 1 else 99) else (bif Nat.beq j 324 then 7 else 99)) else (bif Nat.beq j 323 then 13 else 99)))) else (bif Nat.ble 290 j then (bif Nat.ble 294 j then (bif Nat.ble 321 j then (bif Nat.ble 322 j then (bif Nat.beq j 322 then 12 else 99) else (bif Nat.beq j 321 then 0 else 99)) else (bif Nat.ble 320 j then (bif Nat.beq j 320 then 6 else 99) else (bif Nat.beq j 294 then 22 else 99))) else (bif Nat.ble 291 j then (bif Nat.ble 292 j then (bif Nat.beq j 292 then 22 else 99) else (bif Nat.beq j 291 then 22 else 99)) else (bif Nat.beq j 290 then 22 else 99))) else (bif Nat.ble 262 j then (bif Nat.ble 263 j then (bif Nat.ble 289 j then (bif Nat.beq j 289 then 22 else 99) else (bif Nat.beq j 263 then 21 else 99)) else (bif Nat.beq j 262 then 21 else 99)) else (bif Nat.ble 260 j then (bif Nat.ble 261 j then (bif Nat.beq j 261 then 21 else 99) else (bif Nat.beq j 260 then 21 else 99)) else (bif Nat.beq j 259 then 21 else 99))))) else (bif Nat.ble 131 j then (bif Nat.ble 195 j then (bif Nat.ble 198 j then (bif Nat.ble 257 j then (bif Nat.ble 258 j then (bif Nat.beq j 258 then 21 else 99) else (bif Nat.beq j 257 then 21 else 99)) else (bif Nat.ble 224 j then (bif Nat.beq j 224 then 24 else 99) else (bif Nat.beq j 198 then 9 else 99))) else (bif Nat.ble 196 j then (bif Nat.ble 197 j then (bif Nat.beq j 197 then 8 else 99) else (bif Nat.beq j 196 then 4 else 99)) else (bif Nat.beq j 195 then 3 else 99))) else (bif Nat.ble 134 j then (bif Nat.ble 160 j then (bif Nat.ble 192 j then (bif Nat.beq j 192 then 14 else 99) else (bif Nat.beq j 160 then 7 else 99)) else (bif Nat.beq j 134 then 19 else 99)) else (bif Nat.ble 132 j then (bif Nat.ble 133 j then (bif Nat.beq j 133 then 18 else 99) else (bif Nat.beq j 132 then 18 else 99)) else (bif Nat.beq j 131 then 18 else 99)))) else (bif Nat.ble 99 j then (bif Nat.ble 102 j then (bif Nat.ble 129 j then (bif Nat.ble 130 j then (bif Nat.beq j 130 then 18 else 99) else (bif Nat.beq j 129 then 18 else 99)) else (bif Nat.ble 103 j then (bif Nat.beq j 103 then 17 else 99) else (bif Nat.beq j 102 then 15 else 99))) else (bif Nat.ble 100 j then (bif Nat.ble 101 j then (bif Nat.beq j 101 then 16 else 99) else (bif Nat.beq j 100 then 15 else 99)) else (bif Nat.beq j 99 then 15 else 99))) else (bif Nat.ble 65 j then (bif Nat.ble 97 j then (bif Nat.ble 98 j then (bif Nat.beq j 98 then 15 else 99) else (bif Nat.beq j 97 then 15 else 99)) else (bif Nat.beq j 65 then 6 else 99)) else (bif Nat.ble 32 j then (bif Nat.ble 64 j then (bif Nat.beq j 64 then 5 else 99) else (bif Nat.beq j 32 then 20 else 99)) else (bif Nat.beq j 0 then 23 else 99)))))
def tpo (j : Nat) : Int := bif Nat.ble 259 j then (bif Nat.ble 323 j then (bif Nat.ble 354 j then (bif Nat.ble 357 j then (bif Nat.ble 360 j then (bif Nat.ble 369 j then (bif Nat.beq j 369 then 8 else 0) else (bif Nat.beq j 360 then 7 else 0)) else (bif Nat.ble 358 j then (bif Nat.beq j 358 then 6 else 0) else (bif Nat.beq j 357 then 5 else 0))) else (bif Nat.ble 355 j then (bif Nat.ble 356 j then (bif Nat.beq j 356 then 4 else 0) else (bif Nat.beq j 355 then 3 else 0)) else (bif Nat.beq j 354 then 2 else 0))) else (bif Nat.ble 326 j then (bif Nat.ble 328 j then (bif Nat.ble 353 j then (bif Nat.beq j 353 then 1 else 0) else (bif Nat.beq j 328 then 580 else 0)) else (bif Nat.ble 327 j then (bif Nat.beq j 327 then 578 else 0) else (bif Nat.beq j 326 then 576 else 0))) else (bif Nat.ble 324 j then (bif Nat.ble 325 j then (bif Nat.beq j 325 then 574 else 0) else (bif Nat.beq j 324 then 572 else 0)) else (bif Nat.beq j 323 then 571 else 0)))) else (bif Nat.ble 290 j then (bif Nat.ble 294 j then (bif Nat.ble 321 j then (bif Nat.ble 322 j then (bif Nat.beq j 322 then 570 else 0) else (bif Nat.beq j 321 then 64 else 0)) else (bif Nat.ble 320 j then (bif Nat.beq j 320 then 1 else 0) else (bif Nat.beq j 294 then 5 else 0))) else (bif Nat.ble 291 j then (bif Nat.ble 292 j then (bif Nat.beq j 292 then 4 else 0) else (bif Nat.beq j 291 then 3 else 0)) else (bif Nat.beq j 290 then 2 else 0))) else (bif Nat.ble 262 j then (bif Nat.ble 263 j then (bif Nat.ble 289 j then (bif Nat.beq j 289 then 1 else 0) else (bif Nat.beq j 263 then 7 else 0)) else (bif Nat.beq j 262 then 6 else 0)) else (bif Nat.ble 260 j then (bif Nat.ble 261 j then (bif Nat.beq j 261 then 5 else 0) else (bif Nat.beq j 260 then 4 else 0)) else (bif Nat.beq j 259 then 3 else 0))))) else (bif Nat.ble 131 j then (bif Nat.ble 195 j then (bif Nat.ble 198 j then (bif Nat.ble 257 j then (bif Nat.ble 258 j then (bif Nat.beq j 258 then 2 else 0) else (bif Nat.beq j 257 then 1 else 0)) else (bif Nat.ble 224 j then (bif Nat.beq j 224 then 1 else 0) else (bif Nat.beq j 198 then 57 else 0))) else (bif Nat.ble 196 j then (bif Nat.ble 197 j then (bif Nat.beq j 197 then 49 else 0) else (bif Nat.beq j 196 then 10 else 0)) else (bif Nat.beq j 195 then 2 else 0))) else (bif Nat.ble 134 j then (bif Nat.ble 160 j then (bif Nat.ble 192 j then (bif Nat.beq j 192 then 1 else 0) else (bif Nat.beq j 160 then 1 else 0)) else (bif Nat.beq j 134 then 6 else 0)) else (bif Nat.ble 132 j then (bif Nat.ble 133 j then (bif Nat.beq j 133 then 5 else 0) else (bif Nat.beq j 132 then 4 else 0)) else (bif Nat.beq j 131 then 3 else 0)))) else (bif Nat.ble 99 j then (bif Nat.ble 102 j then (bif Nat.ble 129 j then (bif Nat.ble 130 j then (bif Nat.beq j 130 then 2 else 0) else (bif Nat.beq j 129 then 1 else 0)) else (bif Nat.ble 103 j then (bif Nat.beq j 103 then 7 else 0) else (bif Nat.beq j 102 then 6 else 0))) else (bif Nat.ble 100 j then (bif Nat.ble 101 j then (bif Nat.beq j 101 then 5 else 0) else (bif Nat.beq j 100 then 4 else 0)) else (bif Nat.beq j 99 then 3 else 0))) else (bif Nat.ble 65 j then (bif Nat.ble 97 j then (bif Nat.ble 98 j then (bif Nat.beq j 98 then 2 else 0) else (bif Nat.beq j 97 then 1 else 0)) else (bif Nat.beq j 65 then 4 else 0)) else (bif Nat.ble 32 j then (bif Nat.ble 64 j then (bif Nat.beq j 64 then 1 else 0) else (bif Nat.beq j 32 then 1 else 0)) else (bif Nat.beq j 0 then 1 else 0)))))
-- rows of objects: their class, the first, the step
def tec (j : Nat) : Nat := bif Nat.ble 19 j then (bif Nat.ble 23 j then (bif Nat.beq j 23 then 6 else 99) else (bif Nat.beq j 19 then 1 else 99)) else (bif Nat.beq j 12 then 6 else 99)
def teb (j : Nat) : Int := bif Nat.ble 19 j then (bif Nat.ble 23 j then (bif Nat.beq j 23 then 1 else 0) else (bif Nat.beq j 19 then 1 else 0)) else (bif Nat.beq j 12 then 73 else 0)
def tes (j : Nat) : Int := bif Nat.ble 19 j then (bif Nat.ble 23 j then (bif Nat.beq j 23 then 63 else 0) else (bif Nat.beq j 19 then 2 else 0)) else (bif Nat.beq j 12 then 63 else 0)
abbrev tSt : Type := Nat × List tV × List tV × Nat × Nat × mD
abbrev tK : Type := mRes → mD → Prop
def tu : tV := .inl mu
def tc2 : tV → Bool
  | .inl v => mc2 v
  | .inr _ => false
def tget : List tV → Nat → tV
  | [], _ => tu
  | v :: _, 0 => v
  | _ :: l, i + 1 => tget l i
def tput1 : List tV → Nat → tV → List tV
  | [], _, _ => []
  | _ :: l, 0, v => v :: l
  | w :: l, 1, v => (bif tc2 w then tu else w) :: tput1 l 0 v
  | w :: l, i + 2, v => w :: tput1 l (i + 1) v
def thead : List tV → List tV
  | [] => []
  | _ :: l => tu :: l
def tput2 : List tV → Nat → tV → List tV
  | [], _, _ => []
  | _ :: l, 0, v => v :: thead l
  | w :: l, 1, v => (bif tc2 w then tu else w) :: tput2 l 0 v
  | w :: l, i + 2, v => w :: tput2 l (i + 1) v
def tpop : Nat → List tV → List tV → Option (List tV × List tV)
  | 0, S, as => some (as, S)
  | _ + 1, [], _ => none
  | n + 1, v :: S, as => tpop n S (v :: as)
def tcats : List tV → Nat
  | [] => 0
  | v :: S => (bif tc2 v then 2 else 1) + tcats S
def tlay : List tV → List tV
  | [] => []
  | v :: l => bif tc2 v then v :: tu :: tlay l else v :: tlay l
def tpad : Nat → List tV → List tV
  | 0, _ => []
  | n + 1, [] => tu :: tpad n []
  | n + 1, v :: l => v :: tpad n l
def tloc (j : Nat) (as : List tV) : List tV := tpad (mmaxL j) (tlay as)
def tent (j : Nat) (as : List tV) (d : mD) : tSt := (0, tloc j as, [], 0, 0, d)
def trecv (j : Nat) (as : List tV) : Bool := bif Nat.beq (mkd j) 0 then true else match as with
  | .inr (t, _) :: _ => Nat.beq t (mcl j) && Nat.blt t 12
  | _ => false
def troom (m j : Nat) (as S : List tV) : Bool := mroom m j && Nat.ble (tlay as).length (mmaxL j) && Nat.ble (tcats S) 8
def troomS (m : Nat) (S : List tV) : Bool := Nat.ble 4 (mdep m) && Nat.ble (tcats S) 8 && Nat.ble 85 (mneed m)
def troomN (m : Nat) (S : List tV) (k : Nat) : Bool := Nat.ble 1 (mdep m) && Nat.ble (tcats S + k) (mneed m)
def troomT (m : Nat) (S : List tV) (c s : Nat) : Bool := Nat.blt 5 (mdep m) && Nat.ble (tcats S + 82) (mneed m) && Nat.ble (c + 1) (mmc m) && Nat.ble (s + 6) (mms m)
def tif (b : Bool) (P : Prop) : Prop := bif b then P else False
def tret1 (m : Nat) (v : Int) (P : Prop) : Prop := bif Nat.beq (mret m) 1 then P else bif Nat.beq (mret m) 2 then (v = 0 ∨ v = 1) ∧ P else False
def tback (m pc : Nat) (L S : List tV) (c s : Nat) (B : tSt → Prop) (K : tK) : tK := fun r d => match r with
  | .inl (some v) => B (pc + 3, L, .inl v :: S, c, s, d)
  | .inl none => B (pc + 3, L, S, c, s, d)
  | .inr e => match mhnd m pc e with
    | some n => tret1 m n (K (.inl (some (0, n))) d)
    | none => tif (mnoh m) (K (.inr e) d)
def tfit (t : Nat) (v : mV) (P : Prop) : Prop := match t, v with
  | 0, (0, _) => P
  | 1, (0, x) => (x = 0 ∨ x = 1) ∧ P
  | 2, (0, x) => (-128 ≤ x ∧ x ≤ 127) ∧ P
  | 3, (1, _) => P
  | _, _ => False
def tsw (x : Int) (f : Nat → Prop) : Int → List Int → Prop → Prop
  | _, [], P => P
  | k, t :: ts, P => (x = k → f t.toNat) ∧ tsw x f (k + 1) ts P
def zeqT (x y : Int) : Bool := decide (x = y)
def zleT (x y : Int) : Bool := decide (x ≤ y)
def tX (O : mO) (m len : Nat) (i : Instr) (pc : Nat) (L S : List tV) (c s : Nat) (d : mD) (B : tSt → Prop) (C : Nat → List tV → mD → tK → Prop) (K : tK) : Prop := match i with
  | .iconst z => B (pc + len, L, .inl (0, z) :: S, c, s, d)
  | .bipush z => B (pc + len, L, .inl (0, z) :: S, c, s, d)
  | .sipush z => B (pc + len, L, .inl (0, z) :: S, c, s, d)
  | .lconst z => B (pc + len, L, .inl (1, ((z : Nat) : Int)) :: S, c, s, d)
  | .jsr_w z => B (pc + len, L, .inl (1, z) :: S, c, s, d)
  | .dconst _ => B (pc + len, L, .inl (2, 0) :: S, c, s, d)
  | .ldc j => B (pc + len, L, .inl (5, (j : Int)) :: S, c, s, d)
  | .getstatic j => B (pc + len, L, .inl (4, (j : Int)) :: S, c, s, d)
  | .iload q => match tget L q with
    | .inl (0, x) => B (pc + len, L, .inl (0, x) :: S, c, s, d)
    | _ => False
  | .lload q => match tget L q with
    | .inl (1, x) => B (pc + len, L, .inl (1, x) :: S, c, s, d)
    | _ => False
  | .dload q => match tget L q with
    | .inl (2, x) => B (pc + len, L, .inl (2, x) :: S, c, s, d)
    | _ => False
  | .aload q => match tget L q with
    | .inr (t, x) => B (pc + len, L, .inr (t, x) :: S, c, s, d)
    | .inl (4, x) => B (pc + len, L, .inl (4, x) :: S, c, s, d)
    | .inl (5, x) => B (pc + len, L, .inl (5, x) :: S, c, s, d)
    | _ => False
  | .istore q => match S with
    | .inl (0, x) :: S => B (pc + len, tput1 L q (.inl (0, x)), S, c, s, d)
    | _ => False
  | .astore q => match S with
    | .inr (t, x) :: S => B (pc + len, tput1 L q (.inr (t, x)), S, c, s, d)
    | _ => False
  | .lstore q => match S with
    | .inl (1, x) :: S => B (pc + len, tput2 L q (.inl (1, x)), S, c, s, d)
    | _ => False
  | .dstore q => match S with
    | .inl (2, x) :: S => B (pc + len, tput2 L q (.inl (2, x)), S, c, s, d)
    | _ => False
  | .iinc q z => match tget L q with
    | .inl (0, x) => B (pc + len, tput1 L q (.inl (0, x + z)), S, c, s, d)
    | _ => False
  | .dup => match S with
    | .inl (0, x) :: S => B (pc + 1, L, .inl (0, x) :: .inl (0, x) :: S, c, s, d)
    | .inr (t, x) :: S => B (pc + 1, L, .inr (t, x) :: .inr (t, x) :: S, c, s, d)
    | _ => False
  | .dup2 => match S with
    | .inl (0, y) :: .inr (t, x) :: S => B (pc + 1, L, .inl (0, y) :: .inr (t, x) :: .inl (0, y) :: .inr (t, x) :: S, c, s, d)
    | _ => False
  | .pop => match S with
    | .inl (0, _) :: S => B (pc + 1, L, S, c, s, d)
    | _ => False
  | .iadd => match S with
    | .inl (0, y) :: .inl (0, x) :: S => B (pc + 1, L, .inl (0, x + y) :: S, c, s, d)
    | _ => False
  | .isub => match S with
    | .inl (0, y) :: .inl (0, x) :: S => B (pc + 1, L, .inl (0, x - y) :: S, c, s, d)
    | _ => False
  | .imul => match S with
    | .inl (0, y) :: .inl (0, x) :: S => B (pc + 1, L, .inl (0, x * y) :: S, c, s, d)
    | _ => False
  | .idiv => match S with
    | .inl (0, y) :: .inl (0, x) :: S => (0 ≤ x ∧ x ≤ 2147483647 ∧ 0 < y ∧ y ≤ 2147483647) ∧ B (pc + 1, L, .inl (0, x / y) :: S, c, s, d)
    | _ => False
  | .irem => match S with
    | .inl (0, y) :: .inl (0, x) :: S => (0 ≤ x ∧ x ≤ 2147483647 ∧ 0 < y ∧ y ≤ 2147483647) ∧ B (pc + 1, L, .inl (0, x % y) :: S, c, s, d)
    | _ => False
  | .iand => match S with
    | .inl (0, y) :: .inl (0, x) :: S => B (pc + 1, L, .inl (0, miand x y) :: S, c, s, d)
    | _ => False
  | .ior => match S with
    | .inl (0, y) :: .inl (0, x) :: S => B (pc + 1, L, .inl (0, mior x y) :: S, c, s, d)
    | _ => False
  | .ishl => match S with
    | .inl (0, y) :: .inl (0, x) :: S => B (pc + 1, L, .inl (0, mishl x y) :: S, c, s, d)
    | _ => False
  | .ishr => match S with
    | .inl (0, y) :: .inl (0, x) :: S => B (pc + 1, L, .inl (0, mishr x y) :: S, c, s, d)
    | _ => False
  | .iushr => match S with
    | .inl (0, y) :: .inl (0, x) :: S => B (pc + 1, L, .inl (0, miushr x y) :: S, c, s, d)
    | _ => False
  | .ladd => match S with
    | .inl (1, y) :: .inl (1, x) :: S => B (pc + 1, L, .inl (1, x + y) :: S, c, s, d)
    | _ => False
  | .lsub => match S with
    | .inl (1, y) :: .inl (1, x) :: S => B (pc + 1, L, .inl (1, x - y) :: S, c, s, d)
    | _ => False
  | .lmul => match S with
    | .inl (1, y) :: .inl (1, x) :: S => B (pc + 1, L, .inl (1, x * y) :: S, c, s, d)
    | _ => False
  | .land => match S with
    | .inl (1, y) :: .inl (1, x) :: S => B (pc + 1, L, .inl (1, mland x y) :: S, c, s, d)
    | _ => False
  | .lor => match S with
    | .inl (1, y) :: .inl (1, x) :: S => B (pc + 1, L, .inl (1, mlor x y) :: S, c, s, d)
    | _ => False
  | .lxor => match S with
    | .inl (1, y) :: .inl (1, x) :: S => B (pc + 1, L, .inl (1, mlxor x y) :: S, c, s, d)
    | _ => False
  | .lshl => match S with
    | .inl (0, y) :: .inl (1, x) :: S => B (pc + 1, L, .inl (1, mlshl x y) :: S, c, s, d)
    | _ => False
  | .lushr => match S with
    | .inl (0, y) :: .inl (1, x) :: S => B (pc + 1, L, .inl (1, mlushr x y) :: S, c, s, d)
    | _ => False
  | .lcmp => match S with
    | .inl (1, y) :: .inl (1, x) :: S => (mInL x ∧ mInL y) ∧ B (pc + 1, L, .inl (0, mcmp x y) :: S, c, s, d)
    | _ => False
  | .ddiv => match S with
    | .inl (2, y) :: .inl (2, x) :: S => (vf_n64 (FP.ddiv (mbit x) (mbit y))) ∧ B (pc + 1, L, .inl (2, mddiv x y) :: S, c, s, d)
    | _ => False
  | .dcmp o => match S with
    | .inl (2, y) :: .inl (2, x) :: S => B (pc + 1, L, .inl (0, mdcmp o x y) :: S, c, s, d)
    | _ => False
  | .i2b => match S with
    | .inl (0, x) :: S => B (pc + 1, L, .inl (0, mi2b x) :: S, c, s, d)
    | _ => False
  | .i2l => match S with
    | .inl (0, x) :: S => mInR x ∧ B (pc + 1, L, .inl (1, x) :: S, c, s, d)
    | _ => False
  | .l2i => match S with
    | .inl (1, x) :: S => B (pc + 1, L, .inl (0, x) :: S, c, s, d)
    | _ => False
  | .i2d => match S with
    | .inl (0, x) :: S => B (pc + 1, L, .inl (2, mi2d x) :: S, c, s, d)
    | _ => False
  | .goto t => B (t.toNat, L, S, c, s, d)
  | .ifCond o t => match S with
    | .inl (0, x) :: S => mInR x ∧ (mcond o x 0 → B (t.toNat, L, S, c, s, d)) ∧ (mncond o x 0 → B (pc + 3, L, S, c, s, d))
    | _ => False
  | .if_icmp o t => match S with
    | .inl (0, y) :: .inl (0, x) :: S => (mInR x ∧ mInR y) ∧ (mcond o x y → B (t.toNat, L, S, c, s, d)) ∧ (mncond o x y → B (pc + 3, L, S, c, s, d))
    | _ => False
  | .tableswitch t lo hi ts => match S with
    | .inl (0, x) :: S => mInR x ∧ tsw x (fun q => B (q, L, S, c, s, d)) lo ts.toList (x < lo ∨ hi < x → B (t.toNat, L, S, c, s, d))
    | _ => False
  | .getfield g => match S with
    | .inr (t, a) :: S => bif Nat.beq t (g / 32) && Nat.blt t 12 then (bif Nat.beq (mfty g) 4 then B (pc + 3, L, .inr (tpy g, a + tpo g) :: S, c, s, d) else B (pc + 3, L, .inl (mtag (mfty g), d a ((g % 32 : Nat) : Int)) :: S, c, s, d)) else False
    | _ => False
  | .putfield g => match S with
    | .inl v :: .inr (t, a) :: S => bif Nat.beq t (g / 32) && Nat.blt t 12 && !Nat.beq (mfty g) 4 then tfit (mfty g) v (B (pc + 3, L, S, c, s, mset d a ((g % 32 : Nat) : Int) v.2)) else False
    | _ => False
  | .arraylength => match S with
    | .inl (4, k) :: S => bif zeqT k 2 then B (pc + 1, L, .inl (0, O.1 k) :: S, c, s, d) else False
    | .inr (t, a) :: S => bif Nat.ble 100 (tk t) then B (pc + 1, L, .inl (0, tl t) :: S, c, s, d) else False
    | _ => False
  | .iaload => match S with
    | .inl (0, i) :: .inr (t, a) :: S => bif Nat.beq (tk t) 100 then (0 ≤ i ∧ i < tl t) ∧ B (pc + 1, L, .inl (0, d a i) :: S, c, s, d) else False
    | .inl (0, i) :: .inl (4, .ofNat k) :: S => bif Nat.ble k 2 then (0 ≤ i ∧ i < O.1 (k : Int)) ∧ B (pc + 1, L, .inl (0, O.2 (k : Int) i) :: S, c, s, d) else False
    | _ => False
  | .laload => match S with
    | .inl (0, i) :: .inr (t, a) :: S => bif Nat.beq (tk t) 101 then (0 ≤ i ∧ i < tl t) ∧ B (pc + 1, L, .inl (1, d a i) :: S, c, s, d) else False
    | _ => False
  | .baload => match S with
    | .inl (0, i) :: .inr (t, a) :: S => bif Nat.beq (tk t) 102 || Nat.beq (tk t) 103 then (0 ≤ i ∧ i < tl t) ∧ B (pc + 1, L, .inl (0, d a i) :: S, c, s, d) else False
    | _ => False
  | .aaload => match S with
    | .inl (0, i) :: .inr (t, a) :: S => bif Nat.ble 200 (tk t) then (0 ≤ i ∧ i < tl t) ∧ B (pc + 1, L, .inr (tec t, a + (teb t + tes t * i)) :: S, c, s, d) else False
    | _ => False
  | .iastore => match S with
    | .inl (0, v) :: .inl (0, i) :: .inr (t, a) :: S => bif Nat.beq (tk t) 100 then (0 ≤ i ∧ i < tl t) ∧ B (pc + 1, L, S, c, s, mset d a i v) else False
    | _ => False
  | .lastore => match S with
    | .inl (1, v) :: .inl (0, i) :: .inr (t, a) :: S => bif Nat.beq (tk t) 101 then (0 ≤ i ∧ i < tl t) ∧ B (pc + 1, L, S, c, s, mset d a i v) else False
    | _ => False
  | .bastore => match S with
    | .inl (0, v) :: .inl (0, i) :: .inr (t, a) :: S => bif Nat.beq (tk t) 102 then ((-128 ≤ v ∧ v ≤ 127) ∧ 0 ≤ i ∧ i < tl t) ∧ B (pc + 1, L, S, c, s, mset d a i v) else bif Nat.beq (tk t) 103 then ((v = 0 ∨ v = 1) ∧ 0 ≤ i ∧ i < tl t) ∧ B (pc + 1, L, S, c, s, mset d a i v) else False
    | _ => False
  | .checkcast e => tif (troomT m S c s) (K (.inr e) d)
  | .invokestatic j => match tpop (mnp j) S [] with
    | some (as, S) => tif (troom m j as S && trecv j as) (tif (Nat.ble (c + mmc j) (mmc m) && Nat.ble (s + mms j) (mms m)) (C j as d (tback m pc L S (c + mmc j) (s + mms j) B K)))
    | none => False
  | .invokespecial j => match j, S with
    | 0, .inr (t, a) :: S => tif (troomN m S 12) (B (pc + 3, L, S, c, s, d))
    | 1, .inl (0, y) :: .inl (0, x) :: S => tif (troomN m S 13) ((mInR x ∧ mInR y) ∧ B (pc + 3, L, .inl (0, mmax x y) :: S, c, s, d))
    | 2, .inl (0, y) :: .inl (0, x) :: S => tif (troomN m S 13) ((mInR x ∧ mInR y) ∧ B (pc + 3, L, .inl (0, mmin x y) :: S, c, s, d))
    | 3, .inl (0, n) :: .inl (0, dp) :: .inr (ty, y) :: .inl (0, sp) :: .inr (tx, x) :: S => tif (troomN m S 18 && (Nat.beq (tk tx) 100 || Nat.beq (tk tx) 101) && Nat.beq (tk ty) (tk tx) && zleT (tl tx) 100000 && zleT (tl ty) 100000) ((0 ≤ sp ∧ 0 ≤ dp ∧ 0 ≤ n ∧ sp + n ≤ tl tx ∧ dp + n ≤ tl ty) ∧ B (pc + 3, L, S, c, s, mcopy d x sp y dp n))
    | 4, .inl (5, k) :: S => tif (troomS m S) ((0 ≤ k ∧ k < 7) ∧ B (pc + 3, L, .inl (0, tsl k) :: S, c, s, d))
    | 5, .inl (0, i) :: .inl (5, k) :: S => tif (troomS m S) ((0 ≤ k ∧ k < 7 ∧ 0 ≤ i ∧ i < tsl k) ∧ B (pc + 3, L, .inl (0, tsc k i) :: S, c, s, d))
    | _, _ => False
  | .ireturn => match S with
    | [.inl (0, v)] => tret1 m v (K (.inl (some (0, v))) d)
    | _ => False
  | .lreturn => match S with
    | [.inl (1, v)] => tif (Nat.beq (mret m) 3) (K (.inl (some (1, v))) d)
    | _ => False
  | .dreturn => match S with
    | [.inl (2, v)] => tif (Nat.beq (mret m) 4) (K (.inl (some (2, v))) d)
    | _ => False
  | .return_ => match S with
    | [] => tif (Nat.beq (mret m) 0) (K (.inl none) d)
    | _ => False
  | _ => False
def tstp (O : mO) (B : tSt → Prop) (C : Nat → List tV → mD → tK → Prop) (m : Nat) (K : tK) : tSt → Prop
  | (pc, L, S, c, s, d) => match mfetch m pc with
    | some (i, len) => tX O m len i pc L S c s d B C K
    | none => False
/-! ===== runs of the machine with typed places are runs of the small machine ===== -/
def mcv : tV → mV
  | .inl v => v
  | .inr (_, a) => (3, a)
abbrev tW : Type := (Int → Int) × (Int → Int)
def tokV (W : tW) : tV → Prop
  | .inl _ => True
  | .inr (t, a) => (0 ≤ a ∧ a < 779) ∧ W.1 a = (tk t : Int) ∧ (12 ≤ t → W.2 a = tl t)
def tokL (W : tW) : List tV → Prop
  | [] => True
  | v :: l => tokV W v ∧ tokL W l
theorem okc {W : tW} {v : tV} {l : List tV} (h : tokV W v) (hl : tokL W l) : tokL W (v :: l) := ⟨h, hl⟩
theorem oki {W : tW} {v : mV} {l : List tV} (hl : tokL W l) : tokL W (.inl v :: l) := ⟨trivial, hl⟩
-- the shape of the cells
def tSh (W : tW) (d : mD) : Prop := (∀ (a : Int) (g : Nat), 0 ≤ a → a < 779 → W.1 a = ((g / 32 : Nat) : Int) → mfty g = 4 → d a ((g % 32 : Nat) : Int) = a + tpo g ∧ tokV W (.inr (tpy g, a + tpo g)))
  ∧ ∀ (a : Int) (t : Nat) (i : Int), tokV W (.inr (t, a)) → 200 ≤ tk t → 0 ≤ i → i < tl t → d a i = a + (teb t + tes t * i) ∧ tokV W (.inr (tec t, a + (teb t + tes t * i)))
theorem tk_obj : ∀ t : Nat, t < 12 → tk t = t := by decide
theorem tobj {W : tW} {t : Nat} {a : Int} (h : tokV W (.inr (t, a))) (ht : t < 12) : W.1 a = (t : Int) := by
  rw [h.2.1, tk_obj t ht]
theorem trow {W : tW} {t : Nat} {a : Int} (h : tokV W (.inr (t, a))) (ht : 100 ≤ tk t) : 0 ≤ a ∧ W.1 a = (tk t : Int) ∧ W.2 a = tl t := by
  rcases Nat.lt_or_ge t 12 with h1 | h1
  · rw [tk_obj t h1] at ht
    omega
  · exact ⟨h.1.1, h.2.1, h.2.2 h1⟩
theorem tk_hi (j : Nat) (h : 31 ≤ j) : tk j = 199 := by
  unfold tk
  rw [show Nat.ble 15 j = true from Nat.ble_eq_true_of_le (by omega)]
  dsimp only [cond]
  rw [show Nat.ble 23 j = true from Nat.ble_eq_true_of_le (by omega)]
  dsimp only [cond]
  rw [show Nat.ble 27 j = true from Nat.ble_eq_true_of_le (by omega)]
  dsimp only [cond]
  rw [show Nat.ble 29 j = true from Nat.ble_eq_true_of_le (by omega)]
  dsimp only [cond]
  rw [show Nat.ble 30 j = true from Nat.ble_eq_true_of_le (by omega)]
  dsimp only [cond]
  rw [show Nat.beq j 30 = false from by cases hb : Nat.beq j 30 with | false => rfl | true => exact absurd (Nat.eq_of_beq_eq_true hb) (by omega)]
theorem tfty_hi (j : Nat) (h : 384 ≤ j) : mfty j = 0 := by
  unfold mfty
  rw [show Nat.ble 260 j = true from Nat.ble_eq_true_of_le (by omega)]
  dsimp only [cond]
  rw [show Nat.ble 324 j = true from Nat.ble_eq_true_of_le (by omega)]
  dsimp only [cond]
  rw [show Nat.ble 355 j = true from Nat.ble_eq_true_of_le (by omega)]
  dsimp only [cond]
  rw [show Nat.ble 358 j = true from Nat.ble_eq_true_of_le (by omega)]
  dsimp only [cond]
  rw [show Nat.ble 365 j = true from Nat.ble_eq_true_of_le (by omega)]
  dsimp only [cond]
  rw [show Nat.ble 369 j = true from Nat.ble_eq_true_of_le (by omega)]
  dsimp only [cond]
  rw [show Nat.beq j 369 = false from by cases hb : Nat.beq j 369 with | false => rfl | true => exact absurd (Nat.eq_of_beq_eq_true hb) (by omega)]
theorem tfg_lt : ∀ g : Nat, mfty g = 4 → g / 32 < 12 := by
  intro g h
  rcases Nat.lt_or_ge g 384 with h1 | h1
  · omega
  · exfalso
    have h2 : mfty g = 0 := tfty_hi g h1
    omega
theorem tbb {q : Nat} (h : (Nat.beq q 102 || Nat.beq q 103) = true) : q = 102 ∨ q = 103 := by
  rw [Bool.or_eq_true] at h
  exact h.imp Nat.eq_of_beq_eq_true Nat.eq_of_beq_eq_true
theorem tSh.setF {W : tW} {d : mD} (hd : tSh W d) {a : Int} {g : Nat} {v : Int} (hk : W.1 a = ((g / 32 : Nat) : Int)) (h12 : g / 32 < 12) (hc : Nat.beq (mfty g) 4 = false) : tSh W (mset d a ((g % 32 : Nat) : Int) v) := by
  refine ⟨fun b h b0 b1 hb h4 => ?_, fun b t i hb ht h0 h1 => ?_⟩
  · have k := hd.1 b h b0 b1 hb h4
    refine ⟨?_, k.2⟩
    unfold mset
    rw [if_neg, k.1]
    intro e
    obtain ⟨e1, e2⟩ := e
    rw [e1, hk] at hb
    have e3 : h = g := by omega
    rw [e3] at h4
    rw [h4] at hc
    cases hc
  · have k := hd.2 b t i hb ht h0 h1
    refine ⟨?_, k.2⟩
    have hn : b ≠ a := by
      intro e
      obtain ⟨-, e1, -⟩ := trow hb (by omega)
      rw [e, hk] at e1
      omega
    rw [mset_ne hn]
    exact k.1
theorem tSh.oth {W : tW} {d d' : mD} (hd : tSh W d) {a : Int} {t : Nat} (hk : W.1 a = (tk t : Int)) (h1 : 100 ≤ tk t) (h2 : tk t < 200) (h : ∀ b, b ≠ a → d' b = d b) : tSh W d' := by
  refine ⟨fun b g b0 b1 hb h4 => ?_, fun b t' i hb ht h0 h3 => ?_⟩
  · have k := hd.1 b g b0 b1 hb h4
    refine ⟨?_, k.2⟩
    rw [h b, k.1]
    intro e
    rw [e, hk] at hb
    have h9 := tfg_lt g h4
    omega
  · have k := hd.2 b t' i hb ht h0 h3
    refine ⟨?_, k.2⟩
    rw [h b, k.1]
    intro e
    obtain ⟨-, e1, -⟩ := trow hb (by omega)
    rw [e, hk] at e1
    omega
theorem tSh.setA {W : tW} {d : mD} (hd : tSh W d) {a i v : Int} {t : Nat} (hk : W.1 a = (tk t : Int)) (h1 : 100 ≤ tk t) (h2 : tk t < 200) : tSh W (mset d a i v) := hd.oth hk h1 h2 (fun _ hb => mset_ne hb)
theorem tSh.cpyA {W : tW} {d : mD} (hd : tSh W d) {x sp y dp n : Int} {t : Nat} (hk : W.1 y = (tk t : Int)) (h1 : 100 ≤ tk t) (h2 : tk t < 200) : tSh W (mcopy d x sp y dp n) := hd.oth hk h1 h2 (fun _ hb => mcopy_ne hb)
theorem tc2_map : ∀ v : tV, mc2 (mcv v) = tc2 v
  | .inl _ => rfl
  | .inr _ => rfl
theorem tget_map : ∀ (L : List tV) (k : Nat), mget (L.map mcv) k = mcv (tget L k)
  | [], _ => rfl
  | _ :: _, 0 => rfl
  | _ :: l, k + 1 => tget_map l k
theorem ok_get {W : tW} : ∀ {L : List tV}, tokL W L → ∀ k, tokV W (tget L k)
  | [], _, _ => trivial
  | _ :: _, h, 0 => h.1
  | _ :: _, h, k + 1 => ok_get h.2 k
theorem tput1_map : ∀ (L : List tV) (k : Nat) (v : tV), (tput1 L k v).map mcv = mput1 (L.map mcv) k (mcv v)
  | [], _, _ => by simp [tput1, mput1]
  | _ :: l, 0, v => rfl
  | w :: l, 1, v => by
    simp only [tput1, mput1, List.map_cons, tc2_map]
    rw [tput1_map l 0 v]
    cases tc2 w <;> rfl
  | w :: l, k + 2, v => by
    simp only [tput1, mput1, List.map_cons]
    rw [tput1_map l (k + 1) v]
theorem ok_tput1 {W : tW} : ∀ {L : List tV}, tokL W L → ∀ {v : tV}, tokV W v → ∀ k, tokL W (tput1 L k v)
  | [], _, _, _, _ => by simp [tput1, tokL]
  | _ :: _, h, _, hv, 0 => ⟨hv, h.2⟩
  | w :: _, h, _, hv, 1 => by
    simp only [tput1]
    refine ⟨?_, ok_tput1 h.2 hv 0⟩
    cases tc2 w
    · exact h.1
    · trivial
  | _ :: _, h, _, hv, k + 2 => by
    simp only [tput1]
    exact ⟨h.1, ok_tput1 h.2 hv (k + 1)⟩
theorem thead_map : ∀ L : List tV, (thead L).map mcv = mhead (L.map mcv)
  | [] => rfl
  | _ :: _ => rfl
theorem ok_thead {W : tW} : ∀ {L : List tV}, tokL W L → tokL W (thead L)
  | [], _ => trivial
  | _ :: _, h => ⟨trivial, h.2⟩
theorem tput2_map : ∀ (L : List tV) (k : Nat) (v : tV), (tput2 L k v).map mcv = mput2 (L.map mcv) k (mcv v)
  | [], _, _ => by simp [tput2, mput2]
  | _ :: l, 0, v => by
    simp only [tput2, mput2, List.map_cons]
    rw [thead_map]
  | w :: l, 1, v => by
    simp only [tput2, mput2, List.map_cons, tc2_map]
    rw [tput2_map l 0 v]
    cases tc2 w <;> rfl
  | w :: l, k + 2, v => by
    simp only [tput2, mput2, List.map_cons]
    rw [tput2_map l (k + 1) v]
theorem ok_tput2 {W : tW} : ∀ {L : List tV}, tokL W L → ∀ {v : tV}, tokV W v → ∀ k, tokL W (tput2 L k v)
  | [], _, _, _, _ => by simp [tput2, tokL]
  | _ :: _, h, _, hv, 0 => ⟨hv, ok_thead h.2⟩
  | w :: _, h, _, hv, 1 => by
    simp only [tput2]
    refine ⟨?_, ok_tput2 h.2 hv 0⟩
    cases tc2 w
    · exact h.1
    · trivial
  | _ :: _, h, _, hv, k + 2 => by
    simp only [tput2]
    exact ⟨h.1, ok_tput2 h.2 hv (k + 1)⟩
theorem tcats_map : ∀ S : List tV, mcats (S.map mcv) = tcats S
  | [] => rfl
  | v :: S => by
    simp only [List.map_cons, mcats, tcats, tc2_map, tcats_map S]
theorem tlay_map : ∀ S : List tV, mlay (S.map mcv) = (tlay S).map mcv
  | [] => rfl
  | v :: S => by
    simp only [List.map_cons, mlay, tlay, tc2_map, tlay_map S]
    cases tc2 v <;> rfl
theorem tpad_map : ∀ (n : Nat) (S : List tV), mpad n (S.map mcv) = (tpad n S).map mcv
  | 0, _ => rfl
  | n + 1, [] => by
    have h := tpad_map n []
    simp only [List.map_nil] at h
    simp only [List.map_nil, mpad, tpad, List.map_cons, h]
    rfl
  | n + 1, _ :: S => by
    simp only [List.map_cons, mpad, tpad, tpad_map n S]
theorem ok_lay {W : tW} : ∀ {S : List tV}, tokL W S → tokL W (tlay S)
  | [], _ => trivial
  | v :: _, h => by
    simp only [tlay]
    cases tc2 v
    · exact ⟨h.1, ok_lay h.2⟩
    · exact ⟨h.1, trivial, ok_lay h.2⟩
theorem ok_pad {W : tW} : ∀ (n : Nat) {S : List tV}, tokL W S → tokL W (tpad n S)
  | 0, _, _ => trivial
  | n + 1, [], h => ⟨trivial, ok_pad n h⟩
  | n + 1, _ :: _, h => ⟨h.1, ok_pad n h.2⟩
theorem tpop_map : ∀ (n : Nat) (S as : List tV) {r q : List tV}, tpop n S as = some (r, q) → mpop n (S.map mcv) (as.map mcv) = some (r.map mcv, q.map mcv)
  | 0, S, as, r, q, h => by
    cases h
    rfl
  | n + 1, [], _, _, _, h => by cases h
  | n + 1, v :: S, as, _, _, h => tpop_map n S (v :: as) h
theorem ok_pop {W : tW} : ∀ (n : Nat) {S as r q : List tV}, tokL W S → tokL W as → tpop n S as = some (r, q) → tokL W r ∧ tokL W q
  | 0, _, _, _, _, hS, ha, h => by
    cases h
    exact ⟨ha, hS⟩
  | n + 1, [], _, _, _, _, _, h => by cases h
  | n + 1, v :: S, as, _, _, hS, ha, h => ok_pop n (S := S) (as := v :: as) hS.2 ⟨hS.1, ha⟩ h
theorem tif_ok {b : Bool} {P : Prop} (h : tif b P) : b = true ∧ P := by
  cases b with
  | false => exact h.elim
  | true => exact ⟨rfl, h⟩
theorem tret1_ok {m : Nat} {v : Int} {P : Prop} (h : tret1 m v P) : mret1 m v ∧ P := by
  unfold tret1 at h
  cases h1 : Nat.beq (mret m) 1 with
  | true =>
    rw [h1] at h
    unfold mret1
    rw [Nat.eq_of_beq_eq_true h1]
    exact ⟨trivial, h⟩
  | false =>
    rw [h1] at h
    dsimp only [cond] at h
    cases h2 : Nat.beq (mret m) 2 with
    | true =>
      rw [h2] at h
      unfold mret1
      rw [Nat.eq_of_beq_eq_true h2]
      exact h
    | false => rw [h2] at h; exact h.elim
theorem troomS_ok {m : Nat} {S : List tV} (h : troomS m S = true) : mroomS m (S.map mcv) := by
  simp only [troomS, Bool.and_eq_true] at h
  exact ⟨Nat.le_of_ble_eq_true h.1.1, by rw [tcats_map]; exact Nat.le_of_ble_eq_true h.1.2, Nat.le_of_ble_eq_true h.2⟩
theorem troomN_ok {m : Nat} {S : List tV} {k : Nat} (h : troomN m S k = true) : mroomN m (S.map mcv) k := by
  unfold troomN at h
  rw [Bool.and_eq_true] at h
  exact ⟨Nat.le_of_ble_eq_true h.1, by rw [tcats_map]; exact Nat.le_of_ble_eq_true h.2⟩
theorem tfit_ok {t : Nat} {v : mV} {P : Prop} (h4 : Nat.beq t 4 = false) (h : tfit t v P) : mfit t v ∧ P := by
  unfold tfit at h
  split at h
  · exact ⟨rfl, h⟩
  · exact ⟨⟨rfl, h.1⟩, h.2⟩
  · exact ⟨⟨rfl, h.1⟩, h.2⟩
  · exact ⟨rfl, h⟩
  · exact h.elim
theorem trecv_ok {W : tW} {j : Nat} {as : List tV} (ha : tokL W as) (h : trecv j as = true) : mrecv j (as.map mcv) W.1 := by
  unfold trecv at h
  unfold mrecv
  cases h0 : Nat.beq (mkd j) 0 with
  | true =>
    rw [Nat.eq_of_beq_eq_true h0]
    trivial
  | false =>
    rw [h0] at h
    dsimp only [cond] at h
    split
    · trivial
    · split at h
      · rename_i t a r
        rw [Bool.and_eq_true, Nat.blt_eq] at h
        have e := Nat.eq_of_beq_eq_true h.1
        have k := tobj ha.1 h.2
        rw [e] at k
        exact k
      · cases h
theorem tsw_all {x : Int} {f : Nat → Prop} {g : Nat → mSt} {B : mSt → Prop} {p P : Prop} {st : mSt} (hf : ∀ q, f q → B (g q)) (hp : P → p → B st) : ∀ (ts : List Int) (k : Int), tsw x f k ts P → mall B (msw x g k ts ++ [(p, st)])
  | [], _, h => hp h
  | t :: ts, k, h => by
    have ih := tsw_all hf hp ts (k + 1) h.2
    have hne : msw x g (k + 1) ts ++ [(p, st)] ≠ [] := fun w => by
      have := (List.append_eq_nil_iff.mp w).2
      cases this
    obtain ⟨q, r, hqr⟩ := List.exists_cons_of_ne_nil hne
    show mall B ((x = k, g t.toNat) :: (msw x g (k + 1) ts ++ [(p, st)]))
    rw [hqr] at ih ⊢
    exact ⟨fun e => hf _ (h.1 e), ih⟩
section TS
variable {O : mO} {W : tW} {m : Nat} {B : tSt → Prop} {C : Nat → List tV → mD → tK → Prop} {K : tK} {B' : mSt → Prop} {C' : Nat → List mV → mG → mD → mK → Prop} {Kc : mK}
theorem tback_ok {pc c s : Nat} {L S : List tV} {d : mD} {nx : Int} {r : mRes} (hL : tokL W L) (hS : tokL W S)
    (hB : ∀ nx pc L S c s d, tokL W L → tokL W S → tSh W d → B (pc, L, S, c, s, d) → B' (pc, L.map mcv, S.map mcv, c, s, (W.1, W.2, nx), d))
    (hK : ∀ r nx' d', tSh W d' → K r d' → Kc r (W.1, W.2, nx') d') (hd : tSh W d) (h : tback m pc L S c s B K r d) : mback m pc (L.map mcv) (S.map mcv) c s B' Kc r (W.1, W.2, nx) d := by
  match r, h with
  | .inl (some v), h => exact hB nx _ _ (.inl v :: S) _ _ _ hL ⟨trivial, hS⟩ hd h
  | .inl none, h => exact hB nx _ _ _ _ _ _ hL hS hd h
  | .inr e, h =>
    simp only [tback] at h
    simp only [mback]
    split at h
    · rename_i n hn
      rw [hn]
      obtain ⟨h1, h2⟩ := tret1_ok h
      exact ⟨h1, hK _ _ _ hd h2⟩
    · rename_i hn
      rw [hn]
      obtain ⟨h1, h2⟩ := tif_ok h
      exact ⟨h1, hK _ _ _ hd h2⟩
set_option maxHeartbeats 2000000 in
theorem tX_ok {len pc c s : Nat} {i : Instr} {L S : List tV} {d : mD} {nx : Int} (hL : tokL W L) (hS : tokL W S) (hd : tSh W d)
    (hB : ∀ nx pc L S c s d, tokL W L → tokL W S → tSh W d → B (pc, L, S, c, s, d) → B' (pc, L.map mcv, S.map mcv, c, s, (W.1, W.2, nx), d))
    (hC : ∀ nx j as d K', tokL W as → tSh W d → C j as d K' → ∀ Kc', (∀ r nx' d', tSh W d' → K' r d' → Kc' r (W.1, W.2, nx') d') → C' j (as.map mcv) (W.1, W.2, nx) d Kc')
    (hK : ∀ r nx' d', tSh W d' → K r d' → Kc r (W.1, W.2, nx') d') (h : tX O m len i pc L S c s d B C K) : mint B' C' m Kc (mX O m len i pc (L.map mcv) (S.map mcv) c s (W.1, W.2, nx) d) := by
  unfold tX at h
  split at h
  · exact hB nx _ _ _ _ _ _ hL (oki hS) hd h
  · exact hB nx _ _ _ _ _ _ hL (oki hS) hd h
  · exact hB nx _ _ _ _ _ _ hL (oki hS) hd h
  · exact hB nx _ _ _ _ _ _ hL (oki hS) hd h
  · exact hB nx _ _ _ _ _ _ hL (oki hS) hd h
  · exact hB nx _ _ _ _ _ _ hL (oki hS) hd h
  · exact hB nx _ _ _ _ _ _ hL (oki hS) hd h
  · exact hB nx _ _ _ _ _ _ hL (oki hS) hd h
  · split at h
    · rename_i hx
      simp only [mX, tget_map, hx, mcv]
      exact hB nx _ _ _ _ _ _ hL (okc (hx ▸ ok_get hL _) hS) hd h
    · exact h.elim
  · split at h
    · rename_i hx
      simp only [mX, tget_map, hx, mcv]
      exact hB nx _ _ _ _ _ _ hL (okc (hx ▸ ok_get hL _) hS) hd h
    · exact h.elim
  · split at h
    · rename_i hx
      simp only [mX, tget_map, hx, mcv]
      exact hB nx _ _ _ _ _ _ hL (okc (hx ▸ ok_get hL _) hS) hd h
    · exact h.elim
  · split at h
    · rename_i hx
      simp only [mX, tget_map, hx, mcv]
      exact hB nx _ _ _ _ _ _ hL (okc (hx ▸ ok_get hL _) hS) hd h
    · rename_i hx
      simp only [mX, tget_map, hx, mcv]
      exact hB nx _ _ _ _ _ _ hL (okc (hx ▸ ok_get hL _) hS) hd h
    · rename_i hx
      simp only [mX, tget_map, hx, mcv]
      exact hB nx _ _ _ _ _ _ hL (okc (hx ▸ ok_get hL _) hS) hd h
    · exact h.elim
  · split at h
    · have k := hB nx _ _ _ _ _ _ (ok_tput1 hL hS.1 _) hS.2 hd h
      rw [tput1_map] at k
      exact k
    · exact h.elim
  · split at h
    · have k := hB nx _ _ _ _ _ _ (ok_tput1 hL hS.1 _) hS.2 hd h
      rw [tput1_map] at k
      exact And.intro hS.1.1.1 k
    · exact h.elim
  · split at h
    · have k := hB nx _ _ _ _ _ _ (ok_tput2 hL hS.1 _) hS.2 hd h
      rw [tput2_map] at k
      exact k
    · exact h.elim
  · split at h
    · have k := hB nx _ _ _ _ _ _ (ok_tput2 hL hS.1 _) hS.2 hd h
      rw [tput2_map] at k
      exact k
    · exact h.elim
  · split at h
    · rename_i hx
      simp only [mX, tget_map, hx, mcv]
      have k := hB nx _ _ _ _ _ _ (ok_tput1 hL (v := .inl (0, _)) trivial _) hS hd h
      rw [tput1_map] at k
      exact k
    · exact h.elim
  · split at h
    · exact hB nx _ _ _ _ _ _ hL (okc hS.1 hS) hd h
    · exact hB nx _ _ _ _ _ _ hL (okc hS.1 hS) hd h
    · exact h.elim
  · split at h
    · exact hB nx _ _ _ _ _ _ hL (okc hS.1 (okc hS.2.1 hS)) hd h
    · exact h.elim
  · split at h
    · exact hB nx _ _ _ _ _ _ hL hS.2 hd h
    · exact h.elim
  · split at h
    · exact hB nx _ _ _ _ _ _ hL (oki hS.2.2) hd h
    · exact h.elim
  · split at h
    · exact hB nx _ _ _ _ _ _ hL (oki hS.2.2) hd h
    · exact h.elim
  · split at h
    · exact hB nx _ _ _ _ _ _ hL (oki hS.2.2) hd h
    · exact h.elim
  · split at h
    · exact And.intro h.1 (hB nx _ _ _ _ _ _ hL (oki hS.2.2) hd h.2)
    · exact h.elim
  · split at h
    · exact And.intro h.1 (hB nx _ _ _ _ _ _ hL (oki hS.2.2) hd h.2)
    · exact h.elim
  · split at h
    · exact hB nx _ _ _ _ _ _ hL (oki hS.2.2) hd h
    · exact h.elim
  · split at h
    · exact hB nx _ _ _ _ _ _ hL (oki hS.2.2) hd h
    · exact h.elim
  · split at h
    · exact hB nx _ _ _ _ _ _ hL (oki hS.2.2) hd h
    · exact h.elim
  · split at h
    · exact hB nx _ _ _ _ _ _ hL (oki hS.2.2) hd h
    · exact h.elim
  · split at h
    · exact hB nx _ _ _ _ _ _ hL (oki hS.2.2) hd h
    · exact h.elim
  · split at h
    · exact hB nx _ _ _ _ _ _ hL (oki hS.2.2) hd h
    · exact h.elim
  · split at h
    · exact hB nx _ _ _ _ _ _ hL (oki hS.2.2) hd h
    · exact h.elim
  · split at h
    · exact hB nx _ _ _ _ _ _ hL (oki hS.2.2) hd h
    · exact h.elim
  · split at h
    · exact hB nx _ _ _ _ _ _ hL (oki hS.2.2) hd h
    · exact h.elim
  · split at h
    · exact hB nx _ _ _ _ _ _ hL (oki hS.2.2) hd h
    · exact h.elim
  · split at h
    · exact hB nx _ _ _ _ _ _ hL (oki hS.2.2) hd h
    · exact h.elim
  · split at h
    · exact hB nx _ _ _ _ _ _ hL (oki hS.2.2) hd h
    · exact h.elim
  · split at h
    · exact hB nx _ _ _ _ _ _ hL (oki hS.2.2) hd h
    · exact h.elim
  · split at h
    · exact And.intro h.1 (hB nx _ _ _ _ _ _ hL (oki hS.2.2) hd h.2)
    · exact h.elim
  · split at h
    · exact And.intro h.1 (hB nx _ _ _ _ _ _ hL (oki hS.2.2) hd h.2)
    · exact h.elim
  · split at h
    · exact hB nx _ _ _ _ _ _ hL (oki hS.2.2) hd h
    · exact h.elim
  · split at h
    · exact hB nx _ _ _ _ _ _ hL (oki hS.2) hd h
    · exact h.elim
  · split at h
    · exact And.intro h.1 (hB nx _ _ _ _ _ _ hL (oki hS.2) hd h.2)
    · exact h.elim
  · split at h
    · exact hB nx _ _ _ _ _ _ hL (oki hS.2) hd h
    · exact h.elim
  · split at h
    · exact hB nx _ _ _ _ _ _ hL (oki hS.2) hd h
    · exact h.elim
  · exact hB nx _ _ _ _ _ _ hL hS hd h
  · split at h
    · exact ⟨h.1, fun z => hB nx _ _ _ _ _ _ hL hS.2 hd (h.2.1 z), fun z => hB nx _ _ _ _ _ _ hL hS.2 hd (h.2.2 z)⟩
    · exact h.elim
  · split at h
    · exact ⟨h.1, fun z => hB nx _ _ _ _ _ _ hL hS.2.2 hd (h.2.1 z), fun z => hB nx _ _ _ _ _ _ hL hS.2.2 hd (h.2.2 z)⟩
    · exact h.elim
  · split at h
    · exact ⟨h.1, tsw_all (fun q z => hB nx _ _ _ _ _ _ hL hS.2 hd z) (fun z z2 => hB nx _ _ _ _ _ _ hL hS.2 hd (z z2)) _ _ h.2⟩
    · exact h.elim
  · rename_i g
    split at h
    · rename_i t a S0
      cases hc : (Nat.beq t (g / 32) && Nat.blt t 12) with
      | false => rw [hc] at h; exact h.elim
      | true =>
        rw [hc] at h
        dsimp only [cond] at h
        rw [Bool.and_eq_true, Nat.blt_eq] at hc
        obtain ⟨hc, h12⟩ := hc
        obtain rfl := Nat.eq_of_beq_eq_true hc
        have hk := tobj hS.1 h12
        cases hc2 : Nat.beq (mfty g) 4 with
        | true =>
          rw [hc2] at h
          obtain ⟨e1, e2⟩ := hd.1 a g hS.1.1.1 hS.1.1.2 hk (Nat.eq_of_beq_eq_true hc2)
          refine And.intro hk ?_
          have k := hB nx (pc + 3) _ (.inr (tpy g, a + tpo g) :: S0) c s d hL (okc e2 hS.2) hd h
          rw [Nat.eq_of_beq_eq_true hc2, e1]
          exact k
        | false =>
          rw [hc2] at h
          exact And.intro hk (hB nx _ _ _ _ _ _ hL (oki hS.2) hd h)
    · exact h.elim
  · rename_i g
    split at h
    · rename_i v t a S0
      cases hc : (Nat.beq t (g / 32) && Nat.blt t 12 && !Nat.beq (mfty g) 4) with
      | false => rw [hc] at h; exact h.elim
      | true =>
        rw [hc] at h
        dsimp only [cond] at h
        rw [Bool.and_eq_true, Bool.and_eq_true, Bool.not_eq_true', Nat.blt_eq] at hc
        obtain ⟨⟨hc, h12⟩, hc2⟩ := hc
        obtain rfl := Nat.eq_of_beq_eq_true hc
        have hk := tobj hS.2.1 h12
        obtain ⟨h1, h2⟩ := tfit_ok hc2 h
        exact And.intro ⟨hk, h1⟩ (hB nx _ _ _ _ _ _ hL hS.2.2 (hd.setF hk h12 hc2) h2)
    · exact h.elim
  · split at h
    · rename_i k S0
      cases hc : zeqT k 2 with
      | false => rw [hc] at h; exact h.elim
      | true =>
        rw [hc] at h
        exact And.intro (of_decide_eq_true hc) (hB nx _ _ _ _ _ _ hL (oki hS.2) hd h)
    · rename_i t a S0
      cases hc : Nat.ble 100 (tk t) with
      | false => rw [hc] at h; exact h.elim
      | true =>
        rw [hc] at h
        obtain ⟨e0, e1, e2⟩ := trow hS.1 (Nat.le_of_ble_eq_true hc)
        refine And.intro (by show 100 ≤ W.1 a; rw [e1]; have := Nat.le_of_ble_eq_true hc; omega) ?_
        have k := hB nx (pc + 1) _ (.inl (0, tl t) :: S0) c s d hL (oki hS.2) hd h
        rw [← e2] at k
        exact k
    · exact h.elim
  · split at h
    · rename_i i t a S0
      cases hc : (Nat.beq (tk t) 100) with
      | false => rw [hc] at h; exact h.elim
      | true =>
        rw [hc] at h
        obtain ⟨⟨h1, h2⟩, h3⟩ := h
        obtain ⟨e0, e1, e2⟩ := trow hS.2.1 (by rw [Nat.eq_of_beq_eq_true hc]; omega)
        exact And.intro ⟨by show W.1 a = 100; rw [e1, Nat.eq_of_beq_eq_true hc]; rfl, h1, by show i < W.2 a; rw [e2]; exact h2⟩ (hB nx _ _ _ _ _ _ hL (oki hS.2.2) hd h3)
    · rename_i i k S0
      cases hc : Nat.ble k 2 with
      | false => rw [hc] at h; exact h.elim
      | true =>
        rw [hc] at h
        have hk := Nat.le_of_ble_eq_true hc
        exact And.intro ⟨by show (k : Int) = 0 ∨ (k : Int) = 1 ∨ (k : Int) = 2; omega, h.1.1, h.1.2⟩ (hB nx _ _ _ _ _ _ hL (oki hS.2.2) hd h.2)
    · exact h.elim
  · split at h
    · rename_i i t a S0
      cases hc : (Nat.beq (tk t) 101) with
      | false => rw [hc] at h; exact h.elim
      | true =>
        rw [hc] at h
        obtain ⟨⟨h1, h2⟩, h3⟩ := h
        obtain ⟨e0, e1, e2⟩ := trow hS.2.1 (by rw [Nat.eq_of_beq_eq_true hc]; omega)
        exact And.intro ⟨by show W.1 a = 101; rw [e1, Nat.eq_of_beq_eq_true hc]; rfl, h1, by show i < W.2 a; rw [e2]; exact h2⟩ (hB nx _ _ _ _ _ _ hL (oki hS.2.2) hd h3)
    · exact h.elim
  · split at h
    · rename_i i t a S0
      cases hc : (Nat.beq (tk t) 102 || Nat.beq (tk t) 103) with
      | false => rw [hc] at h; exact h.elim
      | true =>
        rw [hc] at h
        obtain ⟨⟨h1, h2⟩, h3⟩ := h
        obtain ⟨e0, e1, e2⟩ := trow hS.2.1 (by have := tbb hc; omega)
        exact And.intro ⟨by show W.1 a = 102 ∨ W.1 a = 103; rw [e1]; have := tbb hc; omega, h1, by show i < W.2 a; rw [e2]; exact h2⟩ (hB nx _ _ _ _ _ _ hL (oki hS.2.2) hd h3)
    · exact h.elim
  · split at h
    · rename_i i t a S0
      cases hc : Nat.ble 200 (tk t) with
      | false => rw [hc] at h; exact h.elim
      | true =>
        rw [hc] at h
        obtain ⟨⟨h1, h2⟩, h3⟩ := h
        have hk := Nat.le_of_ble_eq_true hc
        obtain ⟨e0, e1, e2⟩ := trow hS.2.1 (by omega)
        obtain ⟨g1, g2⟩ := hd.2 a t i hS.2.1 hk h1 h2
        refine And.intro ⟨by show 200 ≤ W.1 a; rw [e1]; omega, h1, by show i < W.2 a; rw [e2]; exact h2⟩ ?_
        have k := hB nx (pc + 1) _ (.inr (tec t, a + (teb t + tes t * i)) :: S0) c s d hL (okc g2 hS.2.2) hd h3
        rw [g1]
        exact k
    · exact h.elim
  · split at h
    · rename_i v i t a S0
      cases hc : Nat.beq (tk t) 100 with
      | false => rw [hc] at h; exact h.elim
      | true =>
        rw [hc] at h
        obtain ⟨⟨h1, h2⟩, h3⟩ := h
        have hk := Nat.eq_of_beq_eq_true hc
        obtain ⟨e0, e1, e2⟩ := trow hS.2.2.1 (by omega)
        exact And.intro ⟨by show W.1 a = 100; rw [e1, hk]; rfl, h1, by show i < W.2 a; rw [e2]; exact h2⟩ (hB nx _ _ _ _ _ _ hL hS.2.2.2 (hd.setA e1 (by omega) (by omega)) h3)
    · exact h.elim
  · split at h
    · rename_i v i t a S0
      cases hc : Nat.beq (tk t) 101 with
      | false => rw [hc] at h; exact h.elim
      | true =>
        rw [hc] at h
        obtain ⟨⟨h1, h2⟩, h3⟩ := h
        have hk := Nat.eq_of_beq_eq_true hc
        obtain ⟨e0, e1, e2⟩ := trow hS.2.2.1 (by omega)
        exact And.intro ⟨by show W.1 a = 101; rw [e1, hk]; rfl, h1, by show i < W.2 a; rw [e2]; exact h2⟩ (hB nx _ _ _ _ _ _ hL hS.2.2.2 (hd.setA e1 (by omega) (by omega)) h3)
    · exact h.elim
  · split at h
    · rename_i v i t a S0
      cases hc : Nat.beq (tk t) 102 with
      | true =>
        rw [hc] at h
        obtain ⟨⟨h0, h1, h2⟩, h3⟩ := h
        have hk := Nat.eq_of_beq_eq_true hc
        obtain ⟨e0, e1, e2⟩ := trow hS.2.2.1 (by omega)
        exact And.intro ⟨Or.inl ⟨by show W.1 a = 102; rw [e1, hk]; rfl, h0.1, h0.2⟩, h1, by show i < W.2 a; rw [e2]; exact h2⟩ (hB nx _ _ _ _ _ _ hL hS.2.2.2 (hd.setA e1 (by omega) (by omega)) h3)
      | false =>
        rw [hc] at h
        dsimp only [cond] at h
        cases hc2 : Nat.beq (tk t) 103 with
        | false => rw [hc2] at h; exact h.elim
        | true =>
          rw [hc2] at h
          obtain ⟨⟨h0, h1, h2⟩, h3⟩ := h
          have hk := Nat.eq_of_beq_eq_true hc2
          obtain ⟨e0, e1, e2⟩ := trow hS.2.2.1 (by omega)
          exact And.intro ⟨Or.inr ⟨by show W.1 a = 103; rw [e1, hk]; rfl, h0⟩, h1, by show i < W.2 a; rw [e2]; exact h2⟩ (hB nx _ _ _ _ _ _ hL hS.2.2.2 (hd.setA e1 (by omega) (by omega)) h3)
    · exact h.elim
  · unfold tif troomT at h
    cases hc : (Nat.blt 5 (mdep m) && Nat.ble (tcats S + 82) (mneed m) && Nat.ble (c + 1) (mmc m) && Nat.ble (s + 6) (mms m)) with
    | false => rw [hc] at h; exact h.elim
    | true =>
      rw [hc] at h
      simp only [Bool.and_eq_true] at hc
      obtain ⟨⟨⟨c1, c2⟩, c3⟩, c4⟩ := hc
      exact And.intro ⟨by simpa only [Nat.blt_eq] using c1, by rw [tcats_map]; exact Nat.le_of_ble_eq_true c2, Nat.le_of_ble_eq_true c3, Nat.le_of_ble_eq_true c4⟩ (hK _ _ _ hd h)
  · rename_i j
    split at h
    · rename_i as S0 hp
      have p1 : mpop (mnp j) (S.map mcv) [] = _ := tpop_map _ _ _ hp
      have ⟨ha, hS0⟩ := ok_pop (as := []) _ hS True.intro hp
      simp only [mX, p1]
      unfold tif troom at h
      cases hc : (mroom m j && Nat.ble (tlay as).length (mmaxL j) && Nat.ble (tcats S0) 8 && trecv j as) with
      | false => rw [hc] at h; exact h.elim
      | true =>
        rw [hc] at h
        dsimp only [cond] at h
        cases hc2 : (Nat.ble (c + mmc j) (mmc m) && Nat.ble (s + mms j) (mms m)) with
        | false => rw [hc2] at h; exact h.elim
        | true =>
          rw [hc2] at h
          dsimp only [cond] at h
          simp only [Bool.and_eq_true] at hc hc2
          obtain ⟨⟨⟨c1, c2⟩, c3⟩, c4⟩ := hc
          refine And.intro ⟨⟨c1, by rw [tlay_map, List.length_map]; exact c2, by rw [tcats_map]; exact Nat.le_of_ble_eq_true c3, Nat.le_of_ble_eq_true hc2.1, Nat.le_of_ble_eq_true hc2.2⟩, trecv_ok ha c4⟩ ?_
          refine hC nx j as d _ ha hd h _ (fun r nx' d' hd' hr => ?_)
          exact tback_ok hL hS0 hB hK hd' hr
    · exact h.elim
  · rename_i j
    split at h
    · rename_i t a S0
      obtain ⟨c1, h⟩ := tif_ok h
      exact And.intro ⟨hS.1.1.1, troomN_ok c1⟩ (hB nx _ _ _ _ _ _ hL hS.2 hd h)
    · obtain ⟨c1, h⟩ := tif_ok h
      exact And.intro ⟨h.1.1, h.1.2, troomN_ok c1⟩ (hB nx _ _ _ _ _ _ hL (oki hS.2.2) hd h.2)
    · obtain ⟨c1, h⟩ := tif_ok h
      exact And.intro ⟨h.1.1, h.1.2, troomN_ok c1⟩ (hB nx _ _ _ _ _ _ hL (oki hS.2.2) hd h.2)
    · rename_i n dp ty y sp tx x S0
      obtain ⟨c1, h⟩ := tif_ok h
      simp only [Bool.and_eq_true, Bool.or_eq_true] at c1
      obtain ⟨⟨⟨⟨c1, c2⟩, c3⟩, c4⟩, c5⟩ := c1
      obtain ⟨⟨h1, h2, h3, h4, h5⟩, h6⟩ := h
      have c2 : tk tx = 100 ∨ tk tx = 101 := c2.imp Nat.eq_of_beq_eq_true Nat.eq_of_beq_eq_true
      have c3 := Nat.eq_of_beq_eq_true c3
      obtain ⟨y0, y1, y2⟩ := trow hS.2.2.1 (by omega)
      obtain ⟨x0, x1, x2⟩ := trow hS.2.2.2.2.1 (by omega)
      have bx : tl tx ≤ 100000 := of_decide_eq_true c4
      have by_ : tl ty ≤ 100000 := of_decide_eq_true c5
      refine And.intro ⟨by show W.1 x = 100 ∨ W.1 x = 101; rw [x1]; omega, by show W.1 y = W.1 x; rw [y1, x1, c3], h1, h2, h3, by omega, by omega, by omega, by show sp + n ≤ W.2 x; rw [x2]; exact h4, by show dp + n ≤ W.2 y; rw [y2]; exact h5, troomN_ok c1⟩ ?_
      exact hB nx _ _ _ _ _ _ hL hS.2.2.2.2.2 (hd.cpyA y1 (by omega) (by omega)) h6
    · obtain ⟨c1, h⟩ := tif_ok h
      exact And.intro ⟨h.1, troomS_ok c1⟩ (hB nx _ _ _ _ _ _ hL (oki hS.2) hd h.2)
    · obtain ⟨c1, h⟩ := tif_ok h
      exact And.intro ⟨h.1, troomS_ok c1⟩ (hB nx _ _ _ _ _ _ hL (oki hS.2.2) hd h.2)
    · exact h.elim
  · split at h
    · obtain ⟨h1, h2⟩ := tret1_ok h
      exact And.intro h1 (hK _ _ _ hd h2)
    · exact h.elim
  · split at h
    · obtain ⟨h1, h2⟩ := tif_ok h
      exact And.intro (Nat.eq_of_beq_eq_true h1) (hK _ _ _ hd h2)
    · exact h.elim
  · split at h
    · obtain ⟨h1, h2⟩ := tif_ok h
      exact And.intro (Nat.eq_of_beq_eq_true h1) (hK _ _ _ hd h2)
    · exact h.elim
  · split at h
    · obtain ⟨h1, h2⟩ := tif_ok h
      exact And.intro (Nat.eq_of_beq_eq_true h1) (hK _ _ _ hd h2)
    · exact h.elim
  · exact h.elim
end TS
-- the cells' shape holds, and places are what they say: then a run
def tRun (E : mO × tW) (m : Nat) : tSt → tK → Prop
  | (pc, L, S, c, s, d), K => ∀ (nx : Int) (Kc : mK), tokL E.2 L → tokL E.2 S → tSh E.2 d → (∀ r nx' d', tSh E.2 d' → K r d' → Kc r (E.2.1, E.2.2, nx') d') → mRun E.1 m (pc, L.map mcv, S.map mcv, c, s, (E.2.1, E.2.2, nx), d) Kc
def tCall (E : mO × tW) (j : Nat) (as : List tV) (d : mD) (K : tK) : Prop := tRun E j (tent j as d) K
-- behind a call
def tbk (E : mO × tW) (m pc : Nat) (L S : List tV) (c s : Nat) (K : tK) : tK := tback m pc L S c s (fun st => tRun E m st K) K
theorem tRun_mono {E : mO × tW} {m : Nat} {st : tSt} {K K2 : tK} (h : tRun E m st K) (hk : ∀ r d, K r d → K2 r d) : tRun E m st K2 := by
  obtain ⟨pc, L, S, c, s, d⟩ := st
  exact fun nx Kc hL hS hd hK => h nx Kc hL hS hd (fun r nx' d' hd' hr => hK r nx' d' hd' (hk r d' hr))
theorem tRun_in {E : mO × tW} {m : Nat} {st : tSt} {K : tK} {B : tSt → Prop} (hB : ∀ st, B st → tRun E m st K) (h : tstp E.1 B (fun j as d K' => tCall E j as d K') m K st) : tRun E m st K := by
  obtain ⟨pc, L, S, c, s, d⟩ := st
  intro nx Kc hL hS hd hK
  simp only [tstp] at h
  split at h
  · rename_i i len hf
    refine mRun_in ?_
    simp only [mstp, hf]
    refine tX_ok (B := B) (B' := fun st => mRun E.1 m st Kc) (C := fun j as d K' => tCall E j as d K') (C' := fun j as G d K' => mCall E.1 j as G d K') hL hS hd (fun nx' pc L S c s d hL hS hd hb => ?_) (fun nx' j as d K' ha hd hc Kc' hk => ?_) hK h
    · exact hB _ hb nx' Kc hL hS hd hK
    · have k := hc nx' Kc' (ok_pad _ (ok_lay ha)) trivial hd hk
      show mRun E.1 j (0, mloc j (as.map mcv), [], 0, 0, (E.2.1, E.2.2, nx'), d) Kc'
      unfold mloc
      rw [tlay_map, tpad_map]
      exact k
  · exact h.elim
def tin : List Nat → Nat → Bool
  | [], _ => false
  | a :: l, b => bif Nat.beq a b then true else tin l b
-- steps up to these places
def tT (E : mO × tW) (m : Nat) (K : tK) (cut : List Nat) : Nat → tSt → Prop
  | 0, st => tRun E m st K
  | n + 1, st => tstp E.1 (fun st => bif tin cut st.1 then tRun E m st K else tT E m K cut n st) (fun j as d K' => tCall E j as d K') m K st
theorem tT_run {E : mO × tW} {m : Nat} {K : tK} {cut : List Nat} : ∀ (n : Nat) (st : tSt), tT E m K cut n st → tRun E m st K
  | 0, _, h => h
  | n + 1, st, h => tRun_in (fun st k => by
      cases hc : tin cut st.1 with
      | true => rw [hc] at k; exact k
      | false => rw [hc] at k; exact tT_run n st k) h
