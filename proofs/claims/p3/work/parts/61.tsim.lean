/-! ===== runs of the machine with typed places are runs of the small machine ===== -/
def mcv : tV → mV
  | .inl v => v
  | .inr (_, a) => (3, a)
abbrev tW : Type := (Int → Int) × (Int → Int)
def tokV (W : tW) : tV → Prop
  | .inl _ => True
  | .inr (t, a) => (0 ≤ a ∧ a < 779) ∧ W.1 a = (tk t : Int) ∧ (12 ≤ t → W.2 a = tl t)
def tokL (W : tW) : List tV → Prop
  | [] => True
  | v :: l => tokV W v ∧ tokL W l
theorem okc {W : tW} {v : tV} {l : List tV} (h : tokV W v) (hl : tokL W l) : tokL W (v :: l) := ⟨h, hl⟩
theorem oki {W : tW} {v : mV} {l : List tV} (hl : tokL W l) : tokL W (.inl v :: l) := ⟨trivial, hl⟩
-- the shape of the cells
def tSh (W : tW) (d : mD) : Prop := (∀ (a : Int) (g : Nat), 0 ≤ a → a < 779 → W.1 a = ((g / 32 : Nat) : Int) → mfty g = 4 → d a ((g % 32 : Nat) : Int) = a + tpo g ∧ tokV W (.inr (tpy g, a + tpo g)))
  ∧ ∀ (a : Int) (t : Nat) (i : Int), tokV W (.inr (t, a)) → 200 ≤ tk t → 0 ≤ i → i < tl t → d a i = a + (teb t + tes t * i) ∧ tokV W (.inr (tec t, a + (teb t + tes t * i)))
theorem tk_obj : ∀ t : Nat, t < 12 → tk t = t := by decide
theorem tobj {W : tW} {t : Nat} {a : Int} (h : tokV W (.inr (t, a))) (ht : t < 12) : W.1 a = (t : Int) := by
  rw [h.2.1, tk_obj t ht]
theorem trow {W : tW} {t : Nat} {a : Int} (h : tokV W (.inr (t, a))) (ht : 100 ≤ tk t) : 0 ≤ a ∧ W.1 a = (tk t : Int) ∧ W.2 a = tl t := by
  rcases Nat.lt_or_ge t 12 with h1 | h1
  · rw [tk_obj t h1] at ht
    omega
  · exact ⟨h.1.1, h.2.1, h.2.2 h1⟩
theorem tk_hi (j : Nat) (h : 31 ≤ j) : tk j = 199 := by
  unfold tk
  rw [show Nat.ble 15 j = true from Nat.ble_eq_true_of_le (by omega)]
  dsimp only [cond]
  rw [show Nat.ble 23 j = true from Nat.ble_eq_true_of_le (by omega)]
  dsimp only [cond]
  rw [show Nat.ble 27 j = true from Nat.ble_eq_true_of_le (by omega)]
  dsimp only [cond]
  rw [show Nat.ble 29 j = true from Nat.ble_eq_true_of_le (by omega)]
  dsimp only [cond]
  rw [show Nat.ble 30 j = true from Nat.ble_eq_true_of_le (by omega)]
  dsimp only [cond]
  rw [show Nat.beq j 30 = false from by cases hb : Nat.beq j 30 with | false => rfl | true => exact absurd (Nat.eq_of_beq_eq_true hb) (by omega)]
theorem tfty_hi (j : Nat) (h : 384 ≤ j) : mfty j = 0 := by
  unfold mfty
  rw [show Nat.ble 260 j = true from Nat.ble_eq_true_of_le (by omega)]
  dsimp only [cond]
  rw [show Nat.ble 324 j = true from Nat.ble_eq_true_of_le (by omega)]
  dsimp only [cond]
  rw [show Nat.ble 355 j = true from Nat.ble_eq_true_of_le (by omega)]
  dsimp only [cond]
  rw [show Nat.ble 358 j = true from Nat.ble_eq_true_of_le (by omega)]
  dsimp only [cond]
  rw [show Nat.ble 365 j = true from Nat.ble_eq_true_of_le (by omega)]
  dsimp only [cond]
  rw [show Nat.ble 369 j = true from Nat.ble_eq_true_of_le (by omega)]
  dsimp only [cond]
  rw [show Nat.beq j 369 = false from by cases hb : Nat.beq j 369 with | false => rfl | true => exact absurd (Nat.eq_of_beq_eq_true hb) (by omega)]
theorem tfg_lt : ∀ g : Nat, mfty g = 4 → g / 32 < 12 := by
  intro g h
  rcases Nat.lt_or_ge g 384 with h1 | h1
  · omega
  · exfalso
    have h2 : mfty g = 0 := tfty_hi g h1
    omega
theorem tbb {q : Nat} (h : (Nat.beq q 102 || Nat.beq q 103) = true) : q = 102 ∨ q = 103 := by
  rw [Bool.or_eq_true] at h
  exact h.imp Nat.eq_of_beq_eq_true Nat.eq_of_beq_eq_true
theorem tSh.setF {W : tW} {d : mD} (hd : tSh W d) {a : Int} {g : Nat} {v : Int} (hk : W.1 a = ((g / 32 : Nat) : Int)) (h12 : g / 32 < 12) (hc : Nat.beq (mfty g) 4 = false) : tSh W (mset d a ((g % 32 : Nat) : Int) v) := by
  refine ⟨fun b h b0 b1 hb h4 => ?_, fun b t i hb ht h0 h1 => ?_⟩
  · have k := hd.1 b h b0 b1 hb h4
    refine ⟨?_, k.2⟩
    unfold mset
    rw [if_neg, k.1]
    intro e
    obtain ⟨e1, e2⟩ := e
    rw [e1, hk] at hb
    have e3 : h = g := by omega
    rw [e3] at h4
    rw [h4] at hc
    cases hc
  · have k := hd.2 b t i hb ht h0 h1
    refine ⟨?_, k.2⟩
    have hn : b ≠ a := by
      intro e
      obtain ⟨-, e1, -⟩ := trow hb (by omega)
      rw [e, hk] at e1
      omega
    rw [mset_ne hn]
    exact k.1
theorem tSh.oth {W : tW} {d d' : mD} (hd : tSh W d) {a : Int} {t : Nat} (hk : W.1 a = (tk t : Int)) (h1 : 100 ≤ tk t) (h2 : tk t < 200) (h : ∀ b, b ≠ a → d' b = d b) : tSh W d' := by
  refine ⟨fun b g b0 b1 hb h4 => ?_, fun b t' i hb ht h0 h3 => ?_⟩
  · have k := hd.1 b g b0 b1 hb h4
    refine ⟨?_, k.2⟩
    rw [h b, k.1]
    intro e
    rw [e, hk] at hb
    have h9 := tfg_lt g h4
    omega
  · have k := hd.2 b t' i hb ht h0 h3
    refine ⟨?_, k.2⟩
    rw [h b, k.1]
    intro e
    obtain ⟨-, e1, -⟩ := trow hb (by omega)
    rw [e, hk] at e1
    omega
theorem tSh.setA {W : tW} {d : mD} (hd : tSh W d) {a i v : Int} {t : Nat} (hk : W.1 a = (tk t : Int)) (h1 : 100 ≤ tk t) (h2 : tk t < 200) : tSh W (mset d a i v) := hd.oth hk h1 h2 (fun _ hb => mset_ne hb)
theorem tSh.cpyA {W : tW} {d : mD} (hd : tSh W d) {x sp y dp n : Int} {t : Nat} (hk : W.1 y = (tk t : Int)) (h1 : 100 ≤ tk t) (h2 : tk t < 200) : tSh W (mcopy d x sp y dp n) := hd.oth hk h1 h2 (fun _ hb => mcopy_ne hb)
theorem tc2_map : ∀ v : tV, mc2 (mcv v) = tc2 v
  | .inl _ => rfl
  | .inr _ => rfl
theorem tget_map : ∀ (L : List tV) (k : Nat), mget (L.map mcv) k = mcv (tget L k)
  | [], _ => rfl
  | _ :: _, 0 => rfl
  | _ :: l, k + 1 => tget_map l k
theorem ok_get {W : tW} : ∀ {L : List tV}, tokL W L → ∀ k, tokV W (tget L k)
  | [], _, _ => trivial
  | _ :: _, h, 0 => h.1
  | _ :: _, h, k + 1 => ok_get h.2 k
theorem tput1_map : ∀ (L : List tV) (k : Nat) (v : tV), (tput1 L k v).map mcv = mput1 (L.map mcv) k (mcv v)
  | [], _, _ => by simp [tput1, mput1]
  | _ :: l, 0, v => rfl
  | w :: l, 1, v => by
    simp only [tput1, mput1, List.map_cons, tc2_map]
    rw [tput1_map l 0 v]
    cases tc2 w <;> rfl
  | w :: l, k + 2, v => by
    simp only [tput1, mput1, List.map_cons]
    rw [tput1_map l (k + 1) v]
theorem ok_tput1 {W : tW} : ∀ {L : List tV}, tokL W L → ∀ {v : tV}, tokV W v → ∀ k, tokL W (tput1 L k v)
  | [], _, _, _, _ => by simp [tput1, tokL]
  | _ :: _, h, _, hv, 0 => ⟨hv, h.2⟩
  | w :: _, h, _, hv, 1 => by
    simp only [tput1]
    refine ⟨?_, ok_tput1 h.2 hv 0⟩
    cases tc2 w
    · exact h.1
    · trivial
  | _ :: _, h, _, hv, k + 2 => by
    simp only [tput1]
    exact ⟨h.1, ok_tput1 h.2 hv (k + 1)⟩
theorem thead_map : ∀ L : List tV, (thead L).map mcv = mhead (L.map mcv)
  | [] => rfl
  | _ :: _ => rfl
theorem ok_thead {W : tW} : ∀ {L : List tV}, tokL W L → tokL W (thead L)
  | [], _ => trivial
  | _ :: _, h => ⟨trivial, h.2⟩
theorem tput2_map : ∀ (L : List tV) (k : Nat) (v : tV), (tput2 L k v).map mcv = mput2 (L.map mcv) k (mcv v)
  | [], _, _ => by simp [tput2, mput2]
  | _ :: l, 0, v => by
    simp only [tput2, mput2, List.map_cons]
    rw [thead_map]
  | w :: l, 1, v => by
    simp only [tput2, mput2, List.map_cons, tc2_map]
    rw [tput2_map l 0 v]
    cases tc2 w <;> rfl
  | w :: l, k + 2, v => by
    simp only [tput2, mput2, List.map_cons]
    rw [tput2_map l (k + 1) v]
theorem ok_tput2 {W : tW} : ∀ {L : List tV}, tokL W L → ∀ {v : tV}, tokV W v → ∀ k, tokL W (tput2 L k v)
  | [], _, _, _, _ => by simp [tput2, tokL]
  | _ :: _, h, _, hv, 0 => ⟨hv, ok_thead h.2⟩
  | w :: _, h, _, hv, 1 => by
    simp only [tput2]
    refine ⟨?_, ok_tput2 h.2 hv 0⟩
    cases tc2 w
    · exact h.1
    · trivial
  | _ :: _, h, _, hv, k + 2 => by
    simp only [tput2]
    exact ⟨h.1, ok_tput2 h.2 hv (k + 1)⟩
theorem tcats_map : ∀ S : List tV, mcats (S.map mcv) = tcats S
  | [] => rfl
  | v :: S => by
    simp only [List.map_cons, mcats, tcats, tc2_map, tcats_map S]
theorem tlay_map : ∀ S : List tV, mlay (S.map mcv) = (tlay S).map mcv
  | [] => rfl
  | v :: S => by
    simp only [List.map_cons, mlay, tlay, tc2_map, tlay_map S]
    cases tc2 v <;> rfl
theorem tpad_map : ∀ (n : Nat) (S : List tV), mpad n (S.map mcv) = (tpad n S).map mcv
  | 0, _ => rfl
  | n + 1, [] => by
    have h := tpad_map n []
    simp only [List.map_nil] at h
    simp only [List.map_nil, mpad, tpad, List.map_cons, h]
    rfl
  | n + 1, _ :: S => by
    simp only [List.map_cons, mpad, tpad, tpad_map n S]
theorem ok_lay {W : tW} : ∀ {S : List tV}, tokL W S → tokL W (tlay S)
  | [], _ => trivial
  | v :: _, h => by
    simp only [tlay]
    cases tc2 v
    · exact ⟨h.1, ok_lay h.2⟩
    · exact ⟨h.1, trivial, ok_lay h.2⟩
theorem ok_pad {W : tW} : ∀ (n : Nat) {S : List tV}, tokL W S → tokL W (tpad n S)
  | 0, _, _ => trivial
  | n + 1, [], h => ⟨trivial, ok_pad n h⟩
  | n + 1, _ :: _, h => ⟨h.1, ok_pad n h.2⟩
theorem tpop_map : ∀ (n : Nat) (S as : List tV) {r q : List tV}, tpop n S as = some (r, q) → mpop n (S.map mcv) (as.map mcv) = some (r.map mcv, q.map mcv)
  | 0, S, as, r, q, h => by
    cases h
    rfl
  | n + 1, [], _, _, _, h => by cases h
  | n + 1, v :: S, as, _, _, h => tpop_map n S (v :: as) h
theorem ok_pop {W : tW} : ∀ (n : Nat) {S as r q : List tV}, tokL W S → tokL W as → tpop n S as = some (r, q) → tokL W r ∧ tokL W q
  | 0, _, _, _, _, hS, ha, h => by
    cases h
    exact ⟨ha, hS⟩
  | n + 1, [], _, _, _, _, _, h => by cases h
  | n + 1, v :: S, as, _, _, hS, ha, h => ok_pop n (S := S) (as := v :: as) hS.2 ⟨hS.1, ha⟩ h
theorem tif_ok {b : Bool} {P : Prop} (h : tif b P) : b = true ∧ P := by
  cases b with
  | false => exact h.elim
  | true => exact ⟨rfl, h⟩
theorem tret1_ok {m : Nat} {v : Int} {P : Prop} (h : tret1 m v P) : mret1 m v ∧ P := by
  unfold tret1 at h
  cases h1 : Nat.beq (mret m) 1 with
  | true =>
    rw [h1] at h
    unfold mret1
    rw [Nat.eq_of_beq_eq_true h1]
    exact ⟨trivial, h⟩
  | false =>
    rw [h1] at h
    dsimp only [cond] at h
    cases h2 : Nat.beq (mret m) 2 with
    | true =>
      rw [h2] at h
      unfold mret1
      rw [Nat.eq_of_beq_eq_true h2]
      exact h
    | false => rw [h2] at h; exact h.elim
theorem troomS_ok {m : Nat} {S : List tV} (h : troomS m S = true) : mroomS m (S.map mcv) := by
  simp only [troomS, Bool.and_eq_true] at h
  exact ⟨Nat.le_of_ble_eq_true h.1.1, by rw [tcats_map]; exact Nat.le_of_ble_eq_true h.1.2, Nat.le_of_ble_eq_true h.2⟩
theorem troomN_ok {m : Nat} {S : List tV} {k : Nat} (h : troomN m S k = true) : mroomN m (S.map mcv) k := by
  unfold troomN at h
  rw [Bool.and_eq_true] at h
  exact ⟨Nat.le_of_ble_eq_true h.1, by rw [tcats_map]; exact Nat.le_of_ble_eq_true h.2⟩
theorem tfit_ok {t : Nat} {v : mV} {P : Prop} (h4 : Nat.beq t 4 = false) (h : tfit t v P) : mfit t v ∧ P := by
  unfold tfit at h
  split at h
  · exact ⟨rfl, h⟩
  · exact ⟨⟨rfl, h.1⟩, h.2⟩
  · exact ⟨⟨rfl, h.1⟩, h.2⟩
  · exact ⟨rfl, h⟩
  · exact h.elim
theorem trecv_ok {W : tW} {j : Nat} {as : List tV} (ha : tokL W as) (h : trecv j as = true) : mrecv j (as.map mcv) W.1 := by
  unfold trecv at h
  unfold mrecv
  cases h0 : Nat.beq (mkd j) 0 with
  | true =>
    rw [Nat.eq_of_beq_eq_true h0]
    trivial
  | false =>
    rw [h0] at h
    dsimp only [cond] at h
    split
    · trivial
    · split at h
      · rename_i t a r
        rw [Bool.and_eq_true, Nat.blt_eq] at h
        have e := Nat.eq_of_beq_eq_true h.1
        have k := tobj ha.1 h.2
        rw [e] at k
        exact k
      · cases h
theorem tsw_all {x : Int} {f : Nat → Prop} {g : Nat → mSt} {B : mSt → Prop} {p P : Prop} {st : mSt} (hf : ∀ q, f q → B (g q)) (hp : P → p → B st) : ∀ (ts : List Int) (k : Int), tsw x f k ts P → mall B (msw x g k ts ++ [(p, st)])
  | [], _, h => hp h
  | t :: ts, k, h => by
    have ih := tsw_all hf hp ts (k + 1) h.2
    have hne : msw x g (k + 1) ts ++ [(p, st)] ≠ [] := fun w => by
      have := (List.append_eq_nil_iff.mp w).2
      cases this
    obtain ⟨q, r, hqr⟩ := List.exists_cons_of_ne_nil hne
    show mall B ((x = k, g t.toNat) :: (msw x g (k + 1) ts ++ [(p, st)]))
    rw [hqr] at ih ⊢
    exact ⟨fun e => hf _ (h.1 e), ih⟩
section TS
variable {O : mO} {W : tW} {m : Nat} {B : tSt → Prop} {C : Nat → List tV → mD → tK → Prop} {K : tK} {B' : mSt → Prop} {C' : Nat → List mV → mG → mD → mK → Prop} {Kc : mK}
theorem tback_ok {pc c s : Nat} {L S : List tV} {d : mD} {nx : Int} {r : mRes} (hL : tokL W L) (hS : tokL W S)
    (hB : ∀ nx pc L S c s d, tokL W L → tokL W S → tSh W d → B (pc, L, S, c, s, d) → B' (pc, L.map mcv, S.map mcv, c, s, (W.1, W.2, nx), d))
    (hK : ∀ r nx' d', tSh W d' → K r d' → Kc r (W.1, W.2, nx') d') (hd : tSh W d) (h : tback m pc L S c s B K r d) : mback m pc (L.map mcv) (S.map mcv) c s B' Kc r (W.1, W.2, nx) d := by
  match r, h with
  | .inl (some v), h => exact hB nx _ _ (.inl v :: S) _ _ _ hL ⟨trivial, hS⟩ hd h
  | .inl none, h => exact hB nx _ _ _ _ _ _ hL hS hd h
  | .inr e, h =>
    simp only [tback] at h
    simp only [mback]
    split at h
    · rename_i n hn
      rw [hn]
      obtain ⟨h1, h2⟩ := tret1_ok h
      exact ⟨h1, hK _ _ _ hd h2⟩
    · rename_i hn
      rw [hn]
      obtain ⟨h1, h2⟩ := tif_ok h
      exact ⟨h1, hK _ _ _ hd h2⟩
set_option maxHeartbeats 2000000 in
theorem tX_ok {len pc c s : Nat} {i : Instr} {L S : List tV} {d : mD} {nx : Int} (hL : tokL W L) (hS : tokL W S) (hd : tSh W d)
    (hB : ∀ nx pc L S c s d, tokL W L → tokL W S → tSh W d → B (pc, L, S, c, s, d) → B' (pc, L.map mcv, S.map mcv, c, s, (W.1, W.2, nx), d))
    (hC : ∀ nx j as d K', tokL W as → tSh W d → C j as d K' → ∀ Kc', (∀ r nx' d', tSh W d' → K' r d' → Kc' r (W.1, W.2, nx') d') → C' j (as.map mcv) (W.1, W.2, nx) d Kc')
    (hK : ∀ r nx' d', tSh W d' → K r d' → Kc r (W.1, W.2, nx') d') (h : tX O m len i pc L S c s d B C K) : mint B' C' m Kc (mX O m len i pc (L.map mcv) (S.map mcv) c s (W.1, W.2, nx) d) := by
  unfold tX at h
  split at h
  · exact hB nx _ _ _ _ _ _ hL (oki hS) hd h
  · exact hB nx _ _ _ _ _ _ hL (oki hS) hd h
  · exact hB nx _ _ _ _ _ _ hL (oki hS) hd h
  · exact hB nx _ _ _ _ _ _ hL (oki hS) hd h
  · exact hB nx _ _ _ _ _ _ hL (oki hS) hd h
  · exact hB nx _ _ _ _ _ _ hL (oki hS) hd h
  · exact hB nx _ _ _ _ _ _ hL (oki hS) hd h
  · exact hB nx _ _ _ _ _ _ hL (oki hS) hd h
  · split at h
    · rename_i hx
      simp only [mX, tget_map, hx, mcv]
      exact hB nx _ _ _ _ _ _ hL (okc (hx ▸ ok_get hL _) hS) hd h
    · exact h.elim
  · split at h
    · rename_i hx
      simp only [mX, tget_map, hx, mcv]
      exact hB nx _ _ _ _ _ _ hL (okc (hx ▸ ok_get hL _) hS) hd h
    · exact h.elim
  · split at h
    · rename_i hx
      simp only [mX, tget_map, hx, mcv]
      exact hB nx _ _ _ _ _ _ hL (okc (hx ▸ ok_get hL _) hS) hd h
    · exact h.elim
  · split at h
    · rename_i hx
      simp only [mX, tget_map, hx, mcv]
      exact hB nx _ _ _ _ _ _ hL (okc (hx ▸ ok_get hL _) hS) hd h
    · rename_i hx
      simp only [mX, tget_map, hx, mcv]
      exact hB nx _ _ _ _ _ _ hL (okc (hx ▸ ok_get hL _) hS) hd h
    · rename_i hx
      simp only [mX, tget_map, hx, mcv]
      exact hB nx _ _ _ _ _ _ hL (okc (hx ▸ ok_get hL _) hS) hd h
    · exact h.elim
  · split at h
    · have k := hB nx _ _ _ _ _ _ (ok_tput1 hL hS.1 _) hS.2 hd h
      rw [tput1_map] at k
      exact k
    · exact h.elim
  · split at h
    · have k := hB nx _ _ _ _ _ _ (ok_tput1 hL hS.1 _) hS.2 hd h
      rw [tput1_map] at k
      exact And.intro hS.1.1.1 k
    · exact h.elim
  · split at h
    · have k := hB nx _ _ _ _ _ _ (ok_tput2 hL hS.1 _) hS.2 hd h
      rw [tput2_map] at k
      exact k
    · exact h.elim
  · split at h
    · have k := hB nx _ _ _ _ _ _ (ok_tput2 hL hS.1 _) hS.2 hd h
      rw [tput2_map] at k
      exact k
    · exact h.elim
  · split at h
    · rename_i hx
      simp only [mX, tget_map, hx, mcv]
      have k := hB nx _ _ _ _ _ _ (ok_tput1 hL (v := .inl (0, _)) trivial _) hS hd h
      rw [tput1_map] at k
      exact k
    · exact h.elim
  · split at h
    · exact hB nx _ _ _ _ _ _ hL (okc hS.1 hS) hd h
    · exact hB nx _ _ _ _ _ _ hL (okc hS.1 hS) hd h
    · exact h.elim
  · split at h
    · exact hB nx _ _ _ _ _ _ hL (okc hS.1 (okc hS.2.1 hS)) hd h
    · exact h.elim
  · split at h
    · exact hB nx _ _ _ _ _ _ hL hS.2 hd h
    · exact h.elim
  · split at h
    · exact hB nx _ _ _ _ _ _ hL (oki hS.2.2) hd h
    · exact h.elim
  · split at h
    · exact hB nx _ _ _ _ _ _ hL (oki hS.2.2) hd h
    · exact h.elim
  · split at h
    · exact hB nx _ _ _ _ _ _ hL (oki hS.2.2) hd h
    · exact h.elim
  · split at h
    · exact And.intro h.1 (hB nx _ _ _ _ _ _ hL (oki hS.2.2) hd h.2)
    · exact h.elim
  · split at h
    · exact And.intro h.1 (hB nx _ _ _ _ _ _ hL (oki hS.2.2) hd h.2)
    · exact h.elim
  · split at h
    · exact hB nx _ _ _ _ _ _ hL (oki hS.2.2) hd h
    · exact h.elim
  · split at h
    · exact hB nx _ _ _ _ _ _ hL (oki hS.2.2) hd h
    · exact h.elim
  · split at h
    · exact hB nx _ _ _ _ _ _ hL (oki hS.2.2) hd h
    · exact h.elim
  · split at h
    · exact hB nx _ _ _ _ _ _ hL (oki hS.2.2) hd h
    · exact h.elim
  · split at h
    · exact hB nx _ _ _ _ _ _ hL (oki hS.2.2) hd h
    · exact h.elim
  · split at h
    · exact hB nx _ _ _ _ _ _ hL (oki hS.2.2) hd h
    · exact h.elim
  · split at h
    · exact hB nx _ _ _ _ _ _ hL (oki hS.2.2) hd h
    · exact h.elim
  · split at h
    · exact hB nx _ _ _ _ _ _ hL (oki hS.2.2) hd h
    · exact h.elim
  · split at h
    · exact hB nx _ _ _ _ _ _ hL (oki hS.2.2) hd h
    · exact h.elim
  · split at h
    · exact hB nx _ _ _ _ _ _ hL (oki hS.2.2) hd h
    · exact h.elim
  · split at h
    · exact hB nx _ _ _ _ _ _ hL (oki hS.2.2) hd h
    · exact h.elim
  · split at h
    · exact hB nx _ _ _ _ _ _ hL (oki hS.2.2) hd h
    · exact h.elim
  · split at h
    · exact hB nx _ _ _ _ _ _ hL (oki hS.2.2) hd h
    · exact h.elim
  · split at h
    · exact And.intro h.1 (hB nx _ _ _ _ _ _ hL (oki hS.2.2) hd h.2)
    · exact h.elim
  · split at h
    · exact And.intro h.1 (hB nx _ _ _ _ _ _ hL (oki hS.2.2) hd h.2)
    · exact h.elim
  · split at h
    · exact hB nx _ _ _ _ _ _ hL (oki hS.2.2) hd h
    · exact h.elim
  · split at h
    · exact hB nx _ _ _ _ _ _ hL (oki hS.2) hd h
    · exact h.elim
  · split at h
    · exact And.intro h.1 (hB nx _ _ _ _ _ _ hL (oki hS.2) hd h.2)
    · exact h.elim
  · split at h
    · exact hB nx _ _ _ _ _ _ hL (oki hS.2) hd h
    · exact h.elim
  · split at h
    · exact hB nx _ _ _ _ _ _ hL (oki hS.2) hd h
    · exact h.elim
  · exact hB nx _ _ _ _ _ _ hL hS hd h
  · split at h
    · exact ⟨h.1, fun z => hB nx _ _ _ _ _ _ hL hS.2 hd (h.2.1 z), fun z => hB nx _ _ _ _ _ _ hL hS.2 hd (h.2.2 z)⟩
    · exact h.elim
  · split at h
    · exact ⟨h.1, fun z => hB nx _ _ _ _ _ _ hL hS.2.2 hd (h.2.1 z), fun z => hB nx _ _ _ _ _ _ hL hS.2.2 hd (h.2.2 z)⟩
    · exact h.elim
  · split at h
    · exact ⟨h.1, tsw_all (fun q z => hB nx _ _ _ _ _ _ hL hS.2 hd z) (fun z z2 => hB nx _ _ _ _ _ _ hL hS.2 hd (z z2)) _ _ h.2⟩
    · exact h.elim
  · rename_i g
    split at h
    · rename_i t a S0
      cases hc : (Nat.beq t (g / 32) && Nat.blt t 12) with
      | false => rw [hc] at h; exact h.elim
      | true =>
        rw [hc] at h
        dsimp only [cond] at h
        rw [Bool.and_eq_true, Nat.blt_eq] at hc
        obtain ⟨hc, h12⟩ := hc
        obtain rfl := Nat.eq_of_beq_eq_true hc
        have hk := tobj hS.1 h12
        cases hc2 : Nat.beq (mfty g) 4 with
        | true =>
          rw [hc2] at h
          obtain ⟨e1, e2⟩ := hd.1 a g hS.1.1.1 hS.1.1.2 hk (Nat.eq_of_beq_eq_true hc2)
          refine And.intro hk ?_
          have k := hB nx (pc + 3) _ (.inr (tpy g, a + tpo g) :: S0) c s d hL (okc e2 hS.2) hd h
          rw [Nat.eq_of_beq_eq_true hc2, e1]
          exact k
        | false =>
          rw [hc2] at h
          exact And.intro hk (hB nx _ _ _ _ _ _ hL (oki hS.2) hd h)
    · exact h.elim
  · rename_i g
    split at h
    · rename_i v t a S0
      cases hc : (Nat.beq t (g / 32) && Nat.blt t 12 && !Nat.beq (mfty g) 4) with
      | false => rw [hc] at h; exact h.elim
      | true =>
        rw [hc] at h
        dsimp only [cond] at h
        rw [Bool.and_eq_true, Bool.and_eq_true, Bool.not_eq_true', Nat.blt_eq] at hc
        obtain ⟨⟨hc, h12⟩, hc2⟩ := hc
        obtain rfl := Nat.eq_of_beq_eq_true hc
        have hk := tobj hS.2.1 h12
        obtain ⟨h1, h2⟩ := tfit_ok hc2 h
        exact And.intro ⟨hk, h1⟩ (hB nx _ _ _ _ _ _ hL hS.2.2 (hd.setF hk h12 hc2) h2)
    · exact h.elim
  · split at h
    · rename_i k S0
      cases hc : zeqT k 2 with
      | false => rw [hc] at h; exact h.elim
      | true =>
        rw [hc] at h
        exact And.intro (of_decide_eq_true hc) (hB nx _ _ _ _ _ _ hL (oki hS.2) hd h)
    · rename_i t a S0
      cases hc : Nat.ble 100 (tk t) with
      | false => rw [hc] at h; exact h.elim
      | true =>
        rw [hc] at h
        obtain ⟨e0, e1, e2⟩ := trow hS.1 (Nat.le_of_ble_eq_true hc)
        refine And.intro (by show 100 ≤ W.1 a; rw [e1]; have := Nat.le_of_ble_eq_true hc; omega) ?_
        have k := hB nx (pc + 1) _ (.inl (0, tl t) :: S0) c s d hL (oki hS.2) hd h
        rw [← e2] at k
        exact k
    · exact h.elim
  · split at h
    · rename_i i t a S0
      cases hc : (Nat.beq (tk t) 100) with
      | false => rw [hc] at h; exact h.elim
      | true =>
        rw [hc] at h
        obtain ⟨⟨h1, h2⟩, h3⟩ := h
        obtain ⟨e0, e1, e2⟩ := trow hS.2.1 (by rw [Nat.eq_of_beq_eq_true hc]; omega)
        exact And.intro ⟨by show W.1 a = 100; rw [e1, Nat.eq_of_beq_eq_true hc]; rfl, h1, by show i < W.2 a; rw [e2]; exact h2⟩ (hB nx _ _ _ _ _ _ hL (oki hS.2.2) hd h3)
    · rename_i i k S0
      cases hc : Nat.ble k 2 with
      | false => rw [hc] at h; exact h.elim
      | true =>
        rw [hc] at h
        have hk := Nat.le_of_ble_eq_true hc
        exact And.intro ⟨by show (k : Int) = 0 ∨ (k : Int) = 1 ∨ (k : Int) = 2; omega, h.1.1, h.1.2⟩ (hB nx _ _ _ _ _ _ hL (oki hS.2.2) hd h.2)
    · exact h.elim
  · split at h
    · rename_i i t a S0
      cases hc : (Nat.beq (tk t) 101) with
      | false => rw [hc] at h; exact h.elim
      | true =>
        rw [hc] at h
        obtain ⟨⟨h1, h2⟩, h3⟩ := h
        obtain ⟨e0, e1, e2⟩ := trow hS.2.1 (by rw [Nat.eq_of_beq_eq_true hc]; omega)
        exact And.intro ⟨by show W.1 a = 101; rw [e1, Nat.eq_of_beq_eq_true hc]; rfl, h1, by show i < W.2 a; rw [e2]; exact h2⟩ (hB nx _ _ _ _ _ _ hL (oki hS.2.2) hd h3)
    · exact h.elim
  · split at h
    · rename_i i t a S0
      cases hc : (Nat.beq (tk t) 102 || Nat.beq (tk t) 103) with
      | false => rw [hc] at h; exact h.elim
      | true =>
        rw [hc] at h
        obtain ⟨⟨h1, h2⟩, h3⟩ := h
        obtain ⟨e0, e1, e2⟩ := trow hS.2.1 (by have := tbb hc; omega)
        exact And.intro ⟨by show W.1 a = 102 ∨ W.1 a = 103; rw [e1]; have := tbb hc; omega, h1, by show i < W.2 a; rw [e2]; exact h2⟩ (hB nx _ _ _ _ _ _ hL (oki hS.2.2) hd h3)
    · exact h.elim
  · split at h
    · rename_i i t a S0
      cases hc : Nat.ble 200 (tk t) with
      | false => rw [hc] at h; exact h.elim
      | true =>
        rw [hc] at h
        obtain ⟨⟨h1, h2⟩, h3⟩ := h
        have hk := Nat.le_of_ble_eq_true hc
        obtain ⟨e0, e1, e2⟩ := trow hS.2.1 (by omega)
        obtain ⟨g1, g2⟩ := hd.2 a t i hS.2.1 hk h1 h2
        refine And.intro ⟨by show 200 ≤ W.1 a; rw [e1]; omega, h1, by show i < W.2 a; rw [e2]; exact h2⟩ ?_
        have k := hB nx (pc + 1) _ (.inr (tec t, a + (teb t + tes t * i)) :: S0) c s d hL (okc g2 hS.2.2) hd h3
        rw [g1]
        exact k
    · exact h.elim
  · split at h
    · rename_i v i t a S0
      cases hc : Nat.beq (tk t) 100 with
      | false => rw [hc] at h; exact h.elim
      | true =>
        rw [hc] at h
        obtain ⟨⟨h1, h2⟩, h3⟩ := h
        have hk := Nat.eq_of_beq_eq_true hc
        obtain ⟨e0, e1, e2⟩ := trow hS.2.2.1 (by omega)
        exact And.intro ⟨by show W.1 a = 100; rw [e1, hk]; rfl, h1, by show i < W.2 a; rw [e2]; exact h2⟩ (hB nx _ _ _ _ _ _ hL hS.2.2.2 (hd.setA e1 (by omega) (by omega)) h3)
    · exact h.elim
  · split at h
    · rename_i v i t a S0
      cases hc : Nat.beq (tk t) 101 with
      | false => rw [hc] at h; exact h.elim
      | true =>
        rw [hc] at h
        obtain ⟨⟨h1, h2⟩, h3⟩ := h
        have hk := Nat.eq_of_beq_eq_true hc
        obtain ⟨e0, e1, e2⟩ := trow hS.2.2.1 (by omega)
        exact And.intro ⟨by show W.1 a = 101; rw [e1, hk]; rfl, h1, by show i < W.2 a; rw [e2]; exact h2⟩ (hB nx _ _ _ _ _ _ hL hS.2.2.2 (hd.setA e1 (by omega) (by omega)) h3)
    · exact h.elim
  · split at h
    · rename_i v i t a S0
      cases hc : Nat.beq (tk t) 102 with
      | true =>
        rw [hc] at h
        obtain ⟨⟨h0, h1, h2⟩, h3⟩ := h
        have hk := Nat.eq_of_beq_eq_true hc
        obtain ⟨e0, e1, e2⟩ := trow hS.2.2.1 (by omega)
        exact And.intro ⟨Or.inl ⟨by show W.1 a = 102; rw [e1, hk]; rfl, h0.1, h0.2⟩, h1, by show i < W.2 a; rw [e2]; exact h2⟩ (hB nx _ _ _ _ _ _ hL hS.2.2.2 (hd.setA e1 (by omega) (by omega)) h3)
      | false =>
        rw [hc] at h
        dsimp only [cond] at h
        cases hc2 : Nat.beq (tk t) 103 with
        | false => rw [hc2] at h; exact h.elim
        | true =>
          rw [hc2] at h
          obtain ⟨⟨h0, h1, h2⟩, h3⟩ := h
          have hk := Nat.eq_of_beq_eq_true hc2
          obtain ⟨e0, e1, e2⟩ := trow hS.2.2.1 (by omega)
          exact And.intro ⟨Or.inr ⟨by show W.1 a = 103; rw [e1, hk]; rfl, h0⟩, h1, by show i < W.2 a; rw [e2]; exact h2⟩ (hB nx _ _ _ _ _ _ hL hS.2.2.2 (hd.setA e1 (by omega) (by omega)) h3)
    · exact h.elim
  · unfold tif troomT at h
    cases hc : (Nat.blt 5 (mdep m) && Nat.ble (tcats S + 82) (mneed m) && Nat.ble (c + 1) (mmc m) && Nat.ble (s + 6) (mms m)) with
    | false => rw [hc] at h; exact h.elim
    | true =>
      rw [hc] at h
      simp only [Bool.and_eq_true] at hc
      obtain ⟨⟨⟨c1, c2⟩, c3⟩, c4⟩ := hc
      exact And.intro ⟨by simpa only [Nat.blt_eq] using c1, by rw [tcats_map]; exact Nat.le_of_ble_eq_true c2, Nat.le_of_ble_eq_true c3, Nat.le_of_ble_eq_true c4⟩ (hK _ _ _ hd h)
  · rename_i j
    split at h
    · rename_i as S0 hp
      have p1 : mpop (mnp j) (S.map mcv) [] = _ := tpop_map _ _ _ hp
      have ⟨ha, hS0⟩ := ok_pop (as := []) _ hS True.intro hp
      simp only [mX, p1]
      unfold tif troom at h
      cases hc : (mroom m j && Nat.ble (tlay as).length (mmaxL j) && Nat.ble (tcats S0) 8 && trecv j as) with
      | false => rw [hc] at h; exact h.elim
      | true =>
        rw [hc] at h
        dsimp only [cond] at h
        cases hc2 : (Nat.ble (c + mmc j) (mmc m) && Nat.ble (s + mms j) (mms m)) with
        | false => rw [hc2] at h; exact h.elim
        | true =>
          rw [hc2] at h
          dsimp only [cond] at h
          simp only [Bool.and_eq_true] at hc hc2
          obtain ⟨⟨⟨c1, c2⟩, c3⟩, c4⟩ := hc
          refine And.intro ⟨⟨c1, by rw [tlay_map, List.length_map]; exact c2, by rw [tcats_map]; exact Nat.le_of_ble_eq_true c3, Nat.le_of_ble_eq_true hc2.1, Nat.le_of_ble_eq_true hc2.2⟩, trecv_ok ha c4⟩ ?_
          refine hC nx j as d _ ha hd h _ (fun r nx' d' hd' hr => ?_)
          exact tback_ok hL hS0 hB hK hd' hr
    · exact h.elim
  · rename_i j
    split at h
    · rename_i t a S0
      obtain ⟨c1, h⟩ := tif_ok h
      exact And.intro ⟨hS.1.1.1, troomN_ok c1⟩ (hB nx _ _ _ _ _ _ hL hS.2 hd h)
    · obtain ⟨c1, h⟩ := tif_ok h
      exact And.intro ⟨h.1.1, h.1.2, troomN_ok c1⟩ (hB nx _ _ _ _ _ _ hL (oki hS.2.2) hd h.2)
    · obtain ⟨c1, h⟩ := tif_ok h
      exact And.intro ⟨h.1.1, h.1.2, troomN_ok c1⟩ (hB nx _ _ _ _ _ _ hL (oki hS.2.2) hd h.2)
    · rename_i n dp ty y sp tx x S0
      obtain ⟨c1, h⟩ := tif_ok h
      simp only [Bool.and_eq_true, Bool.or_eq_true] at c1
      obtain ⟨⟨⟨⟨c1, c2⟩, c3⟩, c4⟩, c5⟩ := c1
      obtain ⟨⟨h1, h2, h3, h4, h5⟩, h6⟩ := h
      have c2 : tk tx = 100 ∨ tk tx = 101 := c2.imp Nat.eq_of_beq_eq_true Nat.eq_of_beq_eq_true
      have c3 := Nat.eq_of_beq_eq_true c3
      obtain ⟨y0, y1, y2⟩ := trow hS.2.2.1 (by omega)
      obtain ⟨x0, x1, x2⟩ := trow hS.2.2.2.2.1 (by omega)
      have bx : tl tx ≤ 100000 := of_decide_eq_true c4
      have by_ : tl ty ≤ 100000 := of_decide_eq_true c5
      refine And.intro ⟨by show W.1 x = 100 ∨ W.1 x = 101; rw [x1]; omega, by show W.1 y = W.1 x; rw [y1, x1, c3], h1, h2, h3, by omega, by omega, by omega, by show sp + n ≤ W.2 x; rw [x2]; exact h4, by show dp + n ≤ W.2 y; rw [y2]; exact h5, troomN_ok c1⟩ ?_
      exact hB nx _ _ _ _ _ _ hL hS.2.2.2.2.2 (hd.cpyA y1 (by omega) (by omega)) h6
    · obtain ⟨c1, h⟩ := tif_ok h
      exact And.intro ⟨h.1, troomS_ok c1⟩ (hB nx _ _ _ _ _ _ hL (oki hS.2) hd h.2)
    · obtain ⟨c1, h⟩ := tif_ok h
      exact And.intro ⟨h.1, troomS_ok c1⟩ (hB nx _ _ _ _ _ _ hL (oki hS.2.2) hd h.2)
    · exact h.elim
  · split at h
    · obtain ⟨h1, h2⟩ := tret1_ok h
      exact And.intro h1 (hK _ _ _ hd h2)
    · exact h.elim
  · split at h
    · obtain ⟨h1, h2⟩ := tif_ok h
      exact And.intro (Nat.eq_of_beq_eq_true h1) (hK _ _ _ hd h2)
    · exact h.elim
  · split at h
    · obtain ⟨h1, h2⟩ := tif_ok h
      exact And.intro (Nat.eq_of_beq_eq_true h1) (hK _ _ _ hd h2)
    · exact h.elim
  · split at h
    · obtain ⟨h1, h2⟩ := tif_ok h
      exact And.intro (Nat.eq_of_beq_eq_true h1) (hK _ _ _ hd h2)
    · exact h.elim
  · exact h.elim
end TS
-- the cells' shape holds, and places are what they say: then a run
def tRun (E : mO × tW) (m : Nat) : tSt → tK → Prop
  | (pc, L, S, c, s, d), K => ∀ (nx : Int) (Kc : mK), tokL E.2 L → tokL E.2 S → tSh E.2 d → (∀ r nx' d', tSh E.2 d' → K r d' → Kc r (E.2.1, E.2.2, nx') d') → mRun E.1 m (pc, L.map mcv, S.map mcv, c, s, (E.2.1, E.2.2, nx), d) Kc
def tCall (E : mO × tW) (j : Nat) (as : List tV) (d : mD) (K : tK) : Prop := tRun E j (tent j as d) K
-- behind a call
def tbk (E : mO × tW) (m pc : Nat) (L S : List tV) (c s : Nat) (K : tK) : tK := tback m pc L S c s (fun st => tRun E m st K) K
theorem tRun_mono {E : mO × tW} {m : Nat} {st : tSt} {K K2 : tK} (h : tRun E m st K) (hk : ∀ r d, K r d → K2 r d) : tRun E m st K2 := by
  obtain ⟨pc, L, S, c, s, d⟩ := st
  exact fun nx Kc hL hS hd hK => h nx Kc hL hS hd (fun r nx' d' hd' hr => hK r nx' d' hd' (hk r d' hr))
theorem tRun_in {E : mO × tW} {m : Nat} {st : tSt} {K : tK} {B : tSt → Prop} (hB : ∀ st, B st → tRun E m st K) (h : tstp E.1 B (fun j as d K' => tCall E j as d K') m K st) : tRun E m st K := by
  obtain ⟨pc, L, S, c, s, d⟩ := st
  intro nx Kc hL hS hd hK
  simp only [tstp] at h
  split at h
  · rename_i i len hf
    refine mRun_in ?_
    simp only [mstp, hf]
    refine tX_ok (B := B) (B' := fun st => mRun E.1 m st Kc) (C := fun j as d K' => tCall E j as d K') (C' := fun j as G d K' => mCall E.1 j as G d K') hL hS hd (fun nx' pc L S c s d hL hS hd hb => ?_) (fun nx' j as d K' ha hd hc Kc' hk => ?_) hK h
    · exact hB _ hb nx' Kc hL hS hd hK
    · have k := hc nx' Kc' (ok_pad _ (ok_lay ha)) trivial hd hk
      show mRun E.1 j (0, mloc j (as.map mcv), [], 0, 0, (E.2.1, E.2.2, nx'), d) Kc'
      unfold mloc
      rw [tlay_map, tpad_map]
      exact k
  · exact h.elim
def tin : List Nat → Nat → Bool
  | [], _ => false
  | a :: l, b => bif Nat.beq a b then true else tin l b
-- steps up to these places
def tT (E : mO × tW) (m : Nat) (K : tK) (cut : List Nat) : Nat → tSt → Prop
  | 0, st => tRun E m st K
  | n + 1, st => tstp E.1 (fun st => bif tin cut st.1 then tRun E m st K else tT E m K cut n st) (fun j as d K' => tCall E j as d K') m K st
theorem tT_run {E : mO × tW} {m : Nat} {K : tK} {cut : List Nat} : ∀ (n : Nat) (st : tSt), tT E m K cut n st → tRun E m st K
  | 0, _, h => h
  | n + 1, st, h => tRun_in (fun st k => by
      cases hc : tin cut st.1 with
      | true => rw [hc] at k; exact k
      | false => rw [hc] at k; exact tT_run n st k) h
