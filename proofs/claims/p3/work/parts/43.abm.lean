/-! ===== the abstract cells ===== -/
noncomputable def acl (M : aM) (n : Nat) (x : aN) : Option (Nat × aC) := match x with
  | (0, .ofNat q) => bif Nat.blt q n && !Nat.beq (acell M q).1 999 then some (q, acell M q) else none
  | _ => none
theorem acl_ok {ρ : Nat → Int} {M : aM} {n : Nat} {kn : Bool} {G : mG} {d : mD} (hM : gM ρ M n kn G d) {x : aN} {a : Int} (hx : gN ρ x a) {q : Nat} {c : aC} (h : acl M n x = some (q, c)) :
    a = (q : Int) ∧ q < n ∧ c = acell M q ∧ c.1 ≠ 999 ∧ G.1 a = (c.1 : Int) ∧ G.2.1 a = (c.2.1 : Int) ∧ ∀ i : Nat, gN ρ (aget c i) (d a (i : Int)) := by
  unfold acl at h
  split at h
  · rename_i q0
    have hx : a = (q0 : Int) := hx
    cases hc : (Nat.blt q0 n && !Nat.beq (acell M q0).1 999) with
    | false => rw [hc] at h; cases h
    | true =>
      rw [hc] at h
      have h : some (q0, acell M q0) = some (q, c) := h
      cases h
      simp only [Bool.and_eq_true, Nat.blt_eq, Bool.not_eq_true'] at hc
      have h9 : (acell M q).1 ≠ 999 := fun e => by
        have h2 := hc.2
        rw [e] at h2
        cases h2
      obtain ⟨h1, h2, h3⟩ := hM.2 q hc.1 h9
      rw [hx]
      exact ⟨rfl, hc.1, rfl, h9, h1, h2, h3⟩
  · cases h
noncomputable def aix (I : aI) (x : aN) (ln : Nat) : Option Nat := match arng I x with
  | some (.ofNat i, q) => bif zeq (.ofNat i) q && Nat.blt i ln then some i else none
  | _ => none
theorem aix_ok {ρ : Nat → Int} {I : aI} {O : mO} (hI : gI ρ I O) {x : aN} {a : Int} (hx : gN ρ x a) {ln i : Nat} (h : aix I x ln = some i) : a = (i : Int) ∧ i < ln := by
  unfold aix at h
  split at h
  · rename_i i0 q hp
    have h1 := arng_ok hI hx hp
    cases hc : (zeq (.ofNat i0) q && Nat.blt i0 ln) with
    | false => rw [hc] at h; cases h
    | true =>
      rw [hc] at h
      have h : some i0 = some i := h
      cases h
      rw [Bool.and_eq_true] at hc
      have h2 : Int.ofNat i = q := of_decide_eq_true hc.1
      have h3 : (Int.ofNat i) ≤ a := h1.1
      have h4 : a ≤ q := h1.2
      exact ⟨by show a = Int.ofNat i; omega, by simpa only [Nat.blt_eq] using hc.2⟩
  · cases h
theorem gM_put {ρ : Nat → Int} {M : aM} {n : Nat} {kn : Bool} {G : mG} {d d' : mD} (hM : gM ρ M n kn G d) {q : Nat} {c : aC} (hq : q < n) (h9 : (acell M q).1 ≠ 999) (h1 : c.1 = (acell M q).1) (h2 : c.2.1 = (acell M q).2.1)
    (hc : ∀ i : Nat, gN ρ (aget c i) (d' (q : Int) (i : Int))) (hd : ∀ b : Int, b ≠ (q : Int) → d' b = d b) : gM ρ (aput M q c) n kn G d' := by
  refine ⟨hM.1, fun a ha hk => ?_⟩
  rw [acell_put] at hk ⊢
  by_cases e : a = q
  · subst e
    rw [if_pos rfl, h1, h2]
    obtain ⟨g1, g2, -⟩ := hM.2 a ha h9
    exact ⟨g1, g2, hc⟩
  · rw [if_neg e] at hk ⊢
    obtain ⟨g1, g2, g3⟩ := hM.2 a ha hk
    refine ⟨g1, g2, fun i => ?_⟩
    rw [hd (a : Int) (fun z => e (by exact_mod_cast z))]
    exact g3 i
theorem gM_set {ρ : Nat → Int} {M : aM} {n : Nat} {kn : Bool} {G : mG} {d : mD} (hM : gM ρ M n kn G d) {q : Nat} (hq : q < n) (h9 : (acell M q).1 ≠ 999) {i : Nat} {v : aN} {x : Int} (hv : gN ρ v x) : gM ρ (aput M q (aset (acell M q) i v)) n kn G (mset d (q : Int) (i : Int) x) := by
  refine gM_put hM hq h9 rfl rfl (fun j => ?_) (fun b hb => by funext j; simp [mset, hb])
  rw [aget_set]
  unfold mset
  by_cases e : j = i
  · subst e
    rw [if_pos rfl, if_pos ⟨rfl, rfl⟩]
    exact hv
  · rw [if_neg e, if_neg (fun z => e (by exact_mod_cast z.2))]
    exact (hM.2 q hq h9).2.2 j
theorem gM_new {ρ : Nat → Int} {M : aM} {n : Nat} {G : mG} {d d' : mD} (hM : gM ρ M n true G d) {c : aC} {kd ln : Int} (h1 : kd = (c.1 : Int)) (h2 : ln = (c.2.1 : Int)) (hc : ∀ i : Nat, gN ρ (aget c i) (d' (n : Int) (i : Int))) (hd : ∀ b : Int, b ≠ (n : Int) → d' b = d b) :
    gM ρ (aput M n c) (n + 1) true (mkind G.1 G.2.2 kd, mkind G.2.1 G.2.2 ln, G.2.2 + 1) d' := by
  have hn := hM.1 rfl
  refine ⟨fun _ => by show G.2.2 + 1 = ((n + 1 : Nat) : Int); omega, fun a ha hk => ?_⟩
  rw [acell_put] at hk ⊢
  show (mkind G.1 G.2.2 kd) (a : Int) = _ ∧ (mkind G.2.1 G.2.2 ln) (a : Int) = _ ∧ _
  unfold mkind
  rw [hn]
  by_cases e : a = n
  · subst e
    rw [if_pos rfl, if_pos rfl, if_pos rfl]
    exact ⟨h1, h2, hc⟩
  · rw [if_neg e] at hk ⊢
    obtain ⟨g1, g2, g3⟩ := hM.2 a (by omega) hk
    have e2 : ¬ (a : Int) = (n : Int) := fun z => e (by exact_mod_cast z)
    rw [if_neg e2, if_neg e2, hd _ e2]
    exact ⟨g1, g2, g3⟩
theorem aget_nil (kd ln : Nat) (df : aN) (i : Nat) : aget (kd, ln, df, []) i = df := rfl
noncomputable def acats : List aV → Nat
  | [] => 0
  | v :: S => (bif ac2 v then 2 else 1) + acats S
theorem gL_cats {ρ : Nat → Int} : ∀ {S : List aV} {S' : List mV}, gL ρ S S' → acats S = mcats S'
  | [], [], _ => rfl
  | v :: _, w :: _, h => by
    simp only [acats, mcats, gL_cats h.2, gV_c2 h.1]
  | [], _ :: _, h => h.elim
  | _ :: _, [], h => h.elim
noncomputable def alay : List aV → List aV
  | [] => []
  | v :: l => bif ac2 v then v :: au :: alay l else v :: alay l
noncomputable def apad : Nat → List aV → List aV
  | 0, _ => []
  | n + 1, [] => au :: apad n []
  | n + 1, v :: l => v :: apad n l
theorem gL_lay {ρ : Nat → Int} : ∀ {S : List aV} {S' : List mV}, gL ρ S S' → gL ρ (alay S) (mlay S')
  | [], [], _ => trivial
  | v :: _, w :: _, h => by
    simp only [alay, mlay, gV_c2 h.1]
    cases mc2 w
    · exact ⟨h.1, gL_lay h.2⟩
    · exact ⟨h.1, gV_u, gL_lay h.2⟩
  | [], _ :: _, h => h.elim
  | _ :: _, [], h => h.elim
theorem gL_len {ρ : Nat → Int} : ∀ {S : List aV} {S' : List mV}, gL ρ S S' → S.length = S'.length
  | [], [], _ => rfl
  | _ :: _, _ :: _, h => by simp [gL_len h.2]
  | [], _ :: _, h => h.elim
  | _ :: _, [], h => h.elim
theorem gL_pad {ρ : Nat → Int} : ∀ (n : Nat) {S : List aV} {S' : List mV}, gL ρ S S' → gL ρ (apad n S) (mpad n S')
  | 0, _, _, _ => trivial
  | n + 1, [], [], h => ⟨gV_u, gL_pad n h⟩
  | n + 1, _ :: _, _ :: _, h => ⟨h.1, gL_pad n h.2⟩
  | _ + 1, [], _ :: _, h => h.elim
  | _ + 1, _ :: _, [], h => h.elim
noncomputable def apop : Nat → List aV → List aV → Option (List aV × List aV)
  | 0, S, as => some (as, S)
  | _ + 1, [], _ => none
  | n + 1, v :: S, as => apop n S (v :: as)
theorem gL_pop {ρ : Nat → Int} : ∀ (n : Nat) {S as : List aV} {S' as' : List mV} {r q : List aV}, gL ρ S S' → gL ρ as as' → apop n S as = some (r, q) → ∃ r' q', mpop n S' as' = some (r', q') ∧ gL ρ r r' ∧ gL ρ q q'
  | 0, S, as, S', as', r, q, h, ha, e => by
    cases e
    exact ⟨as', S', rfl, ha, h⟩
  | n + 1, [], _, _, _, _, _, _, _, e => by cases e
  | n + 1, v :: S, as, w :: S', as', r, q, h, ha, e => gL_pop n (S := S) (as := v :: as) (S' := S') (as' := w :: as') h.2 ⟨h.1, ha⟩ e
  | n + 1, _ :: _, _, [], _, _, _, h, _, _ => h.elim
noncomputable def acpyK {β : Type} (cx : aC) : Nat → Nat → Nat → aC → (aC → β) → β
  | 0, _, _, cy, k => k cy
  | n + 1, sp, dp, cy, k => asetK cy dp (aget cx sp) (fun cy => acpyK cx n (Nat.succ sp) (Nat.succ dp) cy k)
noncomputable def acpy (cx : aC) : Nat → Nat → Nat → aC → aC
  | 0, _, _, cy => cy
  | n + 1, sp, dp, cy => acpy cx n (Nat.succ sp) (Nat.succ dp) (aset cy dp (aget cx sp))
theorem acpyK_eq {β : Type} (cx : aC) : ∀ (n sp dp : Nat) (cy : aC) (k : aC → β), acpyK cx n sp dp cy k = k (acpy cx n sp dp cy)
  | 0, _, _, _, _ => rfl
  | n + 1, sp, dp, cy, k => by
    simp only [acpyK, acpy]
    rw [asetK_eq, acpyK_eq cx n]
theorem acpy_get (cx : aC) : ∀ (n sp dp : Nat) (cy : aC) (j : Nat), (acpy cx n sp dp cy).1 = cy.1 ∧ (acpy cx n sp dp cy).2.1 = cy.2.1 ∧ aget (acpy cx n sp dp cy) j = if dp ≤ j ∧ j < dp + n then aget cx (sp + (j - dp)) else aget cy j
  | 0, sp, dp, cy, j => ⟨rfl, rfl, by rw [if_neg (by omega)]; rfl⟩
  | n + 1, sp, dp, cy, j => by
    obtain ⟨h1, h2, h3⟩ := acpy_get cx n (Nat.succ sp) (Nat.succ dp) (aset cy dp (aget cx sp)) j
    refine ⟨h1, h2, ?_⟩
    show aget (acpy cx n (Nat.succ sp) (Nat.succ dp) (aset cy dp (aget cx sp))) j = _
    rw [h3, aget_set]
    by_cases e : j = dp
    · subst e
      rw [if_neg (by omega), if_pos rfl, if_pos (by omega)]
      congr 1
      omega
    · by_cases e2 : Nat.succ dp ≤ j ∧ j < Nat.succ dp + n
      · rw [if_pos e2, if_pos (by omega)]
        congr 1
        omega
      · rw [if_neg e2, if_neg e, if_neg (by omega)]
