theorem mcast_in {e : Nat} (h : e < 4) : Jvm.Cond.castable (mEn e) (mEn e) ∈ mNW := by
  match e, h with
  | 0, _ => exact List.mem_of_getElem? (i := 4) rfl
  | 1, _ => exact List.mem_of_getElem? (i := 5) rfl
  | 2, _ => exact List.mem_of_getElem? (i := 6) rfl
  | 3, _ => exact List.mem_of_getElem? (i := 7) rfl
  | e + 4, h => exact absurd h (by omega)
theorem m_splitAt {α : Type} : ∀ (l : List α) (i : Nat) (a : α), l[i]? = some a → l = l.take i ++ a :: l.drop (i + 1)
  | [], i, a, h => by simp at h
  | b :: l, 0, a, h => by
    simp at h
    subst h
    rfl
  | b :: l, i + 1, a, h => by
    have ih := m_splitAt l i a (by simpa using h)
    show b :: l = b :: (l.take i ++ a :: l.drop (i + 1))
    rw [← ih]
theorem mEL_use {o : Nat} (ho : o < 16) {z : Nat × Nat × Nat} (hz : z ∈ mEL o) : Jvm.Cond.classLink (mR o) z.1 (mEn z.2.1) ∈ GW := mG1_in (m_all16 mEL_ok ho hz)
section SK
variable {p : Program} {l : Launch} {e : Env} {s : State} {mid : MethodId} {args : Array Value} {below : List Frame} {meth : Method} {c : Code} {Q : State → Prop}
variable {E : mE} {D : va_G} {tc : Int → ClassId} {O : mO} {j : Nat} {K : mK} {pc : Nat} {L S : List mV} {cs ss : Nat} {G : mG} {d : mD} {H : Heap} {locs : List Loc} {ls : Array Slot}
theorem m_hcn (hF : mFrame l E D tc O j p s mid args meth c) (hE : mHret p l e s mid args below meth c Q E D tc j K) {n : Int} {q : Nat} (hck : mhcn j q n = true) (hk : K (.inl (some (0, n))) G d) (hret : mret1 j n)
    (hrep : mRep E D tc G d H) (hs : va_S (mAr E) s.heap H locs) (h1 : cs ≤ mmc j) (h2 : ss ≤ mms j) : W p l e (mRm j) s mid args below meth c H locs cs ss Q (F0 mid q ls []) := by
  unfold mhcn at hck
  split at hck
  · rename_i m hd0
    simp only [Bool.and_eq_true, decide_eq_true_eq] at hck
    obtain ⟨rfl, hck⟩ := hck
    split at hck
    · rename_i hd1
      refine lv_iconst hF.1 hF.2.1 (mdec_ok hd0) rfl ?_
      exact hE .ireturn (some (0, m)) G d H locs cs ss (q + 1) ls hk hrep hs h1 h2 (mdec_ok hd1) hret
    · cases hck
  · cases hck
theorem m_hnd (hj : j < 341) (hF : mFrame l E D tc O j p s mid args meth c) (hE : mHret p l e s mid args below meth c Q E D tc j K) {n : Int} {ex : Nat} (hpc : pc < mlen j) (hex : ex < 4) (hn : mhnd j pc ex = some n) (hk : K (.inl (some (0, n))) G d) (hret : mret1 j n)
    (hl : mLoc E ls (mmaxL j) L) (hrep : mRep E D tc G d H) (hs : va_S (mAr E) s.heap H locs) (h1 : cs ≤ mmc j) (h2 : ss ≤ mms j) {q : Addr} {ce : Cell} (hce : H[q]? = some ce) (hcv : ce.vm = .none) (hcl : s.vm.findClass (mEn ex) = some ce.cls) (rest : List Value) :
    vx_W p l e (mRm j) s mid args below meth c H locs cs ss Q (F0 mid pc ls rest) q := by
  have hF9 := hF
  obtain ⟨hx, hb, hm, hr, hown, hGW, hlocks, hname, htab, hK, hO, hll⟩ := hF
  have hck := List.all_eq_true.mp (List.all_eq_true.mp (List.all_eq_true.mp mhck_ok j (List.mem_range.mpr hj)) pc (List.mem_range.mpr hpc)) ex (List.mem_range.mpr hex)
  unfold mhck at hck
  rw [hn] at hck
  dsimp only at hck
  have ho := mown_lt hj
  have h00 : 0 < j := by
    rcases Nat.eq_zero_or_pos j with h | h
    · subst h
      exact absurd (show none = some n from hn) (by simp)
    · exact h
  cases hx9 : (mhh j)[mhix j ex]? with
  | none => rw [hx9] at hck; cases hck
  | some x =>
    rw [hx9] at hck
    dsimp only at hck
    simp only [Bool.and_eq_true, Bool.not_eq_true'] at hck
    obtain ⟨⟨⟨⟨⟨c1, c2⟩, c3⟩, c4⟩, c5⟩, c6⟩ := hck
    have hsp : c.exceptionTable.toList = tableOf ((mhh j).take (mhix j ex)) ++ ⟨x.1, x.2.1, x.2.2.1, x.2.2.2⟩ :: tableOf ((mhh j).drop (mhix j ex + 1)) := by
      have h9 := congrArg tableOf (m_splitAt _ _ _ hx9)
      rw [htab h00, h9]
      unfold tableOf
      rw [List.map_append, List.map_cons]
    have hcast := vx_ot_at (args := #[]) (a' := args) (State.WarmedH.refl s) rfl rfl (hO.1 _ (mcast_in hex))
    obtain ⟨z, hz, hz2⟩ := List.any_eq_true.mp c4
    simp only [Bool.and_eq_true] at hz2
    have hlink := hGW _ (mEL_use ho hz)
    rw [Nat.eq_of_beq_eq_true hz2.1, Nat.eq_of_beq_eq_true hz2.2] at hlink
    refine vx_catch (own := mR (mown j)) (name := mEn ex) (E := mEn ex) hown _ _ _ hsp (fun y hy => ?_) (by simp only [covers, Bool.and_eq_true, decide_eq_true_eq]; exact ⟨Nat.le_of_ble_eq_true c1, by simpa only [Nat.blt_eq] using c2⟩) (fun h0 => by have h0 : x.2.2.2 = 0 := h0; rw [h0] at c3; cases c3) hlink hcast hce hcv hcl ?_
    · obtain ⟨y9, hy9, rfl⟩ := List.mem_map.mp hy
      have h5 := List.all_eq_true.mp c5 y9 hy9
      simp only [Bool.and_eq_true, Bool.not_eq_true'] at h5
      obtain ⟨h5, h6⟩ := h5
      obtain ⟨w, hw, hw2⟩ := List.any_eq_true.mp h6
      simp only [Bool.and_eq_true, Bool.not_eq_true', Nat.blt_eq] at hw2
      obtain ⟨⟨hw2, hw3⟩, hw4⟩ := hw2
      have hl9 := hGW _ (mEL_use ho hw)
      rw [Nat.eq_of_beq_eq_true hw2] at hl9
      refine Or.inr ⟨fun h0 => ?_, mEn w.2.1, hl9, hO.2.2.2.2.2.2.2.2.2.2.1 ex hex w.2.1 hw4 (fun hh => ?_)⟩
      · have h0 : y9.2.2.2 = 0 := h0
        rw [h0] at h5
        cases h5
      · rw [← hh] at hw3
        rw [Nat.beq_refl] at hw3
        cases hw3
    · split at c6
      · rename_i k hd0
        simp only [Bool.and_eq_true, Nat.blt_eq] at c6
        exact lv_astore_n hx hb (mdec_ok hd0) rfl (mLoc_has hl) c6.1 rfl (fun ls' hl' => m_hcn hF9 hE c6.2 hk hret hrep hs h1 h2)
      · rename_i k hd0
        simp only [Bool.and_eq_true, Nat.blt_eq] at c6
        exact lv_astore hx hb (mdec_ok hd0) (mLoc_has hl) c6.1 rfl (fun ls' hl' => m_hcn hF9 hE c6.2 hk hret hrep hs h1 h2)
      · cases c6
theorem m_after (hj : j < 341) (hF : mFrame l E D tc O j p s mid args meth c) (hE : mEnds p l e s mid args below meth c Q E D tc j K) (hpc : pc < mlen j) {mc ms : Nat} {A : Array Value} {st0 : List Value}
    (hr : vx_Run p l e (mRm j) s mid args below meth c H locs cs ss mc ms (F0 mid pc ls st0) (mst E S) (mQc E D tc (mback j pc L S (cs + mc) (ss + ms) (mW p l e s mid args below meth c Q E D tc j) K) A) (mXc E D tc (mback j pc L S (cs + mc) (ss + ms) (mW p l e s mid args below meth c Q E D tc j) K)) (mAr E))
    (hl : mLoc E ls (mmaxL j) L) (hs : va_S (mAr E) s.heap H locs) (h1 : cs + mc ≤ mmc j) (h2 : ss + ms ≤ mms j) : W p l e (mRm j) s mid args below meth c H locs cs ss Q (F0 mid pc ls st0) := by
  intro T hT X
  rcases hr T hT X with ⟨v, st₀, t, T', L9, h0, X', hL, e1, e2, ⟨⟨v', G', d', hv, hk, hrep'⟩, hFF⟩, st⟩ | ⟨q, st₀, t, T', L9, En, ce, h0, X', hL, e1, e2, ⟨⟨ex, G', d', hen, hex, hk, hrep'⟩, hFF⟩, hce, hcv, hcl, st⟩
  · cases hv
    obtain ⟨k1, k2, k3⟩ := vx_keep h0 e1 hs (fun _ _ h => h) (fun _ h => h) hL hFF
    match v', hk with
    | some w, hk =>
      obtain ⟨t2, a1, b1⟩ := hk T'.heap (locs ++ L9) ls hl (by rw [e1]; exact hrep') k3 h1 h2 T' rfl X'
      exact ⟨t2, st t2 a1, b1⟩
    | none, hk =>
      obtain ⟨t2, a1, b1⟩ := hk T'.heap (locs ++ L9) ls hl (by rw [e1]; exact hrep') k3 h1 h2 T' rfl X'
      exact ⟨t2, st t2 a1, b1⟩
  · subst hen
    obtain ⟨k1, k2, k3⟩ := vx_keep h0 e1 hs (fun _ _ h => h) (fun _ h => h) hL hFF
    have hrep2 : mRep E D tc G' d' T'.heap := by rw [e1]; exact hrep'
    have hce2 : T'.heap[q]? = some ce := by rw [e1]; exact hce
    simp only [mback] at hk
    split at hk
    · rename_i n hn
      obtain ⟨t2, a1, b1⟩ := m_hnd hj hF hE.1 hpc hex hn hk.2 hk.1 hl hrep2 k3 h1 h2 hce2 hcv hcl (mst E S) T' rfl X'
      exact ⟨t2, st.trans a1, b1⟩
    · have hnoh : mhh j = [] := List.isEmpty_iff.mp hk.1
      obtain ⟨t2, a1, b1⟩ := hE.2.2 ex G' d' T'.heap (locs ++ L9) (cs + mc) (ss + ms) pc ls (mst E S) q ce hex hk.2 hrep2 k3 h1 h2 hnoh hce2 hcv hcl T' rfl X'
      exact ⟨t2, st.trans a1, b1⟩
end SK
