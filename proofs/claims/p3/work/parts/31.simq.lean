/-! ===== the law out of a run of the small machine ===== -/
def mG0 : mG := (fun _ => -1, fun _ => 0, 0)
def mKlaw : mK := fun r _ _ => r = .inl (some (0, 1))
def mlaw0 (d : mD) : mSt := (0, mpad (mmaxL 0) [(4, 2)], [], 0, 0, mG0, d)
theorem m_room0 : mRm 0 = room_1 := by decide +kernel
theorem m_law0 : mb 0 = code ∧ mmaxL 0 = 9 ∧ mrt 0 = ret ∧ mR (mown 0) = R_law ∧ mmc 0 = 601024 ∧ mms 0 = 7293034 := by
  refine ⟨?_, ?_, ?_, ?_, ?_, ?_⟩ <;> rfl
theorem m_law {p : Program} {e : Env} {s : State} {m : MethodId} {below : List Frame} {meth : Method} {c : Code} (l : Launch) (hflags : l.flags = flags0) {b L : Nat} {xs : Nat → Int32} (hL : L ≤ 100000) (C0 : lw_At p s m meth c b L xs)
    (hrun : mRun (mO0 L xs) 0 (mlaw0 (fun _ _ => 0)) mKlaw) : W p l e room_1 s m #[Value.ref b] below meth c s.heap [] 0 0 (lw_Z below #[Value.ref b] s) (entryFrame m ([Value.ref b] : List Value).toArray 9) := by
  obtain ⟨hx, hb, hr, hml, hown, hts, hX, hbl, hlocks, hgv⟩ := C0
  obtain ⟨z1, z2, z3, z4, z5, z6⟩ := m_law0
  obtain ⟨D, tc, hK⟩ := m_knows hts
  obtain ⟨aT, aS, haT, hO⟩ := m_olds hL hts hgv hX hbl
  have hl : l.stackTraces = false := by
    unfold Launch.stackTraces
    rw [hflags]
    decide +kernel
  have hF : mFrame l (s.heap.size, aT, aS) D tc (mO0 L xs) 0 p s m #[Value.ref b] meth c := ⟨hx, by rw [z1]; exact hb, by rw [z2]; exact hml, by rw [z3]; exact hr, by rw [z4]; exact hown, fun w hw => hts w (List.mem_filter.mp hw).1, hlocks, fun h => absurd h (by decide), fun h => absurd h (by omega), hK, hO, hl⟩
  have hE : mEnds p l e s m #[Value.ref b] below meth c (lw_Z below #[Value.ref b] s) (s.heap.size, aT, aS) D tc 0 mKlaw := by
    refine ⟨?_, ?_, ?_⟩
    · intro op v G d H locs cs ss pc ls hk hrep hs h1 h2 hd hok
      have hk : (Sum.inl v : mRes) = .inl (some (0, 1)) := hk
      cases hk
      have hop : op = .ireturn := by
        unfold mRetOk at hok
        split at hok <;> first | rfl | simp_all
      subst hop
      rw [z5] at h1
      rw [z6] at h2
      rw [z1] at hd
      have k0 : W p l e room_1 s m #[Value.ref b] below meth c H [] 601024 7293034 (lw_Z below #[Value.ref b] s) (F0 m pc ls [.int 1]) := W.base (lw_ret (Drawn.sameBut.refl s.drawn lw_cs) hx hb hr hlocks hd)
      rw [m_room0]
      exact W.widen (k := 601024) (n := 7293034) h1 h2 (W.forget (locs := []) (L := locs) (fun q hq => hs.2.2 q hq) k0)
    · intro ex G d H locs cs ss pc ls S hk
      cases hk
    · intro ex G d H locs cs ss pc ls S q ce hex hk
      cases hk
  have hsim := m_simrun (l := l) (E := (s.heap.size, aT, aS)) (D := D) (tc := tc) hrun (by omega) p e s m #[Value.ref b] below meth c (lw_Z below #[Value.ref b] s) hF hE
  rw [← m_room0]
  have hlv := lv_entry ([Value.ref b] : List Value) (n := 9) (Nat.le_of_ble_eq_true rfl)
  rw [lg_entry_eq]
  refine hsim s.heap [] _ ⟨hlv.1, hlv.2.1, rfl, fun i hi => ?_⟩ ⟨Nat.le_refl _, fun _ => rfl, fun a ha => absurd ha (by show ¬ (0 : Int) ≤ -1; omega)⟩ va_S.rf (Nat.zero_le _) (Nat.zero_le _)
  have hi0 : i = 0 := by
    rcases Nat.eq_zero_or_pos i with h | h
    · exact h
    · exfalso
      have e9 : mpad (mmaxL 0) [(4, 2)] = [(4, 2), mu, mu, mu, mu, mu, mu, mu, mu] := rfl
      rw [e9] at hi
      match i, h with
      | i + 1, _ =>
        have h7 : (mget [mu, mu, mu, mu, mu, mu, mu, mu] i).1 = 7 := by
          rcases Nat.lt_or_ge i 8 with h8 | h8
          · match i, h8 with
            | 0, _ => rfl
            | 1, _ => rfl
            | 2, _ => rfl
            | 3, _ => rfl
            | 4, _ => rfl
            | 5, _ => rfl
            | 6, _ => rfl
            | 7, _ => rfl
            | i + 8, h => exact absurd h (by omega)
          · rw [mget_out _ _ h8]; rfl
        have hi : (mget [mu, mu, mu, mu, mu, mu, mu, mu] i).1 < 6 := hi
        omega
  subst hi0
  have h3 := hlv.2.2 (0, Value.ref b) (by simp [lv_args])
  show _ = some (Slot.val (Value.ref (aT 2)))
  rw [haT]
  exact h3
