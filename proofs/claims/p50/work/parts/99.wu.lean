/-! ===== pieces of runs of the small machine itself, up to cuts ===== -/
def mintC (B B2 : mSt → Prop) (C : Nat → List mV → mG → mD → mK → Prop) (m : Nat) (K : mK) : mNx → Prop
  | .inl st => B st
  | .inr (.inl (p, st)) => p ∧ B st
  | .inr (.inr (.inl (p, bs))) => p ∧ mall B bs
  | .inr (.inr (.inr (.inl (p, j, as, pc, L, S, c, s, G, d)))) => p ∧ C j as G d (mback m pc L S c s B2 K)
  | .inr (.inr (.inr (.inr (p, r, G, d)))) => p ∧ mfk K r G d
def mstC (O : mO) (B : mSt → Prop) (m : Nat) (K : mK) : mSt → Prop
  | (pc, L, S, c, s, G, d) => match mfetch m pc with
    | some (i, len) => mintC B (fun st => mRun O m st K) (fun j as G d K' => mCall O j as G d K') m K (mX O m len i pc L S c s G d)
    | none => False
def mNc (O : mO) (m : Nat) (K : mK) (cut : List Nat) : Nat → mSt → Prop
  | 0, st => mRun O m st K
  | n + 1, st => bif cut.contains st.1 then mRun O m st K else mstC O (mNc O m K cut n) m K st
theorem mall_of {B B' : mSt → Prop} (h : ∀ st, B st → B' st) : ∀ l : List (Prop × mSt), mall B l → mall B' l
  | [], _ => trivial
  | [(_, _)], g => fun p => h _ (g p)
  | (_, _) :: q :: r, g => ⟨fun p => h _ (g.1 p), mall_of h (q :: r) g.2⟩
theorem mstC_in {O : mO} {m : Nat} {K : mK} {B : mSt → Prop} (hB : ∀ st, B st → mRun O m st K) {st : mSt} (h : mstC O B m K st) : mRun O m st K := by
  obtain ⟨pc, L, S, c, s, G, d⟩ := st
  refine mRun_in ?_
  unfold mstC at h
  unfold mstp
  cases e : mfetch m pc with
  | none =>
    rw [e] at h
    exact h
  | some il =>
    obtain ⟨i, len⟩ := il
    rw [e] at h
    have h : mintC B (fun st => mRun O m st K) (fun j as G d K' => mCall O j as G d K') m K (mX O m len i pc L S c s G d) := h
    show mint (fun st => mRun O m st K) (fun j as G d K' => mCall O j as G d K') m K (mX O m len i pc L S c s G d)
    generalize mX O m len i pc L S c s G d = x at *
    match x, h with
    | .inl _, h => exact hB _ h
    | .inr (.inl (_, _)), h => exact ⟨h.1, hB _ h.2⟩
    | .inr (.inr (.inl (_, _))), h => exact ⟨h.1, mall_of hB _ h.2⟩
    | .inr (.inr (.inr (.inl (_, _, _, _, _, _, _, _, _, _)))), h => exact h
    | .inr (.inr (.inr (.inr (_, _, _, _)))), h => exact h
theorem mNc_ok {O : mO} {m : Nat} {K : mK} {cut : List Nat} : ∀ (n : Nat) (st : mSt), mNc O m K cut n st → mRun O m st K
  | 0, _, h => h
  | n + 1, st, h => by
    have h : (bif cut.contains st.1 then mRun O m st K else mstC O (mNc O m K cut n) m K st) := h
    cases e : cut.contains st.1 with
    | true =>
      rw [e] at h
      exact h
    | false =>
      rw [e] at h
      exact mstC_in (fun st k => mNc_ok n st k) h
theorem mC_run {O : mO} {m : Nat} {K : mK} (cut : List Nat) (n : Nat) (st : mSt) (h : mstC O (mNc O m K cut n) m K st) : mRun O m st K := mstC_in (fun st k => mNc_ok n st k) h
