/-! ===== the calls that let hours go by: what they have in common ===== -/
noncomputable def aRef : List Nat := [769, 770, 771, 772, 773, 774, 775, 776, 777, 778]
noncomputable def aM2 : aM := akp (aput aM1 778 (aset (acell aM1 778) 0 (0, 0))) aRef []
noncomputable def aS2 (pc c s : Nat) : aSt := (pc, [(4, 0, 2), (3, 0, 0), (3, 0, 769), (3, 0, 778), (0, 0, 0), (7, 0, 0), (7, 0, 0), (7, 0, 0), (7, 0, 0)], [(0, 0, 0)], c, s, aM2, 779, true)
noncomputable def aIeq (I J : aI) : Bool := Nat.beq I.1 J.1 && lEq (fun a b => zeq a.1 b.1 && zeq a.2 b.2) I.2 J.2
theorem aIeq_ok {I J : aI} (h : aIeq I J = true) : I = J := by
  unfold aIeq at h
  rw [Bool.and_eq_true] at h
  refine Prod.ext (Nat.eq_of_beq_eq_true h.1) (lEq_ok (fun a b hab => ?_) _ _ h.2)
  rw [Bool.and_eq_true] at hab
  exact Prod.ext (of_decide_eq_true hab.1) (of_decide_eq_true hab.2)
noncomputable def aWk (st : aSt) : aSt := (st.1, st.2.1, st.2.2.1, st.2.2.2.1, st.2.2.2.2.1, akp st.2.2.2.2.2.1 aRef [], st.2.2.2.2.2.2.1, st.2.2.2.2.2.2.2)
noncomputable def aZ2 (J : aI) (S2 : aSt) (I : aI) (st : aSt) : Bool := bif aIeq I J && asEq (aWk st) S2 then true else aRun [] 100000 aZ 3000 I 0 st aend
theorem p1_end {ρ : Nat → Int} {I : aI} {r : aRes} (h : aend I r = true) (q : mRes) (G : mG) (d : mD) (hr : gR ρ r q G d) : mKlaw q G d := by
  obtain ⟨r1, M, n, kn⟩ := r
  obtain ⟨-, hr⟩ := hr
  unfold aend at h
  match r1, q, h, hr with
  | .inl (some (0, 0, z)), .inl (some (t, w)), h, hr =>
    have h1 : z = 1 := of_decide_eq_true h
    have e1 : 0 = t := hr.1
    have e2 : w = z := hr.2
    show Sum.inl (some (t, w)) = Sum.inl (some (0, 1))
    rw [← e1, e2, h1]
  | .inl (some (0, 0, z)), .inl none, _, hr => exact hr.elim
  | .inl (some (0, 0, z)), .inr _, _, hr => exact hr.elim
  | .inl (some (0, 1, _)), _, h, _ => cases h
  | .inl (some (0, k + 2, _)), _, h, _ => cases h
  | .inl (some (t + 1, _)), _, h, _ => cases h
  | .inl none, _, h, _ => cases h
  | .inr _, _, h, _ => cases h
theorem p1_from {ρ : Nat → Int} {O : mO} {g : aG} {f : Nat} {I : aI} {st : aSt} (hI : gI ρ I O) (h : aRun g 100000 aZ f I 0 st aend = true) {w : mSt} (hw : gS ρ st w) : mRun O 0 w mKlaw :=
  aRun_ok f I 0 st aend hI h w hw mKlaw (fun I' r _ hr q G d hg => p1_end hr q G d hg) (fun _ I' st' _ hz => by cases hz)
theorem p1_two {ρ : Nat → Int} {O : mO} {g : aG} {stop f : Nat} {I J : aI} {S2 : aSt} (h1 : aRun g stop (aZ2 J S2) f I 0 aS1 (fun _ _ => false) = true) (hI : gI ρ I O) (h2 : ∀ w, gI ρ J O → gS ρ S2 w → mRun O 0 w mKlaw) {w : mSt} (hw : gS ρ aS1 w) : mRun O 0 w mKlaw := by
  refine aRun_ok f I 0 aS1 _ hI h1 w hw mKlaw (fun I' r _ h => (by cases h)) (fun _ I' st' hI' hz w' hw' => ?_)
  unfold aZ2 at hz
  cases hc : (aIeq I' J && asEq (aWk st') S2) with
  | false =>
    rw [hc] at hz
    dsimp only [cond] at hz
    exact p1_from hI' hz hw'
  | true =>
    rw [Bool.and_eq_true] at hc
    obtain rfl := aIeq_ok hc.1
    obtain ⟨g1, g2, g3, g4, g5, g6⟩ := hw'
    refine h2 w' hI' ?_
    rw [← asEq_ok _ _ hc.2]
    exact ⟨g1, g2, g3, g4, g5, gM_kp g6 aRef⟩
def p1_OK (k : Int) : Prop := ∀ {ρ : Nat → Int} {O : mO} {w : mSt}, gI ρ (aops k k) O → gS ρ aS1 w → mRun O 0 w mKlaw
theorem p1_ofok {k : Int} (h : p1_ok k) : p1_OK k := fun hI hw => by
  obtain ⟨g, f, hr⟩ := h
  exact p1_from hI hr hw
noncomputable def aopq (k : Int) (b1 b2 : Int × Int) : aI := (6, [aFull, b1, b2, aFull, aFull, aFull, (k, k)])
