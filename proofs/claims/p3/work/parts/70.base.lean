/-! ===== working on the typed machine ===== -/
theorem t_rounds {E : mO × tW} {m : Nat} {K : tK} (st : Int → mD → tSt) (Inv : Int → mD → Prop) {N : Int} (hN : 0 ≤ N) (h1 : ∀ i d, 0 ≤ i → i < N → Inv i d → (∀ d', Inv (i + 1) d' → tRun E m (st (i + 1) d') K) → tRun E m (st i d) K) (h2 : ∀ d, Inv N d → tRun E m (st N d) K) {d : mD} (h0 : Inv 0 d) : tRun E m (st 0 d) K := by
  have h : ∀ n : Nat, (n : Int) ≤ N → ∀ d, Inv (N - (n : Int)) d → tRun E m (st (N - (n : Int)) d) K := by
    intro n
    induction n with
    | zero =>
      intro _ d hd
      have e : N - ((0 : Nat) : Int) = N := by omega
      rw [e] at hd ⊢
      exact h2 d hd
    | succ n ih =>
      intro hn d hd
      refine h1 _ d (by omega) (by omega) hd (fun d' hd' => ?_)
      have e : N - ((n + 1 : Nat) : Int) + 1 = N - (n : Int) := by omega
      rw [e] at hd' ⊢
      exact ih (by omega) d' hd'
  have h9 := h N.toNat (by omega)
  have e : N - (N.toNat : Int) = 0 := by omega
  rw [e] at h9
  exact h9 d h0
theorem t_count {E : mO × tW} {m : Nat} {K : tK} (st : Int → tSt) {N : Int} (hN : 0 ≤ N) (h1 : ∀ i, 0 ≤ i → i < N → tRun E m (st (i + 1)) K → tRun E m (st i) K) (h2 : tRun E m (st N) K) : tRun E m (st 0) K :=
  t_rounds (fun i _ => st i) (fun _ _ => True) hN (fun i d a b _ k => h1 i a b (k d trivial)) (fun _ _ => h2) (d := fun _ _ => 0) trivial
theorem t_find {E : mO × tW} {m : Nat} {K : tK} (st : Int → tSt) (p : Int → Prop) {N : Int} (hN : 0 ≤ N) (h1 : ∀ i, 0 ≤ i → i < N → (∀ j, 0 ≤ j → j < i → ¬ p j) → (¬ p i → tRun E m (st (i + 1)) K) → tRun E m (st i) K) (h2 : (∀ j, 0 ≤ j → j < N → ¬ p j) → tRun E m (st N) K) : tRun E m (st 0) K :=
  t_rounds (fun i _ => st i) (fun i _ => ∀ j, 0 ≤ j → j < i → ¬ p j) hN (fun i d a b hi k => h1 i a b hi (fun hn => k d (fun j h0 hj => by
    by_cases e : j = i
    · rw [e]; exact hn
    · exact hi j h0 (by omega)))) (fun _ h => h2 h) (d := fun _ _ => 0) (fun j h0 hj => absurd hj (by omega))
-- the first place
def isF (p : Int → Prop) (n r : Int) : Prop := (r = -1 ∧ ∀ j, 0 ≤ j → j < n → ¬ p j) ∨ (0 ≤ r ∧ r < n ∧ p r ∧ ∀ j, 0 ≤ j → j < r → ¬ p j)
-- sums
def csum (f : Int → Int) : Nat → Int
  | 0 => 0
  | n + 1 => csum f n + f (n : Int)
theorem csum_s (f : Int → Int) {i : Int} (h : 0 ≤ i) : csum f (i + 1).toNat = csum f i.toNat + f i := by
  have e : (i + 1).toNat = i.toNat + 1 := by omega
  rw [e]
  show csum f i.toNat + f (i.toNat : Int) = _
  rw [Int.toNat_of_nonneg h]
theorem csum_congr {f g : Int → Int} {n : Nat} (h : ∀ i : Int, 0 ≤ i → i < (n : Int) → f i = g i) : csum f n = csum g n := by
  induction n with
  | zero => rfl
  | succ n ih =>
    show csum f n + f (n : Int) = csum g n + g (n : Int)
    rw [ih (fun i h0 h1 => h i h0 (by omega)), h (n : Int) (by omega) (by omega)]
theorem csum_rng {f : Int → Int} {n : Nat} {B : Int} (h : ∀ i : Int, 0 ≤ i → i < (n : Int) → 0 ≤ f i ∧ f i ≤ B) : 0 ≤ csum f n ∧ csum f n ≤ (n : Int) * B := by
  induction n with
  | zero => exact ⟨Int.le_refl 0, by simp [csum]⟩
  | succ n ih =>
    have h1 := ih (fun i h0 h1 => h i h0 (by omega))
    have h2 := h (n : Int) (by omega) (by omega)
    have e : ((n + 1 : Nat) : Int) * B = (n : Int) * B + B := by
      rw [Int.natCast_add, Int.add_mul]
      simp
    show 0 ≤ csum f n + f (n : Int) ∧ csum f n + f (n : Int) ≤ _
    rw [e]
    omega
