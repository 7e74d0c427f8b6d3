/-! ===== counting loops, as equations ===== -/
theorem it_st {σ α : Type} {F : (σ → Option α) → σ → Option α} {k : Option α} (st : Nat → σ) (n : Nat) (hs : ∀ (rec : σ → Option α) (i : Nat), i < n → F rec (st i) = rec (st (i + 1))) (he : ∀ rec : σ → Option α, F rec (st n) = k) : ∀ (q : Nat) (i : Nat), i ≤ n → n - i < q → it_ F q (st i) = k := by
  intro q
  induction q with
  | zero => intro i _ h; exact absurd h (Nat.not_lt_zero _)
  | succ q ih =>
    intro i hi h
    show F (it_ F q) (st i) = k
    by_cases e : i = n
    · subst e; exact he _
    · rw [hs _ i (by omega)]
      exact ih (i + 1) (by omega) (by omega)
theorem it_eq {σ α : Type} {F : (σ → Option α) → σ → Option α} {k : Option α} {x : σ} (st : Nat → σ) (n : Nat) (h0 : x = st 0) (hn : n < 1000000) (hs : ∀ (rec : σ → Option α) (i : Nat), i < n → F rec (st i) = rec (st (i + 1))) (he : ∀ rec : σ → Option α, F rec (st n) = k) : it_ F FU x = k := by
  subst h0
  exact it_st st n hs he FU 0 (Nat.zero_le _) (by rw [FU_eq]; omega)
