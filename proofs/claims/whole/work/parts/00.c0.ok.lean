/-! ===== level 2: what a term does, in all ===== -/
def ok {α : Type} (t : Option α) (P : α → Prop) : Prop := ∃ x, t = some x ∧ P x
theorem ok.pure {α : Type} {x : α} {P : α → Prop} (h : P x) : ok (some x) P := ⟨x, rfl, h⟩
theorem ok.bind {α β : Type} {t : Option α} {f : α → Option β} {P : β → Prop} (h : ok t (fun x => ok (f x) P)) : ok (t >>= f) P := by
  obtain ⟨x, rfl, y, h1, h2⟩ := h
  exact ⟨y, h1, h2⟩
theorem ok.mono {α : Type} {t : Option α} {P Q : α → Prop} (h : ok t P) (hPQ : ∀ x, P x → Q x) : ok t Q := by
  obtain ⟨x, h1, h2⟩ := h
  exact ⟨x, h1, hPQ x h2⟩
theorem ok.seq {α β : Type} {t : Option α} {f : α → Option β} {P : α → Prop} {Q : β → Prop} (h : ok t P) (hf : ∀ x, P x → ok (f x) Q) : ok (t >>= f) Q := ok.bind (h.mono hf)
theorem ok.ite {α : Type} {c : Prop} [Decidable c] {a b : Option α} {P : α → Prop} (h1 : c → ok a P) (h2 : ¬ c → ok b P) : ok (if c then a else b) P := by
  by_cases h : c
  · rw [if_pos h]; exact h1 h
  · rw [if_neg h]; exact h2 h
theorem ok.iteB {α β : Type} {c : Prop} [Decidable c] {a b : Option α} {f : α → Option β} {P : β → Prop} (h1 : c → ok (a >>= f) P) (h2 : ¬ c → ok (b >>= f) P) : ok ((if c then a else b) >>= f) P := by
  by_cases h : c
  · rw [if_pos h]; exact h1 h
  · rw [if_neg h]; exact h2 h
theorem ok.eq {α : Type} {x y : α} (h : ok (some x) (fun z => z = y)) : x = y := by
  obtain ⟨z, h1, h2⟩ := h
  rw [Option.some.inj h1, h2]
theorem ok.ck {M : Mem} {a ci : Nat} {P : Unit → Prop} (hk : (mK M a).1 = ci) (h : P ()) : ok (ck M a ci) P := ⟨(), by unfold _root_.Jvm.Pilot.CParticipatoryBudgetLaw_law_r9116_d19bd8.ck; rw [if_pos hk], h⟩
theorem ok.lt {α β : Type} {x : α} {f : α → Option β} {P : β → Prop} (h : ok (f x) P) : ok (lt_ x f) P := h
theorem ok.jn {τ α : Type} {g : τ → Option α} {f : (τ → Option α) → Option α} {P : α → Prop} (h : ok (f g) P) : ok (jn_ g f) P := h
/-- a loop that ends: the measure goes down, and the turns suffice -/
theorem ok.it {σ α : Type} {F : (σ → Option α) → σ → Option α} {P : α → Prop} (I : σ → Prop) (m : σ → Nat) (hF : ∀ (rec : σ → Option α) (x : σ), I x → (∀ y, I y → m y < m x → ok (rec y) P) → ok (F rec x) P) : ∀ (n : Nat) (x : σ), I x → m x < n → ok (it_ F n x) P := by
  intro n
  induction n with
  | zero => intro x _ h; exact absurd h (Nat.not_lt_zero _)
  | succ n ih =>
    intro x hI hm
    show ok (F (it_ F n) x) P
    exact hF _ x hI (fun y hy h => ih y hy (by omega))
theorem ok.itF {σ α : Type} {F : (σ → Option α) → σ → Option α} {P : α → Prop} (I : σ → Prop) (m : σ → Nat) {x : σ} (hx : I x) (hm : m x < 1000000) (hF : ∀ (rec : σ → Option α) (x : σ), I x → (∀ y, I y → m y < m x → ok (rec y) P) → ok (F rec x) P) : ok (it_ F FU x) P := ok.it I m hF FU x hx (by rw [FU_eq]; exact hm)
/-- counting up: f's turns from 0 to n -/
def fo {σ : Type} (f : Nat → σ → σ) : Nat → σ → σ
  | 0, s => s
  | n + 1, s => f n (fo f n s)
/-- what is outside a range of addresses stays -/
def Fr (lo hi : Nat) (M M' : Mem) : Prop := mK M' = mK M ∧ mR M' = mR M ∧ (∀ a, (a < lo ∨ hi ≤ a) → mI M' a = mI M a ∧ mL M' a = mL M a) ∧ mN M' = mN M
theorem Fr.rf {lo hi : Nat} {M : Mem} : Fr lo hi M M := ⟨rfl, rfl, fun _ _ => ⟨rfl, rfl⟩, rfl⟩
theorem Fr.trans {lo hi : Nat} {M M1 M2 : Mem} (h1 : Fr lo hi M M1) (h2 : Fr lo hi M1 M2) : Fr lo hi M M2 := ⟨h2.1.trans h1.1, h2.2.1.trans h1.2.1, fun a ha => ⟨(h2.2.2.1 a ha).1.trans (h1.2.2.1 a ha).1, (h2.2.2.1 a ha).2.trans (h1.2.2.1 a ha).2⟩, h2.2.2.2.trans h1.2.2.2⟩
theorem Fr.wide {lo hi lo' hi' : Nat} {M M' : Mem} (h : Fr lo hi M M') (h1 : lo' ≤ lo) (h2 : hi ≤ hi') : Fr lo' hi' M M' := ⟨h.1, h.2.1, fun a ha => h.2.2.1 a (by omega), h.2.2.2⟩
theorem Fr.sI {lo hi : Nat} {M : Mem} {a j : Nat} {x : Int32} (h : lo ≤ a ∧ a < hi) : Fr lo hi M (sI M a j x) := ⟨rfl, rfl, fun b hb => ⟨by
  funext k
  show (if b = a ∧ k = j then x else mI M b k) = mI M b k
  rw [if_neg (by omega)], rfl⟩, rfl⟩
