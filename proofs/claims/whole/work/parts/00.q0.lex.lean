/-! ===== the text's tokens, plainly ===== -/
section
variable {t : Nat → Int32} {n : Nat} {P : Int32 → Bool}
/-- where a run ends, k places at most -/
def rn (P : Int32 → Bool) (t : Nat → Int32) : Nat → Nat → Nat
  | 0, p => p
  | k + 1, p => if P (t p) = true then rn P t k (p + 1) else p
def ru (P : Int32 → Bool) (t : Nat → Int32) (n p : Nat) : Nat := rn P t (n - p) p
theorem ru_e {p : Nat} (h : n ≤ p) : ru P t n p = p := by
  unfold ru
  rw [show n - p = 0 by omega]
  rfl
theorem ru_n {p : Nat} (h : P (t p) = false) : ru P t n p = p := by
  unfold ru
  cases n - p with
  | zero => rfl
  | succ k =>
    show (if P (t p) = true then _ else p) = p
    rw [if_neg (by rw [h]; decide)]
theorem ru_s {p : Nat} (hp : p < n) (h : P (t p) = true) : ru P t n p = ru P t n (p + 1) := by
  unfold ru
  rw [show n - p = n - (p + 1) + 1 by omega]
  show (if P (t p) = true then _ else p) = _
  rw [if_pos h]
theorem rn_le : ∀ k p, p ≤ rn P t k p ∧ rn P t k p ≤ p + k := by
  intro k
  induction k with
  | zero => intro p; exact ⟨Nat.le_refl _, Nat.le_refl _⟩
  | succ k ih =>
    intro p
    show p ≤ (if P (t p) = true then rn P t k (p + 1) else p) ∧ (if P (t p) = true then rn P t k (p + 1) else p) ≤ p + (k + 1)
    have := ih (p + 1)
    split
    · omega
    · omega
theorem rn_in : ∀ k p i, p ≤ i → i < rn P t k p → P (t i) = true := by
  intro k
  induction k with
  | zero => intro p i h1 h2; exact absurd h2 (by show ¬ i < p; omega)
  | succ k ih =>
    intro p i h1 h2
    have h3 : i < if P (t p) = true then rn P t k (p + 1) else p := h2
    split at h3
    · rename_i z
      by_cases e : i = p
      · rw [e]; exact z
      · exact ih (p + 1) i (by omega) h3
    · omega
theorem ru_ge (p : Nat) : p ≤ ru P t n p := (rn_le _ _).1
theorem ru_le {p : Nat} (h : p ≤ n) : ru P t n p ≤ n := by
  have := (rn_le (P := P) (t := t) (n - p) p).2
  unfold ru
  omega
theorem ru_in {p i : Nat} (h1 : p ≤ i) (h2 : i < ru P t n p) : P (t i) = true := rn_in _ _ _ h1 h2
theorem ru_gt {p : Nat} (hp : p < n) (h : P (t p) = true) : p < ru P t n p := by
  rw [ru_s hp h]
  exact Nat.lt_of_lt_of_le (Nat.lt_succ_self p) (ru_ge _)
/-! signs -/
def isS (c : Int32) : Bool := decide (c = 32) || decide (c = 10)
def isL (c : Int32) : Bool := decide (97 ≤ c.toInt) && decide (c.toInt ≤ 122)
def isD (c : Int32) : Bool := decide (48 ≤ c.toInt) && decide (c.toInt ≤ 57)
theorem isL_i {c : Int32} (h : isL c = true) : 97 ≤ c.toInt ∧ c.toInt ≤ 122 := by
  unfold isL at h
  rw [Bool.and_eq_true, decide_eq_true_eq, decide_eq_true_eq] at h
  exact h
theorem isD_i {c : Int32} (h : isD c = true) : 48 ≤ c.toInt ∧ c.toInt ≤ 57 := by
  unfold isD at h
  rw [Bool.and_eq_true, decide_eq_true_eq, decide_eq_true_eq] at h
  exact h
theorem rg_b (c : Int32) (lo hi : Int32) : (if c < lo then some (0 : Int32) else if hi < c then some 0 else some 1) = some (b2i (decide (lo.toInt ≤ c.toInt) && decide (c.toInt ≤ hi.toInt))) := by
  by_cases h1 : c < lo
  · have := h1
    rw [lt_i] at this
    rw [if_pos h1, decide_eq_false (by omega)]
    rfl
  · rw [if_neg h1]
    have := h1
    rw [lt_i] at this
    rw [decide_eq_true (show lo.toInt ≤ c.toInt by omega)]
    by_cases h2 : hi < c
    · have := h2
      rw [lt_i] at this
      rw [if_pos h2, decide_eq_false (by omega)]
      rfl
    · have := h2
      rw [lt_i] at this
      rw [if_neg h2, decide_eq_true (by omega)]
      rfl
theorem f_isL (M : Mem) (c : Int32) : f_X7_isLetter M c = some (b2i (isL c)) := by
  unfold f_X7_isLetter
  rw [rg_b, bs, isBb]
  rfl
theorem f_isD (M : Mem) (c : Int32) : f_X7_isDigit M c = some (b2i (isD c)) := by
  unfold f_X7_isDigit
  rw [rg_b, bs, isBb]
  rfl
/-! numbers in base 32 -/
def v32 (a : Nat → Nat) : Nat → Nat
  | 0 => 0
  | k + 1 => v32 a k * 32 + a k
theorem v32_lt {a : Nat → Nat} : ∀ k, (∀ i, i < k → a i < 32) → v32 a k < 32 ^ k := by
  intro k
  induction k with
  | zero => intro _; exact Nat.one_pos
  | succ k ih =>
    intro h
    have h1 := ih (fun i hi => h i (by omega))
    have h2 := h k (by omega)
    show v32 a k * 32 + a k < 32 ^ (k + 1)
    rw [Nat.pow_succ]
    omega
theorem v32_c {a b : Nat → Nat} : ∀ k, (∀ i, i < k → a i = b i) → v32 a k = v32 b k := by
  intro k
  induction k with
  | zero => intro _; rfl
  | succ k ih =>
    intro h
    show v32 a k * 32 + a k = v32 b k * 32 + b k
    rw [ih (fun i hi => h i (by omega)), h k (by omega)]
theorem v32_inj {a b : Nat → Nat} : ∀ m k, (∀ i, i < m → 1 ≤ a i ∧ a i < 32) → (∀ i, i < k → 1 ≤ b i ∧ b i < 32) → v32 a m = v32 b k → m = k ∧ ∀ i, i < m → a i = b i := by
  intro m
  induction m with
  | zero =>
    intro k _ hb h
    cases k with
    | zero => exact ⟨rfl, fun i hi => absurd hi (Nat.not_lt_zero _)⟩
    | succ k =>
      have h1 := hb k (by omega)
      have h2 : 0 = v32 b k * 32 + b k := h
      omega
  | succ m ih =>
    intro k ha hb h
    have a1 := ha m (by omega)
    cases k with
    | zero =>
      have h2 : v32 a m * 32 + a m = 0 := h
      omega
    | succ k =>
      have b1 := hb k (by omega)
      have h2 : v32 a m * 32 + a m = v32 b k * 32 + b k := h
      have e1 : a m = b k := by omega
      have e2 : v32 a m = v32 b k := by omega
      obtain ⟨e3, e4⟩ := ih k (fun i hi => ha i (by omega)) (fun i hi => hb i (by omega)) e2
      subst e3
      refine ⟨rfl, fun i hi => ?_⟩
      by_cases z : i = m
      · rw [z]; exact e1
      · exact e4 i (by omega)
def dg (c : Int32) : Nat := (c.toInt - 96).toNat
theorem dg_l {c : Int32} (h : isL c = true) : 1 ≤ dg c ∧ dg c < 32 ∧ (dg c : Int) = c.toInt - 96 := by
  have := isL_i h
  unfold dg
  omega
/-- the word's letters from s to e, as one number; 0: too many -/
def wd (t : Nat → Int32) (s e : Nat) : Nat := if e - s ≤ 12 then v32 (fun i => dg (t (s + i))) (e - s) else 0
def lit (j i : Nat) : Nat := (strB.getD j []).getD i 0
def lle (j : Nat) : Nat := (strB.getD j []).length
def cW (j : Nat) : Nat := [147761734772, 17799910516, 23580850, 302, 6642, 19636, 24627848, 122510055712238, 643248, 16322738].getD j 0
theorem lit_r : ∀ j, j < 10 → ∀ i, i < lle j → 97 ≤ lit j i ∧ lit j i ≤ 122 := by decide
theorem lle_r : ∀ j, j < 10 → 1 ≤ lle j ∧ lle j ≤ 12 := by decide
theorem cW_v : ∀ j, j < 10 → v32 (fun i => lit j i - 96) (lle j) = cW j ∧ 0 < cW j ∧ cW j < 281474976710656 := by decide
def isW (t : Nat → Int32) (j s e : Nat) : Bool := decide (e - s = lle j ∧ ∀ i, i < lle j → t (s + i) = Int32.ofNat (lit j i))
theorem isW_w {s e j : Nat} (hj : j < 10) (h : ∀ i, s ≤ i → i < e → isL (t i) = true) : isW t j s e = decide (wd t s e = cW j) := by
  have h1 := lle_r j hj
  have h2 := cW_v j hj
  have hd : ∀ i, i < e - s → 1 ≤ dg (t (s + i)) ∧ dg (t (s + i)) < 32 := fun i hi => by
    have := dg_l (h (s + i) (by omega) (by omega))
    exact ⟨this.1, this.2.1⟩
  have hl : ∀ i, i < lle j → 1 ≤ lit j i - 96 ∧ lit j i - 96 < 32 := fun i hi => by have := lit_r j hj i hi; omega
  unfold isW
  apply decide_eq_decide.mpr
  constructor
  · rintro ⟨e1, e2⟩
    unfold wd
    rw [if_pos (by omega), ← h2.1, e1]
    refine v32_c _ fun i hi => ?_
    have l := lit_r j hj i hi
    rw [e2 i hi]
    unfold dg
    rw [i_toInt (by omega)]
    omega
  · intro e1
    unfold wd at e1
    by_cases c : e - s ≤ 12
    · rw [if_pos c, ← h2.1] at e1
      obtain ⟨e2, e3⟩ := v32_inj _ _ hd hl e1
      refine ⟨e2, fun i hi => ?_⟩
      have e4 := e3 i (by omega)
      have l := lit_r j hj i hi
      have d := (dg_l (h (s + i) (by omega) (by omega))).2.2
      rw [eq_i, i_toInt (by omega)]
      omega
    · rw [if_neg c] at e1
      omega
/-- a word's kind, as the class counts -/
def wkn (w l : Nat) : Nat := if w = cW 0 then 5 else if w = cW 1 then 6 else if w = cW 2 then 7 else if w = cW 3 then 8 else if w = cW 4 then 9 else if w = cW 5 then 10 else if w = cW 6 then 11 else if w = cW 7 then 12 else if w = cW 8 then 13 else if w = cW 9 then 14 else if l ≤ 6 then 1 else 4
theorem wkn_j (w l j : Nat) (hj : j < 10) : wkn w l = 5 + j ↔ w = cW j := by
  have key : ∀ i, i < 10 → w = cW i → wkn w l = 5 + i := by
    intro i hi e
    rcases (show i = 0 ∨ i = 1 ∨ i = 2 ∨ i = 3 ∨ i = 4 ∨ i = 5 ∨ i = 6 ∨ i = 7 ∨ i = 8 ∨ i = 9 by omega) with z | z | z | z | z | z | z | z | z | z <;> subst z <;> subst e <;> rfl
  refine ⟨fun h => ?_, key j hj⟩
  have nk : ∀ i, i < 10 → w = cW i → i = j := fun i hi e => by have := key i hi e; omega
  by_cases c : ∃ i, i < 10 ∧ w = cW i
  · obtain ⟨i, hi, e⟩ := c
    rw [← nk i hi e]; exact e
  · exfalso
    have nc : ∀ i, i < 10 → w ≠ cW i := fun i hi e => c ⟨i, hi, e⟩
    unfold wkn at h
    rw [if_neg (nc 0 (by omega)), if_neg (nc 1 (by omega)), if_neg (nc 2 (by omega)), if_neg (nc 3 (by omega)), if_neg (nc 4 (by omega)), if_neg (nc 5 (by omega)), if_neg (nc 6 (by omega)), if_neg (nc 7 (by omega)), if_neg (nc 8 (by omega)), if_neg (nc 9 (by omega))] at h
    split at h <;> omega
theorem wkn_1 (w l : Nat) : wkn w l = 1 ↔ (∀ i, i < 10 → w ≠ cW i) ∧ l ≤ 6 := by
  by_cases c : ∃ i, i < 10 ∧ w = cW i
  · obtain ⟨i, hi, e⟩ := c
    have := (wkn_j w l i hi).mpr e
    exact ⟨fun h => by omega, fun h => absurd e (h.1 i hi)⟩
  · have nc : ∀ i, i < 10 → w ≠ cW i := fun i hi e => c ⟨i, hi, e⟩
    unfold wkn
    rw [if_neg (nc 0 (by omega)), if_neg (nc 1 (by omega)), if_neg (nc 2 (by omega)), if_neg (nc 3 (by omega)), if_neg (nc 4 (by omega)), if_neg (nc 5 (by omega)), if_neg (nc 6 (by omega)), if_neg (nc 7 (by omega)), if_neg (nc 8 (by omega)), if_neg (nc 9 (by omega))]
    by_cases l6 : l ≤ 6
    · rw [if_pos l6]; exact ⟨fun _ => ⟨nc, l6⟩, fun _ => rfl⟩
    · rw [if_neg l6]; exact ⟨fun h => absurd h (by omega), fun h => absurd h.2 l6⟩
theorem wkn_r (w l : Nat) : wkn w l = 1 ∨ wkn w l = 4 ∨ (5 ≤ wkn w l ∧ wkn w l < 15) := by
  by_cases c : ∃ i, i < 10 ∧ w = cW i
  · obtain ⟨i, hi, e⟩ := c
    have := (wkn_j w l i hi).mpr e
    omega
  · have nc : ∀ i, i < 10 → w ≠ cW i := fun i hi e => c ⟨i, hi, e⟩
    unfold wkn
    rw [if_neg (nc 0 (by omega)), if_neg (nc 1 (by omega)), if_neg (nc 2 (by omega)), if_neg (nc 3 (by omega)), if_neg (nc 4 (by omega)), if_neg (nc 5 (by omega)), if_neg (nc 6 (by omega)), if_neg (nc 7 (by omega)), if_neg (nc 8 (by omega)), if_neg (nc 9 (by omega))]
    split <;> omega
/-! the token read from p on: where it starts, where it ends, its kind -/
def tS (t : Nat → Int32) (n p : Nat) : Nat := ru isS t n p
def tE (t : Nat → Int32) (n p : Nat) : Nat := if n ≤ tS t n p then tS t n p else if isL (t (tS t n p)) = true then ru isL t n (tS t n p) else if isD (t (tS t n p)) = true then ru isD t n (tS t n p) else tS t n p + 1
def tK (t : Nat → Int32) (n p : Nat) : Nat := if n ≤ tS t n p then 0 else if isL (t (tS t n p)) = true then wkn (wd t (tS t n p) (tE t n p)) (tE t n p - tS t n p) else if isD (t (tS t n p)) = true then 2 else if t (tS t n p) = 59 then 3 else 4
/-- its code in the reference -/
def tC (t : Nat → Int32) (n p : Nat) : Nat := if n ≤ tS t n p then 0 else if isL (t (tS t n p)) = true then 1 else if isD (t (tS t n p)) = true then 2 else if t (tS t n p) = 59 then 3 else 4
theorem tS_ge (p : Nat) : p ≤ tS t n p := ru_ge _
theorem tS_le {p : Nat} (h : p ≤ n) : tS t n p ≤ n := ru_le h
theorem tE_le {p : Nat} (h : p ≤ n) : tE t n p ≤ n := by
  have h1 := tS_le (t := t) h
  unfold tE
  split
  · exact h1
  · split
    · exact ru_le h1
    · split
      · exact ru_le h1
      · omega
theorem tE_ge (p : Nat) : tS t n p ≤ tE t n p := by
  unfold tE
  split
  · exact Nat.le_refl _
  · split
    · exact ru_ge _
    · split
      · exact ru_ge _
      · omega
theorem tE_gt {p : Nat} (h : tS t n p < n) : tS t n p < tE t n p := by
  unfold tE
  rw [if_neg (by omega)]
  split
  · rename_i z; exact ru_gt h z
  · split
    · rename_i z; exact ru_gt h z
    · omega
theorem tK_j {p j : Nat} (hj : j < 10) : tK t n p = 5 + j ↔ tC t n p = 1 ∧ wd t (tS t n p) (tE t n p) = cW j := by
  unfold tK tC
  by_cases h1 : n ≤ tS t n p
  · rw [if_pos h1, if_pos h1]; constructor <;> intro h <;> omega
  · rw [if_neg h1, if_neg h1]
    by_cases h2 : isL (t (tS t n p)) = true
    · rw [if_pos h2, if_pos h2, wkn_j _ _ _ hj]; exact ⟨fun h => ⟨rfl, h⟩, fun h => h.2⟩
    · rw [if_neg h2, if_neg h2]
      by_cases h3 : isD (t (tS t n p)) = true
      · rw [if_pos h3]; constructor <;> intro h <;> omega
      · rw [if_neg h3]
        constructor
        · intro h; split at h <;> omega
        · intro h; have := h.1; split at this <;> omega
theorem tK_1 {p : Nat} : tK t n p = 1 ↔ tC t n p = 1 ∧ (∀ i, i < 10 → wd t (tS t n p) (tE t n p) ≠ cW i) ∧ tE t n p - tS t n p ≤ 6 := by
  unfold tK tC
  by_cases h1 : n ≤ tS t n p
  · rw [if_pos h1, if_pos h1]; constructor <;> intro h <;> omega
  · rw [if_neg h1, if_neg h1]
    by_cases h2 : isL (t (tS t n p)) = true
    · rw [if_pos h2, if_pos h2, wkn_1]; exact ⟨fun h => ⟨rfl, h⟩, fun h => h.2⟩
    · rw [if_neg h2, if_neg h2]
      by_cases h3 : isD (t (tS t n p)) = true
      · rw [if_pos h3]; constructor <;> intro h <;> omega
      · rw [if_neg h3]
        constructor
        · intro h; split at h <;> omega
        · intro h; have := h.1; split at this <;> omega
theorem tK_o {p c : Nat} (hc : c = 0 ∨ c = 2 ∨ c = 3) : tK t n p = c ↔ tC t n p = c := by
  unfold tK tC
  by_cases h1 : n ≤ tS t n p
  · rw [if_pos h1, if_pos h1]
  · rw [if_neg h1, if_neg h1]
    by_cases h2 : isL (t (tS t n p)) = true
    · rw [if_pos h2, if_pos h2]
      have := wkn_r (wd t (tS t n p) (tE t n p)) (tE t n p - tS t n p)
      constructor <;> intro h <;> omega
    · rw [if_neg h2, if_neg h2]
theorem tK_r (p : Nat) : tK t n p < 15 := by
  unfold tK
  split
  · omega
  · split
    · have := wkn_r (wd t (tS t n p) (tE t n p)) (tE t n p - tS t n p)
      omega
    · split
      · omega
      · split <;> omega
theorem tC_L {p : Nat} (h : tC t n p = 1) : tS t n p < n ∧ isL (t (tS t n p)) = true ∧ ∀ i, tS t n p ≤ i → i < tE t n p → isL (t i) = true := by
  unfold tC at h
  by_cases h1 : n ≤ tS t n p
  · rw [if_pos h1] at h; omega
  · rw [if_neg h1] at h
    by_cases h2 : isL (t (tS t n p)) = true
    · refine ⟨by omega, h2, fun i hi h3 => ?_⟩
      unfold tE at h3
      rw [if_neg h1, if_pos h2] at h3
      exact ru_in hi h3
    · rw [if_neg h2] at h
      split at h
      · omega
      · split at h <;> omega
theorem tC_D {p : Nat} (h : tC t n p = 2) : tS t n p < n ∧ isD (t (tS t n p)) = true ∧ ∀ i, tS t n p ≤ i → i < tE t n p → isD (t i) = true := by
  unfold tC at h
  by_cases h1 : n ≤ tS t n p
  · rw [if_pos h1] at h; omega
  · rw [if_neg h1] at h
    by_cases h2 : isL (t (tS t n p)) = true
    · rw [if_pos h2] at h; omega
    · rw [if_neg h2] at h
      by_cases h3 : isD (t (tS t n p)) = true
      · refine ⟨by omega, h3, fun i hi h4 => ?_⟩
        unfold tE at h4
        rw [if_neg h1, if_neg h2, if_pos h3] at h4
        exact ru_in hi h4
      · rw [if_neg h3] at h
        split at h <;> omega
/-! what a name and a number are worth -/
def dgx (t : Nat → Int32) (s e i : Nat) : Nat := if s + i < e then dg (t (s + i)) else 0
/-- a name's letters -/
def tL (t : Nat → Int32) (n p : Nat) : Int32 := Int32.ofNat (v32 (dgx t (tS t n p) (tE t n p)) 6)
def dn (c : Int32) : Nat := (c.toInt - 48).toNat
def nv (t : Nat → Int32) (s : Nat) : Nat → Nat
  | 0 => 0
  | k + 1 => nv t s k * 10 + dn (t (s + k))
/-- a number's value -/
def tV (t : Nat → Int32) (n p : Nat) : Nat := nv t (tS t n p) (tE t n p - tS t n p)
end
