/-! ===== the greedy order in plain numbers; a smaller cost never hurts ===== -/
section
variable {D D' : Bl}
def VN (D : Bl) (o : Nat) : Nat := nt (D 11 o)
def KN (D : Bl) (o : Nat) : Nat := nt (D 4 o)
def nb (f : Prop) (V C : Nat → Nat) (o t : Nat) : Prop := (f → V t < V o ∨ (V o = V t ∧ (C o < C t ∨ (C o = C t ∧ o < t)))) ∧ (¬ f → V t * C o < V o * C t ∨ (V o * C t = V t * C o ∧ (C o < C t ∨ (C o = C t ∧ o < t))))
theorem VN_ok (hG : Gd D) (hT : Tl D) (o : Nat) : VN D o ≤ 216 ∧ D 11 o = Int32.ofNat (VN D o) := by
  obtain ⟨a, b⟩ := vt_N hG o
  unfold VN
  rw [hT.2 o, b, nt_o (by omega)]
  exact ⟨a, rfl⟩
theorem gb_nb (hG : Gd D) (hT : Tl D) {o t : Nat} (ho : o < cn D 1) (ht : t < cn D 1) : gb D o t = true ↔ nb (D 9 3 = 0) (VN D) (KN D) o t := by
  obtain ⟨c1, c2, c3⟩ := cost_N hG ho
  obtain ⟨d1, d2, d3⟩ := cost_N hG ht
  obtain ⟨v1, v2⟩ := VN_ok hG hT o
  obtain ⟨w1, w2⟩ := VN_ok hG hT t
  have e1 : nt (D 4 o) = KN D o := rfl
  have e2 : nt (D 4 t) = KN D t := rfl
  rw [e1] at c1 c2 c3
  rw [e2] at d1 d2 d3
  unfold nb
  generalize KN D o = C at *
  generalize KN D t = E at *
  generalize VN D o = V at *
  generalize VN D t = W at *
  have tie : ((decide (D 4 o < D 4 t) || (decide (D 4 o = D 4 t) && decide (o < t))) = true) ↔ (C < E ∨ (C = E ∧ o < t)) := by
    rw [c3, d3, Bool.or_eq_true, Bool.and_eq_true, decide_eq_true_eq, decide_eq_true_eq, decide_eq_true_eq, i_lt (by omega) (by omega), i_inj (by omega) (by omega)]
  have m1 : V * E ≤ 216 * 100000 := Nat.mul_le_mul v1 d2
  have m2 : W * C ≤ 216 * 100000 := Nat.mul_le_mul w1 c2
  have gen : ∀ A B : Nat, A ≤ 21600000 → B ≤ 21600000 → gd D o t = Int32.ofNat A - Int32.ofNat B → (gb D o t = true ↔ (B < A ∨ (A = B ∧ (C < E ∨ (C = E ∧ o < t))))) := fun A B hA hB h => by
    have hz : (gd D o t).toInt = (A : Int) - B := by
      rw [h, fb_subI] <;> rw [i_toInt (by omega), i_toInt (by omega)] <;> omega
    have z0 : (0 : Int32).toInt = 0 := rfl
    have h0 : gd D o t = 0 ↔ A = B := by rw [eq_i, hz, z0]; omega
    have h1 : gd D o t ≤ 0 ↔ A ≤ B := by rw [le_i, hz, z0]; omega
    unfold gb
    by_cases q : A = B
    · rw [if_pos (h0.mpr q), tie]
      constructor
      · exact fun z => Or.inr ⟨q, z⟩
      · rintro (z | z)
        · omega
        · exact z.2
    · rw [if_neg (fun z => q (h0.mp z))]
      by_cases q2 : A ≤ B
      · rw [decide_eq_true (h1.mpr q2)]
        exact ⟨fun z => Bool.noConfusion z, fun z => by omega⟩
      · rw [decide_eq_false (fun z => q2 (h1.mp z))]
        exact ⟨fun _ => by omega, fun _ => rfl⟩
  by_cases f : D 9 3 = 0
  · have := gen V W (by omega) (by omega) (by unfold gd; rw [if_pos f, v2, w2])
    rw [this]
    exact ⟨fun z => ⟨fun _ => z, fun q => absurd f q⟩, fun z => z.1 f⟩
  · have := gen (V * E) (W * C) (by omega) (by omega) (by unfold gd; rw [if_neg f, v2, w2, c3, d3, i_mul, i_mul])
    rw [this]
    exact ⟨fun z => ⟨fun q => absurd q f, fun _ => z⟩, fun z => z.2 f⟩
theorem nb_as {f : Prop} {V C : Nat → Nat} {o t : Nat} (h : nb f V C o t) : ¬ nb f V C t o := by
  intro h2
  by_cases c : f
  · have := h.1 c
    have := h2.1 c
    omega
  · have := h.2 c
    have := h2.2 c
    omega
theorem nb_tot {f : Prop} {V C : Nat → Nat} {o t : Nat} (h : o ≠ t) : nb f V C o t ∨ nb f V C t o := by
  by_cases c : f
  · have : (V t < V o ∨ (V o = V t ∧ (C o < C t ∨ (C o = C t ∧ o < t)))) ∨ (V o < V t ∨ (V t = V o ∧ (C t < C o ∨ (C t = C o ∧ t < o)))) := by omega
    rcases this with z | z
    · exact Or.inl ⟨fun _ => z, fun q => absurd c q⟩
    · exact Or.inr ⟨fun _ => z, fun q => absurd c q⟩
  · have : (V t * C o < V o * C t ∨ (V o * C t = V t * C o ∧ (C o < C t ∨ (C o = C t ∧ o < t)))) ∨ (V o * C t < V t * C o ∨ (V t * C o = V o * C t ∧ (C t < C o ∨ (C t = C o ∧ t < o)))) := by omega
    rcases this with z | z
    · exact Or.inl ⟨fun q => absurd q c, fun _ => z⟩
    · exact Or.inr ⟨fun q => absurd q c, fun _ => z⟩
theorem nb_tr {f : Prop} {V C : Nat → Nat} {o t u : Nat} (c0 : 1 ≤ C o) (c1 : 1 ≤ C t) (c2 : 1 ≤ C u) (h : nb f V C o t) (h2 : nb f V C t u) : nb f V C o u := by
  by_cases c : f
  · have a := h.1 c
    have b := h2.1 c
    exact ⟨fun _ => by omega, fun q => absurd c q⟩
  · have a := h.2 c
    have b := h2.2 c
    refine ⟨fun q => absurd q c, fun _ => ?_⟩
    have e1 : V u * C o * C t = V u * C t * C o := Nat.mul_right_comm _ _ _
    have e2 : V t * C u * C o = V t * C o * C u := Nat.mul_right_comm _ _ _
    have e3 : V o * C t * C u = V o * C u * C t := Nat.mul_right_comm _ _ _
    have a' : V t * C o ≤ V o * C t := by omega
    have b' : V u * C t ≤ V t * C u := by omega
    have x1 : V u * C t * C o ≤ V t * C u * C o := Nat.mul_le_mul_right _ b'
    have x2 : V t * C o * C u ≤ V o * C t * C u := Nat.mul_le_mul_right _ a'
    have le : V u * C o * C t ≤ V o * C u * C t := by omega
    have le2 : V u * C o ≤ V o * C u := Nat.le_of_mul_le_mul_right le (by omega)
    by_cases s : V u * C o < V o * C u
    · exact Or.inl s
    · have eq : V u * C o = V o * C u := by omega
      have eq3 : V u * C o * C t = V o * C u * C t := by rw [eq]
      have y1 : V t * C o = V o * C t := by
        rcases Nat.lt_or_ge (V t * C o) (V o * C t) with z | z
        · have := Nat.mul_lt_mul_of_pos_right z (show 0 < C u by omega)
          omega
        · omega
      have y2 : V u * C t = V t * C u := by
        rcases Nat.lt_or_ge (V u * C t) (V t * C u) with z | z
        · have := Nat.mul_lt_mul_of_pos_right z (show 0 < C o by omega)
          omega
        · omega
      right
      refine ⟨eq.symm, ?_⟩
      omega
/-- a smaller cost of p: who is ahead of p stays so when it grows -/
theorem nb_mono {f : Prop} {V C C' : Nat → Nat} {o p : Nat} (ho : C' o = C o) (hp : C' p ≤ C p) (h : nb f V C' o p) : nb f V C o p := by
  by_cases c : f
  · have a := h.1 c
    rw [ho] at a
    exact ⟨fun _ => by omega, fun q => absurd c q⟩
  · have a := h.2 c
    rw [ho] at a
    refine ⟨fun q => absurd q c, fun _ => ?_⟩
    have m : V o * C' p ≤ V o * C p := Nat.mul_le_mul_left _ hp
    rcases a with a | ⟨a, b⟩
    · left; omega
    · by_cases s : V p * C o < V o * C p
      · exact Or.inl s
      · right
        refine ⟨by omega, ?_⟩
        omega
/-- the first of the order -/
theorem fsN_mx (hG : Gd D) (hT : Tl D) (w : Int32) (n : Nat) (hn : n ≤ cn D 1) : (fsN D w n = -1 ∧ ∀ o, o < n → ¬ hs w (Int32.ofNat o) = true) ∨ ∃ q, q < n ∧ fsN D w n = Int32.ofNat q ∧ hs w (Int32.ofNat q) = true ∧ ∀ o, o < n → hs w (Int32.ofNat o) = true → o ≠ q → nb (D 9 3 = 0) (VN D) (KN D) q o := by
  have l1 := hG.n.2.2.1
  induction n with
  | zero => exact Or.inl ⟨rfl, fun o ho => absurd ho (Nat.not_lt_zero o)⟩
  | succ n ih =>
    have K1 : ∀ o, o < cn D 1 → 1 ≤ KN D o := fun o ho => (cost_N hG ho).1
    rw [fsN_s]
    unfold fsF
    rcases ih (by omega) with ⟨e, hno⟩ | ⟨q, hq, e, hw, hb⟩
    · rw [e, if_pos m1_neg]
      by_cases c : hs w (Int32.ofNat n) = true
      · rw [if_pos c]
        exact Or.inr ⟨n, by omega, rfl, c, fun o ho h1 h2 => absurd h1 (hno o (by omega))⟩
      · rw [if_neg c]
        refine Or.inl ⟨rfl, fun o ho => ?_⟩
        by_cases z : o = n
        · subst z; exact c
        · exact hno o (by omega)
    · rw [e, if_neg (o_nneg (by omega)), ix_o (by omega)]
      by_cases c : hs w (Int32.ofNat n) = true
      · rw [if_pos c]
        have g := gb_nb hG hT (show n < cn D 1 by omega) (show q < cn D 1 by omega)
        by_cases c2 : gb D n q = true
        · rw [if_pos c2]
          have nq := g.mp c2
          refine Or.inr ⟨n, by omega, rfl, c, fun o ho h1 h2 => ?_⟩
          by_cases z : o = q
          · subst z; exact nq
          · exact nb_tr (K1 _ (by omega)) (K1 _ (by omega)) (K1 _ (by omega)) nq (hb o (by omega) h1 z)
        · rw [if_neg c2]
          refine Or.inr ⟨q, by omega, rfl, hw, fun o ho h1 h2 => ?_⟩
          by_cases z : o = n
          · subst z
            rcases nb_tot (f := D 9 3 = 0) (V := VN D) (C := KN D) (show o ≠ q by omega) with y | y
            · exact absurd (g.mpr y) c2
            · exact y
          · exact hb o (by omega) h1 h2
      · rw [if_neg c]
        refine Or.inr ⟨q, by omega, rfl, hw, fun o ho h1 h2 => ?_⟩
        by_cases z : o = n
        · subst z; exact absurd h1 c
        · exact hb o (by omega) h1 h2
end
