/-! ===== the least price: plain numbers. m what each can pay, w the weights, c the cost ===== -/
section
def shN (n : Nat) (m w : Nat → Nat) (q : Nat) : Nat := sN n fun v => min (m v) (q * w v)
/-- what those pay whose means don't suffice for q, and the weights of the others -/
def poM (n : Nat) (m w : Nat → Nat) (q : Nat) : Nat := sN n fun v => if m v < q * w v then m v else 0
def riW (n : Nat) (m w : Nat → Nat) (q : Nat) : Nat := sN n fun v => if m v < q * w v then 0 else w v
def poC (n : Nat) (m w : Nat → Nat) (q : Nat) : Nat := sN n fun v => if m v < q * w v then 1 else 0
variable {n : Nat} {m w : Nat → Nat}
theorem shN_mono {q q' : Nat} (h : q ≤ q') : shN n m w q ≤ shN n m w q' := sN_le fun v _ => by
  have := Nat.mul_le_mul_right (w v) h
  omega
theorem shN_split (q : Nat) : shN n m w q = poM n m w q + q * riW n m w q := by
  unfold shN poM riW
  induction n with
  | zero => rfl
  | succ n ih =>
    rw [sN_s, sN_s, sN_s, ih, Nat.mul_add]
    split
    · rw [Nat.min_eq_left (by omega)]; omega
    · rw [Nat.min_eq_right (by omega)]; omega
theorem shN_le (q q' : Nat) : shN n m w q ≤ poM n m w q' + q * riW n m w q' := by
  unfold shN poM riW
  induction n with
  | zero => exact Nat.le_refl _
  | succ n ih =>
    rw [sN_s, sN_s, sN_s, Nat.mul_add]
    split
    · have := Nat.min_le_left (m n) (q * w n); omega
    · have := Nat.min_le_right (m n) (q * w n); omega
/-- without weight there are no means -/
theorem ri_pos {q c : Nat} (hw : ∀ v, v < n → w v = 0 → m v = 0) (hc : c ≤ sN n m) (h : poM n m w q < c) : 0 < riW n m w q := by
  rcases Nat.eq_zero_or_pos (riW n m w q) with e | e
  · exfalso
    have : sN n m = poM n m w q := sN_c fun v hv => by
      by_cases h1 : m v < q * w v
      · rw [if_pos h1]
      · rw [if_neg h1]
        have h2 := sN_at (f := fun v => if m v < q * w v then 0 else w v) hv
        rw [show sN n (fun v => if m v < q * w v then 0 else w v) = riW n m w q from rfl, e] at h2
        rw [if_neg h1] at h2
        exact hw v hv (by omega)
    omega
  · exact e
/-- the next price to try, where q doesn't do -/
theorem nx_price {q c q2 : Nat} (hw : ∀ v, v < n → w v = 0 → m v = 0) (hc : c ≤ sN n m) (hq : shN n m w q < c) (e : q2 = (c - poM n m w q + riW n m w q - 1) / riW n m w q) : 0 < riW n m w q ∧ q < q2 ∧ c ≤ poM n m w q + q2 * riW n m w q ∧ ∀ k, k < q2 → shN n m w k < c := by
  have h1 := shN_split (n := n) (m := m) (w := w) q
  have hp : 0 < riW n m w q := ri_pos hw hc (by omega)
  generalize hW : riW n m w q = W at *
  generalize hO : poM n m w q = O at *
  have ceil : ∀ k, k < q2 ↔ k * W < c - O := by
    intro k
    rw [e]
    constructor
    · intro h
      have h2 : (k + 1) * W ≤ c - O + W - 1 := (Nat.le_div_iff_mul_le hp).mp h
      rw [Nat.succ_mul] at h2
      omega
    · intro h
      refine (Nat.le_div_iff_mul_le hp).mpr ?_
      rw [Nat.succ_mul]
      omega
  refine ⟨hp, (ceil q).mpr (by omega), ?_, fun k hk => ?_⟩
  · have h4 : ¬ q2 * W < c - O := fun z => Nat.lt_irrefl _ ((ceil q2).mpr z)
    omega
  have h2 := (ceil k).mp hk
  have h3 := shN_le (n := n) (m := m) (w := w) k q
  rw [hW, hO] at h3
  omega
/-- where the next price doesn't do either, more are poor -/
theorem nx_poor {q c q2 : Nat} (h2 : q ≤ q2) (hq2 : shN n m w q2 < c) (h3 : c ≤ poM n m w q + q2 * riW n m w q) : poC n m w q < poC n m w q2 := by
  have sub : ∀ v, m v < q * w v → m v < q2 * w v := fun v h => Nat.lt_of_lt_of_le h (Nat.mul_le_mul_right _ h2)
  have le : poC n m w q ≤ poC n m w q2 := sN_le fun v _ => by
    split
    · rename_i h; rw [if_pos (sub v h)]; exact Nat.le_refl _
    · exact Nat.zero_le _
  rcases Nat.lt_or_ge (poC n m w q) (poC n m w q2) with h | h
  · exact h
  · exfalso
    have same : ∀ v, v < n → (m v < q * w v ↔ m v < q2 * w v) := by
      have : ∀ k, k ≤ n → poC k m w q = poC k m w q2 := by
        have lek : ∀ k, poC k m w q ≤ poC k m w q2 := fun k => sN_le fun v _ => by
          split
          · rename_i h; rw [if_pos (sub v h)]; exact Nat.le_refl _
          · exact Nat.zero_le _
        have diff : ∀ j k, k + j = n → poC k m w q = poC k m w q2 := by
          intro j
          induction j with
          | zero =>
            intro k hk
            have : k = n := by omega
            subst this
            omega
          | succ j ih =>
            intro k hk
            have h5 := ih (k + 1) (by omega)
            have h6 := lek k
            unfold poC at h5 h6 ⊢
            rw [sN_s, sN_s] at h5
            have h7 : (if m k < q * w k then 1 else 0) ≤ (if m k < q2 * w k then 1 else 0) := by
              split
              · rename_i h; rw [if_pos (sub k h)]; exact Nat.le_refl _
              · exact Nat.zero_le _
            omega
        intro k hk
        exact diff (n - k) k (by omega)
      intro v hv
      have a := this v (by omega)
      have c := this (v + 1) (by omega)
      unfold poC at a c
      rw [sN_s, sN_s] at c
      constructor
      · exact sub v
      · intro h
        rw [if_pos h] at c
        split at c
        · assumption
        · omega
    have e1 : poM n m w q2 = poM n m w q := sN_c fun v hv => by
      by_cases h5 : m v < q * w v
      · rw [if_pos h5, if_pos ((same v hv).mp h5)]
      · rw [if_neg h5, if_neg (fun z => h5 ((same v hv).mpr z))]
    have e2 : riW n m w q2 = riW n m w q := sN_c fun v hv => by
      by_cases h5 : m v < q * w v
      · rw [if_pos h5, if_pos ((same v hv).mp h5)]
      · rw [if_neg h5, if_neg (fun z => h5 ((same v hv).mpr z))]
    have := shN_split (n := n) (m := m) (w := w) q2
    rw [e1, e2] at this
    omega
theorem poC_le (q : Nat) : poC n m w q ≤ n := by
  have := sN_bd (n := n) (f := fun v => if m v < q * w v then 1 else 0) (c := 1) (fun v _ => by split <;> omega)
  unfold poC
  omega
/-- the cost itself does as a price -/
theorem shN_top {c : Nat} (hw : ∀ v, v < n → w v = 0 → m v = 0) (hc : c ≤ sN n m) : c ≤ shN n m w c := by
  by_cases h : ∃ v, v < n ∧ 0 < w v ∧ c * w v ≤ m v
  · obtain ⟨v, hv, h1, h2⟩ := h
    have := sN_at (f := fun v => min (m v) (c * w v)) hv
    rw [Nat.min_eq_right h2] at this
    have h3 := Nat.mul_le_mul_left c h1
    unfold shN
    omega
  · have : shN n m w c = sN n m := sN_c fun v hv => by
      by_cases h1 : w v = 0
      · rw [hw v hv h1]; omega
      · rw [Nat.min_eq_left]
        have : ¬ c * w v ≤ m v := fun z => h ⟨v, hv, by omega, z⟩
        omega
    omega
/-- the least number for which P holds -/
noncomputable def lq (P : Nat → Prop) : Nat := by
  classical exact if h : ∃ q, P q ∧ ∀ k, k < q → ¬ P k then Classical.choose h else 0
theorem lq_eq {P : Nat → Prop} {q : Nat} (h : P q) (h2 : ∀ k, k < q → ¬ P k) : lq P = q := by
  unfold lq
  have hx : ∃ q, P q ∧ ∀ k, k < q → ¬ P k := ⟨q, h, h2⟩
  rw [dif_pos hx]
  obtain ⟨a, b⟩ := Classical.choose_spec hx
  rcases Nat.lt_trichotomy (Classical.choose hx) q with z | z | z
  · exact absurd a (h2 _ z)
  · exact z
  · exact absurd h (b _ z)
end
