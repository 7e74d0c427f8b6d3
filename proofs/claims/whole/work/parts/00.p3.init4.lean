/-! ===== rounds and the rule of equal shares made ===== -/
section
variable {M M' M1 M2 : Mem} {o n : Nat}
/-- one more array at n, kept by o in field j -/
def E1 (o n c k j : Nat) (M M' : Mem) : Prop := mN M' = some (n + 1) ∧ (∀ b, b < n → mK M' b = mK M b) ∧ (∀ b i, b < n → ¬ (b = o ∧ i = j) → mR M' b i = mR M b i) ∧ mR M' o j = some n ∧ (∀ b i, b < n → mI M' b i = mI M b i ∧ mL M' b i = mL M b i) ∧ mK M' n = (c, k)
/-- one more array of arrays -/
def E2 (o n c k j : Nat) (M M' : Mem) : Prop := mN M' = some (n + 1 + c) ∧ (∀ b, b < n → mK M' b = mK M b) ∧ (∀ b i, b < n → ¬ (b = o ∧ i = j) → mR M' b i = mR M b i) ∧ mR M' o j = some n ∧ (∀ b i, b < n → mI M' b i = mI M b i ∧ mL M' b i = mL M b i) ∧ mK M' n = (23, c) ∧ ∀ p, p < c → mR M' n p = some (n + 1 + p) ∧ mK M' (n + 1 + p) = (20, k)
theorem E1_s {α : Type} {c k j ci : Nat} (hn : mN M = some n) (ho : o < n) (hk : (mK M o).1 = ci) {K : Mem → Option α} {P : α → Prop} (hK : ∀ M2, E1 o n c k j M M2 → ok (K M2) P) : ok (nwA M c k >>= fun (o1 : Nat × Mem) => pFR o1.2 o ci j o1.1 >>= K) P := by
  have c0 : (mK (sA M n (c, k)) o).1 = ci := by rw [k_sA, if_neg (by omega)]; exact hk
  rw [st_A hn, bs]
  dsimp only
  rw [pR c0, bs]
  refine hK _ ⟨rfl, fun b hb => ?_, fun b i hb z => ?_, ?_, fun b i hb => ⟨?_, ?_⟩, ?_⟩
  · rw [k_sR, k_sA, if_neg (by omega)]
  · rw [r_sR, if_neg z, r_sA, if_neg (by omega)]
  · rw [r_sR, if_pos ⟨rfl, rfl⟩]
  · rw [i_sR, i_sA, if_neg (by omega)]
  · rw [l_sR, l_sA, if_neg (by omega)]
  · rw [k_sR, k_sA, if_pos rfl]
theorem l_sA2 (a c k b j : Nat) : mL (sA2 M a c k) b j = if a ≤ b ∧ b ≤ a + c then 0 else mL M b j := rfl
theorem E2_s {α : Type} {c k j ci : Nat} (hn : mN M = some n) (ho : o < n) (hk : (mK M o).1 = ci) {K : Mem → Option α} {P : α → Prop} (hK : ∀ M2, E2 o n c k j M M2 → ok (K M2) P) : ok (nw2 M c k >>= fun (o1 : Nat × Mem) => pFR o1.2 o ci j o1.1 >>= K) P := by
  have c0 : (mK (sA2 M n c k) o).1 = ci := by rw [k_sA2, if_neg (by omega), if_neg (by omega)]; exact hk
  rw [st_2 hn, bs]
  dsimp only
  rw [pR c0, bs]
  refine hK _ ⟨rfl, fun b hb => ?_, fun b i hb z => ?_, ?_, fun b i hb => ⟨?_, ?_⟩, ?_, fun p hp => ⟨?_, ?_⟩⟩
  · rw [k_sR, k_sA2, if_neg (by omega), if_neg (by omega)]
  · rw [r_sR, if_neg z, r_sA2, if_neg (by omega), if_neg (by omega)]
  · rw [r_sR, if_pos ⟨rfl, rfl⟩]
  · rw [i_sR, i_sA2, if_neg (by omega)]
  · rw [l_sR, l_sA2, if_neg (by omega)]
  · rw [k_sR, k_sA2, if_pos rfl]
  · rw [r_sR, if_neg (by omega), r_sA2, if_pos rfl, if_pos hp]
  · rw [k_sR, k_sA2, if_neg (by omega), if_pos (by omega)]
theorem n_X6 (h : (mK M o).1 = 6) (hn : mN M = some (o + 1)) : ok (f_X6_init M o) (fun M' => Nx o (o + 68) M M' ∧ (∀ j, mI M' o j = mI M o j) ∧ IsRs M' o) := by
  unfold f_X6_init
  refine E2_s (n := o + 1) hn (by omega) h fun N1 d1 => ?_
  refine E2_s (n := o + 26) d1.1 (by omega) (by rw [d1.2.1 o (by omega)]; exact h) fun N2 d2 => ?_
  refine E2_s (n := o + 39) d2.1 (by omega) (by rw [d2.2.1 o (by omega), d1.2.1 o (by omega)]; exact h) fun N3 d3 => ?_
  refine E2_s (n := o + 52) d3.1 (by omega) (by rw [d3.2.1 o (by omega), d2.2.1 o (by omega), d1.2.1 o (by omega)]; exact h) fun N4 d4 => ?_
  refine E1_s (n := o + 65) d4.1 (by omega) (by rw [d4.2.1 o (by omega), d3.2.1 o (by omega), d2.2.1 o (by omega), d1.2.1 o (by omega)]; exact h) fun N5 d5 => ?_
  refine E1_s (n := o + 66) d5.1 (by omega) (by rw [d5.2.1 o (by omega), d4.2.1 o (by omega), d3.2.1 o (by omega), d2.2.1 o (by omega), d1.2.1 o (by omega)]; exact h) fun N6 d6 => ?_
  refine E1_s (n := o + 67) d6.1 (by omega) (by rw [d6.2.1 o (by omega), d5.2.1 o (by omega), d4.2.1 o (by omega), d3.2.1 o (by omega), d2.2.1 o (by omega), d1.2.1 o (by omega)]; exact h) fun N7 d7 => ?_
  refine ok.pure ⟨⟨d7.1, fun b hb => ?_, fun b hb j => ⟨?_, ?_, ?_⟩⟩, fun j => ?_, ?_, ⟨?_, ?_, ?_, ?_, ?_, ?_, ?_⟩, ⟨?_, ?_, ?_, ?_⟩, ⟨?_, ?_, ?_⟩, fun v hv => ⟨?_, ?_⟩, fun p hp => ⟨⟨?_, ?_⟩, ⟨?_, ?_⟩, ⟨?_, ?_⟩⟩⟩
  · rw [d7.2.1 _ (by omega), d6.2.1 _ (by omega), d5.2.1 _ (by omega), d4.2.1 _ (by omega), d3.2.1 _ (by omega), d2.2.1 _ (by omega), d1.2.1 _ (by omega)]
  · rw [(d7.2.2.2.2.1 b j (by omega)).1, (d6.2.2.2.2.1 b j (by omega)).1, (d5.2.2.2.2.1 b j (by omega)).1, (d4.2.2.2.2.1 b j (by omega)).1, (d3.2.2.2.2.1 b j (by omega)).1, (d2.2.2.2.2.1 b j (by omega)).1, (d1.2.2.2.2.1 b j (by omega)).1]
  · rw [(d7.2.2.2.2.1 b j (by omega)).2, (d6.2.2.2.2.1 b j (by omega)).2, (d5.2.2.2.2.1 b j (by omega)).2, (d4.2.2.2.2.1 b j (by omega)).2, (d3.2.2.2.2.1 b j (by omega)).2, (d2.2.2.2.2.1 b j (by omega)).2, (d1.2.2.2.2.1 b j (by omega)).2]
  · rw [d7.2.2.1 _ _ (by omega) (by omega), d6.2.2.1 _ _ (by omega) (by omega), d5.2.2.1 _ _ (by omega) (by omega), d4.2.2.1 _ _ (by omega) (by omega), d3.2.2.1 _ _ (by omega) (by omega), d2.2.2.1 _ _ (by omega) (by omega), d1.2.2.1 _ _ (by omega) (by omega)]
  · rw [(d7.2.2.2.2.1 o j (by omega)).1, (d6.2.2.2.2.1 o j (by omega)).1, (d5.2.2.2.2.1 o j (by omega)).1, (d4.2.2.2.2.1 o j (by omega)).1, (d3.2.2.2.2.1 o j (by omega)).1, (d2.2.2.2.2.1 o j (by omega)).1, (d1.2.2.2.2.1 o j (by omega)).1]
  · rw [d7.2.1 _ (by omega), d6.2.1 _ (by omega), d5.2.1 _ (by omega), d4.2.1 _ (by omega), d3.2.1 _ (by omega), d2.2.1 _ (by omega), d1.2.1 _ (by omega)]; exact h
  · rw [d7.2.2.1 _ _ (by omega) (by omega), d6.2.2.1 _ _ (by omega) (by omega), d5.2.2.1 _ _ (by omega) (by omega), d4.2.2.1 _ _ (by omega) (by omega), d3.2.2.1 _ _ (by omega) (by omega), d2.2.2.1 _ _ (by omega) (by omega)]; exact d1.2.2.2.1
  · rw [d7.2.2.1 _ _ (by omega) (by omega), d6.2.2.1 _ _ (by omega) (by omega), d5.2.2.1 _ _ (by omega) (by omega), d4.2.2.1 _ _ (by omega) (by omega), d3.2.2.1 _ _ (by omega) (by omega)]; exact d2.2.2.2.1
  · rw [d7.2.2.1 _ _ (by omega) (by omega), d6.2.2.1 _ _ (by omega) (by omega), d5.2.2.1 _ _ (by omega) (by omega), d4.2.2.1 _ _ (by omega) (by omega)]; exact d3.2.2.2.1
  · rw [d7.2.2.1 _ _ (by omega) (by omega), d6.2.2.1 _ _ (by omega) (by omega), d5.2.2.1 _ _ (by omega) (by omega)]; exact d4.2.2.2.1
  · rw [d7.2.2.1 _ _ (by omega) (by omega), d6.2.2.1 _ _ (by omega) (by omega)]; exact d5.2.2.2.1
  · rw [d7.2.2.1 _ _ (by omega) (by omega)]; exact d6.2.2.2.1
  · exact d7.2.2.2.1
  · rw [d7.2.1 _ (by omega), d6.2.1 _ (by omega), d5.2.1 _ (by omega), d4.2.1 _ (by omega), d3.2.1 _ (by omega), d2.2.1 _ (by omega)]; exact d1.2.2.2.2.2.1
  · rw [d7.2.1 _ (by omega), d6.2.1 _ (by omega), d5.2.1 _ (by omega), d4.2.1 _ (by omega), d3.2.1 _ (by omega)]; exact d2.2.2.2.2.2.1
  · rw [d7.2.1 _ (by omega), d6.2.1 _ (by omega), d5.2.1 _ (by omega), d4.2.1 _ (by omega)]; exact d3.2.2.2.2.2.1
  · rw [d7.2.1 _ (by omega), d6.2.1 _ (by omega), d5.2.1 _ (by omega)]; exact d4.2.2.2.2.2.1
  · rw [d7.2.1 _ (by omega), d6.2.1 _ (by omega)]; exact d5.2.2.2.2.2
  · rw [d7.2.1 _ (by omega)]; exact d6.2.2.2.2.2
  · exact d7.2.2.2.2.2
  · rw [d7.2.2.1 _ _ (by omega) (by omega), d6.2.2.1 _ _ (by omega) (by omega), d5.2.2.1 _ _ (by omega) (by omega), d4.2.2.1 _ _ (by omega) (by omega), d3.2.2.1 _ _ (by omega) (by omega), d2.2.2.1 _ _ (by omega) (by omega)]; exact (d1.2.2.2.2.2.2 v hv).1
  · rw [d7.2.1 _ (by omega), d6.2.1 _ (by omega), d5.2.1 _ (by omega), d4.2.1 _ (by omega), d3.2.1 _ (by omega), d2.2.1 _ (by omega)]; exact (d1.2.2.2.2.2.2 v hv).2
  · rw [d7.2.2.1 _ _ (by omega) (by omega), d6.2.2.1 _ _ (by omega) (by omega), d5.2.2.1 _ _ (by omega) (by omega), d4.2.2.1 _ _ (by omega) (by omega), d3.2.2.1 _ _ (by omega) (by omega)]; exact (d2.2.2.2.2.2.2 p hp).1
  · rw [d7.2.1 _ (by omega), d6.2.1 _ (by omega), d5.2.1 _ (by omega), d4.2.1 _ (by omega), d3.2.1 _ (by omega)]; exact (d2.2.2.2.2.2.2 p hp).2
  · rw [d7.2.2.1 _ _ (by omega) (by omega), d6.2.2.1 _ _ (by omega) (by omega), d5.2.2.1 _ _ (by omega) (by omega), d4.2.2.1 _ _ (by omega) (by omega)]; exact (d3.2.2.2.2.2.2 p hp).1
  · rw [d7.2.1 _ (by omega), d6.2.1 _ (by omega), d5.2.1 _ (by omega), d4.2.1 _ (by omega)]; exact (d3.2.2.2.2.2.2 p hp).2
  · rw [d7.2.2.1 _ _ (by omega) (by omega), d6.2.2.1 _ _ (by omega) (by omega), d5.2.2.1 _ _ (by omega) (by omega)]; exact (d4.2.2.2.2.2.2 p hp).1
  · rw [d7.2.1 _ (by omega), d6.2.1 _ (by omega), d5.2.1 _ (by omega)]; exact (d4.2.2.2.2.2.2 p hp).2
end
