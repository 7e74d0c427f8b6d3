/-! ===== making objects ===== -/
section
variable {M M' : Mem} {n o a : Nat}
theorem st_O (h : mN M = some n) (ci : Nat) : nwO M ci = some (n, sA M n (ci, 0)) := by unfold nwO; rw [h]
theorem st_A (h : mN M = some n) (c k : Nat) : nwA M c k = some (n, sA M n (c, k)) := by unfold nwA; rw [h]
theorem st_2 (h : mN M = some n) (c k : Nat) : nw2 M c k = some (n, sA2 M n c k) := by unfold nw2; rw [h]
theorem k_sA (q : Nat × Nat) (b : Nat) : mK (sA M a q) b = if b = a then q else mK M b := rfl
theorem i_sA (q : Nat × Nat) (b j : Nat) : mI (sA M a q) b j = if b = a then 0 else mI M b j := rfl
theorem r_sA (q : Nat × Nat) (b j : Nat) : mR (sA M a q) b j = if b = a then none else mR M b j := rfl
theorem l_sA (q : Nat × Nat) (b j : Nat) : mL (sA M a q) b j = if b = a then 0 else mL M b j := rfl
theorem n_sA (q : Nat × Nat) : mN (sA M a q) = some (a + 1) := rfl
theorem k_sA2 (c k b : Nat) : mK (sA2 M a c k) b = if b = a then (23, c) else if a < b ∧ b ≤ a + c then (20, k) else mK M b := rfl
theorem i_sA2 (c k b j : Nat) : mI (sA2 M a c k) b j = if a ≤ b ∧ b ≤ a + c then 0 else mI M b j := rfl
theorem r_sA2 (c k b j : Nat) : mR (sA2 M a c k) b j = if b = a then (if j < c then some (a + 1 + j) else none) else if a < b ∧ b ≤ a + c then none else mR M b j := rfl
theorem n_sA2 (c k : Nat) : mN (sA2 M a c k) = some (a + 1 + c) := rfl
/-- objects made from o + 1 on, kept by o -/
def Nx (o n' : Nat) (M M' : Mem) : Prop := mN M' = some n' ∧ (∀ b, b ≤ o → mK M' b = mK M b) ∧ ∀ b, b < o → ∀ j, mI M' b j = mI M b j ∧ mL M' b j = mL M b j ∧ mR M' b j = mR M b j
theorem pR {ci j q : Nat} (h : (mK M o).1 = ci) : pFR M o ci j q = some (sR M o j q) := pFR_e h
/-- text -/
theorem n_X7 (h : (mK M o).1 = 7) (hn : mN M = some (o + 1)) : ok (f_X7_init M o) (fun M' => Nx o (o + 2) M M' ∧ (∀ j, mI M' o j = mI M o j) ∧ IsT M' o) := by
  unfold f_X7_init
  have k1 : (mK (sA M (o + 1) (21, 1200)) o).1 = 7 := by rw [k_sA, if_neg (by omega)]; exact h
  rw [st_A hn, bs, pR k1, bs]
  refine ok.pure ⟨⟨rfl, fun b hb => ?_, fun b hb j => ⟨?_, ?_, ?_⟩⟩, fun j => ?_, ?_, ?_, ?_⟩
  · rw [k_sR, k_sA, if_neg (by omega)]
  · rw [i_sR, i_sA, if_neg (by omega)]
  · rw [l_sR, l_sA, if_neg (by omega)]
  · rw [r_sR, if_neg (by omega), r_sA, if_neg (by omega)]
  · rw [i_sR, i_sA, if_neg (by omega)]
  · exact k1
  · rw [r_sR, if_pos ⟨rfl, rfl⟩]
  · rw [k_sR, k_sA, if_pos rfl]
theorem IsT.x (h : IsT M a) (hk : ∀ b, a ≤ b → b < a + 2 → mK M' b = mK M b) (hr : ∀ b, a ≤ b → b < a + 2 → ∀ j, mR M' b j = mR M b j) : IsT M' a := by
  obtain ⟨h1, h2, h3⟩ := h
  exact ⟨by rw [hk _ (by omega) (by omega)]; exact h1, by rw [hr _ (by omega) (by omega)]; exact h2, by rw [hk _ (by omega) (by omega)]; exact h3⟩
theorem IsH.x (h : IsH M a) (hk : ∀ b, a ≤ b → b < a + 4 → mK M' b = mK M b) (hr : ∀ b, a ≤ b → b < a + 4 → ∀ j, mR M' b j = mR M b j) : IsH M' a := by
  unfold IsH at h ⊢
  rw [hk a (by omega) (by omega), hk (a + 1) (by omega) (by omega), hk (a + 2) (by omega) (by omega), hk (a + 3) (by omega) (by omega), hr a (by omega) (by omega), hr a (by omega) (by omega), hr a (by omega) (by omega)]
  exact h
theorem IsGr.x (h : IsGr M a) (hk : ∀ b, a ≤ b → b < a + 16 → mK M' b = mK M b) (hr : ∀ b, a ≤ b → b < a + 16 → ∀ j, mR M' b j = mR M b j) : IsGr M' a := by
  obtain ⟨h1, ⟨a0, a1, a2⟩, ⟨k0, k1, k2⟩, hp⟩ := h
  refine ⟨by rw [hk _ (by omega) (by omega)]; exact h1, ⟨by rw [hr _ (by omega) (by omega)]; exact a0, by rw [hr _ (by omega) (by omega)]; exact a1, by rw [hr _ (by omega) (by omega)]; exact a2⟩, ⟨by rw [hk _ (by omega) (by omega)]; exact k0, by rw [hk _ (by omega) (by omega)]; exact k1, by rw [hk _ (by omega) (by omega)]; exact k2⟩, fun p hp2 => ⟨by rw [hr _ (by omega) (by omega)]; exact (hp p hp2).1, by rw [hk _ (by omega) (by omega)]; exact (hp p hp2).2⟩⟩
theorem IsOp.x (h : IsOp M a) (hk : ∀ b, a ≤ b → b < a + 5 → mK M' b = mK M b) (hr : ∀ b, a ≤ b → b < a + 5 → ∀ j, mR M' b j = mR M b j) : IsOp M' a := by
  obtain ⟨h1, ⟨a0, a1, a2, a3⟩, k0, k1, k2, k3⟩ := h
  refine ⟨by rw [hk _ (by omega) (by omega)]; exact h1, ⟨by rw [hr _ (by omega) (by omega)]; exact a0, by rw [hr _ (by omega) (by omega)]; exact a1, by rw [hr _ (by omega) (by omega)]; exact a2, by rw [hr _ (by omega) (by omega)]; exact a3⟩, by rw [hk _ (by omega) (by omega)]; exact k0, by rw [hk _ (by omega) (by omega)]; exact k1, by rw [hk _ (by omega) (by omega)]; exact k2, by rw [hk _ (by omega) (by omega)]; exact k3⟩
theorem IsBs.x (h : IsBs M a) (hk : ∀ b, a ≤ b → b < a + 12 → mK M' b = mK M b) (hr : ∀ b, a ≤ b → b < a + 12 → ∀ j, mR M' b j = mR M b j) : IsBs M' a := ⟨by rw [hk _ (by omega) (by omega)]; exact h.1, fun k h1 h2 => by rw [hr _ (by omega) (by omega), hk _ (by omega) (by omega)]; exact h.2 k h1 h2⟩
/-- the greedy rule's object -/
theorem n_X2 (h : (mK M o).1 = 2) (hn : mN M = some (o + 1)) : ok (f_X2_init M o) (fun M' => Nx o (o + 16) M M' ∧ (∀ j, mI M' o j = mI M o j) ∧ IsGr M' o) := by
  unfold f_X2_init
  obtain ⟨M1, e1⟩ : ∃ z, z = sR (sA M (o + 1) (20, 4)) o 0 (o + 1) := ⟨_, rfl⟩
  have n1 : mN M1 = some (o + 2) := by rw [e1]; rfl
  have k1 : ∀ b, mK M1 b = if b = o + 1 then (20, 4) else mK M b := fun b => by rw [e1, k_sR, k_sA]
  have r1 : ∀ b j, mR M1 b j = if b = o ∧ j = 0 then some (o + 1) else if b = o + 1 then none else mR M b j := fun b j => by rw [e1, r_sR, r_sA]
  have i1 : ∀ b j, b ≤ o → mI M1 b j = mI M b j ∧ mL M1 b j = mL M b j := fun b j hb => by rw [e1, i_sR, i_sA, if_neg (by omega), l_sR, l_sA, if_neg (by omega)]; exact ⟨rfl, rfl⟩
  have c0 : (mK (sA M (o + 1) (20, 4)) o).1 = 2 := by rw [k_sA, if_neg (by omega)]; exact h
  obtain ⟨M2, e2⟩ : ∃ z, z = sR (sA2 M1 (o + 2) 12 4) o 1 (o + 2) := ⟨_, rfl⟩
  have n2 : mN M2 = some (o + 15) := by rw [e2]; rfl
  have k2 : ∀ b, mK M2 b = if b = o + 2 then (23, 12) else if o + 2 < b ∧ b ≤ o + 2 + 12 then (20, 4) else mK M1 b := fun b => by rw [e2, k_sR, k_sA2]
  have r2 : ∀ b j, mR M2 b j = if b = o ∧ j = 1 then some (o + 2) else if b = o + 2 then (if j < 12 then some (o + 2 + 1 + j) else none) else if o + 2 < b ∧ b ≤ o + 2 + 12 then none else mR M1 b j := fun b j => by rw [e2, r_sR, r_sA2]
  have i2 : ∀ b j, b ≤ o → mI M2 b j = mI M1 b j ∧ mL M2 b j = mL M1 b j := fun b j hb => by
    rw [e2, i_sR, i_sA2, if_neg (by omega), l_sR]
    exact ⟨rfl, if_neg (by omega)⟩
  have c1 : (mK (sA2 M1 (o + 2) 12 4) o).1 = 2 := by rw [k_sA2, if_neg (by omega), if_neg (by omega), k1, if_neg (by omega)]; exact h
  have c2 : (mK (sA M2 (o + 15) (20, 12)) o).1 = 2 := by rw [k_sA, if_neg (by omega), k2, if_neg (by omega), if_neg (by omega), k1, if_neg (by omega)]; exact h
  rw [st_A hn, bs, pR c0, bs, ← e1, st_2 n1, bs, pR c1, bs, ← e2, st_A n2, bs, pR c2, bs]
  refine ok.pure ⟨⟨rfl, fun b hb => ?_, fun b hb j => ⟨?_, ?_, ?_⟩⟩, fun j => ?_, c2, ⟨?_, ?_, ?_⟩, ⟨?_, ?_, ?_⟩, fun p hp => ⟨?_, ?_⟩⟩
  · rw [k_sR, k_sA, if_neg (by omega), k2, if_neg (by omega), if_neg (by omega), k1, if_neg (by omega)]
  · rw [i_sR, i_sA, if_neg (by omega), (i2 b j (by omega)).1, (i1 b j (by omega)).1]
  · rw [l_sR, l_sA, if_neg (by omega), (i2 b j (by omega)).2, (i1 b j (by omega)).2]
  · rw [r_sR, if_neg (by omega), r_sA, if_neg (by omega), r2, if_neg (by omega), if_neg (by omega), if_neg (by omega), r1, if_neg (by omega), if_neg (by omega)]
  · rw [i_sR, i_sA, if_neg (by omega), (i2 o j (by omega)).1, (i1 o j (by omega)).1]
  · rw [r_sR, if_neg (by omega), r_sA, if_neg (by omega), r2, if_neg (by omega), if_neg (by omega), if_neg (by omega), r1, if_pos ⟨rfl, rfl⟩]
  · rw [r_sR, if_neg (by omega), r_sA, if_neg (by omega), r2, if_pos ⟨rfl, rfl⟩]
  · rw [r_sR, if_pos ⟨rfl, rfl⟩]
  · rw [k_sR, k_sA, if_neg (by omega), k2, if_neg (by omega), if_neg (by omega), k1, if_pos rfl]
  · rw [k_sR, k_sA, if_neg (by omega), k2, if_pos rfl]
  · rw [k_sR, k_sA, if_pos rfl]
  · rw [r_sR, if_neg (by omega), r_sA, if_neg (by omega), r2, if_neg (by omega), if_pos rfl, if_pos hp]
  · rw [k_sR, k_sA, if_neg (by omega), k2, if_neg (by omega), if_pos (by omega)]
end
