/-! ===== the tables; clear and copy ===== -/
section
/-- the constant tables and the texts -/
def Sta (M : Mem) (lim : Nat) : Prop := (∀ j, j < 3 → ∃ a, a < lim ∧ mR M 0 j = some a ∧ mK M a = (25, 4) ∧ ∀ k, k < 4 → mI M a k = stv j k) ∧ (∀ i, i < 10 → ∃ a, mR M 0 (10 + i) = some a ∧ sIx M a = some i) ∧ 0 < lim
theorem Sta.fq {M M' : Mem} {lim lo hi : Nat} (h : Sta M lim) (hF : Fq lo hi M M') (hl : lim ≤ lo) : Sta M' lim := by
  have h0 := h.2.2
  have e : ∀ j, mR M' 0 j = mR M 0 j := fun j => hF.r (by omega) j
  refine ⟨fun j hj => ?_, fun i hi => ?_, h.2.2⟩
  · obtain ⟨a, ha, h1, h2, h3⟩ := h.1 j hj
    exact ⟨a, ha, by rw [e]; exact h1, by rw [hF.1]; exact h2, fun k hk => by rw [hF.i (by omega)]; exact h3 k hk⟩
  · obtain ⟨a, h1, h2⟩ := h.2.1 i hi
    refine ⟨a, by rw [e]; exact h1, ?_⟩
    unfold sIx at h2 ⊢
    simp only [e]
    exact h2
/-- a ballot without districts, projects, voters -/
def D0 : Bl := fun k i => if k = 9 then stv 0 i else 0
theorem cn_D0 (j : Nat) : cn D0 j = 0 := rfl
theorem D0_n : Cn D0 := ⟨fun j _ => rfl, Nat.zero_le _, Nat.zero_le _, Nat.zero_le _⟩
theorem f_clear {M : Mem} {b lim : Nat} (h : IsBs M b) (hs : Sta M lim) (hl : lim ≤ b) : ok (f_X0_clear M b) (fun M' => Fq b (b + 12) M M' ∧ IsB M' b D0) := by
  obtain ⟨a, ha, h1, h2, h3⟩ := hs.1 0 (by omega)
  unfold f_X0_clear gST
  have w1 : pFI M b 0 0 0 = some (sI M b 0 0) := pFI_e h.1
  have w2 : pFI (sI M b 0 0) b 0 1 0 = some (sI (sI M b 0 0) b 1 0) := pFI_e h.1
  have w3 : pFI (sI (sI M b 0 0) b 1 0) b 0 2 0 = some (sI (sI (sI M b 0 0) b 1 0) b 2 0) := pFI_e h.1
  have h' : IsBs (sI (sI (sI M b 0 0) b 1 0) b 2 0) b := h
  have w4 : mR (sI (sI (sI M b 0 0) b 1 0) b 2 0) 0 0 = some a := h1
  have w5 : cpI (sI (sI (sI M b 0 0) b 1 0) b 2 0) a 0 (b + 9) 0 4 = some (sC (sI (sI (sI M b 0 0) b 1 0) b 2 0) a 0 (b + 9) 0 4) := cpI_e (sp := 0) (dp := 0) (k := 4) (n := 4) (m := 4) h2 (Or.inr rfl) h.k9 (by omega) (by omega) (by omega) (by omega)
  simp only [w1, w2, w3, bs, w4, h'.r9, w5]
  have g : ∀ q, q ≠ b → mI (sI (sI (sI M b 0 0) b 1 0) b 2 0) q = mI M q := fun q hq => by
    funext k
    rw [i_sI, if_neg (by omega), i_sI, if_neg (by omega), i_sI, if_neg (by omega)]
  refine ok.pure ⟨((Fq.sI ⟨by omega, by omega⟩).trans ((Fq.sI ⟨by omega, by omega⟩).trans (Fq.sI ⟨by omega, by omega⟩))).trans (Fq.sC ⟨by omega, by omega⟩), h, fun j hj => ?_, D0_n, fun k k1 k2 i hi => ?_⟩
  · rw [i_sC, if_neg (by omega), i_sI, i_sI, i_sI]
    rcases (show j = 0 ∨ j = 1 ∨ j = 2 by omega) with e | e | e <;> subst e <;> simp <;> rfl
  · by_cases e : k = 9
    · subst e
      have hi4 : i < 4 := hi
      rw [i_sC, if_pos (by omega), g a (by omega), show 0 + (i - 0) = i by omega]
      exact h3 i hi4
    · unfold bsz at hi
      rw [cn_D0, cn_D0, cn_D0, if_neg e] at hi
      split at hi
      · omega
      · split at hi <;> omega
/-- copied so far -/
def Cp (M : Mem) (s b : Nat) (n : Nat) (M' : Mem) : Prop := Fq s (s + 12) M M' ∧ (∀ j, j < 3 → mI M' s j = mI M b j) ∧ ∀ k, 1 ≤ k → k ≤ n → ∀ i, i < bln k → mI M' (s + k) i = mI M (b + k) i
theorem Cp.s {M M' : Mem} {s b n : Nat} (hsb : s + 12 ≤ b ∨ b + 12 ≤ s) (hn : n < 11) (h : Cp M s b n M') : Cp M s b (n + 1) (sC M' (b + (n + 1)) 0 (s + (n + 1)) 0 (bln (n + 1))) := by
  refine ⟨h.1.trans (Fq.sC ⟨by omega, by omega⟩), fun j hj => ?_, fun k h1 h2 i hi => ?_⟩
  · rw [i_sC, if_neg (by omega)]; exact h.2.1 j hj
  · by_cases e : k = n + 1
    · subst e
      rw [i_sC, if_pos (by omega), h.1.i (by omega), show 0 + (i - 0) = i by omega]
    · rw [i_sC, if_neg (by omega)]; exact h.2.2 k h1 (by omega) i hi
theorem f_copy {M : Mem} {s b : Nat} {D : Bl} (h : IsBs M s) (hb : IsB M b D) (hsb : s + 12 ≤ b ∨ b + 12 ≤ s) : ok (f_X0_copy M s b) (fun M' => Fq s (s + 12) M M' ∧ ∃ x y, IsB M' s (rw_ D x y)) := by
  unfold f_X0_copy
  obtain ⟨M1, e1⟩ : ∃ z, z = sI M s 0 (Int32.ofNat (cn D 0)) := ⟨_, rfl⟩
  have w1 : pFI M s 0 0 (Int32.ofNat (cn D 0)) = some M1 := by rw [e1]; exact pFI_e h.1
  have F1 : Fq s (s + 12) M M1 := by rw [e1]; exact Fq.sI ⟨by omega, by omega⟩
  have b1 := hb.fq F1 (by omega)
  have h1 : IsBs M1 s := by rw [e1]; exact h
  obtain ⟨M2, e2⟩ : ∃ z, z = sI M1 s 1 (Int32.ofNat (cn D 1)) := ⟨_, rfl⟩
  have w2 : pFI M1 s 0 1 (Int32.ofNat (cn D 1)) = some M2 := by rw [e2]; exact pFI_e h1.1
  have F2 : Fq s (s + 12) M M2 := F1.trans (by rw [e2]; exact Fq.sI ⟨by omega, by omega⟩)
  have b2 := hb.fq F2 (by omega)
  have h2 : IsBs M2 s := by rw [e2]; exact h1
  obtain ⟨M3, e3⟩ : ∃ z, z = sI M2 s 2 (Int32.ofNat (cn D 2)) := ⟨_, rfl⟩
  have w3 : pFI M2 s 0 2 (Int32.ofNat (cn D 2)) = some M3 := by rw [e3]; exact pFI_e h2.1
  have F3 : Fq s (s + 12) M M3 := F2.trans (by rw [e3]; exact Fq.sI ⟨by omega, by omega⟩)
  have b3 := hb.fq F3 (by omega)
  have h3 : IsBs M3 s := by rw [e3]; exact h2
  have c0 : Cp M s b 0 M3 := ⟨F3, fun j hj => by
    rw [e3, i_sI, e2, i_sI, e1, i_sI, hb.2.1 j hj, hb.n.1 j hj]
    rcases (show j = 0 ∨ j = 1 ∨ j = 2 by omega) with e | e | e <;> subst e <;> simp, fun k z1 z2 => by omega⟩
  have st : ∀ (n : Nat) (M' : Mem), n < 9 → Cp M s b n M' → IsBs M' s → ∃ M'', cpI M' (b + (n + 1)) 0 (s + (n + 1)) 0 (Int32.ofNat (bln (n + 1))) = some M'' ∧ Cp M s b (n + 1) M'' ∧ IsBs M'' s := fun n M' hn hc hs => ⟨_, cpI_e (sp := 0) (dp := 0) ((hb.fq hc.1 (by omega)).s.2 (n + 1) (by omega) (by omega)).2 (Or.inl rfl) (hs.2 (n + 1) (by omega) (by omega)).2 (by omega) (by omega) (by
    have : ∀ k, k < 10 → bln k < 2147483648 := by decide
    exact this _ (by omega)) (by
    have : ∀ k, k < 10 → bln k < 2147483648 := by decide
    exact this _ (by omega)), hc.s hsb (by omega), hs⟩
  obtain ⟨N1, x1, C1, S1⟩ := st 0 M3 (by omega) c0 h3
  obtain ⟨N2, x2, C2, S2⟩ := st 1 N1 (by omega) C1 S1
  obtain ⟨N3, x3, C3, S3⟩ := st 2 N2 (by omega) C2 S2
  obtain ⟨N4, x4, C4, S4⟩ := st 3 N3 (by omega) C3 S3
  obtain ⟨N5, x5, C5, S5⟩ := st 4 N4 (by omega) C4 S4
  obtain ⟨N6, x6, C6, S6⟩ := st 5 N5 (by omega) C5 S5
  obtain ⟨N7, x7, C7, S7⟩ := st 6 N6 (by omega) C6 S6
  obtain ⟨N8, x8, C8, S8⟩ := st 7 N7 (by omega) C7 S7
  obtain ⟨N9, x9, C9, S9⟩ := st 8 N8 (by omega) C8 S8
  have q1 := hb.fq C1.1 (by omega)
  have q2 := hb.fq C2.1 (by omega)
  have q3 := hb.fq C3.1 (by omega)
  have q4 := hb.fq C4.1 (by omega)
  have q5 := hb.fq C5.1 (by omega)
  have q6 := hb.fq C6.1 (by omega)
  have q7 := hb.fq C7.1 (by omega)
  have q8 := hb.fq C8.1 (by omega)
  replace x1 : cpI M3 (b + 1) 0 (s + 1) 0 4 = some N1 := x1
  replace x2 : cpI N1 (b + 2) 0 (s + 2) 0 4 = some N2 := x2
  replace x3 : cpI N2 (b + 3) 0 (s + 3) 0 12 = some N3 := x3
  replace x4 : cpI N3 (b + 4) 0 (s + 4) 0 12 = some N4 := x4
  replace x5 : cpI N4 (b + 5) 0 (s + 5) 0 12 = some N5 := x5
  replace x6 : cpI N5 (b + 6) 0 (s + 6) 0 24 = some N6 := x6
  replace x7 : cpI N6 (b + 7) 0 (s + 7) 0 24 = some N7 := x7
  replace x8 : cpI N7 (b + 8) 0 (s + 8) 0 24 = some N8 := x8
  replace x9 : cpI N8 (b + 9) 0 (s + 9) 0 4 = some N9 := x9
  simp only [hb.g0, bs, w1, b1.g1, w2, b2.g2, w3, b3.s.r1, h3.r1, x1, q1.s.r2, S1.r2, x2, q2.s.r3, S2.r3, x3, q3.s.r4, S3.r4, x4, q4.s.r5, S4.r5, x5, q5.s.r6, S5.r6, x6, q6.s.r7, S6.r7, x7, q7.s.r8, S7.r8, x8, q8.s.r9, S8.r9, x9]
  refine ok.pure ⟨C9.1, mI N9 (s + 10), mI N9 (s + 11), S9, fun j hj => by rw [C9.2.1 j hj]; exact hb.2.1 j hj, hb.n, fun k z1 z2 i hi => ?_⟩
  by_cases e : k < 10
  · have hz : bsz D k ≤ bln k := by
      have n0 := hb.n.2.1
      have n1 := hb.n.2.2.1
      have n2 := hb.n.2.2.2
      unfold bsz
      rcases (show k = 1 ∨ k = 2 ∨ k = 3 ∨ k = 4 ∨ k = 5 ∨ k = 6 ∨ k = 7 ∨ k = 8 ∨ k = 9 by omega) with e | e | e | e | e | e | e | e | e <;> subst e <;> simp [bln] <;> omega
    rw [C9.2.2 k z1 (by omega) i (Nat.lt_of_lt_of_le hi hz), rw_ne e]
    exact hb.2.2.2 k z1 z2 i hi
  · rcases (show k = 10 ∨ k = 11 by omega) with e | e <;> subst e <;> rfl
end
