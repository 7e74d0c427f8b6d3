/-! ===== what if: the spare ballot, and the reference's own with one cell changed ===== -/
section
variable {M M' : Mem} {x m bb sb : Nat} {D D1 : Bl}
theorem EC.ch' {e : Nat} (h : EC M e D) : f_X1_chosen M e = some (SS D 0) := by
  obtain ⟨ra, rb, a, b, c, -⟩ := h
  unfold f_X1_chosen
  simp only [a.r0, bs, a.a.g, b.1.2.2.2.2.2, a.r2, a.g.gi, c.2.2.2.2, SS_0]
  rfl
theorem CQ.sp {lo hi : Nat} (h : CQ M x bb sb D) (hF : Fq lo hi M M') (hl : (lo = sb ∧ hi = sb + 12) ∨ (lo = x + 162 ∧ hi = x + 316) ∨ (lo = x + 332 ∧ hi = x + 348)) (hs : IsBs M' sb) (he : ∃ rc rd, IsEq M' (x + 162) rc rd) (hg : IsGr M' (x + 332)) : CQ M' x bb sb D := by
  obtain ⟨a, b, c, ⟨ra, rb, d⟩, -, f, -, i, j, k, l, n⟩ := h
  have hin := a.in_
  refine ⟨a.e hF.1 (hF.2.2 x (by omega)).2.2, b.fq hF (by omega), hs, ⟨ra, rb, d.fq hF (by omega)⟩, he, f.fq hF (by omega), hg, i.fq hF (by omega), j.fq hF (by omega), ?_, ?_, ?_⟩
  · rw [hF.i (by omega)]
    exact k.imp id (fun z => ⟨z.1, z.2.fq b.n hF (by omega)⟩)
  · rw [hF.i (by omega)]
    exact l.imp id (fun z => ⟨z.1, z.2.fq b.n hF (by omega)⟩)
  · rw [hF.i (by omega), hF.i (by omega)]
    exact n.imp id (fun z => ⟨z.1, z.2.1.fq hF (by omega), z.2.2⟩)
theorem CQ.sps (h : CQ M x bb sb D) (hF : Fq sb (sb + 12) M M') (hs : IsBs M' sb) : CQ M' x bb sb D := by
  have hin := h.1.in_
  obtain ⟨a, b, c, d, ⟨rc, rd, e⟩, f, g, i⟩ := id h
  exact h.sp hF (Or.inl ⟨rfl, rfl⟩) hs ⟨rc, rd, e.fq hF (by omega)⟩ (g.fq hF (by omega))
/-- the spare ballot decided -/
theorem c_if (h : CQ M x bb sb D) (hB : IsB M sb D1) (hG : Gd (tl D1)) : ok (f_X8_chosenIfSpare M x) (fun o => o.1 = SS (tl D1) 0 ∧ Cq x M o.2 ∧ CQ o.2 x bb sb D) := by
  have hin := h.1.in_
  unfold f_X8_chosenIfSpare
  rw [h.1.r9, bs, hB.c, bs]
  refine ok.seq (f_tl hB) ?_
  rintro _ ⟨f, rfl, hf, hB1⟩
  have F1 : Fq sb (sb + 12) M (sW M f) := Fq.W fun a ha => hf a (by omega) (by omega)
  have h1 : CQ (sW M f) x bb sb D := h.sps F1 hB1.1
  have C1 : Cq x M (sW M f) := Cq.of F1 (by omega) (by omega)
  obtain ⟨-, -, -, -, ⟨rc, rd, e⟩, -⟩ := id h1
  rw [h1.1.r4, bs, h1.1.r9, bs, e.c, bs]
  refine ok.seq (f_edecide e hB1 (by omega) hG (Tl_tl D1)) ?_
  rintro M2 ⟨F2, E2⟩
  have g2 : IsGr M2 (x + 332) := h1.2.2.2.2.2.2.1.fq F2 (by omega)
  have e2 : ∃ rc rd, IsEq M2 (x + 162) rc rd := by
    obtain ⟨ra, rb, a, -⟩ := id E2
    exact ⟨ra, rb, a⟩
  have h2 : CQ M2 x bb sb D := h1.sp F2 (Or.inr (Or.inl ⟨rfl, rfl⟩)) (hB1.1.fq F2 (by omega)) e2 g2
  have C2 : Cq x (sW M f) M2 := Cq.of F2 (by omega) (by omega)
  obtain ⟨ra, rb, e3⟩ := e2
  rw [h2.1.r4, bs, e3.c, bs, E2.ch', bs]
  exact ok.pure ⟨rfl, C1.trans C2, h2⟩
theorem c_copy (h : CQ M x bb sb D) : ok (f_X0_copy M sb bb) (fun M' => Cq x M M' ∧ CQ M' x bb sb D ∧ ∃ p q, IsB M' sb (rw_ D p q)) := by
  have hin := h.1.in_
  refine (f_copy h.2.2.1 h.2.1 (by omega)).mono ?_
  rintro M1 ⟨F1, p, q, hB⟩
  exact ⟨Cq.of F1 (by omega) (by omega), h.sps F1 hB.1, p, q, hB⟩
theorem cn_up {k i : Nat} {y : Int32} (hk : 1 ≤ k) (j : Nat) : cn (up D k i y) j = cn D j := by
  unfold cn up
  rw [if_neg (by omega)]
theorem bsz_up {k i : Nat} {y : Int32} (hk : 1 ≤ k) (j : Nat) : bsz (up D k i y) j = bsz D j := by
  unfold bsz
  rw [cn_up hk, cn_up hk, cn_up hk]
theorem up_ne {k i : Nat} {y : Int32} {k' : Nat} (h : k' ≠ k) : up D k i y k' = D k' := by
  funext j
  unfold up
  rw [if_neg (fun z => h z.1)]
theorem up_at {k i : Nat} {y : Int32} : up D k i y k i = y := by
  unfold up
  rw [if_pos ⟨rfl, rfl⟩]
theorem Cn_up {k i : Nat} {y : Int32} (h : Cn D) (hk : 1 ≤ k) : Cn (up D k i y) := by
  refine ⟨fun j hj => ?_, by rw [cn_up hk]; exact h.2.1, by rw [cn_up hk]; exact h.2.2.1, by rw [cn_up hk]; exact h.2.2.2⟩
  rw [cn_up hk, up_ne (by omega)]
  exact h.1 j hj
theorem tl_up {k i : Nat} {y : Int32} (p q : Nat → Int32) (hk : k < 10) : tl (up (rw_ D p q) k i y) = tl (up D k i y) := by
  have e : up (rw_ D p q) k i y = rw_ (up D k i y) p q := by
    funext a b
    unfold up rw_
    by_cases c : a = k ∧ b = i
    · rw [if_pos c, if_neg (by omega), if_neg (by omega)]
      exact (if_pos c).symm
    · rw [if_neg c]
      split
      · rfl
      · split
        · rfl
        · exact (if_neg c).symm
  rw [e, tl_rw]
theorem IsB.cell {b k i : Nat} (h : IsB M b D) (hk : 1 ≤ k) (y : Int32) : IsB (sI M (b + k) i y) b (up D k i y) := by
  refine ⟨h.1, fun j hj => ?_, Cn_up h.n hk, fun k' h1 h2 j hj => ?_⟩
  · rw [i_sI, if_neg (by omega), up_ne (by omega)]
    exact h.2.1 j hj
  · rw [bsz_up hk] at hj
    have := h.2.2.2 k' h1 h2 j hj
    rw [i_sI]
    unfold up
    by_cases c : k' = k ∧ j = i
    · rw [if_pos (by omega), if_pos c]
    · rw [if_neg (by omega), if_neg c]; exact this
theorem isM_cell {k off i : Nat} (h : IsM M m D) (hk : (k = 2 ∧ off = 4) ∨ (k = 4 ∧ off = 8) ∨ (k = 6 ∧ off = 20) ∨ (k = 7 ∧ off = 44) ∨ (k = 8 ∧ off = 68) ∨ (k = 9 ∧ off = 0)) (hi : i < bsz D k) (y : Int32) : IsM (sI M (m + 1) (off + i) y) m (up D k i y) := by
  have hn := h.n
  have l0 := hn.2.1
  have l1 := hn.2.2.1
  have l2 := hn.2.2.2
  have b2 : bsz D 2 = cn D 0 := rfl
  have b4 : bsz D 4 = cn D 1 := rfl
  have b6 : bsz D 6 = cn D 2 := rfl
  have b7 : bsz D 7 = cn D 2 := rfl
  have b8 : bsz D 8 = cn D 2 := rfl
  have b9 : bsz D 9 = 4 := rfl
  have hI : (k = 2 ∧ off = 4 ∧ i < cn D 0) ∨ (k = 4 ∧ off = 8 ∧ i < cn D 1) ∨ (k = 6 ∧ off = 20 ∧ i < cn D 2) ∨ (k = 7 ∧ off = 44 ∧ i < cn D 2) ∨ (k = 8 ∧ off = 68 ∧ i < cn D 2) ∨ (k = 9 ∧ off = 0 ∧ i < 4) := by
    rcases hk with z | z | z | z | z | z <;> obtain ⟨z1, z2⟩ := z <;> subst z1 <;> subst z2
    · rw [b2] at hi; omega
    · rw [b4] at hi; omega
    · rw [b6] at hi; omega
    · rw [b7] at hi; omega
    · rw [b8] at hi; omega
    · rw [b9] at hi; omega
  have k1 : 1 ≤ k := by omega
  have cell : ∀ c k' j, mI M (m + 1) c = D k' j → (c = off + i ↔ (k' = k ∧ j = i)) → mI (sI M (m + 1) (off + i) y) (m + 1) c = up D k i y k' j := fun c k' j e z => by
    rw [i_sI]
    unfold up
    by_cases w : k' = k ∧ j = i
    · rw [if_pos ⟨rfl, z.mpr w⟩, if_pos w]
    · rw [if_neg (fun q => w (z.mp q.2)), if_neg w]; exact e
  have oth : ∀ a j, a ≠ m + 1 → mI (sI M (m + 1) (off + i) y) a j = mI M a j := fun a j z => by rw [i_sI, if_neg (fun q => z q.1)]
  obtain ⟨a, b, -, d, e, f, g⟩ := h
  refine ⟨a.e rfl rfl, fun j hj => ?_, Cn_up hn k1, fun d' hd => ?_, fun p hp => ?_, fun v hv => ?_, fun j hj => ?_⟩
  · rw [oth _ _ (by omega), up_ne (by omega)]; exact b j hj
  · rw [cn_up k1] at hd
    exact ⟨by rw [oth _ _ (by omega), up_ne (by omega)]; exact (d d' hd).1, cell _ 2 d' (d d' hd).2 (by omega)⟩
  · rw [cn_up k1] at hp
    exact ⟨by rw [oth _ _ (by omega), up_ne (by omega)]; exact (e p hp).1, cell _ 4 p (e p hp).2.1 (by omega), by rw [oth _ _ (by omega), up_ne (by omega)]; exact (e p hp).2.2⟩
  · rw [cn_up k1] at hv
    exact ⟨cell _ 6 v (f v hv).1 (by omega), cell _ 7 v (f v hv).2.1 (by omega), cell _ 8 v (f v hv).2.2 (by omega)⟩
  · exact cell _ 9 j (g j hj) (by omega)
theorem isM_tl (h : IsM M m D) : IsM M m (tl D) := h
/-- numbers in their ranges -/
def okc (D : Bl) (k i : Nat) (y : Int32) : Prop := (k = 2 → 0 ≤ y.toInt ∧ y.toInt ≤ 100000) ∧ (k = 4 → 1 ≤ y.toInt ∧ y.toInt ≤ 100000) ∧ (k = 6 → 1 ≤ y.toInt ∧ y.toInt ≤ 9) ∧ (k = 7 → ∀ d, cn D 0 ≤ d → d < 32 → hs y (Int32.ofNat d) = false) ∧ (k = 9 → (i = 0 → y = 0 ∨ y = 1) ∧ (i = 1 → y = 0 ∨ y = 1 ∨ y = 2) ∧ (i = 2 → 1 ≤ y.toInt ∧ y.toInt ≤ 1000) ∧ (i = 3 → y = 0 ∨ y = 1))
theorem gd_up {k i : Nat} {y : Int32} (h : Gd D) (hk : k = 2 ∨ k = 4 ∨ k = 6 ∨ k = 7 ∨ k = 8 ∨ k = 9) (hy : okc D k i y) : Gd (tl (up D k i y)) := by
  have k1 : 1 ≤ k := by omega
  obtain ⟨a, b, c, d, e0, e1, e2, e3⟩ := h
  obtain ⟨y2, y4, y6, y7, y9⟩ := hy
  have row : ∀ k', k' < 10 → tl (up D k i y) k' = up D k i y k' := fun k' hk' => rw_ne hk'
  have cnn : ∀ j, cn (tl (up D k i y)) j = cn D j := fun j => (cn_tl _ j).trans (cn_up k1 j)
  have at_ : ∀ (P : Int32 → Prop) k' j, P (D k' j) → (k' = k → j = i → P y) → P (up D k i y k' j) := fun P k' j h1 h2 => by
    unfold up
    by_cases w : k' = k ∧ j = i
    · rw [if_pos w]; exact h2 w.1 w.2
    · rw [if_neg w]; exact h1
  refine ⟨Cn_up a k1, fun d' hd => ?_, fun p hp => ⟨?_, ?_⟩, fun v hv => ⟨?_, ?_⟩, ?_, ?_, ?_, ?_⟩
  · rw [cnn] at hd
    rw [row 2 (by omega)]
    exact at_ (fun z => 0 ≤ z.toInt ∧ z.toInt ≤ 100000) 2 d' (b d' hd) (fun q _ => y2 q.symm)
  · rw [cnn] at hp
    rw [row 4 (by omega)]
    exact at_ (fun z => 1 ≤ z.toInt ∧ z.toInt ≤ 100000) 4 p (c p hp).1 (fun q _ => y4 q.symm)
  · rw [cnn] at hp
    rw [cnn, row 5 (by omega), up_ne (by omega)]
    exact (c p hp).2
  · rw [cnn] at hv
    rw [row 6 (by omega)]
    exact at_ (fun z => 1 ≤ z.toInt ∧ z.toInt ≤ 9) 6 v (d v hv).1 (fun q _ => y6 q.symm)
  · rw [cnn] at hv
    rw [cnn, row 7 (by omega)]
    exact at_ (fun z => ∀ d', cn D 0 ≤ d' → d' < 32 → hs z (Int32.ofNat d') = false) 7 v (d v hv).2 (fun q _ => y7 q.symm)
  · rw [row 9 (by omega)]
    exact at_ (fun z => z = 0 ∨ z = 1) 9 0 e0 (fun q w => (y9 q.symm).1 w.symm)
  · rw [row 9 (by omega)]
    exact at_ (fun z => z = 0 ∨ z = 1 ∨ z = 2) 9 1 e1 (fun q w => (y9 q.symm).2.1 w.symm)
  · rw [row 9 (by omega)]
    exact at_ (fun z => 1 ≤ z.toInt ∧ z.toInt ≤ 1000) 9 2 e2 (fun q w => (y9 q.symm).2.2.1 w.symm)
  · rw [row 9 (by omega)]
    exact at_ (fun z => z = 0 ∨ z = 1) 9 3 e3 (fun q w => (y9 q.symm).2.2.2 w.symm)
end
