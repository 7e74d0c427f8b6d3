/-! ===== what if: one cell changed ===== -/
section
variable {M M' : Mem} {x m bb sb : Nat} {D D1 : Bl}
theorem ok.and {α : Type} {t : Option α} {P Q : α → Prop} (h1 : ok t P) (h2 : ok t Q) : ok t (fun x => P x ∧ Q x) := by
  obtain ⟨a, e, p⟩ := h1
  obtain ⟨b, e2, q⟩ := h2
  rw [e] at e2
  cases e2
  exact ⟨a, e, p, q⟩
theorem f_eNowB (h : CQ M x bb sb D) (hG : Gd D) (hT : Tl D) (hB : IsB M sb D1) : ok (f_X8_equalNow M x) (fun o => IsB o.2 sb D1) := by
  obtain ⟨a, b, c, ⟨ra, rb, d⟩, -, -, -, -, -, k, -⟩ := h
  have hin := a.in_
  unfold f_X8_equalNow
  rw [a.gi, bs]
  rcases k with k | ⟨k, hE⟩
  · rw [if_pos k]
    simp only [a.r3, bs, a.r8, d.c]
    refine ok.bind (ok.seq (f_edecide d b (by omega) hG hT) ?_)
    rintro M1 ⟨F1, E1⟩
    have C1 : Cq x M M1 := Cq.of F1 (by omega) (by omega)
    have a1 := a.cq C1
    have C2 : Cq x M1 (sI M1 x 12 1) := Cq.sI 1 (by omega) (by omega)
    have F2 : Fi x (x + 1) M1 (sI M1 x 12 1) := Fi.sI ⟨by omega, by omega⟩
    have a2 := a1.cq C2
    rw [a1.p, bs]
    refine ok.pure ?_
    simp only [a2.r3, bs]
    exact ok.pure ((hB.fq F1 (by omega)).fq F2.q (by omega))
  · rw [if_neg (by rw [k]; decide)]
    simp only [bs, a.r3]
    exact ok.pure hB
theorem c_eq0 (h : CQ M x bb sb D) (hG : Gd D) (hT : Tl D) (hB : IsB M sb D1) : ok (f_X8_chosenBy M x 0) (fun o => o.1 = SS D 0 ∧ Cq x M o.2 ∧ CQ o.2 x bb sb D ∧ IsB o.2 sb D1) := by
  unfold f_X8_chosenBy
  rw [if_pos rfl, h.1.c, bs]
  refine ok.seq (ok.and (f_eNow h hG hT) (f_eNowB h hG hT hB)) ?_
  rintro ⟨o, M1⟩ ⟨⟨rfl, C1, h1, E1⟩, B1⟩
  dsimp only at C1 h1 E1 B1 ⊢
  obtain ⟨ra, rb, E1', -⟩ := id E1
  rw [E1'.c, bs, E1.ch, bs]
  exact ok.pure ⟨rfl, C1, h1, B1⟩
/-- the spare ballot: a copy with one cell changed -/
theorem c_cellw {α : Type} (h : CQ M x bb sb D) (k : Nat) {i : Nat} (k1 : 1 ≤ k) (k2 : k < 10) (hi : i < bln k) (y : Int32) {K : Mem → Option α} {P : α → Prop} (hK : ∀ M', Cq x M M' → CQ M' x bb sb D → (∃ D1, IsB M' sb D1 ∧ tl D1 = tl (up D k i y)) → ok (K M') P) : ok (f_X0_copy M sb bb >>= fun (o7 : Mem) => gFR o7 x 8 9 >>= fun (r8 : Nat) => gFR o7 r8 0 (k + 2) >>= fun (r9 : Nat) => wI o7 r9 (Int32.ofNat i) y >>= K) P := by
  have hin := h.1.in_
  refine ok.seq (c_copy h) ?_
  rintro M1 ⟨C1, h1, p, q, hB⟩
  have b24 : bln k ≤ 24 := by
    rcases (show k = 1 ∨ k = 2 ∨ k = 3 ∨ k = 4 ∨ k = 5 ∨ k = 6 ∨ k = 7 ∨ k = 8 ∨ k = 9 by omega) with z | z | z | z | z | z | z | z | z <;> rw [z] <;> decide
  have g := hB.1.2 k k1 (by omega)
  have g1 : gFR M1 sb 0 (k + 2) = some (sb + k) := gFR_e hB.1.1 g.1
  have w : wI M1 (sb + k) (Int32.ofNat i) y = some (sI M1 (sb + k) i y) := wI_e g.2 hi (by omega)
  have F : Fq sb (sb + 12) M1 (sI M1 (sb + k) i y) := Fq.sI ⟨by omega, by omega⟩
  rw [h1.1.r9, bs, g1, bs, w, bs]
  have B2 := hB.cell (i := i) k1 y
  exact hK _ (C1.trans (Cq.of F (by omega) (by omega))) (h1.sps F B2.1) ⟨_, B2, tl_up p q k2⟩
/-- the reference's: its own cell, and back -/
theorem q_with {α : Type} (h : IsM M m D) {k off i : Nat} (hk : (k = 2 ∧ off = 4) ∨ (k = 4 ∧ off = 8) ∨ (k = 6 ∧ off = 20) ∨ (k = 7 ∧ off = 44) ∨ (k = 8 ∧ off = 68) ∨ (k = 9 ∧ off = 0)) (hi : i < bsz D k) (hL : mI M m 37 = 12) {y c : Int32} (hc : c = Int32.ofNat (off + i)) (hb : off + i < 92) (hG : Gd (tl (up D k i y))) {K : Int32 → Mem → Option α} {P : α → Prop} (hK : ∀ M', Mq m M M' → ok (K (SS (tl (up D k i y)) 0) M') P) : ok (gFR M m 9 0 >>= fun (r1 : Nat) => aI M r1 c >>= fun (x2 : Int32) => gFR M m 9 0 >>= fun (r3 : Nat) => wI M r3 c y >>= fun (M4 : Mem) => ck M4 m 9 >>= fun _ => f_X9_equal M4 m >>= fun (o5 : Mem) => gFR o5 m 9 0 >>= fun (r6 : Nat) => wI o5 r6 c x2 >>= fun (M7 : Mem) => gFI M7 m 9 30 >>= fun (x8 : Int32) => K x8 M7) P := by
  subst hc
  have h1 : IsM (sI M (m + 1) (off + i) y) m (tl (up D k i y)) := isM_tl (isM_cell h hk hi y)
  rw [h.s.r0, bs, h.s.a0 hb, bs, bs, h.s.w0 hb, bs, h1.s.c, bs]
  refine ok.seq (m_equal h1 hG (Tl_tl _) (by rw [i_sI, if_neg (by omega)]; exact hL)) ?_
  rintro M2 ⟨F2, E2⟩
  have h2 := h1.mg F2
  rw [h2.s.r0, bs, h2.s.w0 hb, bs]
  have s3 : IsMo (sI M2 (m + 1) (off + i) (mI M (m + 1) (off + i))) m := h2.s.e rfl rfl
  have e30 : mI (sI M2 (m + 1) (off + i) (mI M (m + 1) (off + i))) m 30 = SS (tl (up D k i y)) 0 := by
    rw [i_sI, if_neg (by omega), SS_0]
    exact E2.2.2.2.1.2.2.2.2
  rw [s3.gi, bs, e30]
  refine hK _ ⟨F2.1, F2.2.2.1, F2.2.2.2.1, fun a _ => ?_, fun a z1 z2 => ?_, fun j z1 z2 z3 z4 => ?_⟩
  · exact congrFun F2.2.1 a
  · funext j
    rw [i_sI]
    by_cases w : a = m + 1 ∧ j = off + i
    · rw [if_pos w, w.1, w.2]
    · rw [if_neg w, F2.row z1 (by omega), i_sI, if_neg w]
  · rw [i_sI, if_neg (by omega), F2.fld ⟨z1, z2, z3, z4⟩, i_sI, if_neg (by omega)]
noncomputable def fwb (D : Bl) (i : Nat) (y : Int32) : Int32 := if 0 ≤ y ∧ y ≤ 100000 then SS (tl (up D 2 i y)) 0 else -2
theorem r100 {y : Int32} (h : 0 ≤ y ∧ y ≤ 100000) : 0 ≤ y.toInt ∧ y.toInt ≤ 100000 := by
  rw [le_i, le_i] at h; exact h
theorem r101 {y : Int32} (h : 1 ≤ y ∧ y ≤ 100000) : 1 ≤ y.toInt ∧ y.toInt ≤ 100000 := by
  rw [le_i, le_i] at h; exact h
theorem okc2 {i : Nat} {y : Int32} (h : 0 ≤ y ∧ y ≤ 100000) : okc D 2 i y := ⟨fun _ => r100 h, fun z => absurd z (by decide), fun z => absurd z (by decide), fun z => absurd z (by decide), fun z => absurd z (by decide)⟩
theorem okc4 {i : Nat} {y : Int32} (h : 1 ≤ y ∧ y ≤ 100000) : okc D 4 i y := ⟨fun z => absurd z (by decide), fun _ => r101 h, fun z => absurd z (by decide), fun z => absurd z (by decide), fun z => absurd z (by decide)⟩
theorem okc8 {i : Nat} {y : Int32} : okc D 8 i y := ⟨fun z => absurd z (by decide), fun z => absurd z (by decide), fun z => absurd z (by decide), fun z => absurd z (by decide), fun z => absurd z (by decide)⟩
theorem c_fundedWithBudget (h : CQ M x bb sb D) (hG : Gd D) (a y : Int32) : ok (f_X8_fundedWithBudget M x a y) (ThrC x bb sb D M (inx a (cn D 0)) (fwb D (ix a) y)) := by
  have l0 := h.2.1.n.2.1
  unfold f_X8_fundedWithBudget fwb
  simp only [h.1.r8, bs, h.2.1.g0]
  by_cases c : inx a (cn D 0)
  · obtain ⟨k, hk, rfl⟩ := ix_of (by omega) c
    rw [thB_p (by rw [f_ckx, if_pos c])]
    by_cases c1 : y < 0
    · rw [if_pos c1, if_neg (fun z => by have z1 := z.1; rw [lt_i] at c1; rw [le_i] at z1; omega)]
      exact ok.pure ⟨fun _ => ⟨rfl, Cq.rf, h⟩, fun z => absurd c z⟩
    · rw [if_neg c1]
      by_cases c2 : y ≤ 100000
      · have cc : 0 ≤ y ∧ y ≤ 100000 := ⟨by rw [lt_i] at c1; rw [le_i]; omega, c2⟩
        rw [if_pos c2, if_pos cc, h.1.r9, bs, h.1.r8, bs, h.2.2.1.c, bs]
        refine c_cellw h 2 (by omega) (by omega) (show k < 4 by omega) y fun M1 C1 h1 ⟨D1, B1, e1⟩ => ?_
        have G1 : Gd (tl D1) := by rw [e1]; exact gd_up hG (by omega) (okc2 cc)
        rw [h1.1.c, bs]
        refine ok.seq (c_if h1 B1 G1) ?_
        rintro ⟨o, M2⟩ ⟨q, C2, h2⟩
        refine ok.pure ⟨fun _ => ⟨?_, C1.trans C2, h2⟩, fun z => absurd c z⟩
        dsimp only at q ⊢
        rw [q, e1, ix_o (by omega)]
      · rw [if_neg c2, if_neg (fun z => c2 z.2)]
        exact ok.pure ⟨fun _ => ⟨rfl, Cq.rf, h⟩, fun z => absurd c z⟩
  · rw [thB_n (by rw [f_ckx, if_neg c])]
    exact ok.pure ⟨fun z => absurd z c, fun _ => rfl⟩
theorem q_fundedWithBudget (h : IsM M m D) (hG : Gd D) (hL : mI M m 37 = 12) (a y : Int32) : ok (f_X9_fundedWithBudget M m a y) (ThrM m M (inx a (cn D 0)) (fwb D (ix a) y)) := by
  have lm := h.n.2.1
  unfold f_X9_fundedWithBudget fwb
  simp only [h.s.c, bs, m_isD h, m_fails h.s, b2i_ite]
  by_cases c : inx a (cn D 0)
  · obtain ⟨k, hk, rfl⟩ := ix_of (by omega) c
    have h1 : IsM (sI M m 4 0) m D := h.sIo (by omega) _
    rw [fYb c, if_neg (fY c), m_inR, bs, b2i_ite]
    by_cases cc : 0 ≤ y ∧ y ≤ 100000
    · rw [decide_eq_true cc, if_pos rfl, if_pos cc, h1.s.c, bs]
      refine ok.bind ?_
      unfold f_X9_fundedWith
      refine ok.bind (q_with h1 (k := 2) (off := 4) (i := k) (by omega) hk (L4 hL 0) (ad4 k) (by omega) (gd_up hG (by omega) (okc2 cc)) fun M1 F1 => ?_)
      exact ok.pure (ok.pure (ok.pure ⟨fun _ => ⟨by rw [ix_o (by omega)], F1⟩, fun z => absurd c z⟩))
    · rw [decide_eq_false cc, if_neg (by decide), if_neg cc]
      exact ok.pure ⟨fun _ => ⟨rfl, Mq.rf⟩, fun z => absurd c z⟩
  · rw [fNb c, if_pos (fN c)]
    exact ok.pure ⟨fun z => absurd z c, fun _ => rfl⟩
noncomputable def fwc (D : Bl) (i : Nat) (y : Int32) : Int32 := if 1 ≤ y ∧ y ≤ 100000 then SS (tl (up D 4 i y)) 0 else -2
theorem c_fundedWithCost (h : CQ M x bb sb D) (hG : Gd D) (a y : Int32) : ok (f_X8_fundedWithCost M x a y) (ThrC x bb sb D M (inx a (cn D 1)) (fwc D (ix a) y)) := by
  have l0 := h.2.1.n.2.2.1
  unfold f_X8_fundedWithCost fwc
  simp only [h.1.r8, bs, h.2.1.g1]
  by_cases c : inx a (cn D 1)
  · obtain ⟨k, hk, rfl⟩ := ix_of (by omega) c
    rw [thB_p (by rw [f_ckx, if_pos c])]
    by_cases c1 : y < 1
    · rw [if_pos c1, if_neg (fun z => by have z1 := z.1; rw [lt_i] at c1; rw [le_i] at z1; omega)]
      exact ok.pure ⟨fun _ => ⟨rfl, Cq.rf, h⟩, fun z => absurd c z⟩
    · rw [if_neg c1]
      by_cases c2 : y ≤ 100000
      · have cc : 1 ≤ y ∧ y ≤ 100000 := ⟨by rw [lt_i] at c1; rw [le_i]; omega, c2⟩
        rw [if_pos c2, if_pos cc, h.1.r9, bs, h.1.r8, bs, h.2.2.1.c, bs]
        refine c_cellw h 4 (by omega) (by omega) (show k < 12 by omega) y fun M1 C1 h1 ⟨D1, B1, e1⟩ => ?_
        have G1 : Gd (tl D1) := by rw [e1]; exact gd_up hG (by omega) (okc4 cc)
        rw [h1.1.c, bs]
        refine ok.seq (c_if h1 B1 G1) ?_
        rintro ⟨o, M2⟩ ⟨q, C2, h2⟩
        refine ok.pure ⟨fun _ => ⟨?_, C1.trans C2, h2⟩, fun z => absurd c z⟩
        dsimp only at q ⊢
        rw [q, e1, ix_o (by omega)]
      · rw [if_neg c2, if_neg (fun z => c2 z.2)]
        exact ok.pure ⟨fun _ => ⟨rfl, Cq.rf, h⟩, fun z => absurd c z⟩
  · rw [thB_n (by rw [f_ckx, if_neg c])]
    exact ok.pure ⟨fun z => absurd z c, fun _ => rfl⟩
theorem q_fundedWithCost (h : IsM M m D) (hG : Gd D) (hL : mI M m 37 = 12) (a y : Int32) : ok (f_X9_fundedWithCost M m a y) (ThrM m M (inx a (cn D 1)) (fwc D (ix a) y)) := by
  have lm := h.n.2.2.1
  unfold f_X9_fundedWithCost fwc
  simp only [h.s.c, bs, m_isP h, m_fails h.s, b2i_ite]
  by_cases c : inx a (cn D 1)
  · obtain ⟨k, hk, rfl⟩ := ix_of (by omega) c
    have h1 : IsM (sI M m 4 0) m D := h.sIo (by omega) _
    rw [fYb c, if_neg (fY c), m_inR, bs, b2i_ite]
    by_cases cc : 1 ≤ y ∧ y ≤ 100000
    · rw [decide_eq_true cc, if_pos rfl, if_pos cc, h1.s.c, bs]
      refine ok.bind ?_
      unfold f_X9_fundedWith
      refine ok.bind (q_with h1 (k := 4) (off := 8) (i := k) (by omega) hk (L4 hL 0) (ad8 k) (by omega) (gd_up hG (by omega) (okc4 cc)) fun M1 F1 => ?_)
      exact ok.pure (ok.pure (ok.pure ⟨fun _ => ⟨by rw [ix_o (by omega)], F1⟩, fun z => absurd c z⟩))
    · rw [decide_eq_false cc, if_neg (by decide), if_neg cc]
      exact ok.pure ⟨fun _ => ⟨rfl, Mq.rf⟩, fun z => absurd c z⟩
  · rw [fNb c, if_pos (fN c)]
    exact ok.pure ⟨fun z => absurd z c, fun _ => rfl⟩
theorem c_changedWithout (h : CQ M x bb sb D) (hG : Gd D) (hT : Tl D) (a : Int32) : ok (f_X8_changedWithout M x a) (ThrC x bb sb D M (inx a (cn D 2)) (SS D 0 ^^^ SS (tl (up D 8 (ix a) 0)) 0)) := by
  have l0 := h.2.1.n.2.2.2
  unfold f_X8_changedWithout
  simp only [h.1.r8, bs, h.2.1.g2]
  by_cases c : inx a (cn D 2)
  · obtain ⟨k, hk, rfl⟩ := ix_of (by omega) c
    rw [thB_p (by rw [f_ckx, if_pos c])]
    rw [h.1.r9, bs, h.1.r8, bs, h.2.2.1.c, bs]
    refine c_cellw h 8 (by omega) (by omega) (show k < 24 by omega) 0 fun M1 C1 h1 ⟨D1, B1, e1⟩ => ?_
    have G1 : Gd (tl D1) := by rw [e1]; exact gd_up hG (by omega) okc8
    rw [h1.1.c, bs]
    refine ok.seq (c_eq0 h1 hG hT B1) ?_
    rintro ⟨o, M2⟩ ⟨q, C2, h2, B2⟩
    dsimp only at q C2 h2 B2 ⊢
    rw [h2.1.c, bs]
    refine ok.seq (c_if h2 B2 G1) ?_
    rintro ⟨o3, M3⟩ ⟨q3, C3, h3⟩
    refine ok.pure ⟨fun _ => ⟨?_, C1.trans (C2.trans C3), h3⟩, fun z => absurd c z⟩
    dsimp only at q3 ⊢
    rw [q, q3, e1, ix_o (by omega)]
  · rw [thB_n (by rw [f_ckx, if_neg c])]
    exact ok.pure ⟨fun z => absurd z c, fun _ => rfl⟩
theorem q_changedWithout (h : IsM M m D) (hG : Gd D) (hT : Tl D) (hL : mI M m 37 = 12) (a : Int32) : ok (f_X9_changedWithout M m a) (ThrM m M (inx a (cn D 2)) (SS D 0 ^^^ SS (tl (up D 8 (ix a) 0)) 0)) := by
  have lm := h.n.2.2.2
  unfold f_X9_changedWithout
  simp only [h.s.c, bs, m_isV h, m_fails h.s, b2i_ite]
  by_cases c : inx a (cn D 2)
  · obtain ⟨k, hk, rfl⟩ := ix_of (by omega) c
    have h1 : IsM (sI M m 4 0) m D := h.sIo (by omega) _
    rw [fYb c, if_neg (fY c), h1.s.c, bs]
    refine ok.seq (m_equal h1 hG hT (L4 hL 0)) ?_
    rintro M1 ⟨F1, E1⟩
    have h2 := h1.mg F1
    have e30 : mI M1 m 30 = SS D 0 := by rw [SS_0]; exact E1.2.2.2.1.2.2.2.2
    rw [h2.s.gi, bs, e30]
    refine q_with h2 (k := 8) (off := 68) (i := k) (by omega) hk (by rw [F1.fld (by omega)]; exact L4 hL 0) (ad68 k) (by omega) (gd_up hG (by omega) okc8) fun M2 F2 => ?_
    exact ok.pure ⟨fun _ => ⟨by rw [ix_o (by omega)], F1.q.trans F2⟩, fun z => absurd c z⟩
  · rw [fNb c, if_pos (fN c)]
    exact ok.pure ⟨fun z => absurd z c, fun _ => rfl⟩
end
