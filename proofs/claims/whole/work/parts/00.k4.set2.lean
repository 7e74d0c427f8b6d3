/-! ===== changes: sets, settings, the last one taken back ===== -/
section
variable {M M' M1 M2 : Mem} {x m bb sb : Nat} {D D' : Bl} {hy : Hy}
/-- a member in or out -/
def wth (s : Int32) (p : Nat) (b : Int32) : Int32 := if b = 0 then s &&& (bt p ^^^ (-1)) else s ||| bt p
theorem f_with8 (M : Mem) (s : Int32) (p : Nat) (b : Int32) : f_X8_with M s (Int32.ofNat p) b = some (wth s p b) := by
  unfold f_X8_with wth
  rw [is_, bs]
  rfl
theorem f_with9 (M : Mem) (s : Int32) (p : Nat) (b : Int32) : f_X9_with M s (Int32.ofNat p) b = some (wth s p b) := by
  unfold f_X9_with wth
  rw [is_, bs]
  rfl
theorem wth_hs {s b : Int32} {p i : Nat} (hp : p < 32) (hi : i < 32) (h : hs s (Int32.ofNat i) = false) (hne : i ≠ p) : hs (wth s p b) (Int32.ofNat i) = false := by
  unfold wth
  split
  · rw [hs_rm hp hi, h]; rfl
  · rw [hs_ad hp hi, h, decide_eq_false hne]; rfl
theorem nn31 (y : Int32) : 0 ≤ y.toInt ↔ hs y (Int32.ofNat 31) = false := by
  rw [hs_bi (by omega)]
  unfold bi
  have e := BitVec.msb_eq_toInt (x := y.toBitVec)
  rw [BitVec.msb_eq_getLsbD_last] at e
  have e2 : y.toBitVec.getLsbD 31 = decide (y.toBitVec.toInt < 0) := e
  rw [e2, decide_eq_false_iff_not]
  exact Int.not_lt.symm
def setM (D : Bl) (hy : Hy) (a d b : Int32) : Int32 × Bl × Hy := if inx a (cn D 2) then (if inx d (cn D 0) then (wth (D 7 (ix a)) (ix d) b, chg D hy 3 (ix a) (wth (D 7 (ix a)) (ix d) b)) else (-1, D, hy)) else (-1, D, hy)
def setA (D : Bl) (hy : Hy) (a d b : Int32) : Int32 × Bl × Hy := if inx a (cn D 2) then (if inx d (cn D 1) then (vt (up D 8 (ix a) (wth (D 8 (ix a)) (ix d) b)) (ix d), chg D hy 4 (ix a) (wth (D 8 (ix a)) (ix d) b)) else (-1, D, hy)) else (-1, D, hy)
theorem c_setMember (h : CQ M x bb sb D) (hH : HX M (x + 4) hy) (hg : Gs D hy) (a d b : Int32) : ok (f_X8_setMember M x a d b) (ChgC x bb sb M (setM D hy a d b)) := by
  have l0 := h.2.1.n.2.1
  have l2 := h.2.1.n.2.2.2
  unfold f_X8_setMember setM
  rw [h.1.r8, bs, h.2.1.g2, bs, isIx_in, bs, b2i_ite]
  by_cases c : inx a (cn D 2)
  · obtain ⟨k, hk, rfl⟩ := ix_of (by omega) c
    rw [decide_eq_true c, if_pos rfl, if_pos c, bs, h.2.1.g0, bs, isIx_in, bs, b2i_ite]
    by_cases c2 : inx d (cn D 0)
    · obtain ⟨q, hq, rfl⟩ := ix_of (by omega) c2
      rw [decide_eq_true c2, if_pos rfl, if_pos c2, bs, h.2.1.s.r7, bs, h.2.1.a7 hk, bs, f_with8, bs, h.1.c, bs, ix_o (by omega), ix_o (by omega)]
      refine ok.seq (c_set h hH hg (k := 3) (by omega) hk (wth (D 7 k) q b)) ?_
      rintro ⟨o, M1⟩ ⟨z, C1, h1, H1⟩
      dsimp only at z C1 h1 H1 ⊢
      have cc : cn (chg D hy 3 k (wth (D 7 k) q b)).1 2 = cn D 2 := (cn_tl _ 2).trans (cn_up (by decide) 2)
      have a7 := h1.2.1.a7 (i := k) (by rw [cc]; exact hk)
      have e7 : (chg D hy 3 k (wth (D 7 k) q b)).1 7 k = wth (D 7 k) q b := up_at
      rw [e7] at a7
      rw [h1.1.r8, bs, h1.2.1.s.r7, bs, a7, bs]
      exact ok.pure ⟨rfl, C1, h1, H1⟩
    · rw [decide_eq_false c2, if_neg (by decide), if_neg c2]
      exact ok.pure ⟨rfl, Ch.rf, h, hH⟩
  · rw [decide_eq_false c, if_neg (by decide), if_neg c]
    exact ok.pure ⟨rfl, Ch.rf, h, hH⟩
theorem q_setMember (h : IsM M m D) (hH : DH M m hy) (hg : Gs D hy) (a d b : Int32) : ok (f_X9_setMember M m a d b) (ChgM m M (setM D hy a d b)) := by
  have l0 := h.n.2.1
  have l2 := h.n.2.2.2
  have h1 : IsM (sI M m 4 0) m D := h.sIo (by omega) _
  have H1 := hH.s4 0
  unfold f_X9_setMember setM
  rw [h.s.p, bs, h1.s.c, bs, m_isV h1, bs, b2i_ite]
  by_cases c : inx a (cn D 2)
  · obtain ⟨k, hk, rfl⟩ := ix_of (by omega) c
    rw [decide_eq_true c, if_pos rfl, if_pos c, bs, m_isD h1, bs, b2i_ite]
    by_cases c2 : inx d (cn D 0)
    · obtain ⟨q, hq, rfl⟩ := ix_of (by omega) c2
      rw [decide_eq_true c2, if_pos rfl, if_pos c2, h1.s.r0, bs, h1.d7 hk, bs, f_with9, bs, bs, ix_o (by omega), ix_o (by omega)]
      refine ok.seq (q_set h1 H1 hg (k := 3) (off := 44) (by omega) (Or.inr (Or.inr (Or.inr (Or.inl ⟨rfl, rfl⟩)))) hk (by omega) (ad44 k) (h1.d7 hk) (wth (D 7 k) q b)) ?_
      rintro ⟨o, M1⟩ ⟨z, C1, h2, H2⟩
      dsimp only at z C1 h2 H2 ⊢
      rw [z, f_with9, bs]
      exact ok.pure ⟨rfl, C1, h2, H2⟩
    · rw [decide_eq_false c2, if_neg (by decide), if_neg c2]
      exact ok.pure ⟨rfl, Mc.rf, h1, H1⟩
  · rw [decide_eq_false c, if_neg (by decide), if_neg c]
    exact ok.pure ⟨rfl, Mc.rf, h1, H1⟩
theorem c_setApproval (h : CQ M x bb sb D) (hH : HX M (x + 4) hy) (hg : Gs D hy) (a d b : Int32) : ok (f_X8_setApproval M x a d b) (ChgC x bb sb M (setA D hy a d b)) := by
  have l1 := h.2.1.n.2.2.1
  have l2 := h.2.1.n.2.2.2
  unfold f_X8_setApproval setA
  rw [h.1.r8, bs, h.2.1.g2, bs, isIx_in, bs, b2i_ite]
  by_cases c : inx a (cn D 2)
  · obtain ⟨k, hk, rfl⟩ := ix_of (by omega) c
    rw [decide_eq_true c, if_pos rfl, if_pos c, bs, h.2.1.g1, bs, isIx_in, bs, b2i_ite]
    by_cases c2 : inx d (cn D 1)
    · obtain ⟨q, hq, rfl⟩ := ix_of (by omega) c2
      rw [decide_eq_true c2, if_pos rfl, if_pos c2, bs, h.2.1.s.r8, bs, h.2.1.a8 hk, bs, f_with8, bs, h.1.c, bs, ix_o (by omega), ix_o (by omega)]
      refine ok.seq (c_set h hH hg (k := 4) (by omega) hk (wth (D 8 k) q b)) ?_
      rintro ⟨o, M1⟩ ⟨z, C1, h1, H1⟩
      dsimp only at z C1 h1 H1 ⊢
      have cc : cn (chg D hy 4 k (wth (D 8 k) q b)).1 1 = cn D 1 := (cn_tl _ 1).trans (cn_up (by decide) 1)
      have a11 := h1.2.1.a11 (i := q) (by rw [cc]; exact hq)
      rw [h1.1.r8, bs, h1.2.1.s.r11, bs, a11, bs]
      exact ok.pure ⟨rfl, C1, h1, H1⟩
    · rw [decide_eq_false c2, if_neg (by decide), if_neg c2]
      exact ok.pure ⟨rfl, Ch.rf, h, hH⟩
  · rw [decide_eq_false c, if_neg (by decide), if_neg c]
    exact ok.pure ⟨rfl, Ch.rf, h, hH⟩
theorem q_setApproval (h : IsM M m D) (hH : DH M m hy) (hg : Gs D hy) (a d b : Int32) : ok (f_X9_setApproval M m a d b) (ChgM m M (setA D hy a d b)) := by
  have l1 := h.n.2.2.1
  have l2 := h.n.2.2.2
  have h1 : IsM (sI M m 4 0) m D := h.sIo (by omega) _
  have H1 := hH.s4 0
  unfold f_X9_setApproval setA
  rw [h.s.p, bs, h1.s.c, bs, m_isV h1, bs, b2i_ite]
  by_cases c : inx a (cn D 2)
  · obtain ⟨k, hk, rfl⟩ := ix_of (by omega) c
    rw [decide_eq_true c, if_pos rfl, if_pos c, bs, m_isP h1, bs, b2i_ite]
    by_cases c2 : inx d (cn D 1)
    · obtain ⟨q, hq, rfl⟩ := ix_of (by omega) c2
      rw [decide_eq_true c2, if_pos rfl, if_pos c2, h1.s.r0, bs, h1.d8 hk, bs, f_with9, bs, bs, ix_o (by omega), ix_o (by omega)]
      refine ok.seq (q_set h1 H1 hg (k := 4) (off := 68) (by omega) (Or.inr (Or.inr (Or.inr (Or.inr (Or.inl ⟨rfl, rfl⟩))))) hk (by omega) (ad68 k) (h1.d8 hk) (wth (D 8 k) q b)) ?_
      rintro ⟨o, M1⟩ ⟨z, C1, h2, H2⟩
      dsimp only at z C1 h2 H2 ⊢
      have nn : (0 : Int32) ≤ o := by
        have := hg.2.2.2 hy.1 (Nat.le_refl _) k (by rw [hg.2.2.1.2.1]; exact hk)
        rw [hg.2.2.1.2.1] at this
        rw [z, le_i]; exact this
      have cc : cn (chg D hy 4 k (wth (D 8 k) q b)).1 1 = cn D 1 := (cn_tl _ 1).trans (cn_up (by decide) 1)
      rw [if_pos nn, h2.s.c, bs, m_vt h2 (by rw [cc]; exact hq), bs, bs]
      exact ok.pure ⟨rfl, C1, h2, H2⟩
    · rw [decide_eq_false c2, if_neg (by decide), if_neg c2]
      exact ok.pure ⟨rfl, Mc.rf, h1, H1⟩
  · rw [decide_eq_false c, if_neg (by decide), if_neg c]
    exact ok.pure ⟨rfl, Mc.rf, h1, H1⟩
theorem gs_setM (hg : Gs D hy) (a d b : Int32) : Gs (setM D hy a d b).2.1 (setM D hy a d b).2.2 := by
  have l0 := hg.1.n.2.1
  have l2 := hg.1.n.2.2.2
  unfold setM
  split
  · rename_i c
    obtain ⟨k, hk, rfl⟩ := ix_of (by omega) c
    split
    · rename_i c2
      obtain ⟨q, hq, rfl⟩ := ix_of (by omega) c2
      rw [ix_o (by omega), ix_o (by omega)]
      refine gs_chg hg (by omega) hk ⟨fun z => absurd z (by decide), fun z => absurd z (by decide), fun z => absurd z (by decide), fun _ e h1 h2 => ?_, fun z => absurd z (by decide)⟩ (fun z => absurd z (by decide))
      exact wth_hs (by omega) h2 ((hg.1.2.2.2.1 k hk).2 e h1 h2) (by omega)
    · exact hg
  · exact hg
theorem gs_setA (hg : Gs D hy) (a d b : Int32) : Gs (setA D hy a d b).2.1 (setA D hy a d b).2.2 := by
  have l1 := hg.1.n.2.2.1
  have l2 := hg.1.n.2.2.2
  unfold setA
  split
  · rename_i c
    obtain ⟨k, hk, rfl⟩ := ix_of (by omega) c
    split
    · rename_i c2
      obtain ⟨q, hq, rfl⟩ := ix_of (by omega) c2
      rw [ix_o (by omega), ix_o (by omega)]
      refine gs_chg hg (by omega) hk okc8 (fun _ => ?_)
      have := hg.2.2.2 hy.1 (Nat.le_refl _) k (by rw [hg.2.2.1.2.1]; exact hk)
      rw [hg.2.2.1.2.1, nn31] at this
      rw [nn31]
      exact wth_hs (by omega) (by omega) this (by omega)
    · exact hg
  · exact hg
theorem gs_setN0 (hg : Gs D hy) (a y : Int32) : Gs (setN D hy 0 (cn D 0) 0 100000 a y).2.1 (setN D hy 0 (cn D 0) 0 100000 a y).2.2 := by
  have l0 := hg.1.n.2.1
  unfold setN
  split
  · rename_i c
    obtain ⟨k, hk, rfl⟩ := ix_of (by omega) c
    split
    · rename_i c2
      rw [ix_o (by omega)]
      exact gs_chg hg (by omega) hk (okc2 c2) (fun z => absurd z (by decide))
    · exact hg
  · exact hg
theorem gs_setN1 (hg : Gs D hy) (a y : Int32) : Gs (setN D hy 1 (cn D 1) 1 100000 a y).2.1 (setN D hy 1 (cn D 1) 1 100000 a y).2.2 := by
  have l0 := hg.1.n.2.2.1
  unfold setN
  split
  · rename_i c
    obtain ⟨k, hk, rfl⟩ := ix_of (by omega) c
    split
    · rename_i c2
      rw [ix_o (by omega)]
      exact gs_chg hg (by omega) hk (okc4 c2) (fun z => absurd z (by decide))
    · exact hg
  · exact hg
theorem gs_setN2 (hg : Gs D hy) (a y : Int32) : Gs (setN D hy 2 (cn D 2) 1 9 a y).2.1 (setN D hy 2 (cn D 2) 1 9 a y).2.2 := by
  have l0 := hg.1.n.2.2.2
  unfold setN
  split
  · rename_i c
    obtain ⟨k, hk, rfl⟩ := ix_of (by omega) c
    split
    · rename_i c2
      rw [ix_o (by omega)]
      refine gs_chg hg (by omega) hk ⟨fun z => absurd z (by decide), fun z => absurd z (by decide), fun _ => ?_, fun z => absurd z (by decide), fun z => absurd z (by decide)⟩ (fun z => absurd z (by decide))
      rw [le_i, le_i] at c2
      exact c2
    · exact hg
  · exact hg
end
