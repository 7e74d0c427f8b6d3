/-! ===== changes: budgets, costs, weights, memberships, approvals, settings ===== -/
section
variable {M M' M1 M2 : Mem} {x m bb sb : Nat} {D D' : Bl} {hy : Hy}
def chg (D : Bl) (hy : Hy) (k i : Nat) (y : Int32) : Bl × Hy := (tl (up D (krow k) i y), hpush (hdrop hy) (tl (up D (krow k) i y)) k i)
def Gs (D : Bl) (hy : Hy) : Prop := Gd D ∧ Tl D ∧ Hv D hy ∧ Aps hy
theorem gs_chg (h : Gs D hy) {k i : Nat} (hk : k < 6) (hi : i < bsz D (krow k)) {y : Int32} (hy_ : okc D (krow k) i y) (h8 : krow k = 8 → 0 ≤ y.toInt) : Gs (chg D hy k i y).1 (chg D hy k i y).2 := by
  obtain ⟨a, b, c, d⟩ := h
  have kr := krow_in hk
  have l1 := c.1
  have dl := hdrop_le l1
  have dd := hdrop_D c.2.1
  have da : ∀ j, j ≤ (hdrop hy).1 → ∀ v, v < cn ((hdrop hy).2.1 j) 2 → 0 ≤ ((hdrop hy).2.1 j 8 v).toInt := by
    unfold hdrop
    split
    · rename_i e
      intro j hj
      have hj' : j ≤ 9 := hj
      exact d (j + 1) (by omega)
    · exact d
  refine ⟨gd_up a (by omega) hy_, Tl_tl _, Hv_push a b c hk hi, fun j hj v hv => ?_⟩
  have hj' : j ≤ (hdrop hy).1 + 1 := hj
  by_cases e : j = (hdrop hy).1 + 1
  · have z : (chg D hy k i y).2.2.1 j = tl (up D (krow k) i y) := if_pos e
    rw [z] at hv ⊢
    have hv' : v < cn D 2 := by
      rw [cn_tl, cn_up (by omega)] at hv
      exact hv
    show 0 ≤ (up D (krow k) i y 8 v).toInt
    unfold up
    by_cases w : 8 = krow k ∧ v = i
    · rw [if_pos w]; exact h8 w.1.symm
    · rw [if_neg w]
      have := da (hdrop hy).1 (Nat.le_refl _) v (by rw [dd]; exact hv')
      rw [dd] at this
      exact this
  · have z : (chg D hy k i y).2.2.1 j = (hdrop hy).2.1 j := if_neg e
    rw [z] at hv ⊢
    exact da j (by omega) v hv
theorem gs_pop (h : Gs D hy) (e : hy.1 ≠ 0) : Gs (hy.2.1 (hy.1 - 1)) (hpop hy) := by
  obtain ⟨a, b, c, d⟩ := h
  obtain ⟨v1, v2, v3⟩ := id c
  have z := v3 (hy.1 - 1) (by omega)
  refine ⟨z.1, ?_, Hv_pop c e, fun j hj => d j ?_⟩
  · rw [z.2.2.2]; exact Tl_tl _
  · have : j ≤ hy.1 - 1 := hj
    omega
def ChgC (x bb sb : Nat) (M : Mem) (r : Int32 × Bl × Hy) (o : Int32 × Mem) : Prop := o.1 = r.1 ∧ Ch x M o.2 ∧ CQ o.2 x bb sb r.2.1 ∧ HX o.2 (x + 4) r.2.2
def ChgM (m : Nat) (M : Mem) (r : Int32 × Bl × Hy) (o : Int32 × Mem) : Prop := o.1 = r.1 ∧ Mc m (sI M m 4 0) o.2 ∧ IsM o.2 m r.2.1 ∧ DH o.2 m r.2.2
theorem Mc.rf : Mc m M M := ⟨rfl, rfl, rfl, rfl, fun _ _ _ _ _ => rfl⟩
theorem DH.s4 (h : DH M m hy) (y : Int32) : DH (sI M m 4 y) m hy := ⟨by rw [i_sI, if_neg (by omega)]; exact h.1, fun j hj => (h.2 j hj).c (fun u => by rw [i_sI, if_neg (by omega)])⟩
theorem c_set (h : CQ M x bb sb D) (hH : HX M (x + 4) hy) (hg : Gs D hy) {k i : Nat} (hk : k < 6) (hi : i < bsz D (krow k)) (y : Int32) : ok (f_X8_change M x (Int32.ofNat k) (Int32.ofNat i) y) (ChgC x bb sb M (D (krow k) i, chg D hy k i y)) := c_change h hH hg.2.2.1.1 hg.2.2.1.2.1 hk hi y
theorem q_set (h : IsM M m D) (hH : DH M m hy) (hg : Gs D hy) {k off i : Nat} (hk : k < 6) (ho : (krow k = 2 ∧ off = 4) ∨ (krow k = 4 ∧ off = 8) ∨ (krow k = 6 ∧ off = 20) ∨ (krow k = 7 ∧ off = 44) ∨ (krow k = 8 ∧ off = 68) ∨ (krow k = 9 ∧ off = 0)) (hi : i < bsz D (krow k)) (hb : off + i < 92) {c : Int32} (hc : c = Int32.ofNat (off + i)) (hold : aI M (m + 1) c = some (D (krow k) i)) (y : Int32) : ok (f_X9_change M m c y) (fun o => o.1 = D (krow k) i ∧ Mc m M o.2 ∧ IsM o.2 m (chg D hy k i y).1 ∧ DH o.2 m (chg D hy k i y).2) := q_change h hH hg.2.2.1 hk ho hi hb hc hold y
/-- a number set within its range -/
def setN (D : Bl) (hy : Hy) (k n : Nat) (lo hi a y : Int32) : Int32 × Bl × Hy := if inx a n then (if lo ≤ y ∧ y ≤ hi then (D (krow k) (ix a), chg D hy k (ix a) y) else (-2, D, hy)) else (-1, D, hy)
theorem c_setBudget (h : CQ M x bb sb D) (hH : HX M (x + 4) hy) (hg : Gs D hy) (a y : Int32) : ok (f_X8_setBudget M x a y) (ChgC x bb sb M (setN D hy 0 (cn D 0) 0 100000 a y)) := by
  have l0 := h.2.1.n.2.1
  unfold f_X8_setBudget setN
  simp only [h.1.r8, bs, h.2.1.g0, isIx_in, b2i_ite]
  by_cases c : inx a (cn D 0)
  · obtain ⟨k, hk, rfl⟩ := ix_of (by omega) c
    rw [decide_eq_true c, if_pos rfl, if_pos c]
    by_cases c1 : y < 0
    · rw [if_pos c1, if_neg (fun z => by have z1 := z.1; rw [lt_i] at c1; rw [le_i] at z1; omega)]
      exact ok.pure ⟨rfl, Ch.rf, h, hH⟩
    · rw [if_neg c1]
      by_cases c2 : y ≤ 100000
      · rw [if_pos c2, if_pos ⟨by rw [lt_i] at c1; rw [le_i]; omega, c2⟩, h.1.c, bs, ix_o (by omega)]
        refine ok.seq (c_set h hH hg (k := 0) (by omega) hk y) ?_
        exact fun o q => ok.pure q
      · rw [if_neg c2, if_neg (fun z => c2 z.2)]
        exact ok.pure ⟨rfl, Ch.rf, h, hH⟩
  · rw [decide_eq_false c, if_neg (by decide), if_neg c]
    exact ok.pure ⟨rfl, Ch.rf, h, hH⟩
theorem c_setCost (h : CQ M x bb sb D) (hH : HX M (x + 4) hy) (hg : Gs D hy) (a y : Int32) : ok (f_X8_setCost M x a y) (ChgC x bb sb M (setN D hy 1 (cn D 1) 1 100000 a y)) := by
  have l0 := h.2.1.n.2.2.1
  unfold f_X8_setCost setN
  simp only [h.1.r8, bs, h.2.1.g1, isIx_in, b2i_ite]
  by_cases c : inx a (cn D 1)
  · obtain ⟨k, hk, rfl⟩ := ix_of (by omega) c
    rw [decide_eq_true c, if_pos rfl, if_pos c]
    by_cases c1 : y < 1
    · rw [if_pos c1, if_neg (fun z => by have z1 := z.1; rw [lt_i] at c1; rw [le_i] at z1; omega)]
      exact ok.pure ⟨rfl, Ch.rf, h, hH⟩
    · rw [if_neg c1]
      by_cases c2 : y ≤ 100000
      · rw [if_pos c2, if_pos ⟨by rw [lt_i] at c1; rw [le_i]; omega, c2⟩, h.1.c, bs, ix_o (by omega)]
        refine ok.seq (c_set h hH hg (k := 1) (by omega) hk y) ?_
        exact fun o q => ok.pure q
      · rw [if_neg c2, if_neg (fun z => c2 z.2)]
        exact ok.pure ⟨rfl, Ch.rf, h, hH⟩
  · rw [decide_eq_false c, if_neg (by decide), if_neg c]
    exact ok.pure ⟨rfl, Ch.rf, h, hH⟩
theorem c_setWeight (h : CQ M x bb sb D) (hH : HX M (x + 4) hy) (hg : Gs D hy) (a y : Int32) : ok (f_X8_setWeight M x a y) (ChgC x bb sb M (setN D hy 2 (cn D 2) 1 9 a y)) := by
  have l0 := h.2.1.n.2.2.2
  unfold f_X8_setWeight setN
  simp only [h.1.r8, bs, h.2.1.g2, isIx_in, b2i_ite]
  by_cases c : inx a (cn D 2)
  · obtain ⟨k, hk, rfl⟩ := ix_of (by omega) c
    rw [decide_eq_true c, if_pos rfl, if_pos c]
    by_cases c1 : y < 1
    · rw [if_pos c1, if_neg (fun z => by have z1 := z.1; rw [lt_i] at c1; rw [le_i] at z1; omega)]
      exact ok.pure ⟨rfl, Ch.rf, h, hH⟩
    · rw [if_neg c1]
      by_cases c2 : y ≤ 9
      · rw [if_pos c2, if_pos ⟨by rw [lt_i] at c1; rw [le_i]; omega, c2⟩, h.1.c, bs, ix_o (by omega)]
        refine ok.seq (c_set h hH hg (k := 2) (by omega) hk y) ?_
        exact fun o q => ok.pure q
      · rw [if_neg c2, if_neg (fun z => c2 z.2)]
        exact ok.pure ⟨rfl, Ch.rf, h, hH⟩
  · rw [decide_eq_false c, if_neg (by decide), if_neg c]
    exact ok.pure ⟨rfl, Ch.rf, h, hH⟩
theorem q_setBudget (h : IsM M m D) (hH : DH M m hy) (hg : Gs D hy) (a y : Int32) : ok (f_X9_setBudget M m a y) (ChgM m M (setN D hy 0 (cn D 0) 0 100000 a y)) := by
  have l0 := h.n.2.1
  have h1 : IsM (sI M m 4 0) m D := h.sIo (by omega) _
  have H1 := hH.s4 0
  unfold f_X9_setBudget setN
  rw [h.s.p, bs, h1.s.c, bs, m_isD h1, bs, b2i_ite]
  by_cases c : inx a (cn D 0)
  · obtain ⟨k, hk, rfl⟩ := ix_of (by omega) c
    rw [decide_eq_true c, if_pos rfl, if_pos c, m_inR, bs, b2i_ite]
    by_cases cc : 0 ≤ y ∧ y ≤ 100000
    · rw [decide_eq_true cc, if_pos rfl, if_pos cc, ix_o (by omega), bs]
      refine ok.bind (ok.seq (q_set h1 H1 hg (k := 0) (off := 4) (by omega) (Or.inl ⟨rfl, rfl⟩) hk (by omega) (ad4 k) (h1.d2 hk) y) ?_)
      exact fun o q => ok.pure (ok.pure q)
    · rw [decide_eq_false cc, if_neg (by decide), if_neg cc]
      exact ok.pure ⟨rfl, Mc.rf, h1, H1⟩
  · rw [decide_eq_false c, if_neg (by decide), if_neg c]
    exact ok.pure ⟨rfl, Mc.rf, h1, H1⟩
theorem q_setCost (h : IsM M m D) (hH : DH M m hy) (hg : Gs D hy) (a y : Int32) : ok (f_X9_setCost M m a y) (ChgM m M (setN D hy 1 (cn D 1) 1 100000 a y)) := by
  have l0 := h.n.2.2.1
  have h1 : IsM (sI M m 4 0) m D := h.sIo (by omega) _
  have H1 := hH.s4 0
  unfold f_X9_setCost setN
  rw [h.s.p, bs, h1.s.c, bs, m_isP h1, bs, b2i_ite]
  by_cases c : inx a (cn D 1)
  · obtain ⟨k, hk, rfl⟩ := ix_of (by omega) c
    rw [decide_eq_true c, if_pos rfl, if_pos c, m_inR, bs, b2i_ite]
    by_cases cc : 1 ≤ y ∧ y ≤ 100000
    · rw [decide_eq_true cc, if_pos rfl, if_pos cc, ix_o (by omega), bs]
      refine ok.bind (ok.seq (q_set h1 H1 hg (k := 1) (off := 8) (by omega) (Or.inr (Or.inl ⟨rfl, rfl⟩)) hk (by omega) (ad8 k) (h1.d4 hk) y) ?_)
      exact fun o q => ok.pure (ok.pure q)
    · rw [decide_eq_false cc, if_neg (by decide), if_neg cc]
      exact ok.pure ⟨rfl, Mc.rf, h1, H1⟩
  · rw [decide_eq_false c, if_neg (by decide), if_neg c]
    exact ok.pure ⟨rfl, Mc.rf, h1, H1⟩
theorem q_setWeight (h : IsM M m D) (hH : DH M m hy) (hg : Gs D hy) (a y : Int32) : ok (f_X9_setWeight M m a y) (ChgM m M (setN D hy 2 (cn D 2) 1 9 a y)) := by
  have l0 := h.n.2.2.2
  have h1 : IsM (sI M m 4 0) m D := h.sIo (by omega) _
  have H1 := hH.s4 0
  unfold f_X9_setWeight setN
  rw [h.s.p, bs, h1.s.c, bs, m_isV h1, bs, b2i_ite]
  by_cases c : inx a (cn D 2)
  · obtain ⟨k, hk, rfl⟩ := ix_of (by omega) c
    rw [decide_eq_true c, if_pos rfl, if_pos c, m_inR, bs, b2i_ite]
    by_cases cc : 1 ≤ y ∧ y ≤ 9
    · rw [decide_eq_true cc, if_pos rfl, if_pos cc, ix_o (by omega), bs]
      refine ok.bind (ok.seq (q_set h1 H1 hg (k := 2) (off := 20) (by omega) (Or.inr (Or.inr (Or.inl ⟨rfl, rfl⟩))) hk (by omega) (ad20 k) (h1.d6 hk) y) ?_)
      exact fun o q => ok.pure (ok.pure q)
    · rw [decide_eq_false cc, if_neg (by decide), if_neg cc]
      exact ok.pure ⟨rfl, Mc.rf, h1, H1⟩
  · rw [decide_eq_false c, if_neg (by decide), if_neg c]
    exact ok.pure ⟨rfl, Mc.rf, h1, H1⟩
end
