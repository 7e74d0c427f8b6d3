/-! ===== questions of the rules ===== -/
section
variable {M M' : Mem} {x m bb sb : Nat} {D : Bl}
/-- a value of a rule -/
theorem c_rule {α : Type} (h : CQ M x bb sb D) (hG : Gd D) (hT : Tl D) {r : Int32} (hr : isR r) {K : Int32 × Mem → Option α} {P : α → Prop} (hK : ∀ M1, Cq x M M1 → CQ M1 x bb sb D → ok (K (SS D r, M1)) P) : ok (f_X8_chosenBy M x r >>= K) P := by
  refine ok.seq (f_chBy h hG hT hr) ?_
  rintro ⟨o, M1⟩ ⟨q, C1, h1⟩
  dsimp only at q
  rw [q]
  exact hK M1 C1 h1
theorem dR {r : Int32} (hr : isR r) : decide (isR r) = true := decide_eq_true hr
theorem dN {r : Int32} (hr : ¬ isR r) : ¬ decide (isR r) = true := by rw [decide_eq_false hr]; decide
noncomputable def fnd (D : Bl) (r : Int32) : Int32 := if isR r then SS D r else -2
theorem c_funded (h : CQ M x bb sb D) (hG : Gd D) (hT : Tl D) (r : Int32) : ok (f_X8_funded M x r) (RetC x bb sb D M (fnd D r)) := by
  unfold f_X8_funded fnd
  rw [f_isR, bs, b2i_ite]
  by_cases hr : isR r
  · rw [if_pos (dR hr), if_pos hr, h.1.c, bs]
    exact ok.bind (c_rule h hG hT hr fun M1 C1 h1 => ok.pure (ok.pure ⟨rfl, C1, h1⟩))
  · rw [if_neg (dN hr), if_neg hr]
    exact ok.pure ⟨rfl, Cq.rf, h⟩
theorem q_rule {α : Type} (h : IsM M m D) (hG : Gd D) (hT : Tl D) (hL : mI M m 37 = 12) {r : Int32} (hr : isR r) {K : Int32 × Mem → Option α} {P : α → Prop} (hK : ∀ M1, Mq m M M1 → IsM M1 m D → mI M1 m 30 = SS D r → (r = 0 → MEQ M1 m D) → (r = 1 → MG M1 m D s00 (grd D)) → (r = 2 → MB M1 m D (bst D 0)) → ok (K (1, M1)) P) : ok (f_X9_runs M m r >>= K) P := by
  refine ok.seq (m_runs h hG hT hL hr) ?_
  rintro ⟨o, M1⟩ ⟨q, F1, a, b, c, d⟩
  dsimp only at q F1 a b c d
  rw [q]
  exact hK M1 F1 (h.mq F1) a b c d
theorem L4 (hL : mI M m 37 = 12) (y : Int32) : mI (sI M m 4 y) m 37 = 12 := by rw [i_sI, if_neg (by omega)]; exact hL
theorem q_funded (h : IsM M m D) (hG : Gd D) (hT : Tl D) (hL : mI M m 37 = 12) (r : Int32) : ok (f_X9_funded M m r) (RetM m M (fnd D r)) := by
  have h1 : IsM (sI M m 4 0) m D := h.sIo (by omega) _
  unfold f_X9_funded fnd
  rw [h.s.p, bs, h1.s.c, bs]
  by_cases hr : isR r
  · refine q_rule h1 hG hT (L4 hL 0) hr fun M1 F1 h2 e _ _ _ => ?_
    rw [if_pos hr, if_neg (show ¬ (1 : Int32) = 0 by decide), h2.s.gi, bs, e]
    exact ok.pure ⟨rfl, F1⟩
  · rw [m_runN _ _ hr, bs, if_neg hr]
    exact ok.pure ⟨rfl, Mq.rf⟩
noncomputable def tct (D : Bl) (r : Int32) : Int32 := if isR r then ct D (SS D r) else -2
theorem c_totalCost (h : CQ M x bb sb D) (hG : Gd D) (hT : Tl D) (r : Int32) : ok (f_X8_totalCost M x r) (RetC x bb sb D M (tct D r)) := by
  unfold f_X8_totalCost tct
  rw [f_isR, bs, b2i_ite]
  by_cases hr : isR r
  · rw [if_pos (dR hr), if_pos hr, h.1.r8, bs, h.1.c, bs]
    refine ok.bind (c_rule h hG hT hr fun M1 C1 h1 => ?_)
    rw [h1.2.1.c, bs, f_ct h1.2.1, bs]
    exact ok.pure (ok.pure ⟨rfl, C1, h1⟩)
  · rw [if_neg (dN hr), if_neg hr]
    exact ok.pure ⟨rfl, Cq.rf, h⟩
theorem q_totalCost (h : IsM M m D) (hG : Gd D) (hT : Tl D) (hL : mI M m 37 = 12) (r : Int32) : ok (f_X9_totalCost M m r) (RetM m M (tct D r)) := by
  have h1 : IsM (sI M m 4 0) m D := h.sIo (by omega) _
  unfold f_X9_totalCost tct
  rw [h.s.p, bs, h1.s.c, bs]
  by_cases hr : isR r
  · refine q_rule h1 hG hT (L4 hL 0) hr fun M1 F1 h2 e _ _ _ => ?_
    rw [if_pos hr, if_neg (show ¬ (1 : Int32) = 0 by decide), h2.s.gi, bs, e, h2.s.c, bs, m_ct h2, bs]
    exact ok.pure ⟨rfl, F1⟩
  · rw [m_runN _ _ hr, bs, if_neg hr]
    exact ok.pure ⟨rfl, Mq.rf⟩
noncomputable def wlf (D : Bl) (r : Int32) : Int64 := if isR r then (vl D (SS D r)).toInt64 else -2
theorem c_welfare (h : CQ M x bb sb D) (hG : Gd D) (hT : Tl D) (r : Int32) : ok (f_X8_welfare M x r) (RetC x bb sb D M (wlf D r)) := by
  unfold f_X8_welfare wlf
  rw [f_isR, bs, b2i_ite]
  by_cases hr : isR r
  · rw [if_pos (dR hr), if_pos hr, h.1.r8, bs, h.1.c, bs]
    refine ok.bind (c_rule h hG hT hr fun M1 C1 h1 => ?_)
    rw [h1.2.1.c, bs, f_vl h1.2.1, bs]
    exact ok.pure (ok.pure ⟨rfl, C1, h1⟩)
  · rw [if_neg (dN hr), if_neg hr]
    exact ok.pure ⟨rfl, Cq.rf, h⟩
theorem q_welfare (h : IsM M m D) (hG : Gd D) (hT : Tl D) (hL : mI M m 37 = 12) (r : Int32) : ok (f_X9_welfare M m r) (RetM m M (wlf D r)) := by
  have h1 : IsM (sI M m 4 0) m D := h.sIo (by omega) _
  unfold f_X9_welfare wlf
  rw [h.s.p, bs, h1.s.c, bs]
  by_cases hr : isR r
  · refine q_rule h1 hG hT (L4 hL 0) hr fun M1 F1 h2 e _ _ _ => ?_
    rw [if_pos hr, if_neg (show ¬ (1 : Int32) = 0 by decide), h2.s.c, bs]
    refine ok.seq (m_lay h2) ?_
    rintro M2 ⟨F2, i2, hg⟩
    have h3 := h2.mq F2
    rw [h3.s.gi, bs, i2, e, h3.s.c, bs, m_gain hG hT h3 hg, bs]
    exact ok.pure ⟨rfl, F1.trans F2⟩
  · rw [m_runN _ _ hr, bs, if_pos rfl, if_neg hr]
    exact ok.pure ⟨rfl, Mq.rf⟩
/-! the set of a rule, never negative -/
theorem SS_nn (hG : Gd D) (r : Int32) : ¬ SS D r < 0 := by
  obtain ⟨n, n1, n2⟩ := SS_N hG r
  have := p2_le hG.n.2.2.1
  have e12 : 2 ^ 12 = 4096 := rfl
  rw [n2]
  exact o_nneg (by omega)
theorem m_set (h : IsM M m D) (hG : Gd D) (hT : Tl D) (hL : mI M m 37 = 12) (r : Int32) : ok (f_X9_setOf M m r) (fun o => o.1 = fnd D r ∧ Mq m M o.2) := by
  unfold f_X9_setOf fnd
  rw [h.s.c, bs]
  by_cases hr : isR r
  · refine q_rule h hG hT hL hr fun M1 F1 h2 e _ _ _ => ?_
    rw [if_pos hr, if_neg (show ¬ (1 : Int32) = 0 by decide), h2.s.gi, bs, e]
    exact ok.pure ⟨rfl, F1⟩
  · rw [m_runN _ _ hr, bs, if_neg hr]
    exact ok.pure ⟨rfl, Mq.rf⟩
noncomputable def cmn (D : Bl) (a b : Int32) : Int32 := if isR a ∧ isR b then SS D a &&& SS D b else -2
theorem c_common (h : CQ M x bb sb D) (hG : Gd D) (hT : Tl D) (a b : Int32) : ok (f_X8_common M x a b) (RetC x bb sb D M (cmn D a b)) := by
  unfold f_X8_common cmn
  rw [f_isR, bs, b2i_ite]
  by_cases hr : isR a
  · rw [if_pos (dR hr), f_isR, bs, b2i_ite]
    by_cases hr2 : isR b
    · rw [if_pos (dR hr2), if_pos ⟨hr, hr2⟩, h.1.c, bs]
      refine ok.bind (c_rule h hG hT hr fun M1 C1 h1 => ?_)
      rw [h1.1.c, bs]
      refine c_rule h1 hG hT hr2 fun M2 C2 h2 => ?_
      exact ok.pure (ok.pure ⟨rfl, C1.trans C2, h2⟩)
    · rw [if_neg (dN hr2), if_neg (fun z => hr2 z.2)]
      exact ok.pure ⟨rfl, Cq.rf, h⟩
  · rw [if_neg (dN hr), if_neg (fun z => hr z.1)]
    exact ok.pure ⟨rfl, Cq.rf, h⟩
theorem q_common (h : IsM M m D) (hG : Gd D) (hT : Tl D) (hL : mI M m 37 = 12) (a b : Int32) : ok (f_X9_common M m a b) (RetM m M (cmn D a b)) := by
  have h1 : IsM (sI M m 4 0) m D := h.sIo (by omega) _
  unfold f_X9_common cmn
  rw [h.s.p, bs, h1.s.c, bs]
  refine ok.seq (m_set h1 hG hT (L4 hL 0) a) ?_
  rintro ⟨o, M1⟩ ⟨q, F1⟩
  dsimp only at q F1
  have h2 := h1.mq F1
  rw [h2.s.c, bs]
  refine ok.seq (m_set h2 hG hT (by rw [F1.fld (by omega)]; exact L4 hL 0) b) ?_
  rintro ⟨o2, M2⟩ ⟨q2, F2⟩
  dsimp only at q2 F2 ⊢
  rw [q, q2]
  unfold fnd
  have n0 : ∀ r, (0 : Int32) ≤ SS D r := fun r => by have := SS_nn hG r; rw [le_i]; rw [lt_i] at this; omega
  by_cases hr : isR a
  · rw [if_pos hr, if_neg (SS_nn hG a)]
    by_cases hr2 : isR b
    · rw [if_pos hr2, if_pos (n0 b), if_pos ⟨hr, hr2⟩]
      exact ok.pure ⟨rfl, F1.trans F2⟩
    · rw [if_neg hr2, if_neg (show ¬ (0 : Int32) ≤ -2 by decide), if_neg (fun z => hr2 z.2)]
      exact ok.pure ⟨rfl, F1.trans F2⟩
  · rw [if_neg hr, if_pos (show (-2 : Int32) < 0 by decide), if_neg (fun z => hr z.1)]
    exact ok.pure ⟨rfl, F1.trans F2⟩
noncomputable def lss (D : Bl) (r : Int32) : Int64 := if isR r then (vl D (bst D 0)).toInt64 - (vl D (SS D r)).toInt64 else -2
theorem c_loss (h : CQ M x bb sb D) (hG : Gd D) (hT : Tl D) (r : Int32) : ok (f_X8_loss M x r) (RetC x bb sb D M (lss D r)) := by
  unfold f_X8_loss lss
  rw [f_isR, bs, b2i_ite]
  by_cases hr : isR r
  · rw [if_pos (dR hr), if_pos hr, h.1.r8, bs, h.1.c, bs]
    refine ok.seq (f_bNow h) ?_
    rintro ⟨o, M1⟩ ⟨q, C1, h1⟩
    dsimp only at q C1 h1 ⊢
    rw [q, h1.2.1.c, bs, f_vl h1.2.1, bs, h1.1.r8, bs, h1.1.c, bs]
    refine c_rule h1 hG hT hr fun M2 C2 h2 => ?_
    rw [h2.2.1.c, bs, f_vl h2.2.1, bs]
    exact ok.pure ⟨rfl, C1.trans C2, h2⟩
  · rw [if_neg (dN hr), if_neg hr]
    exact ok.pure ⟨rfl, Cq.rf, h⟩
theorem q_loss (h : IsM M m D) (hG : Gd D) (hT : Tl D) (hL : mI M m 37 = 12) (r : Int32) : ok (f_X9_loss M m r) (RetM m M (lss D r)) := by
  have h1 : IsM (sI M m 4 0) m D := h.sIo (by omega) _
  unfold f_X9_loss lss
  rw [h.s.p, bs, h1.s.c, bs]
  refine ok.seq (m_set h1 hG hT (L4 hL 0) r) ?_
  rintro ⟨o, M1⟩ ⟨q, F1⟩
  dsimp only at q F1 ⊢
  have h2 := h1.mq F1
  have n0 : ∀ r, (0 : Int32) ≤ SS D r := fun r => by have := SS_nn hG r; rw [le_i]; rw [lt_i] at this; omega
  rw [q]
  unfold fnd
  by_cases hr : isR r
  · rw [if_pos hr, if_pos (n0 r), if_pos hr, h2.s.c, bs]
    refine ok.seq (m_best h2 hG hT) ?_
    rintro M2 ⟨F2, B2, hg⟩
    have h3 := h2.mq F2
    simp only [h3.s.gi, bs, B2.1, h3.s.c, m_gain hG hT h3 hg]
    exact ok.pure ⟨rfl, F1.trans F2⟩
  · rw [if_neg hr, if_neg (show ¬ (0 : Int32) ≤ -2 by decide), if_neg hr]
    exact ok.pure ⟨rfl, F1⟩
noncomputable def sat (D : Bl) (r : Int32) (v : Nat) : Int32 := if isR r then jy D (SS D r) v else -2
theorem c_satisfaction (h : CQ M x bb sb D) (hG : Gd D) (hT : Tl D) (r a : Int32) : ok (f_X8_satisfaction M x r a) (ThrC x bb sb D M (inx a (cn D 2)) (sat D r (ix a))) := by
  have lm := h.2.1.n.2.2.2
  unfold f_X8_satisfaction sat
  simp only [h.1.r8, bs, h.2.1.g2]
  by_cases c : inx a (cn D 2)
  · obtain ⟨k, hk, rfl⟩ := ix_of (by omega) c
    rw [thB_p (by rw [f_ckx, if_pos c]), f_isR, bs, b2i_ite]
    by_cases hr : isR r
    · rw [if_pos (dR hr), if_pos hr, h.1.r8, bs, h.1.c, bs]
      refine ok.bind (c_rule h hG hT hr fun M1 C1 h1 => ?_)
      rw [h1.2.1.c, bs, f_jy h1.2.1, bs]
      exact ok.pure (ok.pure ⟨fun _ => ⟨by rw [ix_o (by omega)], C1, h1⟩, fun z => absurd c z⟩)
    · rw [if_neg (dN hr), if_neg hr]
      exact ok.pure ⟨fun _ => ⟨rfl, Cq.rf, h⟩, fun z => absurd c z⟩
  · rw [thB_n (by rw [f_ckx, if_neg c])]
    exact ok.pure ⟨fun z => absurd z c, fun _ => rfl⟩
theorem q_satisfaction (h : IsM M m D) (hG : Gd D) (hT : Tl D) (hL : mI M m 37 = 12) (r a : Int32) : ok (f_X9_satisfaction M m r a) (ThrM m M (inx a (cn D 2)) (sat D r (ix a))) := by
  have lm := h.n.2.2.2
  unfold f_X9_satisfaction sat
  simp only [h.s.c, bs, m_isV h, m_fails h.s, b2i_ite]
  by_cases c : inx a (cn D 2)
  · obtain ⟨k, hk, rfl⟩ := ix_of (by omega) c
    have h1 : IsM (sI M m 4 0) m D := h.sIo (by omega) _
    rw [fYb c, if_neg (fY c), h1.s.c, bs]
    by_cases hr : isR r
    · refine q_rule h1 hG hT (L4 hL 0) hr fun M1 F1 h2 e _ _ _ => ?_
      rw [if_pos hr, if_neg (show ¬ (1 : Int32) = 0 by decide), h2.s.c, bs, m_joy h2 hT e hk, bs]
      exact ok.pure ⟨fun _ => ⟨by rw [ix_o (by omega)], F1⟩, fun z => absurd c z⟩
    · rw [m_runN _ _ hr, bs, if_neg hr]
      exact ok.pure ⟨fun _ => ⟨rfl, Mq.rf⟩, fun z => absurd c z⟩
  · rw [fNb c, if_pos (fN c)]
    exact ok.pure ⟨fun z => absurd z c, fun _ => rfl⟩
noncomputable def lou (D : Bl) (r : Int32) : Int32 := if isR r then us D (SS D r) else -2
theorem c_leftOut (h : CQ M x bb sb D) (hG : Gd D) (hT : Tl D) (r : Int32) : ok (f_X8_leftOut M x r) (RetC x bb sb D M (lou D r)) := by
  unfold f_X8_leftOut lou
  rw [f_isR, bs, b2i_ite]
  by_cases hr : isR r
  · rw [if_pos (dR hr), if_pos hr, h.1.r8, bs, h.1.c, bs]
    refine ok.bind (c_rule h hG hT hr fun M1 C1 h1 => ?_)
    rw [h1.2.1.c, bs, f_us h1.2.1, bs]
    exact ok.pure (ok.pure ⟨rfl, C1, h1⟩)
  · rw [if_neg (dN hr), if_neg hr]
    exact ok.pure ⟨rfl, Cq.rf, h⟩
theorem q_leftOut (h : IsM M m D) (hG : Gd D) (hT : Tl D) (hL : mI M m 37 = 12) (r : Int32) : ok (f_X9_leftOut M m r) (RetM m M (lou D r)) := by
  have h1 : IsM (sI M m 4 0) m D := h.sIo (by omega) _
  unfold f_X9_leftOut lou
  rw [h.s.p, bs, h1.s.c, bs]
  by_cases hr : isR r
  · refine q_rule h1 hG hT (L4 hL 0) hr fun M1 F1 h2 e _ _ _ => ?_
    rw [if_pos hr, if_neg (show ¬ (1 : Int32) = 0 by decide), m_leftO h2 hG hT e]
    exact ok.pure ⟨rfl, F1⟩
  · rw [m_runN _ _ hr, bs, if_pos rfl, if_neg hr]
    exact ok.pure ⟨rfl, Mq.rf⟩
noncomputable def clm (D : Bl) (r : Int32) (p : Nat) : Int32 := if isR r then cl D (SS D r) p else -2
theorem c_claimOf (h : CQ M x bb sb D) (hG : Gd D) (hT : Tl D) (r a : Int32) : ok (f_X8_claimOf M x r a) (ThrC x bb sb D M (inx a (cn D 1)) (clm D r (ix a))) := by
  have lm := h.2.1.n.2.2.1
  unfold f_X8_claimOf clm
  simp only [h.1.r8, bs, h.2.1.g1]
  by_cases c : inx a (cn D 1)
  · obtain ⟨k, hk, rfl⟩ := ix_of (by omega) c
    rw [thB_p (by rw [f_ckx, if_pos c]), f_isR, bs, b2i_ite]
    by_cases hr : isR r
    · rw [if_pos (dR hr), if_pos hr, h.1.r8, bs, h.1.c, bs]
      refine ok.bind (c_rule h hG hT hr fun M1 C1 h1 => ?_)
      rw [h1.2.1.c, bs, f_cl h1.2.1 _ hk, bs]
      exact ok.pure (ok.pure ⟨fun _ => ⟨by rw [ix_o (by omega)], C1, h1⟩, fun z => absurd c z⟩)
    · rw [if_neg (dN hr), if_neg hr]
      exact ok.pure ⟨fun _ => ⟨rfl, Cq.rf, h⟩, fun z => absurd c z⟩
  · rw [thB_n (by rw [f_ckx, if_neg c])]
    exact ok.pure ⟨fun z => absurd z c, fun _ => rfl⟩
theorem q_claimOf (h : IsM M m D) (hG : Gd D) (hT : Tl D) (hL : mI M m 37 = 12) (r a : Int32) : ok (f_X9_claimOf M m r a) (ThrM m M (inx a (cn D 1)) (clm D r (ix a))) := by
  have lm := h.n.2.2.1
  unfold f_X9_claimOf clm
  simp only [h.s.c, bs, m_isP h, m_fails h.s, b2i_ite]
  by_cases c : inx a (cn D 1)
  · obtain ⟨k, hk, rfl⟩ := ix_of (by omega) c
    have h1 : IsM (sI M m 4 0) m D := h.sIo (by omega) _
    rw [fYb c, if_neg (fY c), h1.s.c, bs]
    by_cases hr : isR r
    · refine q_rule h1 hG hT (L4 hL 0) hr fun M1 F1 h2 e _ _ _ => ?_
      rw [if_pos hr, if_neg (show ¬ (1 : Int32) = 0 by decide), h2.s.c, bs, m_claim h2 hG hT e hk, bs]
      exact ok.pure ⟨fun _ => ⟨by rw [ix_o (by omega)], F1⟩, fun z => absurd c z⟩
    · rw [m_runN _ _ hr, bs, if_neg hr]
      exact ok.pure ⟨fun _ => ⟨rfl, Mq.rf⟩, fun z => absurd c z⟩
  · rw [fNb c, if_pos (fN c)]
    exact ok.pure ⟨fun z => absurd z c, fun _ => rfl⟩
/-! money of districts -/
noncomputable def pfr (D : Bl) (r : Int32) (p d : Nat) : Int32 := if r = 0 then sT (eqs D) p d + gT_ (cmp D) p d else if r = 1 then gT_ (grd D) p d else -2
theorem c_paidFrom (h : CQ M x bb sb D) (hG : Gd D) (hT : Tl D) (r a a2 : Int32) : ok (f_X8_paidFrom M x r a a2) (ThrC x bb sb D M (inx a (cn D 1) ∧ inx a2 (cn D 0)) (pfr D r (ix a) (ix a2))) := by
  have lm := h.2.1.n.2.2.1
  have l0 := h.2.1.n.2.1
  unfold f_X8_paidFrom pfr
  simp only [h.1.r8, bs, h.2.1.g1]
  by_cases c : inx a (cn D 1)
  · obtain ⟨k, hk, rfl⟩ := ix_of (by omega) c
    rw [thB_p (by rw [f_ckx, if_pos c])]
    simp only [h.1.r8, bs, h.2.1.g0]
    by_cases c2 : inx a2 (cn D 0)
    · obtain ⟨k2, hk2, rfl⟩ := ix_of (by omega) c2
      rw [thB_p (by rw [f_ckx, if_pos c2])]
      by_cases h0 : r = 0
      · rw [if_pos h0, if_pos h0, h.1.c, bs]
        refine ok.seq (f_eNow h hG hT) ?_
        rintro ⟨o, M1⟩ ⟨rfl, C1, h1, E1⟩
        dsimp only at C1 h1 E1 ⊢
        obtain ⟨ra, rb, a1, a2, a3, -⟩ := E1
        have R : RC M1 ra D (eqs D) := a2.1
        simp only [a1.r0, bs, a1.a.r2, a1.a.q2 (show k < 12 by omega), a1.a.a2 (show k < 12 by omega) (show k2 < 4 by omega), R.2.2.1 k (by omega) k2 (by omega), a1.r2, a1.g.r1, a1.g.q1 (show k < 12 by omega), a1.g.a1 (show k < 12 by omega) (show k2 < 4 by omega), a3.2.1 k (by omega) k2 (by omega)]
        exact ok.pure ⟨fun _ => ⟨by rw [ix_o (by omega), ix_o (by omega)], C1, h1⟩, fun z => absurd ⟨c, c2⟩ z⟩
      · rw [if_neg h0, if_neg h0]
        by_cases h1' : r = 1
        · rw [if_pos h1', if_pos h1', h.1.c, bs]
          refine ok.bind (ok.seq (f_gNow h hG) ?_)
          rintro ⟨o, M1⟩ ⟨rfl, C1, h1, E1⟩
          dsimp only at C1 h1 E1 ⊢
          have g := h1.2.2.2.2.2.1
          simp only [g.r1, bs, g.q1 (show k < 12 by omega), g.a1 (show k < 12 by omega) (show k2 < 4 by omega), E1.2.1 k (by omega) k2 (by omega)]
          exact ok.pure (ok.pure ⟨fun _ => ⟨by rw [ix_o (by omega), ix_o (by omega)], C1, h1⟩, fun z => absurd ⟨c, c2⟩ z⟩)
        · rw [if_neg h1', if_neg h1', bs]
          exact ok.pure ⟨fun _ => ⟨rfl, Cq.rf, h⟩, fun z => absurd ⟨c, c2⟩ z⟩
    · rw [thB_n (by rw [f_ckx, if_neg c2])]
      exact ok.pure ⟨fun z => absurd z.2 c2, fun _ => rfl⟩
  · rw [thB_n (by rw [f_ckx, if_neg c])]
    exact ok.pure ⟨fun z => absurd z.1 c, fun _ => rfl⟩
theorem m_lays {α : Type} (h : IsM M m D) (hG : Gd D) (hT : Tl D) (hL : mI M m 37 = 12) (r : Int32) {K : Int32 × Mem → Option α} {P : α → Prop} (h0 : r = 0 → ∀ M1, Mq m M M1 → IsM M1 m D → MEQ M1 m D → ok (K (1, M1)) P) (h1 : r = 1 → ∀ M1, Mq m M M1 → IsM M1 m D → MG M1 m D s00 (grd D) → ok (K (1, M1)) P) (h2 : r ≠ 0 → r ≠ 1 → ok (K (0, M)) P) : ok (f_X9_lays M m r >>= K) P := by
  unfold f_X9_lays
  rw [m_inR]
  by_cases c : r = 0 ∨ r = 1
  · have hr : isR r := c.elim Or.inl (fun z => Or.inr (Or.inl z))
    have d : decide ((0 : Int32) ≤ r ∧ r ≤ 1) = true := by rcases c with z | z <;> rw [z] <;> decide
    have e : ok (f_X9_runs M m r >>= fun (o3 : Int32 × Mem) => if o3.1 = 0 then (some ((0 : Int32), o3.2)) else (some (1, o3.2))) (fun o => o.1 = 1 ∧ ok (K (1, o.2)) P) := by
      refine q_rule h hG hT hL hr fun M1 F1 h3 _ e0 e1 _ => ?_
      rw [if_neg (show ¬ (1 : Int32) = 0 by decide)]
      refine ok.pure ⟨rfl, ?_⟩
      rcases c with z | z
      · exact h0 z M1 F1 h3 (e0 z)
      · exact h1 z M1 F1 h3 (e1 z)
    obtain ⟨⟨o1, o2⟩, e1, e2, e3⟩ := e
    dsimp only at e2 e3
    rw [bs, d, if_neg (show ¬ b2i true = 0 by decide), h.s.c, bs, e1, bs]
    dsimp only
    rw [e2, isB1, bs, bs]
    exact e3
  · have d : decide ((0 : Int32) ≤ r ∧ r ≤ 1) = false := decide_eq_false fun z => by
      have z1 := z.1
      have z2 := z.2
      rw [le_i] at z1 z2
      have a : (0 : Int32).toInt = 0 := rfl
      have b : (1 : Int32).toInt = 1 := rfl
      rcases (show r.toInt = 0 ∨ r.toInt = 1 by omega) with q | q
      · exact c (Or.inl (by rw [eq_i, q]; rfl))
      · exact c (Or.inr (by rw [eq_i, q]; rfl))
    rw [bs, d, if_pos (show b2i false = 0 from rfl), bs, isB0, bs, bs]
    exact h2 (fun z => c (Or.inl z)) (fun z => c (Or.inr z))
theorem q_paidFrom (h : IsM M m D) (hG : Gd D) (hT : Tl D) (hL : mI M m 37 = 12) (r a a2 : Int32) : ok (f_X9_paidFrom M m r a a2) (ThrM m M (inx a (cn D 1) ∧ inx a2 (cn D 0)) (pfr D r (ix a) (ix a2))) := by
  have lm := h.n.2.2.1
  have l0 := h.n.2.1
  unfold f_X9_paidFrom pfr
  simp only [h.s.c, bs, m_isP h, m_isD h, b2i_ite, is_, and_b, m_fails h.s]
  by_cases c : inx a (cn D 1) ∧ inx a2 (cn D 0)
  · obtain ⟨k, hk, rfl⟩ := ix_of (by omega) c.1
    obtain ⟨k2, hk2, rfl⟩ := ix_of (by omega) c.2
    have h1 : IsM (sI M m 4 0) m D := h.sIo (by omega) _
    rw [fYb c, if_neg (fY c), h1.s.c, bs]
    refine m_lays h1 hG hT (L4 hL 0) r (fun e M1 F1 h2 E1 => ?_) (fun e M1 F1 h2 E1 => ?_) (fun e e2 => ?_)
    · rw [if_neg (show ¬ (1 : Int32) = 0 by decide)]
      simp only [h2.s.r35, bs, ml4, h2.s.a35 (show 4 * k + k2 < 48 by omega), E1.2.2.2.1.2.1 k (by omega) k2 (by omega)]
      exact ok.pure ⟨fun _ => ⟨by rw [if_pos e, ix_o (by omega), ix_o (by omega)], F1⟩, fun z => absurd c z⟩
    · rw [if_neg (show ¬ (1 : Int32) = 0 by decide)]
      simp only [h2.s.r35, bs, ml4, h2.s.a35 (show 4 * k + k2 < 48 by omega), E1.2.1 k (by omega) k2 (by omega)]
      refine ok.pure ⟨fun _ => ⟨?_, F1⟩, fun z => absurd c z⟩
      rw [if_neg (by rw [e]; decide), if_pos e, ix_o (by omega), ix_o (by omega)]
      exact Int32.zero_add _
    · rw [if_neg e, if_neg e2]
      exact ok.pure ⟨fun _ => ⟨rfl, Mq.rf⟩, fun z => absurd c z⟩
  · rw [fNb c, if_pos (fN c)]
    exact ok.pure ⟨fun z => absurd z c, fun _ => rfl⟩
noncomputable def lof (D : Bl) (r : Int32) (d : Nat) : Int32 := if r = 0 then gL (cmp D) d else if r = 1 then gL (grd D) d else -2
theorem c_leftOf (h : CQ M x bb sb D) (hG : Gd D) (hT : Tl D) (r a : Int32) : ok (f_X8_leftOf M x r a) (ThrC x bb sb D M (inx a (cn D 0)) (lof D r (ix a))) := by
  have l0 := h.2.1.n.2.1
  unfold f_X8_leftOf lof
  simp only [h.1.r8, bs, h.2.1.g0]
  by_cases c : inx a (cn D 0)
  · obtain ⟨k, hk, rfl⟩ := ix_of (by omega) c
    rw [thB_p (by rw [f_ckx, if_pos c])]
    by_cases h0 : r = 0
    · rw [if_pos h0, if_pos h0, h.1.c, bs]
      refine ok.seq (f_eNow h hG hT) ?_
      rintro ⟨o, M1⟩ ⟨rfl, C1, h1, E1⟩
      dsimp only at C1 h1 E1 ⊢
      obtain ⟨ra, rb, a1, a2, a3, -⟩ := E1
      simp only [a1.r2, bs, a1.g.r0, a1.g.a0 (show k < 4 by omega), a3.1 k hk]
      exact ok.pure ⟨fun _ => ⟨by rw [ix_o (by omega)], C1, h1⟩, fun z => absurd c z⟩
    · rw [if_neg h0, if_neg h0]
      by_cases h1' : r = 1
      · rw [if_pos h1', if_pos h1', h.1.c, bs]
        refine ok.bind (ok.seq (f_gNow h hG) ?_)
        rintro ⟨o, M1⟩ ⟨rfl, C1, h1, E1⟩
        dsimp only at C1 h1 E1 ⊢
        have g := h1.2.2.2.2.2.1
        simp only [g.r0, bs, g.a0 (show k < 4 by omega), E1.1 k hk]
        exact ok.pure (ok.pure ⟨fun _ => ⟨by rw [ix_o (by omega)], C1, h1⟩, fun z => absurd c z⟩)
      · rw [if_neg h1', if_neg h1', bs]
        exact ok.pure ⟨fun _ => ⟨rfl, Cq.rf, h⟩, fun z => absurd c z⟩
  · rw [thB_n (by rw [f_ckx, if_neg c])]
    exact ok.pure ⟨fun z => absurd z c, fun _ => rfl⟩
theorem q_leftOf (h : IsM M m D) (hG : Gd D) (hT : Tl D) (hL : mI M m 37 = 12) (r a : Int32) : ok (f_X9_leftOf M m r a) (ThrM m M (inx a (cn D 0)) (lof D r (ix a))) := by
  have l0 := h.n.2.1
  unfold f_X9_leftOf lof
  simp only [h.s.c, bs, m_isD h, m_fails h.s, b2i_ite]
  by_cases c : inx a (cn D 0)
  · obtain ⟨k, hk, rfl⟩ := ix_of (by omega) c
    have h1 : IsM (sI M m 4 0) m D := h.sIo (by omega) _
    rw [fYb c, if_neg (fY c), h1.s.c, bs]
    refine m_lays h1 hG hT (L4 hL 0) r (fun e M1 F1 h2 E1 => ?_) (fun e M1 F1 h2 E1 => ?_) (fun e e2 => ?_)
    · rw [if_neg (show ¬ (1 : Int32) = 0 by decide)]
      simp only [h2.s.r0, bs, h2.d2 hk, h2.s.r36, h2.s.a36 (show k < 4 by omega), E1.2.2.2.1.1 k hk]
      exact ok.pure ⟨fun _ => ⟨by rw [if_pos e, ix_o (by omega)], F1⟩, fun z => absurd c z⟩
    · rw [if_neg (show ¬ (1 : Int32) = 0 by decide)]
      simp only [h2.s.r0, bs, h2.d2 hk, h2.s.r36, h2.s.a36 (show k < 4 by omega), E1.1 k hk]
      exact ok.pure ⟨fun _ => ⟨by rw [if_neg (by rw [e]; decide), if_pos e, ix_o (by omega)], F1⟩, fun z => absurd c z⟩
    · rw [if_neg e, if_neg e2]
      exact ok.pure ⟨fun _ => ⟨rfl, Mq.rf⟩, fun z => absurd c z⟩
  · rw [fNb c, if_pos (fN c)]
    exact ok.pure ⟨fun z => absurd z c, fun _ => rfl⟩
end
