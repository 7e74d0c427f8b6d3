/-! ===== questions that read the ballot ===== -/
section
variable {M : Mem} {x m bb sb : Nat} {D : Bl}
theorem set_N {y : Int32} {k : Nat} (hk : k ≤ 32) (h : ∀ i, k ≤ i → i < 32 → hs y (Int32.ofNat i) = false) : ∃ n, n < 2 ^ k ∧ y = Int32.ofNat n := by
  refine ⟨y.toBitVec.toNat, Nat.lt_pow_two_of_testBit _ fun i hi => ?_, ?_⟩
  · by_cases c : i < 32
    · rw [← h i hi c, hs_bi c]
      rfl
    · exact BitVec.getLsbD_of_ge _ _ (by omega)
  · apply Int32.toBitVec_inj.1
    show _ = BitVec.ofNat 32 y.toBitVec.toNat
    rw [BitVec.ofNat_toNat, BitVec.setWidth_eq]
theorem ctB_ext {y : Int32} {n k : Nat} (h : n ≤ k) (h2 : ∀ i, n ≤ i → i < k → hs y (Int32.ofNat i) = false) : ctB y k = ctB y n := by
  induction k with
  | zero =>
    have : n = 0 := by omega
    rw [this]
  | succ k ih =>
    by_cases e : n = k + 1
    · rw [e]
    · show ctB y k + (if hs y (Int32.ofNat k) = true then 1 else 0) = _
      rw [h2 k (by omega) (by omega), ih (by omega) (fun i h3 h4 => h2 i h3 (by omega))]
      rfl
theorem bk_hi (hD : Cn D) (p : Nat) {i : Nat} (h1 : cn D 2 ≤ i) (h2 : i < 32) : hs (bk D p) (Int32.ofNat i) = false := by
  have := hD.2.2.2
  unfold bk
  rw [hs_fo (fun v => sp D v p) (by omega) h2, decide_eq_false (by omega)]
  rfl
theorem fN {P : Prop} [Decidable P] (h : ¬ P) : (!decide P) = true := by rw [decide_eq_false h]; rfl
theorem fY {P : Prop} [Decidable P] (h : P) : ¬ (!decide P) = true := by rw [decide_eq_true h]; decide
theorem fYb {P : Prop} [Decidable P] (h : P) : b2i (!decide P) = 0 := by rw [decide_eq_true h]; rfl
theorem fNb {P : Prop} [Decidable P] (h : ¬ P) : b2i (!decide P) = 1 := by rw [decide_eq_false h]; rfl
theorem c_budgetOf (h : CQ M x bb sb D) (a : Int32) : ok (f_X8_budgetOf M x a) (ThrC x bb sb D M (inx a (cn D 0)) (D 2 (ix a))) := by
  have lm := h.2.1.n.2.1
  unfold f_X8_budgetOf
  simp only [h.1.r8, bs, h.2.1.g0]
  by_cases c : inx a (cn D 0)
  · obtain ⟨k, hk, rfl⟩ := ix_of (by omega) c
    rw [thB_p (by rw [f_ckx, if_pos c])]
    simp only [h.1.r8, bs, h.2.1.s.r2, h.2.1.a2 hk]
    exact ok.pure ⟨fun _ => ⟨by rw [ix_o (by omega)], Cq.rf, h⟩, fun z => absurd c z⟩
  · rw [thB_n (by rw [f_ckx, if_neg c])]
    exact ok.pure ⟨fun z => absurd z c, fun _ => rfl⟩
theorem q_budgetOf (h : IsM M m D) (a : Int32) : ok (f_X9_budgetOf M m a) (ThrM m M (inx a (cn D 0)) (D 2 (ix a))) := by
  have lm := h.n.2.1
  unfold f_X9_budgetOf
  simp only [h.s.c, bs, m_isD h, m_fails h.s, b2i_ite]
  by_cases c : inx a (cn D 0)
  · obtain ⟨k, hk, rfl⟩ := ix_of (by omega) c
    have h1 : IsM (sI M m 4 0) m D := h.sIo (by omega) _
    rw [fYb c, if_neg (fY c)]
    simp only [h1.s.r0, bs, h1.d2 hk]
    exact ok.pure ⟨fun _ => ⟨by rw [ix_o (by omega)], Mq.rf⟩, fun z => absurd c z⟩
  · rw [fNb c, if_pos (fN c)]
    exact ok.pure ⟨fun z => absurd z c, fun _ => rfl⟩
theorem c_costOf (h : CQ M x bb sb D) (a : Int32) : ok (f_X8_costOf M x a) (ThrC x bb sb D M (inx a (cn D 1)) (D 4 (ix a))) := by
  have lm := h.2.1.n.2.2.1
  unfold f_X8_costOf
  simp only [h.1.r8, bs, h.2.1.g1]
  by_cases c : inx a (cn D 1)
  · obtain ⟨k, hk, rfl⟩ := ix_of (by omega) c
    rw [thB_p (by rw [f_ckx, if_pos c])]
    simp only [h.1.r8, bs, h.2.1.s.r4, h.2.1.a4 hk]
    exact ok.pure ⟨fun _ => ⟨by rw [ix_o (by omega)], Cq.rf, h⟩, fun z => absurd c z⟩
  · rw [thB_n (by rw [f_ckx, if_neg c])]
    exact ok.pure ⟨fun z => absurd z c, fun _ => rfl⟩
theorem q_costOf (h : IsM M m D) (a : Int32) : ok (f_X9_costOf M m a) (ThrM m M (inx a (cn D 1)) (D 4 (ix a))) := by
  have lm := h.n.2.2.1
  unfold f_X9_costOf
  simp only [h.s.c, bs, m_isP h, m_fails h.s, b2i_ite]
  by_cases c : inx a (cn D 1)
  · obtain ⟨k, hk, rfl⟩ := ix_of (by omega) c
    have h1 : IsM (sI M m 4 0) m D := h.sIo (by omega) _
    rw [fYb c, if_neg (fY c)]
    simp only [h1.s.r0, bs, h1.d4 hk]
    exact ok.pure ⟨fun _ => ⟨by rw [ix_o (by omega)], Mq.rf⟩, fun z => absurd c z⟩
  · rw [fNb c, if_pos (fN c)]
    exact ok.pure ⟨fun z => absurd z c, fun _ => rfl⟩
theorem c_districtsOf (h : CQ M x bb sb D) (a : Int32) : ok (f_X8_districtsOf M x a) (ThrC x bb sb D M (inx a (cn D 1)) (D 5 (ix a))) := by
  have lm := h.2.1.n.2.2.1
  unfold f_X8_districtsOf
  simp only [h.1.r8, bs, h.2.1.g1]
  by_cases c : inx a (cn D 1)
  · obtain ⟨k, hk, rfl⟩ := ix_of (by omega) c
    rw [thB_p (by rw [f_ckx, if_pos c])]
    simp only [h.1.r8, bs, h.2.1.s.r5, h.2.1.a5 hk]
    exact ok.pure ⟨fun _ => ⟨by rw [ix_o (by omega)], Cq.rf, h⟩, fun z => absurd c z⟩
  · rw [thB_n (by rw [f_ckx, if_neg c])]
    exact ok.pure ⟨fun z => absurd z c, fun _ => rfl⟩
theorem q_districtsOf (h : IsM M m D) (a : Int32) : ok (f_X9_districtsOf M m a) (ThrM m M (inx a (cn D 1)) (D 5 (ix a))) := by
  have lm := h.n.2.2.1
  unfold f_X9_districtsOf
  simp only [h.s.c, bs, m_isP h, m_fails h.s, b2i_ite]
  by_cases c : inx a (cn D 1)
  · obtain ⟨k, hk, rfl⟩ := ix_of (by omega) c
    have h1 : IsM (sI M m 4 0) m D := h.sIo (by omega) _
    rw [fYb c, if_neg (fY c)]
    simp only [h1.s.r10, bs, h1.d5 hk]
    exact ok.pure ⟨fun _ => ⟨by rw [ix_o (by omega)], Mq.rf⟩, fun z => absurd c z⟩
  · rw [fNb c, if_pos (fN c)]
    exact ok.pure ⟨fun z => absurd z c, fun _ => rfl⟩
theorem c_memberships (h : CQ M x bb sb D) (a : Int32) : ok (f_X8_memberships M x a) (ThrC x bb sb D M (inx a (cn D 2)) (D 7 (ix a))) := by
  have lm := h.2.1.n.2.2.2
  unfold f_X8_memberships
  simp only [h.1.r8, bs, h.2.1.g2]
  by_cases c : inx a (cn D 2)
  · obtain ⟨k, hk, rfl⟩ := ix_of (by omega) c
    rw [thB_p (by rw [f_ckx, if_pos c])]
    simp only [h.1.r8, bs, h.2.1.s.r7, h.2.1.a7 hk]
    exact ok.pure ⟨fun _ => ⟨by rw [ix_o (by omega)], Cq.rf, h⟩, fun z => absurd c z⟩
  · rw [thB_n (by rw [f_ckx, if_neg c])]
    exact ok.pure ⟨fun z => absurd z c, fun _ => rfl⟩
theorem q_memberships (h : IsM M m D) (a : Int32) : ok (f_X9_memberships M m a) (ThrM m M (inx a (cn D 2)) (D 7 (ix a))) := by
  have lm := h.n.2.2.2
  unfold f_X9_memberships
  simp only [h.s.c, bs, m_isV h, m_fails h.s, b2i_ite]
  by_cases c : inx a (cn D 2)
  · obtain ⟨k, hk, rfl⟩ := ix_of (by omega) c
    have h1 : IsM (sI M m 4 0) m D := h.sIo (by omega) _
    rw [fYb c, if_neg (fY c)]
    simp only [h1.s.r0, bs, h1.d7 hk]
    exact ok.pure ⟨fun _ => ⟨by rw [ix_o (by omega)], Mq.rf⟩, fun z => absurd c z⟩
  · rw [fNb c, if_pos (fN c)]
    exact ok.pure ⟨fun z => absurd z c, fun _ => rfl⟩
theorem c_approvals (h : CQ M x bb sb D) (a : Int32) : ok (f_X8_approvals M x a) (ThrC x bb sb D M (inx a (cn D 2)) (D 8 (ix a))) := by
  have lm := h.2.1.n.2.2.2
  unfold f_X8_approvals
  simp only [h.1.r8, bs, h.2.1.g2]
  by_cases c : inx a (cn D 2)
  · obtain ⟨k, hk, rfl⟩ := ix_of (by omega) c
    rw [thB_p (by rw [f_ckx, if_pos c])]
    simp only [h.1.r8, bs, h.2.1.s.r8, h.2.1.a8 hk]
    exact ok.pure ⟨fun _ => ⟨by rw [ix_o (by omega)], Cq.rf, h⟩, fun z => absurd c z⟩
  · rw [thB_n (by rw [f_ckx, if_neg c])]
    exact ok.pure ⟨fun z => absurd z c, fun _ => rfl⟩
theorem q_approvals (h : IsM M m D) (a : Int32) : ok (f_X9_approvals M m a) (ThrM m M (inx a (cn D 2)) (D 8 (ix a))) := by
  have lm := h.n.2.2.2
  unfold f_X9_approvals
  simp only [h.s.c, bs, m_isV h, m_fails h.s, b2i_ite]
  by_cases c : inx a (cn D 2)
  · obtain ⟨k, hk, rfl⟩ := ix_of (by omega) c
    have h1 : IsM (sI M m 4 0) m D := h.sIo (by omega) _
    rw [fYb c, if_neg (fY c)]
    simp only [h1.s.r0, bs, h1.d8 hk]
    exact ok.pure ⟨fun _ => ⟨by rw [ix_o (by omega)], Mq.rf⟩, fun z => absurd c z⟩
  · rw [fNb c, if_pos (fN c)]
    exact ok.pure ⟨fun z => absurd z c, fun _ => rfl⟩
theorem c_weightOf (h : CQ M x bb sb D) (a : Int32) : ok (f_X8_weightOf M x a) (ThrC x bb sb D M (inx a (cn D 2)) (D 6 (ix a))) := by
  have lm := h.2.1.n.2.2.2
  unfold f_X8_weightOf
  simp only [h.1.r8, bs, h.2.1.g2]
  by_cases c : inx a (cn D 2)
  · obtain ⟨k, hk, rfl⟩ := ix_of (by omega) c
    rw [thB_p (by rw [f_ckx, if_pos c])]
    simp only [h.1.r8, bs, h.2.1.s.r6, h.2.1.a6 hk]
    exact ok.pure ⟨fun _ => ⟨by rw [ix_o (by omega)], Cq.rf, h⟩, fun z => absurd c z⟩
  · rw [thB_n (by rw [f_ckx, if_neg c])]
    exact ok.pure ⟨fun z => absurd z c, fun _ => rfl⟩
theorem q_weightOf (h : IsM M m D) (a : Int32) : ok (f_X9_weightOf M m a) (ThrM m M (inx a (cn D 2)) (D 6 (ix a))) := by
  have lm := h.n.2.2.2
  unfold f_X9_weightOf
  simp only [h.s.c, bs, m_isV h, m_fails h.s, b2i_ite]
  by_cases c : inx a (cn D 2)
  · obtain ⟨k, hk, rfl⟩ := ix_of (by omega) c
    have h1 : IsM (sI M m 4 0) m D := h.sIo (by omega) _
    rw [fYb c, if_neg (fY c)]
    simp only [h1.s.r0, bs, h1.d6 hk]
    exact ok.pure ⟨fun _ => ⟨by rw [ix_o (by omega)], Mq.rf⟩, fun z => absurd c z⟩
  · rw [fNb c, if_pos (fN c)]
    exact ok.pure ⟨fun z => absurd z c, fun _ => rfl⟩
theorem c_votesFor (h : CQ M x bb sb D) (a : Int32) : ok (f_X8_votesFor M x a) (ThrC x bb sb D M (inx a (cn D 1)) (D 11 (ix a))) := by
  have lm := h.2.1.n.2.2.1
  unfold f_X8_votesFor
  simp only [h.1.r8, bs, h.2.1.g1]
  by_cases c : inx a (cn D 1)
  · obtain ⟨k, hk, rfl⟩ := ix_of (by omega) c
    rw [thB_p (by rw [f_ckx, if_pos c])]
    simp only [h.1.r8, bs, h.2.1.s.r11, h.2.1.a11 hk]
    exact ok.pure ⟨fun _ => ⟨by rw [ix_o (by omega)], Cq.rf, h⟩, fun z => absurd c z⟩
  · rw [thB_n (by rw [f_ckx, if_neg c])]
    exact ok.pure ⟨fun z => absurd z c, fun _ => rfl⟩
theorem q_votesFor (h : IsM M m D) (hT : Tl D) (a : Int32) : ok (f_X9_votesFor M m a) (ThrM m M (inx a (cn D 1)) (D 11 (ix a))) := by
  have lm := h.n.2.2.1
  unfold f_X9_votesFor
  simp only [h.s.c, bs, m_isP h, m_fails h.s, b2i_ite]
  by_cases c : inx a (cn D 1)
  · obtain ⟨k, hk, rfl⟩ := ix_of (by omega) c
    have h1 : IsM (sI M m 4 0) m D := h.sIo (by omega) _
    rw [fYb c, if_neg (fY c)]
    simp only [h1.s.c, bs, m_vt h1 hk]
    rw [← hT.2 k]
    exact ok.pure ⟨fun _ => ⟨by rw [ix_o (by omega)], Mq.rf⟩, fun z => absurd c z⟩
  · rw [fNb c, if_pos (fN c)]
    exact ok.pure ⟨fun z => absurd z c, fun _ => rfl⟩
theorem c_supporters (h : CQ M x bb sb D) (a : Int32) : ok (f_X8_supporters M x a) (ThrC x bb sb D M (inx a (cn D 1)) (D 10 (ix a))) := by
  have lm := h.2.1.n.2.2.1
  unfold f_X8_supporters
  simp only [h.1.r8, bs, h.2.1.g1]
  by_cases c : inx a (cn D 1)
  · obtain ⟨k, hk, rfl⟩ := ix_of (by omega) c
    rw [thB_p (by rw [f_ckx, if_pos c])]
    simp only [h.1.r8, bs, h.2.1.s.r10, h.2.1.a10 hk]
    exact ok.pure ⟨fun _ => ⟨by rw [ix_o (by omega)], Cq.rf, h⟩, fun z => absurd c z⟩
  · rw [thB_n (by rw [f_ckx, if_neg c])]
    exact ok.pure ⟨fun z => absurd z c, fun _ => rfl⟩
theorem q_supporters (h : IsM M m D) (hT : Tl D) (a : Int32) : ok (f_X9_supporters M m a) (ThrM m M (inx a (cn D 1)) (D 10 (ix a))) := by
  have lm := h.n.2.2.1
  unfold f_X9_supporters
  simp only [h.s.c, bs, m_isP h, m_fails h.s, b2i_ite]
  by_cases c : inx a (cn D 1)
  · obtain ⟨k, hk, rfl⟩ := ix_of (by omega) c
    have h1 : IsM (sI M m 4 0) m D := h.sIo (by omega) _
    rw [fYb c, if_neg (fY c)]
    have key : ∀ kk : Int32 × Int32 → Option (Int32 × Mem), it_ (bd_X9_supporters_18 m (Int32.ofNat k) (0, sI M m 4 0) kk) FU (0, 0) = kk (bk D k, Int32.ofNat (cn D 2)) := fun kk => by
      refine it_c (k := fun a => kk (a, Int32.ofNat (cn D 2))) (cn D 2) _ 0 h.n.m2 (fun rec i hi => ?_) (fun rec => ?_)
      · unfold bd_X9_supporters_18
        simp only [h1.g7, bs, ile_n hi h.n.l2, h1.s.c, m_sp h1 hi hk, b2i_ite, is_, ltq, or_ite, i_succ]
        rfl
      · unfold bd_X9_supporters_18
        simp only [h1.g7, bs, ile_e]
    rw [key]
    exact ok.pure ⟨fun _ => ⟨by rw [ix_o (by omega), hT.1], Mq.rf⟩, fun z => absurd c z⟩
  · rw [fNb c, if_pos (fN c)]
    exact ok.pure ⟨fun z => absurd z c, fun _ => rfl⟩
theorem c_commonSupport (h : CQ M x bb sb D) (hT : Tl D) (a a2 : Int32) : ok (f_X8_commonSupport M x a a2) (ThrC x bb sb D M (inx a (cn D 1) ∧ inx a2 (cn D 1)) (Int32.ofNat (ctB (D 10 (ix a) &&& D 10 (ix a2)) (cn D 2)))) := by
  have lm := h.2.1.n.2.2.1
  have l2 := h.2.1.n.2.2.2
  unfold f_X8_commonSupport
  simp only [h.1.r8, bs, h.2.1.g1]
  by_cases c : inx a (cn D 1)
  · obtain ⟨k, hk, rfl⟩ := ix_of (by omega) c
    rw [thB_p (by rw [f_ckx, if_pos c])]
    simp only [h.1.r8, bs, h.2.1.g1]
    by_cases c2 : inx a2 (cn D 1)
    · obtain ⟨k2, hk2, rfl⟩ := ix_of (by omega) c2
      rw [thB_p (by rw [f_ckx, if_pos c2])]
      have hi : ∀ i, cn D 2 ≤ i → i < 32 → hs (D 10 k &&& D 10 k2) (Int32.ofNat i) = false := fun i h1 h2 => by rw [hs_and h2, hT.1, bk_hi h.2.1.n _ h1 h2]; rfl
      obtain ⟨n, hn, e⟩ := set_N (k := 24) (by omega) (fun i h1 h2 => hi i (by omega) h2)
      have ec := ctB_ext (k := 24) (by omega) (fun i h1 h2 => hi i h1 (by omega))
      have fb := f_bits M hn
      rw [← e, ec] at fb
      simp only [h.1.r8, bs, h.2.1.s.r10, h.2.1.a10 hk, h.2.1.a10 hk2, fb]
      exact ok.pure ⟨fun _ => ⟨by rw [ix_o (by omega), ix_o (by omega)], Cq.rf, h⟩, fun z => absurd ⟨c, c2⟩ z⟩
    · rw [thB_n (by rw [f_ckx, if_neg c2])]
      exact ok.pure ⟨fun z => absurd z.2 c2, fun _ => rfl⟩
  · rw [thB_n (by rw [f_ckx, if_neg c])]
    exact ok.pure ⟨fun z => absurd z.1 c, fun _ => rfl⟩
theorem and_b {P Q : Prop} [Decidable P] [Decidable Q] : (if decide P = true then (if decide Q = true then (1 : Int32) else 0) else 0) = b2i (decide (P ∧ Q)) := by
  by_cases h1 : P <;> by_cases h2 : Q <;> simp [h1, h2, b2i]
theorem q_commonSupport (h : IsM M m D) (hT : Tl D) (a a2 : Int32) : ok (f_X9_commonSupport M m a a2) (ThrM m M (inx a (cn D 1) ∧ inx a2 (cn D 1)) (Int32.ofNat (ctB (D 10 (ix a) &&& D 10 (ix a2)) (cn D 2)))) := by
  have lm := h.n.2.2.1
  have l2 := h.n.2.2.2
  unfold f_X9_commonSupport
  simp only [h.s.c, bs, m_isP h, b2i_ite, is_, and_b, m_fails h.s]
  by_cases c : inx a (cn D 1) ∧ inx a2 (cn D 1)
  · obtain ⟨k, hk, rfl⟩ := ix_of (by omega) c.1
    obtain ⟨k2, hk2, rfl⟩ := ix_of (by omega) c.2
    have h1 : IsM (sI M m 4 0) m D := h.sIo (by omega) _
    rw [fYb c, if_neg (fY c)]
    have e : Int32.ofNat (ctB (D 10 k &&& D 10 k2) (cn D 2)) = sm (cn D 2) (fun v => if sp D v k = true then (if sp D v k2 = true then 1 else 0) else 0) := (sm_N fun v hv => by
      rw [hs_and (by omega), hT.1, hT.1, hs_bk h.n hv, hs_bk h.n hv]
      cases sp D v k <;> cases sp D v k2 <;> rfl).symm
    have key : ∀ kk : Int32 × Int32 → Option (Int32 × Mem), it_ (bd_X9_commonSupport_35 m (Int32.ofNat k) (Int32.ofNat k2) (0, sI M m 4 0) kk) FU (0, 0) = kk (Int32.ofNat (ctB (D 10 k &&& D 10 k2) (cn D 2)), Int32.ofNat (cn D 2)) := fun kk => by
      rw [e]
      refine it_s (k := fun a => kk (a, Int32.ofNat (cn D 2))) (cn D 2) _ h.n.m2 (fun rec i z hi => ?_) (fun rec z => ?_)
      · unfold bd_X9_commonSupport_35
        simp only [h1.g7, bs, ile_n hi h.n.l2, h1.s.c, m_sp h1 hi hk, m_sp h1 hi hk2, b2i_ite, is_, ltq, i_succ]
      · unfold bd_X9_commonSupport_35
        simp only [h1.g7, bs, ile_e]
    rw [key]
    exact ok.pure ⟨fun _ => ⟨by rw [ix_o (by omega), ix_o (by omega)], Mq.rf⟩, fun z => absurd c z⟩
  · rw [fNb c, if_pos (fN c)]
    exact ok.pure ⟨fun z => absurd z c, fun _ => rfl⟩
theorem c_purse (h : CQ M x bb sb D) (a a2 : Int32) : ok (f_X8_purse M x a a2) (ThrC x bb sb D M (inx a (cn D 2) ∧ inx a2 (cn D 0)) (fp D (ix a) (ix a2))) := by
  have lm := h.2.1.n.2.2.2
  have l0 := h.2.1.n.2.1
  unfold f_X8_purse
  simp only [h.1.r8, bs, h.2.1.g2]
  by_cases c : inx a (cn D 2)
  · obtain ⟨k, hk, rfl⟩ := ix_of (by omega) c
    rw [thB_p (by rw [f_ckx, if_pos c])]
    simp only [h.1.r8, bs, h.2.1.g0]
    by_cases c2 : inx a2 (cn D 0)
    · obtain ⟨k2, hk2, rfl⟩ := ix_of (by omega) c2
      rw [thB_p (by rw [f_ckx, if_pos c2])]
      simp only [h.1.r8, bs, h.2.1.c, f_fp h.2.1 hk hk2]
      exact ok.pure ⟨fun _ => ⟨by rw [ix_o (by omega), ix_o (by omega)], Cq.rf, h⟩, fun z => absurd ⟨c, c2⟩ z⟩
    · rw [thB_n (by rw [f_ckx, if_neg c2])]
      exact ok.pure ⟨fun z => absurd z.2 c2, fun _ => rfl⟩
  · rw [thB_n (by rw [f_ckx, if_neg c])]
    exact ok.pure ⟨fun z => absurd z.1 c, fun _ => rfl⟩
theorem q_purse (h : IsM M m D) (hG : Gd D) (a a2 : Int32) : ok (f_X9_purse M m a a2) (ThrM m M (inx a (cn D 2) ∧ inx a2 (cn D 0)) (fp D (ix a) (ix a2))) := by
  have lm := h.n.2.2.2
  have l0 := h.n.2.1
  unfold f_X9_purse
  simp only [h.s.c, bs, m_isV h, m_isD h, b2i_ite, is_, and_b, m_fails h.s]
  by_cases c : inx a (cn D 2) ∧ inx a2 (cn D 0)
  · obtain ⟨k, hk, rfl⟩ := ix_of (by omega) c.1
    obtain ⟨k2, hk2, rfl⟩ := ix_of (by omega) c.2
    have h1 : IsM (sI M m 4 0) m D := h.sIo (by omega) _
    rw [fYb c, if_neg (fY c)]
    simp only [h1.s.c, bs, m_fp h1 hG hk hk2]
    exact ok.pure ⟨fun _ => ⟨by rw [ix_o (by omega), ix_o (by omega)], Mq.rf⟩, fun z => absurd c z⟩
  · rw [fNb c, if_pos (fN c)]
    exact ok.pure ⟨fun z => absurd z c, fun _ => rfl⟩
theorem c_endowment (h : CQ M x bb sb D) (a : Int32) : ok (f_X8_endowment M x a) (ThrC x bb sb D M (inx a (cn D 2)) (fm D (ix a) (D 7 (ix a)))) := by
  have lm := h.2.1.n.2.2.2
  unfold f_X8_endowment
  simp only [h.1.r8, bs, h.2.1.g2]
  by_cases c : inx a (cn D 2)
  · obtain ⟨k, hk, rfl⟩ := ix_of (by omega) c
    rw [thB_p (by rw [f_ckx, if_pos c])]
    simp only [h.1.r8, bs, h.2.1.s.r7, h.2.1.a7 hk, h.2.1.c, f_fm h.2.1 hk]
    exact ok.pure ⟨fun _ => ⟨by rw [ix_o (by omega)], Cq.rf, h⟩, fun z => absurd c z⟩
  · rw [thB_n (by rw [f_ckx, if_neg c])]
    exact ok.pure ⟨fun z => absurd z c, fun _ => rfl⟩
theorem q_endowment (h : IsM M m D) (hG : Gd D) (a : Int32) : ok (f_X9_endowment M m a) (ThrM m M (inx a (cn D 2)) (fm D (ix a) (D 7 (ix a)))) := by
  have lm := h.n.2.2.2
  unfold f_X9_endowment
  simp only [h.s.c, bs, m_isV h, m_fails h.s, b2i_ite]
  by_cases c : inx a (cn D 2)
  · obtain ⟨k, hk, rfl⟩ := ix_of (by omega) c
    have h1 : IsM (sI M m 4 0) m D := h.sIo (by omega) _
    rw [fYb c, if_neg (fY c)]
    have key : ∀ kk : Int32 × Int32 → Option (Int32 × Mem), it_ (bd_X9_endowment_18 m (Int32.ofNat k) (0, sI M m 4 0) kk) FU (0, 0) = kk (fm D k (D 7 k), Int32.ofNat (cn D 0)) := fun kk => by
      refine it_s (k := fun a => kk (a, Int32.ofNat (cn D 0))) (cn D 0) _ h.n.m0 (fun rec i z hi => ?_) (fun rec z => ?_)
      · unfold bd_X9_endowment_18
        simp only [h1.g5, bs, ile_n hi h.n.l0, h1.s.c, m_fp h1 hG hk hi, ltq, i_succ]
        by_cases c3 : hs (D 7 k) (Int32.ofNat i) = true
        · rw [if_pos c3]
        · rw [if_neg c3]
          unfold fp sh
          rw [if_neg c3]
      · unfold bd_X9_endowment_18
        simp only [h1.g5, bs, ile_e]
    rw [key]
    exact ok.pure ⟨fun _ => ⟨by rw [ix_o (by omega)], Mq.rf⟩, fun z => absurd c z⟩
  · rw [fNb c, if_pos (fN c)]
    exact ok.pure ⟨fun z => absurd z c, fun _ => rfl⟩
end
