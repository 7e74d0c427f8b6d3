/-! ===== questions of the rounds ===== -/
section
variable {M : Mem} {x m bb sb : Nat} {D : Bl}
theorem c_firstPrice (h : CQ M x bb sb D) (hG : Gd D) (hT : Tl D) (a : Int32) : ok (f_X8_firstPrice M x a) (ThrC x bb sb D M (inx a (cn D 1)) (pri D (rk D 0 0) (ix a))) := by
  have lm := h.2.1.n.2.2.1
  unfold f_X8_firstPrice
  simp only [h.1.r8, bs, h.2.1.g1]
  by_cases c : inx a (cn D 1)
  · obtain ⟨k, hk, rfl⟩ := ix_of (by omega) c
    rw [thB_p (by rw [f_ckx, if_pos c]), h.1.c, bs]
    refine ok.seq (f_eNow h hG hT) ?_
    rintro ⟨o, M1⟩ ⟨rfl, C1, h1, E1⟩
    dsimp only at C1 h1 E1 ⊢
    obtain ⟨ra, rb, e1, e2, e3, e4, -⟩ := E1
    have g := aI_e e1.2.2.1 (Or.inl rfl) (show k < 12 by omega) (by omega)
    rw [e4 k hk] at g
    simp only [e1.r3, bs, g]
    exact ok.pure ⟨fun _ => ⟨by rw [ix_o (by omega)], C1, h1⟩, fun z => absurd c z⟩
  · rw [thB_n (by rw [f_ckx, if_neg c])]
    exact ok.pure ⟨fun z => absurd z c, fun _ => rfl⟩
theorem q_firstPrice (h : IsM M m D) (hG : Gd D) (a : Int32) : ok (f_X9_firstPrice M m a) (ThrM m M (inx a (cn D 1)) (pri D (rk D 0 0) (ix a))) := by
  have lm := h.n.2.2.1
  unfold f_X9_firstPrice
  simp only [h.s.c, bs, m_isP h, m_fails h.s, b2i_ite]
  by_cases c : inx a (cn D 1)
  · obtain ⟨k, hk, rfl⟩ := ix_of (by omega) c
    have h1 : IsM (sI M m 4 0) m D := h.sIo (by omega) _
    rw [fYb c, if_neg (fY c), h1.s.c, bs]
    refine ok.seq (m_fill h1 hG 0) ?_
    rintro M1 ⟨F1, H1⟩
    have h2 := h1.fi F1 (by omega)
    rw [h2.s.c, bs, m_price h2 hG (pu_HB (k := 0) hG (by omega)) H1 hk, bs]
    refine ok.pure ⟨fun _ => ⟨?_, (Mf.of F1 (by omega) (by omega)).g.q⟩, fun z => absurd c z⟩
    rw [ix_o (by omega)]
    show pr D (pu D 0) k = prc D (pu D 0) 0 k
    unfold prc
    rw [hs_0 (by omega)]
    rfl
  · rw [fNb c, if_pos (fN c)]
    exact ok.pure ⟨fun z => absurd z c, fun _ => rfl⟩
theorem f_when {r : Nat} (h : IsRs M r) {s : Rst} (hR : RC M r D s) (hc : sc s ≤ 12) (p : Int32) : f_X6_whenFunded M r p = some (plN (sQ s) p (sc s)) := by
  refine eq_ok ?_
  unfold f_X6_whenFunded
  refine it_r (I := fun i (u : Int32) => u = Int32.ofNat i ∧ ∀ k, k < i → sQ s k ≠ p) (sc s) ⟨rfl, fun k hk => absurd hk (Nat.not_lt_zero k)⟩ (by omega) ?_ ?_
  · rintro rec i u hi ⟨rfl, h0⟩ hrec
    have g := h.a4 (k := i) (by omega)
    rw [hR.2.2.2.1 i hi] at g
    unfold bd_X6_whenFunded_2
    simp only [h.g, hR.2.2.2.2.1, bs, ile_n hi (show sc s < 2147483648 by omega), h.r4, g, i_succ]
    refine ok.ite (fun c => ?_) (fun c => ?_)
    · refine ok.pure ?_
      have := plN_at (show i < 2147483648 by omega) c h0 (sc s - (i + 1))
      rw [show i + 1 + (sc s - (i + 1)) = sc s by omega] at this
      exact this.symm
    · exact hrec _ ⟨rfl, fun k hk => by
        by_cases e : k = i
        · subst e; exact c
        · exact h0 k (by omega)⟩
  · rintro rec u ⟨rfl, h0⟩
    unfold bd_X6_whenFunded_2
    simp only [h.g, hR.2.2.2.2.1, bs, ile_e]
    exact ok.pure (plN_no h0).symm
theorem c_priceOf (h : CQ M x bb sb D) (hG : Gd D) (hT : Tl D) (a : Int32) : ok (f_X8_priceOf M x a) (ThrC x bb sb D M (inx a (cn D 1)) (epm D (ix a))) := by
  have lm := h.2.1.n.2.2.1
  obtain ⟨hI, -, e3, e4, hc⟩ := eqs_ok hG
  unfold f_X8_priceOf
  simp only [h.1.r8, bs, h.2.1.g1]
  by_cases c : inx a (cn D 1)
  · obtain ⟨k, hk, rfl⟩ := ix_of (by omega) c
    rw [thB_p (by rw [f_ckx, if_pos c]), h.1.c, bs]
    refine ok.seq (f_eNow h hG hT) ?_
    rintro ⟨o, M1⟩ ⟨rfl, C1, h1, E1⟩
    dsimp only at C1 h1 E1 ⊢
    obtain ⟨ra, rb, a1, a2, -⟩ := E1
    have R : RC M1 ra D (eqs D) := a2.1
    rw [a1.r0, bs, a1.a.c, bs, f_when a1.a R (by omega), bs]
    rcases wf_ok hG hk with ⟨w1, w2⟩ | ⟨j, j1, w1, w2, -⟩
    · unfold wf at w1
      rw [w1, if_neg (by decide), bs]
      exact ok.pure ⟨fun _ => ⟨by rw [ix_o (by omega), w2], C1, h1⟩, fun z => absurd c z⟩
    · unfold wf at w1
      have g := a1.a.a3 (p := k) (k := j) (by omega) (by omega)
      rw [a2.2 j (by omega) k hk, ← w2] at g
      rw [w1, if_pos (by rw [show (0 : Int32) = Int32.ofNat 0 from rfl, i_le (by omega) (by omega)]; omega)]
      simp only [a1.a.r3, bs, a1.a.q3 (show k < 12 by omega), g]
      exact ok.pure ⟨fun _ => ⟨by rw [ix_o (by omega)], C1, h1⟩, fun z => absurd c z⟩
  · rw [thB_n (by rw [f_ckx, if_neg c])]
    exact ok.pure ⟨fun z => absurd z c, fun _ => rfl⟩
theorem q_priceOf (h : IsM M m D) (hG : Gd D) (hT : Tl D) (hL : mI M m 37 = 12) (a : Int32) : ok (f_X9_priceOf M m a) (ThrM m M (inx a (cn D 1)) (epm D (ix a))) := by
  have lm := h.n.2.2.1
  unfold f_X9_priceOf
  simp only [h.s.c, bs, m_isP h, m_fails h.s, b2i_ite]
  by_cases c : inx a (cn D 1)
  · obtain ⟨k, hk, rfl⟩ := ix_of (by omega) c
    have h1 : IsM (sI M m 4 0) m D := h.sIo (by omega) _
    rw [fYb c, if_neg (fY c), h1.s.c, bs]
    refine ok.seq (m_equal h1 hG hT (by rw [i_sI, if_neg (by omega)]; exact hL)) ?_
    rintro M1 ⟨F1, E1⟩
    have h2 := h1.mg F1
    simp only [h2.s.r33, bs, h2.s.a33 (show k < 12 by omega), E1.2.2.1 k (by omega)]
    exact ok.pure ⟨fun _ => ⟨by rw [ix_o (by omega)], F1.q⟩, fun z => absurd c z⟩
  · rw [fNb c, if_pos (fN c)]
    exact ok.pure ⟨fun z => absurd z c, fun _ => rfl⟩
theorem c_roundOf (h : CQ M x bb sb D) (hG : Gd D) (hT : Tl D) (a : Int32) : ok (f_X8_roundOf M x a) (ThrC x bb sb D M (inx a (cn D 1)) (wf D (ix a))) := by
  have lm := h.2.1.n.2.2.1
  obtain ⟨hI, -, e3, e4, hc⟩ := eqs_ok hG
  unfold f_X8_roundOf
  simp only [h.1.r8, bs, h.2.1.g1]
  by_cases c : inx a (cn D 1)
  · obtain ⟨k, hk, rfl⟩ := ix_of (by omega) c
    rw [thB_p (by rw [f_ckx, if_pos c]), h.1.c, bs]
    refine ok.seq (f_eNow h hG hT) ?_
    rintro ⟨o, M1⟩ ⟨rfl, C1, h1, E1⟩
    dsimp only at C1 h1 E1 ⊢
    obtain ⟨ra, rb, a1, a2, -⟩ := E1
    have R : RC M1 ra D (eqs D) := a2.1
    rw [a1.r0, bs, a1.a.c, bs, f_when a1.a R (by omega), bs]
    exact ok.pure ⟨fun _ => ⟨by rw [ix_o (by omega)]; rfl, C1, h1⟩, fun z => absurd c z⟩
  · rw [thB_n (by rw [f_ckx, if_neg c])]
    exact ok.pure ⟨fun z => absurd z c, fun _ => rfl⟩
theorem q_roundOf (h : IsM M m D) (hG : Gd D) (hT : Tl D) (hL : mI M m 37 = 12) (a : Int32) : ok (f_X9_roundOf M m a) (ThrM m M (inx a (cn D 1)) (wf D (ix a))) := by
  have lm := h.n.2.2.1
  obtain ⟨hI, -, -, -, hc⟩ := eqs_ok hG
  unfold f_X9_roundOf
  simp only [h.s.c, bs, m_isP h, m_fails h.s, b2i_ite]
  by_cases c : inx a (cn D 1)
  · obtain ⟨k, hk, rfl⟩ := ix_of (by omega) c
    have h1 : IsM (sI M m 4 0) m D := h.sIo (by omega) _
    rw [fYb c, if_neg (fY c), h1.s.c, bs]
    refine ok.seq (m_equal h1 hG hT (by rw [i_sI, if_neg (by omega)]; exact hL)) ?_
    rintro M1 ⟨F1, E1⟩
    have h2 := h1.mg F1
    have gp := h2.s.a33 (i := k) (by omega)
    rw [E1.2.2.1 k (by omega)] at gp
    rcases wf_ok hG hk with ⟨w1, w2⟩ | ⟨j, j1, w1, -, w3, w4, q, q1, q2⟩
    · refine ok.itF (fun u => u = 0) (fun _ => 0) rfl (by decide) ?_
      rintro rec u rfl hrec
      unfold bd_X9_roundOf_20
      simp only [h2.s.r33, bs, gp, w2]
      rw [if_pos m1_neg, if_neg (by decide), bs]
      exact ok.pure ⟨fun _ => ⟨by rw [ix_o (by omega), w1], F1.q⟩, fun z => absurd c z⟩
    · refine it_r (I := fun i (u : Int32) => u = Int32.ofNat i ∧ i ≤ j) (j + 1) ⟨rfl, Nat.zero_le _⟩ (by omega) ?_ ?_
      · rintro rec i u hi ⟨rfl, hij⟩ hrec
        have gr := h2.s.a32 (i := i) (by omega)
        rw [E1.2.2.2.1.2.2.1 i (by omega), if_pos (by omega)] at gr
        unfold bd_X9_roundOf_20
        simp only [h2.s.r33, bs, gp, q2, if_neg (o_nneg (show q < 2147483648 by omega)), h2.s.r32, gr]
        have q0 : (0 : Int32) ≤ Int32.ofNat q := by rw [show (0 : Int32) = Int32.ofNat 0 from rfl, i_le (by omega) (by omega)]; omega
        by_cases e : i = j
        · subst e
          rw [if_pos w3, if_pos q0, bs]
          exact ok.pure ⟨fun _ => ⟨by rw [ix_o (by omega), w1], F1.q⟩, fun z => absurd c z⟩
        · rw [if_neg (w4 i (by omega)), i_succ]
          exact hrec _ ⟨rfl, by omega⟩
      · rintro rec u ⟨rfl, hij⟩
        omega
  · rw [fNb c, if_pos (fN c)]
    exact ok.pure ⟨fun z => absurd z c, fun _ => rfl⟩
theorem c_paidBy (h : CQ M x bb sb D) (hG : Gd D) (hT : Tl D) (a a2 : Int32) : ok (f_X8_paidBy M x a a2) (ThrC x bb sb D M (inx a (cn D 1) ∧ inx a2 (cn D 2)) (sP (eqs D) (ix a) (ix a2))) := by
  have lm := h.2.1.n.2.2.1
  have l2 := h.2.1.n.2.2.2
  unfold f_X8_paidBy
  simp only [h.1.r8, bs, h.2.1.g1]
  by_cases c : inx a (cn D 1)
  · obtain ⟨k, hk, rfl⟩ := ix_of (by omega) c
    rw [thB_p (by rw [f_ckx, if_pos c])]
    simp only [h.1.r8, bs, h.2.1.g2]
    by_cases c2 : inx a2 (cn D 2)
    · obtain ⟨k2, hk2, rfl⟩ := ix_of (by omega) c2
      rw [thB_p (by rw [f_ckx, if_pos c2]), h.1.c, bs]
      refine ok.seq (f_eNow h hG hT) ?_
      rintro ⟨o, M1⟩ ⟨rfl, C1, h1, E1⟩
      dsimp only at C1 h1 E1 ⊢
      obtain ⟨ra, rb, a1, a2, -⟩ := E1
      have R : RC M1 ra D (eqs D) := a2.1
      simp only [a1.r0, bs, a1.a.r1, a1.a.q1 (show k < 12 by omega), a1.a.a1 (show k < 12 by omega) (show k2 < 24 by omega), R.2.1 k (by omega) k2 hk2]
      exact ok.pure ⟨fun _ => ⟨by rw [ix_o (by omega), ix_o (by omega)], C1, h1⟩, fun z => absurd ⟨c, c2⟩ z⟩
    · rw [thB_n (by rw [f_ckx, if_neg c2])]
      exact ok.pure ⟨fun z => absurd z.2 c2, fun _ => rfl⟩
  · rw [thB_n (by rw [f_ckx, if_neg c])]
    exact ok.pure ⟨fun z => absurd z.1 c, fun _ => rfl⟩
theorem q_paidBy (h : IsM M m D) (hG : Gd D) (hT : Tl D) (hL : mI M m 37 = 12) (a a2 : Int32) : ok (f_X9_paidBy M m a a2) (ThrM m M (inx a (cn D 1) ∧ inx a2 (cn D 2)) (sP (eqs D) (ix a) (ix a2))) := by
  have lm := h.n.2.2.1
  have l2 := h.n.2.2.2
  unfold f_X9_paidBy
  simp only [h.s.c, bs, m_isP h, m_isV h, b2i_ite, is_, and_b, m_fails h.s]
  by_cases c : inx a (cn D 1) ∧ inx a2 (cn D 2)
  · obtain ⟨k, hk, rfl⟩ := ix_of (by omega) c.1
    obtain ⟨k2, hk2, rfl⟩ := ix_of (by omega) c.2
    have h1 : IsM (sI M m 4 0) m D := h.sIo (by omega) _
    rw [fYb c, if_neg (fY c), h1.s.c, bs]
    refine ok.seq (m_equal h1 hG hT (by rw [i_sI, if_neg (by omega)]; exact hL)) ?_
    rintro M1 ⟨F1, E1⟩
    have h2 := h1.mg F1
    simp only [h2.s.r34, bs, ml24, h2.s.a34 (show 24 * k + k2 < 288 by omega), E1.2.1 k (by omega) k2 hk2]
    exact ok.pure ⟨fun _ => ⟨by rw [ix_o (by omega), ix_o (by omega)], F1.q⟩, fun z => absurd c z⟩
  · rw [fNb c, if_pos (fN c)]
    exact ok.pure ⟨fun z => absurd z c, fun _ => rfl⟩
theorem c_purseLeft (h : CQ M x bb sb D) (hG : Gd D) (hT : Tl D) (a a2 : Int32) : ok (f_X8_purseLeft M x a a2) (ThrC x bb sb D M (inx a (cn D 2) ∧ inx a2 (cn D 0)) (sH (eqs D) (ix a) (ix a2))) := by
  have lm := h.2.1.n.2.1
  have l2 := h.2.1.n.2.2.2
  unfold f_X8_purseLeft
  simp only [h.1.r8, bs, h.2.1.g2]
  by_cases c : inx a (cn D 2)
  · obtain ⟨k, hk, rfl⟩ := ix_of (by omega) c
    rw [thB_p (by rw [f_ckx, if_pos c])]
    simp only [h.1.r8, bs, h.2.1.g0]
    by_cases c2 : inx a2 (cn D 0)
    · obtain ⟨k2, hk2, rfl⟩ := ix_of (by omega) c2
      rw [thB_p (by rw [f_ckx, if_pos c2]), h.1.c, bs]
      refine ok.seq (f_eNow h hG hT) ?_
      rintro ⟨o, M1⟩ ⟨rfl, C1, h1, E1⟩
      dsimp only at C1 h1 E1 ⊢
      obtain ⟨ra, rb, a1, a2, -⟩ := E1
      have R : RC M1 ra D (eqs D) := a2.1
      simp only [a1.r0, bs, a1.a.r0, a1.a.q0 (show k < 24 by omega), a1.a.a0 (show k < 24 by omega) (show k2 < 4 by omega), R.1 k hk k2 hk2]
      exact ok.pure ⟨fun _ => ⟨by rw [ix_o (by omega), ix_o (by omega)], C1, h1⟩, fun z => absurd ⟨c, c2⟩ z⟩
    · rw [thB_n (by rw [f_ckx, if_neg c2])]
      exact ok.pure ⟨fun z => absurd z.2 c2, fun _ => rfl⟩
  · rw [thB_n (by rw [f_ckx, if_neg c])]
    exact ok.pure ⟨fun z => absurd z.1 c, fun _ => rfl⟩
theorem q_purseLeft (h : IsM M m D) (hG : Gd D) (hT : Tl D) (hL : mI M m 37 = 12) (a a2 : Int32) : ok (f_X9_purseLeft M m a a2) (ThrM m M (inx a (cn D 2) ∧ inx a2 (cn D 0)) (sH (eqs D) (ix a) (ix a2))) := by
  have lm := h.n.2.1
  have l2 := h.n.2.2.2
  unfold f_X9_purseLeft
  simp only [h.s.c, bs, m_isV h, m_isD h, b2i_ite, is_, and_b, m_fails h.s]
  by_cases c : inx a (cn D 2) ∧ inx a2 (cn D 0)
  · obtain ⟨k, hk, rfl⟩ := ix_of (by omega) c.1
    obtain ⟨k2, hk2, rfl⟩ := ix_of (by omega) c.2
    have h1 : IsM (sI M m 4 0) m D := h.sIo (by omega) _
    rw [fYb c, if_neg (fY c), h1.s.c, bs]
    refine ok.seq (m_equal h1 hG hT (by rw [i_sI, if_neg (by omega)]; exact hL)) ?_
    rintro M1 ⟨F1, E1⟩
    have h2 := h1.mg F1
    simp only [h2.s.r29, bs, ml4, h2.s.a29 (show 4 * k + k2 < 96 by omega), E1.1 k hk k2 hk2]
    exact ok.pure ⟨fun _ => ⟨by rw [ix_o (by omega), ix_o (by omega)], F1.q⟩, fun z => absurd c z⟩
  · rw [fNb c, if_pos (fN c)]
    exact ok.pure ⟨fun z => absurd z c, fun _ => rfl⟩
noncomputable def spt (D : Bl) (v : Nat) : Int32 := sm (cn D 1) fun p => sP (eqs D) p v
noncomputable def pys (D : Bl) (p : Nat) : Int32 := fo (fun v a => if sP (eqs D) p v ≤ 0 then a else a ||| bt v) (cn D 2) 0
theorem c_spentBy (h : CQ M x bb sb D) (hG : Gd D) (hT : Tl D) (a : Int32) : ok (f_X8_spentBy M x a) (ThrC x bb sb D M (inx a (cn D 2)) (spt D (ix a))) := by
  have lm := h.2.1.n.2.2.2
  have l1 := h.2.1.n.2.2.1
  unfold f_X8_spentBy
  simp only [h.1.r8, bs, h.2.1.g2]
  by_cases c : inx a (cn D 2)
  · obtain ⟨k, hk, rfl⟩ := ix_of (by omega) c
    rw [thB_p (by rw [f_ckx, if_pos c]), h.1.c, bs]
    refine ok.seq (f_eNow h hG hT) ?_
    rintro ⟨o, M1⟩ ⟨rfl, C1, h1, E1⟩
    dsimp only at C1 h1 E1 ⊢
    obtain ⟨ra, rb, a1, a2, -⟩ := E1
    have R : RC M1 ra D (eqs D) := a2.1
    rw [a1.r0, bs]
    have key : ∀ kk : Int32 × Int32 → Option (Option Int32 × Mem), it_ (bd_X8_spentBy_24 x (Int32.ofNat k) (x + 8, M1) ra kk) FU (0, 0) = kk (spt D k, Int32.ofNat (cn D 1)) := fun kk => by
      refine it_s (k := fun a => kk (a, Int32.ofNat (cn D 1))) (cn D 1) _ h.2.1.n.m1 (fun rec i z hi => ?_) (fun rec z => ?_)
      · unfold bd_X8_spentBy_24
        simp only [h1.1.r8, bs, h1.2.1.g1, ile_n hi h.2.1.n.l1, a1.a.r1, a1.a.q1 (show i < 12 by omega), a1.a.a1 (show i < 12 by omega) (show k < 24 by omega), R.2.1 i (by omega) k hk, ltq, i_succ]
      · unfold bd_X8_spentBy_24
        simp only [h1.1.r8, bs, h1.2.1.g1, ile_e]
    rw [key]
    exact ok.pure ⟨fun _ => ⟨by rw [ix_o (by omega)], C1, h1⟩, fun z => absurd c z⟩
  · rw [thB_n (by rw [f_ckx, if_neg c])]
    exact ok.pure ⟨fun z => absurd z c, fun _ => rfl⟩
theorem q_spentBy (h : IsM M m D) (hG : Gd D) (hT : Tl D) (hL : mI M m 37 = 12) (a : Int32) : ok (f_X9_spentBy M m a) (ThrM m M (inx a (cn D 2)) (spt D (ix a))) := by
  have lm := h.n.2.2.2
  have l1 := h.n.2.2.1
  unfold f_X9_spentBy
  simp only [h.s.c, bs, m_isV h, m_fails h.s, b2i_ite]
  by_cases c : inx a (cn D 2)
  · obtain ⟨k, hk, rfl⟩ := ix_of (by omega) c
    have h1 : IsM (sI M m 4 0) m D := h.sIo (by omega) _
    rw [fYb c, if_neg (fY c), h1.s.c, bs]
    refine ok.seq (m_equal h1 hG hT (by rw [i_sI, if_neg (by omega)]; exact hL)) ?_
    rintro M1 ⟨F1, E1⟩
    have h2 := h1.mg F1
    have key : ∀ kk : Int32 × Int32 → Option (Int32 × Mem), it_ (bd_X9_spentBy_22 m (Int32.ofNat k) M1 kk) FU (0, 0) = kk (spt D k, Int32.ofNat (cn D 1)) := fun kk => by
      refine it_s (k := fun a => kk (a, Int32.ofNat (cn D 1))) (cn D 1) _ h.n.m1 (fun rec i z hi => ?_) (fun rec z => ?_)
      · unfold bd_X9_spentBy_22
        simp only [h2.g6, bs, ile_n hi h.n.l1, h2.s.r34, ml24, h2.s.a34 (show 24 * i + k < 288 by omega), E1.2.1 i (by omega) k hk, ltq, i_succ]
      · unfold bd_X9_spentBy_22
        simp only [h2.g6, bs, ile_e]
    rw [key]
    exact ok.pure ⟨fun _ => ⟨by rw [ix_o (by omega)], F1.q⟩, fun z => absurd c z⟩
  · rw [fNb c, if_pos (fN c)]
    exact ok.pure ⟨fun z => absurd z c, fun _ => rfl⟩
theorem c_payers (h : CQ M x bb sb D) (hG : Gd D) (hT : Tl D) (a : Int32) : ok (f_X8_payers M x a) (ThrC x bb sb D M (inx a (cn D 1)) (pys D (ix a))) := by
  have lm := h.2.1.n.2.2.2
  have l1 := h.2.1.n.2.2.1
  unfold f_X8_payers
  simp only [h.1.r8, bs, h.2.1.g1]
  by_cases c : inx a (cn D 1)
  · obtain ⟨k, hk, rfl⟩ := ix_of (by omega) c
    rw [thB_p (by rw [f_ckx, if_pos c]), h.1.c, bs]
    refine ok.seq (f_eNow h hG hT) ?_
    rintro ⟨o, M1⟩ ⟨rfl, C1, h1, E1⟩
    dsimp only at C1 h1 E1 ⊢
    obtain ⟨ra, rb, a1, a2, -⟩ := E1
    have R : RC M1 ra D (eqs D) := a2.1
    rw [a1.r0, bs]
    have key : ∀ kk : Int32 × Int32 → Option (Option Int32 × Mem), it_ (bd_X8_payers_24 x (Int32.ofNat k) (x + 8, M1) ra kk) FU (0, 0) = kk (pys D k, Int32.ofNat (cn D 2)) := fun kk => by
      refine it_c (k := fun a => kk (a, Int32.ofNat (cn D 2))) (cn D 2) _ 0 h.2.1.n.m2 (fun rec i hi => ?_) (fun rec => ?_)
      · unfold bd_X8_payers_24
        simp only [h1.1.r8, bs, h1.2.1.g2, ile_n hi h.2.1.n.l2, a1.a.r1, a1.a.q1 (show k < 12 by omega), a1.a.a1 (show k < 12 by omega) (show i < 24 by omega), R.2.1 k (by omega) i hi, is_, ltq, i_succ]
        rfl
      · unfold bd_X8_payers_24
        simp only [h1.1.r8, bs, h1.2.1.g2, ile_e]
    rw [key]
    exact ok.pure ⟨fun _ => ⟨by rw [ix_o (by omega)], C1, h1⟩, fun z => absurd c z⟩
  · rw [thB_n (by rw [f_ckx, if_neg c])]
    exact ok.pure ⟨fun z => absurd z c, fun _ => rfl⟩
theorem or_ite0 (c : Prop) [Decidable c] (a y : Int32) : a ||| (if c then 0 else y) = if c then a else a ||| y := by split <;> simp
theorem q_payers (h : IsM M m D) (hG : Gd D) (hT : Tl D) (hL : mI M m 37 = 12) (a : Int32) : ok (f_X9_payers M m a) (ThrM m M (inx a (cn D 1)) (pys D (ix a))) := by
  have lm := h.n.2.2.2
  have l1 := h.n.2.2.1
  unfold f_X9_payers
  simp only [h.s.c, bs, m_isP h, m_fails h.s, b2i_ite]
  by_cases c : inx a (cn D 1)
  · obtain ⟨k, hk, rfl⟩ := ix_of (by omega) c
    have h1 : IsM (sI M m 4 0) m D := h.sIo (by omega) _
    rw [fYb c, if_neg (fY c), h1.s.c, bs]
    refine ok.seq (m_equal h1 hG hT (by rw [i_sI, if_neg (by omega)]; exact hL)) ?_
    rintro M1 ⟨F1, E1⟩
    have h2 := h1.mg F1
    have key : ∀ kk : Int32 × Int32 → Option (Int32 × Mem), it_ (bd_X9_payers_22 m (Int32.ofNat k) M1 kk) FU (0, 0) = kk (pys D k, Int32.ofNat (cn D 2)) := fun kk => by
      refine it_c (k := fun a => kk (a, Int32.ofNat (cn D 2))) (cn D 2) _ 0 h.n.m2 (fun rec i hi => ?_) (fun rec => ?_)
      · unfold bd_X9_payers_22
        simp only [h2.g7, bs, ile_n hi h.n.l2, h2.s.r34, ml24, h2.s.a34 (show 24 * k + i < 288 by omega), E1.2.1 k (by omega) i hi, is_, ltq, or_ite0, i_succ]
        rfl
      · unfold bd_X9_payers_22
        simp only [h2.g7, bs, ile_e]
    rw [key]
    exact ok.pure ⟨fun _ => ⟨by rw [ix_o (by omega)], F1.q⟩, fun z => absurd c z⟩
  · rw [fNb c, if_pos (fN c)]
    exact ok.pure ⟨fun z => absurd z c, fun _ => rfl⟩
end
