/-! ===== questions of the rules: what can be paid, the best sets ===== -/
section
variable {M M' : Mem} {x m bb sb : Nat} {D : Bl}
theorem b_neg : ∀ n, n < 13 → ∀ i, i < 32 → bi (-(bt n)) i = decide (n ≤ i) := by decide +kernel
theorem out_hi {v : Int32} {n : Nat} (hn : n < 13) : v &&& (-(bt n)) = 0 ↔ ∃ s, s < 2 ^ n ∧ v = Int32.ofNat s := by
  constructor
  · intro h
    refine set_N (by omega) fun i h1 h2 => ?_
    have e := congrArg (fun z => bi z i) h
    rw [b_and, b_neg n hn i h2, decide_eq_true h1, Bool.and_true, b_0] at e
    rw [hs_bi h2]; exact e
  · rintro ⟨s, h1, rfl⟩
    refine b_ext fun i hi => ?_
    rw [b_and, b_neg n hn i hi, b_0, ← hs_bi hi, hs_N _ hi]
    by_cases c : n ≤ i
    · have := Nat.pow_le_pow_right (show 0 < 2 by omega) c
      rw [Nat.testBit_lt_two_pow (by omega)]; rfl
    · rw [decide_eq_false c, Bool.and_false]
theorem sh_hi {v : Int32} {n : Nat} (hn : n < 13) : v >>> (Int32.ofNat n &&& 31) = 0 ↔ ∃ s, s < 2 ^ n ∧ v = Int32.ofNat s := by
  constructor
  · intro h
    refine set_N (by omega) fun i h1 h2 => ?_
    have e := congrArg (fun z => bi z (i - n)) h
    have e2 := b_sshr n (show n < 32 by omega) v (show i - n < 32 by omega)
    rw [show nI n = Int32.ofNat n from rfl] at e2
    rw [e2, b_0, if_pos (by omega), show n + (i - n) = i by omega] at e
    rw [hs_bi h2]; exact e
  · rintro ⟨s, h1, rfl⟩
    have big : ∀ i, n ≤ i → i < 32 → bi (Int32.ofNat s) i = false := fun i h2 h3 => by
      have := Nat.pow_le_pow_right (show 0 < 2 by omega) h2
      rw [← hs_bi h3, hs_N _ h3, Nat.testBit_lt_two_pow (by omega)]
    refine b_ext fun i hi => ?_
    have e2 := b_sshr n (show n < 32 by omega) (Int32.ofNat s) hi
    rw [show nI n = Int32.ofNat n from rfl] at e2
    rw [e2, b_0]
    split
    · exact big _ (by omega) (by omega)
    · exact big _ (by omega) (by omega)
noncomputable def cbp (D : Bl) (v : Int32) : Int32 := by
  classical exact if (∃ s, s < 2 ^ cn D 1 ∧ v = Int32.ofNat s) then b2i (cp D v) else 0
theorem c_canBePaid (h : CQ M x bb sb D) (v : Int32) : ok (f_X8_canBePaid M x v) (RetC x bb sb D M (cbp D v)) := by
  classical
  have l1 := h.2.1.n.2.2.1
  unfold f_X8_canBePaid cbp
  rw [h.1.r8, bs, h.2.1.g1, bs, show (1 : Int32) <<< (Int32.ofNat (cn D 1) &&& 31) = bt (cn D 1) from rfl]
  by_cases c : ∃ s, s < 2 ^ cn D 1 ∧ v = Int32.ofNat s
  · rw [if_pos ((out_hi (by omega)).mpr c), if_pos c]
    obtain ⟨s, h1, rfl⟩ := c
    rw [h.1.c, bs]
    refine ok.bind (ok.seq (f_oNow h) ?_)
    rintro ⟨o, M1⟩ ⟨rfl, C1, h1', O1, -⟩
    dsimp only at C1 h1' O1 ⊢
    have io := h1'.2.2.2.2.2.2.2.1
    rw [io.c, bs, f_cp io h1'.2.1.n O1 h1, bs, b2i_ite]
    cases cp D (Int32.ofNat s)
    · exact ok.pure (ok.pure ⟨rfl, C1, h1'⟩)
    · exact ok.pure (ok.pure ⟨rfl, C1, h1'⟩)
  · rw [if_neg (fun z => c ((out_hi (by omega)).mp z)), if_neg c]
    exact ok.pure ⟨rfl, Cq.rf, h⟩
theorem q_canBePaid (h : IsM M m D) (v : Int32) : ok (f_X9_canBePaid M m v) (RetM m M (cbp D v)) := by
  classical
  have l1 := h.n.2.2.1
  have h1 : IsM (sI M m 4 0) m D := h.sIo (by omega) _
  unfold f_X9_canBePaid cbp
  rw [h.s.p, bs, h1.g6, bs]
  by_cases c : ∃ s, s < 2 ^ cn D 1 ∧ v = Int32.ofNat s
  · rw [if_pos ((sh_hi (by omega)).mpr c), if_pos c, h1.s.c, bs, m_pay h1, bs, b2i_ite]
    cases cp D v
    · exact ok.pure ⟨rfl, Mq.rf⟩
    · exact ok.pure ⟨rfl, Mq.rf⟩
  · rw [if_neg (fun z => c ((sh_hi (by omega)).mp z)), if_neg c]
    exact ok.pure ⟨rfl, Mq.rf⟩
/-- the least of the sets, worth nothing -/
theorem vl_0 (hD : Cn D) : vl D 0 = 0 := by
  have l1 := hD.2.2.1
  have : vl D 0 = sm 0 (fun _ => 0) := sm_ext _ (Nat.zero_le _) fun i _ hi => by
    show (if hs 0 (Int32.ofNat i) = true then _ else _) = _
    rw [hs_0 (by omega)]
    rfl
  rw [this]; rfl
theorem c_bestWithout (h : CQ M x bb sb D) (a : Int32) : ok (f_X8_bestWithout M x a) (ThrC x bb sb D M (inx a (cn D 1)) (vl D (bst D (bt (ix a)))).toInt64) := by
  have l1 := h.2.1.n.2.2.1
  have P1 := p2_le l1
  have e12 : 2 ^ 12 = 4096 := rfl
  have pos1 : 0 < 2 ^ cn D 1 := Nat.two_pow_pos _
  unfold f_X8_bestWithout
  simp only [h.1.r8, bs, h.2.1.g1]
  by_cases c : inx a (cn D 1)
  · obtain ⟨k, hk, rfl⟩ := ix_of (by omega) c
    rw [thB_p (by rw [f_ckx, if_pos c]), h.1.c, bs]
    refine ok.seq (f_oNow h) ?_
    rintro ⟨o, M1⟩ ⟨rfl, C1, h1, O1, -⟩
    dsimp only at C1 h1 O1 ⊢
    have io := h1.2.2.2.2.2.2.2.1
    obtain ⟨t, t1, t2⟩ := bsN_in (D := D) (bt k) (2 ^ cn D 1)
    have t3 : bst D (bt k) = Int32.ofNat t := t2
    have a0 := io.a0 (i := t) (by omega)
    rw [(O1.2.2.1 t (by omega)).1] at a0
    rw [io.r0, bs, io.c, bs, show (1 : Int32) <<< (Int32.ofNat k &&& 31) = bt k from rfl, f_best io h1.2.1.n O1, bs, t3, a0, bs]
    refine ok.pure ⟨fun _ => ⟨?_, C1, h1⟩, fun z => absurd c z⟩
    rw [ix_o (by omega), t3]
  · rw [thB_n (by rw [f_ckx, if_neg c])]
    exact ok.pure ⟨fun z => absurd z c, fun _ => rfl⟩
theorem and_bt {s p : Nat} (hp : p < 12) : (Int32.ofNat s &&& bt p = 0) ↔ ¬ hs (Int32.ofNat s) (Int32.ofNat p) = true := by
  have hb : ∀ i, i < 32 → bi (bt p) i = decide (i = p) := fun i hi => by
    have := hs_fo (fun v => decide (v = p)) (show p + 1 ≤ 32 by omega) hi
    rw [← hs_bi hi, bt_N p (by omega), hs_N _ hi, Nat.testBit_two_pow]
    exact decide_eq_decide.mpr ⟨fun z => z.symm, fun z => z.symm⟩
  constructor
  · intro h z
    have e := congrArg (fun z => bi z p) h
    rw [b_and, hb p (by omega), decide_eq_true rfl, Bool.and_true, b_0, ← hs_bi (by omega), z] at e
    exact Bool.noConfusion e
  · intro h
    refine b_ext fun i hi => ?_
    rw [b_and, hb i hi, b_0]
    by_cases c : i = p
    · subst c
      rw [Bool.not_eq_true, hs_bi hi] at h
      rw [h]; rfl
    · rw [decide_eq_false c, Bool.and_false]
theorem q_bestWithout (h : IsM M m D) (hG : Gd D) (hT : Tl D) (a : Int32) : ok (f_X9_bestWithout M m a) (ThrM m M (inx a (cn D 1)) (vl D (bst D (bt (ix a)))).toInt64) := by
  have l1 := h.n.2.2.1
  have P1 := p2_le l1
  have e12 : 2 ^ 12 = 4096 := rfl
  have pos1 : 0 < 2 ^ cn D 1 := Nat.two_pow_pos _
  have s1 : (1 : Int32) <<< (Int32.ofNat (cn D 1) &&& 31) = Int32.ofNat (2 ^ cn D 1) := bt_N _ (by omega)
  unfold f_X9_bestWithout
  simp only [h.s.c, bs, m_isP h, m_fails h.s, b2i_ite]
  by_cases c : inx a (cn D 1)
  · obtain ⟨k, hk, rfl⟩ := ix_of (by omega) c
    have h1 : IsM (sI M m 4 0) m D := h.sIo (by omega) _
    rw [fYb c, if_neg (fY c), h1.s.c, bs]
    refine ok.seq (m_lay h1) ?_
    rintro M1 ⟨F1, -, hg⟩
    have h2 := h1.mq F1
    refine it_r (I := fun i (u : Int64 × Int32) => u = ((vl D (bsN D (bt k) i)).toInt64, Int32.ofNat i)) (2 ^ cn D 1) ?_ (by omega) ?_ ?_
    · have e0 : bsN D (bt k) 0 = 0 := rfl
      rw [e0, vl_0 h.n]; rfl
    · rintro rec i _ hi rfl hrec
      unfold bd_X9_bestWithout_23
      dsimp only
      simp only [h2.g6, bs, s1, ile_n hi (show 2 ^ cn D 1 < 2147483648 by omega), f_has9, b2i_ite, h2.s.c, m_gain hG hT h2 hg, m_pay h2, is_, i_succ]
      refine hrec _ (Prod.ext ?_ rfl)
      dsimp only
      rw [bsN_s (D := D) (bt k) i]
      generalize bsN D (bt k) i = a
      unfold bsF btr
      obtain ⟨-, -, g3⟩ := lg_32 (vl D (Int32.ofNat i)) (vl D a)
      have ab := and_bt (s := i) (p := k) (by omega)
      by_cases c1 : hs (Int32.ofNat i) (Int32.ofNat k) = true
      · rw [if_pos c1, if_neg (fun z => (ab.mp z.2.1) c1)]
      · have ab' := ab.mpr c1
        rw [if_neg c1]
        by_cases c2 : vl D (Int32.ofNat i) ≤ vl D a
        · rw [if_pos (g3.mpr c2)]
          split
          · rename_i z
            have z1 := z.1
            rw [Bool.or_eq_true, decide_eq_true_eq, Bool.and_eq_true, decide_eq_true_eq] at z1
            rcases z1 with z1 | ⟨z1, -⟩
            · rw [lt_i] at z1; rw [le_i] at c2; omega
            · rw [z1]
          · rfl
        · rw [if_neg (fun z => c2 (g3.mp z))]
          have n1 : vl D a < vl D (Int32.ofNat i) := by rw [le_i] at c2; rw [lt_i]; omega
          by_cases c3 : cp D (Int32.ofNat i) = true
          · rw [if_pos c3, if_pos ⟨by rw [decide_eq_true n1]; rfl, ab', c3⟩]
          · rw [if_neg c3, if_neg (fun z => c3 z.2.2)]
    · rintro rec _ rfl
      unfold bd_X9_bestWithout_23
      dsimp only
      simp only [h2.g6, bs, s1, ile_e]
      exact ok.pure ⟨fun _ => ⟨by rw [ix_o (by omega)]; rfl, F1⟩, fun z => absurd c z⟩
  · rw [fNb c, if_pos (fN c)]
    exact ok.pure ⟨fun z => absurd z c, fun _ => rfl⟩
noncomputable def chp (D : Bl) (v : Int32) : Int32 := if 0 ≤ v then che D v else -2
theorem c_cheapestSet (h : CQ M x bb sb D) (v : Int32) : ok (f_X8_cheapestSet M x v) (RetC x bb sb D M (chp D v)) := by
  unfold f_X8_cheapestSet chp
  by_cases c : 0 ≤ v
  · rw [if_pos c, if_pos c, h.1.c, bs]
    refine ok.bind (ok.seq (f_oNow h) ?_)
    rintro ⟨o, M1⟩ ⟨rfl, C1, h1, O1, -⟩
    dsimp only at C1 h1 O1 ⊢
    have io := h1.2.2.2.2.2.2.2.1
    rw [io.c, bs, f_che io h1.2.1.n O1, bs]
    exact ok.pure (ok.pure ⟨rfl, C1, h1⟩)
  · rw [if_neg c, if_neg c]
    exact ok.pure ⟨rfl, Cq.rf, h⟩
theorem q_cheapestSet (h : IsM M m D) (hG : Gd D) (hT : Tl D) (v : Int32) : ok (f_X9_cheapestSet M m v) (RetM m M (chp D v)) := by
  have l1 := h.n.2.2.1
  have P1 := p2_le l1
  have e12 : 2 ^ 12 = 4096 := rfl
  have pos1 : 0 < 2 ^ cn D 1 := Nat.two_pow_pos _
  have s1 : (1 : Int32) <<< (Int32.ofNat (cn D 1) &&& 31) = Int32.ofNat (2 ^ cn D 1) := bt_N _ (by omega)
  have h1 : IsM (sI M m 4 0) m D := h.sIo (by omega) _
  unfold f_X9_cheapestSet chp
  rw [h.s.p, bs]
  by_cases c : 0 ≤ v
  · rw [if_pos c, if_pos c, h1.s.c, bs]
    refine ok.seq (m_lay h1) ?_
    rintro M1 ⟨F1, -, hg⟩
    have h2 := h1.mq F1
    rw [ltq]
    refine it_r (I := fun i (u : Int32 × Int32) => u = (cheN D v i, Int32.ofNat i)) (2 ^ cn D 1) rfl (by omega) ?_ ?_
    · rintro rec i _ hi rfl hrec
      unfold bd_X9_cheapestSet_20 jn_
      dsimp only
      simp only [h2.g6, bs, s1, ile_n hi (show 2 ^ cn D 1 < 2147483648 by omega), b2i_ite, h2.s.c, m_gain hG hT h2 hg, m_pay h2, m_ct h2, is_, i_succ]
      refine hrec _ (Prod.ext ?_ rfl)
      dsimp only
      rw [cheN_s (D := D) v i]
      generalize cheN D v i = a
      unfold chF_
      obtain ⟨g1, -, -⟩ := lg_32 (vl D (Int32.ofNat i)) v
      by_cases c1 : vl D (Int32.ofNat i) < v
      · rw [if_pos (g1.mpr c1), if_neg (fun z => z.1 c1)]
      · rw [if_neg (fun z => c1 (g1.mp z))]
        by_cases c2 : a < 0
        · rw [if_pos c2]
          by_cases c3 : cp D (Int32.ofNat i) = true
          · rw [if_pos c3, if_pos ⟨c1, Or.inl c2, c3⟩]
          · rw [if_neg c3, if_neg (fun z => c3 z.2.2)]
        · rw [if_neg c2]
          by_cases c4 : ct D a ≤ ct D (Int32.ofNat i)
          · rw [if_pos c4, if_neg]
            rintro ⟨-, z | z, -⟩
            · exact c2 z
            · rw [lt_i] at z; rw [le_i] at c4; omega
          · rw [if_neg c4]
            have c5 : ct D (Int32.ofNat i) < ct D a := by rw [le_i] at c4; rw [lt_i]; omega
            by_cases c3 : cp D (Int32.ofNat i) = true
            · rw [if_pos c3, if_pos ⟨c1, Or.inr c5, c3⟩]
            · rw [if_neg c3, if_neg (fun z => c3 z.2.2)]
    · rintro rec _ rfl
      unfold bd_X9_cheapestSet_20
      dsimp only
      simp only [h2.g6, bs, s1, ile_e]
      exact ok.pure ⟨rfl, F1⟩
  · rw [if_neg c, if_neg c]
    exact ok.pure ⟨rfl, Mq.rf⟩
end
