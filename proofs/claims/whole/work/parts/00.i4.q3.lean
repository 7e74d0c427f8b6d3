/-! ===== more questions of the rounds ===== -/
section
variable {M M' : Mem} {x m bb sb : Nat} {D : Bl}
def RetC {α : Type} (x bb sb : Nat) (D : Bl) (M : Mem) (v : α) (o : α × Mem) : Prop := o.1 = v ∧ Cq x M o.2 ∧ CQ o.2 x bb sb D
def RetM {α : Type} (m : Nat) (M : Mem) (v : α) (o : α × Mem) : Prop := o.1 = v ∧ Mq m (sI M m 4 0) o.2
theorem c_meansLeft (h : CQ M x bb sb D) (hG : Gd D) (hT : Tl D) (a : Int32) : ok (f_X8_meansLeft M x a) (ThrC x bb sb D M (inx a (cn D 1)) (allM D (sH (eqs D)) (ix a))) := by
  have lm := h.2.1.n.2.2.2
  have l1 := h.2.1.n.2.2.1
  have l0 := h.2.1.n.2.1
  unfold f_X8_meansLeft
  simp only [h.1.r8, bs, h.2.1.g1]
  by_cases c : inx a (cn D 1)
  · obtain ⟨k, hk, rfl⟩ := ix_of (by omega) c
    rw [thB_p (by rw [f_ckx, if_pos c]), h.1.c, bs]
    refine ok.seq (f_eNow h hG hT) ?_
    rintro ⟨o, M1⟩ ⟨rfl, C1, h1, E1⟩
    dsimp only at C1 h1 E1 ⊢
    obtain ⟨ra, rb, a1, a2, -⟩ := E1
    have R : RC M1 ra D (eqs D) := a2.1
    rw [a1.r0, bs]
    have key : ∀ kk : Int32 × Int32 → Option (Option Int32 × Mem), it_ (bd_X8_meansLeft_24 x (Int32.ofNat k) (x + 8, M1) ra kk) FU (0, 0) = kk (allM D (sH (eqs D)) k, Int32.ofNat (cn D 2)) := fun kk => by
      refine it_s (k := fun a => kk (a, Int32.ofNat (cn D 2))) (cn D 2) _ h.2.1.n.m2 (fun rec i z hi => ?_) (fun rec z => ?_)
      · have e10 : hs (D 10 k) (Int32.ofNat i) = sp D i k := by rw [hT.1, hs_bk h.2.1.n hi]
        have hm : f_X6_means M1 ra (Int32.ofNat i) (D 5 k) = some (mn D (sH (eqs D)) i (D 5 k)) := f_mn a1.a (by omega) l0 (fun d hd => R.1 i hi d hd) (hG.2.2.1 k hk).2
        unfold bd_X8_meansLeft_24
        simp only [h1.1.r8, bs, h1.2.1.g2, ile_n hi h.2.1.n.l2, h1.2.1.s.r10, h1.2.1.a10 hk, f_has8, e10, b2i_ite, h1.2.1.s.r5, h1.2.1.a5 hk, a1.a.c, hm, ltq, is_, add_ite, i_succ]
        rfl
      · unfold bd_X8_meansLeft_24
        simp only [h1.1.r8, bs, h1.2.1.g2, ile_e]
    rw [key]
    exact ok.pure ⟨fun _ => ⟨by rw [ix_o (by omega)], C1, h1⟩, fun z => absurd c z⟩
  · rw [thB_n (by rw [f_ckx, if_neg c])]
    exact ok.pure ⟨fun z => absurd z c, fun _ => rfl⟩
theorem q_meansLeft (h : IsM M m D) (hG : Gd D) (hT : Tl D) (hL : mI M m 37 = 12) (a : Int32) : ok (f_X9_meansLeft M m a) (ThrM m M (inx a (cn D 1)) (allM D (sH (eqs D)) (ix a))) := by
  have lm := h.n.2.2.1
  unfold f_X9_meansLeft
  simp only [h.s.c, bs, m_isP h, m_fails h.s, b2i_ite]
  by_cases c : inx a (cn D 1)
  · obtain ⟨k, hk, rfl⟩ := ix_of (by omega) c
    have h1 : IsM (sI M m 4 0) m D := h.sIo (by omega) _
    rw [fYb c, if_neg (fY c), h1.s.c, bs]
    refine ok.seq (m_equal h1 hG hT (by rw [i_sI, if_neg (by omega)]; exact hL)) ?_
    rintro M1 ⟨F1, E1⟩
    have h2 := h1.mg F1
    rw [h2.s.c, bs, m_all h2 E1.1 hk, bs]
    exact ok.pure ⟨fun _ => ⟨by rw [ix_o (by omega)], F1.q⟩, fun z => absurd c z⟩
  · rw [fNb c, if_pos (fN c)]
    exact ok.pure ⟨fun z => absurd z c, fun _ => rfl⟩
noncomputable def hld (D : Bl) (v : Nat) : Int32 := mn D (sH (eqs D)) v (D 7 v)
noncomputable def rich (D : Bl) : Int32 := amx (hld D) (cn D 2)
theorem c_richest (h : CQ M x bb sb D) (hG : Gd D) (hT : Tl D) : ok (f_X8_richest M x) (RetC x bb sb D M (rich D)) := by
  have lm := h.2.1.n.2.2.2
  have l0 := h.2.1.n.2.1
  unfold f_X8_richest
  rw [h.1.c, bs]
  refine ok.seq (f_eNow h hG hT) ?_
  rintro ⟨o, M1⟩ ⟨rfl, C1, h1, E1⟩
  dsimp only at C1 h1 E1 ⊢
  obtain ⟨ra, rb, a1, a2, -⟩ := E1
  have R : RC M1 ra D (eqs D) := a2.1
  rw [a1.r0, bs, ltq]
  have key := it_eq (F := bd_X8_richest_15 x (x + 8, M1) ra fun (e5 : Int32 × Int32 × Int32) => some (e5.1, M1)) (k := some (rich D, M1)) (st := fun i => (amx (hld D) i, (if amx (hld D) i < 0 then 0 else hld D (ix (amx (hld D) i))), Int32.ofNat i)) (cn D 2) (x := ((-1 : Int32), (0 : Int32), (0 : Int32))) rfl h.2.1.n.m2 ?_ ?_
  · rw [key]
    exact ok.pure ⟨rfl, C1, h1⟩
  · intro rec i hi
    have hm : f_X6_means M1 ra (Int32.ofNat i) (D 7 i) = some (hld D i) := f_mn a1.a (by omega) l0 (fun d hd => R.1 i hi d hd) (hG.2.2.2.1 i hi).2
    unfold bd_X8_richest_15
    simp only [h1.1.r8, bs, h1.2.1.g2, ile_n hi h.2.1.n.l2, h1.2.1.s.r7, h1.2.1.a7 hi, a1.a.c, hm, is_, i_succ]
    have own : (if Int32.ofNat i < 0 then 0 else hld D (ix (Int32.ofNat i))) = hld D i := by rw [if_neg (o_nneg (by omega)), ix_o (by omega)]
    rcases amx_in (hld D) i with e | ⟨q, hq, e⟩
    · rw [amx_s, e, if_pos m1_neg, if_pos m1_neg, own]
    · have oq : (if Int32.ofNat q < 0 then 0 else hld D (ix (Int32.ofNat q))) = hld D q := by rw [if_neg (o_nneg (by omega)), ix_o (by omega)]
      rw [amx_s, e, if_neg (o_nneg (by omega)), if_neg (o_nneg (by omega)), if_neg (o_nneg (by omega)), ix_o (by omega)]
      by_cases c : hld D i ≤ hld D q
      · rw [if_pos c, if_neg (show ¬ hld D q < hld D i by rw [lt_i]; rw [le_i] at c; omega), oq]
      · rw [if_neg c, if_pos (show hld D q < hld D i by rw [lt_i]; rw [le_i] at c; omega), own]
  · intro rec
    unfold bd_X8_richest_15
    simp only [h1.1.r8, bs, h1.2.1.g2, ile_e]
    rfl
theorem m_held (h : IsM M m D) (hG : Gd D) (hH : MH M m D (sH (eqs D))) {v : Nat} (hv : v < cn D 2) : f_X9_heldBy M m (Int32.ofNat v) = some (hld D v) := by
  have l0 := h.n.2.1
  have l2 := h.n.2.2.2
  obtain ⟨-, hN, -⟩ := eqs_ok hG
  unfold f_X9_heldBy
  refine it_s (k := fun a => some a) (cn D 0) _ h.n.m0 (fun rec i z hi => ?_) (fun rec z => ?_)
  · have g := h.s.a29 (i := 4 * v + i) (by omega)
    rw [hH v hv i hi] at g
    unfold bd_X9_heldBy_4
    simp only [h.g5, bs, ile_n hi h.n.l0, h.s.r29, ml4, g, ltq, i_succ]
    by_cases c : hs (D 7 v) (Int32.ofNat i) = true
    · rw [if_pos c]
    · rw [if_neg c, hN v hv i hi c]
  · unfold bd_X9_heldBy_4
    simp only [h.g5, bs, ile_e]
theorem q_richest (h : IsM M m D) (hG : Gd D) (hT : Tl D) (hL : mI M m 37 = 12) : ok (f_X9_richest M m) (RetM m M (rich D)) := by
  have lm := h.n.2.2.2
  unfold f_X9_richest
  have h1 : IsM (sI M m 4 0) m D := h.sIo (by omega) _
  rw [h.s.p, bs, h1.s.c, bs]
  refine ok.seq (m_equal h1 hG hT (by rw [i_sI, if_neg (by omega)]; exact hL)) ?_
  rintro M1 ⟨F1, E1⟩
  have h2 := h1.mg F1
  rw [ltq]
  have key : ∀ kk : Int32 × Int32 → Option (Int32 × Mem), it_ (bd_X9_richest_13 m M1 kk) FU (-1, 0) = kk (rich D, Int32.ofNat (cn D 2)) := fun kk => by
    refine it_c (k := fun a => kk (a, Int32.ofNat (cn D 2))) (cn D 2) _ (-1) h.n.m2 (fun rec i hi => ?_) (fun rec => ?_)
    · rw [show fo (fun v f => if f < 0 then Int32.ofNat v else if hld D (ix f) < hld D v then Int32.ofNat v else f) i (-1) = amx (hld D) i from rfl, show fo (fun v f => if f < 0 then Int32.ofNat v else if hld D (ix f) < hld D v then Int32.ofNat v else f) (i + 1) (-1) = amx (hld D) (i + 1) from rfl]
      unfold bd_X9_richest_13
      simp only [h2.g7, bs, ile_n hi h.n.l2, i_succ]
      rcases amx_in (hld D) i with e | ⟨q, hq, e⟩
      · rw [amx_s, e, if_pos m1_neg, if_pos m1_neg, bs]
      · rw [amx_s, e, if_neg (o_nneg (by omega)), if_neg (o_nneg (by omega)), ix_o (by omega)]
        simp only [h2.s.c, bs, m_held h2 hG E1.1 hi, m_held h2 hG E1.1 (show q < cn D 2 by omega), is_]
        by_cases c : hld D i ≤ hld D q
        · rw [if_pos c, if_neg (show ¬ hld D q < hld D i by rw [lt_i]; rw [le_i] at c; omega)]
        · rw [if_neg c, if_pos (show hld D q < hld D i by rw [lt_i]; rw [le_i] at c; omega)]
    · unfold bd_X9_richest_13
      simp only [h2.g7, bs, ile_e]
  rw [key]
  exact ok.pure ⟨rfl, F1.q⟩
theorem c_raises (h : CQ M x bb sb D) (hG : Gd D) (hT : Tl D) : ok (f_X8_raises M x) (RetC x bb sb D M (Int32.ofNat (eqk D))) := by
  unfold f_X8_raises
  rw [h.1.c, bs]
  refine ok.seq (f_eNow h hG hT) ?_
  rintro ⟨o, M1⟩ ⟨rfl, C1, h1, E1⟩
  dsimp only at C1 h1 E1 ⊢
  obtain ⟨ra, rb, a1, a2, a3, a4, a5, a6⟩ := E1
  rw [a1.gi, bs, a5]
  exact ok.pure ⟨rfl, C1, h1⟩
theorem q_raises (h : IsM M m D) (hG : Gd D) (hT : Tl D) (hL : mI M m 37 = 12) : ok (f_X9_raises M m) (RetM m M (Int32.ofNat (eqk D))) := by
  unfold f_X9_raises
  have h1 : IsM (sI M m 4 0) m D := h.sIo (by omega) _
  rw [h.s.p, bs, h1.s.c, bs]
  refine ok.seq (m_equal h1 hG hT (by rw [i_sI, if_neg (by omega)]; exact hL)) ?_
  rintro M1 ⟨F1, E1⟩
  have h2 := h1.mg F1
  rw [h2.s.gi, bs, E1.2.2.2.2.2]
  exact ok.pure ⟨rfl, F1.q⟩
noncomputable def cpd (D : Bl) : Int32 := Int32.ofNat (ctB (SS D 0 &&& (sh_ (rs D 0) ^^^ (-1))) (cn D 1))
theorem c_completed (h : CQ M x bb sb D) (hG : Gd D) (hT : Tl D) : ok (f_X8_completed M x) (RetC x bb sb D M (cpd D)) := by
  have l1 := hG.n.2.2.1
  unfold f_X8_completed
  rw [h.1.c, bs]
  refine ok.seq (f_eNow h hG hT) ?_
  rintro ⟨o, M1⟩ ⟨rfl, C1, h1, E1⟩
  dsimp only at C1 h1 E1 ⊢
  have ch := E1.ch
  obtain ⟨ra, rb, a1, a2, a3, a4, a5, a6⟩ := E1
  have hi : ∀ i, cn D 1 ≤ i → i < 32 → hs (SS D 0 &&& (sh_ (rs D 0) ^^^ (-1))) (Int32.ofNat i) = false := fun i z1 z2 => by
    rw [hs_and z2]
    cases e : hs (SS D 0) (Int32.ofNat i)
    · rfl
    · have := SS_hi hG 0 i z2 e; omega
  obtain ⟨n, hn, e⟩ := set_N (k := 24) (by omega) (fun i h1 h2 => hi i (by omega) h2)
  have ec := ctB_ext (k := 24) (by omega) (fun i h1 h2 => hi i h1 (by omega))
  have fb := f_bits M1 hn
  rw [← e, ec] at fb
  rw [a1.c, bs, ch, bs, a1.gi, bs, a6, fb, bs]
  exact ok.pure ⟨rfl, C1, h1⟩
theorem q_completed (h : IsM M m D) (hG : Gd D) (hT : Tl D) (hL : mI M m 37 = 12) : ok (f_X9_completed M m) (RetM m M (cpd D)) := by
  unfold f_X9_completed
  have h1 : IsM (sI M m 4 0) m D := h.sIo (by omega) _
  rw [h.s.p, bs, h1.s.c, bs]
  refine ok.seq (m_equal h1 hG hT (by rw [i_sI, if_neg (by omega)]; exact hL)) ?_
  rintro M1 ⟨F1, E1⟩
  have h2 := h1.mg F1
  have e30 : mI M1 m 30 = SS D 0 := by rw [SS_0]; exact E1.2.2.2.1.2.2.2.2
  simp only [h2.s.gi, bs, e30, E1.2.2.2.2.1, h2.s.c, m_many h2]
  exact ok.pure ⟨rfl, F1.q⟩
/-! the price in a round -/
noncomputable def pin (D : Bl) (p : Nat) (r : Int32) : Int32 := if r < 0 then -2 else if r ≤ Int32.ofNat (sc (eqs D)) then pri D (rk D (rsr D (eqk D)) (ix r)) p else -2
theorem c_priceIn (h : CQ M x bb sb D) (hG : Gd D) (hT : Tl D) (a r : Int32) : ok (f_X8_priceIn M x a r) (ThrC x bb sb D M (inx a (cn D 1)) (pin D (ix a) r)) := by
  have lm := h.2.1.n.2.2.1
  obtain ⟨hI, -, e3, e4, hc⟩ := eqs_ok hG
  unfold f_X8_priceIn
  simp only [h.1.r8, bs, h.2.1.g1]
  by_cases c : inx a (cn D 1)
  · obtain ⟨k, hk, rfl⟩ := ix_of (by omega) c
    rw [thB_p (by rw [f_ckx, if_pos c]), h.1.c, bs]
    refine ok.seq (f_eNow h hG hT) ?_
    rintro ⟨o, M1⟩ ⟨rfl, C1, h1, E1⟩
    dsimp only at C1 h1 E1 ⊢
    obtain ⟨ra, rb, a1, a2, -⟩ := E1
    have R : RC M1 ra D (eqs D) := a2.1
    rw [a1.r0, bs, ix_o (by omega)]
    unfold pin
    by_cases c1 : r < 0
    · rw [if_pos c1, if_pos c1, bs]
      exact ok.pure ⟨fun _ => ⟨rfl, C1, h1⟩, fun z => absurd c z⟩
    · rw [if_neg c1, if_neg c1, a1.a.g, bs, R.2.2.2.2.1]
      by_cases c2 : r ≤ Int32.ofNat (sc (eqs D))
      · have h0 : 0 ≤ r.toInt := by rw [lt_i] at c1; have : (0 : Int32).toInt = 0 := rfl; omega
        have hr : r = Int32.ofNat (nt r) := (nt_e h0).symm
        have hle : nt r ≤ sc (eqs D) := by
          rw [le_i, i_toInt (by omega)] at c2
          unfold nt
          omega
        generalize nt r = j at hr hle
        subst hr
        have g := a1.a.a3 (p := k) (k := j) (by omega) (by omega)
        rw [a2.2 j (by omega) k hk] at g
        rw [if_pos c2, if_pos c2]
        simp only [a1.a.r3, bs, a1.a.q3 (show k < 12 by omega), g]
        exact ok.pure ⟨fun _ => ⟨by rw [ix_o (by omega)], C1, h1⟩, fun z => absurd c z⟩
      · rw [if_neg c2, if_neg c2, bs]
        exact ok.pure ⟨fun _ => ⟨rfl, C1, h1⟩, fun z => absurd c z⟩
  · rw [thB_n (by rw [f_ckx, if_neg c])]
    exact ok.pure ⟨fun z => absurd z c, fun _ => rfl⟩
theorem Mq.r37 (y : Int32) (hL : mI M m 37 = 12) (h : Mq m (sI M m 37 y) M') : Mq m M (sI M' m 37 12) := by
  refine ⟨h.1, h.2.1, h.2.2.1, h.2.2.2.1, fun a q1 q2 => ?_, fun j q1 q2 q3 q4 => ?_⟩
  · funext k
    rw [i_sI, if_neg (by omega), h.row q1 q2, i_sI, if_neg (by omega)]
  · rw [i_sI]
    by_cases e : j = 37
    · rw [if_pos ⟨rfl, e⟩, e, hL]
    · rw [if_neg (by omega), h.fld ⟨q1, q2, q3, q4⟩, i_sI, if_neg (by omega)]
theorem MRC.s37 {s : Rst} {pm : Nat → Int32} (h : MRC M m D s pm) (y : Int32) : MRC (sI M m 37 y) m D s pm := by
  obtain ⟨a, b, c, d, e, f, g, k⟩ := h
  have i : ∀ z j, (z ≠ m ∨ j ≠ 37) → mI (sI M m 37 y) z j = mI M z j := fun z j hz => by rw [i_sI, if_neg (by omega)]
  exact ⟨fun v hv d hd => by rw [i _ _ (by omega)]; exact a v hv d hd, fun p hp v hv => by rw [i _ _ (by omega)]; exact b p hp v hv, fun p hp d hd => by rw [i _ _ (by omega)]; exact c p hp d hd, fun d' hd => by rw [i _ _ (by omega)]; exact d d' hd, fun k hk => by rw [i _ _ (by omega)]; exact e k hk, by rw [i _ _ (by omega)]; exact f, by rw [i _ _ (by omega)]; exact g, fun p hp => by rw [i _ _ (by omega)]; exact k p hp⟩
theorem ct_eqs (hG : Gd D) : (sm (cn D 1) fun o => if epm D o < 0 then 0 else 1) = Int32.ofNat (sc (eqs D)) := by
  have l1 := hG.n.2.2.1
  obtain ⟨hI, -⟩ := eqs_ok hG
  rw [hI.2.1]
  refine sm_N fun p hp => ?_
  obtain ⟨e1, e2, -⟩ := epm_ok hG hp
  by_cases c : hs (sh_ (eqs D)) (Int32.ofNat p) = true
  · obtain ⟨q, q1, q2⟩ := e2 c
    rw [if_pos c, q2, if_neg (o_nneg (by omega))]; rfl
  · rw [if_neg c, e1 c, if_pos m1_neg]; rfl
theorem q_priceIn (h : IsM M m D) (hG : Gd D) (hT : Tl D) (hL : mI M m 37 = 12) (a r : Int32) : ok (f_X9_priceIn M m a r) (ThrM m M (inx a (cn D 1)) (pin D (ix a) r)) := by
  have lm := h.n.2.2.1
  obtain ⟨hI, -, e3, e4, hc⟩ := eqs_ok hG
  obtain ⟨b1, b2⟩ := step_bd hG (eqk_le D)
  unfold f_X9_priceIn
  simp only [h.s.c, bs, m_isP h, m_fails h.s, b2i_ite]
  by_cases c : inx a (cn D 1)
  · obtain ⟨k, hk, rfl⟩ := ix_of (by omega) c
    have h1 : IsM (sI M m 4 0) m D := h.sIo (by omega) _
    have hL1 : mI (sI M m 4 0) m 37 = 12 := by rw [i_sI, if_neg (by omega)]; exact hL
    rw [fYb c, if_neg (fY c), h1.s.c, bs]
    refine ok.seq (m_equal h1 hG hT hL1) ?_
    rintro M1 ⟨F1, E1⟩
    have h2 := h1.mg F1
    have hL2 : mI M1 m 37 = 12 := by rw [F1.fld (by omega)]; exact hL1
    have key : ∀ kk : Int32 × Int32 → Option (Int32 × Mem), it_ (bd_X9_priceIn_23 m M1 kk) FU (0, 0) = kk (Int32.ofNat (sc (eqs D)), Int32.ofNat (cn D 1)) := fun kk => by
      rw [← ct_eqs hG]
      refine it_s (k := fun a => kk (a, Int32.ofNat (cn D 1))) (cn D 1) _ h.n.m1 (fun rec i z hi => ?_) (fun rec z => ?_)
      · have g := h2.s.a33 (i := i) (by omega)
        rw [E1.2.2.1 i (by omega)] at g
        unfold bd_X9_priceIn_23
        simp only [h2.g6, bs, ile_n hi h.n.l1, h2.s.r33, g, is_, ltq, i_succ]
      · unfold bd_X9_priceIn_23
        simp only [h2.g6, bs, ile_e]
    rw [key, ix_o (by omega)]
    simp only [m_inR, bs, b2i_ite, decide_eq_true_eq]
    unfold pin
    by_cases c1 : r < 0
    · rw [if_pos c1, if_neg (fun z => by
        have z1 := z.1
        rw [le_i] at z1
        rw [lt_i] at c1
        omega)]
      exact ok.pure ⟨fun _ => ⟨rfl, F1.q⟩, fun z => absurd c z⟩
    · rw [if_neg c1]
      by_cases c2 : r ≤ Int32.ofNat (sc (eqs D))
      · have h0 : 0 ≤ r.toInt := by rw [lt_i] at c1; have : (0 : Int32).toInt = 0 := rfl; omega
        have hr : r = Int32.ofNat (nt r) := (nt_e h0).symm
        have hle : nt r ≤ sc (eqs D) := by
          rw [le_i, i_toInt (by omega)] at c2
          unfold nt
          omega
        rw [if_pos c2, if_pos ⟨by rw [le_i]; exact h0, c2⟩]
        generalize nt r = j at hr hle
        subst hr
        have hM3 : IsM (sI M1 m 37 (Int32.ofNat j)) m D := h2.sIo (by omega) _
        have q39 : mI (sI M1 m 37 (Int32.ofNat j)) m 39 = Int32.ofNat (eqk D) := by rw [i_sI, if_neg (by omega)]; exact E1.2.2.2.2.2
        have a92 : aI (sI M1 m 37 (Int32.ofNat j)) (m + 1) 2 = some (D 9 2) := hM3.d9 (i := 2) (by omega)
        rw [b2] at a92
        have hr2 : Int32.ofNat (eqk D) * Int32.ofNat (nt (D 9 2)) = Int32.ofNat (eqk D * nt (D 9 2)) := i_mul _ _
        simp only [h2.s.p, bs, hM3.s.gi, q39, hM3.s.r0, a92, hM3.s.c, hr2]
        refine ok.seq (m_rounds (L := j) (x := eqk D * nt (D 9 2)) hM3 hG hT (by rw [i_sI, if_pos ⟨rfl, rfl⟩]) (by omega) b1) ?_
        rintro M4 ⟨F4, R4⟩
        have hM4 := hM3.mf F4
        have R5 := R4.s37 12
        have hM5 : IsM (sI M4 m 37 12) m D := hM4.sIo (by omega) _
        have F5 : Mq m (sI M m 4 0) (sI M4 m 37 12) := F1.q.trans (Mq.r37 _ hL2 F4.g.q)
        have hIj := rk_Iv hG b1 j
        simp only [hM4.s.p, bs, hM5.s.gi, R5.2.2.2.2.2.2.1, f_has9, b2i_ite, hM5.s.c, m_price hM5 hG hIj.1 R5.1 hk, is_]
        refine ok.pure ⟨fun _ => ⟨?_, F5⟩, fun z => absurd c z⟩
        rw [ix_o (by omega)]
        rfl
      · rw [if_neg c2, if_neg (fun z => c2 z.2)]
        exact ok.pure ⟨fun _ => ⟨rfl, F1.q⟩, fun z => absurd c z⟩
  · rw [fNb c, if_pos (fN c)]
    exact ok.pure ⟨fun z => absurd z c, fun _ => rfl⟩
end
