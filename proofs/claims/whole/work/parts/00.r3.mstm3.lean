/-! ===== the reference reads settings, a statement ===== -/
section
variable {M M' M0 M1 M2 M4 : Mem} {t : Nat → Int32} {n p q m hi : Nat} {D : Bl} {c g : Int32} {r : Rs} {f : Nat → Int32}
theorem m_setH (G : GN m t n M0 q M) : f_X9_settingHere M m = some (if 11 ≤ tK t n q then Int32.ofNat (tK t n q - 11) else -1) := by
  have w6 := m_isW G 6 (by omega)
  have w7 := m_isW G 7 (by omega)
  have w8 := m_isW G 8 (by omega)
  have w9 := m_isW G 9 (by omega)
  rw [show Int64.ofNat (cW 6) = 24627848 from rfl] at w6
  rw [show Int64.ofNat (cW 7) = 122510055712238 from rfl] at w7
  rw [show Int64.ofNat (cW 8) = 643248 from rfl] at w8
  rw [show Int64.ofNat (cW 9) = 16322738 from rfl] at w9
  have lk := tK_r (t := t) (n := n) q
  unfold f_X9_settingHere
  rw [G.s.c, bs, w6, bs, b2i_ite]
  by_cases c6 : tK t n q = 5 + 6
  · rw [if_pos (decide_eq_true c6), if_pos (by omega), c6]; rfl
  rw [if_neg (fun z => c6 (of_decide_eq_true z)), bs, w7, bs, b2i_ite]
  by_cases c7 : tK t n q = 5 + 7
  · rw [if_pos (decide_eq_true c7), if_pos (by omega), c7]; rfl
  rw [if_neg (fun z => c7 (of_decide_eq_true z)), bs, w8, bs, b2i_ite]
  by_cases c8 : tK t n q = 5 + 8
  · rw [if_pos (decide_eq_true c8), if_pos (by omega), c8]; rfl
  rw [if_neg (fun z => c8 (of_decide_eq_true z)), bs, w9, bs, b2i_ite]
  by_cases c9 : tK t n q = 5 + 9
  · rw [if_pos (decide_eq_true c9), if_pos (by omega), c9]; rfl
  rw [if_neg (fun z => c9 (of_decide_eq_true z)), if_neg (by omega)]
  rfl
theorem IsN.s9 {k : Nat} (h : IsN M m D) (hk : k < 4) (v : Int32) : IsN (sI M (m + 2) k v) m (up D 9 k v) := by
  refine ⟨h.1.e rfl rfl, fun j hj => ?_, h.2.2.1, fun k' z1 z2 i hi => ?_⟩
  · rw [i_sI, if_neg (by omega)]; exact h.2.1 j hj
  · have hi' : i < bsz D k' := hi
    have lr := lA_r k' z2 z1
    have e := h.2.2.2 k' z1 z2 i hi'
    have bl := bsz_le h.2.2.1 z1 z2
    rw [i_sI]
    show _ = if k' = 9 ∧ i = k then v else D k' i
    by_cases y : k' = 9 ∧ i = k
    · rw [if_pos y, if_pos ⟨by rw [y.1]; rfl, by rw [y.1, y.2]; exact Nat.zero_add k⟩]
    · rw [if_neg y, if_neg (fun z => y (LA_inj (k' := 9) (i' := k) z1 z2 (by omega) (by omega) (by omega) hk (show lA k' = 2 by omega) (show lO k' + i = 0 + k by omega)))]; exact e
theorem m_sS (h : GN m t n M p M) (hN : IsN M m D) (hg : mI M m 27 = g) : ok (f_X9_parseSetting M m) (PM m t n M (sS t n D g (tE t n p))) := by
  unfold f_X9_parseSetting
  rw [h.s.c, bs]
  refine ok.seq (GN.adv h) ?_
  intro M1 G1
  obtain ⟨q, eq⟩ : ∃ q, q = tE t n p := ⟨_, rfl⟩
  rw [← eq] at G1 ⊢
  have lk := tK_r (t := t) (n := n) q
  rw [G1.s.c, bs, m_setH G1, bs]
  by_cases c : 11 ≤ tK t n q
  · obtain ⟨k, ek⟩ : ∃ k, k = tK t n q - 11 := ⟨_, rfl⟩
    have hk : k < 4 := by omega
    have e27 : mI M1 m 27 = g := by rw [G1.1.i (by omega)]; exact hg
    have er_ : sS t n D g q = sS2 t n D g k q := by
      unfold sS
      rw [if_pos c, ek]
    rw [er_, if_pos c, ← ek, if_neg (o_nneg (by omega)), bs, bs, ck_1, bs, G1.s.gi, bs, G1.2.1, if_pos rfl, G1.s.gi, bs, e27, f_has9, bs, b2i_ite]
    unfold sS2
    by_cases c1 : hs g (Int32.ofNat k) = true
    · obtain ⟨M2, e2, B2, b27⟩ := ck_f (b := false) (c := -14) G1 rfl (by decide)
      rw [show b2i false = 0 from rfl] at e2
      rw [if_pos c1, if_pos c1, bs, G1.s.c, bs, e2, bs, B2.s.gi, bs, B2.s.p, bs]
      obtain ⟨y, ey⟩ : ∃ y, y = mI M2 m 27 ||| ((1 : Int32) <<< (Int32.ofNat k &&& 31)) := ⟨_, rfl⟩
      rw [← ey]
      obtain ⟨M3, q3⟩ : ∃ z, z = sI M2 m 27 y := ⟨_, rfl⟩
      have B3 : BN m t n M3 (-14) q M3 := by
        refine ⟨Nt.rf, ?_, by decide, ?_, ?_⟩
        · rw [q3, i_sI, if_neg (by omega)]; exact B2.2.1
        · rw [q3, i_sI, if_neg (by omega)]; exact B2.2.2.2.1
        · rw [q3]; exact B2.2.2.2.2.nt (hi := 28) (Nt.sI (by omega) (by omega) _)
      rw [← q3, B3.s.c, bs, aG_e B3, bs, B3.s.gi, bs, B3.2.1, if_neg B3.2.2.1, bs]
      refine ok.pure ⟨B2.1.nw.trans (by rw [q3]; exact Nw.sI (by omega)), ?_, Or.inr ⟨by rw [B3.2.1]; decide, B3.2.2.2.1, B3.s, Or.inl ⟨show (-14 : Int32) < 0 by decide, B3.2.1⟩⟩⟩
      rw [q3, i_sI, if_neg (by omega)]; exact B2.1.i (by omega)
    · rw [if_neg c1, if_neg c1, bs, G1.s.c, bs, ck_1, bs, G1.s.gi, bs, G1.s.p, bs, e27]
      obtain ⟨y, ey⟩ : ∃ y, y = g ||| ((1 : Int32) <<< (Int32.ofNat k &&& 31)) := ⟨_, rfl⟩
      rw [← ey]
      obtain ⟨M2, q2⟩ : ∃ z, z = sI M1 m 27 y := ⟨_, rfl⟩
      have G2 : GN m t n M2 q M2 := by
        refine ⟨Nt.rf, ?_, ?_, ?_⟩
        · rw [q2, i_sI, if_neg (by omega)]; exact G1.2.1
        · rw [q2, i_sI, if_neg (by omega)]; exact G1.2.2.1
        · rw [q2]; exact G1.2.2.2.sIo (by omega)
      have N2 : IsN M2 m D := by
        have := (hN.nt G1.1).nt (hi := 28) (Nt.sI (m := m) (j := 27) (by omega) (by omega) y)
        rw [q2]; exact this
      have F2 : Nw m M M2 := G1.1.nw.trans (by rw [q2]; exact Nw.sI (by omega))
      have e28 : mI M2 m 28 = mI M m 28 := by rw [q2, i_sI, if_neg (by omega)]; exact G1.1.i (by omega)
      have f27 : mI M2 m 27 = y := by rw [q2, i_sI, if_pos ⟨rfl, rfl⟩]
      have sl := slo_v k hk
      rw [← q2, G2.s.c, bs]
      refine ok.seq (aG_g G2) ?_
      intro M3 G3
      rw [G3.s.gi, bs, G3.2.1, if_pos rfl, G3.s.r1, bs, m_least _ k hk, bs, m_most _ k hk, bs, G3.s.c, bs, sl.1, sl.2.1]
      refine ok.bid (ok.seq (m_int sl.2.2.1 sl.2.2.2 G3) ?_)
      rintro ⟨v, M4⟩ ⟨a1, a2⟩
      dsimp only at a1 a2 ⊢
      unfold sS3
      by_cases c2 : 0 ≤ nI_ t n (slo k) (shi k) (tE t n q)
      · obtain ⟨rfl, G4⟩ := a1 c2
        rw [if_pos c2, ← ey, G4.s.w1 (by omega), bs]
        have N5 := (N2.nt G4.1).s9 hk (nI_ t n (slo k) (shi k) (tE t n q))
        refine ok.pure ⟨F2.trans (G4.1.nw.trans (Nw.sI (by omega))), ?_, Or.inl ⟨nnF, ?_, ?_, N5, ?_, G4.2.2.2.sIo (by omega)⟩⟩
        · rw [i_sI, if_neg (by omega), G4.1.i (by omega)]; exact e28
        · rw [i_sI, if_neg (by omega)]; exact G4.2.1
        · rw [i_sI, if_neg (by omega)]; exact G4.2.2.1
        · rw [i_sI, if_neg (by omega), G4.1.i (by omega)]; exact f27
      · have B4 := a2 c2
        rw [if_neg c2, B4.s.w1 (by omega), bs]
        refine ok.pure ⟨F2.trans (B4.1.nw.trans (Nw.sI (by omega))), ?_, Or.inr ⟨?_, ?_, B4.s.e rfl rfl, Or.inl ⟨neg_of c2, ?_⟩⟩⟩
        · rw [i_sI, if_neg (by omega), B4.1.i (by omega)]; exact e28
        · rw [i_sI, if_neg (by omega), B4.2.1]; exact B4.2.2.1
        · rw [i_sI, if_neg (by omega)]; exact B4.2.2.2.1
        · rw [i_sI, if_neg (by omega)]; exact B4.2.1
  · have er_ : sS t n D g q = (-11, D, g, q) := by
      unfold sS
      rw [if_neg c]
    obtain ⟨M2, e2, B2, -⟩ := ck_f (b := false) (c := -11) G1 rfl (by decide)
    rw [show b2i false = 0 from rfl] at e2
    rw [if_neg c, if_pos (by decide), bs, bs, e2, bs, B2.s.gi, bs, B2.2.1, if_neg B2.2.2.1, er_]
    exact ok.pure (PM.bad B2 (by decide))
theorem m_stm (h : GN m t n M p M) (hN : IsN M m D) (hg : mI M m 27 = g) : ok (f_X9_parseStatement M m) (PM m t n M (stm t n D g p)) := by
  have w0 := m_isW h 0 (by omega)
  have w1 := m_isW h 1 (by omega)
  have w2 := m_isW h 2 (by omega)
  have w5 := m_isW h 5 (by omega)
  rw [show Int64.ofNat (cW 0) = 147761734772 from rfl] at w0
  rw [show Int64.ofNat (cW 1) = 17799910516 from rfl] at w1
  rw [show Int64.ofNat (cW 2) = 23580850 from rfl] at w2
  rw [show Int64.ofNat (cW 5) = 19636 from rfl] at w5
  unfold f_X9_parseStatement stm
  rw [h.s.c, bs, w0, bs, b2i_ite]
  refine ok.bid ?_
  by_cases c0 : tK t n p = 5
  · rw [if_pos (decide_eq_true c0), if_pos c0, bs]
    exact ok.bid (m_sD h hN hg)
  rw [if_neg (fun z => c0 (of_decide_eq_true z)), if_neg c0, bs, w1, bs, b2i_ite]
  by_cases c1 : tK t n p = 6
  · rw [if_pos (decide_eq_true c1), if_pos c1, bs]
    exact ok.bid (m_sJ h hN hg)
  rw [if_neg (fun z => c1 (of_decide_eq_true z)), if_neg c1, bs, w2, bs, b2i_ite]
  by_cases c2 : tK t n p = 7
  · rw [if_pos (decide_eq_true c2), if_pos c2, bs]
    exact ok.bid (m_sV h hN hg)
  rw [if_neg (fun z => c2 (of_decide_eq_true z)), if_neg c2, bs, w5, bs, b2i_ite]
  by_cases c5 : tK t n p = 10
  · rw [if_pos (decide_eq_true c5), if_pos c5, bs]
    exact ok.bid (m_sS h hN hg)
  rw [if_neg (fun z => c5 (of_decide_eq_true z)), if_neg c5, bs]
  obtain ⟨M1, e1, B1, -⟩ := ck_f (b := false) (c := -11) h rfl (by decide)
  rw [show b2i false = 0 from rfl] at e1
  rw [e1, bs]
  exact ok.pure (PM.bad B1 (by decide))
end
