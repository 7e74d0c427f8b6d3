/-! ===== the class's Optimum at o ===== -/
section
theorem hs_N (n : Nat) {i : Nat} (hi : i < 32) : hs (Int32.ofNat n) (Int32.ofNat i) = n.testBit i := by
  rw [hs_bi hi]
  show (BitVec.ofNat 32 n).getLsbD i = _
  rw [BitVec.getLsbD_ofNat, decide_eq_true hi, Bool.true_and]
theorem bt_N : ∀ p, p < 31 → bt p = Int32.ofNat (2 ^ p) := by decide +kernel
theorem or_N {a p : Nat} (hp : p < 31) (ha : a < 2 ^ p) : Int32.ofNat a ||| bt p = Int32.ofNat (2 ^ p + a) := by
  refine hs_ext fun i hi => ?_
  have e := Nat.two_pow_add_eq_or_of_lt ha 1
  rw [Nat.mul_one] at e
  rw [hs_or hi, bt_N p hp, hs_N _ hi, hs_N _ hi, hs_N _ hi, ← Nat.testBit_or, e, Nat.or_comm]
theorem tb_lo {a p i : Nat} (hi : i < p) : (2 ^ p + a).testBit i = a.testBit i := Nat.testBit_two_pow_add_gt hi a
theorem tb_hi {a p : Nat} (ha : a < 2 ^ p) : (2 ^ p + a).testBit p = true := by
  rw [Nat.testBit_two_pow_add_eq, Nat.testBit_lt_two_pow ha]; rfl
/-- a sum over the members of a set -/
def sw (w : Nat → Int32) (n set : Nat) : Int32 := sm n fun p => if hs (Int32.ofNat set) (Int32.ofNat p) = true then w p else 0
theorem sw_lo {w : Nat → Int32} {n set : Nat} (hn : n < 31) (h : set < 2 ^ n) : sw w (n + 1) set = sw w n set := by
  unfold sw
  rw [sm_s, hs_N _ (by omega), Nat.testBit_lt_two_pow h]
  exact Int32.add_zero _
theorem sw_hi {w : Nat → Int32} {n set : Nat} (hn : n < 31) (h : set < 2 ^ n) : sw w (n + 1) (2 ^ n + set) = sw w n set + w n := by
  unfold sw
  rw [sm_s, hs_N _ (by omega), tb_hi h, if_pos rfl]
  congr 1
  exact sm_c fun i hi => by rw [hs_N _ (by omega), hs_N _ (by omega), tb_lo hi]
def IsOp (M : Mem) (o : Nat) : Prop := (mK M o).1 = 4 ∧ (mR M o 0 = some (o + 1) ∧ mR M o 1 = some (o + 2) ∧ mR M o 2 = some (o + 3) ∧ mR M o 3 = some (o + 4)) ∧ mK M (o + 1) = (20, 4096) ∧ mK M (o + 2) = (20, 4096) ∧ mK M (o + 3) = (20, 16) ∧ mK M (o + 4) = (20, 16)
/-- what no preparation changes -/
def Op0 (M : Mem) (o : Nat) : Prop := mI M (o + 1) 0 = 0 ∧ mI M (o + 2) 0 = 0 ∧ mI M (o + 4) 0 = 0
theorem IsOp.e {M M' : Mem} {o : Nat} (h : IsOp M o) (hk : mK M' = mK M) (hr : mR M' = mR M) : IsOp M' o := by
  unfold IsOp at h ⊢
  rw [hk, hr]
  exact h
theorem IsOp.fi {M M' : Mem} {o lo hi : Nat} (h : IsOp M o) (hF : Fi lo hi M M') : IsOp M' o := h.e hF.k hF.r
theorem IsOp.fq {M M' : Mem} {o lo hi : Nat} (h : IsOp M o) (hF : Fq lo hi M M') (hb : o + 5 ≤ lo ∨ hi ≤ o) : IsOp M' o := by
  obtain ⟨h1, ⟨a0, a1, a2, a3⟩, hk⟩ := h
  refine ⟨by rw [hF.1]; exact h1, ⟨?_, ?_, ?_, ?_⟩, by rw [hF.1]; exact hk⟩
  · rw [hF.r (by omega)]; exact a0
  · rw [hF.r (by omega)]; exact a1
  · rw [hF.r (by omega)]; exact a2
  · rw [hF.r (by omega)]; exact a3
variable {M : Mem} {o b : Nat} {D : Bl}
theorem IsOp.c (h : IsOp M o) : ck M o 4 = some () := ck_e h.1
theorem IsOp.gi (h : IsOp M o) (j : Nat) : gFI M o 4 j = some (mI M o j) := gFI_e h.1
theorem IsOp.p (h : IsOp M o) (j : Nat) (x : Int32) : pFI M o 4 j x = some (sI M o j x) := pFI_e h.1
theorem IsOp.r0 (h : IsOp M o) : gFR M o 4 0 = some (o + 1) := gFR_e h.1 h.2.1.1
theorem IsOp.r1 (h : IsOp M o) : gFR M o 4 1 = some (o + 2) := gFR_e h.1 h.2.1.2.1
theorem IsOp.r2 (h : IsOp M o) : gFR M o 4 2 = some (o + 3) := gFR_e h.1 h.2.1.2.2.1
theorem IsOp.r3 (h : IsOp M o) : gFR M o 4 3 = some (o + 4) := gFR_e h.1 h.2.1.2.2.2
theorem IsOp.a0 (h : IsOp M o) {i : Nat} (hi : i < 4096) : aI M (o + 1) (Int32.ofNat i) = some (mI M (o + 1) i) := aI_e h.2.2.1 (Or.inl rfl) hi (by omega)
theorem IsOp.a1 (h : IsOp M o) {i : Nat} (hi : i < 4096) : aI M (o + 2) (Int32.ofNat i) = some (mI M (o + 2) i) := aI_e h.2.2.2.1 (Or.inl rfl) hi (by omega)
theorem IsOp.a2 (h : IsOp M o) {i : Nat} (hi : i < 16) : aI M (o + 3) (Int32.ofNat i) = some (mI M (o + 3) i) := aI_e h.2.2.2.2.1 (Or.inl rfl) hi (by omega)
theorem IsOp.a3 (h : IsOp M o) {i : Nat} (hi : i < 16) : aI M (o + 4) (Int32.ofNat i) = some (mI M (o + 4) i) := aI_e h.2.2.2.2.2 (Or.inl rfl) hi (by omega)
theorem IsOp.w0 (h : IsOp M o) {i : Nat} (hi : i < 4096) (x : Int32) : wI M (o + 1) (Int32.ofNat i) x = some (sI M (o + 1) i x) := wI_e h.2.2.1 hi (by omega)
theorem IsOp.w1 (h : IsOp M o) {i : Nat} (hi : i < 4096) (x : Int32) : wI M (o + 2) (Int32.ofNat i) x = some (sI M (o + 2) i x) := wI_e h.2.2.2.1 hi (by omega)
theorem IsOp.w2 (h : IsOp M o) {i : Nat} (hi : i < 16) (x : Int32) : wI M (o + 3) (Int32.ofNat i) x = some (sI M (o + 3) i x) := wI_e h.2.2.2.2.1 hi (by omega)
theorem IsOp.w3 (h : IsOp M o) {i : Nat} (hi : i < 16) (x : Int32) : wI M (o + 4) (Int32.ofNat i) x = some (sI M (o + 4) i x) := wI_e h.2.2.2.2.2 hi (by omega)
/-- the projects within an area -/
def pw (D : Bl) (a : Int32) : Int32 := fo (fun p s => if D 5 p &&& (a ^^^ (-1)) = 0 then s ||| bt p else s) (cn D 1) 0
theorem f_pw (hBl : IsB M b D) (a : Int32) : f_X4_projectsWithin M b a = some (pw D a) := by
  unfold f_X4_projectsWithin
  refine it_c (k := fun a => some a) (cn D 1) _ 0 hBl.n.m1 (fun rec i hi => ?_) (fun rec => ?_)
  · unfold bd_X4_projectsWithin_4
    simp only [hBl.g1, bs, ile_n hi hBl.n.l1, hBl.s.r5, hBl.a5 hi, ltq, is_, i_succ]
    rfl
  · unfold bd_X4_projectsWithin_4
    simp only [hBl.g1, bs, ile_e]
def va (D : Bl) (p : Nat) : Int32 := D 11 p * wo D p
theorem vl_sw (D : Bl) (set : Nat) : vl D (Int32.ofNat set) = sw (va D) (cn D 1) set := rfl
theorem ct_sw (D : Bl) (set : Nat) : ct D (Int32.ofNat set) = sw (D 4) (cn D 1) set := rfl
def pbud (D : Bl) (a : Int32) : Int32 := sm (cn D 0) fun d => if hs a (Int32.ofNat d) = true then D 2 d else 0
theorem pb_sw (D : Bl) (a : Nat) : pbud D (Int32.ofNat a) = sw (D 2) (cn D 0) a := rfl
theorem p2_le {n k : Nat} (h : n ≤ k) : 2 ^ n ≤ 2 ^ k := Nat.pow_le_pow_right (by omega) h
theorem p2_lt {n k : Nat} (h : n < k) : 2 ^ n + 2 ^ n ≤ 2 ^ k := by
  have := p2_le (show n + 1 ≤ k from h)
  rw [Nat.pow_succ] at this
  omega
/-- the tables hold a ballot's sums -/
def OC (M : Mem) (o : Nat) (D : Bl) : Prop := mI M o 4 = Int32.ofNat (2 ^ cn D 1) ∧ mI M o 5 = Int32.ofNat (2 ^ cn D 0) ∧ (∀ s, s < 2 ^ cn D 1 → mI M (o + 1) s = vl D (Int32.ofNat s) ∧ mI M (o + 2) s = ct D (Int32.ofNat s)) ∧ ∀ a, a < 2 ^ cn D 0 → mI M (o + 3) a = pw D (Int32.ofNat a) ∧ mI M (o + 4) a = pbud D (Int32.ofNat a)
theorem f_prep (h : IsOp M o) (h0 : Op0 M o) (hBl : IsB M b D) (hb : b + 12 ≤ o ∨ o + 5 ≤ b) : ok (f_X4_prepare M o b) (fun M' => Fi o (o + 5) M M' ∧ Op0 M' o ∧ OC M' o D) := by
  have l0 := hBl.n.2.1
  have l1 := hBl.n.2.2.1
  have P1 := p2_le l1
  have P0 := p2_le l0
  have e12 : 2 ^ 12 = 4096 := rfl
  have e4 : 2 ^ 4 = 16 := rfl
  unfold f_X4_prepare
  have F1 : Fi o (o + 1) M (sI M o 4 (Int32.ofNat (2 ^ cn D 1))) := Fi.sI ⟨by omega, by omega⟩
  have h1 := h.fi F1
  have hBl1 := hBl.fi F1 (by omega)
  have F2 : Fi o (o + 1) (sI M o 4 (Int32.ofNat (2 ^ cn D 1))) (sI (sI M o 4 (Int32.ofNat (2 ^ cn D 1))) o 5 (Int32.ofNat (2 ^ cn D 0))) := Fi.sI ⟨by omega, by omega⟩
  have s1 : (1 : Int32) <<< (Int32.ofNat (cn D 1) &&& 31) = Int32.ofNat (2 ^ cn D 1) := bt_N _ (by omega)
  have s2 : (1 : Int32) <<< (Int32.ofNat (cn D 0) &&& 31) = Int32.ofNat (2 ^ cn D 0) := bt_N _ (by omega)
  simp only [hBl.g1, bs, s1, h.p, hBl1.g0, s2, h1.p]
  have z4 : mI (sI (sI M o 4 (Int32.ofNat (2 ^ cn D 1))) o 5 (Int32.ofNat (2 ^ cn D 0))) o 4 = Int32.ofNat (2 ^ cn D 1) := by rw [i_sI, if_neg (by omega), i_sI, if_pos ⟨rfl, rfl⟩]
  have z5 : mI (sI (sI M o 4 (Int32.ofNat (2 ^ cn D 1))) o 5 (Int32.ofNat (2 ^ cn D 0))) o 5 = Int32.ofNat (2 ^ cn D 0) := by rw [i_sI, if_pos ⟨rfl, rfl⟩]
  have F12 := F1.trans F2
  generalize sI (sI M o 4 (Int32.ofNat (2 ^ cn D 1))) o 5 (Int32.ofNat (2 ^ cn D 0)) = M2 at *
  have q1 : mI M2 (o + 1) 0 = 0 := by rw [F12.i (by omega)]; exact h0.1
  have q2 : mI M2 (o + 2) 0 = 0 := by rw [F12.i (by omega)]; exact h0.2.1
  have q4 : mI M2 (o + 4) 0 = 0 := by rw [F12.i (by omega)]; exact h0.2.2
  have FB : Fi o (o + 5) M M2 := F12.wide (by omega) (by omega)
  -- the sums of sets of projects
  refine it_r (I := fun p (u : Int32 × Mem) => u.1 = Int32.ofNat p ∧ Fi (o + 1) (o + 3) M2 u.2 ∧ ∀ s, s < 2 ^ p → mI u.2 (o + 1) s = sw (va D) p s ∧ mI u.2 (o + 2) s = sw (D 4) p s) (cn D 1) ⟨rfl, Fi.rf, fun s hs => ?_⟩ hBl.n.m1 ?_ ?_
  · have : s = 0 := by rw [Nat.pow_zero] at hs; omega
    subst this
    exact ⟨q1, q2⟩
  · rintro rec p ⟨y, M3⟩ hp ⟨rfl, F3, z⟩ hrec
    dsimp only at F3 z
    have FB3 : Fi o (o + 5) M M3 := FB.trans (F3.wide (by omega) (by omega))
    have h3 := h.fi FB3
    have hBl3 := hBl.fi FB3 hb
    have Pp := p2_lt hp
    have spw : (1 : Int32) <<< (Int32.ofNat p &&& 31) = Int32.ofNat (2 ^ p) := bt_N _ (by omega)
    unfold bd_X4_prepare_22
    simp only [hBl3.g1, bs, ile_n hp hBl.n.l1, hBl3.s.r11, hBl3.a11 hp, hBl3.c, f_wo hBl3 hp, ltq]
    rw [show D 11 p * wo D p = va D p from rfl]
    refine it_r (I := fun s (u : Int32 × Mem) => u.1 = Int32.ofNat s ∧ Fi (o + 1) (o + 3) M2 u.2 ∧ (∀ t, t < 2 ^ p → mI u.2 (o + 1) t = sw (va D) p t ∧ mI u.2 (o + 2) t = sw (D 4) p t) ∧ ∀ t, t < s → mI u.2 (o + 1) (2 ^ p + t) = sw (va D) p t + va D p ∧ mI u.2 (o + 2) (2 ^ p + t) = sw (D 4) p t + D 4 p) (2 ^ p) ⟨rfl, F3, z, fun t ht => absurd ht (Nat.not_lt_zero t)⟩ (by omega) ?_ ?_
    · rintro rec2 s ⟨y, M4⟩ hs ⟨rfl, F4, zl, zh⟩ hrec2
      dsimp only at F4 zl zh
      have FB4 : Fi o (o + 5) M M4 := FB.trans (F4.wide (by omega) (by omega))
      have h4 := h.fi FB4
      have G5 : Fi (o + 1) (o + 3) M4 (sI M4 (o + 1) (2 ^ p + s) (sw (va D) p s + va D p)) := Fi.sI ⟨by omega, by omega⟩
      have h5 := h4.fi G5
      have hBl5 := (hBl.fi FB4 hb).fi G5 (by omega)
      have eidx : Int32.ofNat s ||| Int32.ofNat (2 ^ p) = Int32.ofNat (2 ^ p + s) := by rw [← bt_N p (by omega)]; exact or_N (by omega) hs
      have a0 := h4.a0 (i := s) (by omega)
      rw [(zl s hs).1] at a0
      have a1 := h5.a1 (i := s) (by omega)
      rw [i_sI, if_neg (by omega), (zl s hs).2] at a1
      unfold bd_X4_prepare_46
      simp only [eidx, spw, ile_n hs (show 2 ^ p < 2147483648 by omega), h4.r0, bs, a0, h4.w0 (show 2 ^ p + s < 4096 by omega), h5.r1, a1, hBl5.s.r4, hBl5.a4 hp, h5.w1 (show 2 ^ p + s < 4096 by omega), i_succ]
      refine hrec2 _ ⟨rfl, F4.trans (G5.trans (Fi.sI ⟨by omega, by omega⟩)), fun t ht => ?_, fun t ht => ?_⟩
      · show mI (sI (sI M4 _ _ _) _ _ _) (o + 1) t = _ ∧ mI (sI (sI M4 _ _ _) _ _ _) (o + 2) t = _
        rw [i_sI, i_sI, i_sI, i_sI, if_neg (by omega), if_neg (by omega), if_neg (by omega), if_neg (by omega)]
        exact zl t ht
      · show mI (sI (sI M4 _ _ _) _ _ _) (o + 1) (2 ^ p + t) = _ ∧ mI (sI (sI M4 _ _ _) _ _ _) (o + 2) (2 ^ p + t) = _
        rw [i_sI, i_sI, i_sI, i_sI]
        by_cases e : t = s
        · subst e
          rw [if_neg (by omega), if_pos ⟨rfl, rfl⟩, if_pos ⟨rfl, rfl⟩]
          exact ⟨rfl, rfl⟩
        · rw [if_neg (by omega), if_neg (by omega), if_neg (by omega), if_neg (by omega)]
          exact zh t (by omega)
    · rintro rec2 ⟨y, M4⟩ ⟨rfl, F4, zl, zh⟩
      dsimp only at F4 zl zh
      unfold bd_X4_prepare_46
      simp only [spw, ile_e, i_succ]
      refine hrec _ ⟨rfl, F4, fun s hs => ?_⟩
      rw [Nat.pow_succ] at hs
      show mI M4 (o + 1) s = _ ∧ mI M4 (o + 2) s = _
      by_cases c : s < 2 ^ p
      · rw [sw_lo (by omega) c, sw_lo (by omega) c]; exact zl s c
      · have e : s = 2 ^ p + (s - 2 ^ p) := by omega
        rw [e, sw_hi (by omega) (by omega), sw_hi (by omega) (by omega)]
        exact zh _ (by omega)
  · rintro rec ⟨y, M3⟩ ⟨rfl, F3, z⟩
    dsimp only at F3 z
    have FB3 : Fi o (o + 5) M M3 := FB.trans (F3.wide (by omega) (by omega))
    have hBl3 := hBl.fi FB3 hb
    unfold bd_X4_prepare_22
    simp only [hBl3.g1, bs, ile_e]
    -- the sums of sets of districts
    refine it_r (I := fun p (u : Int32 × Mem) => u.1 = Int32.ofNat p ∧ Fi (o + 4) (o + 5) M3 u.2 ∧ ∀ s, s < 2 ^ p → mI u.2 (o + 4) s = sw (D 2) p s) (cn D 0) ⟨rfl, Fi.rf, fun s hs => ?_⟩ hBl.n.m0 ?_ ?_
    · have : s = 0 := by rw [Nat.pow_zero] at hs; omega
      subst this
      show mI M3 (o + 4) 0 = _
      rw [F3.i (by omega)]
      exact q4
    · rintro rec p ⟨y, M4⟩ hp ⟨rfl, F4, zz⟩ hrec
      dsimp only at F4 zz
      have FB4 : Fi o (o + 5) M M4 := FB3.trans (F4.wide (by omega) (by omega))
      have hBl4 := hBl.fi FB4 hb
      have Pp := p2_lt hp
      have spw : (1 : Int32) <<< (Int32.ofNat p &&& 31) = Int32.ofNat (2 ^ p) := bt_N _ (by omega)
      unfold bd_X4_prepare_113
      simp only [hBl4.g0, bs, ile_n hp hBl.n.l0]
      refine it_r (I := fun s (u : Int32 × Mem) => u.1 = Int32.ofNat s ∧ Fi (o + 4) (o + 5) M3 u.2 ∧ (∀ t, t < 2 ^ p → mI u.2 (o + 4) t = sw (D 2) p t) ∧ ∀ t, t < s → mI u.2 (o + 4) (2 ^ p + t) = sw (D 2) p t + D 2 p) (2 ^ p) ⟨rfl, F4, zz, fun t ht => absurd ht (Nat.not_lt_zero t)⟩ (by omega) ?_ ?_
      · rintro rec2 s ⟨y, M5⟩ hs ⟨rfl, F5, zl, zh⟩ hrec2
        dsimp only at F5 zl zh
        have FB5 : Fi o (o + 5) M M5 := FB3.trans (F5.wide (by omega) (by omega))
        have h5 := h.fi FB5
        have hBl5 := hBl.fi FB5 hb
        have eidx : Int32.ofNat s ||| Int32.ofNat (2 ^ p) = Int32.ofNat (2 ^ p + s) := by rw [← bt_N p (by omega)]; exact or_N (by omega) hs
        have a3 := h5.a3 (i := s) (by omega)
        rw [zl s hs] at a3
        unfold bd_X4_prepare_123
        simp only [eidx, spw, ile_n hs (show 2 ^ p < 2147483648 by omega), h5.r3, bs, a3, hBl5.s.r2, hBl5.a2 hp, h5.w3 (show 2 ^ p + s < 16 by omega), i_succ]
        refine hrec2 _ ⟨rfl, F5.trans (Fi.sI ⟨by omega, by omega⟩), fun t ht => ?_, fun t ht => ?_⟩
        · show mI (sI M5 _ _ _) (o + 4) t = _
          rw [i_sI, if_neg (by omega)]
          exact zl t ht
        · show mI (sI M5 _ _ _) (o + 4) (2 ^ p + t) = _
          rw [i_sI]
          by_cases e : t = s
          · subst e
            rw [if_pos ⟨rfl, rfl⟩]
          · rw [if_neg (by omega)]
            exact zh t (by omega)
      · rintro rec2 ⟨y, M5⟩ ⟨rfl, F5, zl, zh⟩
        dsimp only at F5 zl zh
        unfold bd_X4_prepare_123
        simp only [spw, ile_e, i_succ]
        refine hrec _ ⟨rfl, F5, fun s hs => ?_⟩
        rw [Nat.pow_succ] at hs
        show mI M5 (o + 4) s = _
        by_cases c : s < 2 ^ p
        · rw [sw_lo (by omega) c]; exact zl s c
        · have e : s = 2 ^ p + (s - 2 ^ p) := by omega
          rw [e, sw_hi (by omega) (by omega)]
          exact zh _ (by omega)
    · rintro rec ⟨y, M4⟩ ⟨rfl, F4, zz⟩
      dsimp only at F4 zz
      have FB4 : Fi o (o + 5) M M4 := FB3.trans (F4.wide (by omega) (by omega))
      have hBl4 := hBl.fi FB4 hb
      unfold bd_X4_prepare_113
      simp only [hBl4.g0, bs, ile_e]
      -- the projects within an area
      refine it_r (I := fun a (u : Int32 × Mem) => u.1 = Int32.ofNat a ∧ Fi (o + 3) (o + 4) M4 u.2 ∧ ∀ s, s < a → mI u.2 (o + 3) s = pw D (Int32.ofNat s)) (2 ^ cn D 0) ⟨rfl, Fi.rf, fun s hs => absurd hs (Nat.not_lt_zero s)⟩ (by omega) ?_ ?_
      · rintro rec a ⟨y, M5⟩ ha ⟨rfl, F5, zs⟩ hrec
        dsimp only at F5 zs
        have FB5 : Fi o (o + 5) M M5 := FB4.trans (F5.wide (by omega) (by omega))
        have h5 := h.fi FB5
        have hBl5 := hBl.fi FB5 hb
        have e5 : mI M5 o 5 = Int32.ofNat (2 ^ cn D 0) := by rw [F5.i (by omega), F4.i (by omega), F3.i (by omega)]; exact z5
        unfold bd_X4_prepare_167
        simp only [h5.gi, e5, bs, ile_n ha (show 2 ^ cn D 0 < 2147483648 by omega), h5.r2, f_pw hBl5, h5.w2 (show a < 16 by omega), i_succ]
        refine hrec _ ⟨rfl, F5.trans (Fi.sI ⟨by omega, by omega⟩), fun s hs => ?_⟩
        show mI (sI M5 _ _ _) (o + 3) s = _
        rw [i_sI]
        by_cases e : s = a
        · subst e; rw [if_pos ⟨rfl, rfl⟩]
        · rw [if_neg (by omega)]; exact zs s (by omega)
      · rintro rec ⟨y, M5⟩ ⟨rfl, F5, zs⟩
        dsimp only at F5 zs
        have FB5 : Fi o (o + 5) M M5 := FB4.trans (F5.wide (by omega) (by omega))
        have h5 := h.fi FB5
        have e5 : mI M5 o 5 = Int32.ofNat (2 ^ cn D 0) := by rw [F5.i (by omega), F4.i (by omega), F3.i (by omega)]; exact z5
        have e4' : mI M5 o 4 = Int32.ofNat (2 ^ cn D 1) := by rw [F5.i (by omega), F4.i (by omega), F3.i (by omega)]; exact z4
        have pos1 : 0 < 2 ^ cn D 1 := Nat.two_pow_pos _
        have pos0 : 0 < 2 ^ cn D 0 := Nat.two_pow_pos _
        have V : ∀ s, s < 2 ^ cn D 1 → mI M5 (o + 1) s = vl D (Int32.ofNat s) ∧ mI M5 (o + 2) s = ct D (Int32.ofNat s) := fun s hs => by
          rw [F5.i (by omega), F4.i (by omega), F5.i (by omega), F4.i (by omega)]; exact z s hs
        have U : ∀ a, a < 2 ^ cn D 0 → mI M5 (o + 3) a = pw D (Int32.ofNat a) ∧ mI M5 (o + 4) a = pbud D (Int32.ofNat a) := fun a ha => ⟨zs a ha, by rw [F5.i (by omega)]; exact zz a ha⟩
        have sz : ∀ (w : Nat → Int32) (n : Nat), n < 32 → sw w n 0 = 0 := fun w n hn => by
          have : sm n (fun p => if hs (Int32.ofNat 0) (Int32.ofNat p) = true then w p else 0) = sm 0 (fun p => if hs (Int32.ofNat 0) (Int32.ofNat p) = true then w p else 0) := sm_ext _ (Nat.zero_le n) (fun i _ hi => by rw [show Int32.ofNat 0 = (0 : Int32) from rfl, hs_0 (by omega)]; rfl)
          exact this
        unfold bd_X4_prepare_167
        simp only [h5.gi, e5, bs, ile_e]
        refine ok.pure ⟨FB5, ⟨?_, ?_, ?_⟩, e4', e5, V, U⟩
        · rw [(V 0 pos1).1, vl_sw, sz _ _ (by omega)]
        · rw [(V 0 pos1).2, ct_sw, sz _ _ (by omega)]
        · rw [(U 0 pos0).2, pb_sw, sz _ _ (by omega)]
end
