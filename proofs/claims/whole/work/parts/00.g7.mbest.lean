/-! ===== the reference's sets, and its rules ===== -/
section
/-- what the reference's questions leave alone -/
def Mq (m : Nat) (M M' : Mem) : Prop := mK M' = mK M ∧ mR M' = mR M ∧ mN M' = mN M ∧ (∀ a, a ≠ m + 17 → mL M' a = mL M a) ∧ (∀ a, a ≠ m → (a < m + 11 ∨ m + 19 ≤ a) → mI M' a = mI M a) ∧ ∀ j, j ≠ 30 → j ≠ 31 → j ≠ 38 → j ≠ 39 → mI M' m j = mI M m j
variable {M M' M1 M2 : Mem} {m : Nat} {D : Bl}
theorem Mq.rf : Mq m M M := ⟨rfl, rfl, rfl, fun _ _ => rfl, fun _ _ _ => rfl, fun _ _ _ _ _ => rfl⟩
theorem Mq.trans (h1 : Mq m M M1) (h2 : Mq m M1 M2) : Mq m M M2 := ⟨h2.1.trans h1.1, h2.2.1.trans h1.2.1, h2.2.2.1.trans h1.2.2.1, fun a h3 => (h2.2.2.2.1 a h3).trans (h1.2.2.2.1 a h3), fun a h3 h4 => (h2.2.2.2.2.1 a h3 h4).trans (h1.2.2.2.2.1 a h3 h4), fun j a b c d => (h2.2.2.2.2.2 j a b c d).trans (h1.2.2.2.2.2 j a b c d)⟩
theorem Mg.q (h : Mg m M M') : Mq m M M' := ⟨h.1, h.2.2.1, h.2.2.2.1, fun a _ => by rw [h.2.1], fun a q1 q2 => h.2.2.2.2.1 a q1 (by omega), fun j b c d e => h.2.2.2.2.2 j b c d e⟩
theorem Mq.sL {j : Nat} (x : Int64) : Mq m M (sL M (m + 17) j x) := ⟨rfl, rfl, rfl, fun a h => by
  funext k
  rw [l_sL, if_neg (by omega)], fun _ _ _ => rfl, fun _ _ _ _ _ => rfl⟩
theorem Mq.row (h : Mq m M M') {x : Nat} (h1 : x ≠ m) (h2 : x < m + 11 ∨ m + 19 ≤ x) (k : Nat) : mI M' x k = mI M x k := congrFun (h.2.2.2.2.1 x h1 h2) k
theorem Mq.fld (h : Mq m M M') {j : Nat} (hj : j ≠ 30 ∧ j ≠ 31 ∧ j ≠ 38 ∧ j ≠ 39) : mI M' m j = mI M m j := h.2.2.2.2.2 j hj.1 hj.2.1 hj.2.2.1 hj.2.2.2
theorem IsMo.mq (h : IsMo M m) (hF : Mq m M M') : IsMo M' m := h.e hF.1 hF.2.1
theorem IsM.mq (h : IsM M m D) (hF : Mq m M M') : IsM M' m D := h.up hF.1 hF.2.1 (fun j hj => hF.fld (by omega)) (fun j => hF.row (by omega) (by omega) j) (fun j => hF.row (by omega) (by omega) j) (fun j => hF.row (by omega) (by omega) j) (fun j => hF.row (by omega) (by omega) j)
theorem Mq.fq (h : Mq m M M') : Fq m (m + 19) M M' := ⟨h.1, h.2.2.1, fun a ha => ⟨h.2.2.2.2.1 a (by omega) (by omega), h.2.2.2.1 a (by omega), by rw [h.2.1]⟩⟩
/-! sums -/
theorem m_ct (h : IsM M m D) (set : Int32) : f_X9_costsOf M m set = some (ct D set) := by
  unfold f_X9_costsOf
  refine it_s (k := fun a => some a) (cn D 1) _ h.n.m1 (fun rec i a hi => ?_) (fun rec a => ?_)
  · unfold bd_X9_costsOf_4
    simp only [h.g6, bs, ile_n hi h.n.l1, f_has9, b2i_ite, h.s.r0, h.d4 hi, is_, ltq, i_succ]
  · unfold bd_X9_costsOf_4
    simp only [h.g6, bs, ile_e]
theorem hs_pw (hD : Cn D) (a : Int32) {p : Nat} (hp : p < 32) : hs (pw D a) (Int32.ofNat p) = (decide (p < cn D 1) && decide (D 5 p &&& (a ^^^ (-1)) = 0)) := by
  have l1 := hD.2.2.1
  rw [← hs_fo (fun p => decide (D 5 p &&& (a ^^^ (-1)) = 0)) (show cn D 1 ≤ 32 by omega) hp]
  unfold pw
  congr 2
  funext v s
  by_cases c : D 5 v &&& (a ^^^ (-1)) = 0 <;> simp [c]
theorem m_pay (h : IsM M m D) (set : Int32) : f_X9_isPayable M m set = some (b2i (cp D set)) := by
  have l0 := h.n.2.1
  have l1 := h.n.2.2.1
  have P0 := p2_le l0
  have e4 : 2 ^ 4 = 16 := rfl
  refine eq_ok ?_
  unfold f_X9_isPayable
  have s2 : (1 : Int32) <<< (Int32.ofNat (cn D 0) &&& 31) = Int32.ofNat (2 ^ cn D 0) := bt_N _ (by omega)
  refine it_r (I := fun a (u : Int32) => u = Int32.ofNat a ∧ cpN D set a = true) (2 ^ cn D 0) ⟨rfl, rfl⟩ (by omega) ?_ ?_
  · rintro rec a u ha ⟨rfl, h0⟩ hrec
    unfold bd_X9_isPayable_2
    simp only [h.g5, bs, s2, ile_n ha (show 2 ^ cn D 0 < 2147483648 by omega)]
    have k1 : ∀ kk : Int32 × Int32 → Option Int32, it_ (bd_X9_isPayable_20 M m set (Int32.ofNat a) kk) FU (0, 0) = kk (ct D (set &&& pw D (Int32.ofNat a)), Int32.ofNat (cn D 1)) := fun kk => by
      refine it_s (k := fun x => kk (x, Int32.ofNat (cn D 1))) (cn D 1) _ h.n.m1 (fun rec i z hi => ?_) (fun rec z => ?_)
      · unfold bd_X9_isPayable_20
        simp only [h.g6, bs, ile_n hi h.n.l1, f_has9, b2i_ite, h.s.r10, h.d5 hi, h.s.r0, h.d4 hi, is_, ltq, i_succ]
        rw [hs_and (by omega), hs_pw h.n _ (by omega), decide_eq_true hi, Bool.true_and]
        by_cases c1 : hs set (Int32.ofNat i) = true
        · by_cases c2 : D 5 i &&& (Int32.ofNat a ^^^ (-1)) = 0
          · rw [c1, if_pos c2, decide_eq_true c2]; rfl
          · rw [c1, if_neg c2, decide_eq_false c2]; rfl
        · rw [Bool.not_eq_true] at c1
          rw [c1]; rfl
      · unfold bd_X9_isPayable_20
        simp only [h.g6, bs, ile_e]
    have k2 : ∀ kk : Int32 × Int32 → Option Int32, it_ (bd_X9_isPayable_78 M m (Int32.ofNat a) kk) FU (0, 0) = kk (pbud D (Int32.ofNat a), Int32.ofNat (cn D 0)) := fun kk => by
      refine it_s (k := fun x => kk (x, Int32.ofNat (cn D 0))) (cn D 0) _ h.n.m0 (fun rec i z hi => ?_) (fun rec z => ?_)
      · unfold bd_X9_isPayable_78
        simp only [h.g5, bs, ile_n hi h.n.l0, f_has9, b2i_ite, h.s.r0, h.d2 hi, is_, ltq, i_succ]
      · unfold bd_X9_isPayable_78
        simp only [h.g5, bs, ile_e]
    rw [k1, k2]
    dsimp only
    refine ok.ite (fun c => ?_) (fun c => ?_)
    · rw [i_succ]
      exact hrec _ ⟨rfl, by rw [cpN_s, h0, decide_eq_true c]; rfl⟩
    · have h1 : cpN D set (a + 1) = false := by rw [cpN_s, h0, decide_eq_false c]; rfl
      have h2 := cpN_dn h1 (2 ^ cn D 0 - (a + 1))
      rw [show a + 1 + (2 ^ cn D 0 - (a + 1)) = 2 ^ cn D 0 by omega] at h2
      rw [isB0]
      refine ok.pure ?_
      unfold cp
      rw [h2]
  · rintro rec u ⟨rfl, h0⟩
    unfold bd_X9_isPayable_2
    simp only [h.g5, bs, s2, ile_e, isB1]
    refine ok.pure ?_
    unfold cp
    rw [h0]
/-! gains are long, values are ints: the same -/
theorem l_ofN {n : Nat} (h : n < 2147483648) : (Int32.ofNat n).toInt64 = Int64.ofNat n := by
  apply Int64.toInt_inj.1
  rw [Int32.toInt_toInt64, i_toInt h, Int64.toInt_ofNat_of_lt (by omega)]
theorem wo_N (hG : Gd D) {p : Nat} (hp : p < cn D 1) : ∃ k, k ≤ 100000 ∧ wo D p = Int32.ofNat k := by
  obtain ⟨c1, c2, c3⟩ := cost_N hG hp
  unfold wo
  split
  · exact ⟨1, by omega, rfl⟩
  · exact ⟨_, c2, c3⟩
theorem va_N (hG : Gd D) (hT : Tl D) {p : Nat} (hp : p < cn D 1) : ∃ k, k ≤ 21600000 ∧ va D p = Int32.ofNat k ∧ (vt D p).toInt64 * (wo D p).toInt64 = Int64.ofNat k := by
  obtain ⟨w, w1, w2⟩ := wo_N hG hp
  obtain ⟨v1, v2⟩ := vt_N hG p
  have := Nat.mul_le_mul v1 w1
  refine ⟨sN (cn D 2) (wv D p) * w, by omega, ?_, ?_⟩
  · unfold va
    rw [hT.2, v2, w2, i_mul]
  · rw [v2, w2, l_ofN (by omega), l_ofN (by omega), Int64.ofNat_mul]
def MGn (M : Mem) (m : Nat) (D : Bl) : Prop := ∀ p, p < cn D 1 → mL M (m + 17) p = (vt D p).toInt64 * (wo D p).toInt64
theorem m_lay (h : IsM M m D) : ok (f_X9_layGains M m) (fun M' => Mq m M M' ∧ mI M' = mI M ∧ MGn M' m D) := by
  have l1 := h.n.2.2.1
  unfold f_X9_layGains
  refine it_r (I := fun i (u : Int32 × Mem) => u.1 = Int32.ofNat i ∧ Mq m M u.2 ∧ mI u.2 = mI M ∧ ∀ p, p < i → mL u.2 (m + 17) p = (vt D p).toInt64 * (wo D p).toInt64) (cn D 1) ⟨rfl, Mq.rf, rfl, fun p hp => absurd hp (Nat.not_lt_zero p)⟩ h.n.m1 ?_ ?_
  · rintro rec i ⟨y, M3⟩ hi ⟨rfl, F, hI, z⟩ hrec
    dsimp only at F hI z
    have h3 := h.mq F
    unfold bd_X9_layGains_2
    have w : ∀ x, wL M3 (m + 17) (Int32.ofNat i) x = some (sL M3 (m + 17) i x) := fun x => wL_e h3.s.k40 (by omega) (by omega)
    simp only [h3.g6, bs, ile_n hi h.n.l1, h3.s.r40, h3.s.c, m_vt h3 hi, m_wo h3 hi, w, i_succ]
    refine hrec _ ⟨rfl, F.trans (Mq.sL _), hI, fun p hp => ?_⟩
    show mL (sL M3 _ _ _) (m + 17) p = _
    rw [l_sL]
    by_cases e : p = i
    · subst e; rw [if_pos ⟨rfl, rfl⟩]
    · rw [if_neg (by omega)]; exact z p (by omega)
  · rintro rec ⟨y, M3⟩ ⟨rfl, F, hI, z⟩
    dsimp only at F hI z
    have h3 := h.mq F
    unfold bd_X9_layGains_2
    simp only [h3.g6, bs, ile_e]
    exact ok.pure ⟨F, hI, z⟩
theorem vl_N (hG : Gd D) (hT : Tl D) (set : Int32) : ∃ k, k ≤ 259200000 ∧ vl D set = Int32.ofNat k ∧ ∀ (M : Mem) (m : Nat), MGn M m D → IsM M m D → f_X9_gainOf M m set = some (Int64.ofNat k) := by
  have l1 := hG.n.2.2.1
  refine ⟨sN (cn D 1) (fun p => if hs set (Int32.ofNat p) = true then nt (va D p) else 0), ?_, ?_, ?_⟩
  · have := sN_bd (n := cn D 1) (f := fun p => if hs set (Int32.ofNat p) = true then nt (va D p) else 0) (c := 21600000) (fun p hp => by
      obtain ⟨k, k1, k2, -⟩ := va_N hG hT hp
      rw [k2, nt_o (by omega)]
      split <;> omega)
    have := Nat.mul_le_mul_right 21600000 l1
    omega
  · refine sm_N fun p hp => ?_
    obtain ⟨k, k1, k2, -⟩ := va_N hG hT hp
    unfold va at k2 ⊢
    rw [k2, nt_o (by omega)]
    split <;> rfl
  · intro M m hg h
    unfold f_X9_gainOf
    refine it_eq (st := fun i => (Int64.ofNat (sN i (fun p => if hs set (Int32.ofNat p) = true then nt (va D p) else 0)), Int32.ofNat i)) (cn D 1) rfl h.n.m1 (fun rec i hi => ?_) (fun rec => ?_)
    · have a : aL M (m + 17) (Int32.ofNat i) = some (mL M (m + 17) i) := aL_e h.s.k40 (by omega) (by omega)
      obtain ⟨k, k1, k2, k3⟩ := va_N hG hT hi
      rw [hg i hi, k3] at a
      unfold bd_X9_gainOf_5
      simp only [h.g6, bs, ile_n hi h.n.l1, f_has9, b2i_ite, h.s.r40, a, is_, ltq, i_succ]
      rw [sN_s, Int64.ofNat_add, k2, nt_o (by omega)]
      congr 2
      split <;> rfl
    · unfold bd_X9_gainOf_5
      simp only [h.g6, bs, ile_e]
theorem m_gain (hG : Gd D) (hT : Tl D) (h : IsM M m D) (hg : MGn M m D) (set : Int32) : f_X9_gainOf M m set = some (vl D set).toInt64 := by
  obtain ⟨k, k1, k2, k3⟩ := vl_N hG hT set
  rw [k3 M m hg h, k2, l_ofN (by omega)]
theorem lg_32 (x y : Int32) : (lg_cmp x.toInt64 y.toInt64 < 0 ↔ x < y) ∧ (lg_cmp x.toInt64 y.toInt64 = 0 ↔ x = y) ∧ (lg_cmp x.toInt64 y.toInt64 ≤ 0 ↔ x ≤ y) := by
  have hgt : x.toInt64 > y.toInt64 ↔ y < x := by
    rw [lt_i, ← Int32.toInt_toInt64, ← Int32.toInt_toInt64 x]
    exact lt_l _ _
  have heq : x.toInt64 = y.toInt64 ↔ x = y := by rw [eq_l, eq_i, Int32.toInt_toInt64, Int32.toInt_toInt64]
  rw [lt_i x y, le_i x y, eq_i x y]
  rw [lt_i y x] at hgt
  rw [eq_i x y] at heq
  unfold lg_cmp
  by_cases h : x.toInt64 > y.toInt64
  · rw [if_pos h]
    rw [hgt] at h
    exact ⟨⟨fun z => absurd z (by decide), fun z => by omega⟩, ⟨fun z => absurd z (by decide), fun z => by omega⟩, ⟨fun z => absurd z (by decide), fun z => by omega⟩⟩
  · rw [if_neg h]
    rw [hgt] at h
    by_cases h2 : x.toInt64 = y.toInt64
    · rw [if_pos h2]
      rw [heq] at h2
      exact ⟨⟨fun z => absurd z (by decide), fun z => by omega⟩, ⟨fun _ => h2, fun _ => rfl⟩, ⟨fun _ => by omega, fun _ => by decide⟩⟩
    · rw [if_neg h2]
      rw [heq] at h2
      exact ⟨⟨fun _ => by omega, fun _ => by decide⟩, ⟨fun z => absurd z (by decide), fun z => absurd z h2⟩, ⟨fun _ => by omega, fun _ => by decide⟩⟩
/-- the search for the best set -/
theorem m_bsearch {α : Type} (hG : Gd D) (hT : Tl D) (h : IsM M m D) (hg : MGn M m D) (kk : Int32 × Int32 → Option α) : it_ (bd_X9_best_12 m M kk) FU (0, 1) = kk (bst D 0, Int32.ofNat (2 ^ cn D 1)) := by
  have l1 := hG.n.2.2.1
  have P1 := p2_le l1
  have e12 : 2 ^ 12 = 4096 := rfl
  have pos1 : 0 < 2 ^ cn D 1 := Nat.two_pow_pos _
  have s1 : (1 : Int32) <<< (Int32.ofNat (cn D 1) &&& 31) = Int32.ofNat (2 ^ cn D 1) := bt_N _ (by omega)
  have e : 2 ^ cn D 1 - 1 + 1 = 2 ^ cn D 1 := by omega
  refine it_eq (st := fun i => (bsN D 0 (i + 1), Int32.ofNat (i + 1))) (2 ^ cn D 1 - 1) ?_ (by omega) (fun rec i hi => ?_) (fun rec => ?_)
  · show ((0 : Int32), (1 : Int32)) = (bsN D 0 1, Int32.ofNat 1)
    rw [bsN_1]; rfl
  · have hi2 : i + 1 < 2 ^ cn D 1 := by omega
    unfold bd_X9_best_12 jn_
    dsimp only
    rw [bsN_s (D := D) 0 (i + 1)]
    generalize bsN D 0 (i + 1) = a
    simp only [h.g6, bs, s1, ile_n hi2 (show 2 ^ cn D 1 < 2147483648 by omega), h.s.c, m_gain hG hT h hg, m_ct h, m_pay h, b2i_ite, is_, i_succ]
    refine congrArg (fun z => rec (z, Int32.ofNat (i + 1 + 1))) ?_
    unfold bsF btr
    generalize Int32.ofNat (i + 1) = z
    obtain ⟨g1, g2, -⟩ := lg_32 (vl D z) (vl D a)
    by_cases c1 : vl D z < vl D a
    · have n1 : ¬ vl D a < vl D z := by rw [lt_i] at c1 ⊢; omega
      have n2 : ¬ vl D z = vl D a := by rw [eq_i]; rw [lt_i] at c1; omega
      rw [if_pos (g1.mpr c1)]
      simp [n1, n2]
    · rw [if_neg (fun q => c1 (g1.mp q))]
      by_cases c2 : vl D z = vl D a
      · have n1 : ¬ vl D a < vl D z := by rw [c2]; rw [lt_i]; omega
        rw [if_pos (g2.mpr c2)]
        by_cases c3 : ct D a ≤ ct D z
        · have n3 : ¬ ct D z < ct D a := by rw [lt_i]; rw [le_i] at c3; omega
          simp [n1, c3, n3]
        · have n3 : ct D z < ct D a := by rw [lt_i]; rw [le_i] at c3; omega
          simp [c2, c3, n3]
      · rw [if_neg (fun q => c2 (g2.mp q))]
        have n1 : vl D a < vl D z := by rw [lt_i] at c1 ⊢; rw [eq_i] at c2; omega
        simp [n1]
  · unfold bd_X9_best_12
    dsimp only
    rw [e]
    simp only [h.g6, bs, s1, ile_e]
    rfl
/-- the members of a set in the row, the lowest first -/
def MB (M : Mem) (m : Nat) (D : Bl) (set : Int32) : Prop := mI M m 30 = set ∧ mI M m 31 = Int32.ofNat (ctB set (cn D 1)) ∧ ∀ p, p < cn D 1 → hs set (Int32.ofNat p) = true → mI M (m + 12) (ctB set p) = Int32.ofNat p
theorem m_best (h : IsM M m D) (hG : Gd D) (hT : Tl D) : ok (f_X9_best M m) (fun M' => Mq m M M' ∧ MB M' m D (bst D 0) ∧ MGn M' m D) := by
  have l1 := hG.n.2.2.1
  have P1 := p2_le l1
  have e12 : 2 ^ 12 = 4096 := rfl
  have pos1 : 0 < 2 ^ cn D 1 := Nat.two_pow_pos _
  unfold f_X9_best
  simp only [h.s.c, bs]
  refine ok.seq (m_clear h.s) ?_
  rintro M1 ⟨F1, z30, z31, -⟩
  have h1 := h.mf F1
  simp only [h1.s.c, bs]
  refine ok.seq (m_lay h1) ?_
  rintro M2 ⟨F2, i2, hg⟩
  have h2 := h1.mq F2
  rw [m_bsearch hG hT h2 hg]
  obtain ⟨t, t1, t2⟩ := bsN_in (D := D) 0 (2 ^ cn D 1)
  have hset : ∀ i, i < 32 → hs (bst D 0) (Int32.ofNat i) = true → i < cn D 1 := fun i hi z => by
    have e : bst D 0 = Int32.ofNat t := t2
    rw [e, hs_N _ hi] at z
    rcases Nat.lt_or_ge i (cn D 1) with q | q
    · exact q
    · have := p2_le q
      rw [Nat.testBit_lt_two_pow (by omega)] at z
      exact Bool.noConfusion z
  generalize bst D 0 = B at *
  -- the set so far
  refine it_r (I := fun i (u : Int32 × Mem) => u.1 = Int32.ofNat i ∧ Mf m M2 u.2 ∧ (∀ o, o < 32 → hs (mI u.2 m 30) (Int32.ofNat o) = (hs B (Int32.ofNat o) && decide (o < i))) ∧ mI u.2 m 31 = Int32.ofNat (ctB B i) ∧ ∀ p, p < i → hs B (Int32.ofNat p) = true → mI u.2 (m + 12) (ctB B p) = Int32.ofNat p) (cn D 1) ⟨rfl, Mf.rf, fun o ho => ?_, ?_, fun p hp => absurd hp (Nat.not_lt_zero p)⟩ hG.n.m1 ?_ ?_
  · show hs (mI M2 m 30) _ = _
    rw [i2, z30, hs_0 ho]; simp
  · show mI M2 m 31 = _
    rw [i2, z31]; rfl
  · rintro rec i ⟨y, M3⟩ hi ⟨rfl, F3, y30, y31, y12⟩ hrec
    dsimp only at F3 y30 y31 y12
    have h3 := h2.mf F3
    unfold bd_X9_best_83
    simp only [h3.g6, bs, ile_n hi h.n.l1, f_has9, b2i_ite]
    have cs : ctB B (i + 1) = ctB B i + if hs B (Int32.ofNat i) = true then 1 else 0 := rfl
    have cle := ctB_le B i
    by_cases c : hs B (Int32.ofNat i) = true
    · rw [if_pos c] at cs ⊢
      rw [h3.s.c, bs, m_note h3.s y31 rfl (by omega), bs, bs, i_succ]
      refine hrec _ ⟨rfl, F3.trans ((Mf.sI _ (by omega)).trans ((Mf.sIr _ (by omega) (by omega)).trans (Mf.sI _ (by omega)))), fun o ho => ?_, ?_, fun p hp hb => ?_⟩
      · show hs (mI (sI (sI (sI M3 _ _ _) _ _ _) _ _ _) m 30) _ = _
        rw [i_sI, if_neg (by omega), i_sI, if_neg (by omega), i_sI, if_pos ⟨rfl, rfl⟩, hs_ad (by omega) ho, y30 o ho]
        by_cases e : o = i
        · subst e; simp [c]
        · rw [decide_eq_false e, Bool.or_false]
          congr 1
          by_cases e2 : o < i
          · rw [decide_eq_true e2, decide_eq_true (by omega)]
          · rw [decide_eq_false e2, decide_eq_false (by omega)]
      · show mI (sI (sI (sI M3 _ _ _) _ _ _) _ _ _) m 31 = _
        rw [i_sI, if_pos ⟨rfl, rfl⟩, cs]
      · show mI (sI (sI (sI M3 _ _ _) _ _ _) _ _ _) (m + 12) _ = _
        rw [i_sI, if_neg (by omega), i_sI]
        by_cases e : p = i
        · subst e; rw [if_pos ⟨rfl, rfl⟩]
        · have hlt : ctB B p < ctB B i := by
            have key : ∀ j, ctB B (p + 1) ≤ ctB B (p + 1 + j) := by
              intro j
              induction j with
              | zero => exact Nat.le_refl _
              | succ j ih => exact Nat.le_trans ih (Nat.le_add_right _ _)
            have := key (i - (p + 1))
            rw [show p + 1 + (i - (p + 1)) = i by omega] at this
            have e2 : ctB B (p + 1) = ctB B p + if hs B (Int32.ofNat p) = true then 1 else 0 := rfl
            rw [if_pos hb] at e2
            omega
          rw [if_neg (by omega), i_sI, if_neg (by omega)]
          exact y12 p (by omega) hb
    · rw [if_neg c] at cs ⊢
      rw [bs, i_succ]
      refine hrec _ ⟨rfl, F3, fun o ho => ?_, by rw [cs]; exact y31, fun p hp hb => ?_⟩
      · rw [y30 o ho]
        by_cases e : o = i
        · subst e
          rw [Bool.not_eq_true] at c
          rw [c]; rfl
        · congr 1
          by_cases e2 : o < i
          · rw [decide_eq_true e2, decide_eq_true (by omega)]
          · rw [decide_eq_false e2, decide_eq_false (by omega)]
      · by_cases e : p = i
        · subst e; exact absurd hb c
        · exact y12 p (by omega) hb
  · rintro rec ⟨y, M3⟩ ⟨rfl, F3, y30, y31, y12⟩
    dsimp only at F3 y30 y31 y12
    have h3 := h2.mf F3
    unfold bd_X9_best_83
    simp only [h3.g6, bs, ile_e]
    refine ok.pure ⟨F1.g.q.trans (F2.trans F3.g.q), ⟨hs_ext fun o ho => ?_, y31, y12⟩, fun p hp => ?_⟩
    · rw [y30 o ho]
      cases e : hs B (Int32.ofNat o)
      · rfl
      · rw [decide_eq_true (hset o ho e)]; rfl
    · rw [F3.2.1]; exact hg p hp
end
