/-! ===== the reference's greedy rule ===== -/
section
variable {M : Mem} {m : Nat} {D : Bl}
theorem hs_vo (hD : Cn D) {p : Nat} (hp : p < 32) : hs (vo D) (Int32.ofNat p) = (decide (p < cn D 1) && !decide (D 11 p ≤ 0)) := by
  have l1 := hD.2.2.1
  rw [← hs_fo (fun p => !decide (D 11 p ≤ 0)) (show cn D 1 ≤ 32 by omega) hp]
  unfold vo
  congr 2
  funext v a
  by_cases c : D 11 v ≤ 0 <;> simp [c]
theorem lg_lt (x y : Int64) : (lg_cmp x y = 0 ↔ x.toInt = y.toInt) ∧ (¬ lg_cmp x y = 0 → (lg_cmp x y ≤ 0 ↔ x.toInt < y.toInt)) := by
  have hgt : x > y ↔ y.toInt < x.toInt := lt_l y x
  have heq : x = y ↔ x.toInt = y.toInt := eq_l x y
  unfold lg_cmp
  by_cases h : x > y
  · rw [if_pos h]
    rw [hgt] at h
    exact ⟨⟨fun z => absurd z (by decide), fun z => by omega⟩, fun _ => ⟨fun z => absurd z (by decide), fun z => by omega⟩⟩
  · rw [if_neg h]
    rw [hgt] at h
    by_cases h2 : x = y
    · rw [if_pos h2]
      rw [heq] at h2
      exact ⟨⟨fun _ => h2, fun _ => rfl⟩, fun z => absurd rfl z⟩
    · rw [if_neg h2]
      rw [heq] at h2
      exact ⟨⟨fun z => absurd z (by decide), fun z => absurd z h2⟩, fun _ => ⟨fun _ => by omega, fun _ => by decide⟩⟩
theorem m_ahead (h : IsM M m D) (hG : Gd D) (hT : Tl D) {p o : Nat} (hp : p < cn D 1) (ho : o < cn D 1) : f_X9_isAhead M m (Int32.ofNat p) (Int32.ofNat o) = some (b2i (gb D p o)) := by
  have l1 := hG.n.2.2.1
  have e9 := h.d9 (i := 3) (by omega)
  obtain ⟨c1, c2, c3⟩ := cost_N hG hp
  obtain ⟨d1, d2, d3⟩ := cost_N hG ho
  obtain ⟨v1, v2⟩ := vt_N hG p
  obtain ⟨w1, w2⟩ := vt_N hG o
  have e2 : (Int32.ofNat o ≤ Int32.ofNat p) ↔ o ≤ p := i_le (by omega) (by omega)
  unfold f_X9_isAhead gb
  simp only [h.s.c, bs, m_vt h hp, ltq, m_vt h ho, h.s.r0, show aI M (m + 1) 3 = some (D 9 3) from e9, h.d4 ho, h.d4 hp, is_]
  -- the two numbers that are compared
  have key : ∃ A B : Int, ((if D 9 3 = 1 then ((vt D p).toInt64 * (D 4 o).toInt64, (vt D o).toInt64 * (D 4 p).toInt64) else ((vt D p).toInt64, (vt D o).toInt64)) : Int64 × Int64).1.toInt = A ∧ ((if D 9 3 = 1 then ((vt D p).toInt64 * (D 4 o).toInt64, (vt D o).toInt64 * (D 4 p).toInt64) else ((vt D p).toInt64, (vt D o).toInt64)) : Int64 × Int64).2.toInt = B ∧ (gd D p o).toInt = A - B := by
    have t1 : (vt D p).toInt = (sN (cn D 2) (wv D p) : Int) := by rw [v2, i_toInt (by omega)]
    have t2 : (vt D o).toInt = (sN (cn D 2) (wv D o) : Int) := by rw [w2, i_toInt (by omega)]
    have t3 : (D 4 p).toInt = (nt (D 4 p) : Int) := by rw [nt_i (by have := hG.2.2.1 p hp; omega)]
    have t4 : (D 4 o).toInt = (nt (D 4 o) : Int) := by rw [nt_i (by have := hG.2.2.1 o ho; omega)]
    generalize sN (cn D 2) (wv D p) = V at *
    generalize sN (cn D 2) (wv D o) = W at *
    generalize nt (D 4 p) = C at *
    generalize nt (D 4 o) = E at *
    have m1 : V * E ≤ 216 * 100000 := Nat.mul_le_mul v1 d2
    have m2 : W * C ≤ 216 * 100000 := Nat.mul_le_mul w1 c2
    have i1 : (V : Int) * (E : Int) = ((V * E : Nat) : Int) := by rw [Int.natCast_mul]
    have i2 : (W : Int) * (C : Int) = ((W * C : Nat) : Int) := by rw [Int.natCast_mul]
    unfold gd
    rw [hT.2 p, hT.2 o]
    rcases hG.2.2.2.2.2.2.2 with z | z
    · rw [z, if_neg (by decide), if_pos rfl]
      refine ⟨V, W, by rw [Int32.toInt_toInt64, t1], by rw [Int32.toInt_toInt64, t2], ?_⟩
      rw [fb_subI (by rw [t1, t2]; omega) (by rw [t1, t2]; omega), t1, t2]
    · rw [z, if_pos rfl, if_neg (by decide)]
      have p1 : (vt D p * D 4 o).toInt = ((V * E : Nat) : Int) := by rw [fb_mulI (by rw [t1, t4, i1]; omega) (by rw [t1, t4, i1]; omega), t1, t4, i1]
      have p2 : (vt D o * D 4 p).toInt = ((W * C : Nat) : Int) := by rw [fb_mulI (by rw [t2, t3, i2]; omega) (by rw [t2, t3, i2]; omega), t2, t3, i2]
      refine ⟨((V * E : Nat) : Int), ((W * C : Nat) : Int), ?_, ?_, ?_⟩
      · rw [fb_mulL (by rw [Int32.toInt_toInt64, Int32.toInt_toInt64, t1, t4, i1]; omega) (by rw [Int32.toInt_toInt64, Int32.toInt_toInt64, t1, t4, i1]; omega), Int32.toInt_toInt64, Int32.toInt_toInt64, t1, t4, i1]
      · rw [fb_mulL (by rw [Int32.toInt_toInt64, Int32.toInt_toInt64, t2, t3, i2]; omega) (by rw [Int32.toInt_toInt64, Int32.toInt_toInt64, t2, t3, i2]; omega), Int32.toInt_toInt64, Int32.toInt_toInt64, t2, t3, i2]
      · rw [fb_subI (by rw [p1, p2]; omega) (by rw [p1, p2]; omega), p1, p2]
  obtain ⟨A, B, k1, k2, k3⟩ := key
  generalize (if D 9 3 = 1 then ((vt D p).toInt64 * (D 4 o).toInt64, (vt D o).toInt64 * (D 4 p).toInt64) else ((vt D p).toInt64, (vt D o).toInt64) : Int64 × Int64) = z at *
  obtain ⟨g1, g2⟩ := lg_lt z.1 z.2
  rw [k1, k2] at g1 g2
  have hz : gd D p o = 0 ↔ A = B := by rw [eq_i, k3]; show A - B = 0 ↔ _; omega
  have hz2 : gd D p o ≤ 0 ↔ A ≤ B := by rw [le_i, k3]; show A - B ≤ 0 ↔ _; omega
  by_cases c : A = B
  · rw [if_pos (g1.mpr c), if_pos (hz.mpr c)]
    by_cases h1 : D 4 p = D 4 o
    · rw [if_pos h1]
      by_cases h3 : o ≤ p
      · have h4 : ¬ p < o := by omega
        rw [if_pos (e2.mpr h3)]
        simp [h1, h4, isB, b2i]
      · have h4 : p < o := by omega
        rw [if_neg (fun z => h3 (e2.mp z))]
        simp [h1, h4, isB, b2i]
    · rw [if_neg h1]
      by_cases h2 : D 4 o ≤ D 4 p
      · have n1 : ¬ D 4 p < D 4 o := by rw [lt_i]; rw [le_i] at h2; omega
        simp [h1, h2, n1, isB, b2i]
      · have n1 : D 4 p < D 4 o := by rw [lt_i]; rw [le_i] at h2; omega
        simp [h1, h2, n1, isB, b2i]
  · rw [if_neg (fun z => c (g1.mp z)), if_neg (fun z => c (hz.mp z))]
    have g3 := g2 (fun z => c (g1.mp z))
    by_cases c2 : A < B
    · rw [if_pos (g3.mpr c2), decide_eq_true (hz2.mpr (by omega))]
      rfl
    · rw [if_neg (fun z => c2 (g3.mp z)), decide_eq_false (fun z => c2 (by have := hz2.mp z; omega))]
      rfl
/-! the scan -/
theorem m_gscan {α : Type} (h : IsM M m D) (hG : Gd D) (hT : Tl D) {w done x : Int32} (hw : ∀ p, p < cn D 1 → hs w (Int32.ofNat p) = (!hs done (Int32.ofNat p) && !decide (D 11 p ≤ 0))) (kk : Int32 × Int32 → Option α) : it_ (bd_X9_greedily_15 m (done, x, M) kk) FU (-1, 0) = kk (fst_ D w, Int32.ofNat (cn D 1)) := by
  have l1 := hG.n.2.2.1
  refine it_c (k := fun a => kk (a, Int32.ofNat (cn D 1))) (cn D 1) (fsF D w) (-1) hG.n.m1 (fun rec i hi => ?_) (fun rec => ?_)
  · unfold bd_X9_greedily_15
    rw [show fo (fsF D w) i (-1) = fsN D w i from rfl, show fo (fsF D w) (i + 1) (-1) = fsF D w i (fsN D w i) from rfl]
    simp only [h.g6, bs, ile_n hi h.n.l1, f_has9, b2i_ite, h.s.c, m_vt h hi, i_succ]
    unfold fsF
    rw [hw i hi, hT.2 i]
    by_cases c1 : hs done (Int32.ofNat i) = true
    · rw [if_pos c1, bs, c1]
      rfl
    · rw [if_neg c1]
      rw [Bool.not_eq_true] at c1
      rw [c1]
      by_cases c2 : vt D i ≤ 0
      · rw [if_pos c2, bs, decide_eq_true c2]
        rfl
      · rw [if_neg c2, decide_eq_false c2]
        rw [if_pos (show (!false && !false) = true from rfl)]
        rcases fsN_in (D := D) w i with e | ⟨q, hq, e, -⟩
        · rw [e, if_pos m1_neg, if_pos m1_neg, bs]
        · rw [e, if_neg (o_nneg (by omega)), if_neg (o_nneg (by omega)), ix_o (by omega), m_ahead h hG hT hi (by omega)]
          simp only [bs, b2i_ite, is_]
  · unfold bd_X9_greedily_15
    simp only [h.g6, bs, ile_e]
/-- the reference holds a greedy state behind a state of rounds -/
def MG (M : Mem) (m : Nat) (D : Bl) (s : Rst) (g : Gst) : Prop := (∀ d, d < cn D 0 → D 2 d - mI M (m + 16) d = gL g d) ∧ (∀ p, p < 12 → ∀ d, d < 4 → mI M (m + 15) (4 * p + d) = sT s p d + gT_ g p d) ∧ (∀ k, k < sc s + gc g → mI M (m + 12) k = if k < sc s then sQ s k else gQ g (k - sc s)) ∧ mI M m 31 = Int32.ofNat (sc s + gc g) ∧ mI M m 30 = sh_ s ||| gh g
/-- one greedy payment -/
def ggF (M : Mem) (m p : Nat) (area a : Int32) (L : Nat → Int32) (n : Nat) : Nat → Nat → Int32 := fun x j => if x = m + 15 ∧ 4 * p ≤ j ∧ j < 4 * p + n ∧ hs area (Int32.ofNat (j - 4 * p)) = true then pt area L a (j - 4 * p) else if x = m + 16 ∧ j < n then mI M x j + pt area L a j else mI M x j
theorem m_gpay {α : Type} (h : IsM M m D) {p : Nat} (hp : p < cn D 1) {L : Nat → Int32} (hL : ∀ d, d < cn D 0 → D 2 d - mI M (m + 16) d = L d) (a y : Int32) (kk : Int32 × Int32 × Mem → Option α) : it_ (bd_X9_greedily_164 m (Int32.ofNat p, y) kk) FU (a, 0, M) = kk (du (D 5 p) L a (cn D 0), Int32.ofNat (cn D 0), sW M (ggF M m p (D 5 p) a L (cn D 0))) := by
  have l0 := h.n.2.1
  have l1 := h.n.2.2.1
  have F : ∀ n, Fi (m + 15) (m + 17) M (sW M (ggF M m p (D 5 p) a L n)) := fun n => Fi.W fun x hx => by
    funext j
    unfold ggF
    rw [if_neg (show ¬ (x = m + 15 ∧ 4 * p ≤ j ∧ j < 4 * p + n ∧ hs (D 5 p) (Int32.ofNat (j - 4 * p)) = true) by omega), if_neg (show ¬ (x = m + 16 ∧ j < n) by omega)]
  refine it_eq (st := fun d => (du (D 5 p) L a d, Int32.ofNat d, sW M (ggF M m p (D 5 p) a L d))) (cn D 0) ?_ h.n.m0 (fun rec d hd => ?_) (fun rec => ?_)
  · show (a, (0 : Int32), M) = (a, Int32.ofNat 0, sW M (ggF M m p (D 5 p) a L 0))
    refine Prod.ext rfl (Prod.ext rfl ?_)
    show sW M (mI M) = sW M _
    refine congrArg (sW M) ?_
    funext x j
    unfold ggF
    rw [if_neg (show ¬ (x = m + 15 ∧ 4 * p ≤ j ∧ j < 4 * p + 0 ∧ hs (D 5 p) (Int32.ofNat (j - 4 * p)) = true) by omega), if_neg (show ¬ (x = m + 16 ∧ j < 0) by omega)]
  · have h1 := h.fi (F d) (by omega)
    have e2 : mI (sW M (ggF M m p (D 5 p) a L d)) (m + 16) d = mI M (m + 16) d := by
      show ggF M m p (D 5 p) a L d (m + 16) d = _
      unfold ggF
      rw [if_neg (by omega), if_neg (by omega)]
    have g2 := h1.s.a36 (i := d) (by omega)
    rw [e2] at g2
    unfold bd_X9_greedily_164
    have mm : ∀ x y : Int32, (if y ≤ x then y else x) = mi x y := fun x y => by
      unfold mi
      by_cases c : x < y
      · rw [if_pos c, if_neg (by rw [le_i]; rw [lt_i] at c; omega)]
      · rw [if_neg c, if_pos (by rw [le_i]; rw [lt_i] at c; omega)]
    simp only [h1.g5, bs, ile_n hd h.n.l0, h1.s.r10, h1.d5 hp, f_has9, b2i_ite, h1.s.r0, h1.d2 hd, h1.s.r36, g2, hL d hd, is_, mm, h1.s.r35, ml4, h1.s.w35 (show 4 * p + d < 48 by omega), ltq, i_succ]
    by_cases hc : hs (D 5 p) (Int32.ofNat d) = true
    · have ep : pt (D 5 p) L a d = mi (L d) (du (D 5 p) L a d) := by unfold pt; rw [if_pos hc]
      rw [if_pos hc, ← ep]
      have h3 : IsMo (sI (sW M (ggF M m p (D 5 p) a L d)) (m + 15) (4 * p + d) (pt (D 5 p) L a d)) m := h1.s
      have g3 := h3.a36 (i := d) (by omega)
      rw [i_sI, if_neg (by omega), e2] at g3
      simp only [h3.r36, bs, g3, h3.w36 (show d < 4 by omega)]
      rw [du_s]
      refine congrArg rec (Prod.ext rfl (Prod.ext rfl ?_))
      show sW M _ = sW M _
      refine congrArg (sW M) ?_
      funext x j
      show (if x = m + 16 ∧ j = d then mI M (m + 16) d + pt (D 5 p) L a d else if x = m + 15 ∧ j = 4 * p + d then pt (D 5 p) L a d else ggF M m p (D 5 p) a L d x j) = ggF M m p (D 5 p) a L (d + 1) x j
      unfold ggF
      by_cases c1 : x = m + 16 ∧ j = d
      · rw [if_pos c1, if_neg (show ¬ (x = m + 15 ∧ 4 * p ≤ j ∧ j < 4 * p + (d + 1) ∧ hs (D 5 p) (Int32.ofNat (j - 4 * p)) = true) by omega), if_pos (show x = m + 16 ∧ j < d + 1 by omega), c1.1, c1.2]
      · rw [if_neg c1]
        by_cases c2 : x = m + 15 ∧ j = 4 * p + d
        · rw [if_pos c2, if_pos (show x = m + 15 ∧ 4 * p ≤ j ∧ j < 4 * p + (d + 1) ∧ hs (D 5 p) (Int32.ofNat (j - 4 * p)) = true from ⟨c2.1, by omega, by omega, by rw [c2.2, Nat.add_sub_cancel_left]; exact hc⟩), c2.2, Nat.add_sub_cancel_left]
        · rw [if_neg c2]
          by_cases c5 : x = m + 15 ∧ 4 * p ≤ j ∧ j < 4 * p + d ∧ hs (D 5 p) (Int32.ofNat (j - 4 * p)) = true
          · rw [if_pos c5, if_pos (show x = m + 15 ∧ 4 * p ≤ j ∧ j < 4 * p + (d + 1) ∧ hs (D 5 p) (Int32.ofNat (j - 4 * p)) = true from ⟨c5.1, c5.2.1, by omega, c5.2.2.2⟩)]
          · rw [if_neg c5, if_neg (show ¬ (x = m + 15 ∧ 4 * p ≤ j ∧ j < 4 * p + (d + 1) ∧ hs (D 5 p) (Int32.ofNat (j - 4 * p)) = true) from fun z => c5 ⟨z.1, z.2.1, by omega, z.2.2.2⟩)]
            by_cases c6 : x = m + 16 ∧ j < d
            · rw [if_pos c6, if_pos (show x = m + 16 ∧ j < d + 1 by omega)]
            · rw [if_neg c6, if_neg (show ¬ (x = m + 16 ∧ j < d + 1) by omega)]
    · have ep : pt (D 5 p) L a d = 0 := by unfold pt; rw [if_neg hc]
      rw [if_neg hc, bs, du_s, ep, Int32.sub_zero]
      refine congrArg rec (Prod.ext rfl (Prod.ext rfl ?_))
      show sW M _ = sW M _
      refine congrArg (sW M) ?_
      funext x j
      unfold ggF
      by_cases c5 : x = m + 15 ∧ 4 * p ≤ j ∧ j < 4 * p + d ∧ hs (D 5 p) (Int32.ofNat (j - 4 * p)) = true
      · rw [if_pos c5, if_pos (show x = m + 15 ∧ 4 * p ≤ j ∧ j < 4 * p + (d + 1) ∧ hs (D 5 p) (Int32.ofNat (j - 4 * p)) = true from ⟨c5.1, c5.2.1, by omega, c5.2.2.2⟩)]
      · rw [if_neg c5, if_neg (show ¬ (x = m + 15 ∧ 4 * p ≤ j ∧ j < 4 * p + (d + 1) ∧ hs (D 5 p) (Int32.ofNat (j - 4 * p)) = true) from fun z => by
          by_cases e : j = 4 * p + d
          · have z2 := z.2.2.2
            rw [e, Nat.add_sub_cancel_left] at z2
            exact hc z2
          · exact c5 ⟨z.1, z.2.1, by omega, z.2.2.2⟩)]
        by_cases c7 : x = m + 16 ∧ j < d + 1
        · by_cases c8 : j = d
          · rw [if_pos c7, if_neg (show ¬ (x = m + 16 ∧ j < d) by omega), c8, ep, Int32.add_zero]
          · rw [if_pos c7, if_pos (show x = m + 16 ∧ j < d by omega)]
        · rw [if_neg c7, if_neg (show ¬ (x = m + 16 ∧ j < d) by omega)]
  · have h1 := h.fi (F (cn D 0)) (by omega)
    unfold bd_X9_greedily_164
    simp only [h1.g5, bs, ile_e]
end
