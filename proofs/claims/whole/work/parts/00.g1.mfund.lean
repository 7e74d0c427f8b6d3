/-! ===== the reference funds a project ===== -/
section
variable {M : Mem} {m : Nat} {D : Bl} {H : Nat → Nat → Int32}
theorem m_bet (h : IsM M m D) (hG : Gd D) (hT : Tl D) {p o : Nat} (hp : p < cn D 1) (ho : o < cn D 1) (x y : Int32) : f_X9_comesAhead M m (Int32.ofNat p) x (Int32.ofNat o) y = some (b2i (bet D x y p o)) := by
  have e := h.d9 (i := 0) (by omega)
  unfold f_X9_comesAhead bet bp
  rw [hT.2 p, hT.2 o]
  rw [show (aI : Mem → Nat → Int32 → Option Int32) = aI from rfl]
  simp only [ltq, h.s.r0, bs, show aI M (m + 1) 0 = some (D 9 0) from e, h.d4 ho, h.d4 hp, is_, h.s.c, m_vt h hp, m_vt h ho]
  simp only [b2i_01, b2i_10, isB1]
  have e2 : (if D 9 0 = 1 then (x.toInt64 * (D 4 o).toInt64, y.toInt64 * (D 4 p).toInt64) else (x.toInt64, y.toInt64)) = (if D 9 0 = 0 then (x.toInt64, y.toInt64) else (x.toInt64 * (D 4 o).toInt64, y.toInt64 * (D 4 p).toInt64)) := by
    rcases hG.2.2.2.2.1 with z | z <;> rw [z] <;> rfl
  rw [e2]
  generalize (if D 9 0 = 0 then (x.toInt64, y.toInt64) else (x.toInt64 * (D 4 o).toInt64, y.toInt64 * (D 4 p).toInt64)) = z
  by_cases h1 : lg_cmp z.1 z.2 < 0
  · simp [h1, isB, b2i]
  · by_cases h2 : lg_cmp z.1 z.2 = 0
    · simp [h2, isBb]
    · simp [h1, h2, isB, b2i]
/-! the scan for the next one -/
noncomputable def lsv (D : Bl) (H : Nat → Nat → Int32) (ch f : Int32) : Int32 := if f < 0 then 0 else prc D H ch (ix f)
theorem prc_neg (hB : HB D H) (hG : Gd D) {ch : Int32} {p : Nat} (hp : p < cn D 1) : prc D H ch p < 0 ↔ prc D H ch p = -1 := by
  constructor
  · intro z
    unfold prc pr at z ⊢
    by_cases c : hs ch (Int32.ofNat p) = true
    · rw [if_pos c]
    · rw [if_neg c] at z ⊢
      by_cases c2 : D 4 p ≤ allM D H p
      · exfalso
        obtain ⟨q, q1, q2, q3, -⟩ := pr_m1 hB hG hp c2
        unfold pr at q3
        rw [q3] at z
        exact o_nneg (by omega) z
      · rw [if_neg c2]
  · intro z; rw [z]; exact m1_neg
theorem m_scan {α : Type} (h : IsM M m D) (hG : Gd D) (hT : Tl D) (hB : HB D H) (hH : MH M m D H) {ch : Int32} (hch : mI M m 30 = ch) (x : Int32) (kk : Int32 × Int32 × Int32 → Option α) : it_ (bd_X9_rounds_33 m (x, M) kk) FU (-1, 0, 0) = kk (chs D H ch, lsv D H ch (chs D H ch), Int32.ofNat (cn D 1)) := by
  have l1 := hG.n.2.2.1
  refine it_eq (st := fun i => (chN D H ch i, lsv D H ch (chN D H ch i), Int32.ofNat i)) (cn D 1) rfl hG.n.m1 (fun rec i hi => ?_) (fun rec => ?_)
  · unfold bd_X9_rounds_33
    have e : (if hs ch (Int32.ofNat i) = true then (-1) else pr D H i) = prc D H ch i := rfl
    simp only [h.g6, bs, ile_n hi h.n.l1, h.s.gi, hch, f_has9, b2i_ite, h.s.c, m_price h hG hB hH hi, is_, e, i_succ]
    have ln : ∀ f, chN D H ch (i + 1) = f → rec (f, lsv D H ch f, Int32.ofNat (i + 1)) = rec (chN D H ch (i + 1), lsv D H ch (chN D H ch (i + 1)), Int32.ofNat (i + 1)) := fun f z => by rw [z]
    by_cases c1 : prc D H ch i = -1
    · rw [if_pos ((prc_neg hB hG hi).mpr c1), bs]
      refine ln _ ?_
      rw [chN_s]
      unfold chF
      rw [if_pos c1]
    · rw [if_neg (fun z => c1 ((prc_neg hB hG hi).mp z))]
      have own : lsv D H ch (Int32.ofNat i) = prc D H ch i := by
        unfold lsv
        rw [if_neg (o_nneg (by omega)), ix_o (by omega)]
      rcases chN_in (D := D) (H := H) (ch := ch) i with e | ⟨q, hq, e, e2⟩
      · rw [e, if_pos m1_neg, bs]
        dsimp only
        rw [← own]
        refine ln _ ?_
        rw [chN_s, e]
        unfold chF
        rw [if_neg c1, if_pos m1_neg]
      · have lq : lsv D H ch (Int32.ofNat q) = prc D H ch q := by
          unfold lsv
          rw [if_neg (o_nneg (by omega)), ix_o (by omega)]
        rw [e, if_neg (o_nneg (by omega)), m_bet h hG hT hi (by omega)]
        simp only [bs, b2i_ite, is_]
        rw [lq]
        have hst : chN D H ch (i + 1) = if bet D (prc D H ch i) (prc D H ch q) i q = true then Int32.ofNat i else Int32.ofNat q := by
          rw [chN_s, e]
          unfold chF
          rw [if_neg c1, if_neg (o_nneg (by omega)), ix_o (by omega)]
        by_cases cb : bet D (prc D H ch i) (prc D H ch q) i q = true
        · rw [if_pos cb] at hst ⊢
          dsimp only
          rw [← own]
          exact ln _ hst
        · rw [if_neg cb] at hst ⊢
          dsimp only
          rw [← lq]
          exact ln _ hst
  · unfold bd_X9_rounds_33
    simp only [h.g6, bs, ile_e]
    rfl
/-- the reference holds a state, with the prices of those funded -/
def MRC (M : Mem) (m : Nat) (D : Bl) (s : Rst) (pm : Nat → Int32) : Prop := MH M m D (sH s) ∧ (∀ p, p < 12 → ∀ v, v < cn D 2 → mI M (m + 14) (24 * p + v) = sP s p v) ∧ (∀ p, p < 12 → ∀ d, d < 4 → mI M (m + 15) (4 * p + d) = sT s p d) ∧ (∀ d, d < 4 → mI M (m + 16) d = sm 12 fun p => sT s p d) ∧ (∀ k, k < sc s → mI M (m + 12) k = sQ s k) ∧ mI M m 31 = Int32.ofNat (sc s) ∧ mI M m 30 = sh_ s ∧ ∀ p, p < 12 → mI M (m + 13) p = pm p
/-- a voter pays -/
def tkF (M : Mem) (m v p : Nat) (area a : Int32) (n : Nat) : Nat → Nat → Int32 := fun x j => if x = m + 11 ∧ 4 * v ≤ j ∧ j < 4 * v + n then mI M x j - pt area (fun d => mI M (m + 11) (4 * v + d)) a (j - 4 * v) else if x = m + 15 ∧ 4 * p ≤ j ∧ j < 4 * p + n then mI M x j + pt area (fun d => mI M (m + 11) (4 * v + d)) a (j - 4 * p) else if x = m + 16 ∧ j < n then mI M x j + pt area (fun d => mI M (m + 11) (4 * v + d)) a j else mI M x j
theorem m_take (h : IsM M m D) {v p : Nat} (hv : v < cn D 2) (hp : p < cn D 1) (a : Int32) : f_X9_take M m (Int32.ofNat v) (Int32.ofNat p) a = some (sW M (tkF M m v p (D 5 p) a (cn D 0))) := by
  have l0 := h.n.2.1
  have l1 := h.n.2.2.1
  have l2 := h.n.2.2.2
  unfold f_X9_take
  refine it_eq (st := fun d => (du (D 5 p) (fun d => mI M (m + 11) (4 * v + d)) a d, Int32.ofNat d, sW M (tkF M m v p (D 5 p) a d))) (cn D 0) ?_ h.n.m0 (fun rec d hd => ?_) (fun rec => ?_)
  · show (a, (0 : Int32), M) = (a, Int32.ofNat 0, sW M (tkF M m v p (D 5 p) a 0))
    refine Prod.ext rfl (Prod.ext rfl ?_)
    show sW M (mI M) = sW M _
    refine congrArg (sW M) ?_
    funext x j
    unfold tkF
    rw [if_neg (show ¬ (x = m + 11 ∧ 4 * v ≤ j ∧ j < 4 * v + 0) by omega), if_neg (show ¬ (x = m + 15 ∧ 4 * p ≤ j ∧ j < 4 * p + 0) by omega), if_neg (show ¬ (x = m + 16 ∧ j < 0) by omega)]
  · have F : ∀ n, Fi (m + 11) (m + 17) M (sW M (tkF M m v p (D 5 p) a n)) := fun n => Fi.W fun x hx => by
      funext j
      unfold tkF
      rw [if_neg (show ¬ (x = m + 11 ∧ 4 * v ≤ j ∧ j < 4 * v + n) by omega), if_neg (show ¬ (x = m + 15 ∧ 4 * p ≤ j ∧ j < 4 * p + n) by omega), if_neg (show ¬ (x = m + 16 ∧ j < n) by omega)]
    have h1 := h.fi (F d) (by omega)
    have e0 : mI (sW M (tkF M m v p (D 5 p) a d)) (m + 11) (4 * v + d) = mI M (m + 11) (4 * v + d) := by
      show tkF M m v p (D 5 p) a d (m + 11) (4 * v + d) = _
      unfold tkF
      rw [if_neg (by omega), if_neg (by omega), if_neg (by omega)]
    have e1 : mI (sW M (tkF M m v p (D 5 p) a d)) (m + 15) (4 * p + d) = mI M (m + 15) (4 * p + d) := by
      show tkF M m v p (D 5 p) a d (m + 15) (4 * p + d) = _
      unfold tkF
      rw [if_neg (by omega), if_neg (by omega), if_neg (by omega)]
    have e2 : mI (sW M (tkF M m v p (D 5 p) a d)) (m + 16) d = mI M (m + 16) d := by
      show tkF M m v p (D 5 p) a d (m + 16) d = _
      unfold tkF
      rw [if_neg (by omega), if_neg (by omega), if_neg (by omega)]
    have g0 := h1.s.a29 (i := 4 * v + d) (by omega)
    rw [e0] at g0
    unfold bd_X9_take_6
    have mm : ∀ x y : Int32, (if y ≤ x then y else x) = mi x y := fun x y => by
      unfold mi
      by_cases c : x < y
      · rw [if_pos c, if_neg (by rw [le_i]; rw [lt_i] at c; omega)]
      · rw [if_neg c, if_pos (by rw [le_i]; rw [lt_i] at c; omega)]
    simp only [h1.g5, bs, ile_n hd h.n.l0, h1.s.r10, h1.d5 hp, f_has9, b2i_ite, h1.s.r29, ml4, g0, is_, mm, h1.s.w29 (show 4 * v + d < 96 by omega), ltq, i_succ]
    by_cases hc : hs (D 5 p) (Int32.ofNat d) = true
    · have ep : pt (D 5 p) (fun d => mI M (m + 11) (4 * v + d)) a d = mi (mI M (m + 11) (4 * v + d)) (du (D 5 p) (fun d => mI M (m + 11) (4 * v + d)) a d) := by unfold pt; rw [if_pos hc]
      rw [if_pos hc, ← ep]
      have h2 : IsMo (sI (sW M (tkF M m v p (D 5 p) a d)) (m + 11) (4 * v + d) (mI M (m + 11) (4 * v + d) - pt (D 5 p) (fun d => mI M (m + 11) (4 * v + d)) a d)) m := h1.s
      have g1 := h2.a35 (i := 4 * p + d) (by omega)
      rw [i_sI, if_neg (by omega), e1] at g1
      have h3 : IsMo (sI (sI (sW M (tkF M m v p (D 5 p) a d)) (m + 11) (4 * v + d) (mI M (m + 11) (4 * v + d) - pt (D 5 p) (fun d => mI M (m + 11) (4 * v + d)) a d)) (m + 15) (4 * p + d) (mI M (m + 15) (4 * p + d) + pt (D 5 p) (fun d => mI M (m + 11) (4 * v + d)) a d)) m := h1.s
      have g2 := h3.a36 (i := d) (by omega)
      rw [i_sI, if_neg (by omega), i_sI, if_neg (by omega), e2] at g2
      simp only [h2.r35, bs, g1, h2.w35 (show 4 * p + d < 48 by omega), h3.r36, g2, h3.w36 (show d < 4 by omega)]
      rw [du_s]
      refine congrArg rec (Prod.ext rfl (Prod.ext rfl ?_))
      show sW M _ = sW M _
      refine congrArg (sW M) ?_
      funext x j
      show (if x = m + 16 ∧ j = d then mI M (m + 16) d + pt (D 5 p) (fun d => mI M (m + 11) (4 * v + d)) a d else if x = m + 15 ∧ j = 4 * p + d then mI M (m + 15) (4 * p + d) + pt (D 5 p) (fun d => mI M (m + 11) (4 * v + d)) a d else if x = m + 11 ∧ j = 4 * v + d then mI M (m + 11) (4 * v + d) - pt (D 5 p) (fun d => mI M (m + 11) (4 * v + d)) a d else tkF M m v p (D 5 p) a d x j) = tkF M m v p (D 5 p) a (d + 1) x j
      unfold tkF
      by_cases c1 : x = m + 16 ∧ j = d
      · rw [if_pos c1, if_neg (show ¬ (x = m + 11 ∧ 4 * v ≤ j ∧ j < 4 * v + (d + 1)) by omega), if_neg (show ¬ (x = m + 15 ∧ 4 * p ≤ j ∧ j < 4 * p + (d + 1)) by omega), if_pos (show x = m + 16 ∧ j < d + 1 by omega), c1.1, c1.2]
      · rw [if_neg c1]
        by_cases c2 : x = m + 15 ∧ j = 4 * p + d
        · rw [if_pos c2, if_neg (show ¬ (x = m + 11 ∧ 4 * v ≤ j ∧ j < 4 * v + (d + 1)) by omega), if_pos (show x = m + 15 ∧ 4 * p ≤ j ∧ j < 4 * p + (d + 1) by omega), c2.1, c2.2, Nat.add_sub_cancel_left]
        · rw [if_neg c2]
          by_cases c3 : x = m + 11 ∧ j = 4 * v + d
          · rw [if_pos c3, if_pos (show x = m + 11 ∧ 4 * v ≤ j ∧ j < 4 * v + (d + 1) by omega), c3.1, c3.2, Nat.add_sub_cancel_left]
          · rw [if_neg c3]
            by_cases c4 : x = m + 11 ∧ 4 * v ≤ j ∧ j < 4 * v + d
            · rw [if_pos c4, if_pos (show x = m + 11 ∧ 4 * v ≤ j ∧ j < 4 * v + (d + 1) by omega)]
            · rw [if_neg c4, if_neg (show ¬ (x = m + 11 ∧ 4 * v ≤ j ∧ j < 4 * v + (d + 1)) by omega)]
              by_cases c5 : x = m + 15 ∧ 4 * p ≤ j ∧ j < 4 * p + d
              · rw [if_pos c5, if_pos (show x = m + 15 ∧ 4 * p ≤ j ∧ j < 4 * p + (d + 1) by omega)]
              · rw [if_neg c5, if_neg (show ¬ (x = m + 15 ∧ 4 * p ≤ j ∧ j < 4 * p + (d + 1)) by omega)]
                by_cases c6 : x = m + 16 ∧ j < d
                · rw [if_pos c6, if_pos (show x = m + 16 ∧ j < d + 1 by omega)]
                · rw [if_neg c6, if_neg (show ¬ (x = m + 16 ∧ j < d + 1) by omega)]
    · have ep : pt (D 5 p) (fun d => mI M (m + 11) (4 * v + d)) a d = 0 := by unfold pt; rw [if_neg hc]
      rw [if_neg hc, bs, du_s, ep, Int32.sub_zero]
      refine congrArg rec (Prod.ext rfl (Prod.ext rfl ?_))
      show sW M _ = sW M _
      refine congrArg (sW M) ?_
      funext x j
      unfold tkF
      by_cases c4 : x = m + 11 ∧ 4 * v ≤ j ∧ j < 4 * v + (d + 1)
      · by_cases c5 : j = 4 * v + d
        · rw [if_pos c4, if_neg (show ¬ (x = m + 11 ∧ 4 * v ≤ j ∧ j < 4 * v + d) by omega), if_neg (show ¬ (x = m + 15 ∧ 4 * p ≤ j ∧ j < 4 * p + d) by omega), if_neg (show ¬ (x = m + 16 ∧ j < d) by omega), c5, Nat.add_sub_cancel_left, ep, Int32.sub_zero]
        · rw [if_pos c4, if_pos (show x = m + 11 ∧ 4 * v ≤ j ∧ j < 4 * v + d by omega)]
      · rw [if_neg c4, if_neg (show ¬ (x = m + 11 ∧ 4 * v ≤ j ∧ j < 4 * v + d) by omega)]
        by_cases c6 : x = m + 15 ∧ 4 * p ≤ j ∧ j < 4 * p + (d + 1)
        · by_cases c5 : j = 4 * p + d
          · rw [if_pos c6, if_neg (show ¬ (x = m + 15 ∧ 4 * p ≤ j ∧ j < 4 * p + d) by omega), if_neg (show ¬ (x = m + 16 ∧ j < d) by omega), c5, Nat.add_sub_cancel_left, ep, Int32.add_zero]
          · rw [if_pos c6, if_pos (show x = m + 15 ∧ 4 * p ≤ j ∧ j < 4 * p + d by omega)]
        · rw [if_neg c6, if_neg (show ¬ (x = m + 15 ∧ 4 * p ≤ j ∧ j < 4 * p + d) by omega)]
          by_cases c7 : x = m + 16 ∧ j < d + 1
          · by_cases c5 : j = d
            · rw [if_pos c7, if_neg (show ¬ (x = m + 16 ∧ j < d) by omega), c5, ep, Int32.add_zero]
            · rw [if_pos c7, if_pos (show x = m + 16 ∧ j < d by omega)]
          · rw [if_neg c7, if_neg (show ¬ (x = m + 16 ∧ j < d) by omega)]
  · have F : Fi (m + 11) (m + 17) M (sW M (tkF M m v p (D 5 p) a (cn D 0))) := Fi.W fun x hx => by
      funext j
      unfold tkF
      rw [if_neg (show ¬ (x = m + 11 ∧ 4 * v ≤ j ∧ j < 4 * v + cn D 0) by omega), if_neg (show ¬ (x = m + 15 ∧ 4 * p ≤ j ∧ j < 4 * p + cn D 0) by omega), if_neg (show ¬ (x = m + 16 ∧ j < cn D 0) by omega)]
    have h1 := h.fi F (by omega)
    unfold bd_X9_take_6
    simp only [h1.g5, bs, ile_e]
end
