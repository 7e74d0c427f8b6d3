/-! ===== funded at a cost, funded at each smaller one: the end ===== -/
section
variable {D D' : Bl} {p : Nat}
def Lg (D : Bl) (L : Nat → Int32) : Prop := ∀ d, d < cn D 0 → 0 ≤ (L d).toInt ∧ (L d).toInt ≤ 100000
theorem gL_dn (hG : Gd D) {w : Int32} {s : Gst} (h0 : Lg D (gL s)) (n : Nat) : Lg D (gL (tk D w s n).2) ∧ ∀ d, d < cn D 0 → (gL (tk D w s (n + 1)).2 d).toInt ≤ (gL (tk D w s n).2 d).toInt := by
  have l0 := hG.n.2.1
  have l1 := hG.n.2.2.1
  have st : ∀ n, Lg D (gL (tk D w s n).2) → ∀ d, d < cn D 0 → 0 ≤ (gL (tk D w s (n + 1)).2 d).toInt ∧ (gL (tk D w s (n + 1)).2 d).toInt ≤ (gL (tk D w s n).2 d).toInt := by
    intro n hn d hd
    have same : 0 ≤ (gL (tk D w s n).2 d).toInt ∧ (gL (tk D w s n).2 d).toInt ≤ (gL (tk D w s n).2 d).toInt := ⟨(hn d hd).1, Int.le_refl _⟩
    rw [tk_s]
    unfold tkS
    rcases fst_in hG.n (tk D w s n).1 with e | ⟨q, hq, e, hw⟩
    · rw [if_pos (by rw [e]; exact m1_neg)]; exact same
    · rw [e, if_neg (o_nneg (by omega)), ix_o (by omega)]
      dsimp only
      split
      · exact same
      · obtain ⟨c1, c2, c3⟩ := cost_N hG hq
        obtain ⟨y, y1, y2, y3⟩ := pt_N (n := cn D 0) (area := D 5 q) (h := gL (tk D w s n).2) (a := nt (D 4 q)) (by omega) (fun d hd => (hn d hd).1) (hG.2.2.1 q hq).2 hd (by omega)
        rw [← c3] at y3
        have z := hn d hd
        have z2 := nt_i z.1
        show 0 ≤ (gL (tk D w s n).2 d - pt (D 5 q) (gL (tk D w s n).2) (D 4 q) d).toInt ∧ (gL (tk D w s n).2 d - pt (D 5 q) (gL (tk D w s n).2) (D 4 q) d).toInt ≤ _
        rw [y3, fb_subI] <;> rw [i_toInt (by omega)] <;> omega
  have all : ∀ n, Lg D (gL (tk D w s n).2) := by
    intro n
    induction n with
    | zero => exact h0
    | succ n ih => exact fun d hd => ⟨(st n ih d hd).1, Int.le_trans (st n ih d hd).2 (ih d hd).2⟩
  exact ⟨all n, fun d hd => (st n (all n) d hd).2⟩
theorem gL_dn2 (hG : Gd D) {w : Int32} {s : Gst} (h0 : Lg D (gL s)) (n : Nat) : ∀ j d, d < cn D 0 → (gL (tk D w s (n + j)).2 d).toInt ≤ (gL (tk D w s n).2 d).toInt := by
  intro j
  induction j with
  | zero => exact fun d _ => Int.le_refl _
  | succ j ih => exact fun d hd => Int.le_trans ((gL_dn hG h0 (n + j)).2 d hd) (ih d hd)
theorem lin_le (hD : Cn D) {L L' : Nat → Int32} (h : Lg D L) (h' : Lg D L') (hl : ∀ d, d < cn D 0 → (L d).toInt ≤ (L' d).toInt) (area : Int32) : (lin D L area).toInt ≤ (lin D L' area).toInt := by
  have l0 := hD.2.1
  have key : ∀ L, Lg D L → lin D L area = Int32.ofNat (sN (cn D 0) fun d => if hs area (Int32.ofNat d) = true then nt (L d) else 0) ∧ (sN (cn D 0) fun d => if hs area (Int32.ofNat d) = true then nt (L d) else 0) ≤ 400000 := fun L h => by
    refine ⟨sm_N fun d hd => ?_, ?_⟩
    · split
      · exact (nt_e (h d hd).1).symm
      · rfl
    · have b := sN_bd (n := cn D 0) (f := fun d => if hs area (Int32.ofNat d) = true then nt (L d) else 0) (c := 100000) (fun d hd => by
        have := nt_i (h d hd).1
        have := (h d hd).2
        split <;> omega)
      have : cn D 0 * 100000 ≤ 4 * 100000 := Nat.mul_le_mul_right _ l0
      omega
  obtain ⟨a1, a2⟩ := key L h
  obtain ⟨b1, b2⟩ := key L' h'
  have le : (sN (cn D 0) fun d => if hs area (Int32.ofNat d) = true then nt (L d) else 0) ≤ sN (cn D 0) fun d => if hs area (Int32.ofNat d) = true then nt (L' d) else 0 := sN_le fun d hd => by
    have e1 := nt_i (h d hd).1
    have e2 := nt_i (h' d hd).1
    have e3 := hl d hd
    split <;> omega
  rw [a1, b1, i_toInt (by omega), i_toInt (by omega)]
  omega
theorem Fk_low (h : Lw D D' p) (hG : Gd D) (hT : Tl D) (hG' : Gd D') (hT' : Tl D') (hp : p < cn D 1) {w : Int32} {s : Gst} (h0 : Lg D (gL s)) {k : Nat} (hk : Fk D w s p k) : ∃ j, j ≤ k ∧ Fk D' w s p j := by
  obtain ⟨j, j1, j2, j3⟩ := Fk_same h hG hT hG' hT' hp hk.1
  refine ⟨j, j1, j2, ?_⟩
  have el : ∀ L a, lin D' L a = lin D L a := fun L a => by unfold lin; rw [h.cn]
  rw [el, j3, h.2.2.1]
  have f := hk.2
  have dn := gL_dn2 (w := w) hG h0 j (k - j)
  rw [show j + (k - j) = k by omega] at dn
  have ll := lin_le hG.n (gL_dn (w := w) hG h0 k).1 (gL_dn (w := w) hG h0 j).1 dn (D 5 p)
  obtain ⟨c1, c2, c3⟩ := cost_N hG hp
  obtain ⟨d1, d2, d3⟩ := cost_N hG' (show p < cn D' 1 by rw [h.cn]; exact hp)
  have e1 : (D 4 p).toInt = KN D p := by rw [c3, i_toInt (by omega)]; rfl
  have e2 : (D' 4 p).toInt = KN D' p := by rw [d3, i_toInt (by omega)]; rfl
  have e3 := h.2.2.2.2.2.2
  rw [lt_i] at f ⊢
  omega
/-- with another cost of p -/
theorem Tl_up4 (hT : Tl D) (i : Nat) (y : Int32) : Tl (up D 4 i y) := by
  have eb : bk (up D 4 i y) = bk D := by
    funext q
    unfold bk sp
    rw [cn_up (by omega), up_ne (show 8 ≠ 4 by omega), up_ne (show 7 ≠ 4 by omega), up_ne (show 5 ≠ 4 by omega)]
  have ev : vt (up D 4 i y) = vt D := by
    funext q
    unfold vt sp
    rw [cn_up (by omega), up_ne (show 8 ≠ 4 by omega), up_ne (show 7 ≠ 4 by omega), up_ne (show 5 ≠ 4 by omega), up_ne (show 6 ≠ 4 by omega)]
  refine ⟨fun q => ?_, fun q => ?_⟩
  · rw [eb, up_ne (show 10 ≠ 4 by omega)]; exact hT.1 q
  · rw [ev, up_ne (show 11 ≠ 4 by omega)]; exact hT.2 q
theorem tl_sel0 (hT : Tl D) : tl D = D := by
  funext k
  unfold tl rw_
  split
  · rename_i e
    subst e
    funext p
    exact (hT.1 p).symm
  · split
    · rename_i e
      subst e
      funext p
      exact (hT.2 p).symm
    · rfl
def GF (D : Bl) (p c : Nat) : Prop := hs (gh (grd (up D 4 p (Int32.ofNat c)))) (Int32.ofNat p) = true
theorem gd_up4 (hG : Gd D) (hT : Tl D) {c : Nat} (h1 : 1 ≤ c) (h2 : c ≤ 100000) : Gd (up D 4 p (Int32.ofNat c)) := by
  have z := gd_up hG (k := 4) (i := p) (y := Int32.ofNat c) (by omega) (okc4 ⟨by
    rw [show (1 : Int32) = Int32.ofNat 1 from rfl, i_le (by omega) (by omega)]; exact h1, by
    rw [show (100000 : Int32) = Int32.ofNat 100000 from rfl, i_le (by omega) (by omega)]; exact h2⟩)
  rw [tl_sel0 (Tl_up4 hT p _)] at z
  exact z
theorem GF_mono (hG : Gd D) (hT : Tl D) (hp : p < cn D 1) {c c' : Nat} (h1 : 1 ≤ c') (h2 : c' ≤ c) (h3 : c ≤ 100000) (h : GF D p c) : GF D p c' := by
  have l1 := hG.n.2.2.1
  have G1 := gd_up4 (p := p) hG hT (show 1 ≤ c by omega) h3
  have G2 := gd_up4 (p := p) hG hT h1 (show c' ≤ 100000 by omega)
  have T1 := Tl_up4 hT p (Int32.ofNat c)
  have T2 := Tl_up4 hT p (Int32.ofNat c')
  have hp1 : p < cn (up D 4 p (Int32.ofNat c)) 1 := by rw [cn_up (by omega)]; exact hp
  have hp2 : p < cn (up D 4 p (Int32.ofNat c')) 1 := by rw [cn_up (by omega)]; exact hp
  have lw : Lw (up D 4 p (Int32.ofNat c)) (up D 4 p (Int32.ofNat c')) p := by
    refine ⟨?_, ?_, ?_, ?_, ?_, fun o ho => ?_, ?_⟩
    · rw [up_ne (by omega), up_ne (by omega)]
    · rw [up_ne (by omega), up_ne (by omega)]
    · rw [up_ne (by omega), up_ne (by omega)]
    · rw [up_ne (by omega), up_ne (by omega)]
    · rw [up_ne (by omega), up_ne (by omega)]
    · unfold up
      rw [if_neg (fun z => ho z.2), if_neg (fun z => ho z.2)]
    · unfold KN
      rw [up_at, up_at, nt_o (by omega), nt_o (by omega)]
      exact h2
  have ew : vo (up D 4 p (Int32.ofNat c')) = vo (up D 4 p (Int32.ofNat c)) := by
    unfold vo
    rw [lw.2.2.2.2.1, lw.cn]
  have lg : Lg (up D 4 p (Int32.ofNat c)) (gL (g0 (up D 4 p (Int32.ofNat c) 2))) := fun d hd => G1.2.1 d hd
  have n0 : ¬ hs (gh (g0 (up D 4 p (Int32.ofNat c) 2))) (Int32.ofNat p) = true := fun z => by
    have z' : hs 0 (Int32.ofNat p) = true := z
    rw [hs_0 (by omega)] at z'
    exact Bool.noConfusion z'
  obtain ⟨k, k1, k2⟩ := Fk_of G1.n hp1 n0 _ h
  obtain ⟨j, j1, j2⟩ := Fk_low lw G1 T1 G2 T2 hp1 lg k2
  have := Fk_to G2.n hp2 j2 (show j < cn (up D 4 p (Int32.ofNat c')) 1 by rw [lw.cn]; omega)
  unfold GF grd
  rw [ew, lw.2.1]
  exact this
end
