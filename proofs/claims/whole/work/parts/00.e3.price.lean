/-! ===== the price of a project ===== -/
section
/-- purses in their range -/
def HB (D : Bl) (H : Nat → Nat → Int32) : Prop := ∀ v, v < cn D 2 → ∀ d, d < cn D 0 → 0 ≤ (H v d).toInt ∧ (H v d).toInt ≤ 160000
def mv (D : Bl) (H : Nat → Nat → Int32) (p v : Nat) : Nat := nt (amn D H p v)
def wv (D : Bl) (p v : Nat) : Nat := nt (stk D p v)
noncomputable def pr (D : Bl) (H : Nat → Nat → Int32) (p : Nat) : Int32 := if D 4 p ≤ allM D H p then Int32.ofNat (lq fun q => nt (D 4 p) ≤ shN (cn D 2) (mv D H p) (wv D p) q) else -1
variable {D : Bl} {H : Nat → Nat → Int32} {p : Nat}
theorem mn_N (hB : HB D H) {v : Nat} (hv : v < cn D 2) (hD : Cn D) (area : Int32) : ∃ k : Nat, k ≤ 640000 ∧ mn D H v area = Int32.ofNat k := by
  have l0 := hD.2.1
  refine ⟨sN (cn D 0) (fun d => if hs area (Int32.ofNat d) = true then nt (H v d) else 0), ?_, ?_⟩
  · have := sN_bd (n := cn D 0) (f := fun d => if hs area (Int32.ofNat d) = true then nt (H v d) else 0) (c := 160000) (fun d hd => by
      have := hB v hv d hd
      unfold nt
      split <;> omega)
    have := Nat.mul_le_mul_right 160000 l0
    omega
  · exact sm_N fun d hd => by
      split
      · rw [nt_e (hB v hv d hd).1]
      · rfl
theorem amn_N (hB : HB D H) {v : Nat} (hv : v < cn D 2) (hD : Cn D) (p : Nat) : mv D H p v ≤ 640000 ∧ amn D H p v = Int32.ofNat (mv D H p v) := by
  obtain ⟨k, h1, h2⟩ := mn_N hB hv hD (D 5 p)
  unfold mv amn
  split
  · rw [h2, nt_o (by omega)]; exact ⟨h1, rfl⟩
  · exact ⟨Nat.zero_le _, rfl⟩
theorem stk_N (hG : Gd D) {v : Nat} (hv : v < cn D 2) (p : Nat) : wv D p v ≤ 9 ∧ stk D p v = Int32.ofNat (wv D p v) := by
  have h := (hG.2.2.2.1 v hv).1
  unfold wv stk
  split
  · rw [nt_e (by omega)]; unfold nt; exact ⟨by omega, rfl⟩
  · exact ⟨Nat.zero_le _, rfl⟩
theorem w0_m0 (hG : Gd D) {v : Nat} (hv : v < cn D 2) (h0 : wv D p v = 0) : mv D H p v = 0 := by
  have h := (hG.2.2.2.1 v hv).1
  unfold wv stk at h0
  unfold mv amn
  by_cases hc : sp D v p = true
  · rw [if_pos hc] at h0
    unfold nt at h0
    omega
  · rw [if_neg hc]; rfl
theorem allM_N (hB : HB D H) (hG : Gd D) (p : Nat) : sN (cn D 2) (mv D H p) ≤ 15360000 ∧ allM D H p = Int32.ofNat (sN (cn D 2) (mv D H p)) := by
  have l2 := hG.n.2.2.2
  refine ⟨?_, sm_N fun v hv => (amn_N hB hv hG.n p).2⟩
  have := sN_bd (n := cn D 2) (f := mv D H p) (c := 640000) (fun v hv => (amn_N hB hv hG.n p).1)
  have := Nat.mul_le_mul_right 640000 l2
  omega
theorem vt_N (hG : Gd D) (p : Nat) : sN (cn D 2) (wv D p) ≤ 216 ∧ vt D p = Int32.ofNat (sN (cn D 2) (wv D p)) := by
  have l2 := hG.n.2.2.2
  refine ⟨?_, sm_N fun v hv => (stk_N hG hv p).2⟩
  have := sN_bd (n := cn D 2) (f := wv D p) (c := 9) (fun v hv => (stk_N hG hv p).1)
  have := Nat.mul_le_mul_right 9 l2
  omega
theorem cost_N (hG : Gd D) (hp : p < cn D 1) : 1 ≤ nt (D 4 p) ∧ nt (D 4 p) ≤ 100000 ∧ D 4 p = Int32.ofNat (nt (D 4 p)) := by
  have h := (hG.2.2.1 p hp).1
  refine ⟨by unfold nt; omega, by unfold nt; omega, (nt_e (by omega)).symm⟩
theorem i_subsub (a b c : Int32) : a - b - c = a - (b + c) := by
  rw [Int32.sub_eq_add_neg, Int32.sub_eq_add_neg, Int32.sub_eq_add_neg, Int32.neg_add, Int32.sub_eq_add_neg, Int32.add_assoc]
theorem i_ltsub {a b c : Nat} (ha : a < 1000000000) (hb : b < 1000000000) (hc : c < 1000000000) : (Int32.ofNat a < Int32.ofNat c - Int32.ofNat b) ↔ a + b < c := by
  rw [lt_i, fb_subI, i_toInt (by omega), i_toInt (by omega), i_toInt (by omega)]
  · omega
  · rw [i_toInt (by omega), i_toInt (by omega)]; omega
  · rw [i_toInt (by omega), i_toInt (by omega)]; omega
variable {M : Mem} {r b : Nat}
/-- one look at all supporters -/
theorem f_lp_in {α : Type} (h : IsRs M r) (hBl : IsB M b D) (hG : Gd D) (hB : HB D H) (hr : ∀ v, v < cn D 2 → mI M (r + 66) v = stk D p v ∧ mI M (r + 67) v = amn D H p v) {q c : Nat} (hq : q ≤ 100000) (kk : Int32 × Int32 × Int32 → Option α) : it_ (bd_X6_leastPrice_57 M r b (Int32.ofNat q) kk) FU (Int32.ofNat c, 0, 0) = kk (Int32.ofNat c - Int32.ofNat (poM (cn D 2) (mv D H p) (wv D p) q), Int32.ofNat (riW (cn D 2) (mv D H p) (wv D p) q), Int32.ofNat (cn D 2)) := by
  have l2 := hG.n.2.2.2
  refine it_eq (st := fun i => (Int32.ofNat c - Int32.ofNat (poM i (mv D H p) (wv D p) q), Int32.ofNat (riW i (mv D H p) (wv D p) q), Int32.ofNat i)) (cn D 2) ?_ hG.n.m2 (fun rec v hv => ?_) (fun rec => ?_)
  · show (Int32.ofNat c, (0 : Int32), (0 : Int32)) = (Int32.ofNat c - Int32.ofNat 0, Int32.ofNat 0, Int32.ofNat 0)
    rw [show Int32.ofNat 0 = 0 from rfl, Int32.sub_zero]
  · obtain ⟨a1, a2⟩ := amn_N hB hv hG.n p
    obtain ⟨b1, b2⟩ := stk_N hG hv p
    obtain ⟨c1, c2⟩ := hr v hv
    have e5 := h.a5 (v := v) (by omega)
    have e6 := h.a6 (v := v) (by omega)
    rw [c1, b2] at e5
    rw [c2, a2] at e6
    have hqw : q * wv D p v ≤ 100000 * 9 := Nat.mul_le_mul hq b1
    unfold bd_X6_leastPrice_57
    simp only [hBl.g2, bs, ile_n hv hG.n.l2, h.r6, e6, h.r5, e5, ltq, is_, i_mul, i_add, i_succ]
    show rec _ = rec (_, _, _)
    unfold poM riW
    rw [sN_s, sN_s]
    by_cases hc : mv D H p v < q * wv D p v
    · rw [if_neg (by rw [i_le (by omega) (by omega)]; omega)]
      simp only [if_pos hc, Nat.add_zero, i_subsub, i_add]
    · rw [if_pos (by rw [i_le (by omega) (by omega)]; omega)]
      simp only [if_neg hc, Nat.add_zero]
  · unfold bd_X6_leastPrice_57
    simp only [hBl.g2, bs, ile_e]
theorem f_lp (h : IsRs M r) (hBl : IsB M b D) (hG : Gd D) (hT : Tl D) (hB : HB D H) (hp : p < cn D 1) (hr : ∀ v, v < cn D 2 → mI M (r + 66) v = stk D p v ∧ mI M (r + 67) v = amn D H p v) (hc : D 4 p ≤ allM D H p) : ok (f_X6_leastPrice M r b (Int32.ofNat p)) (fun x => x = Int32.ofNat (lq fun q => nt (D 4 p) ≤ shN (cn D 2) (mv D H p) (wv D p) q)) := by
  have l2 := hG.n.2.2.2
  obtain ⟨c1, c2, c3⟩ := cost_N hG hp
  obtain ⟨s1, s2⟩ := allM_N hB hG p
  obtain ⟨v1, v2⟩ := vt_N hG p
  have hle : nt (D 4 p) ≤ sN (cn D 2) (mv D H p) := by
    rw [c3, s2] at hc
    rw [i_le (by omega) (by omega)] at hc
    exact hc
  have e4 := hBl.a4 hp
  have e11 := hBl.a11 hp
  rw [hT.2 p, v2] at e11
  rw [c3] at e4
  generalize hcN : nt (D 4 p) = c at *
  have hw : ∀ v, v < cn D 2 → wv D p v = 0 → mv D H p v = 0 := fun v hv h0 => w0_m0 hG hv h0
  have top := shN_top hw hle
  unfold f_X6_leastPrice
  simp only [hBl.s.r4, e4, bs, hBl.s.r11, e11]
  refine it_r (I := fun k (u : Int32 × Int32 × Int32 × Int32) => ∃ q, u = (Int32.ofNat (c - poM (cn D 2) (mv D H p) (wv D p) q), Int32.ofNat (riW (cn D 2) (mv D H p) (wv D p) q), Int32.ofNat q, Int32.ofNat k) ∧ shN (cn D 2) (mv D H p) (wv D p) q < c ∧ (∀ j, j < q → shN (cn D 2) (mv D H p) (wv D p) j < c) ∧ k ≤ poC (cn D 2) (mv D H p) (wv D p) q) 25 ⟨0, ?_, ?_, fun j hj => absurd hj (Nat.not_lt_zero j), Nat.zero_le _⟩ (by omega) ?_ ?_
  · have e1 : poM (cn D 2) (mv D H p) (wv D p) 0 = 0 := sN_0 fun v hv => by rw [Nat.zero_mul, if_neg (Nat.not_lt_zero _)]
    have e2 : riW (cn D 2) (mv D H p) (wv D p) 0 = sN (cn D 2) (wv D p) := sN_c fun v hv => by rw [Nat.zero_mul, if_neg (Nat.not_lt_zero _)]
    rw [e1, e2]; rfl
  · have e3 : shN (cn D 2) (mv D H p) (wv D p) 0 = 0 := sN_0 fun v hv => by rw [Nat.zero_mul]; exact Nat.min_zero _
    rw [e3]; omega
  · rintro rec k u hk ⟨q, rfl, h1, h2, h3⟩ hrec
    obtain ⟨p1, p2, p3, p4⟩ := nx_price hw hle h1 rfl
    generalize hq2 : (c - poM (cn D 2) (mv D H p) (wv D p) q + riW (cn D 2) (mv D H p) (wv D p) q - 1) / riW (cn D 2) (mv D H p) (wv D p) q = q2 at *
    have hq3 : q2 ≤ 100000 := by
      rcases Nat.lt_or_ge c q2 with z | z
      · have := p4 c z; omega
      · omega
    have bW : ∀ q, riW (cn D 2) (mv D H p) (wv D p) q ≤ 216 := fun q => by
      have : riW (cn D 2) (mv D H p) (wv D p) q ≤ sN (cn D 2) (wv D p) := sN_le fun v _ => by split <;> omega
      omega
    have bM : ∀ q, poM (cn D 2) (mv D H p) (wv D p) q ≤ 15360000 := fun q => by
      have : poM (cn D 2) (mv D H p) (wv D p) q ≤ sN (cn D 2) (mv D H p) := sN_le fun v _ => by split <;> omega
      omega
    have W1 := bW q
    have W2 := bW q2
    have M2 := bM q2
    have sp2 := shN_split (n := cn D 2) (m := mv D H p) (w := wv D p) q2
    have qW := Nat.mul_le_mul hq3 W2
    unfold bd_X6_leastPrice_21
    have t1 : ¬ (24 : Int32) < Int32.ofNat k := by
      rw [show (24 : Int32) = Int32.ofNat 24 from rfl, i_lt (by omega) (by omega)]; omega
    have t2 : ¬ Int32.ofNat (riW (cn D 2) (mv D H p) (wv D p) q) ≤ 0 := by
      rw [show (0 : Int32) = Int32.ofNat 0 from rfl, i_le (by omega) (by omega)]; omega
    have t3 : dv_ ((Int32.ofNat (c - poM (cn D 2) (mv D H p) (wv D p) q) + Int32.ofNat (riW (cn D 2) (mv D H p) (wv D p) q)) - 1) (Int32.ofNat (riW (cn D 2) (mv D H p) (wv D p) q)) = some (Int32.ofNat q2) := by
      unfold dv_
      rw [if_neg (fun z => t2 (by rw [z]; exact Int32.le_refl _)), i_add, show (1 : Int32) = Int32.ofNat 1 from rfl, i_sub (by omega), i_div (by omega) p1 (by omega), hq2]
    simp only [if_neg t1, if_neg t2, t3, bs, hBl.s.r4, e4]
    rw [f_lp_in h hBl hG hB hr hq3]
    dsimp only
    rw [i_mul]
    refine ok.ite (fun hc1 => ?_) (fun hc1 => ?_)
    · rw [i_ltsub (by omega) (by omega) (by omega)] at hc1
      rw [i_succ]
      refine hrec _ ⟨q2, by rw [i_sub (by omega)], by omega, p4, ?_⟩
      have := nx_poor (n := cn D 2) (m := mv D H p) (w := wv D p) (by omega : q ≤ q2) (by omega : _ < c) p3
      omega
    · rw [i_ltsub (by omega) (by omega) (by omega)] at hc1
      refine ok.pure ?_
      rw [lq_eq (q := q2) (by omega) (fun k hk z => by have := p4 k hk; omega)]
  · rintro rec u ⟨q, -, -, -, h3⟩
    have := poC_le (n := cn D 2) (m := mv D H p) (w := wv D p) q
    omega
end
