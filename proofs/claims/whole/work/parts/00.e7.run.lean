/-! ===== the rounds in all: ranges ===== -/
section
variable {D : Bl} {H : Nat → Nat → Int32} {p : Nat}
theorem mi_N {x y : Nat} (hx : x < 2147483648) (hy : y < 2147483648) : mi (Int32.ofNat x) (Int32.ofNat y) = Int32.ofNat (min x y) := by
  unfold mi
  by_cases h : x < y
  · rw [if_pos (by rw [i_lt hx hy]; exact h), Nat.min_eq_left (by omega)]
  · rw [if_neg (by rw [i_lt hx hy]; exact h), Nat.min_eq_right (by omega)]
theorem shr_N (hB : HB D H) (hG : Gd D) {v : Nat} (hv : v < cn D 2) {q : Nat} (hq : q ≤ 100000) : shr D H p (Int32.ofNat q) v = Int32.ofNat (min (mv D H p v) (q * wv D p v)) ∧ q * wv D p v ≤ 900000 := by
  obtain ⟨a1, a2⟩ := amn_N hB hv hG.n p
  obtain ⟨b1, b2⟩ := stk_N hG hv p
  have := Nat.mul_le_mul hq b1
  unfold shr
  rw [a2, b2, i_mul, mi_N (by omega) (by omega), Nat.min_comm]
  exact ⟨rfl, by omega⟩
theorem shs_N (hB : HB D H) (hG : Gd D) {q : Nat} (hq : q ≤ 100000) : sm (cn D 2) (shr D H p (Int32.ofNat q)) = Int32.ofNat (shN (cn D 2) (mv D H p) (wv D p) q) := sm_N fun v hv => (shr_N hB hG hv hq).1
theorem shN_bd (hB : HB D H) (hG : Gd D) (q : Nat) : shN (cn D 2) (mv D H p) (wv D p) q ≤ 15360000 := by
  have h1 : shN (cn D 2) (mv D H p) (wv D p) q ≤ sN (cn D 2) (mv D H p) := sN_le fun v _ => Nat.min_le_left _ _
  have := (allM_N hB hG p).1
  omega
/-- a price that does: what it says of the excess and of the payments -/
def OkQ (D : Bl) (H : Nat → Nat → Int32) (p q : Nat) : Prop := 1 ≤ q ∧ q ≤ 100000 ∧ nt (D 4 p) ≤ shN (cn D 2) (mv D H p) (wv D p) q
theorem les_N (hB : HB D H) (hG : Gd D) {q : Nat} (hQ : OkQ D H p q) {v : Nat} (hv : v < cn D 2) {e : Nat} (he : e < 2147483648) : les D H p (Int32.ofNat q) v (Int32.ofNat e) = Int32.ofNat (min (min (mv D H p v) (q * wv D p v) - min (mv D H p v) ((q - 1) * wv D p v)) e) := by
  obtain ⟨q1, q2, q3⟩ := hQ
  obtain ⟨s1, s2⟩ := shr_N (p := p) hB hG hv q2
  obtain ⟨s3, s4⟩ := shr_N (p := p) hB hG hv (show q - 1 ≤ 100000 by omega)
  have hm : (q - 1) * wv D p v ≤ q * wv D p v := Nat.mul_le_mul_right _ (by omega)
  unfold les
  rw [show (1 : Int32) = Int32.ofNat 1 from rfl, i_sub q1, s1, s3, i_sub (by omega), mi_N (by omega) he]
theorem exc_N (hB : HB D H) (hG : Gd D) (hp : p < cn D 1) {q : Nat} (hQ : OkQ D H p q) : ∀ j, j ≤ cn D 2 → ∃ e, e ≤ 15360000 ∧ exc D H p (Int32.ofNat q) j = Int32.ofNat e := by
  obtain ⟨c1, c2, c3⟩ := cost_N hG hp
  intro j
  induction j with
  | zero =>
    intro _
    have := shN_bd (p := p) hB hG q
    refine ⟨shN (cn D 2) (mv D H p) (wv D p) q - nt (D 4 p), by omega, ?_⟩
    show ex0 D H p (Int32.ofNat q) = _
    unfold ex0
    rw [shs_N hB hG hQ.2.1, ← i_sub hQ.2.2, ← c3]
  | succ j ih =>
    intro hj
    obtain ⟨e, he, h⟩ := ih (by omega)
    refine ⟨e - min (min (mv D H p (cn D 2 - 1 - j)) (q * wv D p (cn D 2 - 1 - j)) - min (mv D H p (cn D 2 - 1 - j)) ((q - 1) * wv D p (cn D 2 - 1 - j))) e, by omega, ?_⟩
    show exc D H p (Int32.ofNat q) j - les D H p (Int32.ofNat q) (cn D 2 - 1 - j) (exc D H p (Int32.ofNat q) j) = _
    rw [h, les_N hB hG hQ (by omega) (by omega), i_sub (by omega)]
theorem amt_N (hB : HB D H) (hG : Gd D) (hp : p < cn D 1) {q : Nat} (hQ : OkQ D H p q) {v : Nat} (hv : v < cn D 2) : ∃ a, a ≤ mv D H p v ∧ amt D H p (Int32.ofNat q) v = Int32.ofNat a := by
  obtain ⟨e, he, h⟩ := exc_N hB hG hp hQ (cn D 2 - 1 - v) (by omega)
  refine ⟨min (mv D H p v) (q * wv D p v) - min (min (mv D H p v) (q * wv D p v) - min (mv D H p v) ((q - 1) * wv D p v)) e, by omega, ?_⟩
  unfold amt
  rw [h, les_N hB hG hQ hv (by omega), (shr_N hB hG hv hQ.2.1).1, i_sub (by omega)]
theorem du_N {n : Nat} {area : Int32} {h : Nat → Int32} {a : Nat} (ha : a < 2147483648) (hh : ∀ d, d < n → 0 ≤ (h d).toInt) (hA : ∀ d, n ≤ d → d < 32 → hs area (Int32.ofNat d) = false) : ∀ d, d ≤ 32 → ∃ x, x ≤ a ∧ du area h (Int32.ofNat a) d = Int32.ofNat x := by
  intro d
  induction d with
  | zero => intro _; exact ⟨a, Nat.le_refl _, rfl⟩
  | succ d ih =>
    intro hd
    obtain ⟨x, hx, e⟩ := ih (by omega)
    rw [du_s]
    unfold pt
    by_cases c : hs area (Int32.ofNat d) = true
    · have c2 : d < n := by
        rcases Nat.lt_or_ge d n with z | z
        · exact z
        · rw [hA d z (by omega)] at c; exact Bool.noConfusion c
      have hr := fb_rng (h d)
      have := hh d c2
      refine ⟨x - min (nt (h d)) x, by omega, ?_⟩
      rw [if_pos c, e]
      rw [show mi (h d) (Int32.ofNat x) = mi (Int32.ofNat (nt (h d))) (Int32.ofNat x) by rw [nt_e this], mi_N (by unfold nt; omega) (by omega), i_sub (by omega)]
    · exact ⟨x, hx, by rw [if_neg c, e, Int32.sub_zero]⟩
theorem pt_N {n : Nat} {area : Int32} {h : Nat → Int32} {a : Nat} (ha : a < 2147483648) (hh : ∀ d, d < n → 0 ≤ (h d).toInt) (hA : ∀ d, n ≤ d → d < 32 → hs area (Int32.ofNat d) = false) {d : Nat} (hd : d < n) (hn : n ≤ 32) : ∃ x, x ≤ nt (h d) ∧ x ≤ a ∧ pt area h (Int32.ofNat a) d = Int32.ofNat x := by
  obtain ⟨x, hx, e⟩ := du_N ha hh hA d (by omega)
  have hr := fb_rng (h d)
  have h0 := hh d hd
  unfold pt
  by_cases c : hs area (Int32.ofNat d) = true
  · refine ⟨min (nt (h d)) x, by omega, by omega, ?_⟩
    rw [if_pos c, e]
    rw [show mi (h d) (Int32.ofNat x) = mi (Int32.ofNat (nt (h d))) (Int32.ofNat x) by rw [nt_e h0], mi_N (by unfold nt; omega) (by omega)]
  · exact ⟨0, Nat.zero_le _, Nat.zero_le _, by rw [if_neg c]; rfl⟩
theorem fu_HB {s : Rst} (hB : HB D (sH s)) (hG : Gd D) (hp : p < cn D 1) {q : Nat} (hQ : OkQ D (sH s) p q) : HB D (sH (fu D s p (Int32.ofNat q))) := by
  intro v hv d hd
  have l0 := hG.n.2.1
  obtain ⟨a, ha, e⟩ := amt_N hB hG hp hQ hv
  have h1 := (amn_N hB hv hG.n p).1
  obtain ⟨x, hx, -, e2⟩ := pt_N (a := a) (by omega) (fun d hd => (hB v hv d hd).1) (hG.2.2.1 p hp).2 hd (by omega)
  have h2 := hB v hv d hd
  have e3 : sH (fu D s p (Int32.ofNat q)) v d = sH s v d - Int32.ofNat x := by
    show sH s v d - ptd D (sH s) p (Int32.ofNat q) v d = _
    unfold ptd
    rw [e, e2]
  unfold nt at hx
  rw [e3, fb_subI, i_toInt (by omega)]
  · omega
  · rw [i_toInt (by omega)]; omega
  · rw [i_toInt (by omega)]; omega
theorem mw_N (hG : Gd D) (d : Nat) : mw D d = Int32.ofNat (sN (cn D 2) fun v => if hs (D 7 v) (Int32.ofNat d) = true then nt (D 6 v) else 0) := sm_N fun v hv => by
  have h := (hG.2.2.2.1 v hv).1
  split
  · rw [nt_e (by omega)]
  · rfl
theorem fp_N (hG : Gd D) {v d : Nat} (hv : v < cn D 2) (hd : d < cn D 0) : ∃ k, k ≤ 100000 ∧ fp D v d = Int32.ofNat k := by
  unfold fp sh
  by_cases c : hs (D 7 v) (Int32.ofNat d) = true
  · rw [if_pos c]
    have l2 := hG.n.2.2.2
    have hw := (hG.2.2.2.1 v hv).1
    have hb := hG.2.1 d hd
    have at_ := sN_at (f := fun v => if hs (D 7 v) (Int32.ofNat d) = true then nt (D 6 v) else 0) hv
    rw [if_pos c] at at_
    have bd := sN_bd (n := cn D 2) (f := fun v => if hs (D 7 v) (Int32.ofNat d) = true then nt (D 6 v) else 0) (c := 9) (fun v hv => by
      have := (hG.2.2.2.1 v hv).1
      unfold nt
      split <;> omega)
    rw [mw_N hG d]
    generalize sN (cn D 2) (fun v => if hs (D 7 v) (Int32.ofNat d) = true then nt (D 6 v) else 0) = W at *
    have hw1 : nt (D 6 v) = (D 6 v).toInt.toNat := rfl
    have hb1 : nt (D 2 d) = (D 2 d).toInt.toNat := rfl
    have hmul : nt (D 2 d) * nt (D 6 v) ≤ 100000 * 9 := Nat.mul_le_mul (by omega) (by omega)
    rw [if_neg (by rw [show (0 : Int32) = Int32.ofNat 0 from rfl, i_le (by omega) (by omega)]; omega)]
    refine ⟨nt (D 2 d) * nt (D 6 v) / W, ?_, ?_⟩
    · have : nt (D 2 d) * nt (D 6 v) / W ≤ nt (D 2 d) := Nat.div_le_of_le_mul (by
        rw [Nat.mul_comm W]
        exact Nat.mul_le_mul_left _ at_)
      omega
    · rw [show D 2 d = Int32.ofNat (nt (D 2 d)) from (nt_e hb.1).symm, show D 6 v = Int32.ofNat (nt (D 6 v)) from (nt_e (by omega)).symm, i_mul, i_div (by omega) (by omega) (by omega), nt_o (by omega), nt_o (by omega)]
  · exact ⟨0, Nat.zero_le _, by rw [if_neg c]; rfl⟩
theorem pu_HB (hG : Gd D) {k : Nat} (hk : k ≤ 60000) : HB D (pu D (Int32.ofNat k)) := by
  intro v hv d hd
  obtain ⟨x, hx, e⟩ := fp_N hG hv hd
  unfold pu
  unfold fp at e
  rw [e, i_add]
  split
  · rw [i_toInt (by omega)]; omega
  · exact ⟨by decide, by decide⟩
end
