/-! ===== the reference reads names, numbers, lists: the methods ===== -/
section
variable {M M' M0 M1 M2 : Mem} {t : Nat → Int32} {n p q m hi : Nat} {D : Bl} {c : Int32}
theorem hs31 {x : Int32} (h : hs x (Int32.ofNat 31) = false) : 0 ≤ x.toInt := by
  rw [hs_bi (by omega)] at h
  have e : x.toBitVec.msb = false := by
    rw [BitVec.msb_eq_getLsbD_last]
    exact h
  show 0 ≤ x.toBitVec.toInt
  rw [BitVec.toInt_eq_msb_cond, e, if_neg (by decide)]
  exact Int.natCast_nonneg _
/-- where the reference keeps a row of what it reads -/
def lA (k : Nat) : Nat := [0, 7, 2, 8, 2, 9, 2, 2, 2, 2].getD k 0
def lO (k : Nat) : Nat := [0, 0, 4, 0, 8, 0, 20, 44, 68, 0].getD k 0
theorem lA_r : ∀ k, k < 10 → 1 ≤ k → 2 ≤ lA k ∧ lA k ≤ 9 ∧ lA k ≠ 3 ∧ lA k ≠ 4 ∧ lA k ≠ 5 ∧ lA k ≠ 6 := by decide
def IsN (M : Mem) (m : Nat) (D : Bl) : Prop := IsMo M m ∧ (∀ j, j < 3 → mI M m (11 + j) = D 0 j) ∧ Cn D ∧ ∀ k, 1 ≤ k → k < 10 → ∀ i, i < bsz D k → mI M (m + lA k) (lO k + i) = D k i
theorem IsN.nt (h : IsN M m D) (hF : Nt m hi M M') : IsN M' m D := ⟨h.1.e hF.1 hF.2.1, fun j hj => by rw [hF.i (by omega)]; exact h.2.1 j hj, h.2.2.1, fun k h1 h2 i hi => by
  have := lA_r k h2 h1
  rw [hF.i (by omega)]; exact h.2.2.2 k h1 h2 i hi⟩
theorem IsN.g0 (h : IsN M m D) : gFI M m 9 11 = some (Int32.ofNat (cn D 0)) := by rw [h.1.gi, h.2.1 0 (by omega), h.2.2.1.1 0 (by omega)]
theorem IsN.g1 (h : IsN M m D) : gFI M m 9 12 = some (Int32.ofNat (cn D 1)) := by rw [h.1.gi, h.2.1 1 (by omega), h.2.2.1.1 1 (by omega)]
theorem IsN.g2 (h : IsN M m D) : gFI M m 9 13 = some (Int32.ofNat (cn D 2)) := by rw [h.1.gi, h.2.1 2 (by omega), h.2.2.1.1 2 (by omega)]
theorem IsN.v1 (h : IsN M m D) : ∀ i, i < cn D 0 → mI M (m + 7) i = D 1 i := fun i hi => by
  have := h.2.2.2 1 (by omega) (by omega) i hi
  rw [show lO 1 + i = i from Nat.zero_add i] at this
  exact this
theorem IsN.v3 (h : IsN M m D) : ∀ i, i < cn D 1 → mI M (m + 8) i = D 3 i := fun i hi => by
  have := h.2.2.2 3 (by omega) (by omega) i hi
  rw [show lO 3 + i = i from Nat.zero_add i] at this
  exact this
theorem m_ix1 (h : IsN M m D) (x : Int32) : f_X9_indexOf M (m + 7) (Int32.ofNat (cn D 0)) x = some (plN (D 1) x (cn D 0)) := m_index h.1.k14 (Or.inl rfl) h.2.2.1.2.1 (by omega) h.v1 x
theorem m_ix3 (h : IsN M m D) (x : Int32) : f_X9_indexOf M (m + 8) (Int32.ofNat (cn D 1)) x = some (plN (D 3) x (cn D 1)) := m_index h.1.k15 (Or.inl rfl) h.2.2.1.2.2.1 (by omega) h.v3 x
theorem lh_e' {x : Int32} {l : Nat} (hl : l ≤ 1200) (N : Mem) : ok (it_ (bd_X9_lettersHere_56 fun (e10 : Int32 × Int32) => some (e10.1, N)) FU (x, Int32.ofNat l)) (fun o => o.2 = N) := by
  refine it_r (I := fun i (u : Int32 × Int32) => u.2 = Int32.ofNat (l + i)) (6 - l) rfl (by omega) ?_ ?_
  · rintro rec i ⟨y, _⟩ hi rfl hrec
    unfold bd_X9_lettersHere_56
    dsimp only
    rw [show (6 : Int32) = Int32.ofNat 6 from rfl, ile_n (by omega) (by omega), ltq, i_succ]
    exact hrec _ rfl
  · rintro rec ⟨y, _⟩ rfl
    unfold bd_X9_lettersHere_56
    dsimp only
    rw [show (6 : Int32) = Int32.ofNat 6 from rfl, if_pos (by rw [i_le (by omega) (by omega)]; omega)]
    exact ok.pure rfl
theorem m_lhF (h : f_X9_lettersHere M m = f_X9_lettersHere M m) (hs_ : IsMo M m) : f_X9_lettersHere M m = (if mI M m 22 = 1 then (gFI M m 9 20 >>= fun (x14 : Int32) => gFI M m 9 21 >>= fun (x15 : Int32) => if 6 < (x14 - x15) then some (0 : Int32) else (ck M m 9 >>= fun _ => f_X9_isKeyword M m >>= fun (o16 : Int32) => if o16 = 0 then some 1 else some 0)) else some 0) >>= fun (j2 : Int32) => f_X9_check M m j2 (-11) >>= fun (o3 : Mem) => gFL o3 m 9 23 >>= fun (x4 : Int64) => gFI o3 m 9 20 >>= fun (x6 : Int32) => gFI o3 m 9 21 >>= fun (x7 : Int32) => it_ (bd_X9_lettersHere_56 fun (e10 : Int32 × Int32) => some (e10.1, o3)) FU (x4.toInt32, x6 - x7) := by
  unfold f_X9_lettersHere
  rw [hs_.gi, bs, hs_.c]
  rfl
/-- a name's letters -/
theorem m_lh (h : GN m t n M0 q M) (hk : tK t n q = 1) : ok (f_X9_lettersHere M m) (fun o => o = (tL t n q, M)) := by
  have C := h.2.2.2
  have ln := C.1.2.2.1
  have eg := tE_ge (t := t) (n := n) q
  have en := tE_le (t := t) C.2.2.2.2.2.2
  obtain ⟨c1, -, c6⟩ := tK_1.mp hk
  rw [m_lhF rfl h.s, m_isN C, bs, ck_t (decide_eq_true hk), bs, h.s.gl, bs, h.s.gi, bs, h.s.gi, bs, C.2.2.2.2.1, C.2.1, C.2.2.1, i_sub eg, Int64.toInt32_ofNat']
  have e1 : tW t n q = v32 (dgx t (tS t n q) (tE t n q)) (tE t n q - tS t n q) := by
    unfold tW wd
    rw [if_pos c1, if_pos (by omega), dgx_v _ (Nat.le_refl _)]
  rw [e1]
  refine lh_l (fun k => Int32.ofNat (v32 (dgx t (tS t n q) (tE t n q)) k)) (tE t n q - tS t n q) (by omega) (fun k k1 k2 => ?_) ?_
  · have := sh5 (v32 (dgx t (tS t n q) (tE t n q)) k) (d := 0) (by omega)
    rw [show Int32.ofNat 0 = (0 : Int32) from rfl, or_0, Nat.add_zero] at this
    rw [this, dgx_z k1]
  · rw [show max (tE t n q - tS t n q) 6 = 6 by omega]
    exact ok.pure rfl
theorem m_lh0 (h : GN m t n M0 q M) (hk : tK t n q ≠ 1) : ok (f_X9_lettersHere M m) (fun o => BN m t n M0 (-11) q o.2) := by
  have C := h.2.2.2
  have ln := C.1.2.2.1
  have eg := tE_ge (t := t) (n := n) q
  have en := tE_le (t := t) C.2.2.2.2.2.2
  obtain ⟨M', e1, e2, e3⟩ := ck_f (c := -11) h (decide_eq_false hk) (by decide)
  rw [m_lhF rfl h.s, m_isN C, bs, e1, bs, e2.s.gl, bs, e2.s.gi, bs, e2.s.gi, bs, e3 20 (by omega), e3 21 (by omega), C.2.1, C.2.2.1, i_sub eg]
  refine (lh_e' (by omega) M').mono ?_
  intro o z
  rw [z]; exact e2
/-- a name's letters are not negative -/
theorem tL_v (hk : tK t n q = 1) : ∃ v, v < 1073741824 ∧ tL t n q = Int32.ofNat v := by
  obtain ⟨c1, -, c6⟩ := tK_1.mp hk
  exact ⟨_, Nat.lt_of_lt_of_le (v32_lt 6 (fun i _ => dgx_lt (tC_L c1).2.2 i)) (by decide), rfl⟩
theorem i_nn {v : Nat} (h : v < 2147483648) : 0 ≤ Int32.ofNat v := (nn_lt _).mpr (o_nneg h)
/-- a number -/
theorem m_int {lo hi : Nat} (hlo : lo ≤ 100000) (hhi : hi ≤ 100000) (h : GN m t n M0 q M) : ok (f_X9_readInteger M m (Int32.ofNat lo) (Int32.ofNat hi)) (fun o => (0 ≤ nI_ t n lo hi q → o.1 = nI_ t n lo hi q ∧ GN m t n M0 (tE t n q) o.2) ∧ (¬ 0 ≤ nI_ t n lo hi q → BN m t n M0 (nI_ t n lo hi q) q o.2)) := by
  have C := h.2.2.2
  have lc : tC t n q < 5 := by unfold tC; split; omega; split; omega; split; omega; split <;> omega
  have k2 := tK_o (t := t) (n := n) (p := q) (c := 2) (by omega)
  unfold f_X9_readInteger
  rw [h.s.gi, bs, C.2.2.2.1, is_, bs, h.s.c, bs, show (2 : Int32) = Int32.ofNat 2 from rfl]
  by_cases c1 : tC t n q = 2
  · rw [if_pos (by rw [c1]), ck_1, bs, h.s.gi, bs, C.2.2.2.2.2.1, m_inR, bs, h.s.c, bs]
    obtain ⟨-, -, hl⟩ := tC_D c1
    have eI : tI t n q = iv t (tS t n q) (tE t n q - tS t n q) := if_pos c1
    have iv1 := iv_nv (t := t) (s := tS t n q) (tE t n q - tS t n q) (fun i hi => hl _ (by omega) (by omega))
    have iv2 := iv_lt (t := t) (s := tS t n q) (tE t n q - tS t n q) (fun i hi => hl _ (by omega) (by omega))
    rw [← eI] at iv1 iv2
    have eV : tV t n q = nv t (tS t n q) (tE t n q - tS t n q) := rfl
    rw [← eV] at iv1
    have cond : (Int32.ofNat lo ≤ Int32.ofNat (tI t n q) ∧ Int32.ofNat (tI t n q) ≤ Int32.ofNat hi) ↔ (lo ≤ tV t n q ∧ tV t n q ≤ hi) := by
      rw [i_le (by omega) (by omega), i_le (by omega) (by omega)]
      omega
    by_cases c2 : lo ≤ tV t n q ∧ tV t n q ≤ hi
    · have e2 : nI_ t n lo hi q = Int32.ofNat (tV t n q) := by
        unfold nI_
        rw [if_pos (k2.mpr c1), if_pos c2]
      have e3 : tI t n q = tV t n q := by omega
      rw [ck_t (decide_eq_true (cond.mpr c2)), bs, h.s.gi, bs, C.2.2.2.2.2.1, h.s.c, bs, e2, e3]
      refine ok.seq (aG_g h) ?_
      intro M' G'
      exact ok.pure ⟨fun _ => ⟨rfl, G'⟩, fun z => absurd (i_nn (by omega)) z⟩
    · have e2 : nI_ t n lo hi q = -12 := by
        unfold nI_
        rw [if_pos (k2.mpr c1), if_neg c2]
      obtain ⟨M', e3, e4, -⟩ := ck_f (c := -12) h (decide_eq_false (fun z => c2 (cond.mp z))) (by decide)
      rw [e3, bs, e4.s.gi, bs, e4.s.c, bs, aG_e e4, bs, e2]
      exact ok.pure ⟨fun z => absurd z (by decide), fun _ => e4⟩
  · have e2 : nI_ t n lo hi q = -11 := by
      unfold nI_
      rw [if_neg (fun z => c1 (k2.mp z))]
    obtain ⟨M', e3, e4, -⟩ := ck_f (b := false) (c := -11) h rfl (by decide)
    rw [show b2i false = 0 from rfl] at e3
    rw [if_neg (fun z => c1 ((i_inj (by omega) (by omega)).mp z)), e3, bs, e4.s.gi, bs, m_inR, bs, e4.s.c, bs, ck_e0 e4, bs, e4.s.gi, bs, e4.s.c, bs, aG_e e4, bs, e2]
    exact ok.pure ⟨fun z => absurd z (by decide), fun _ => e4⟩
theorem m_int_e {lo hi : Int32} (h : BN m t n M0 c q M) : ok (f_X9_readInteger M m lo hi) (fun o => o.2 = M) := by
  unfold f_X9_readInteger
  rw [h.s.gi, bs, is_, bs, h.s.c, bs, ck_e0 h, bs, h.s.gi, bs, m_inR, bs, h.s.c, bs, ck_e0 h, bs, h.s.gi, bs, h.s.c, bs, aG_e h, bs]
  exact ok.pure rfl
end
