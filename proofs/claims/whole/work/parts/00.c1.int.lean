/-! ===== ints that are small numbers ===== -/
theorem i_toInt {a : Nat} (ha : a < 2147483648) : (Int32.ofNat a).toInt = (a : Int) := nI_toInt (n := a) (by omega)
theorem i_lt {a b : Nat} (ha : a < 2147483648) (hb : b < 2147483648) : (Int32.ofNat a < Int32.ofNat b) ↔ a < b := by
  constructor
  · intro h
    have h2 := Int32.lt_iff_toInt_lt.mp h
    rw [i_toInt ha, i_toInt hb] at h2
    omega
  · intro h
    refine Int32.lt_iff_toInt_lt.mpr ?_
    rw [i_toInt ha, i_toInt hb]
    omega
theorem i_le {a b : Nat} (ha : a < 2147483648) (hb : b < 2147483648) : (Int32.ofNat a ≤ Int32.ofNat b) ↔ a ≤ b := by
  constructor
  · intro h
    have h2 := Int32.le_iff_toInt_le.mp h
    rw [i_toInt ha, i_toInt hb] at h2
    omega
  · intro h
    refine Int32.le_iff_toInt_le.mpr ?_
    rw [i_toInt ha, i_toInt hb]
    omega
theorem i_succ {a : Nat} : Int32.ofNat a + 1 = Int32.ofNat (a + 1) := by
  rw [show (1 : Int32) = Int32.ofNat 1 from rfl, ← Int32.ofNat_add]
theorem i_idx {a : Nat} (ha : a < 2147483648) : (Int32.ofNat a).toNatClampNeg = a := Int32.toNatClampNeg_ofNat_of_lt ha
theorem i_pos {a : Nat} (ha : a < 2147483648) : ¬ Int32.ofNat a < 0 := by
  rw [show (0 : Int32) = Int32.ofNat 0 from rfl, i_lt ha (by omega)]
  omega
/-- reading an array of ints -/
theorem ok.aI {M : Mem} {a i n c : Nat} {P : Int32 → Prop} (hk : mK M a = (c, n)) (hc : c = 20 ∨ c = 25) (hi : i < n) (hn : n < 2147483648) (h : P (mI M a i)) : ok (aI M a (Int32.ofNat i)) P := by
  unfold _root_.Jvm.Pilot.CParticipatoryBudgetLaw_law_r9116_d19bd8.aI
  rw [hk, if_pos (by exact hc), if_neg (by rw [i_idx (by omega)]; intro z; rcases z with z | z; exact i_pos (by omega) z; omega), i_idx (by omega)]
  exact ok.pure h
theorem ok.gFI {M : Mem} {a ci j : Nat} {P : Int32 → Prop} (hk : (mK M a).1 = ci) (h : P (mI M a j)) : ok (gFI M a ci j) P := by
  unfold _root_.Jvm.Pilot.CParticipatoryBudgetLaw_law_r9116_d19bd8.gFI
  rw [if_pos hk]
  exact ok.pure h
theorem ok.gFR {M : Mem} {a ci j r : Nat} {P : Nat → Prop} (hk : (mK M a).1 = ci) (hr : mR M a j = some r) (h : P r) : ok (gFR M a ci j) P := by
  unfold _root_.Jvm.Pilot.CParticipatoryBudgetLaw_law_r9116_d19bd8.gFR
  rw [if_pos hk, hr]
  exact ok.pure h
