/-! ===== bits of an int (begun from the rows of laws/BITS) ===== -/
section
def bi (x : Int32) (i : Nat) : Bool := x.toBitVec.getLsbD i
theorem b_ext {x y : Int32} (h : ∀ i, i < 32 → bi x i = bi y i) : x = y := Int32.toBitVec_inj.mp (BitVec.eq_of_getLsbD_eq (fun i hi => h i hi))
theorem b_or (x y : Int32) (i : Nat) : bi (x ||| y) i = (bi x i || bi y i) := by unfold bi; rw [Int32.toBitVec_or, BitVec.getLsbD_or]
theorem b_and (x y : Int32) (i : Nat) : bi (x &&& y) i = (bi x i && bi y i) := by unfold bi; rw [Int32.toBitVec_and, BitVec.getLsbD_and]
theorem b_xor (x y : Int32) (i : Nat) : bi (x ^^^ y) i = (bi x i ^^ bi y i) := by unfold bi; rw [Int32.toBitVec_xor, BitVec.getLsbD_xor]
theorem b_big {x : Int32} {i : Nat} (h : 32 ≤ i) : bi x i = false := BitVec.getLsbD_of_ge _ _ h
theorem b_255 (i : Nat) : bi 255 i = decide (i < 8) := by
  rcases Nat.lt_or_ge i 32 with h | h
  · exact (by decide +kernel : ∀ i, i < 32 → bi 255 i = decide (i < 8)) i h
  · rw [b_big h, decide_eq_false (by omega)]
theorem b_65535 (i : Nat) : bi 65535 i = decide (i < 16) := by
  rcases Nat.lt_or_ge i 32 with h | h
  · exact (by decide +kernel : ∀ i, i < 32 → bi 65535 i = decide (i < 16)) i h
  · rw [b_big h, decide_eq_false (by omega)]
theorem b_m1 : ∀ i, i < 32 → bi (-1) i = true := by decide +kernel
theorem b_0 (i : Nat) : bi 0 i = false := BitVec.getLsbD_zero
theorem s_l : ∀ n, n < 32 → ((nI n &&& 31).toBitVec.smod 32).toNat = n := by decide +kernel
theorem s_u : ∀ n, n < 32 → (((nI n).toUInt32 &&& Int32.toUInt32 31).toBitVec % 32).toNat = n := by decide +kernel
theorem b_shl (n : Nat) (hn : n < 32) (x : Int32) {i : Nat} (hi : i < 32) : bi (x <<< (nI n &&& 31)) i = (decide (n ≤ i) && bi x (i - n)) := by
  unfold bi
  rw [Int32.toBitVec_shiftLeft]
  show (x.toBitVec <<< ((nI n &&& 31).toBitVec.smod 32).toNat).getLsbD i = _
  rw [s_l n hn, BitVec.getLsbD_shiftLeft]
  rcases Nat.lt_or_ge i n with h | h
  · simp [h, Nat.not_le.mpr h]
  · simp [hi, h, Nat.not_lt.mpr h]
theorem b_ushr (n : Nat) (hn : n < 32) (x : Int32) (i : Nat) : bi ((x.toUInt32 >>> ((nI n).toUInt32 &&& Int32.toUInt32 31)).toInt32) i = bi x (n + i) := by
  show (x.toUInt32 >>> ((nI n).toUInt32 &&& Int32.toUInt32 31)).toBitVec.getLsbD i = x.toUInt32.toBitVec.getLsbD (n + i)
  rw [UInt32.toBitVec_shiftRight]
  show (x.toUInt32.toBitVec >>> (((nI n).toUInt32 &&& Int32.toUInt32 31).toBitVec % 32).toNat).getLsbD i = _
  rw [s_u n hn, BitVec.getLsbD_ushiftRight]
theorem b_sshr (n : Nat) (hn : n < 32) (x : Int32) {i : Nat} (hi : i < 32) : bi (x >>> (nI n &&& 31)) i = if n + i < 32 then bi x (n + i) else bi x 31 := by
  unfold bi
  rw [Int32.toBitVec_shiftRight]
  show (x.toBitVec.sshiftRight ((nI n &&& 31).toBitVec.smod 32).toNat).getLsbD i = _
  rw [s_l n hn, BitVec.getLsbD_sshiftRight, BitVec.msb_eq_getLsbD_last]
  simp [hi]
theorem hs_bi {x : Int32} {i : Nat} (hi : i < 32) : hs x (Int32.ofNat i) = bi x i := by
  have e := b_sshr i hi x (i := 0) (by omega)
  rw [if_pos (by omega), Nat.add_zero] at e
  have e2 : bi ((x >>> (Int32.ofNat i &&& 31)) &&& 1) 0 = bi x i := by
    rw [b_and]
    have : bi 1 0 = true := by decide +kernel
    rw [this, Bool.and_true]
    exact e
  unfold hs
  rcases and1 (x >>> (Int32.ofNat i &&& 31)) with h | h
  · rw [h] at e2 ⊢
    rw [← e2]
    decide +kernel
  · rw [h] at e2 ⊢
    rw [← e2]
    decide +kernel
theorem b_one : ∀ i, i < 32 → ∀ j, j < 32 → bi ((1 : Int32) <<< (Int32.ofNat i &&& 31)) j = decide (j = i) := by decide +kernel
theorem hs_0 {i : Nat} (hi : i < 32) : hs 0 (Int32.ofNat i) = false := by rw [hs_bi hi, b_0]
theorem hs_or {x y : Int32} {i : Nat} (hi : i < 32) : hs (x ||| y) (Int32.ofNat i) = (hs x (Int32.ofNat i) || hs y (Int32.ofNat i)) := by rw [hs_bi hi, hs_bi hi, hs_bi hi, b_or]
theorem hs_and {x y : Int32} {i : Nat} (hi : i < 32) : hs (x &&& y) (Int32.ofNat i) = (hs x (Int32.ofNat i) && hs y (Int32.ofNat i)) := by rw [hs_bi hi, hs_bi hi, hs_bi hi, b_and]
theorem hs_xor {x y : Int32} {i : Nat} (hi : i < 32) : hs (x ^^^ y) (Int32.ofNat i) = (hs x (Int32.ofNat i) ^^ hs y (Int32.ofNat i)) := by rw [hs_bi hi, hs_bi hi, hs_bi hi, b_xor]
theorem hs_not {x : Int32} {i : Nat} (hi : i < 32) : hs (x ^^^ (-1)) (Int32.ofNat i) = !hs x (Int32.ofNat i) := by rw [hs_xor hi, hs_bi hi, hs_bi hi, b_m1 i hi, Bool.xor_true]
theorem hs_one {i j : Nat} (hi : i < 32) (hj : j < 32) : hs ((1 : Int32) <<< (Int32.ofNat i &&& 31)) (Int32.ofNat j) = decide (j = i) := by rw [hs_bi hj, b_one i hi j hj]
theorem hs_ext {x y : Int32} (h : ∀ i, i < 32 → hs x (Int32.ofNat i) = hs y (Int32.ofNat i)) : x = y := b_ext (fun i hi => by rw [← hs_bi hi, ← hs_bi hi]; exact h i hi)
/-- the bit itself, as a factor -/
theorem bit_mul (x a e : Int32) : x * ((a >>> (e &&& 31)) &&& 1) = if hs a e = true then x else 0 := by
  unfold hs
  rcases and1 (a >>> (e &&& 31)) with h | h
  · rw [h]; simp
  · rw [h]; simp
end
