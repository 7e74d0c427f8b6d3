/-! ===== sets that can be paid, the best, the cheapest ===== -/
section
variable {D : Bl}
def cpN (D : Bl) (set : Int32) (n : Nat) : Bool := fo (fun a z => z && decide (ct D (set &&& pw D (Int32.ofNat a)) ≤ pbud D (Int32.ofNat a))) n true
def cp (D : Bl) (set : Int32) : Bool := cpN D set (2 ^ cn D 0)
theorem cpN_s (set : Int32) (n : Nat) : cpN D set (n + 1) = (cpN D set n && decide (ct D (set &&& pw D (Int32.ofNat n)) ≤ pbud D (Int32.ofNat n))) := rfl
theorem cpN_dn {set : Int32} {n : Nat} (h : cpN D set n = false) (j : Nat) : cpN D set (n + j) = false := by
  induction j with
  | zero => exact h
  | succ j ih => rw [← Nat.add_assoc, cpN_s, ih]; rfl
theorem and_N (s : Nat) (x : Int32) (hs : s < 2147483648) : ∃ t, t ≤ s ∧ Int32.ofNat s &&& x = Int32.ofNat t := by
  refine ⟨(Int32.ofNat s &&& x).toBitVec.toNat, ?_, ?_⟩
  · rw [Int32.toBitVec_and, BitVec.toNat_and]
    refine Nat.le_trans Nat.and_le_left ?_
    show (BitVec.ofNat 32 s).toNat ≤ s
    rw [BitVec.toNat_ofNat]
    exact Nat.mod_le _ _
  · apply Int32.toBitVec_inj.1
    show _ = BitVec.ofNat 32 (Int32.ofNat s &&& x).toBitVec.toNat
    rw [BitVec.ofNat_toNat, BitVec.setWidth_eq]
variable {M : Mem} {o b : Nat}
theorem f_cp (h : IsOp M o) (hD : Cn D) (hO : OC M o D) {s : Nat} (hs : s < 2 ^ cn D 1) : f_X4_canPay M o (Int32.ofNat s) = some (b2i (cp D (Int32.ofNat s))) := by
  have P1 := p2_le hD.2.2.1
  have P0 := p2_le hD.2.1
  have e12 : 2 ^ 12 = 4096 := rfl
  have e4 : 2 ^ 4 = 16 := rfl
  obtain ⟨o4, o5, ov, oa⟩ := hO
  refine eq_ok ?_
  unfold f_X4_canPay
  refine it_r (I := fun a (u : Int32) => u = Int32.ofNat a ∧ cpN D (Int32.ofNat s) a = true) (2 ^ cn D 0) ⟨rfl, rfl⟩ (by omega) ?_ ?_
  · rintro rec a u ha ⟨rfl, h0⟩ hrec
    obtain ⟨t, t1, t2⟩ := and_N s (pw D (Int32.ofNat a)) (by omega)
    have a2 := h.a2 (i := a) (by omega)
    have a3 := h.a3 (i := a) (by omega)
    have a1 := h.a1 (i := t) (by omega)
    rw [(oa a ha).1] at a2
    rw [(oa a ha).2] at a3
    rw [(ov t (by omega)).2] at a1
    unfold bd_X4_canPay_2
    simp only [h.gi, o5, bs, ile_n ha (show 2 ^ cn D 0 < 2147483648 by omega), h.r1, h.r2, a2, t2, a1, h.r3, a3]
    refine ok.ite (fun c => ?_) (fun c => ?_)
    · rw [i_succ]
      exact hrec _ ⟨rfl, by rw [cpN_s, h0, t2, decide_eq_true c]; rfl⟩
    · have h1 : cpN D (Int32.ofNat s) (a + 1) = false := by rw [cpN_s, h0, t2, decide_eq_false c]; rfl
      have h2 := cpN_dn h1 (2 ^ cn D 0 - (a + 1))
      rw [show a + 1 + (2 ^ cn D 0 - (a + 1)) = 2 ^ cn D 0 by omega] at h2
      rw [isB0]
      refine ok.pure ?_
      unfold cp
      rw [h2]
  · rintro rec u ⟨rfl, h0⟩
    unfold bd_X4_canPay_2
    simp only [h.gi, o5, bs, ile_e, isB1]
    refine ok.pure ?_
    unfold cp
    rw [h0]
/-! the best one -/
def btr (D : Bl) (i a : Int32) : Bool := decide (vl D a < vl D i) || (decide (vl D i = vl D a) && decide (ct D i < ct D a))
def bsF (D : Bl) (bar : Int32) (i : Nat) (a : Int32) : Int32 := if btr D (Int32.ofNat i) a = true ∧ Int32.ofNat i &&& bar = 0 ∧ cp D (Int32.ofNat i) = true then Int32.ofNat i else a
def bsN (D : Bl) (bar : Int32) (n : Nat) : Int32 := fo (bsF D bar) n 0
def bst (D : Bl) (bar : Int32) : Int32 := bsN D bar (2 ^ cn D 1)
theorem bsN_s (bar : Int32) (n : Nat) : bsN D bar (n + 1) = bsF D bar n (bsN D bar n) := rfl
theorem bsN_1 (bar : Int32) : bsN D bar 1 = 0 := by
  rw [bsN_s]
  unfold bsF
  split
  · rfl
  · rfl
theorem bsN_in (bar : Int32) (n : Nat) : ∃ t, (t < n ∨ t = 0) ∧ bsN D bar n = Int32.ofNat t := by
  induction n with
  | zero => exact ⟨0, Or.inr rfl, rfl⟩
  | succ n ih =>
    obtain ⟨t, t1, t2⟩ := ih
    rw [bsN_s]
    unfold bsF
    split
    · exact ⟨n, Or.inl (by omega), rfl⟩
    · exact ⟨t, by omega, t2⟩
theorem f_best (h : IsOp M o) (hD : Cn D) (hO : OC M o D) (bar : Int32) : f_X4_best M o bar = some (bst D bar) := by
  have P1 := p2_le hD.2.2.1
  have e12 : 2 ^ 12 = 4096 := rfl
  have pos1 : 0 < 2 ^ cn D 1 := Nat.two_pow_pos _
  have hcp := fun {s : Nat} (hs : s < 2 ^ cn D 1) => f_cp h hD hO hs
  obtain ⟨o4, o5, ov, oa⟩ := hO
  unfold f_X4_best
  have e : 2 ^ cn D 1 - 1 + 1 = 2 ^ cn D 1 := by omega
  have key := it_eq (F := bd_X4_best_4 M o bar fun (e2 : Int32 × Int32) => some e2.1) (k := some (bst D bar)) (st := fun i => (bsN D bar (i + 1), Int32.ofNat (i + 1))) (2 ^ cn D 1 - 1) (x := (0, 1)) ?_ (by omega) ?_ ?_
  · exact key
  · show ((0 : Int32), (1 : Int32)) = (bsN D bar 1, Int32.ofNat 1)
    rw [bsN_1]; rfl
  · intro rec i hi
    have hi2 : i + 1 < 2 ^ cn D 1 := by omega
    obtain ⟨t, t1, t2⟩ := bsN_in (D := D) bar (i + 1)
    have a0 := h.a0 (i := i + 1) (by omega)
    have b0 := h.a0 (i := t) (by omega)
    have a1 := h.a1 (i := i + 1) (by omega)
    have b1 := h.a1 (i := t) (by omega)
    rw [(ov _ hi2).1] at a0
    rw [(ov _ hi2).2] at a1
    rw [(ov t (by omega)).1] at b0
    rw [(ov t (by omega)).2] at b1
    unfold bd_X4_best_4
    dsimp only
    rw [t2]
    simp only [h.gi, o4, bs, ile_n hi2 (show 2 ^ cn D 1 < 2147483648 by omega), h.r0, a0, b0, h.r1, a1, b1, is_, h.c, hcp hi2, b2i_ite, i_succ]
    rw [bsN_s (D := D) bar (i + 1), t2]
    unfold bsF btr
    generalize vl D (Int32.ofNat (i + 1)) = v1
    generalize vl D (Int32.ofNat t) = v2
    generalize ct D (Int32.ofNat (i + 1)) = c1
    generalize ct D (Int32.ofNat t) = c2
    refine congrArg (fun z => rec (z, Int32.ofNat (i + 1 + 1))) ?_
    have le_lt : ∀ x y : Int32, x ≤ y ↔ ¬ y < x := fun x y => by rw [le_i, lt_i]; omega
    generalize Int32.ofNat (i + 1) = z
    by_cases h1 : v2 < v1
    · by_cases h2 : z &&& bar = 0 <;> simp [h1, h2]
    · by_cases h3 : v1 = v2
      · by_cases h4 : c2 ≤ c1
        · have h5 : ¬ c1 < c2 := (le_lt _ _).mp h4
          simp [h3, h4, h5]
        · have h5 : c1 < c2 := by rw [le_lt] at h4; exact Decidable.not_not.mp h4
          by_cases h2 : z &&& bar = 0 <;> simp [h3, h4, h5, h2]
      · simp [h1, h3]
  · intro rec
    unfold bd_X4_best_4
    dsimp only
    rw [e]
    simp only [h.gi, o4, bs, ile_e]
    rfl
/-! the cheapest one with enough -/
def chF_ (D : Bl) (least : Int32) (i : Nat) (a : Int32) : Int32 := if ¬ vl D (Int32.ofNat i) < least ∧ (a < 0 ∨ ct D (Int32.ofNat i) < ct D a) ∧ cp D (Int32.ofNat i) = true then Int32.ofNat i else a
def cheN (D : Bl) (least : Int32) (n : Nat) : Int32 := fo (chF_ D least) n (-1)
def che (D : Bl) (least : Int32) : Int32 := cheN D least (2 ^ cn D 1)
theorem cheN_s (l : Int32) (n : Nat) : cheN D l (n + 1) = chF_ D l n (cheN D l n) := rfl
theorem cheN_in (l : Int32) (n : Nat) : cheN D l n = -1 ∨ ∃ t, t < n ∧ cheN D l n = Int32.ofNat t := by
  induction n with
  | zero => exact Or.inl rfl
  | succ n ih =>
    rw [cheN_s]
    unfold chF_
    split
    · exact Or.inr ⟨n, by omega, rfl⟩
    · rcases ih with h | ⟨t, t1, t2⟩
      · exact Or.inl h
      · exact Or.inr ⟨t, by omega, t2⟩
theorem f_che (h : IsOp M o) (hD : Cn D) (hO : OC M o D) (least : Int32) : f_X4_cheapest M o least = some (che D least) := by
  have P1 := p2_le hD.2.2.1
  have e12 : 2 ^ 12 = 4096 := rfl
  have hcp := fun {s : Nat} (hs : s < 2 ^ cn D 1) => f_cp h hD hO hs
  obtain ⟨o4, o5, ov, oa⟩ := hO
  unfold f_X4_cheapest
  rw [ltq]
  have le_lt : ∀ x y : Int32, x ≤ y ↔ ¬ y < x := fun x y => by rw [le_i, lt_i]; omega
  refine it_c (k := fun a => some a) (2 ^ cn D 1) (chF_ D least) (-1) (by omega) (fun rec i hi => ?_) (fun rec => ?_)
  · have a0 := h.a0 (i := i) (by omega)
    have a1 := h.a1 (i := i) (by omega)
    rw [(ov _ hi).1] at a0
    rw [(ov _ hi).2] at a1
    show bd_X4_cheapest_4 M o least _ rec (cheN D least i, Int32.ofNat i) = rec (cheN D least (i + 1), Int32.ofNat (i + 1))
    rw [cheN_s]
    unfold bd_X4_cheapest_4
    rcases cheN_in (D := D) least i with e | ⟨t, t1, t2⟩
    · rw [e]
      unfold chF_
      simp only [h.gi, o4, bs, ile_n hi (show 2 ^ cn D 1 < 2147483648 by omega), h.r0, a0, if_pos m1_neg, is_, h.c, hcp hi, b2i_ite, i_succ]
      refine congrArg (fun z => rec (z, Int32.ofNat (i + 1))) ?_
      by_cases h1 : vl D (Int32.ofNat i) < least
      · simp [h1]
      · by_cases h2 : cp D (Int32.ofNat i) = true <;> simp [h1, h2, m1_neg]
    · have b1 := h.a1 (i := t) (by omega)
      rw [(ov t (by omega)).2] at b1
      rw [t2]
      have n0 : ¬ Int32.ofNat t < 0 := o_nneg (by omega)
      unfold chF_
      simp only [h.gi, o4, bs, ile_n hi (show 2 ^ cn D 1 < 2147483648 by omega), h.r0, a0, if_neg n0, h.r1, a1, b1, is_, h.c, hcp hi, b2i_ite, i_succ]
      refine congrArg (fun z => rec (z, Int32.ofNat (i + 1))) ?_
      by_cases h1 : vl D (Int32.ofNat i) < least
      · simp [h1]
      · by_cases h4 : ct D (Int32.ofNat t) ≤ ct D (Int32.ofNat i)
        · have h5 : ¬ ct D (Int32.ofNat i) < ct D (Int32.ofNat t) := (le_lt _ _).mp h4
          simp [h1, h4, h5, n0]
        · have h5 : ct D (Int32.ofNat i) < ct D (Int32.ofNat t) := by rw [le_lt] at h4; exact Decidable.not_not.mp h4
          by_cases h2 : cp D (Int32.ofNat i) = true <;> simp [h1, h2, h4, h5, n0]
  · unfold bd_X4_cheapest_4
    simp only [h.gi, o4, bs, ile_e]
end
