/-! ===== the reference reads a token ===== -/
section
variable {M M' M0 M1 M2 : Mem} {t : Nat → Int32} {n p m hi hj : Nat}
theorem and255 : ∀ k : Nat, k < 256 → (Int32.ofInt ((k : Int) - 128) &&& 255).toInt = if (k : Int) < 128 then (k : Int) + 128 else (k : Int) - 128 := by decide +kernel
theorem and255_v {c : Int32} (h1 : -128 ≤ c.toInt) (h2 : c.toInt < 128) : (c &&& 255).toInt = if c.toInt < 0 then c.toInt + 256 else c.toInt := by
  have e : Int32.ofInt (((c.toInt + 128).toNat : Int) - 128) = c := by
    rw [show (((c.toInt + 128).toNat : Nat) : Int) - 128 = c.toInt by omega, fb_asI]
  have := and255 (c.toInt + 128).toNat (by omega)
  rw [e] at this
  rw [this]
  by_cases z : c.toInt < 0
  · rw [if_pos z, if_pos (by omega)]; omega
  · rw [if_neg z, if_neg (by omega)]; omega
/-- the fields of the token alone change -/
def Nt (m hi : Nat) (M M' : Mem) : Prop := mK M' = mK M ∧ mR M' = mR M ∧ mN M' = mN M ∧ (∀ a j, ¬ (a = m ∧ j = 23) → mL M' a j = mL M a j) ∧ ∀ a j, ¬ (a = m ∧ 20 ≤ j ∧ j < hi) → mI M' a j = mI M a j
theorem Nt.rf : Nt m hi M M := ⟨rfl, rfl, rfl, fun _ _ _ => rfl, fun _ _ _ => rfl⟩
theorem Nt.trans (h1 : Nt m hi M M1) (h2 : Nt m hi M1 M2) : Nt m hi M M2 := ⟨h2.1.trans h1.1, h2.2.1.trans h1.2.1, h2.2.2.1.trans h1.2.2.1, fun a j z => (h2.2.2.2.1 a j z).trans (h1.2.2.2.1 a j z), fun a j z => (h2.2.2.2.2 a j z).trans (h1.2.2.2.2 a j z)⟩
theorem Nt.wide (h : Nt m hi M M') (hh : hi ≤ hj) : Nt m hj M M' := ⟨h.1, h.2.1, h.2.2.1, h.2.2.2.1, fun a j z => h.2.2.2.2 a j (by omega)⟩
theorem Nt.sI {j : Nat} (h1 : 20 ≤ j) (h2 : j < hi) (y : Int32) : Nt m hi M (sI M m j y) := ⟨rfl, rfl, rfl, fun _ _ _ => rfl, fun a k z => by rw [i_sI, if_neg (by omega)]⟩
theorem Nt.sL (y : Int64) : Nt m hi M (sL M m 23 y) := ⟨rfl, rfl, rfl, fun a k z => by rw [l_sL, if_neg z], fun a k z => rfl⟩
theorem Nt.i (h : Nt m hi M M') {a j : Nat} (z : a ≠ m ∨ j < 20 ∨ hi ≤ j) : mI M' a j = mI M a j := h.2.2.2.2 a j (by omega)
/-- the text at m is t up to n -/
def NB (M : Mem) (m : Nat) (t : Nat → Int32) (n : Nat) : Prop := IsMo M m ∧ mI M m 19 = Int32.ofNat n ∧ n ≤ 1200 ∧ ∀ j, j < n → mI M (m + 10) j = t j ∧ -128 ≤ (t j).toInt ∧ (t j).toInt < 128
theorem NB.nt (h : NB M m t n) (hF : Nt m hi M M') : NB M' m t n := ⟨h.1.e hF.1 hF.2.1, by rw [hF.i (by omega)]; exact h.2.1, h.2.2.1, fun j hj => by rw [hF.i (by omega)]; exact h.2.2.2 j hj⟩
/-- a token is to be read from p on -/
def NO (M : Mem) (m : Nat) (t : Nat → Int32) (n p : Nat) : Prop := NB M m t n ∧ mI M m 20 = Int32.ofNat p ∧ p ≤ n
def iv (t : Nat → Int32) (s : Nat) : Nat → Nat
  | 0 => 0
  | k + 1 => if iv t s k ≤ 100000000 then 10 * iv t s k + dn (t (s + k)) else 1000000000
/-- the token's word, its integer -/
def tW (t : Nat → Int32) (n p : Nat) : Nat := if tC t n p = 1 then wd t (tS t n p) (tE t n p) else 0
def tI (t : Nat → Int32) (n p : Nat) : Nat := if tC t n p = 2 then iv t (tS t n p) (tE t n p - tS t n p) else 0
/-- the token read from p on is at hand -/
def NC (M : Mem) (m : Nat) (t : Nat → Int32) (n p : Nat) : Prop := NB M m t n ∧ mI M m 21 = Int32.ofNat (tS t n p) ∧ mI M m 20 = Int32.ofNat (tE t n p) ∧ mI M m 22 = Int32.ofNat (tC t n p) ∧ mL M m 23 = Int64.ofNat (tW t n p) ∧ mI M m 24 = Int32.ofNat (tI t n p) ∧ p ≤ n
theorem NC.o (h : NC M m t n p) : NO M m t n (tE t n p) := ⟨h.1, h.2.2.1, tE_le h.2.2.2.2.2.2⟩
/-- what peek tells -/
def pk (t : Nat → Int32) (n p : Nat) : Int32 := if n ≤ p then -1 else t p &&& 255
theorem m_peek (h : NO M m t n p) : f_X9_peek M m = some (pk t n p) := by
  obtain ⟨⟨s, h1, h2, h3⟩, h4, h5⟩ := h
  unfold f_X9_peek pk
  rw [s.gi, bs, h4, s.gi, bs, h1]
  by_cases c : n ≤ p
  · rw [if_pos ((i_le (by omega) (by omega)).mpr c), if_pos c]; rfl
  · rw [if_neg (fun z => c ((i_le (by omega) (by omega)).mp z)), if_neg c, s.r17, bs, bs, aB_e s.k17 (show p < 1200 by omega) (by omega), bs, (h3 p (by omega)).1]; rfl
theorem pk_v (h : NO M m t n p) : (n ≤ p → (pk t n p).toInt = -1) ∧ (p < n → (pk t n p).toInt = if (t p).toInt < 0 then (t p).toInt + 256 else (t p).toInt) := by
  constructor
  · intro z; unfold pk; rw [if_pos z]; rfl
  · intro z
    have := h.1.2.2.2 p z
    unfold pk; rw [if_neg (by omega)]
    exact and255_v this.2.1 this.2.2
theorem pk_iff (h : NO M m t n p) {c : Int32} (h1 : 0 ≤ c.toInt) (h2 : c.toInt < 128) : pk t n p = c ↔ p < n ∧ t p = c := by
  obtain ⟨a, b⟩ := pk_v h
  rw [eq_i, eq_i]
  rcases Nat.lt_or_ge p n with z | z
  · have := h.1.2.2.2 p z
    rw [b z]
    split <;> omega
  · rw [a z]; omega
theorem m_rg (h : NO M m t n p) (lo up_ : Int32) (h1 : 0 ≤ lo.toInt) (h2 : up_.toInt < 128) (N : Mem) : f_X9_inRange N (pk t n p) lo up_ = some (b2i (decide (p < n ∧ lo.toInt ≤ (t p).toInt ∧ (t p).toInt ≤ up_.toInt))) := by
  rw [m_inR]
  congr 2
  apply decide_eq_decide.mpr
  obtain ⟨a, b⟩ := pk_v h
  rw [le_i, le_i]
  rcases Nat.lt_or_ge p n with z | z
  · have := h.1.2.2.2 p z
    rw [b z]
    split <;> omega
  · rw [a z]; omega
theorem m_rL (h : NO M m t n p) (N : Mem) : f_X9_inRange N (pk t n p) 97 122 = some (b2i (decide (p < n ∧ isL (t p) = true))) := by
  rw [m_rg h 97 122 (by decide) (by decide)]
  congr 2
  apply decide_eq_decide.mpr
  unfold isL
  rw [Bool.and_eq_true, decide_eq_true_eq, decide_eq_true_eq]
  exact Iff.rfl
theorem m_rD (h : NO M m t n p) (N : Mem) : f_X9_inRange N (pk t n p) 48 57 = some (b2i (decide (p < n ∧ isD (t p) = true))) := by
  rw [m_rg h 48 57 (by decide) (by decide)]
  congr 2
  apply decide_eq_decide.mpr
  unfold isD
  rw [Bool.and_eq_true, decide_eq_true_eq, decide_eq_true_eq]
  exact Iff.rfl
theorem pk_t (h : NO M m t n p) (hp : p < n) (h0 : 0 ≤ (t p).toInt) : pk t n p = t p := by
  rw [eq_i, (pk_v h).2 hp, if_neg (by omega)]
/-- a run of signs -/
theorem n_run {α : Type} {F : (Mem → Option α) → Mem → Option α} {kk : Mem → Option α} {Q : α → Prop} (P : Int32 → Bool) (G : Nat → Mem → Prop) (h : NO M m t n p) (h0 : G p M) (hs : ∀ (rec : Mem → Option α) (u : Mem) (q : Nat), NO u m t n q → G q u → p ≤ q → q < n → P (t q) = true → ∃ u', F rec u = rec u' ∧ Nt m 25 u u' ∧ NO u' m t n (q + 1) ∧ G (q + 1) u') (he : ∀ (rec : Mem → Option α) (u : Mem) (q : Nat), NO u m t n q → (q < n → P (t q) = false) → F rec u = kk u) (hk : ∀ M', Nt m 25 M M' → NO M' m t n (ru P t n p) → G (ru P t n p) M' → ok (kk M') Q) : ok (it_ F FU M) Q := by
  have l := h.1.2.2.1
  have g1 := ru_ge (P := P) (t := t) (n := n) p
  have g2 := ru_le (P := P) (t := t) h.2.2
  refine it_r (I := fun i u => Nt m 25 M u ∧ NO u m t n (p + i) ∧ G (p + i) u) (ru P t n p - p) ⟨Nt.rf, h, h0⟩ (by omega) ?_ ?_
  · rintro rec i u hi ⟨a, b, c⟩ hrec
    obtain ⟨u', e1, e2, e3, e4⟩ := hs rec u (p + i) b c (by omega) (by omega) (ru_in (p := p) (n := n) (by omega) (by omega))
    rw [e1]
    exact hrec u' ⟨a.trans e2, e3, e4⟩
  · rintro rec u ⟨a, b, c⟩
    rw [show p + (ru P t n p - p) = ru P t n p by omega] at b c
    rw [he rec u _ b (fun z => ru_out h.2.2 z)]
    exact hk u a b c
theorem NO.nx (h : NO M m t n p) (hp : p < n) (hF : Nt m 25 M M') (hv : mI M' m 20 = Int32.ofNat (p + 1)) : NO M' m t n (p + 1) := ⟨h.1.nt hF, hv, by omega⟩
theorem n_sp {α : Type} {kk : Mem → Option α} {Q : α → Prop} (h : NO M m t n p) (hk : ∀ M', Nt m 25 M M' → NO M' m t n (ru isS t n p) → ok (kk M') Q) : ok (it_ (bd_X9_advance_0 m kk) FU M) Q := by
  refine n_run (kk := kk) isS (fun _ _ => True) h trivial ?_ ?_ fun M' a b _ => hk M' a b
  · intro rec u q hu _ _ hq hP
    unfold isS at hP
    rw [Bool.or_eq_true, decide_eq_true_eq, decide_eq_true_eq] at hP
    have s := hu.1.1
    refine ⟨sI u m 20 (Int32.ofNat (q + 1)), ?_, Nt.sI (by omega) (by omega) _, hu.nx hq (Nt.sI (by omega) (by omega) _) (by rw [i_sI, if_pos ⟨rfl, rfl⟩]), trivial⟩
    unfold bd_X9_advance_0
    rw [s.c, bs, m_peek hu, bs]
    by_cases c : pk t n q = 32
    · rw [if_pos c, s.gi, bs, hu.2.1, i_succ, s.p, bs]
    · rw [if_neg c, bs, bs]
      have c2 : pk t n q = 10 := (pk_iff hu (by decide) (by decide)).mpr ⟨hq, hP.resolve_left (fun z => c ((pk_iff hu (by decide) (by decide)).mpr ⟨hq, z⟩))⟩
      rw [if_pos c2, s.gi, bs, hu.2.1, i_succ, s.p, bs]
  · intro rec u q hu hq
    have s := hu.1.1
    unfold bd_X9_advance_0
    rw [s.c, bs, m_peek hu, bs]
    have hn : ∀ c, (c = 32 ∨ c = 10) → ¬ pk t n q = c := fun c hc z => by
      have hc1 : 0 ≤ c.toInt ∧ c.toInt < 128 := by rcases hc with e | e <;> subst e <;> decide
      obtain ⟨z1, z2⟩ := (pk_iff hu hc1.1 hc1.2).mp z
      have := hq z1
      unfold isS at this
      rw [Bool.or_eq_false_iff, decide_eq_false_iff_not, decide_eq_false_iff_not, z2] at this
      exact hc.elim this.1 this.2
    rw [if_neg (hn 32 (Or.inl rfl)), bs, bs, if_neg (hn 10 (Or.inr rfl))]
/-! words in a long -/
theorem sh5L (v : Nat) {d : Nat} (hv : v < 36028797018963968) (hd : d < 32) : (Int64.ofNat v <<< ((5 : Int32).toInt64 &&& 63)) ||| Int64.ofNat d = Int64.ofNat (v * 32 + d) := by
  have e5 : (((5 : Int32).toInt64 &&& 63).toBitVec.smod 64) = 5#64 := by decide
  apply Int64.toBitVec_inj.mp
  show (BitVec.ofNat 64 v <<< (((5 : Int32).toInt64 &&& 63).toBitVec.smod 64)) ||| BitVec.ofNat 64 d = BitVec.ofNat 64 (v * 32 + d)
  rw [e5]
  apply BitVec.eq_of_toNat_eq
  rw [BitVec.toNat_or, BitVec.shiftLeft_eq', BitVec.toNat_shiftLeft, BitVec.toNat_ofNat, BitVec.toNat_ofNat, BitVec.toNat_ofNat, BitVec.toNat_ofNat, Nat.mod_eq_of_lt (show v < 2 ^ 64 by omega), Nat.mod_eq_of_lt (show d < 2 ^ 64 by omega), Nat.mod_eq_of_lt (show v * 32 + d < 2 ^ 64 by omega), show 5 % 2 ^ 64 = 5 from rfl, Nat.shiftLeft_eq, Nat.mod_eq_of_lt (show v * 2 ^ 5 < 2 ^ 64 by omega)]
  have := Nat.shiftLeft_add_eq_or_of_lt (i := 5) (b := d) (by omega) v
  rw [Nat.shiftLeft_eq] at this
  exact this.symm
theorem dg_L {c : Int32} (h : isL c = true) : (c - 96).toInt64 = Int64.ofNat (dg c) := by
  have h1 := isL_i h
  have h2 := dg_l h
  have e : (96 : Int32).toInt = 96 := rfl
  rw [eq_l, Int32.toInt_toInt64, Int64.toInt_ofNat_of_lt (by omega), fb_subI] <;> rw [e] <;> omega
theorem wd_s {s q : Nat} (hsq : s ≤ q) (h : q - s < 12) : wd t s (q + 1) = wd t s q * 32 + dg (t q) := by
  unfold wd
  rw [if_pos (by omega), if_pos (by omega), show q + 1 - s = q - s + 1 by omega]
  show v32 _ (q - s) * 32 + dg (t (s + (q - s))) = _
  rw [show s + (q - s) = q by omega]
theorem wd_0 {s q : Nat} (h : 12 < q - s) : wd t s q = 0 := if_neg (by omega)
theorem wd_lt {s q k : Nat} (hk : q - s ≤ k) (hk2 : k ≤ 12) (h : ∀ i, s ≤ i → i < q → isL (t i) = true) : wd t s q < 32 ^ k := by
  unfold wd
  rw [if_pos (by omega)]
  exact Nat.lt_of_lt_of_le (v32_lt _ (fun i hi => (dg_l (h (s + i) (by omega) (by omega))).2.1)) (Nat.pow_le_pow_right (by omega) hk)
theorem wd_lt12 {s q : Nat} (h : ∀ i, s ≤ i → i < q → isL (t i) = true) : wd t s q < 1152921504606846976 := by
  by_cases c : q - s ≤ 12
  · exact Nat.lt_of_lt_of_le (wd_lt c (Nat.le_refl _) h) (by decide)
  · rw [wd_0 (by omega)]; decide
end
