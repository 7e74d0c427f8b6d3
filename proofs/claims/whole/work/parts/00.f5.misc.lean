/-! ===== small helpers of the class ===== -/
section
variable {M : Mem}
theorem f_isIx (M : Mem) (i n : Int32) : f_X8_isIndex M i n = some (b2i (decide (0 ≤ i ∧ i < n))) := by
  unfold f_X8_isIndex
  by_cases h1 : i < 0
  · have : ¬ (0 ≤ i ∧ i < n) := fun z => by
      have z1 := z.1
      rw [lt_i] at h1
      rw [le_i] at z1
      omega
    rw [if_pos h1, decide_eq_false this]
    rfl
  · by_cases h2 : n ≤ i
    · have : ¬ (0 ≤ i ∧ i < n) := fun z => by
        have z2 := z.2
        rw [le_i] at h2
        rw [lt_i] at z2
        omega
      rw [if_neg h1, if_pos h2, decide_eq_false this]
      rfl
    · have : 0 ≤ i ∧ i < n := by
        rw [le_i, lt_i]
        rw [le_i] at h2
        rw [lt_i] at h1
        omega
      rw [if_neg h1, if_neg h2, decide_eq_true this]
      rfl
/-- an index within a count is a number below it -/
theorem ix_of {i : Int32} {n : Nat} (hn : n < 2147483648) (h : 0 ≤ i ∧ i < Int32.ofNat n) : ∃ k, k < n ∧ i = Int32.ofNat k := by
  obtain ⟨h1, h2⟩ := h
  rw [lt_i, i_toInt hn] at h2
  rw [le_i] at h1
  have z : (0 : Int32).toInt = 0 := rfl
  rw [z] at h1
  exact ⟨nt i, by unfold nt; omega, (nt_e h1).symm⟩
theorem ix_in {k n : Nat} (hn : n < 2147483648) (hk : k < n) : 0 ≤ Int32.ofNat k ∧ Int32.ofNat k < Int32.ofNat n := by
  rw [show (0 : Int32) = Int32.ofNat 0 from rfl, i_le (by omega) (by omega), i_lt (by omega) hn]
  omega
theorem f_ckIx (M : Mem) (i n : Int32) : f_X8_checkIndex M i n = some (if 0 ≤ i ∧ i < n then (some (), M) else (none, sF M)) := by
  unfold f_X8_checkIndex
  rw [f_isIx, bs, b2i_ite]
  simp only [decide_eq_true_eq]
  split <;> rfl
/-! a name's place -/
/-- the place of x among the first n of a row; -1: none -/
def plN (r : Nat → Int32) (x : Int32) (n : Nat) : Int32 := fo (fun i a => if a < 0 then (if r i = x then Int32.ofNat i else a) else a) n (-1)
theorem plN_s (r : Nat → Int32) (x : Int32) (n : Nat) : plN r x (n + 1) = if plN r x n < 0 then (if r n = x then Int32.ofNat n else plN r x n) else plN r x n := rfl
theorem plN_no {r : Nat → Int32} {x : Int32} {n : Nat} (h : ∀ i, i < n → r i ≠ x) : plN r x n = -1 := by
  induction n with
  | zero => rfl
  | succ n ih => rw [plN_s, ih (fun i hi => h i (by omega)), if_pos m1_neg, if_neg (h n (by omega))]
theorem plN_at {r : Nat → Int32} {x : Int32} {i : Nat} (hi : i < 2147483648) (h : r i = x) (h2 : ∀ k, k < i → r k ≠ x) : ∀ n, plN r x (i + 1 + n) = Int32.ofNat i := by
  intro n
  induction n with
  | zero => rw [Nat.add_zero, plN_s, plN_no h2, if_pos m1_neg, if_pos h]
  | succ n ih => rw [← Nat.add_assoc, plN_s, ih, if_neg (o_nneg hi)]
theorem plN_c {r r' : Nat → Int32} {x : Int32} {n : Nat} (h : ∀ i, i < n → r i = r' i) : plN r x n = plN r' x n := by
  induction n with
  | zero => rfl
  | succ n ih => rw [plN_s, plN_s, ih (fun i hi => h i (by omega)), h n (by omega)]
theorem plN_in (r : Nat → Int32) (x : Int32) (n : Nat) : plN r x n = -1 ∨ ∃ q, q < n ∧ plN r x n = Int32.ofNat q ∧ r q = x := by
  induction n with
  | zero => exact Or.inl rfl
  | succ n ih =>
    rw [plN_s]
    have old : plN r x n = -1 ∨ ∃ q, q < n + 1 ∧ plN r x n = Int32.ofNat q ∧ r q = x := by
      rcases ih with h | ⟨q, h, h2, h3⟩
      · exact Or.inl h
      · exact Or.inr ⟨q, by omega, h2, h3⟩
    split
    · split
      · rename_i h
        exact Or.inr ⟨n, by omega, rfl, h⟩
      · exact old
    · exact old
theorem f_place {a c N n : Nat} (hk : mK M a = (c, N)) (hc : c = 20 ∨ c = 25) (hn : n ≤ N) (hN : N < 1000000) {r : Nat → Int32} (hr : ∀ i, i < n → mI M a i = r i) (x : Int32) : f_X8_place M a (Int32.ofNat n) x = some (plN r x n) := by
  refine eq_ok ?_
  unfold f_X8_place
  refine it_r (I := fun i (u : Int32) => u = Int32.ofNat i ∧ ∀ k, k < i → r k ≠ x) n ⟨rfl, fun k hk => absurd hk (Nat.not_lt_zero k)⟩ (by omega) ?_ ?_
  · rintro rec i u hi ⟨rfl, h0⟩ hrec
    unfold bd_X8_place_2
    simp only [ile_n hi (show n < 2147483648 by omega), aI_e hk hc (show i < N by omega) (show N < 2147483648 by omega), bs, hr i hi, i_succ]
    refine ok.ite (fun c => ?_) (fun c => ?_)
    · refine ok.pure ?_
      have := plN_at (show i < 2147483648 by omega) c h0 (n - (i + 1))
      rw [show i + 1 + (n - (i + 1)) = n by omega] at this
      exact this.symm
    · exact hrec _ ⟨rfl, fun k hk => by
        by_cases e : k = i
        · subst e; exact c
        · exact h0 k (by omega)⟩
  · rintro rec u ⟨rfl, h0⟩
    unfold bd_X8_place_2
    simp only [ile_e]
    exact ok.pure (plN_no h0).symm
theorem m_index {a c N n : Nat} (hk : mK M a = (c, N)) (hc : c = 20 ∨ c = 25) (hn : n ≤ N) (hN : N < 1000000) {r : Nat → Int32} (hr : ∀ i, i < n → mI M a i = r i) (x : Int32) : f_X9_indexOf M a (Int32.ofNat n) x = some (plN r x n) := by
  refine eq_ok ?_
  unfold f_X9_indexOf
  refine it_r (I := fun i (u : Int32) => u = Int32.ofNat i ∧ ∀ k, k < i → r k ≠ x) n ⟨rfl, fun k hk => absurd hk (Nat.not_lt_zero k)⟩ (by omega) ?_ ?_
  · rintro rec i u hi ⟨rfl, h0⟩ hrec
    unfold bd_X9_indexOf_2
    simp only [ile_n hi (show n < 2147483648 by omega), aI_e hk hc (show i < N by omega) (show N < 2147483648 by omega), bs, hr i hi, i_succ]
    refine ok.ite (fun c => ?_) (fun c => ?_)
    · refine ok.pure ?_
      have := plN_at (show i < 2147483648 by omega) c h0 (n - (i + 1))
      rw [show i + 1 + (n - (i + 1)) = n by omega] at this
      exact this.symm
    · exact hrec _ ⟨rfl, fun k hk => by
        by_cases e : k = i
        · subst e; exact c
        · exact h0 k (by omega)⟩
  · rintro rec u ⟨rfl, h0⟩
    unfold bd_X9_indexOf_2
    simp only [ile_e]
    exact ok.pure (plN_no h0).symm
/-! the k-th member of a set -/
noncomputable def eat (set k : Int32) : Int32 := by
  classical exact if h : ∃ p, p < 12 ∧ hs set (Int32.ofNat p) = true ∧ k = Int32.ofNat (ctB set p) then Int32.ofNat (Classical.choose h) else -1
theorem ctB_mono (B : Int32) {p i : Nat} (h : p ≤ i) : ctB B p ≤ ctB B i := by
  induction i with
  | zero =>
    have : p = 0 := by omega
    rw [this]; exact Nat.le_refl _
  | succ i ih =>
    by_cases e : p = i + 1
    · rw [e]; exact Nat.le_refl _
    · exact Nat.le_trans (ih (by omega)) (Nat.le_add_right _ _)
theorem ctB_up (B : Int32) {p i : Nat} (h : p < i) (hb : hs B (Int32.ofNat p) = true) : ctB B p < ctB B i := by
  have h1 := ctB_mono B (show p + 1 ≤ i from h)
  have e2 : ctB B (p + 1) = ctB B p + if hs B (Int32.ofNat p) = true then 1 else 0 := rfl
  rw [if_pos hb] at e2
  omega
theorem ctB_one {B : Int32} {p q : Nat} (hp : hs B (Int32.ofNat p) = true) (hq : hs B (Int32.ofNat q) = true) (h : ctB B p = ctB B q) : p = q := by
  rcases Nat.lt_trichotomy p q with z | z | z
  · have := ctB_up B z hp; omega
  · exact z
  · have := ctB_up B z hq; omega
theorem eat_at {set k : Int32} {p : Nat} (hp : p < 12) (hb : hs set (Int32.ofNat p) = true) (hk : k = Int32.ofNat (ctB set p)) : eat set k = Int32.ofNat p := by
  unfold eat
  have hx : ∃ p, p < 12 ∧ hs set (Int32.ofNat p) = true ∧ k = Int32.ofNat (ctB set p) := ⟨p, hp, hb, hk⟩
  rw [dif_pos hx]
  obtain ⟨a, b, c⟩ := Classical.choose_spec hx
  generalize Classical.choose hx = q at *
  congr 1
  refine ctB_one b hb ?_
  have h1 := ctB_le set q
  have h2 := ctB_le set p
  rw [hk, i_inj (by omega) (by omega)] at c
  exact c.symm
theorem eat_no {set k : Int32} (h : ∀ p, p < 12 → hs set (Int32.ofNat p) = true → k ≠ Int32.ofNat (ctB set p)) : eat set k = -1 := by
  unfold eat
  rw [dif_neg]
  rintro ⟨p, a, b, c⟩
  exact h p a b c
theorem f_eat (M : Mem) (set k : Int32) : f_X8_elementAt M set k = some (eat set k) := by
  refine eq_ok ?_
  unfold f_X8_elementAt
  refine it_r (I := fun i (u : Int32 × Int32) => u.1 = Int32.ofNat (ctB set i) ∧ u.2 = Int32.ofNat i ∧ ∀ p, p < i → hs set (Int32.ofNat p) = true → k ≠ Int32.ofNat (ctB set p)) 12 ⟨rfl, rfl, fun p hp => absurd hp (Nat.not_lt_zero p)⟩ (by omega) ?_ ?_
  · rintro rec i ⟨a, b⟩ hi ⟨rfl, rfl, h0⟩ hrec
    unfold bd_X8_elementAt_4
    have cs : ctB set (i + 1) = ctB set i + if hs set (Int32.ofNat i) = true then 1 else 0 := rfl
    simp only [show (12 : Int32) = Int32.ofNat 12 from rfl, ile_n hi (show 12 < 2147483648 by omega), f_has8, bs, b2i_ite, i_succ]
    by_cases c : hs set (Int32.ofNat i) = true
    · rw [if_pos c] at cs ⊢
      refine ok.ite (fun c2 => ?_) (fun c2 => ?_)
      · exact ok.pure (eat_at hi c c2.symm).symm
      · refine hrec _ ⟨by rw [cs], rfl, fun p hp hb => ?_⟩
        by_cases e : p = i
        · subst e; exact fun z => c2 z.symm
        · exact h0 p (by omega) hb
    · rw [if_neg c] at cs ⊢
      refine hrec _ ⟨by
        show Int32.ofNat (ctB set i) = _
        rw [cs, Nat.add_zero], rfl, fun p hp hb => ?_⟩
      by_cases e : p = i
      · subst e; exact absurd hb c
      · exact h0 p (by omega) hb
  · rintro rec ⟨a, b⟩ ⟨rfl, rfl, h0⟩
    unfold bd_X8_elementAt_4
    simp only [show (12 : Int32) = Int32.ofNat 12 from rfl, ile_e]
    exact ok.pure (eat_no h0).symm
end
/-! ===== counting bits ===== -/
section
theorem land_sp (a b y z : Nat) (ha : a < 256) (hb : b < 256) : (a + 256 * y) &&& (b + 256 * z) = (a &&& b) + 256 * (y &&& z) := by
  have hab : a &&& b < 256 := Nat.lt_of_le_of_lt Nat.and_le_left ha
  refine Nat.eq_of_testBit_eq fun i => ?_
  have e1 : a + 256 * y = 2 ^ 8 * y + a := by omega
  have e2 : b + 256 * z = 2 ^ 8 * z + b := by omega
  have e3 : (a &&& b) + 256 * (y &&& z) = 2 ^ 8 * (y &&& z) + (a &&& b) := by omega
  rw [e1, e2, e3, Nat.testBit_and, Nat.testBit_two_pow_mul_add _ (by omega), Nat.testBit_two_pow_mul_add _ (by omega), Nat.testBit_two_pow_mul_add _ (by omega)]
  by_cases h : i < 8
  · simp [h]
  · simp [h]
theorem land3 (k a b c : Nat) (ha : a < 256) (hb : b < 256) (hk : k < 256) : (a + 256 * (b + 256 * c)) &&& (k + 256 * (k + 256 * (k + 256 * k))) = (a &&& k) + 256 * ((b &&& k) + 256 * (c &&& (k + 256 * k))) := by
  rw [land_sp _ _ _ _ ha hk, land_sp _ _ _ _ hb hk]
def p1 (a : Nat) : Nat := a - ((a / 2) &&& 85)
def p2 (a : Nat) : Nat := (a &&& 51) + ((a / 4) &&& 51)
def p3 (a : Nat) : Nat := (a + a / 16) &&& 15
def pcB (a : Nat) : Nat := sN 8 fun i => if a.testBit i = true then 1 else 0
theorem pc_byte : ∀ a, a < 256 → p3 (p2 (p1 a)) = pcB a ∧ p1 a < 256 ∧ p2 (p1 a) ≤ 68 ∧ p2 (p1 a) % 16 ≤ 4 ∧ pcB a ≤ 8 ∧ ((a / 2) &&& 85) ≤ a := by decide +kernel
theorem pc_m1 : ∀ a, a < 256 → ∀ b, b < 2 → ((a / 2 + 128 * b) &&& 85) = ((a / 2) &&& 85) := by decide +kernel
theorem pc_m2 : ∀ a, a < 256 → ∀ b, b < 4 → ((a / 4 + 64 * b) &&& 51) = ((a / 4) &&& 51) := by decide +kernel
theorem pc_m3 : ∀ a, a < 69 → ∀ b, b < 5 → ((a + a / 16 + 16 * b) &&& 15) = p3 a := by decide +kernel
theorem pc_k1 : ∀ c, c < 256 → c &&& (85 + 256 * 85) = c &&& 85 := by decide +kernel
theorem pc_k2 : ∀ c, c < 256 → c &&& (51 + 256 * 51) = c &&& 51 := by decide +kernel
theorem pc_k3 : ∀ c, c < 256 → c &&& (15 + 256 * 15) = c &&& 15 := by decide +kernel
theorem pc3 {a b c : Nat} (ha : a < 256) (hb : b < 256) (hc : c < 256) : ∃ n1 n2 n3 n4 n5, n1 = (a + 256 * (b + 256 * c)) - (((a + 256 * (b + 256 * c)) / 2) &&& 1431655765) ∧ ((a + 256 * (b + 256 * c)) / 2) &&& 1431655765 ≤ a + 256 * (b + 256 * c) ∧ n2 = (n1 &&& 858993459) + ((n1 / 4) &&& 858993459) ∧ n3 = (n2 + n2 / 16) &&& 252645135 ∧ n4 = n3 + n3 / 256 ∧ n5 = n4 + n4 / 65536 ∧ n1 < 2 ^ 24 ∧ n2 < 2 ^ 24 ∧ n3 < 2 ^ 24 ∧ n4 < 2 ^ 25 ∧ n5 < 2 ^ 26 ∧ n5 % 64 = pcB a + pcB b + pcB c := by
  obtain ⟨a1, a2, a3, a4, a5, a6⟩ := pc_byte a ha
  obtain ⟨b1, b2, b3, b4, b5, b6⟩ := pc_byte b hb
  obtain ⟨c1, c2, c3, c4, c5, c6⟩ := pc_byte c hc
  have k1 : (1431655765 : Nat) = 85 + 256 * (85 + 256 * (85 + 256 * 85)) := by decide
  have k2 : (858993459 : Nat) = 51 + 256 * (51 + 256 * (51 + 256 * 51)) := by decide
  have k3 : (252645135 : Nat) = 15 + 256 * (15 + 256 * (15 + 256 * 15)) := by decide
  have s1 : ((a + 256 * (b + 256 * c)) / 2) &&& 1431655765 = ((a / 2) &&& 85) + 256 * (((b / 2) &&& 85) + 256 * ((c / 2) &&& 85)) := by
    rw [k1, show (a + 256 * (b + 256 * c)) / 2 = (a / 2 + 128 * (b % 2)) + 256 * ((b / 2 + 128 * (c % 2)) + 256 * (c / 2)) by omega, land3 85 _ _ _ (by omega) (by omega) (by omega), pc_m1 a ha _ (by omega), pc_m1 b hb _ (by omega), pc_k1 _ (by omega)]
  have e1 : (a + 256 * (b + 256 * c)) - (((a + 256 * (b + 256 * c)) / 2) &&& 1431655765) = p1 a + 256 * (p1 b + 256 * p1 c) := by
    rw [s1]
    unfold p1
    omega
  have e2 : ((p1 a + 256 * (p1 b + 256 * p1 c)) &&& 858993459) + (((p1 a + 256 * (p1 b + 256 * p1 c)) / 4) &&& 858993459) = p2 (p1 a) + 256 * (p2 (p1 b) + 256 * p2 (p1 c)) := by
    rw [k2, show (p1 a + 256 * (p1 b + 256 * p1 c)) / 4 = (p1 a / 4 + 64 * (p1 b % 4)) + 256 * ((p1 b / 4 + 64 * (p1 c % 4)) + 256 * (p1 c / 4)) by omega, land3 51 _ _ _ a2 b2 (by omega), land3 51 _ _ _ (by omega) (by omega) (by omega), pc_m2 _ a2 _ (by omega), pc_m2 _ b2 _ (by omega), pc_k2 _ c2, pc_k2 _ (by omega)]
    unfold p2
    omega
  have e3 : ((p2 (p1 a) + 256 * (p2 (p1 b) + 256 * p2 (p1 c))) + (p2 (p1 a) + 256 * (p2 (p1 b) + 256 * p2 (p1 c))) / 16) &&& 252645135 = pcB a + 256 * (pcB b + 256 * pcB c) := by
    rw [k3, show (p2 (p1 a) + 256 * (p2 (p1 b) + 256 * p2 (p1 c))) + (p2 (p1 a) + 256 * (p2 (p1 b) + 256 * p2 (p1 c))) / 16 = (p2 (p1 a) + p2 (p1 a) / 16 + 16 * (p2 (p1 b) % 16)) + 256 * ((p2 (p1 b) + p2 (p1 b) / 16 + 16 * (p2 (p1 c) % 16)) + 256 * (p2 (p1 c) + p2 (p1 c) / 16)) by omega, land3 15 _ _ _ (by omega) (by omega) (by omega), pc_m3 _ (by omega) _ (by omega), pc_m3 _ (by omega) _ (by omega), pc_k3 _ (by omega), ← a1, ← b1, ← c1]
    rfl
  refine ⟨_, _, _, _, _, rfl, ?_, rfl, rfl, rfl, rfl, ?_, ?_, ?_, ?_, ?_, ?_⟩
  · rw [s1]; omega
  · rw [e1]; omega
  · rw [e1, e2]; omega
  · rw [e1, e2, e3]; omega
  · rw [e1, e2, e3]; omega
  · rw [e1, e2, e3]; omega
  · rw [e1, e2, e3]
    generalize pcB a = A at *
    generalize pcB b = B at *
    generalize pcB c = C at *
    have v : (A + 256 * (B + 256 * C)) / 256 = B + 256 * C := by omega
    rw [v]
    have w : (A + 256 * (B + 256 * C) + (B + 256 * C)) / 65536 = C := by omega
    rw [w]
    omega
theorem ctB_N {n k : Nat} (hk : k ≤ 32) : ctB (Int32.ofNat n) k = sN k fun i => if n.testBit i = true then 1 else 0 := sN_c fun i hi => by rw [hs_N _ (by omega)]
theorem sN_app (f : Nat → Nat) (a b : Nat) : sN (a + b) f = sN a f + sN b fun i => f (a + i) := by
  induction b with
  | zero => rfl
  | succ b ih => rw [← Nat.add_assoc, sN_s, ih, sN_s, Nat.add_assoc]
theorem f_bits (M : Mem) {n : Nat} (hn : n < 2 ^ 24) : f_J6_bitCount_0f7a4 M (Int32.ofNat n) = some (Int32.ofNat (ctB (Int32.ofNat n) 24)) := by
  have en : n = n % 256 + 256 * (n / 256 % 256 + 256 * (n / 65536)) := by omega
  obtain ⟨n1, n2, n3, n4, n5, q1, q0, q2, q3, q4, q5, b1, b2, b3, b4, b5, q6⟩ := pc3 (a := n % 256) (b := n / 256 % 256) (c := n / 65536) (by omega) (by omega) (by omega)
  rw [← en] at q1 q0
  have us : ∀ (z k : Nat) (s : Int32), z < 2 ^ 26 → ((s.toUInt32 &&& Int32.toUInt32 31).toBitVec % 32).toNat = k → ((Int32.ofNat z).toUInt32 >>> (s.toUInt32 &&& Int32.toUInt32 31)).toInt32 = Int32.ofNat (z / 2 ^ k) := fun z k s hz hs => pk_ushrN (n := z) (by omega) s k hs
  have an : ∀ x y : Nat, Int32.ofNat x &&& Int32.ofNat y = Int32.ofNat (x &&& y) := fun x y => by
    refine hs_ext fun i hi => ?_
    rw [hs_and hi, hs_N _ hi, hs_N _ hi, hs_N _ hi, Nat.testBit_and]
  unfold f_J6_bitCount_0f7a4
  simp only [ltq]
  rw [us n 1 1 (by omega) (by decide), show (1431655765 : Int32) = Int32.ofNat 1431655765 from rfl, an, Nat.pow_one, i_sub q0, ← q1]
  rw [us n1 2 2 (by omega) (by decide), show (858993459 : Int32) = Int32.ofNat 858993459 from rfl, an, an, i_add, show 2 ^ 2 = 4 from rfl, ← q2]
  rw [us n2 4 4 (by omega) (by decide), i_add, show (252645135 : Int32) = Int32.ofNat 252645135 from rfl, an, show 2 ^ 4 = 16 from rfl, ← q3]
  rw [us n3 8 8 (by omega) (by decide), i_add, show 2 ^ 8 = 256 from rfl, ← q4]
  rw [us n4 16 16 (by omega) (by decide), i_add, show 2 ^ 16 = 65536 from rfl, ← q5]
  rw [show (63 : Int32) = Int32.ofNat 63 from rfl, an, show (63 : Nat) = 2 ^ 6 - 1 from rfl, Nat.and_two_pow_sub_one_eq_mod, show 2 ^ 6 = 64 from rfl, q6, ctB_N (by omega)]
  congr 2
  rw [show (24 : Nat) = 8 + (8 + 8) from rfl, sN_app, sN_app, Nat.add_assoc]
  unfold pcB
  congr 1
  · exact sN_c fun i hi => by rw [show (256 : Nat) = 2 ^ 8 from rfl, Nat.testBit_mod_two_pow, decide_eq_true hi, Bool.true_and]
  · congr 1
    · exact sN_c fun i hi => by rw [show n / 256 % 256 = n / 2 ^ 8 % 2 ^ 8 from rfl, Nat.testBit_mod_two_pow, decide_eq_true hi, Bool.true_and, Nat.testBit_div_two_pow, Nat.add_comm]
    · exact sN_c fun i hi => by rw [show (65536 : Nat) = 2 ^ 16 from rfl, Nat.testBit_div_two_pow, show 8 + (8 + i) = i + 16 by omega]
end
