/-! ===== what is known of the rounds that count ===== -/
section
variable {D : Bl}
/-- who isn't a member holds nothing -/
def Nm (D : Bl) (s : Rst) : Prop := ∀ v, v < cn D 2 → ∀ d, d < cn D 0 → ¬ hs (D 7 v) (Int32.ofNat d) = true → sH s v d = 0
theorem rk_Nm (hG : Gd D) {r : Nat} (hr : r ≤ 60000) (k : Nat) : Nm D (rk D (Int32.ofNat r) k) := by
  have l0 := hG.n.2.1
  have l1 := hG.n.2.2.1
  induction k with
  | zero =>
    intro v hv d hd hn
    show pu D (Int32.ofNat r) v d = 0
    unfold pu
    rw [if_neg hn]
  | succ k ih =>
    rw [rk_s]
    have hI := rk_Iv hG hr k
    unfold stp
    rcases nxp_ok hG hI with h | ⟨p, q, hp, h, h2, hQ, hn⟩
    · rw [if_pos (by rw [h]; exact m1_neg)]; exact ih
    · rw [h, if_neg (o_nneg (by omega)), ix_o (by omega), h2]
      intro v hv d hd hm
      have z := ih v hv d hd hm
      obtain ⟨a, ha, e⟩ := amt_N hI.1 hG hp hQ hv
      have h1 := (amn_N hI.1 hv hG.n p).1
      obtain ⟨y, hy, -, e2⟩ := pt_N (a := a) (by omega) (fun d hd => (hI.1 v hv d hd).1) (hG.2.2.1 p hp).2 hd (by omega)
      rw [z] at hy
      have y0 : y = 0 := Nat.le_zero.mp hy
      show sH (rk D (Int32.ofNat r) k) v d - ptd D (sH (rk D (Int32.ofNat r) k)) p (Int32.ofNat q) v d = 0
      unfold ptd
      rw [e, e2, z, y0]
      rfl
/-- the order of funding and the prices kept -/
theorem pmk_ok (hG : Gd D) {r : Nat} (hr : r ≤ 60000) : ∀ K, K ≤ rt D (Int32.ofNat r) → ∀ p, p < cn D 1 → (¬ hs (sh_ (rk D (Int32.ofNat r) K)) (Int32.ofNat p) = true → pmk D (Int32.ofNat r) K p = -1) ∧ (hs (sh_ (rk D (Int32.ofNat r) K)) (Int32.ofNat p) = true → ∃ q, q ≤ 100000 ∧ pmk D (Int32.ofNat r) K p = Int32.ofNat q) ∧ ∀ k, k < K → sQ (rk D (Int32.ofNat r) K) k = Int32.ofNat p → pmk D (Int32.ofNat r) K p = pri D (rk D (Int32.ofNat r) k) p := by
  have l1 := hG.n.2.2.1
  obtain ⟨t1, t2, t3, t4, t5⟩ := rt_ok hG hr
  intro K
  induction K with
  | zero =>
    intro _ p hp
    refine ⟨fun _ => rfl, fun z => ?_, fun k hk => absurd hk (Nat.not_lt_zero k)⟩
    have z' : hs 0 (Int32.ofNat p) = true := z
    rw [hs_0 (by omega)] at z'
    exact Bool.noConfusion z'
  | succ K ih =>
    intro hK p hp
    obtain ⟨i1, i2, i3⟩ := ih (by omega) p hp
    have hI := rk_Iv hG hr K
    have hns := t2 K (by omega)
    rcases nxp_ok hG hI with h | ⟨o, q, ho, h, h2, hQ, hn⟩
    · exact absurd (by rw [h]; exact m1_neg) hns
    · have hst : rk D (Int32.ofNat r) (K + 1) = fu D (rk D (Int32.ofNat r) K) o (Int32.ofNat q) := by
        rw [rk_s]
        unfold stp
        rw [if_neg hns, h, ix_o (by omega), h2]
      have hpm : pmk D (Int32.ofNat r) (K + 1) p = if p = o then Int32.ofNat q else pmk D (Int32.ofNat r) K p := by
        rw [pmk_s, if_neg hns, h, ix_o (by omega), h2]
      have hh : hs (sh_ (rk D (Int32.ofNat r) (K + 1))) (Int32.ofNat p) = (hs (sh_ (rk D (Int32.ofNat r) K)) (Int32.ofNat p) || decide (p = o)) := by
        rw [hst]
        exact hs_ad (by omega) (by omega)
      rw [hpm, hh]
      refine ⟨fun z => ?_, fun z => ?_, fun k hk e => ?_⟩
      · rw [Bool.or_eq_true, decide_eq_true_eq] at z
        rw [if_neg (fun y => z (Or.inr y))]
        exact i1 (fun y => z (Or.inl y))
      · rw [Bool.or_eq_true, decide_eq_true_eq] at z
        by_cases c : p = o
        · rw [if_pos c]; exact ⟨q, hQ.2.1, rfl⟩
        · rw [if_neg c]
          rcases z with z | z
          · exact i2 z
          · exact absurd z c
      · rw [hst] at e
        have e' : (if k = sc (rk D (Int32.ofNat r) K) then Int32.ofNat o else sQ (rk D (Int32.ofNat r) K) k) = Int32.ofNat p := e
        rw [t4 K (by omega)] at e'
        by_cases c : k = K
        · rw [if_pos c, i_inj (by omega) (by omega)] at e'
          subst e'
          rw [if_pos rfl, c]
          exact h2.symm
        · rw [if_neg c] at e'
          have hne : p ≠ o := fun y => by
            subst y
            have hkk : k < sc (rk D (Int32.ofNat r) K) := by rw [t4 K (by omega)]; omega
            obtain ⟨o2, q1, q2, q3⟩ := hI.2.2.2.1 k hkk
            rw [e', i_inj (by omega) (by omega)] at q2
            subst q2
            exact hn q3
          rw [if_neg hne]
          exact i3 k (by omega) e'
/-- the rounds that count, and their number -/
theorem eqs_ok (hG : Gd D) : Iv D (eqs D) ∧ Nm D (eqs D) ∧ sc (eqs D) = rt D (rsr D (eqk D)) ∧ eqs D = rk D (rsr D (eqk D)) (rt D (rsr D (eqk D))) ∧ sc (eqs D) ≤ cn D 1 := by
  obtain ⟨b1, -⟩ := step_bd hG (eqk_le D)
  obtain ⟨t1, t2, t3, t4, t5⟩ := rt_ok hG b1
  have hI := rk_Iv hG b1 (rt D (Int32.ofNat (eqk D * nt (D 9 2))))
  exact ⟨hI, rk_Nm hG b1 _, t4 _ (Nat.le_refl _), rfl, Iv_sc hI⟩
theorem epm_ok (hG : Gd D) {p : Nat} (hp : p < cn D 1) : (¬ hs (sh_ (eqs D)) (Int32.ofNat p) = true → epm D p = -1) ∧ (hs (sh_ (eqs D)) (Int32.ofNat p) = true → ∃ q, q ≤ 100000 ∧ epm D p = Int32.ofNat q) ∧ ∀ k, k < sc (eqs D) → sQ (eqs D) k = Int32.ofNat p → epm D p = pri D (rk D (rsr D (eqk D)) k) p := by
  have l1 := hG.n.2.2.1
  obtain ⟨b1, -⟩ := step_bd hG (eqk_le D)
  obtain ⟨t1, t2, t3, t4, t5⟩ := rt_ok hG b1
  obtain ⟨-, -, e3, e4, -⟩ := eqs_ok hG
  have key := pmk_ok hG b1 _ (Nat.le_refl _) p hp
  have e : epm D p = pmk D (rsr D (eqk D)) (rt D (rsr D (eqk D))) p := by
    have := pmk_stop hG b1 t3 (12 - rt D (Int32.ofNat (eqk D * nt (D 9 2))))
    rw [show rt D (Int32.ofNat (eqk D * nt (D 9 2))) + (12 - rt D (Int32.ofNat (eqk D * nt (D 9 2)))) = 12 by omega] at this
    exact congrFun this p
  rw [e, e3, e4]
  exact key
/-- the round in which a project is funded; -1: none -/
noncomputable def wf (D : Bl) (p : Nat) : Int32 := plN (sQ (eqs D)) (Int32.ofNat p) (sc (eqs D))
theorem wf_ok (hG : Gd D) {p : Nat} (hp : p < cn D 1) : (wf D p = -1 ∧ epm D p = -1) ∨ ∃ k, k < sc (eqs D) ∧ wf D p = Int32.ofNat k ∧ epm D p = pri D (rk D (rsr D (eqk D)) k) p ∧ sQ (eqs D) k = Int32.ofNat p ∧ (∀ j, j < k → sQ (eqs D) j ≠ Int32.ofNat p) ∧ ∃ q, q ≤ 100000 ∧ epm D p = Int32.ofNat q := by
  have l1 := hG.n.2.2.1
  obtain ⟨hI, -, -, -, hc⟩ := eqs_ok hG
  obtain ⟨e1, e2, e3⟩ := epm_ok hG hp
  by_cases c : hs (sh_ (eqs D)) (Int32.ofNat p) = true
  · right
    obtain ⟨k, k1, k2⟩ := hI.2.2.2.2 p hp c
    have first : ∃ k, k < sc (eqs D) ∧ sQ (eqs D) k = Int32.ofNat p ∧ ∀ j, j < k → sQ (eqs D) j ≠ Int32.ofNat p := by
      have : ∀ n, (∃ k, k ≤ n ∧ k < sc (eqs D) ∧ sQ (eqs D) k = Int32.ofNat p) → ∃ k, k < sc (eqs D) ∧ sQ (eqs D) k = Int32.ofNat p ∧ ∀ j, j < k → sQ (eqs D) j ≠ Int32.ofNat p := by
        intro n
        induction n with
        | zero =>
          rintro ⟨k, a, b, c⟩
          exact ⟨k, b, c, fun j hj => by omega⟩
        | succ n ih =>
          rintro ⟨k, a, b, c⟩
          by_cases d : ∃ k, k ≤ n ∧ k < sc (eqs D) ∧ sQ (eqs D) k = Int32.ofNat p
          · exact ih d
          · exact ⟨k, b, c, fun j hj z => d ⟨j, by omega, by omega, z⟩⟩
      exact this k ⟨k, Nat.le_refl _, k1, k2⟩
    obtain ⟨k, k1, k2, k3⟩ := first
    refine ⟨k, k1, ?_, e3 k k1 k2, k2, k3, e2 c⟩
    unfold wf
    have := plN_at (show k < 2147483648 by omega) k2 k3 (sc (eqs D) - (k + 1))
    rw [show k + 1 + (sc (eqs D) - (k + 1)) = sc (eqs D) by omega] at this
    exact this
  · left
    refine ⟨plN_no fun k hk z => ?_, e1 c⟩
    obtain ⟨o, o1, o2, o3⟩ := hI.2.2.2.1 k hk
    rw [z, i_inj (by omega) (by omega)] at o2
    subst o2
    exact c o3
/-- the sets that rules fund are sets of projects -/
theorem tk_hi (hD : Cn D) (w : Int32) (s : Gst) (h0 : ∀ i, i < 32 → hs (gh s) (Int32.ofNat i) = true → i < cn D 1) (n : Nat) : ∀ i, i < 32 → hs (gh (tk D w s n).2) (Int32.ofNat i) = true → i < cn D 1 := by
  have l1 := hD.2.2.1
  induction n with
  | zero => exact h0
  | succ n ih =>
    rw [tk_s]
    unfold tkS
    rcases fst_in hD (tk D w s n).1 with e | ⟨p, hp, e, -⟩
    · rw [if_pos (by rw [e]; exact m1_neg)]; exact ih
    · rw [e, if_neg (o_nneg (by omega)), ix_o (by omega)]
      dsimp only
      split
      · exact ih
      · intro i hi z
        have z' : hs (gh (tk D w s n).2 ||| bt p) (Int32.ofNat i) = true := z
        rw [hs_ad (by omega) hi, Bool.or_eq_true, decide_eq_true_eq] at z'
        rcases z' with z' | z'
        · exact ih i hi z'
        · omega
theorem g0_hi (L : Nat → Int32) : ∀ i, i < 32 → hs (gh (g0 L)) (Int32.ofNat i) = true → i < cn D 1 := fun i hi z => by
  have z' : hs 0 (Int32.ofNat i) = true := z
  rw [hs_0 hi] at z'
  exact Bool.noConfusion z'
theorem SS_hi (hG : Gd D) (r : Int32) : ∀ i, i < 32 → hs (SS D r) (Int32.ofNat i) = true → i < cn D 1 := by
  have l1 := hG.n.2.2.1
  unfold SS
  split
  · intro i hi z
    rw [hs_or hi, Bool.or_eq_true] at z
    rcases z with z | z
    · exact (eqs_ok hG).1.2.2.1 i hi z
    · unfold cmp at z
      split at z
      · exact tk_hi hG.n _ _ (g0_hi _) _ i hi z
      · exact g0_hi _ i hi z
  · split
    · exact tk_hi hG.n _ _ (g0_hi _) _
    · intro i hi z
      obtain ⟨t, t1, t2⟩ := bsN_in (D := D) 0 (2 ^ cn D 1)
      have e : bst D 0 = Int32.ofNat t := t2
      have pos1 : 0 < 2 ^ cn D 1 := Nat.two_pow_pos _
      rw [e, hs_N _ hi] at z
      rcases Nat.lt_or_ge i (cn D 1) with q | q
      · exact q
      · have := p2_le q
        rw [Nat.testBit_lt_two_pow (by omega)] at z
        exact Bool.noConfusion z
theorem SS_N (hG : Gd D) (r : Int32) : ∃ n, n < 2 ^ cn D 1 ∧ SS D r = Int32.ofNat n := by
  have l1 := hG.n.2.2.1
  refine set_N (by omega) fun i h1 h2 => ?_
  cases e : hs (SS D r) (Int32.ofNat i)
  · rfl
  · have := SS_hi hG r i h2 e; omega
/-- the first one with the greatest number -/
def amx (g : Nat → Int32) (n : Nat) : Int32 := fo (fun v f => if f < 0 then Int32.ofNat v else if g (ix f) < g v then Int32.ofNat v else f) n (-1)
theorem amx_s (g : Nat → Int32) (n : Nat) : amx g (n + 1) = if amx g n < 0 then Int32.ofNat n else if g (ix (amx g n)) < g n then Int32.ofNat n else amx g n := rfl
theorem amx_in (g : Nat → Int32) (n : Nat) : amx g n = -1 ∨ ∃ q, q < n ∧ amx g n = Int32.ofNat q := by
  induction n with
  | zero => exact Or.inl rfl
  | succ n ih =>
    rw [amx_s]
    have old : amx g n = -1 ∨ ∃ q, q < n + 1 ∧ amx g n = Int32.ofNat q := ih.imp id (fun ⟨q, a, b⟩ => ⟨q, by omega, b⟩)
    split
    · exact Or.inr ⟨n, by omega, rfl⟩
    · split
      · exact Or.inr ⟨n, by omega, rfl⟩
      · exact old
theorem amx_c {g g' : Nat → Int32} {n : Nat} (hn : n < 1000000) (h : ∀ i, i < n → g i = g' i) : amx g n = amx g' n := by
  induction n with
  | zero => unfold amx; rw [fo_0, fo_0]
  | succ n ih =>
    have ih := ih (by omega) (fun i hi => h i (by omega))
    rw [amx_s, amx_s, ← ih, ← h n (by omega)]
    rcases amx_in g n with e | ⟨q, hq, e⟩
    · rw [e, if_pos m1_neg, if_pos m1_neg]
    · rw [e, if_neg (o_nneg (by omega)), if_neg (o_nneg (by omega)), ix_o (by omega), h q (by omega)]
end
