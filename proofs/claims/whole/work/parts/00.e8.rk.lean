/-! ===== the rounds one after the other ===== -/
section
def ctB (ch : Int32) (n : Nat) : Nat := sN n fun i => if hs ch (Int32.ofNat i) = true then 1 else 0
theorem ctB_le (ch : Int32) (n : Nat) : ctB ch n ≤ n := by
  have := sN_bd (n := n) (f := fun i => if hs ch (Int32.ofNat i) = true then 1 else 0) (c := 1) (fun i _ => by split <;> omega)
  unfold ctB
  omega
theorem ctB_lt {ch : Int32} {n p : Nat} (hp : p < n) (h : ¬ hs ch (Int32.ofNat p) = true) : ctB ch n < n := by
  unfold ctB
  induction n with
  | zero => omega
  | succ n ih =>
    rw [sN_s]
    by_cases e : p = n
    · subst e
      rw [if_neg h]
      have := ctB_le ch p
      unfold ctB at this
      omega
    · have := ih (by omega)
      split <;> omega
theorem ctB_or {ch : Int32} {n p : Nat} (hn : n ≤ 32) (hp : p < 32) (h : ¬ hs ch (Int32.ofNat p) = true) : ctB (ch ||| bt p) n = ctB ch n + if p < n then 1 else 0 := by
  unfold ctB
  induction n with
  | zero => rfl
  | succ n ih =>
    rw [sN_s, sN_s, ih (by omega), hs_or (by omega)]
    unfold bt
    rw [hs_one hp (by omega)]
    by_cases e : n = p
    · subst e
      rw [if_neg (show ¬ n < n by omega), if_neg h, if_pos (show n < n + 1 by omega)]
      simp
    · by_cases c : p < n
      · rw [if_pos c, if_pos (show p < n + 1 by omega)]
        simp [e]; omega
      · rw [if_neg c, if_neg (show ¬ p < n + 1 by omega)]
        simp [e]
/-- which project is next; -1: none -/
noncomputable def nxp (D : Bl) (s : Rst) : Int32 := chs D (sH s) (sh_ s)
noncomputable def pri (D : Bl) (s : Rst) (p : Nat) : Int32 := prc D (sH s) (sh_ s) p
noncomputable def stp (D : Bl) (s : Rst) : Rst := if nxp D s < 0 then s else fu D s (ix (nxp D s)) (pri D s (ix (nxp D s)))
def s0 (D : Bl) (raise : Int32) : Rst := (pu D raise, fun _ _ => 0, fun _ _ => 0, fun _ => 0, 0, 0)
noncomputable def rk (D : Bl) (raise : Int32) (k : Nat) : Rst := fo (fun _ s => stp D s) k (s0 D raise)
theorem rk_s (D : Bl) (raise : Int32) (k : Nat) : rk D raise (k + 1) = stp D (rk D raise k) := rfl
/-- what holds of all states of the rounds -/
def Iv (D : Bl) (s : Rst) : Prop := HB D (sH s) ∧ sc s = ctB (sh_ s) (cn D 1) ∧ (∀ i, i < 32 → hs (sh_ s) (Int32.ofNat i) = true → i < cn D 1) ∧ (∀ k, k < sc s → ∃ p, p < cn D 1 ∧ sQ s k = Int32.ofNat p ∧ hs (sh_ s) (Int32.ofNat p) = true) ∧ (∀ p, p < cn D 1 → hs (sh_ s) (Int32.ofNat p) = true → ∃ k, k < sc s ∧ sQ s k = Int32.ofNat p)
variable {D : Bl}
theorem nxp_ok {s : Rst} (hG : Gd D) (hI : Iv D s) : nxp D s = -1 ∨ ∃ p q, p < cn D 1 ∧ nxp D s = Int32.ofNat p ∧ pri D s p = Int32.ofNat q ∧ OkQ D (sH s) p q ∧ ¬ hs (sh_ s) (Int32.ofNat p) = true := by
  rcases chN_in (D := D) (H := sH s) (ch := sh_ s) (cn D 1) with h | ⟨p, hp, h, h2⟩
  · exact Or.inl h
  · right
    have h3 : ¬ hs (sh_ s) (Int32.ofNat p) = true := fun z => by
      unfold prc at h2
      rw [if_pos z] at h2
      exact h2 rfl
    have h4 : D 4 p ≤ allM D (sH s) p := by
      unfold prc pr at h2
      rw [if_neg h3] at h2
      by_cases z : D 4 p ≤ allM D (sH s) p
      · exact z
      · rw [if_neg z] at h2; exact absurd rfl h2
    obtain ⟨q, q1, q2, q3, q4, -⟩ := pr_m1 hI.1 hG hp h4
    refine ⟨p, q, hp, h, ?_, ⟨q2, q1, q4⟩, h3⟩
    unfold pri prc
    rw [if_neg h3]
    exact q3
theorem Iv_sc {s : Rst} (hI : Iv D s) : sc s ≤ cn D 1 := by
  rw [hI.2.1]
  exact ctB_le _ _
theorem Iv_fu {s : Rst} (hG : Gd D) (hI : Iv D s) {p q : Nat} (hp : p < cn D 1) (hQ : OkQ D (sH s) p q) (hn : ¬ hs (sh_ s) (Int32.ofNat p) = true) : Iv D (fu D s p (Int32.ofNat q)) ∧ sc (fu D s p (Int32.ofNat q)) = sc s + 1 ∧ sc s < cn D 1 := by
  have l1 := hG.n.2.2.1
  obtain ⟨i1, i2, i3, i4, i5⟩ := hI
  have hh : ∀ i, i < 32 → hs (sh_ (fu D s p (Int32.ofNat q))) (Int32.ofNat i) = (hs (sh_ s) (Int32.ofNat i) || decide (i = p)) := fun i hi => by
    show hs (sh_ s ||| bt p) _ = _
    rw [hs_or hi]
    unfold bt
    rw [hs_one (by omega) hi]
  refine ⟨⟨fu_HB i1 hG hp hQ, ?_, fun i hi h => ?_, fun k hk => ?_, fun o ho h => ?_⟩, rfl, ?_⟩
  · show sc s + 1 = ctB (sh_ s ||| bt p) (cn D 1)
    rw [ctB_or (by omega) (by omega) hn, if_pos hp, i2]
  · rw [hh i hi, Bool.or_eq_true, decide_eq_true_eq] at h
    rcases h with h | h
    · exact i3 i hi h
    · omega
  · have hk' : k < sc s + 1 := hk
    show ∃ o, o < cn D 1 ∧ (if k = sc s then Int32.ofNat p else sQ s k) = Int32.ofNat o ∧ _
    by_cases e : k = sc s
    · exact ⟨p, hp, by rw [if_pos e], by rw [hh p (by omega)]; simp⟩
    · obtain ⟨o, o1, o2, o3⟩ := i4 k (by omega)
      exact ⟨o, o1, by rw [if_neg e]; exact o2, by rw [hh o (by omega), o3]; rfl⟩
  · rw [hh o (by omega), Bool.or_eq_true, decide_eq_true_eq] at h
    show ∃ k, k < sc s + 1 ∧ (if k = sc s then Int32.ofNat p else sQ s k) = Int32.ofNat o
    rcases h with h | h
    · obtain ⟨k, k1, k2⟩ := i5 o ho h
      exact ⟨k, by omega, by rw [if_neg (by omega)]; exact k2⟩
    · exact ⟨sc s, by omega, by rw [if_pos rfl, h]⟩
  · rw [i2]
    exact ctB_lt hp hn
theorem Iv_0 (hG : Gd D) {k : Nat} (hk : k ≤ 60000) : Iv D (s0 D (Int32.ofNat k)) := by
  refine ⟨pu_HB hG hk, ?_, fun i hi h => ?_, fun k hk => absurd hk (Nat.not_lt_zero k), fun p hp h => ?_⟩
  · have : ctB 0 (cn D 1) = 0 := sN_0 fun i hi => by
      have := hG.n.2.2.1
      rw [hs_0 (by omega)]; rfl
    exact this.symm
  · have : hs 0 (Int32.ofNat i) = true := h
    rw [hs_0 hi] at this
    exact Bool.noConfusion this
  · have l1 := hG.n.2.2.1
    have : hs 0 (Int32.ofNat p) = true := h
    rw [hs_0 (by omega)] at this
    exact Bool.noConfusion this
theorem Iv_stp {s : Rst} (hG : Gd D) (hI : Iv D s) : Iv D (stp D s) ∧ (nxp D s < 0 → stp D s = s) ∧ (¬ nxp D s < 0 → sc (stp D s) = sc s + 1 ∧ sc s < cn D 1) := by
  have l1 := hG.n.2.2.1
  unfold stp
  rcases nxp_ok hG hI with h | ⟨p, q, hp, h, h2, hQ, hn⟩
  · rw [if_pos (by rw [h]; exact m1_neg)]
    exact ⟨hI, fun _ => rfl, fun z => absurd (by rw [h]; exact m1_neg) z⟩
  · have e : ¬ nxp D s < 0 := by rw [h]; exact o_nneg (by omega)
    obtain ⟨a, b, c⟩ := Iv_fu hG hI hp hQ hn
    rw [if_neg e, h, ix_o (by omega), h2]
    exact ⟨a, fun z => absurd z (o_nneg (by omega)), fun _ => ⟨b, c⟩⟩
theorem rk_Iv (hG : Gd D) {r : Nat} (hr : r ≤ 60000) (k : Nat) : Iv D (rk D (Int32.ofNat r) k) := by
  induction k with
  | zero => exact Iv_0 hG hr
  | succ k ih => rw [rk_s]; exact (Iv_stp hG ih).1
theorem rk_stop (hG : Gd D) {r : Nat} (hr : r ≤ 60000) {k : Nat} (h : nxp D (rk D (Int32.ofNat r) k) < 0) (j : Nat) : rk D (Int32.ofNat r) (k + j) = rk D (Int32.ofNat r) k := by
  induction j with
  | zero => rfl
  | succ j ih => rw [← Nat.add_assoc, rk_s, ih]; exact (Iv_stp hG (rk_Iv hG hr k)).2.1 h
theorem rk_sc (hG : Gd D) {r : Nat} (hr : r ≤ 60000) {k : Nat} (h : ∀ j, j < k → ¬ nxp D (rk D (Int32.ofNat r) j) < 0) : sc (rk D (Int32.ofNat r) k) = k := by
  induction k with
  | zero => rfl
  | succ k ih =>
    rw [rk_s, ((Iv_stp hG (rk_Iv hG hr k)).2.2 (h k (by omega))).1, ih (fun j hj => h j (by omega))]
/-- the number of rounds -/
noncomputable def rt (D : Bl) (raise : Int32) : Nat := sc (rk D raise (cn D 1))
theorem rt_ok (hG : Gd D) {r : Nat} (hr : r ≤ 60000) : rt D (Int32.ofNat r) ≤ cn D 1 ∧ (∀ j, j < rt D (Int32.ofNat r) → ¬ nxp D (rk D (Int32.ofNat r) j) < 0) ∧ nxp D (rk D (Int32.ofNat r) (rt D (Int32.ofNat r))) < 0 ∧ (∀ k, k ≤ rt D (Int32.ofNat r) → sc (rk D (Int32.ofNat r) k) = k) ∧ ∀ k, rt D (Int32.ofNat r) ≤ k → rk D (Int32.ofNat r) k = rk D (Int32.ofNat r) (rt D (Int32.ofNat r)) := by
  have key : ∃ t, t ≤ cn D 1 ∧ (∀ j, j < t → ¬ nxp D (rk D (Int32.ofNat r) j) < 0) ∧ nxp D (rk D (Int32.ofNat r) t) < 0 := by
    have : ∀ n, n ≤ cn D 1 → (∃ t, t < n ∧ (∀ j, j < t → ¬ nxp D (rk D (Int32.ofNat r) j) < 0) ∧ nxp D (rk D (Int32.ofNat r) t) < 0) ∨ ∀ j, j < n → ¬ nxp D (rk D (Int32.ofNat r) j) < 0 := by
      intro n
      induction n with
      | zero => intro _; exact Or.inr (fun j hj => absurd hj (Nat.not_lt_zero j))
      | succ n ih =>
        intro hn
        rcases ih (by omega) with ⟨t, t1, t2, t3⟩ | h
        · exact Or.inl ⟨t, by omega, t2, t3⟩
        · by_cases c : nxp D (rk D (Int32.ofNat r) n) < 0
          · exact Or.inl ⟨n, by omega, h, c⟩
          · refine Or.inr (fun j hj => ?_)
            by_cases e : j = n
            · rw [e]; exact c
            · exact h j (by omega)
    rcases this (cn D 1) (Nat.le_refl _) with ⟨t, t1, t2, t3⟩ | h
    · exact ⟨t, by omega, t2, t3⟩
    · refine ⟨cn D 1, Nat.le_refl _, h, ?_⟩
      by_cases c : nxp D (rk D (Int32.ofNat r) (cn D 1)) < 0
      · exact c
      · exfalso
        have h1 := ((Iv_stp hG (rk_Iv hG hr (cn D 1))).2.2 c).2
        rw [rk_sc hG hr h] at h1
        omega
  obtain ⟨t, t1, t2, t3⟩ := key
  have e : rt D (Int32.ofNat r) = t := by
    unfold rt
    have := rk_stop hG hr t3 (cn D 1 - t)
    rw [show t + (cn D 1 - t) = cn D 1 by omega] at this
    rw [this]
    exact rk_sc hG hr t2
  rw [e]
  refine ⟨t1, t2, t3, fun k hk => rk_sc hG hr (fun j hj => t2 j (by omega)), fun k hk => ?_⟩
  have := rk_stop hG hr t3 (k - t)
  rw [show t + (k - t) = k by omega] at this
  exact this
variable {M : Mem} {r b : Nat}
/-- run: the rounds with a raise -/
theorem f_run (h : IsRs M r) (hBl : IsB M b D) (hb : b + 12 ≤ r ∨ r + 68 ≤ b) (hG : Gd D) (hT : Tl D) {x : Nat} (hx : x ≤ 60000) : ok (f_X6_run M r b (Int32.ofNat x)) (fun M' => Fi r (r + 68) M M' ∧ RC M' r D (rk D (Int32.ofNat x) (rt D (Int32.ofNat x))) ∧ ∀ j, j ≤ rt D (Int32.ofNat x) → ∀ p, p < cn D 1 → mI M' (r + 53 + p) j = pri D (rk D (Int32.ofNat x) j) p) := by
  have l0 := hG.n.2.1
  have l1 := hG.n.2.2.1
  have l2 := hG.n.2.2.2
  obtain ⟨t1, t2, t3, t4, t5⟩ := rt_ok hG hx
  unfold f_X6_run
  simp only [h.c, bs]
  refine ok.seq (f_rclear h) ?_
  rintro M1 ⟨F1, z7, z8, zp⟩
  have h1 := h.fi F1
  have hBl1 := hBl.fi F1 hb
  simp only [h1.c, bs]
  refine ok.seq (f_fillP h1 hBl1 hb (Int32.ofNat x)) ?_
  rintro M2 ⟨F2, zu⟩
  have h2 := h1.fi F2
  have F12 : Fi r (r + 68) M M2 := F1.trans (F2.wide (by omega) (by omega))
  have hBl2 := hBl.fi F12 hb
  have R0 : RC M2 r D (rk D (Int32.ofNat x) 0) := ⟨zu, fun p hp v hv => by rw [F2.i (by omega)]; exact (zp p hp).1 v (by omega), fun p hp d hd => by rw [F2.i (by omega)]; exact (zp p hp).2 d hd, fun k hk => absurd hk (Nat.not_lt_zero k), by rw [F2.i (by omega)]; exact z7, by rw [F2.i (by omega)]; exact z8⟩
  refine it_r (I := fun k (u : Int32 × Mem) => u.1 = Int32.ofNat k ∧ k ≤ rt D (Int32.ofNat x) ∧ Fi r (r + 68) M u.2 ∧ RC u.2 r D (rk D (Int32.ofNat x) k) ∧ ∀ j, j < k → ∀ p, p < cn D 1 → mI u.2 (r + 53 + p) j = pri D (rk D (Int32.ofNat x) j) p) (cn D 1 + 1) ⟨rfl, Nat.zero_le _, F12, R0, fun j hj => absurd hj (Nat.not_lt_zero j)⟩ (by omega) ?_ ?_
  · rintro rec k ⟨y, M'⟩ hk ⟨rfl, hkt, hF, hR, hp⟩ hrec
    dsimp only at hF hR hp
    have h3 := h.fi hF
    have hBl3 := hBl.fi hF hb
    have hI := rk_Iv hG hx k
    unfold bd_X6_run_12
    have e1 : ¬ Int32.ofNat (cn D 1) < Int32.ofNat k := by rw [i_lt (by omega) (by omega)]; omega
    simp only [hBl3.g1, bs, if_neg e1, h3.c]
    refine ok.seq (f_choose h3 hBl3 hb hG hT hI.1 hR.1 hR.2.2.2.2.2 (show k < 13 by omega)) ?_
    rintro ⟨f, M4⟩ ⟨hf, F4, h65, h53⟩
    dsimp only at hf F4 h65 h53
    have hf : f = nxp D (rk D (Int32.ofNat x) k) := hf
    have h4 := h3.fi F4
    have hBl4 := hBl3.fi F4 (by omega)
    have R4 : RC M4 r D (rk D (Int32.ofNat x) k) := ⟨fun v hv d hd => by rw [F4.i (by omega)]; exact hR.1 v hv d hd, fun p hp v hv => by rw [F4.i (by omega)]; exact hR.2.1 p hp v hv, fun p hp d hd => by rw [F4.i (by omega)]; exact hR.2.2.1 p hp d hd, fun j hj => by rw [h65]; exact hR.2.2.2.1 j hj, by rw [F4.i (by omega)]; exact hR.2.2.2.2.1, by rw [F4.i (by omega)]; exact hR.2.2.2.2.2⟩
    have P4 : ∀ j, j < k + 1 → ∀ p, p < cn D 1 → mI M4 (r + 53 + p) j = pri D (rk D (Int32.ofNat x) j) p := fun j hj p hp' => by
      rw [h53 p (by omega) j]
      by_cases e : j = k
      · subst e; rw [if_pos ⟨rfl, hp'⟩]; rfl
      · rw [if_neg (by omega)]; exact hp j (by omega) p hp'
    have F14 : Fi r (r + 68) M M4 := hF.trans (F4.wide (by omega) (by omega))
    rcases nxp_ok hG hI with e | ⟨p, q, hp', e, e2, hQ, hn⟩
    · have est : k = rt D (Int32.ofNat x) := by
        rcases Nat.lt_or_ge k (rt D (Int32.ofNat x)) with z | z
        · exact absurd (by rw [e]; exact m1_neg) (t2 k z)
        · omega
      rw [hf, e]
      refine ok.pure ?_
      rw [← est]
      exact ⟨F14, R4, fun j hj => P4 j (by omega)⟩
    · have hlt : k < rt D (Int32.ofNat x) := by
        rcases Nat.lt_or_ge k (rt D (Int32.ofNat x)) with z | z
        · exact z
        · have : k = rt D (Int32.ofNat x) := by omega
          rw [← this, e] at t3
          exact absurd t3 (o_nneg (by omega))
      have hstp : rk D (Int32.ofNat x) (k + 1) = fu D (rk D (Int32.ofNat x) k) p (Int32.ofNat q) := by
        rw [rk_s]
        unfold stp
        rw [if_neg (by rw [e]; exact o_nneg (by omega)), e, ix_o (by omega), e2]
      have e0 : (0 : Int32) ≤ Int32.ofNat p := by
        rw [show (0 : Int32) = Int32.ofNat 0 from rfl, i_le (by omega) (by omega)]; omega
      have ea := h4.a3 (p := p) (k := k) (by omega) (by omega)
      rw [P4 k (by omega) p hp', e2] at ea
      dsimp only
      rw [hf, e, if_pos e0]
      simp only [h4.r3, bs, h4.q3 (show p < 12 by omega), ea, h4.c]
      refine ok.seq (f_fund h4 hBl4 hb hG hT R4 hp' (by rw [t4 k hkt]; omega) (Int32.ofNat q)) ?_
      rintro M5 ⟨F5, R5, P5⟩
      rw [i_succ]
      refine hrec _ ⟨rfl, hlt, F14.trans F5, by rw [hstp]; exact R5, fun j hj o ho => ?_⟩
      show mI M5 (r + 53 + o) j = _
      rw [P5 o (by omega)]
      exact P4 j hj o ho
  · rintro rec ⟨y, M'⟩ ⟨-, hkt, -⟩
    omega
end
