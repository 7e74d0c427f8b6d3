/-! ===== only ints change, and in a range of addresses ===== -/
section
def Fi (lo hi : Nat) (M M' : Mem) : Prop := mK M' = mK M ∧ mL M' = mL M ∧ mR M' = mR M ∧ mN M' = mN M ∧ ∀ a, (a < lo ∨ hi ≤ a) → mI M' a = mI M a
theorem Fi.rf {lo hi : Nat} {M : Mem} : Fi lo hi M M := ⟨rfl, rfl, rfl, rfl, fun _ _ => rfl⟩
theorem Fi.trans {lo hi : Nat} {M M1 M2 : Mem} (h1 : Fi lo hi M M1) (h2 : Fi lo hi M1 M2) : Fi lo hi M M2 := ⟨h2.1.trans h1.1, h2.2.1.trans h1.2.1, h2.2.2.1.trans h1.2.2.1, h2.2.2.2.1.trans h1.2.2.2.1, fun a ha => (h2.2.2.2.2 a ha).trans (h1.2.2.2.2 a ha)⟩
theorem Fi.wide {lo hi lo' hi' : Nat} {M M' : Mem} (h : Fi lo hi M M') (h1 : lo' ≤ lo) (h2 : hi ≤ hi') : Fi lo' hi' M M' := ⟨h.1, h.2.1, h.2.2.1, h.2.2.2.1, fun a ha => h.2.2.2.2 a (by omega)⟩
theorem Fi.q {lo hi : Nat} {M M' : Mem} (h : Fi lo hi M M') : Fq lo hi M M' := ⟨h.1, h.2.2.2.1, fun a ha => ⟨h.2.2.2.2 a ha, by rw [h.2.1], by rw [h.2.2.1]⟩⟩
theorem Fi.W {lo hi : Nat} {M : Mem} {f : Nat → Nat → Int32} (h : ∀ a, (a < lo ∨ hi ≤ a) → f a = mI M a) : Fi lo hi M (sW M f) := ⟨rfl, rfl, rfl, rfl, h⟩
theorem Fi.sI {lo hi : Nat} {M : Mem} {a j : Nat} {x : Int32} (h : lo ≤ a ∧ a < hi) : Fi lo hi M (sI M a j x) := ⟨rfl, rfl, rfl, rfl, fun b hb => by
  funext k
  rw [i_sI, if_neg (by omega)]⟩
theorem Fi.i {lo hi : Nat} {M M' : Mem} (h : Fi lo hi M M') {a : Nat} (ha : a < lo ∨ hi ≤ a) (j : Nat) : mI M' a j = mI M a j := congrFun (h.2.2.2.2 a ha) j
theorem Fi.k {lo hi : Nat} {M M' : Mem} (h : Fi lo hi M M') : mK M' = mK M := h.1
theorem Fi.r {lo hi : Nat} {M M' : Mem} (h : Fi lo hi M M') : mR M' = mR M := h.2.2.1
theorem IsBs.fi {M M' : Mem} {b lo hi : Nat} (h : IsBs M b) (hF : Fi lo hi M M') : IsBs M' b := ⟨by rw [hF.k]; exact h.1, fun k h1 h2 => by rw [hF.r, hF.k]; exact h.2 k h1 h2⟩
theorem IsB.fi {M M' : Mem} {b lo hi : Nat} {D : Bl} (h : IsB M b D) (hF : Fi lo hi M M') (hb : b + 12 ≤ lo ∨ hi ≤ b) : IsB M' b D := h.fq hF.q hb
/-- a row filled with one number -/
theorem f_fill {M : Mem} {a n : Nat} (hk : mK M a = (20, n)) (hn : n < 1000000) (x : Int32) : ok (f_J7_fill_53178 M a x) (fun M' => Fi a (a + 1) M M' ∧ ∀ k, k < n → mI M' a k = x) := by
  unfold f_J7_fill_53178
  rw [aN_e hk (Or.inl rfl), bs]
  refine it_r (I := fun i (u : Int32 × Mem) => u.1 = Int32.ofNat i ∧ Fi a (a + 1) M u.2 ∧ ∀ k, k < i → mI u.2 a k = x) n ⟨rfl, Fi.rf, fun k hk => absurd hk (Nat.not_lt_zero k)⟩ hn ?_ ?_
  · rintro rec i ⟨y, M'⟩ hi ⟨rfl, hF, hx⟩ hrec
    unfold bd_J7_fill_53178_5
    have hk' : mK M' a = (20, n) := by rw [hF.k]; exact hk
    simp only [ile_n hi (show n < 2147483648 by omega), wI_e hk' hi (by omega), bs, i_succ]
    refine hrec _ ⟨rfl, hF.trans (Fi.sI ⟨by omega, by omega⟩), fun k hk2 => ?_⟩
    show mI (sI M' a i x) a k = x
    rw [i_sI]
    by_cases e : k = i
    · rw [if_pos ⟨rfl, e⟩]
    · rw [if_neg (by omega)]; exact hx k (by omega)
  · rintro rec ⟨y, M'⟩ ⟨rfl, hF, hx⟩
    unfold bd_J7_fill_53178_5
    simp only [ile_e]
    exact ok.pure ⟨hF, hx⟩
end
/-! ===== the class's Rounds at r ===== -/
section
def IsRs (M : Mem) (r : Nat) : Prop := (mK M r).1 = 6 ∧ (mR M r 0 = some (r + 1) ∧ mR M r 1 = some (r + 26) ∧ mR M r 2 = some (r + 39) ∧ mR M r 3 = some (r + 52) ∧ mR M r 4 = some (r + 65) ∧ mR M r 5 = some (r + 66) ∧ mR M r 6 = some (r + 67)) ∧ (mK M (r + 1) = (23, 24) ∧ mK M (r + 26) = (23, 12) ∧ mK M (r + 39) = (23, 12) ∧ mK M (r + 52) = (23, 12)) ∧ (mK M (r + 65) = (20, 12) ∧ mK M (r + 66) = (20, 24) ∧ mK M (r + 67) = (20, 24)) ∧ (∀ v, v < 24 → mR M (r + 1) v = some (r + 2 + v) ∧ mK M (r + 2 + v) = (20, 4)) ∧ (∀ p, p < 12 → (mR M (r + 26) p = some (r + 27 + p) ∧ mK M (r + 27 + p) = (20, 24)) ∧ (mR M (r + 39) p = some (r + 40 + p) ∧ mK M (r + 40 + p) = (20, 4)) ∧ (mR M (r + 52) p = some (r + 53 + p) ∧ mK M (r + 53 + p) = (20, 13)))
theorem IsRs.e {M M' : Mem} {r : Nat} (h : IsRs M r) (hk : mK M' = mK M) (hr : mR M' = mR M) : IsRs M' r := by
  unfold IsRs at h ⊢
  rw [hk, hr]
  exact h
theorem IsRs.fi {M M' : Mem} {r lo hi : Nat} (h : IsRs M r) (hF : Fi lo hi M M') : IsRs M' r := h.e hF.k hF.r
theorem IsRs.fq {M M' : Mem} {r lo hi : Nat} (h : IsRs M r) (hF : Fq lo hi M M') (hb : r + 68 ≤ lo ∨ hi ≤ r) : IsRs M' r := by
  obtain ⟨h1, ⟨a0, a1, a2, a3, a4, a5, a6⟩, hk, hk2, hv, hp⟩ := h
  refine ⟨by rw [hF.1]; exact h1, ⟨?_, ?_, ?_, ?_, ?_, ?_, ?_⟩, by rw [hF.1]; exact hk, by rw [hF.1]; exact hk2, fun v hv2 => ?_, fun p hp2 => ?_⟩
  · rw [hF.r (by omega)]; exact a0
  · rw [hF.r (by omega)]; exact a1
  · rw [hF.r (by omega)]; exact a2
  · rw [hF.r (by omega)]; exact a3
  · rw [hF.r (by omega)]; exact a4
  · rw [hF.r (by omega)]; exact a5
  · rw [hF.r (by omega)]; exact a6
  · rw [hF.r (by omega), hF.1]; exact hv v hv2
  · rw [hF.r (by omega), hF.r (by omega), hF.r (by omega), hF.1]; exact hp p hp2
variable {M : Mem} {r : Nat}
theorem IsRs.c (h : IsRs M r) : ck M r 6 = some () := ck_e h.1
theorem IsRs.g (h : IsRs M r) (j : Nat) : gFI M r 6 j = some (mI M r j) := gFI_e h.1
theorem IsRs.p (h : IsRs M r) (j : Nat) (x : Int32) : pFI M r 6 j x = some (sI M r j x) := pFI_e h.1
theorem IsRs.r0 (h : IsRs M r) : gFR M r 6 0 = some (r + 1) := gFR_e h.1 h.2.1.1
theorem IsRs.r1 (h : IsRs M r) : gFR M r 6 1 = some (r + 26) := gFR_e h.1 h.2.1.2.1
theorem IsRs.r2 (h : IsRs M r) : gFR M r 6 2 = some (r + 39) := gFR_e h.1 h.2.1.2.2.1
theorem IsRs.r3 (h : IsRs M r) : gFR M r 6 3 = some (r + 52) := gFR_e h.1 h.2.1.2.2.2.1
theorem IsRs.r4 (h : IsRs M r) : gFR M r 6 4 = some (r + 65) := gFR_e h.1 h.2.1.2.2.2.2.1
theorem IsRs.r5 (h : IsRs M r) : gFR M r 6 5 = some (r + 66) := gFR_e h.1 h.2.1.2.2.2.2.2.1
theorem IsRs.r6 (h : IsRs M r) : gFR M r 6 6 = some (r + 67) := gFR_e h.1 h.2.1.2.2.2.2.2.2
theorem IsRs.q0 (h : IsRs M r) {v : Nat} (hv : v < 24) : aR M (r + 1) (Int32.ofNat v) = some (r + 2 + v) := aR_e h.2.2.1.1 hv (by omega) (h.2.2.2.2.1 v hv).1
theorem IsRs.q1 (h : IsRs M r) {p : Nat} (hp : p < 12) : aR M (r + 26) (Int32.ofNat p) = some (r + 27 + p) := aR_e h.2.2.1.2.1 hp (by omega) (h.2.2.2.2.2 p hp).1.1
theorem IsRs.q2 (h : IsRs M r) {p : Nat} (hp : p < 12) : aR M (r + 39) (Int32.ofNat p) = some (r + 40 + p) := aR_e h.2.2.1.2.2.1 hp (by omega) (h.2.2.2.2.2 p hp).2.1.1
theorem IsRs.q3 (h : IsRs M r) {p : Nat} (hp : p < 12) : aR M (r + 52) (Int32.ofNat p) = some (r + 53 + p) := aR_e h.2.2.1.2.2.2 hp (by omega) (h.2.2.2.2.2 p hp).2.2.1
theorem IsRs.k0 (h : IsRs M r) {v : Nat} (hv : v < 24) : mK M (r + 2 + v) = (20, 4) := (h.2.2.2.2.1 v hv).2
theorem IsRs.k1 (h : IsRs M r) {p : Nat} (hp : p < 12) : mK M (r + 27 + p) = (20, 24) := (h.2.2.2.2.2 p hp).1.2
theorem IsRs.k2 (h : IsRs M r) {p : Nat} (hp : p < 12) : mK M (r + 40 + p) = (20, 4) := (h.2.2.2.2.2 p hp).2.1.2
theorem IsRs.k3 (h : IsRs M r) {p : Nat} (hp : p < 12) : mK M (r + 53 + p) = (20, 13) := (h.2.2.2.2.2 p hp).2.2.2
theorem IsRs.k4 (h : IsRs M r) : mK M (r + 65) = (20, 12) := h.2.2.2.1.1
theorem IsRs.k5 (h : IsRs M r) : mK M (r + 66) = (20, 24) := h.2.2.2.1.2.1
theorem IsRs.k6 (h : IsRs M r) : mK M (r + 67) = (20, 24) := h.2.2.2.1.2.2
theorem IsRs.a0 (h : IsRs M r) {v d : Nat} (hv : v < 24) (hd : d < 4) : aI M (r + 2 + v) (Int32.ofNat d) = some (mI M (r + 2 + v) d) := aI_e (h.k0 hv) (Or.inl rfl) hd (by omega)
theorem IsRs.a1 (h : IsRs M r) {p v : Nat} (hp : p < 12) (hv : v < 24) : aI M (r + 27 + p) (Int32.ofNat v) = some (mI M (r + 27 + p) v) := aI_e (h.k1 hp) (Or.inl rfl) hv (by omega)
theorem IsRs.a2 (h : IsRs M r) {p d : Nat} (hp : p < 12) (hd : d < 4) : aI M (r + 40 + p) (Int32.ofNat d) = some (mI M (r + 40 + p) d) := aI_e (h.k2 hp) (Or.inl rfl) hd (by omega)
theorem IsRs.a3 (h : IsRs M r) {p k : Nat} (hp : p < 12) (hk : k < 13) : aI M (r + 53 + p) (Int32.ofNat k) = some (mI M (r + 53 + p) k) := aI_e (h.k3 hp) (Or.inl rfl) hk (by omega)
theorem IsRs.a4 (h : IsRs M r) {k : Nat} (hk : k < 12) : aI M (r + 65) (Int32.ofNat k) = some (mI M (r + 65) k) := aI_e h.k4 (Or.inl rfl) hk (by omega)
theorem IsRs.a5 (h : IsRs M r) {v : Nat} (hv : v < 24) : aI M (r + 66) (Int32.ofNat v) = some (mI M (r + 66) v) := aI_e h.k5 (Or.inl rfl) hv (by omega)
theorem IsRs.a6 (h : IsRs M r) {v : Nat} (hv : v < 24) : aI M (r + 67) (Int32.ofNat v) = some (mI M (r + 67) v) := aI_e h.k6 (Or.inl rfl) hv (by omega)
theorem IsRs.w0 (h : IsRs M r) {v d : Nat} (hv : v < 24) (hd : d < 4) (x : Int32) : wI M (r + 2 + v) (Int32.ofNat d) x = some (sI M (r + 2 + v) d x) := wI_e (h.k0 hv) hd (by omega)
theorem IsRs.w1 (h : IsRs M r) {p v : Nat} (hp : p < 12) (hv : v < 24) (x : Int32) : wI M (r + 27 + p) (Int32.ofNat v) x = some (sI M (r + 27 + p) v x) := wI_e (h.k1 hp) hv (by omega)
theorem IsRs.w2 (h : IsRs M r) {p d : Nat} (hp : p < 12) (hd : d < 4) (x : Int32) : wI M (r + 40 + p) (Int32.ofNat d) x = some (sI M (r + 40 + p) d x) := wI_e (h.k2 hp) hd (by omega)
theorem IsRs.w3 (h : IsRs M r) {p k : Nat} (hp : p < 12) (hk : k < 13) (x : Int32) : wI M (r + 53 + p) (Int32.ofNat k) x = some (sI M (r + 53 + p) k x) := wI_e (h.k3 hp) hk (by omega)
theorem IsRs.w4 (h : IsRs M r) {k : Nat} (hk : k < 12) (x : Int32) : wI M (r + 65) (Int32.ofNat k) x = some (sI M (r + 65) k x) := wI_e h.k4 hk (by omega)
theorem IsRs.w5 (h : IsRs M r) {v : Nat} (hv : v < 24) (x : Int32) : wI M (r + 66) (Int32.ofNat v) x = some (sI M (r + 66) v x) := wI_e h.k5 hv (by omega)
theorem IsRs.w6 (h : IsRs M r) {v : Nat} (hv : v < 24) (x : Int32) : wI M (r + 67) (Int32.ofNat v) x = some (sI M (r + 67) v x) := wI_e h.k6 hv (by omega)
/-- clear -/
theorem f_rclear (h : IsRs M r) : ok (f_X6_clear M r) (fun M' => Fi r (r + 68) M M' ∧ mI M' r 7 = 0 ∧ mI M' r 8 = 0 ∧ (∀ p, p < 12 → (∀ v, v < 24 → mI M' (r + 27 + p) v = 0) ∧ ∀ d, d < 4 → mI M' (r + 40 + p) d = 0)) := by
  unfold f_X6_clear
  have h1 : IsRs (sI M r 7 0) r := h
  simp only [h.p, bs, h1.p]
  refine it_r (I := fun i (u : Int32 × Mem) => u.1 = Int32.ofNat i ∧ Fi r (r + 68) M u.2 ∧ mI u.2 r 7 = 0 ∧ mI u.2 r 8 = 0 ∧ (∀ p, p < i → (∀ v, v < 24 → mI u.2 (r + 27 + p) v = 0) ∧ ∀ d, d < 4 → mI u.2 (r + 40 + p) d = 0)) 12 ⟨rfl, (Fi.sI ⟨by omega, by omega⟩).trans (Fi.sI ⟨by omega, by omega⟩), ?_, ?_, fun p hp => absurd hp (Nat.not_lt_zero p)⟩ (by omega) ?_ ?_
  · show mI (sI (sI M r 7 0) r 8 0) r 7 = 0
    rw [i_sI, if_neg (by omega), i_sI, if_pos ⟨rfl, rfl⟩]
  · show mI (sI (sI M r 7 0) r 8 0) r 8 = 0
    rw [i_sI, if_pos ⟨rfl, rfl⟩]
  · rintro rec i ⟨y, M'⟩ hi ⟨rfl, hF, h7, h8, hp⟩ hrec
    unfold bd_X6_clear_12
    have hr := h.fi hF
    simp only [show (12 : Int32) = Int32.ofNat 12 from rfl, ile_n hi (show 12 < 2147483648 by omega), hr.r1, bs, hr.q1 hi]
    refine ok.seq (f_fill (hr.k1 hi) (by omega) 0) ?_
    rintro M1 ⟨F1, z1⟩
    have hr1 := hr.fi F1
    simp only [hr1.r2, bs, hr1.q2 hi]
    refine ok.seq (f_fill (hr1.k2 hi) (by omega) 0) ?_
    rintro M2 ⟨F2, z2⟩
    rw [i_succ]
    refine hrec _ ⟨rfl, hF.trans ((F1.wide (by omega) (by omega)).trans (F2.wide (by omega) (by omega))), ?_, ?_, fun p hp2 => ⟨fun v hv => ?_, fun d hd => ?_⟩⟩
    · show mI M2 r 7 = 0
      rw [F2.i (by omega), F1.i (by omega)]; exact h7
    · show mI M2 r 8 = 0
      rw [F2.i (by omega), F1.i (by omega)]; exact h8
    · show mI M2 (r + 27 + p) v = 0
      rw [F2.i (by omega)]
      by_cases e : p = i
      · subst e; exact z1 v hv
      · rw [F1.i (by omega)]; exact (hp p (by omega)).1 v hv
    · show mI M2 (r + 40 + p) d = 0
      by_cases e : p = i
      · subst e; exact z2 d hd
      · rw [F2.i (by omega), F1.i (by omega)]; exact (hp p (by omega)).2 d hd
  · rintro rec ⟨y, M'⟩ ⟨rfl, hF, h7, h8, hp⟩
    unfold bd_X6_clear_12
    simp only [show (12 : Int32) = Int32.ofNat 12 from rfl, ile_e]
    exact ok.pure ⟨hF, h7, h8, hp⟩
end
