/-! ===== good ballots; purses, means, what supporters can pay ===== -/
section
/-- numbers in their ranges, sets within the counts -/
def Gd (D : Bl) : Prop := Cn D ∧ (∀ d, d < cn D 0 → 0 ≤ (D 2 d).toInt ∧ (D 2 d).toInt ≤ 100000) ∧ (∀ p, p < cn D 1 → (1 ≤ (D 4 p).toInt ∧ (D 4 p).toInt ≤ 100000) ∧ ∀ d, cn D 0 ≤ d → d < 32 → hs (D 5 p) (Int32.ofNat d) = false) ∧ (∀ v, v < cn D 2 → (1 ≤ (D 6 v).toInt ∧ (D 6 v).toInt ≤ 9) ∧ ∀ d, cn D 0 ≤ d → d < 32 → hs (D 7 v) (Int32.ofNat d) = false) ∧ (D 9 0 = 0 ∨ D 9 0 = 1) ∧ (D 9 1 = 0 ∨ D 9 1 = 1 ∨ D 9 1 = 2) ∧ (1 ≤ (D 9 2).toInt ∧ (D 9 2).toInt ≤ 1000) ∧ (D 9 3 = 0 ∨ D 9 3 = 1)
/-- its rows of supporters and votes are right -/
def Tl (D : Bl) : Prop := (∀ p, D 10 p = bk D p) ∧ ∀ p, D 11 p = vt D p
theorem Tl_tl (D : Bl) : Tl (tl D) := ⟨fun p => by
  show bk D p = bk (tl D) p
  rfl, fun p => by
  show vt D p = vt (tl D) p
  rfl⟩
theorem Gd.n {D : Bl} (h : Gd D) : Cn D := h.1
theorem sp_tl (D : Bl) : sp (tl D) = sp D := rfl
theorem hs_fo (q : Nat → Bool) {n : Nat} (hn : n ≤ 32) {i : Nat} (hi : i < 32) : hs (fo (fun v a => if q v = true then a ||| bt v else a) n 0) (Int32.ofNat i) = (decide (i < n) && q i) := by
  induction n with
  | zero =>
    rw [show fo (fun v a => if q v = true then a ||| bt v else a) 0 0 = (0 : Int32) from rfl, hs_0 hi]
    simp
  | succ n ih =>
    have ih := ih (by omega)
    show hs (if q n = true then fo (fun v a => if q v = true then a ||| bt v else a) n 0 ||| bt n else fo (fun v a => if q v = true then a ||| bt v else a) n 0) _ = _
    by_cases hq : q n = true
    · rw [if_pos hq, hs_or hi, ih]
      unfold bt
      rw [hs_one (by omega) hi]
      by_cases e : i = n
      · subst e; simp [hq]
      · simp [e]; congr 2; exact propext ⟨fun h => by omega, fun h => by omega⟩
    · rw [if_neg hq, ih]
      by_cases e : i = n
      · subst e; simp [hq]
      · congr 2; exact propext ⟨fun h => by omega, fun h => by omega⟩
theorem hs_bk {D : Bl} (hD : Cn D) {p v : Nat} (hv : v < cn D 2) : hs (bk D p) (Int32.ofNat v) = sp D v p := by
  have := hD.2.2.2
  unfold bk
  rw [hs_fo (fun v => sp D v p) (by omega) (by omega), decide_eq_true hv, Bool.true_and]
/-! purses -/
def pu (D : Bl) (raise : Int32) (v d : Nat) : Int32 := if hs (D 7 v) (Int32.ofNat d) = true then sh D v d (mw D d) + raise else 0
variable {M : Mem} {r b : Nat} {D : Bl}
theorem f_fillP (h : IsRs M r) (hB : IsB M b D) (hb : b + 12 ≤ r ∨ r + 68 ≤ b) (raise : Int32) : ok (f_X6_fillPurses M r b raise) (fun M' => Fi (r + 2) (r + 26) M M' ∧ ∀ v, v < cn D 2 → ∀ d, d < cn D 0 → mI M' (r + 2 + v) d = pu D raise v d) := by
  have l0 := hB.n.2.1
  have l2 := hB.n.2.2.2
  unfold f_X6_fillPurses
  refine it_r (I := fun i (u : Int32 × Mem) => u.1 = Int32.ofNat i ∧ Fi (r + 2) (r + 26) M u.2 ∧ ∀ v, v < cn D 2 → ∀ d, d < i → mI u.2 (r + 2 + v) d = pu D raise v d) (cn D 0) ⟨rfl, Fi.rf, fun v hv d hd => absurd hd (Nat.not_lt_zero d)⟩ hB.n.m0 ?_ ?_
  · rintro rec i ⟨y, M'⟩ hi ⟨rfl, hF, hx⟩ hrec
    dsimp only at hF hx
    have hB1 := hB.fi hF (by omega)
    unfold bd_X6_fillPurses_2
    simp only [hB1.g0, bs, ile_n hi hB.n.l0, hB1.c, f_mw hB1]
    refine it_r (I := fun j (u : Int32 × Mem) => u.1 = Int32.ofNat j ∧ Fi (r + 2) (r + 26) M u.2 ∧ ∀ v, v < cn D 2 → ∀ d, (d < i ∨ (d = i ∧ v < j)) → mI u.2 (r + 2 + v) d = pu D raise v d) (cn D 2) ⟨rfl, hF, fun v hv d hd => hx v hv d (by omega)⟩ hB.n.m2 ?_ ?_
    · rintro rec2 v ⟨y, M2⟩ hv ⟨rfl, hF2, hx2⟩ hrec2
      dsimp only at hF2 hx2
      have hB2 := hB.fi hF2 (by omega)
      have hr2 := h.fi hF2
      have l3 : v < 24 := by omega
      unfold bd_X6_fillPurses_20
      simp only [hB2.g2, bs, ile_n hv hB.n.l2, hr2.r0, hr2.q0 l3, hB2.s.r7, hB2.a7 hv, f_has8, b2i_ite, hB2.c, f_sh hB2 hv hi, is_, hr2.w0 l3 (show i < 4 by omega), i_succ]
      refine hrec2 _ ⟨rfl, hF2.trans (Fi.sI ⟨by omega, by omega⟩), fun w hw d hd => ?_⟩
      show mI (sI M2 (r + 2 + v) i _) (r + 2 + w) d = pu D raise w d
      rw [i_sI]
      by_cases e : w = v ∧ d = i
      · obtain ⟨e1, e2⟩ := e
        subst e1; subst e2
        rw [if_pos ⟨rfl, rfl⟩]; rfl
      · rw [if_neg (by omega)]; exact hx2 w hw d (by omega)
    · rintro rec2 ⟨y, M2⟩ ⟨rfl, hF2, hx2⟩
      dsimp only at hF2 hx2
      have hB2 := hB.fi hF2 (by omega)
      unfold bd_X6_fillPurses_20
      simp only [hB2.g2, bs, ile_e, i_succ]
      exact hrec _ ⟨rfl, hF2, fun v hv d hd => hx2 v hv d (by omega)⟩
  · rintro rec ⟨y, M'⟩ ⟨rfl, hF, hx⟩
    dsimp only at hF hx
    have hB1 := hB.fi hF (by omega)
    unfold bd_X6_fillPurses_2
    simp only [hB1.g0, bs, ile_e]
    exact ok.pure ⟨hF, hx⟩
/-! means -/
theorem sm_ext {n m : Nat} (f : Nat → Int32) (h : n ≤ m) (h2 : ∀ i, n ≤ i → i < m → f i = 0) : sm m f = sm n f := by
  induction m with
  | zero =>
    have : n = 0 := by omega
    rw [this]
  | succ m ih =>
    by_cases e : n = m + 1
    · rw [e]
    · rw [sm_s, ih (by omega) (fun i h3 h4 => h2 i h3 (by omega)), h2 m (by omega) (by omega)]
      simp
/-- what the purses H of v for the districts of a set hold together -/
def mn (D : Bl) (H : Nat → Nat → Int32) (v : Nat) (area : Int32) : Int32 := sm (cn D 0) fun d => if hs area (Int32.ofNat d) = true then H v d else 0
theorem f_mn (h : IsRs M r) {H : Nat → Nat → Int32} {v : Nat} (hv : v < 24) (hD : cn D 0 ≤ 4) (hH : ∀ d, d < cn D 0 → mI M (r + 2 + v) d = H v d) {area : Int32} (hA : ∀ d, cn D 0 ≤ d → d < 32 → hs area (Int32.ofNat d) = false) : f_X6_means M r (Int32.ofNat v) area = some (mn D H v area) := by
  unfold f_X6_means
  have key := it_s (F := bd_X6_means_5 M r (Int32.ofNat v) area fun (e2 : Int32 × Int32) => some e2.1) (k := fun a => some a) 4 (fun d => if hs area (Int32.ofNat d) = true then mI M (r + 2 + v) d else 0) (by omega) (fun rec i a hi => ?_) (fun rec a => ?_)
  · rw [key]
    show some _ = some _
    congr 1
    rw [sm_ext _ hD (fun i h1 h2 => by rw [hA i h1 (by omega)]; rfl)]
    exact sm_c (fun d hd => by rw [hH d hd])
  · unfold bd_X6_means_5
    simp only [show (4 : Int32) = Int32.ofNat 4 from rfl, ile_n hi (show 4 < 2147483648 by omega), h.r0, bs, h.q0 hv, h.a0 hv hi, ltq, bit_mul, i_succ]
  · unfold bd_X6_means_5
    simp only [show (4 : Int32) = Int32.ofNat 4 from rfl, ile_e]
/-! weigh: stakes and means of the supporters of a project -/
def amn (D : Bl) (H : Nat → Nat → Int32) (p v : Nat) : Int32 := if sp D v p = true then mn D H v (D 5 p) else 0
def stk (D : Bl) (p v : Nat) : Int32 := if sp D v p = true then D 6 v else 0
def allM (D : Bl) (H : Nat → Nat → Int32) (p : Nat) : Int32 := sm (cn D 2) (amn D H p)
theorem f_weigh (h : IsRs M r) (hB : IsB M b D) (hb : b + 12 ≤ r ∨ r + 68 ≤ b) (hG : Gd D) (hT : Tl D) {H : Nat → Nat → Int32} (hH : ∀ v, v < cn D 2 → ∀ d, d < cn D 0 → mI M (r + 2 + v) d = H v d) {p : Nat} (hp : p < cn D 1) : ok (f_X6_weigh M r b (Int32.ofNat p)) (fun o => o.1 = allM D H p ∧ Fi (r + 66) (r + 68) M o.2 ∧ ∀ v, v < cn D 2 → mI o.2 (r + 66) v = stk D p v ∧ mI o.2 (r + 67) v = amn D H p v) := by
  have l0 := hB.n.2.1
  have l2 := hB.n.2.2.2
  unfold f_X6_weigh
  refine it_r (I := fun i (u : Int32 × Int32 × Mem) => u.1 = sm i (amn D H p) ∧ u.2.1 = Int32.ofNat i ∧ Fi (r + 66) (r + 68) M u.2.2 ∧ ∀ v, v < i → mI u.2.2 (r + 66) v = stk D p v ∧ mI u.2.2 (r + 67) v = amn D H p v) (cn D 2) ⟨rfl, rfl, Fi.rf, fun v hv => absurd hv (Nat.not_lt_zero v)⟩ hB.n.m2 ?_ ?_
  · rintro rec v ⟨x, y, M'⟩ hv ⟨rfl, rfl, hF, hx⟩ hrec
    dsimp only at hF hx
    have l3 : v < 24 := by omega
    have hB1 := hB.fi hF (by omega)
    have hr1 := h.fi hF
    have e10 : hs (D 10 p) (Int32.ofNat v) = sp D v p := by rw [hT.1, hs_bk hB.n hv]
    have F2 : Fi (r + 66) (r + 68) M' (sI M' (r + 66) v (stk D p v)) := Fi.sI ⟨by omega, by omega⟩
    have hB2 := hB1.fi F2 (by omega)
    have hr2 := hr1.fi F2
    have F3 : Fi (r + 66) (r + 68) (sI M' (r + 66) v (stk D p v)) (sI (sI M' (r + 66) v (stk D p v)) (r + 67) v (amn D H p v)) := Fi.sI ⟨by omega, by omega⟩
    have hr3 := hr2.fi F3
    have hm : f_X6_means (sI M' (r + 66) v (stk D p v)) r (Int32.ofNat v) (D 5 p) = some (mn D H v (D 5 p)) := f_mn hr2 l3 l0 (fun d hd => by rw [F2.i (by omega), hF.i (by omega)]; exact hH v hv d hd) (hG.2.2.1 p hp).2
    have g3 : aI (sI (sI M' (r + 66) v (stk D p v)) (r + 67) v (amn D H p v)) (r + 67) (Int32.ofNat v) = some (amn D H p v) := by
      rw [hr3.a6 l3, i_sI, if_pos ⟨rfl, rfl⟩]
    unfold bd_X6_weigh_5
    simp only [hB1.g2, bs, ile_n hv hB.n.l2, hB1.s.r10, hB1.a10 hp, f_has8, e10, hr1.r5, b2i_ite, hB1.s.r6, hB1.a6 hv, is_]
    rw [show (if sp D v p = true then D 6 v else 0) = stk D p v from rfl]
    simp only [hr1.w5 l3, bs, hr2.r6, hB2.s.r5, hB2.a5 hp, hr2.c, hm, is_]
    rw [show (if sp D v p = true then mn D H v (D 5 p) else 0) = amn D H p v from rfl]
    simp only [hr2.w6 l3, bs, hr3.r6, g3, ltq, i_succ]
    refine hrec _ ⟨rfl, rfl, hF.trans (F2.trans F3), fun w hw => ?_⟩
    show mI (sI (sI M' (r + 66) v (stk D p v)) (r + 67) v (amn D H p v)) (r + 66) w = _ ∧ mI (sI (sI M' (r + 66) v (stk D p v)) (r + 67) v (amn D H p v)) (r + 67) w = _
    rw [i_sI, i_sI, i_sI, i_sI]
    by_cases e : w = v
    · subst e; simp
    · rw [if_neg (by omega), if_neg (by omega), if_neg (by omega), if_neg (by omega)]
      exact hx w (by omega)
  · rintro rec ⟨x, y, M'⟩ ⟨rfl, rfl, hF, hx⟩
    dsimp only at hF hx
    have hB1 := hB.fi hF (by omega)
    unfold bd_X6_weigh_5
    simp only [hB1.g2, bs, ile_e]
    exact ok.pure ⟨rfl, hF, hx⟩
end
