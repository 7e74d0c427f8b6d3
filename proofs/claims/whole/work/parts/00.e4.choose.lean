/-! ===== one round: which project is funded ===== -/
section
/-- whether a price comes ahead of an earlier one -/
def bp (D : Bl) (x y : Int32) (l e : Nat) : Int64 × Int64 := if D 9 0 = 0 then (x.toInt64, y.toInt64) else (x.toInt64 * (D 4 e).toInt64, y.toInt64 * (D 4 l).toInt64)
def bet (D : Bl) (x y : Int32) (l e : Nat) : Bool := if lg_cmp (bp D x y l e).1 (bp D x y l e).2 < 0 then true else if lg_cmp (bp D x y l e).1 (bp D x y l e).2 = 0 then !decide (D 11 l ≤ D 11 e) else false
noncomputable def prc (D : Bl) (H : Nat → Nat → Int32) (ch : Int32) (p : Nat) : Int32 := if hs ch (Int32.ofNat p) = true then -1 else pr D H p
def ix (f : Int32) : Nat := f.toNatClampNeg
noncomputable def chF (D : Bl) (H : Nat → Nat → Int32) (ch : Int32) (p : Nat) (f : Int32) : Int32 := if prc D H ch p = -1 then f else if f < 0 then Int32.ofNat p else if bet D (prc D H ch p) (prc D H ch (ix f)) p (ix f) = true then Int32.ofNat p else f
noncomputable def chN (D : Bl) (H : Nat → Nat → Int32) (ch : Int32) (n : Nat) : Int32 := fo (chF D H ch) n (-1)
noncomputable def chs (D : Bl) (H : Nat → Nat → Int32) (ch : Int32) : Int32 := chN D H ch (cn D 1)
variable {D : Bl} {H : Nat → Nat → Int32} {ch : Int32}
theorem chN_s (n : Nat) : chN D H ch (n + 1) = chF D H ch n (chN D H ch n) := rfl
theorem chN_in (n : Nat) : chN D H ch n = -1 ∨ ∃ q, q < n ∧ chN D H ch n = Int32.ofNat q ∧ prc D H ch q ≠ -1 := by
  induction n with
  | zero => exact Or.inl rfl
  | succ n ih =>
    rw [chN_s]
    generalize chN D H ch n = f at ih ⊢
    unfold chF
    by_cases h1 : prc D H ch n = -1
    · rw [if_pos h1]
      rcases ih with h | ⟨q, h, h2, h3⟩
      · exact Or.inl h
      · exact Or.inr ⟨q, by omega, h2, h3⟩
    · rw [if_neg h1]
      have hn : ∃ q, q < n + 1 ∧ Int32.ofNat n = Int32.ofNat q ∧ prc D H ch q ≠ -1 := ⟨n, by omega, rfl, h1⟩
      split
      · exact Or.inr hn
      · split
        · exact Or.inr hn
        · rcases ih with h | ⟨q, h, h2, h3⟩
          · exact Or.inl h
          · exact Or.inr ⟨q, by omega, h2, h3⟩
theorem ix_o {q : Nat} (h : q < 2147483648) : ix (Int32.ofNat q) = q := i_idx h
theorem m1_neg : (-1 : Int32) < 0 := by decide
theorem o_nneg {q : Nat} (h : q < 2147483648) : ¬ Int32.ofNat q < 0 := i_pos h
/-- a price that there is isn't -1 -/
theorem pr_m1 (hB : HB D H) (hG : Gd D) {p : Nat} (hp : p < cn D 1) (hc : D 4 p ≤ allM D H p) : ∃ q, q ≤ 100000 ∧ 1 ≤ q ∧ pr D H p = Int32.ofNat q ∧ nt (D 4 p) ≤ shN (cn D 2) (mv D H p) (wv D p) q ∧ ∀ k, k < q → shN (cn D 2) (mv D H p) (wv D p) k < nt (D 4 p) := by
  obtain ⟨c1, c2, c3⟩ := cost_N hG hp
  obtain ⟨s1, s2⟩ := allM_N hB hG p
  have hle : nt (D 4 p) ≤ sN (cn D 2) (mv D H p) := by
    have h := hc
    rw [c3, s2, i_le (by omega) (by omega)] at h
    exact h
  have hw : ∀ v, v < cn D 2 → wv D p v = 0 → mv D H p v = 0 := fun v hv h0 => w0_m0 hG hv h0
  have top := shN_top hw hle
  obtain ⟨q, hq1, hq2⟩ : ∃ q, nt (D 4 p) ≤ shN (cn D 2) (mv D H p) (wv D p) q ∧ ∀ k, k < q → ¬ nt (D 4 p) ≤ shN (cn D 2) (mv D H p) (wv D p) k := by
    have key : ∀ n, (∃ q, q ≤ n ∧ nt (D 4 p) ≤ shN (cn D 2) (mv D H p) (wv D p) q) → ∃ q, nt (D 4 p) ≤ shN (cn D 2) (mv D H p) (wv D p) q ∧ ∀ k, k < q → ¬ nt (D 4 p) ≤ shN (cn D 2) (mv D H p) (wv D p) k := by
      intro n
      induction n with
      | zero =>
        rintro ⟨q, h1, h2⟩
        exact ⟨q, h2, fun k hk => by omega⟩
      | succ n ih =>
        rintro ⟨q, h1, h2⟩
        by_cases h3 : ∃ q, q ≤ n ∧ nt (D 4 p) ≤ shN (cn D 2) (mv D H p) (wv D p) q
        · exact ih h3
        · exact ⟨q, h2, fun k hk h4 => h3 ⟨k, by omega, h4⟩⟩
    exact key _ ⟨_, Nat.le_refl _, top⟩
  refine ⟨q, ?_, ?_, ?_, hq1, fun k hk => Nat.lt_of_not_le (hq2 k hk)⟩
  · rcases Nat.lt_or_ge (nt (D 4 p)) q with z | z
    · exact absurd top (hq2 _ z)
    · omega
  · rcases Nat.eq_zero_or_pos q with z | z
    · exfalso
      rw [z] at hq1
      have e3 : shN (cn D 2) (mv D H p) (wv D p) 0 = 0 := sN_0 fun v hv => by rw [Nat.zero_mul]; exact Nat.min_zero _
      omega
    · exact z
  · unfold pr
    rw [if_pos hc, lq_eq (P := fun q => nt (D 4 p) ≤ shN (cn D 2) (mv D H p) (wv D p) q) hq1 hq2]
theorem o_ne_m1 {q : Nat} (h : q < 2147483648) : Int32.ofNat q ≠ -1 := fun z => by
  have := o_nneg h
  rw [z] at this
  exact this m1_neg
variable {M : Mem} {r b : Nat}
theorem f_bet (h : IsRs M r) (hBl : IsB M b D) {l e k : Nat} (hl : l < cn D 1) (he : e < cn D 1) (hk : k < 13) : f_X6_isBetter M r b (Int32.ofNat l) (Int32.ofNat e) (Int32.ofNat k) = some (b2i (bet D (mI M (r + 53 + l) k) (mI M (r + 53 + e) k) l e)) := by
  have l1 := hBl.n.2.2.1
  have e9 := hBl.a9 (i := 0) (by omega)
  unfold f_X6_isBetter bet bp
  rw [z9]
  simp only [h.r3, bs, h.q3 (show l < 12 by omega), h.q3 (show e < 12 by omega), h.a3 (show l < 12 by omega) hk, h.a3 (show e < 12 by omega) hk, ltq, hBl.s.r9, e9, hBl.s.r4, hBl.a4 hl, hBl.a4 he, is_, hBl.s.r11, hBl.a11 hl, hBl.a11 he]
  rw [show Int32.ofNat 0 = 0 from rfl]
  simp only [b2i_01, b2i_10, isB1]
  generalize (if D 9 0 = 0 then ((mI M (r + 53 + l) k).toInt64, (mI M (r + 53 + e) k).toInt64) else ((mI M (r + 53 + l) k).toInt64 * (D 4 e).toInt64, (mI M (r + 53 + e) k).toInt64 * (D 4 l).toInt64)) = z
  by_cases h1 : lg_cmp z.1 z.2 < 0
  · simp [h1, isB, b2i]
  · by_cases h2 : lg_cmp z.1 z.2 = 0
    · simp [h2, isBb]
    · simp [h1, h2, isB, b2i]
theorem f_choose (h : IsRs M r) (hBl : IsB M b D) (hb : b + 12 ≤ r ∨ r + 68 ≤ b) (hG : Gd D) (hT : Tl D) (hB : HB D H) (hH : ∀ v, v < cn D 2 → ∀ d, d < cn D 0 → mI M (r + 2 + v) d = H v d) (hch : mI M r 8 = ch) {k : Nat} (hk : k < 13) : ok (f_X6_choose M r b (Int32.ofNat k)) (fun o => o.1 = chs D H ch ∧ Fi (r + 53) (r + 68) M o.2 ∧ (∀ j, mI o.2 (r + 65) j = mI M (r + 65) j) ∧ ∀ p, p < 12 → ∀ j, mI o.2 (r + 53 + p) j = if j = k ∧ p < cn D 1 then prc D H ch p else mI M (r + 53 + p) j) := by
  have l1 := hG.n.2.2.1
  unfold f_X6_choose
  rw [ltq]
  refine it_r (I := fun i (u : Int32 × Int32 × Mem) => u.1 = chN D H ch i ∧ u.2.1 = Int32.ofNat i ∧ Fi (r + 53) (r + 68) M u.2.2 ∧ (∀ j, mI u.2.2 (r + 65) j = mI M (r + 65) j) ∧ ∀ p, p < 12 → ∀ j, mI u.2.2 (r + 53 + p) j = if j = k ∧ p < i then prc D H ch p else mI M (r + 53 + p) j) (cn D 1) ⟨rfl, rfl, Fi.rf, fun _ => rfl, fun p _ j => by rw [if_neg (by omega)]⟩ hG.n.m1 ?_ ?_
  · rintro rec i ⟨x, y, M'⟩ hi ⟨rfl, rfl, hF, h65, h53⟩ hrec
    dsimp only at hF h65 h53
    have hBl1 := hBl.fi hF (by omega)
    have hr1 := h.fi hF
    have hch1 : mI M' r 8 = ch := by rw [hF.i (by omega)]; exact hch
    have hH1 : ∀ v, v < cn D 2 → ∀ d, d < cn D 0 → mI M' (r + 2 + v) d = H v d := fun v hv d hd => by
      have := hG.n.2.2.2
      rw [hF.i (by omega)]; exact hH v hv d hd
    unfold bd_X6_choose_5
    simp only [hBl1.g1, bs, ile_n hi hG.n.l1, hr1.g, hch1, f_has8, b2i_ite, hr1.c]
    have cont : ∀ M2 : Mem, Fi (r + 66) (r + 68) M' M2 → ok (gFR M2 r 6 3 >>= fun (r11 : Nat) => aR M2 r11 (Int32.ofNat i) >>= fun (r12 : Nat) => wI M2 r12 (Int32.ofNat k) (prc D H ch i) >>= fun (M13 : Mem) => (if prc D H ch i = (-1) then (some (chN D H ch i)) else (if chN D H ch i < 0 then (some (Int32.ofNat i)) else (ck M13 r 6 >>= fun _ => f_X6_isBetter M13 r b (Int32.ofNat i) (chN D H ch i) (Int32.ofNat k) >>= fun (o15 : Int32) => if o15 = 0 then (some (chN D H ch i)) else (some (Int32.ofNat i))))) >>= fun (j14 : Int32) => rec (j14, Int32.ofNat i + 1, M13)) (fun o => o.1 = chs D H ch ∧ Fi (r + 53) (r + 68) M o.2 ∧ (∀ j, mI o.2 (r + 65) j = mI M (r + 65) j) ∧ ∀ p, p < 12 → ∀ j, mI o.2 (r + 53 + p) j = if j = k ∧ p < cn D 1 then prc D H ch p else mI M (r + 53 + p) j) := by
      intro M2 F2
      have hr2 := hr1.fi F2
      have l3 : i < 12 := by omega
      have F3 : Fi (r + 53) (r + 68) M2 (sI M2 (r + 53 + i) k (prc D H ch i)) := Fi.sI ⟨by omega, by omega⟩
      have hr3 := hr2.fi F3
      have FT : Fi (r + 53) (r + 68) M (sI M2 (r + 53 + i) k (prc D H ch i)) := hF.trans ((F2.wide (by omega) (by omega)).trans F3)
      have hBl3 := hBl.fi FT (by omega)
      have n65 : ∀ j, mI (sI M2 (r + 53 + i) k (prc D H ch i)) (r + 65) j = mI M (r + 65) j := fun j => by
        rw [i_sI, if_neg (by omega), F2.i (by omega)]; exact h65 j
      have n53 : ∀ p, p < 12 → ∀ j, mI (sI M2 (r + 53 + i) k (prc D H ch i)) (r + 53 + p) j = if j = k ∧ p < i + 1 then prc D H ch p else mI M (r + 53 + p) j := fun p hp j => by
        rw [i_sI]
        by_cases e : p = i ∧ j = k
        · obtain ⟨rfl, rfl⟩ := e
          rw [if_pos ⟨rfl, rfl⟩, if_pos ⟨rfl, by omega⟩]
        · rw [if_neg (by omega), F2.i (by omega), h53 p hp j]
          by_cases e2 : j = k ∧ p < i
          · rw [if_pos e2, if_pos (by omega)]
          · rw [if_neg e2, if_neg (by omega)]
      simp only [hr2.r3, bs, hr2.q3 l3, hr2.w3 l3 hk, hr3.c, i_succ]
      generalize hM3 : sI M2 (r + 53 + i) k (prc D H ch i) = M3 at *
      have fin : ok (rec (chF D H ch i (chN D H ch i), Int32.ofNat (i + 1), M3)) (fun o => o.1 = chs D H ch ∧ Fi (r + 53) (r + 68) M o.2 ∧ (∀ j, mI o.2 (r + 65) j = mI M (r + 65) j) ∧ ∀ p, p < 12 → ∀ j, mI o.2 (r + 53 + p) j = if j = k ∧ p < cn D 1 then prc D H ch p else mI M (r + 53 + p) j) := hrec _ ⟨rfl, rfl, FT, n65, n53⟩
      by_cases c1 : prc D H ch i = -1
      · rw [if_pos c1, bs]
        unfold chF at fin
        rw [if_pos c1] at fin
        exact fin
      · rw [if_neg c1]
        rcases chN_in (D := D) (H := H) (ch := ch) i with e | ⟨q, hq, e, e2⟩
        · unfold chF at fin
          rw [if_neg c1, e, if_pos m1_neg] at fin
          rw [e, if_pos m1_neg, bs]
          exact fin
        · unfold chF at fin
          rw [if_neg c1, e, if_neg (o_nneg (by omega)), ix_o (by omega)] at fin
          have pI : mI M3 (r + 53 + i) k = prc D H ch i := by rw [n53 i l3 k, if_pos ⟨rfl, by omega⟩]
          have pQ : mI M3 (r + 53 + q) k = prc D H ch q := by rw [n53 q (by omega) k, if_pos ⟨rfl, by omega⟩]
          have hbt := f_bet hr3 hBl3 (l := i) (e := q) hi (by omega) hk
          rw [pI, pQ] at hbt
          rw [e, if_neg (o_nneg (by omega)), hbt]
          simp only [bs, b2i_ite, is_]
          exact fin
    by_cases c1 : hs ch (Int32.ofNat i) = true
    · have e : prc D H ch i = -1 := by unfold prc; rw [if_pos c1]
      rw [if_pos c1, bs, if_pos rfl, bs]
      have := cont M' Fi.rf
      rw [e] at this
      exact this
    · rw [if_neg c1]
      refine ok.bind (ok.seq (f_weigh hr1 hBl1 hb hG hT hH1 hi) ?_)
      rintro ⟨w, M2⟩ ⟨hw, F2, hst⟩
      dsimp only at hw F2 hst
      have hBl2 := hBl1.fi F2 (by omega)
      have hr2 := hr1.fi F2
      simp only [hBl2.s.r4, bs, hBl2.a4 hi]
      by_cases c2 : w < D 4 i
      · have e : prc D H ch i = -1 := by
          unfold prc pr
          rw [if_neg c1, if_neg]
          intro z
          rw [hw] at c2
          rw [lt_i] at c2
          rw [le_i] at z
          omega
        rw [if_pos c2]
        refine ok.pure ?_
        dsimp only
        rw [if_pos rfl, bs]
        have := cont M2 F2
        rw [e] at this
        exact this
      · have hc : D 4 i ≤ allM D H i := by
          rw [hw, lt_i] at c2
          rw [le_i]
          omega
        have e : prc D H ch i = Int32.ofNat (lq fun q => nt (D 4 i) ≤ shN (cn D 2) (mv D H i) (wv D i) q) := by
          unfold prc pr
          rw [if_neg c1, if_pos hc]
        rw [if_neg c2]
        refine ok.pure ?_
        dsimp only
        rw [if_neg (by decide), hr2.c, bs]
        refine ok.bind (ok.seq (f_lp hr2 hBl2 hG hT hB hi hst hc) ?_)
        rintro x rfl
        rw [← e]
        exact ok.pure (cont M2 F2)
  · rintro rec ⟨x, y, M'⟩ ⟨rfl, rfl, hF, h65, h53⟩
    dsimp only at hF h65 h53
    have hBl1 := hBl.fi hF (by omega)
    unfold bd_X6_choose_5
    simp only [hBl1.g1, bs, ile_e]
    exact ok.pure ⟨rfl, hF, h65, h53⟩
end
