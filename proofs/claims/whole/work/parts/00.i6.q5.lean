/-! ===== questions of the rules: joys, the order of funding ===== -/
section
variable {M M' : Mem} {x m bb sb : Nat} {D : Bl}
theorem tk_gc (hD : Cn D) (w : Int32) (s : Gst) (n : Nat) : gc (tk D w s n).2 ≤ gc s + n := by
  induction n with
  | zero => exact Nat.le_refl _
  | succ n ih =>
    rw [tk_s]
    unfold tkS
    split
    · omega
    · dsimp only
      split
      · omega
      · show gc (tk D w s n).2 + 1 ≤ _
        omega
theorem grd_gc (hD : Cn D) : gc (grd D) ≤ 12 := by
  have l1 := hD.2.2.1
  have := tk_gc hD (vo D) (g0 (D 2)) (cn D 1)
  have e : gc (g0 (D 2)) = 0 := rfl
  have e2 : gc (grd D) = gc (tk D (vo D) (g0 (D 2)) (cn D 1)).2 := rfl
  omega
theorem cmp_gc (hD : Cn D) : gc (cmp D) ≤ 12 := by
  have l1 := hD.2.2.1
  unfold cmp
  split
  · have := tk_gc hD (vo D &&& (sh_ (eqs D) ^^^ (-1))) (g0 (cpL D (eqs D))) (cn D 1)
    have e : gc (g0 (cpL D (eqs D))) = 0 := rfl
    omega
  · exact Nat.zero_le _
theorem sub_in {k : Int32} {s g : Nat} (hs_ : s ≤ 12) (hg : g ≤ 12) (h : ¬ inx k s) : inx (k - Int32.ofNat s) g ↔ inx k (s + g) := by
  have r := fb_rng k
  unfold inx at h ⊢
  rw [le_i, lt_i] at h ⊢
  rw [le_i, lt_i, i_toInt (by omega)]
  rw [i_toInt (by omega)] at h ⊢
  have z : (0 : Int32).toInt = 0 := rfl
  rw [z] at h ⊢
  have e : (k - Int32.ofNat s).toInt = if k.toInt - s < -2147483648 then k.toInt - s + 4294967296 else k.toInt - s := by
    rw [Int32.toInt_sub, i_toInt (by omega)]
    unfold Int.bmod
    dsimp only
    split <;> split <;> omega
  rw [e]
  split <;> omega
theorem isIx_in (M : Mem) (i : Int32) (n : Nat) [Decidable (inx i n)] : f_X8_isIndex M i (Int32.ofNat n) = some (b2i (decide (inx i n))) := by
  rw [f_isIx]
  exact congrArg (fun z => some (b2i z)) (decide_eq_decide.mpr Iff.rfl)
noncomputable def fat (D : Bl) (r k : Int32) : Int32 := by
  classical exact if r = 0 then (if inx k (sc (eqs D) + gc (cmp D)) then (if ix k < sc (eqs D) then sQ (eqs D) (ix k) else gQ (cmp D) (ix k - sc (eqs D))) else -1) else if r = 1 then (if inx k (gc (grd D)) then gQ (grd D) (ix k) else -1) else if r = 2 then eat (bst D 0) k else -2
theorem f_X2at {g : Nat} {s : Gst} (h : IsGr M g) (hC : GC M g D s) (hc : gc s ≤ 12) (k : Int32) [Decidable (inx k (gc s))] : f_X2_chosenAt M g k = some (if inx k (gc s) then gQ s (ix k) else -1) := by
  unfold f_X2_chosenAt
  simp only [h.gi, bs, hC.2.2.2.1, isIx_in, b2i_ite]
  by_cases c : inx k (gc s)
  · obtain ⟨n, hn, rfl⟩ := ix_of (by omega) c
    rw [decide_eq_true c, if_pos rfl, if_pos c]
    simp only [h.r2, bs, h.a2 (show n < 12 by omega), hC.2.2.1 n hn]
    rw [ix_o (by omega)]
  · rw [decide_eq_false c, if_neg (by decide), if_neg c]
    rfl
theorem c_fundedAt (h : CQ M x bb sb D) (hG : Gd D) (hT : Tl D) (r k : Int32) : ok (f_X8_fundedAt M x r k) (RetC x bb sb D M (fat D r k)) := by
  classical
  have g1 := grd_gc hG.n
  have g2 := cmp_gc hG.n
  have l1 := hG.n.2.2.1
  obtain ⟨-, -, -, -, hc⟩ := eqs_ok hG
  unfold f_X8_fundedAt fat
  rw [show Int32.ofNat 0 = (0 : Int32) from rfl, show Int32.ofNat 1 = (1 : Int32) from rfl, show Int32.ofNat 2 = (2 : Int32) from rfl]
  by_cases h0 : r = 0
  · rw [if_pos h0, if_pos h0, h.1.c, bs]
    refine ok.seq (f_eNow h hG hT) ?_
    rintro ⟨o, M1⟩ ⟨rfl, C1, h1, E1⟩
    dsimp only at C1 h1 E1 ⊢
    obtain ⟨ra, rb, a1, a2, a3, -⟩ := E1
    have R : RC M1 ra D (eqs D) := a2.1
    unfold f_X1_chosenAt
    simp only [a1.c, bs, a1.r0, a1.a.g, R.2.2.2.2.1, isIx_in, b2i_ite, a1.r2, a1.g.c]
    by_cases c : inx k (sc (eqs D))
    · obtain ⟨n, hn, rfl⟩ := ix_of (by omega) c
      rw [decide_eq_true c, if_pos rfl]
      simp only [a1.a.r4, bs, a1.a.a4 (show n < 12 by omega), R.2.2.2.1 n hn]
      refine ok.pure ⟨?_, C1, h1⟩
      have c2 : inx (Int32.ofNat n) (sc (eqs D) + gc (cmp D)) := ix_in (by omega) (by omega)
      rw [if_pos c2, ix_o (by omega), if_pos hn]
    · rw [decide_eq_false c, if_neg (by decide)]
      simp only [f_X2at a1.g a3 g2, bs]
      refine ok.pure ⟨?_, C1, h1⟩
      dsimp only
      by_cases c2 : inx k (sc (eqs D) + gc (cmp D))
      · rw [if_pos ((sub_in (by omega) g2 c).mpr c2), if_pos c2]
        obtain ⟨n, hn, rfl⟩ := ix_of (by omega) c2
        have hge : sc (eqs D) ≤ n := by
          rcases Nat.lt_or_ge n (sc (eqs D)) with z | z
          · exact absurd (ix_in (by omega) z) c
          · exact z
        rw [ix_o (by omega), if_neg (by omega), i_sub hge, ix_o (by omega)]
      · rw [if_neg (fun z => c2 ((sub_in (by omega) g2 c).mp z)), if_neg c2]
  · rw [if_neg h0, if_neg h0]
    by_cases h1' : r = 1
    · rw [if_pos h1', if_pos h1', h.1.c, bs]
      refine ok.seq (f_gNow h hG) ?_
      rintro ⟨o, M1⟩ ⟨rfl, C1, h1, E1⟩
      dsimp only at C1 h1 E1 ⊢
      have g := h1.2.2.2.2.2.1
      rw [g.c, bs, f_X2at g E1 g1, bs]
      exact ok.pure ⟨rfl, C1, h1⟩
    · rw [if_neg h1', if_neg h1']
      by_cases h2' : r = 2
      · rw [if_pos h2', if_pos h2', h.1.c, bs]
        refine ok.seq (f_bNow h) ?_
        rintro ⟨o, M1⟩ ⟨q, C1, h1⟩
        dsimp only at q C1 h1 ⊢
        rw [q, f_eat, bs]
        exact ok.pure ⟨rfl, C1, h1⟩
      · rw [if_neg h2', if_neg h2']
        exact ok.pure ⟨rfl, Cq.rf, h⟩
theorem ctB_fd {B : Int32} {k : Nat} : ∀ n, k < ctB B n → ∃ p, p < n ∧ hs B (Int32.ofNat p) = true ∧ ctB B p = k := by
  intro n
  induction n with
  | zero => exact fun h => absurd h (Nat.not_lt_zero k)
  | succ n ih =>
    intro h
    have e : ctB B (n + 1) = ctB B n + if hs B (Int32.ofNat n) = true then 1 else 0 := rfl
    rcases Nat.lt_or_ge k (ctB B n) with c | c
    · obtain ⟨p, a, b, d⟩ := ih c
      exact ⟨p, by omega, b, d⟩
    · by_cases z : hs B (Int32.ofNat n) = true
      · rw [if_pos z] at e
        exact ⟨n, by omega, z, by omega⟩
      · rw [if_neg z] at e
        omega
theorem eat_ct (hG : Gd D) (k : Int32) [Decidable (inx k (ctB (bst D 0) (cn D 1)))] : eat (bst D 0) k = if inx k (ctB (bst D 0) (cn D 1)) then eat (bst D 0) k else -1 := by
  have l1 := hG.n.2.2.1
  by_cases c : inx k (ctB (bst D 0) (cn D 1))
  · rw [if_pos c]
  · rw [if_neg c]
    refine eat_no fun p hp hb e => c ?_
    have hp2 : p < cn D 1 := SS_hi hG 2 p (by omega) (by rw [SS_2]; exact hb)
    have hu := ctB_up (bst D 0) hp2 hb
    have := ctB_le (bst D 0) (cn D 1)
    rw [e]
    exact ix_in (by omega) hu
theorem q_at (h : IsM M m D) {n : Nat} (hn : n ≤ 24) {f : Nat → Int32} (h31 : mI M m 31 = Int32.ofNat n) (hl : n ≤ 12) (hf : ∀ k, k < n → mI M (m + 12) k = f k) (k : Int32) [Decidable (inx k n)] : (gFI M m 9 31 >>= fun (x3 : Int32) => f_X9_inRange M k 0 (x3 - 1) >>= fun (o4 : Int32) => (if o4 = 0 then (some (-1)) else (gFR M m 9 32 >>= fun (r6 : Nat) => aI M r6 k >>= fun (x7 : Int32) => some x7)) >>= fun (j5 : Int32) => some (j5, M)) = some (if inx k n then f (ix k) else -1, M) := by
  rw [h.s.gi, bs, h31, m_inR, bs, b2i_ite]
  by_cases c : inx k n
  · obtain ⟨q, hq, rfl⟩ := ix_of (by omega) c
    rw [decide_eq_true ((inR_n (by omega)).mpr c), if_pos rfl, if_pos c]
    simp only [h.s.r32, bs, h.s.a32 (show q < 12 by omega), hf q hq]
    rw [ix_o (by omega)]
  · rw [decide_eq_false (fun z => c ((inR_n (by omega)).mp z)), if_neg (by decide), if_neg c]
    rfl
end
