/-! ===== the reference's rounds ===== -/
section
variable {M : Mem} {m : Nat} {D : Bl}
theorem m_clear (h : IsMo M m) : ok (f_X9_clearResult M m) (fun M' => Mf m M M' ∧ mI M' m 30 = 0 ∧ mI M' m 31 = 0 ∧ (∀ p, p < 12 → mI M' (m + 13) p = -1) ∧ (∀ i, i < 288 → mI M' (m + 14) i = 0) ∧ (∀ i, i < 48 → mI M' (m + 15) i = 0) ∧ ∀ i, i < 4 → mI M' (m + 16) i = 0) := by
  unfold f_X9_clearResult
  have h1 : IsMo (sI M m 30 0) m := h
  simp only [h.p, bs, h1.p]
  have F0 : Mf m M (sI (sI M m 30 0) m 31 0) := (Mf.sI _ (by omega)).trans (Mf.sI _ (by omega))
  have z30 : mI (sI (sI M m 30 0) m 31 0) m 30 = 0 := by rw [i_sI, if_neg (by omega), i_sI, if_pos ⟨rfl, rfl⟩]
  have z31 : mI (sI (sI M m 30 0) m 31 0) m 31 = 0 := by rw [i_sI, if_pos ⟨rfl, rfl⟩]
  generalize sI (sI M m 30 0) m 31 0 = M0 at *
  refine it_r (I := fun i (u : Int32 × Mem) => u.1 = Int32.ofNat i ∧ Fi (m + 13) (m + 14) M0 u.2 ∧ ∀ k, k < i → mI u.2 (m + 13) k = -1) 12 ⟨rfl, Fi.rf, fun k hk => absurd hk (Nat.not_lt_zero k)⟩ (by omega) ?_ ?_
  · rintro rec i ⟨y, M'⟩ hi ⟨rfl, F, z⟩ hrec
    dsimp only at F z
    have h2 := (h.mf F0).fi F
    unfold bd_X9_clearResult_12
    simp only [show (12 : Int32) = Int32.ofNat 12 from rfl, ile_n hi (show 12 < 2147483648 by omega), h2.r33, bs, h2.w33 hi, i_succ]
    refine hrec _ ⟨rfl, F.trans (Fi.sI ⟨by omega, by omega⟩), fun k hk => ?_⟩
    show mI (sI M' _ _ _) (m + 13) k = _
    rw [i_sI]
    by_cases e : k = i
    · rw [if_pos ⟨rfl, e⟩]
    · rw [if_neg (by omega)]; exact z k (by omega)
  rintro rec ⟨y, M3⟩ ⟨rfl, F3, z3⟩
  dsimp only at F3 z3
  unfold bd_X9_clearResult_12
  simp only [show (12 : Int32) = Int32.ofNat 12 from rfl, ile_e]
  refine it_r (I := fun i (u : Int32 × Mem) => u.1 = Int32.ofNat i ∧ Fi (m + 14) (m + 15) M3 u.2 ∧ ∀ k, k < i → mI u.2 (m + 14) k = 0) 288 ⟨rfl, Fi.rf, fun k hk => absurd hk (Nat.not_lt_zero k)⟩ (by omega) ?_ ?_
  · rintro rec i ⟨y, M'⟩ hi ⟨rfl, F, z⟩ hrec
    dsimp only at F z
    have h2 := ((h.mf F0).fi F3).fi F
    unfold bd_X9_clearResult_33
    simp only [show (288 : Int32) = Int32.ofNat 288 from rfl, ile_n hi (show 288 < 2147483648 by omega), h2.r34, bs, h2.w34 hi, i_succ]
    refine hrec _ ⟨rfl, F.trans (Fi.sI ⟨by omega, by omega⟩), fun k hk => ?_⟩
    show mI (sI M' _ _ _) (m + 14) k = _
    rw [i_sI]
    by_cases e : k = i
    · rw [if_pos ⟨rfl, e⟩]
    · rw [if_neg (by omega)]; exact z k (by omega)
  rintro rec ⟨y, M4⟩ ⟨rfl, F4, z4⟩
  dsimp only at F4 z4
  unfold bd_X9_clearResult_33
  simp only [show (288 : Int32) = Int32.ofNat 288 from rfl, ile_e]
  refine it_r (I := fun i (u : Int32 × Mem) => u.1 = Int32.ofNat i ∧ Fi (m + 15) (m + 16) M4 u.2 ∧ ∀ k, k < i → mI u.2 (m + 15) k = 0) 48 ⟨rfl, Fi.rf, fun k hk => absurd hk (Nat.not_lt_zero k)⟩ (by omega) ?_ ?_
  · rintro rec i ⟨y, M'⟩ hi ⟨rfl, F, z⟩ hrec
    dsimp only at F z
    have h2 := (((h.mf F0).fi F3).fi F4).fi F
    unfold bd_X9_clearResult_55
    simp only [show (48 : Int32) = Int32.ofNat 48 from rfl, ile_n hi (show 48 < 2147483648 by omega), h2.r35, bs, h2.w35 hi, i_succ]
    refine hrec _ ⟨rfl, F.trans (Fi.sI ⟨by omega, by omega⟩), fun k hk => ?_⟩
    show mI (sI M' _ _ _) (m + 15) k = _
    rw [i_sI]
    by_cases e : k = i
    · rw [if_pos ⟨rfl, e⟩]
    · rw [if_neg (by omega)]; exact z k (by omega)
  rintro rec ⟨y, M5⟩ ⟨rfl, F5, z5⟩
  dsimp only at F5 z5
  unfold bd_X9_clearResult_55
  simp only [show (48 : Int32) = Int32.ofNat 48 from rfl, ile_e]
  refine it_r (I := fun i (u : Int32 × Mem) => u.1 = Int32.ofNat i ∧ Fi (m + 16) (m + 17) M5 u.2 ∧ ∀ k, k < i → mI u.2 (m + 16) k = 0) 4 ⟨rfl, Fi.rf, fun k hk => absurd hk (Nat.not_lt_zero k)⟩ (by omega) ?_ ?_
  · rintro rec i ⟨y, M'⟩ hi ⟨rfl, F, z⟩ hrec
    dsimp only at F z
    have h2 := ((((h.mf F0).fi F3).fi F4).fi F5).fi F
    unfold bd_X9_clearResult_76
    simp only [show (4 : Int32) = Int32.ofNat 4 from rfl, ile_n hi (show 4 < 2147483648 by omega), h2.r36, bs, h2.w36 hi, i_succ]
    refine hrec _ ⟨rfl, F.trans (Fi.sI ⟨by omega, by omega⟩), fun k hk => ?_⟩
    show mI (sI M' _ _ _) (m + 16) k = _
    rw [i_sI]
    by_cases e : k = i
    · rw [if_pos ⟨rfl, e⟩]
    · rw [if_neg (by omega)]; exact z k (by omega)
  rintro rec ⟨y, M6⟩ ⟨rfl, F6, z6⟩
  dsimp only at F6 z6
  unfold bd_X9_clearResult_76
  simp only [show (4 : Int32) = Int32.ofNat 4 from rfl, ile_e]
  refine ok.pure ⟨F0.trans ((Mf.of F3 (by omega) (by omega)).trans ((Mf.of F4 (by omega) (by omega)).trans ((Mf.of F5 (by omega) (by omega)).trans (Mf.of F6 (by omega) (by omega))))), ?_, ?_, fun p hp => ?_, fun i hi => ?_, fun i hi => ?_, fun i hi => z6 i hi⟩
  · rw [F6.i (by omega), F5.i (by omega), F4.i (by omega), F3.i (by omega)]; exact z30
  · rw [F6.i (by omega), F5.i (by omega), F4.i (by omega), F3.i (by omega)]; exact z31
  · rw [F6.i (by omega), F5.i (by omega), F4.i (by omega)]; exact z3 p hp
  · rw [F6.i (by omega), F5.i (by omega)]; exact z4 i hi
  · rw [F6.i (by omega)]; exact z5 i hi
/-- the prices of those funded in the first k rounds -/
noncomputable def pmk (D : Bl) (x : Int32) (k : Nat) : Nat → Int32 := fo (fun j f => if nxp D (rk D x j) < 0 then f else fun o => if o = ix (nxp D (rk D x j)) then pri D (rk D x j) (ix (nxp D (rk D x j))) else f o) k (fun _ => -1)
theorem pmk_s (x : Int32) (k : Nat) : pmk D x (k + 1) = if nxp D (rk D x k) < 0 then pmk D x k else fun o => if o = ix (nxp D (rk D x k)) then pri D (rk D x k) (ix (nxp D (rk D x k))) else pmk D x k o := rfl
theorem pmk_stop (hG : Gd D) {r : Nat} (hr : r ≤ 60000) {k : Nat} (h : nxp D (rk D (Int32.ofNat r) k) < 0) (j : Nat) : pmk D (Int32.ofNat r) (k + j) = pmk D (Int32.ofNat r) k := by
  induction j with
  | zero => rfl
  | succ j ih => rw [← Nat.add_assoc, pmk_s, rk_stop hG hr h j, if_pos h, ih]
/-- the first L rounds with a raise -/
theorem m_rounds (h : IsM M m D) (hG : Gd D) (hT : Tl D) {L x : Nat} (hL : mI M m 37 = Int32.ofNat L) (hL2 : L ≤ 12) (hx : x ≤ 60000) : ok (f_X9_rounds M m (Int32.ofNat x)) (fun M' => Mf m M M' ∧ MRC M' m D (rk D (Int32.ofNat x) L) (pmk D (Int32.ofNat x) L)) := by
  have l0 := hG.n.2.1
  have l1 := hG.n.2.2.1
  have l2 := hG.n.2.2.2
  obtain ⟨t1, t2, t3, t4, t5⟩ := rt_ok hG hx
  unfold f_X9_rounds
  simp only [h.s.c, bs]
  refine ok.seq (m_clear h.s) ?_
  rintro M1 ⟨F1, c30, c31, c13, c14, c15, c16⟩
  have h1 := h.mf F1
  simp only [h1.s.c, bs]
  refine ok.seq (m_fill h1 hG (Int32.ofNat x)) ?_
  rintro M2 ⟨F2, cH⟩
  have F12 : Mf m M M2 := F1.trans (Mf.of F2 (by omega) (by omega))
  have R0 : MRC M2 m D (rk D (Int32.ofNat x) 0) (pmk D (Int32.ofNat x) 0) := ⟨cH, fun p hp v hv => by rw [F2.i (by omega)]; exact c14 _ (by omega), fun p hp d hd => by rw [F2.i (by omega)]; exact c15 _ (by omega), fun d hd => by
    rw [F2.i (by omega), c16 d hd]
    rfl, fun k hk => absurd hk (Nat.not_lt_zero k), by rw [F2.i (by omega)]; exact c31, by rw [F2.i (by omega)]; exact c30, fun p hp => by rw [F2.i (by omega)]; exact c13 p hp⟩
  refine ok.itF (fun u : Int32 × Mem => ∃ k, Mf m M u.2 ∧ MRC u.2 m D (rk D (Int32.ofNat x) k) (pmk D (Int32.ofNat x) k) ∧ ((¬ u.1 < 0 ∧ k ≤ L ∧ k ≤ rt D (Int32.ofNat x)) ∨ (u.1 < 0 ∧ rk D (Int32.ofNat x) k = rk D (Int32.ofNat x) L ∧ pmk D (Int32.ofNat x) k = pmk D (Int32.ofNat x) L))) (fun u => if u.1 < 0 then 0 else 20 - nt (mI u.2 m 31)) ⟨0, F12, R0, Or.inl ⟨by show ¬ (0 : Int32) < 0; decide, Nat.zero_le _, Nat.zero_le _⟩⟩ (by split <;> omega) ?_
  rintro rec ⟨f, M3⟩ ⟨k, F3, R3, hk⟩ hrec
  dsimp only at F3 R3 hk
  have h3 := h.mf F3
  have e37 : mI M3 m 37 = Int32.ofNat L := by rw [F3.fld (by omega)]; exact hL
  unfold bd_X9_rounds_11
  rcases hk with ⟨hf, hkL, hkt⟩ | ⟨hf, e1, e2⟩
  · have e31 : mI M3 m 31 = Int32.ofNat k := by rw [R3.2.2.2.2.2.1, t4 k hkt]
    have e30 : mI M3 m 30 = sh_ (rk D (Int32.ofNat x) k) := R3.2.2.2.2.2.2.1
    have hI := rk_Iv hG hx k
    dsimp only
    simp only [if_neg hf, h3.s.gi, e31, e37, bs]
    by_cases c : k = L
    · subst c
      rw [if_pos (by rw [i_le (by omega) (by omega)]; omega)]
      exact ok.pure ⟨F3, R3⟩
    · rw [if_neg (by rw [i_le (by omega) (by omega)]; omega), ltq, m_scan h3 hG hT hI.1 R3.1 e30]
      rw [show chs D (sH (rk D (Int32.ofNat x) k)) (sh_ (rk D (Int32.ofNat x) k)) = nxp D (rk D (Int32.ofNat x) k) from rfl]
      dsimp only
      have hm : (if f < 0 then 0 else 20 - nt (mI M3 m 31)) = 20 - k := by rw [if_neg hf, e31, nt_o (by omega)]
      rcases nxp_ok hG hI with e | ⟨p, q, hp, e, e2, hQ, hn⟩
      · rw [e, if_pos m1_neg, bs]
        refine hrec _ ⟨k, F3, R3, Or.inr ⟨m1_neg, ?_, ?_⟩⟩ ?_
        · have := rk_stop hG hx (by rw [e]; exact m1_neg) (L - k)
          rw [show k + (L - k) = L by omega] at this
          exact this.symm
        · have := pmk_stop hG hx (by rw [e]; exact m1_neg) (L - k)
          rw [show k + (L - k) = L by omega] at this
          exact this.symm
        · rw [if_pos m1_neg]
          dsimp only
          rw [hm]
          omega
      · have hlt : k < rt D (Int32.ofNat x) := by
          rcases Nat.lt_or_ge k (rt D (Int32.ofNat x)) with z | z
          · exact z
          · have : k = rt D (Int32.ofNat x) := by omega
            rw [← this, e] at t3
            exact absurd t3 (o_nneg (by omega))
        have hstp : rk D (Int32.ofNat x) (k + 1) = fu D (rk D (Int32.ofNat x) k) p (Int32.ofNat q) := by
          rw [rk_s]
          unfold stp
          rw [if_neg (by rw [e]; exact o_nneg (by omega)), e, ix_o (by omega), e2]
        have hpm : pmk D (Int32.ofNat x) (k + 1) = fun o => if o = p then Int32.ofNat q else pmk D (Int32.ofNat x) k o := by
          rw [pmk_s, if_neg (by rw [e]; exact o_nneg (by omega)), e, ix_o (by omega), e2]
        have el : lsv D (sH (rk D (Int32.ofNat x) k)) (sh_ (rk D (Int32.ofNat x) k)) (Int32.ofNat p) = Int32.ofNat q := by
          unfold lsv
          rw [if_neg (o_nneg (by omega)), ix_o (by omega)]
          exact e2
        rw [e, if_neg (o_nneg (by omega)), el, h3.s.c, bs]
        refine ok.bind (ok.seq (m_fund h3 hG hT R3 hI.1 (rk_Z hG hx k) hp hn hQ (by rw [t4 k hkt]; omega)) ?_)
        rintro M4 ⟨F4, R4⟩
        refine ok.pure (hrec _ ⟨k + 1, F3.trans F4, by rw [hstp, hpm]; exact R4, Or.inl ⟨o_nneg (by omega), by omega, hlt⟩⟩ ?_)
        rw [if_neg (o_nneg (by omega))]
        dsimp only
        rw [hm, R4.2.2.2.2.2.1]
        show 20 - nt (Int32.ofNat (sc (rk D (Int32.ofNat x) k) + 1)) < _
        rw [t4 k hkt, nt_o (by omega)]
        omega
  · dsimp only
    rw [if_pos hf]
    exact ok.pure ⟨F3, by rw [← e1, ← e2]; exact R3⟩
end
