/-! ===== the reference's equal shares ===== -/
section
variable {M : Mem} {m : Nat} {D : Bl}
theorem vo_sub (hG : Gd D) (ch : Int32) : (vo D &&& (ch ^^^ (-1)) = 0) ↔ ∀ p, p < cn D 1 → ¬ D 11 p ≤ 0 → hs ch (Int32.ofNat p) = true := by
  have l1 := hG.n.2.2.1
  constructor
  · intro h p hp hv
    have e := hs_and (x := vo D) (y := ch ^^^ (-1)) (show p < 32 by omega)
    rw [h, hs_0 (by omega), hs_not (by omega), hs_vo hG.n (by omega), decide_eq_true hp, decide_eq_false hv] at e
    cases hc : hs ch (Int32.ofNat p)
    · rw [hc] at e; exact Bool.noConfusion e
    · rfl
  · intro h
    refine hs_ext fun i hi => ?_
    rw [hs_and hi, hs_not hi, hs_vo hG.n hi, hs_0 hi]
    by_cases c : i < cn D 1
    · by_cases c2 : D 11 i ≤ 0
      · rw [decide_eq_true c2]; simp
      · rw [h i c c2]; simp
    · rw [decide_eq_false c]; rfl
theorem m_allF (h : IsM M m D) (hG : Gd D) (hT : Tl D) {ch : Int32} (hch : mI M m 30 = ch) : f_X9_allFunded M m = some (b2i (decide (vo D &&& (ch ^^^ (-1)) = 0))) := by
  have l1 := hG.n.2.2.1
  refine eq_ok ?_
  unfold f_X9_allFunded
  refine it_r (I := fun p (u : Int32) => u = Int32.ofNat p ∧ ∀ o, o < p → ¬ D 11 o ≤ 0 → hs ch (Int32.ofNat o) = true) (cn D 1) ⟨rfl, fun o ho => absurd ho (Nat.not_lt_zero o)⟩ hG.n.m1 ?_ ?_
  · rintro rec p u hp ⟨rfl, hz⟩ hrec
    unfold bd_X9_allFunded_2
    simp only [h.g6, bs, ile_n hp h.n.l1, h.s.c, m_vt h hp, h.s.gi, hch, f_has9, b2i_ite, i_succ]
    refine ok.ite (fun c => ?_) (fun c => ?_)
    · exact hrec _ ⟨rfl, fun o ho hv => by
        by_cases e : o = p
        · subst e; rw [hT.2] at hv; exact absurd c hv
        · exact hz o (by omega) hv⟩
    · refine ok.ite (fun c2 => ?_) (fun c2 => ?_)
      · exact hrec _ ⟨rfl, fun o ho hv => by
          by_cases e : o = p
          · subst e; exact c2
          · exact hz o (by omega) hv⟩
      · rw [isB0]
        refine ok.pure ?_
        rw [decide_eq_false (fun z => c2 ((vo_sub hG ch).mp z p hp (by rw [hT.2]; exact c)))]
  · rintro rec u ⟨rfl, hz⟩
    unfold bd_X9_allFunded_2
    simp only [h.g6, bs, ile_e, isB1]
    refine ok.pure ?_
    rw [decide_eq_true ((vo_sub hG ch).mpr hz)]
theorem m_over (h : IsM M m D) {s : Rst} (hS : ∀ d, d < 4 → mI M (m + 16) d = sm 12 fun p => sT s p d) : f_X9_isOverpaid M m = some (b2i (ov D s)) := by
  have l0 := h.n.2.1
  refine eq_ok ?_
  unfold f_X9_isOverpaid
  refine it_r (I := fun d (u : Int32) => u = Int32.ofNat d ∧ ovN D s d = false) (cn D 0) ⟨rfl, rfl⟩ h.n.m0 ?_ ?_
  · rintro rec d u hd ⟨rfl, h0⟩ hrec
    have g := h.s.a36 (i := d) (by omega)
    rw [hS d (by omega)] at g
    unfold bd_X9_isOverpaid_2
    simp only [h.g5, bs, ile_n hd h.n.l0, h.s.r36, g, h.s.r0, h.d2 hd]
    refine ok.ite (fun c => ?_) (fun c => ?_)
    · rw [i_succ]
      exact hrec _ ⟨rfl, by rw [ovN_s, h0, decide_eq_true c]; rfl⟩
    · have h1 : ovN D s (d + 1) = true := by rw [ovN_s, h0, decide_eq_false c]; rfl
      have h2 := ovN_up h1 (cn D 0 - (d + 1))
      rw [show d + 1 + (cn D 0 - (d + 1)) = cn D 0 by omega] at h2
      rw [isB1]
      refine ok.pure ?_
      unfold ov
      rw [h2]
  · rintro rec u ⟨rfl, h0⟩
    unfold bd_X9_isOverpaid_2
    simp only [h.g5, bs, ile_e, isB0]
    refine ok.pure ?_
    unfold ov
    rw [h0]
/-- rounds alone, as a greedy state with nothing in it -/
theorem MRC.g {s : Rst} {pm : Nat → Int32} (hD : Cn D) (h : MRC M m D s pm) : MG M m D s (g0 (cpL D s)) := by
  have l0 := hD.2.1
  obtain ⟨RH, RP, RT, RS, RQ, Rc, Rch, Rp⟩ := h
  refine ⟨fun d hd => by rw [RS d (by omega)]; rfl, fun p hp d hd => by rw [RT p hp d hd]; exact (Int32.add_zero _).symm, fun k hk => ?_, Rc, by rw [Rch]; exact Int32.or_zero.symm⟩
  have hk' : k < sc s := hk
  rw [if_pos hk']; exact RQ k hk'
/-- what the reference's equal shares leave -/
noncomputable def epm (D : Bl) : Nat → Int32 := pmk D (rsr D (eqk D)) 12
def MEQ (M : Mem) (m : Nat) (D : Bl) : Prop := MH M m D (sH (eqs D)) ∧ (∀ p, p < 12 → ∀ v, v < cn D 2 → mI M (m + 14) (24 * p + v) = sP (eqs D) p v) ∧ (∀ p, p < 12 → mI M (m + 13) p = epm D p) ∧ MG M m D (eqs D) (cmp D) ∧ mI M m 38 = sh_ (rs D 0) ∧ mI M m 39 = Int32.ofNat (eqk D)
theorem rk12 (hG : Gd D) {k : Nat} (hk : k ≤ 60) : rk D (rsr D k) 12 = rs D k := by
  have l1 := hG.n.2.2.1
  obtain ⟨t1, t2, t3, t4, t5⟩ := rt_ok hG (step_bd hG hk).1
  exact t5 12 (by omega)
theorem eqk_le (D : Bl) : eqk D ≤ 60 := by
  have : ∀ n, rzN D n ≤ 60 := by
    intro n
    induction n with
    | zero => exact Nat.zero_le _
    | succ n ih =>
      rw [rzN_s]
      unfold gzS
      split
      · omega
      · exact ih
  unfold eqk
  split
  · exact this 60
  · exact Nat.zero_le _
theorem m_equal (h : IsM M m D) (hG : Gd D) (hT : Tl D) (hL : mI M m 37 = 12) : ok (f_X9_equal M m) (fun M' => Mg m M M' ∧ MEQ M' m D) := by
  have l0 := hG.n.2.1
  have l1 := hG.n.2.2.1
  have rs0 : rsr D 0 = Int32.ofNat 0 := by unfold rsr; rw [Nat.zero_mul]
  unfold f_X9_equal
  simp only [h.s.c, bs]
  refine ok.seq (m_rounds (L := 12) (x := 0) h hG hT hL (by omega) (by omega)) ?_
  rintro M1 ⟨F1, R1⟩
  rw [← rs0, rk12 hG (by omega)] at R1
  have h1 := h.mf F1
  have F2 : Mg m M1 (sI M1 m 38 (sh_ (rs D 0))) := Mg.sI _ (by omega)
  have h2 := h1.mg F2
  have F3 : Mg m (sI M1 m 38 (sh_ (rs D 0))) (sI (sI M1 m 38 (sh_ (rs D 0))) m 39 0) := Mg.sI _ (by omega)
  have h3 := h2.mg F3
  have a9 : aI (sI (sI M1 m 38 (sh_ (rs D 0))) m 39 0) (m + 1) 1 = some (D 9 1) := h3.d9 (i := 1) (by omega)
  have e30 : mI M1 m 30 = sh_ (rs D 0) := R1.2.2.2.2.2.2.1
  simp only [h1.s.gi, e30, bs, h1.s.p, h2.s.p, h3.s.r0, a9]
  have F13 : Mg m M _ := F1.g.trans (F2.trans F3)
  have i3 : ∀ x j, (x ≠ m ∨ (j ≠ 38 ∧ j ≠ 39)) → mI (sI (sI M1 m 38 (sh_ (rs D 0))) m 39 0) x j = mI M1 x j := fun x j hx => by
    rw [i_sI, if_neg (by omega), i_sI, if_neg (by omega)]
  have j38 : mI (sI (sI M1 m 38 (sh_ (rs D 0))) m 39 0) m 38 = sh_ (rs D 0) := by rw [i_sI, if_neg (by omega), i_sI, if_pos ⟨rfl, rfl⟩]
  have j39 : mI (sI (sI M1 m 38 (sh_ (rs D 0))) m 39 0) m 39 = Int32.ofNat 0 := by rw [i_sI, if_pos ⟨rfl, rfl⟩]; rfl
  have R3 : MRC (sI (sI M1 m 38 (sh_ (rs D 0))) m 39 0) m D (rs D 0) (pmk D (rsr D 0) 12) := by
    obtain ⟨a, b, c, d, e, f, g, k⟩ := R1
    exact ⟨fun v hv d hd => by rw [i3 _ _ (by omega)]; exact a v hv d hd, fun p hp v hv => by rw [i3 _ _ (by omega)]; exact b p hp v hv, fun p hp d hd => by rw [i3 _ _ (by omega)]; exact c p hp d hd, fun d' hd => by rw [i3 _ _ (by omega)]; exact d d' hd, fun k hk => by rw [i3 _ _ (by omega)]; exact e k hk, by rw [i3 _ _ (by omega)]; exact f, by rw [i3 _ _ (by omega)]; exact g, fun p hp => by rw [i3 _ _ (by omega)]; exact k p hp⟩
  generalize sI (sI M1 m 38 (sh_ (rs D 0))) m 39 0 = M3 at *
  -- the end without a completion of the greedy kind
  have fin : ∀ (M' : Mem), Mg m M M' → D 9 1 ≠ 1 → MRC M' m D (eqs D) (epm D) → mI M' m 38 = sh_ (rs D 0) → mI M' m 39 = Int32.ofNat (eqk D) → Mg m M M' ∧ MEQ M' m D := by
    intro M' F' c R' q38 q39
    have hc : cmp D = g0 (cpL D (eqs D)) := by unfold cmp; rw [if_neg c]
    exact ⟨F', R'.1, R'.2.1, R'.2.2.2.2.2.2.2, by rw [hc]; exact R'.g hG.n, q38, q39⟩
  by_cases c1 : D 9 1 = 1
  · have ek : eqk D = 0 := by unfold eqk; rw [if_neg (by rw [c1]; decide)]
    have es : eqs D = rs D 0 := by unfold eqs; rw [ek]
    have hI : Iv D (rs D 0) := by unfold rs; rw [rs0]; exact rk_Iv hG (by omega) _
    have hZ : Zs (rs D 0) := by unfold rs; rw [rs0]; exact rk_Z hG (by omega) _
    rw [if_pos c1]
    simp only [h3.s.c, bs]
    refine ok.bind (ok.seq (m_greedily h3 hG hT hI hZ (R3.g hG.n)) ?_)
    rintro M4 ⟨F4, hx, q38, q39, G4⟩
    refine ok.pure ?_
    have h4 := h3.mf F4
    have a94 : aI M4 (m + 1) 1 = some (D 9 1) := h4.d9 (i := 1) (by omega)
    simp only [h4.s.r0, bs, a94]
    rw [if_neg (by rw [c1]; decide)]
    refine ok.pure ⟨F13.trans F4.g, fun v hv d hd => by rw [hx _ (by omega), es]; exact R3.1 v hv d hd, fun p hp v hv => by rw [hx _ (by omega), es]; exact R3.2.1 p hp v hv, fun p hp => ?_, ?_, by rw [q38]; exact j38, by rw [q39, ek]; exact j39⟩
    · rw [hx _ (by omega)]
      unfold epm
      rw [ek]
      exact R3.2.2.2.2.2.2.2 p hp
    · unfold cmp
      rw [if_pos c1, es]
      exact G4
  · rw [if_neg c1, bs]
    simp only [h3.s.r0, bs, a9]
    by_cases c2 : D 9 1 = 2
    · rw [if_pos c2]
      simp only [h3.s.c, bs, m_allF h3 hG hT R3.2.2.2.2.2.2.1, b2i_ite, is_]
      refine it_r (I := fun j (u : Int32 × Mem) => rzN D j = j ∧ u.1 = (if vo D &&& (sh_ (rs D j) ^^^ (-1)) = 0 then 0 else 1) ∧ Mg m M u.2 ∧ MRC u.2 m D (rs D j) (pmk D (rsr D j) 12) ∧ mI u.2 m 38 = sh_ (rs D 0) ∧ mI u.2 m 39 = Int32.ofNat j) 60 ⟨rfl, by simp only [decide_eq_true_eq], F13, R3, j38, j39⟩ (by omega) ?_ ?_
      · rintro rec j ⟨y, M4⟩ hj ⟨hz, hy, F4, R4, q38, q39⟩ hrec
        dsimp only at hy F4 R4 q38 q39
        have h4 := h.mg F4
        have e37 : mI M4 m 37 = 12 := by rw [F4.fld (by omega)]; exact hL
        have stop : gzS D j = j → eqk D = j := fun hs => by
          unfold eqk
          rw [if_pos c2]
          have := rzN_stop hz hs (60 - j)
          rw [show j + (60 - j) = 60 by omega] at this
          exact this
        unfold bd_X9_equal_56
        dsimp only
        rw [hy]
        by_cases ca : vo D &&& (sh_ (rs D j) ^^^ (-1)) = 0
        · rw [if_pos ca, if_pos rfl]
          have ek : eqk D = j := stop (by unfold gzS; rw [if_neg (fun q => q.2.1 ca)])
          refine ok.pure (fin M4 F4 c1 ?_ q38 (by rw [ek]; exact q39))
          unfold eqs epm
          rw [ek]
          exact R4
        · rw [if_neg ca, if_neg (by decide)]
          obtain ⟨sb, se⟩ := step_bd hG (show j + 1 ≤ 60 by omega)
          obtain ⟨sb0, -⟩ := step_bd hG (show j ≤ 60 by omega)
          have a92 : aI M4 (m + 1) 2 = some (D 9 2) := h4.d9 (i := 2) (by omega)
          rw [se] at a92
          have hraise : Int32.ofNat (j + 1) * Int32.ofNat (nt (D 9 2)) = Int32.ofNat ((j + 1) * nt (D 9 2)) := i_mul _ _
          have t1 : ¬ (60 : Int32) ≤ Int32.ofNat j := by
            rw [show (60 : Int32) = Int32.ofNat 60 from rfl, i_le (by omega) (by omega)]; omega
          simp only [h4.s.gi, q39, bs, if_neg t1, h4.s.r0, a92, h4.s.c, i_succ, hraise]
          refine ok.seq (m_rounds (L := 12) (x := (j + 1) * nt (D 9 2)) h4 hG hT e37 (by omega) sb) ?_
          rintro M5 ⟨F5, R5⟩
          have R5' : MRC M5 m D (rs D (j + 1)) (pmk D (rsr D (j + 1)) 12) := by
            rw [← rk12 hG (by omega)]
            exact R5
          have h5 := h4.mf F5
          have F05 : Mg m M M5 := F4.trans F5.g
          have j38' : mI M5 m 38 = sh_ (rs D 0) := by rw [F5.fld (by omega)]; exact q38
          have j39' : mI M5 m 39 = Int32.ofNat j := by rw [F5.fld (by omega)]; exact q39
          simp only [h5.s.c, bs, m_over h5 R5'.2.2.2.1, b2i_ite]
          by_cases co : ov D (rs D (j + 1)) = true
          · have ek : eqk D = j := stop (by
              unfold gzS
              rw [if_neg (fun q => by rw [q.2.2] at co; exact Bool.noConfusion co)])
            obtain ⟨-, se0⟩ := step_bd hG (show j ≤ 60 by omega)
            have a95 : aI M5 (m + 1) 2 = some (D 9 2) := h5.d9 (i := 2) (by omega)
            rw [se0] at a95
            have hr2 : Int32.ofNat j * Int32.ofNat (nt (D 9 2)) = Int32.ofNat (j * nt (D 9 2)) := i_mul _ _
            have e375 : mI M5 m 37 = 12 := by rw [F5.fld (by omega)]; exact e37
            rw [if_pos co]
            simp only [h5.s.gi, j39', bs, h5.s.r0, a95, h5.s.c, hr2]
            refine ok.seq (m_rounds (L := 12) (x := j * nt (D 9 2)) h5 hG hT e375 (by omega) sb0) ?_
            rintro M6 ⟨F6, R6⟩
            have R6' : MRC M6 m D (rs D j) (pmk D (rsr D j) 12) := by
              rw [← rk12 hG (by omega)]
              exact R6
            refine ok.pure (fin M6 (F05.trans F6.g) c1 ?_ (by rw [F6.fld (by omega)]; exact j38') (by rw [F6.fld (by omega), ek]; exact j39'))
            unfold eqs epm
            rw [ek]
            exact R6'
          · rw [if_neg co]
            rw [Bool.not_eq_true] at co
            have F6 : Mg m M5 (sI M5 m 39 (Int32.ofNat (j + 1))) := Mg.sI _ (by omega)
            have h6 := h5.mg F6
            have k3 : ∀ x i, (x ≠ m ∨ i ≠ 39) → mI (sI M5 m 39 (Int32.ofNat (j + 1))) x i = mI M5 x i := fun x i hx => by rw [i_sI, if_neg (by omega)]
            have R6 : MRC (sI M5 m 39 (Int32.ofNat (j + 1))) m D (rs D (j + 1)) (pmk D (rsr D (j + 1)) 12) := by
              obtain ⟨a, b, c, d, e, f, g, k⟩ := R5'
              exact ⟨fun v hv d hd => by rw [k3 _ _ (by omega)]; exact a v hv d hd, fun p hp v hv => by rw [k3 _ _ (by omega)]; exact b p hp v hv, fun p hp d hd => by rw [k3 _ _ (by omega)]; exact c p hp d hd, fun d' hd => by rw [k3 _ _ (by omega)]; exact d d' hd, fun k hk => by rw [k3 _ _ (by omega)]; exact e k hk, by rw [k3 _ _ (by omega)]; exact f, by rw [k3 _ _ (by omega)]; exact g, fun p hp => by rw [k3 _ _ (by omega)]; exact k p hp⟩
            simp only [h5.s.gi, j39', bs, i_succ, h5.s.p, h6.s.c, m_allF h6 hG hT R6.2.2.2.2.2.2.1, b2i_ite, is_]
            refine hrec _ ⟨?_, ?_, F05.trans F6, R6, by show mI (sI M5 m 39 _) m 38 = _; rw [k3 _ _ (by omega)]; exact j38', by show mI (sI M5 m 39 _) m 39 = _; rw [i_sI, if_pos ⟨rfl, rfl⟩]⟩
            · rw [rzN_s, hz]
              unfold gzS
              rw [if_pos ⟨hj, ca, co⟩]
            · simp only [decide_eq_true_eq]
      · rintro rec ⟨y, M4⟩ ⟨hz, hy, F4, R4, q38, q39⟩
        dsimp only at hy F4 R4 q38 q39
        have h4 := h.mg F4
        have ek : eqk D = 60 := by unfold eqk; rw [if_pos c2]; exact hz
        have fin2 := fin M4 F4 c1 (by unfold eqs epm; rw [ek]; exact R4) q38 (by rw [ek]; exact q39)
        have t1 : (60 : Int32) ≤ Int32.ofNat 60 := Int32.le_refl _
        unfold bd_X9_equal_56
        dsimp only
        simp only [h4.s.gi, q39, bs, if_pos t1]
        refine ok.ite (fun _ => ok.pure fin2) (fun _ => ok.pure fin2)
    · rw [if_neg c2]
      have ek : eqk D = 0 := by unfold eqk; rw [if_neg c2]
      refine ok.pure (fin M3 F13 c1 ?_ j38 (by rw [ek]; exact j39))
      unfold eqs epm
      rw [ek]
      exact R3
end
